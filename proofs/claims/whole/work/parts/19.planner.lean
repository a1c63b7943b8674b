/-! ===== decode rows and walks between cut points, by program (wip/gen/mk10.py) ===== -/
theorem dX9_append_0 : decode cX9_append 0 = .ok (.aload_n 0, 1) := by decide +kernel
theorem dX9_append_1 : decode cX9_append 1 = .ok (.getfield 10, 3) := by decide +kernel
theorem dX9_append_4 : decode cX9_append 4 = .ok (.getfield 81, 3) := by decide +kernel
theorem dX9_append_7 : decode cX9_append 7 = .ok (.sipush 380, 3) := by decide +kernel
theorem dX9_append_10 : decode cX9_append 10 = .ok (.if_icmp .le 13, 3) := by decide +kernel
theorem dX9_append_13 : decode cX9_append 13 = .ok (.new 85, 3) := by decide +kernel
theorem dX9_append_16 : decode cX9_append 16 = .ok (.dup, 1) := by decide +kernel
theorem dX9_append_17 : decode cX9_append 17 = .ok (.ldc 87, 2) := by decide +kernel
theorem dX9_append_19 : decode cX9_append 19 = .ok (.invokespecial 89, 3) := by decide +kernel
theorem dX9_append_22 : decode cX9_append 22 = .ok (.athrow, 1) := by decide +kernel
theorem dX9_append_23 : decode cX9_append 23 = .ok (.aload_n 0, 1) := by decide +kernel
theorem dX9_append_24 : decode cX9_append 24 = .ok (.getfield 10, 3) := by decide +kernel
theorem dX9_append_27 : decode cX9_append 27 = .ok (.iload_n 1, 1) := by decide +kernel
theorem dX9_append_28 : decode cX9_append 28 = .ok (.invokevirtual 92, 3) := by decide +kernel
theorem dX9_append_31 : decode cX9_append 31 = .ok (.aload_n 0, 1) := by decide +kernel
theorem dX9_append_32 : decode cX9_append 32 = .ok (.getfield 10, 3) := by decide +kernel
theorem dX9_append_35 : decode cX9_append 35 = .ok (.iload_n 2, 1) := by decide +kernel
theorem dX9_append_36 : decode cX9_append 36 = .ok (.invokevirtual 92, 3) := by decide +kernel
theorem dX9_append_39 : decode cX9_append 39 = .ok (.aload_n 0, 1) := by decide +kernel
theorem dX9_append_40 : decode cX9_append 40 = .ok (.getfield 10, 3) := by decide +kernel
theorem dX9_append_43 : decode cX9_append 43 = .ok (.iload_n 3, 1) := by decide +kernel
theorem dX9_append_44 : decode cX9_append 44 = .ok (.invokevirtual 92, 3) := by decide +kernel
theorem dX9_append_47 : decode cX9_append 47 = .ok (.aload_n 0, 1) := by decide +kernel
theorem dX9_append_48 : decode cX9_append 48 = .ok (.getfield 10, 3) := by decide +kernel
theorem dX9_append_51 : decode cX9_append 51 = .ok (.iload 4, 2) := by decide +kernel
theorem dX9_append_53 : decode cX9_append 53 = .ok (.invokevirtual 92, 3) := by decide +kernel
theorem dX9_append_56 : decode cX9_append 56 = .ok (.aload_n 0, 1) := by decide +kernel
theorem dX9_append_57 : decode cX9_append 57 = .ok (.getfield 10, 3) := by decide +kernel
theorem dX9_append_60 : decode cX9_append 60 = .ok (.iload 5, 2) := by decide +kernel
theorem dX9_append_62 : decode cX9_append 62 = .ok (.invokevirtual 92, 3) := by decide +kernel
theorem dX9_append_65 : decode cX9_append 65 = .ok (.aload_n 0, 1) := by decide +kernel
theorem dX9_append_66 : decode cX9_append 66 = .ok (.getfield 10, 3) := by decide +kernel
theorem dX9_append_69 : decode cX9_append 69 = .ok (.getfield 81, 3) := by decide +kernel
theorem dX9_append_72 : decode cX9_append 72 = .ok (.ireturn, 1) := by decide +kernel
set_option maxRecDepth 20000 in
theorem bX9_append_0 {G : Gx} {mm : Nat → Nat → Int32} {lm : Nat → Int64} {x1 : Int32} {x2 : Int32} {x3 : Int32} {x4 : Int32} {x5 : Int32} {o : Ou} {z : Wd} {a b : Nat} (hw : (((mm 1 2) ≤ 380) → ∃ (m3 : Nat → Nat → Int32), Ct G M_X8_addWord [.ref 1, .int x1] (SH, mm, lm) false (.inl none) (SH, m3, lm) false 0 0 ∧ ∃ (m6 : Nat → Nat → Int32), Ct G M_X8_addWord [.ref 1, .int x2] (SH, m3, lm) false (.inl none) (SH, m6, lm) false 0 0 ∧ ∃ (m9 : Nat → Nat → Int32), Ct G M_X8_addWord [.ref 1, .int x3] (SH, m6, lm) false (.inl none) (SH, m9, lm) false 0 0 ∧ ∃ (m12 : Nat → Nat → Int32), Ct G M_X8_addWord [.ref 1, .int x4] (SH, m9, lm) false (.inl none) (SH, m12, lm) false 0 0 ∧ ∃ (m15 : Nat → Nat → Int32), Ct G M_X8_addWord [.ref 1, .int x5] (SH, m12, lm) false (.inl none) (SH, m15, lm) false 0 0 ∧ o = .inl (some (.int (m15 1 2))) ∧ z = (SH, m15, lm)) ∧ ((¬ (mm 1 2) ≤ 380) → o = .inr "java/lang/IllegalStateException" ∧ z = (SH, mm, lm) ∧ 1 ≤ a ∧ 6 ≤ b)) :
    J G M_X9_append 0 [(0, .ref 0), (1, .int x1), (2, .int x2), (3, .int x3), (4, .int x4), (5, .int x5)] [] (SH, mm, lm) false o z false a b := by
  refine J_aload_n rfl (i := 0) rfl dX9_append_0 ?_
  refine J_getr kls_9 (q := 0) (k := 0) sh_0 (by decide) rfl gw_429 dX9_append_1 ?_
  refine J_geti kls_8 (q := 1) (k := 2) sh_1 (by decide) rfl gw_148 dX9_append_4 ?_
  refine J_sipush (v := 380) (by decide) dX9_append_7 ?_
  refine J_icmp_le (tgt := 23) dX9_append_10 (by decide) (fun hb16 => ?_) (fun hb16 => ?_)
  · replace hw := hw.1 hb16
    refine J_aload_n rfl (i := 0) rfl dX9_append_23 ?_
    refine J_getr kls_9 (q := 0) (k := 0) sh_0 (by decide) rfl gw_429 dX9_append_24 ?_
    refine J_iload_n rfl (i := 1) rfl dX9_append_27 ?_
    obtain ⟨m3, hc1, hw⟩ := hw
    refine J_callV (as := [.int x1]) (k := 1) (st := []) cal_X8_addWord cai_X8_addWord gw_695 ⟨by decide, by decide⟩ cnt_X8_addWord sh_1 rfl rfl (Nat.le_of_ble_eq_true rfl) dX9_append_28 (Nat.zero_add _).symm (Nat.zero_add _).symm hc1 ?_
    refine J_aload_n rfl (i := 0) rfl dX9_append_31 ?_
    refine J_getr kls_9 (q := 0) (k := 0) sh_0 (by decide) rfl gw_429 dX9_append_32 ?_
    refine J_iload_n rfl (i := 2) rfl dX9_append_35 ?_
    obtain ⟨m6, hc4, hw⟩ := hw
    refine J_callV (as := [.int x2]) (k := 1) (st := []) cal_X8_addWord cai_X8_addWord gw_695 ⟨by decide, by decide⟩ cnt_X8_addWord sh_1 rfl rfl (Nat.le_of_ble_eq_true rfl) dX9_append_36 (Nat.zero_add _).symm (Nat.zero_add _).symm hc4 ?_
    refine J_aload_n rfl (i := 0) rfl dX9_append_39 ?_
    refine J_getr kls_9 (q := 0) (k := 0) sh_0 (by decide) rfl gw_429 dX9_append_40 ?_
    refine J_iload_n rfl (i := 3) rfl dX9_append_43 ?_
    obtain ⟨m9, hc7, hw⟩ := hw
    refine J_callV (as := [.int x3]) (k := 1) (st := []) cal_X8_addWord cai_X8_addWord gw_695 ⟨by decide, by decide⟩ cnt_X8_addWord sh_1 rfl rfl (Nat.le_of_ble_eq_true rfl) dX9_append_44 (Nat.zero_add _).symm (Nat.zero_add _).symm hc7 ?_
    refine J_aload_n rfl (i := 0) rfl dX9_append_47 ?_
    refine J_getr kls_9 (q := 0) (k := 0) sh_0 (by decide) rfl gw_429 dX9_append_48 ?_
    refine J_iload (i := 4) rfl dX9_append_51 ?_
    obtain ⟨m12, hc10, hw⟩ := hw
    refine J_callV (as := [.int x4]) (k := 1) (st := []) cal_X8_addWord cai_X8_addWord gw_695 ⟨by decide, by decide⟩ cnt_X8_addWord sh_1 rfl rfl (Nat.le_of_ble_eq_true rfl) dX9_append_53 (Nat.zero_add _).symm (Nat.zero_add _).symm hc10 ?_
    refine J_aload_n rfl (i := 0) rfl dX9_append_56 ?_
    refine J_getr kls_9 (q := 0) (k := 0) sh_0 (by decide) rfl gw_429 dX9_append_57 ?_
    refine J_iload (i := 5) rfl dX9_append_60 ?_
    obtain ⟨m15, hc13, hw⟩ := hw
    refine J_callV (as := [.int x5]) (k := 1) (st := []) cal_X8_addWord cai_X8_addWord gw_695 ⟨by decide, by decide⟩ cnt_X8_addWord sh_1 rfl rfl (Nat.le_of_ble_eq_true rfl) dX9_append_62 (Nat.zero_add _).symm (Nat.zero_add _).symm hc13 ?_
    refine J_aload_n rfl (i := 0) rfl dX9_append_65 ?_
    refine J_getr kls_9 (q := 0) (k := 0) sh_0 (by decide) rfl gw_429 dX9_append_66 ?_
    refine J_geti kls_8 (q := 1) (k := 2) sh_1 (by decide) rfl gw_148 dX9_append_69 ?_
    exact J_fini (ty := .int) rfl rfl dX9_append_72 hw
  · replace hw := hw.2 hb16
    obtain ⟨rfl, rfl, h1, h6⟩ := hw
    exact J_throwS rfl (by decide +kernel) (by decide +kernel) gw_628 gw_122 st_RX9_87 tha_RX9_89 thb_RX9_89 ca_RX9_89 (Nat.le_of_ble_eq_true rfl) (by decide) (by decide) h1 h6 dX9_append_13 dX9_append_16 dX9_append_17 dX9_append_19 dX9_append_22
theorem dX9_truncate_0 : decode cX9_truncate 0 = .ok (.iload_n 1, 1) := by decide +kernel
theorem dX9_truncate_1 : decode cX9_truncate 1 = .ok (.iconst 0, 1) := by decide +kernel
theorem dX9_truncate_2 : decode cX9_truncate 2 = .ok (.aload_n 0, 1) := by decide +kernel
theorem dX9_truncate_3 : decode cX9_truncate 3 = .ok (.getfield 10, 3) := by decide +kernel
theorem dX9_truncate_6 : decode cX9_truncate 6 = .ok (.getfield 81, 3) := by decide +kernel
theorem dX9_truncate_9 : decode cX9_truncate 9 = .ok (.invokestatic 96, 3) := by decide +kernel
theorem dX9_truncate_12 : decode cX9_truncate 12 = .ok (.aload_n 0, 1) := by decide +kernel
theorem dX9_truncate_13 : decode cX9_truncate 13 = .ok (.getfield 10, 3) := by decide +kernel
theorem dX9_truncate_16 : decode cX9_truncate 16 = .ok (.iload_n 1, 1) := by decide +kernel
theorem dX9_truncate_17 : decode cX9_truncate 17 = .ok (.putfield 81, 3) := by decide +kernel
theorem dX9_truncate_20 : decode cX9_truncate 20 = .ok (.iload_n 1, 1) := by decide +kernel
theorem dX9_truncate_21 : decode cX9_truncate 21 = .ok (.ireturn, 1) := by decide +kernel
set_option maxRecDepth 20000 in
theorem bX9_truncate_0 {G : Gx} {mm : Nat → Nat → Int32} {lm : Nat → Int64} {x1 : Int32} {o : Ou} {z : Wd} {a b : Nat} (hw : ((Ct G M_X9_requireRange [.int x1, .int 0, .int (mm 1 2)] (SH, mm, lm) false (.inl none) (SH, mm, lm) false 0 0 ∧ o = .inl (some (.int x1)) ∧ z = (SH, (mset mm 1 2 x1), lm)) ∨ (∃ (E4 : String), Ct G M_X9_requireRange [.int x1, .int 0, .int (mm 1 2)] (SH, mm, lm) false (.inr E4) (SH, mm, lm) false 1 6 ∧ o = .inr E4 ∧ z = (SH, mm, lm) ∧ 1 ≤ a ∧ 6 ≤ b))) :
    J G M_X9_truncate 0 [(0, .ref 0), (1, .int x1)] [] (SH, mm, lm) false o z false a b := by
  refine J_iload_n rfl (i := 1) rfl dX9_truncate_0 ?_
  refine J_iconst (v := 0) (by decide) dX9_truncate_1 ?_
  refine J_aload_n rfl (i := 0) rfl dX9_truncate_2 ?_
  refine J_getr kls_9 (q := 0) (k := 0) sh_0 (by decide) rfl gw_429 dX9_truncate_3 ?_
  refine J_geti kls_8 (q := 1) (k := 2) sh_1 (by decide) rfl gw_148 dX9_truncate_6 ?_
  rcases hw with ⟨hc1, hw⟩ | ⟨E4, hc1, rfl, rfl, h1, h6⟩
  · refine J_callS (as := [.int x1, .int 0, .int (mm 1 2)]) (st := []) cal_X9_requireRange cas_X9_requireRange gw_707 ⟨by decide, by decide⟩ cnt_X9_requireRange rfl (Nat.le_of_ble_eq_true rfl) dX9_truncate_9 (Nat.zero_add _).symm (Nat.zero_add _).symm hc1 ?_
    refine J_aload_n rfl (i := 0) rfl dX9_truncate_12 ?_
    refine J_getr kls_9 (q := 0) (k := 0) sh_0 (by decide) rfl gw_429 dX9_truncate_13 ?_
    refine J_iload_n rfl (i := 1) rfl dX9_truncate_16 ?_
    refine J_puti kls_8 (q := 1) (k := 2) sh_1 (by decide) rfl rfl (fun _ => rfl) (fun _ => rfl) gw_148 dX9_truncate_17 ?_
    refine J_iload_n rfl (i := 1) rfl dX9_truncate_20 ?_
    exact J_fini (ty := .int) rfl rfl dX9_truncate_21 hw
  · exact J_callSx (ht := rfl) (as := [.int x1, .int 0, .int (mm 1 2)]) (st := []) cal_X9_requireRange cas_X9_requireRange gw_707 ⟨by decide, by decide⟩ cnt_X9_requireRange rfl (Nat.le_of_ble_eq_true rfl) dX9_truncate_9 hc1 h1 h6
theorem dX9_load_0 : decode cX9_load 0 = .ok (.aload_n 0, 1) := by decide +kernel
theorem dX9_load_1 : decode cX9_load 1 = .ok (.getfield 10, 3) := by decide +kernel
theorem dX9_load_4 : decode cX9_load 4 = .ok (.aload_n 0, 1) := by decide +kernel
theorem dX9_load_5 : decode cX9_load 5 = .ok (.getfield 23, 3) := by decide +kernel
theorem dX9_load_8 : decode cX9_load 8 = .ok (.invokevirtual 100, 3) := by decide +kernel
theorem dX9_load_11 : decode cX9_load 11 = .ok (.istore_n 1, 1) := by decide +kernel
theorem dX9_load_12 : decode cX9_load 12 = .ok (.aload_n 0, 1) := by decide +kernel
theorem dX9_load_13 : decode cX9_load 13 = .ok (.getfield 10, 3) := by decide +kernel
theorem dX9_load_16 : decode cX9_load 16 = .ok (.iconst 0, 1) := by decide +kernel
theorem dX9_load_17 : decode cX9_load 17 = .ok (.putfield 81, 3) := by decide +kernel
theorem dX9_load_20 : decode cX9_load 20 = .ok (.iload_n 1, 1) := by decide +kernel
theorem dX9_load_21 : decode cX9_load 21 = .ok (.ifCond .eq 8, 3) := by decide +kernel
theorem dX9_load_24 : decode cX9_load 24 = .ok (.bipush (-10), 2) := by decide +kernel
theorem dX9_load_26 : decode cX9_load 26 = .ok (.iload_n 1, 1) := by decide +kernel
theorem dX9_load_27 : decode cX9_load 27 = .ok (.isub, 1) := by decide +kernel
theorem dX9_load_28 : decode cX9_load 28 = .ok (.ireturn, 1) := by decide +kernel
theorem dX9_load_29 : decode cX9_load 29 = .ok (.aload_n 0, 1) := by decide +kernel
theorem dX9_load_30 : decode cX9_load 30 = .ok (.getfield 19, 3) := by decide +kernel
theorem dX9_load_33 : decode cX9_load 33 = .ok (.aload_n 0, 1) := by decide +kernel
theorem dX9_load_34 : decode cX9_load 34 = .ok (.getfield 23, 3) := by decide +kernel
theorem dX9_load_37 : decode cX9_load 37 = .ok (.invokevirtual 104, 3) := by decide +kernel
theorem dX9_load_40 : decode cX9_load 40 = .ok (.iconst 0, 1) := by decide +kernel
theorem dX9_load_41 : decode cX9_load 41 = .ok (.istore_n 2, 1) := by decide +kernel
theorem dX9_load_42 : decode cX9_load 42 = .ok (.iload_n 2, 1) := by decide +kernel
theorem dX9_load_43 : decode cX9_load 43 = .ok (.bipush 8, 2) := by decide +kernel
theorem dX9_load_45 : decode cX9_load 45 = .ok (.if_icmp .ge 18, 3) := by decide +kernel
theorem dX9_load_48 : decode cX9_load 48 = .ok (.aload_n 0, 1) := by decide +kernel
theorem dX9_load_49 : decode cX9_load 49 = .ok (.getfield 28, 3) := by decide +kernel
theorem dX9_load_52 : decode cX9_load 52 = .ok (.iload_n 2, 1) := by decide +kernel
theorem dX9_load_53 : decode cX9_load 53 = .ok (.aaload, 1) := by decide +kernel
theorem dX9_load_54 : decode cX9_load 54 = .ok (.invokevirtual 108, 3) := by decide +kernel
theorem dX9_load_57 : decode cX9_load 57 = .ok (.iinc 2 1, 3) := by decide +kernel
theorem dX9_load_60 : decode cX9_load 60 = .ok (.goto (-18), 3) := by decide +kernel
theorem dX9_load_63 : decode cX9_load 63 = .ok (.aload_n 0, 1) := by decide +kernel
theorem dX9_load_64 : decode cX9_load 64 = .ok (.getfield 59, 3) := by decide +kernel
theorem dX9_load_67 : decode cX9_load 67 = .ok (.invokevirtual 111, 3) := by decide +kernel
theorem dX9_load_70 : decode cX9_load 70 = .ok (.aload_n 0, 1) := by decide +kernel
theorem dX9_load_71 : decode cX9_load 71 = .ok (.getfield 73, 3) := by decide +kernel
theorem dX9_load_74 : decode cX9_load 74 = .ok (.invokevirtual 114, 3) := by decide +kernel
theorem dX9_load_77 : decode cX9_load 77 = .ok (.aload_n 0, 1) := by decide +kernel
theorem dX9_load_78 : decode cX9_load 78 = .ok (.iconst 1, 1) := by decide +kernel
theorem dX9_load_79 : decode cX9_load 79 = .ok (.putfield 77, 3) := by decide +kernel
theorem dX9_load_82 : decode cX9_load 82 = .ok (.aload_n 0, 1) := by decide +kernel
theorem dX9_load_83 : decode cX9_load 83 = .ok (.getfield 19, 3) := by decide +kernel
theorem dX9_load_86 : decode cX9_load 86 = .ok (.getfield 117, 3) := by decide +kernel
theorem dX9_load_89 : decode cX9_load 89 = .ok (.ireturn, 1) := by decide +kernel
set_option maxRecDepth 20000 in
theorem bX9_load_0 {G : Gx} {mm : Nat → Nat → Int32} {lm : Nat → Int64}  {o : Ou} {z : Wd} {a b : Nat} (hw : ∃ (v2 : Int32) (m3 : Nat → Nat → Int32), Ct G M_X8_parse [.ref 1, .ref 13] (SH, mm, lm) false (.inl (some (.int v2))) (SH, m3, lm) false 0 0 ∧ ((v2 = 0) → ∃ (m6 : Nat → Nat → Int32), Ct G M_X7_copyFrom [.ref 4, .ref 13] (SH, (mset m3 1 2 0), lm) false (.inl none) (SH, m6, lm) false 0 0 ∧ J G M_X9_load 42 [(0, .ref 0), (2, .int 0)] [] (SH, m6, lm) false o z false a b) ∧ ((¬ v2 = 0) → o = .inl (some (.int ((-10) - v2))) ∧ z = (SH, (mset m3 1 2 0), lm))) :
    J G M_X9_load 0 [(0, .ref 0)] [] (SH, mm, lm) false o z false a b := by
  refine J_aload_n rfl (i := 0) rfl dX9_load_0 ?_
  refine J_getr kls_9 (q := 0) (k := 0) sh_0 (by decide) rfl gw_429 dX9_load_1 ?_
  refine J_aload_n rfl (i := 0) rfl dX9_load_4 ?_
  refine J_getr kls_9 (q := 0) (k := 2) sh_0 (by decide) rfl gw_431 dX9_load_5 ?_
  obtain ⟨v2, m3, hc1, hw⟩ := hw
  refine J_callV (as := [.ref 13]) (k := 1) (st := []) cal_X8_parse cai_X8_parse gw_467 ⟨by decide, by decide⟩ cnt_X8_parse sh_1 rfl rfl (Nat.le_of_ble_eq_true rfl) dX9_load_8 (Nat.zero_add _).symm (Nat.zero_add _).symm hc1 ?_
  refine J_istore_n [(1, .int v2), (0, .ref 0)] rfl (i := 1) (by decide) rfl dX9_load_11 ?_
  refine J_aload_n rfl (i := 0) rfl dX9_load_12 ?_
  refine J_getr kls_9 (q := 0) (k := 0) sh_0 (by decide) rfl gw_429 dX9_load_13 ?_
  refine J_iconst (v := 0) (by decide) dX9_load_16 ?_
  refine J_puti kls_8 (q := 1) (k := 2) sh_1 (by decide) rfl rfl (fun _ => rfl) (fun _ => rfl) gw_148 dX9_load_17 ?_
  refine J_iload_n rfl (i := 1) rfl dX9_load_20 ?_
  refine J_if_eq (tgt := 29) dX9_load_21 (by decide) (fun hb7 => ?_) (fun hb7 => ?_)
  · replace hw := hw.1 hb7
    refine J_aload_n rfl (i := 0) rfl dX9_load_29 ?_
    refine J_getr kls_9 (q := 0) (k := 1) sh_0 (by decide) rfl gw_430 dX9_load_30 ?_
    refine J_aload_n rfl (i := 0) rfl dX9_load_33 ?_
    refine J_getr kls_9 (q := 0) (k := 2) sh_0 (by decide) rfl gw_431 dX9_load_34 ?_
    obtain ⟨m6, hc4, hw⟩ := hw
    refine J_callV (as := [.ref 13]) (k := 4) (st := []) cal_X7_copyFrom cai_X7_copyFrom gw_591 ⟨by decide, by decide⟩ cnt_X7_copyFrom sh_4 rfl rfl (Nat.le_of_ble_eq_true rfl) dX9_load_37 (Nat.zero_add _).symm (Nat.zero_add _).symm hc4 ?_
    refine J_iconst (v := 0) (by decide) dX9_load_40 ?_
    refine J_istore_n [(2, .int 0), (1, .int v2), (0, .ref 0)] rfl (i := 2) (by decide) rfl dX9_load_41 ?_
    exact J_sub [2, 0] rfl hw
  · replace hw := hw.2 hb7
    refine J_bipush (v := (-10)) (by decide) dX9_load_24 ?_
    refine J_iload_n rfl (i := 1) rfl dX9_load_26 ?_
    refine J_isub dX9_load_27 ?_
    exact J_fini (ty := .int) rfl rfl dX9_load_28 hw
set_option maxRecDepth 20000 in
theorem bX9_load_42 {G : Gx} {mm : Nat → Nat → Int32} {lm : Nat → Int64} {x2 : Int32} {o : Ou} {z : Wd} {a b : Nat} (hw : ((8 ≤ x2) → ∃ (m3 : Nat → Nat → Int32), Ct G M_X1_markQuietMinutes [.ref 42] (SH, mm, lm) false (.inl none) (SH, m3, lm) false 0 0 ∧ ∃ (m6 : Nat → Nat → Int32), Ct G M_X3_forgetAll [.ref 48] (SH, m3, lm) false (.inl none) (SH, m6, lm) false 0 0 ∧ o = .inl (some (.int ((mset m6 0 10 1) 4 9))) ∧ z = (SH, (mset m6 0 10 1), lm)) ∧ ((¬ 8 ≤ x2) → ∃ j7 : Nat, x2 = nI j7 ∧ j7 < 8 ∧ ∃ (m10 : Nat → Nat → Int32), Ct G M_X0_reset [.ref (23 + j7)] (SH, mm, lm) false (.inl none) (SH, m10, lm) false 0 0 ∧ J G M_X9_load 42 [(0, .ref 0), (2, .int (x2 + 1))] [] (SH, m10, lm) false o z false a b)) :
    J G M_X9_load 42 [(0, .ref 0), (2, .int x2)] [] (SH, mm, lm) false o z false a b := by
  refine J_iload_n rfl (i := 2) rfl dX9_load_42 ?_
  refine J_bipush (v := 8) (by decide) dX9_load_43 ?_
  refine J_icmp_ge (tgt := 63) dX9_load_45 (by decide) (fun hb11 => ?_) (fun hb11 => ?_)
  · replace hw := hw.1 hb11
    refine J_aload_n rfl (i := 0) rfl dX9_load_63 ?_
    refine J_getr kls_9 (q := 0) (k := 7) sh_0 (by decide) rfl gw_436 dX9_load_64 ?_
    obtain ⟨m3, hc1, hw⟩ := hw
    refine J_callV (as := []) (k := 42) (st := []) cal_X1_markQuietMinutes cai_X1_markQuietMinutes gw_602 ⟨by decide, by decide⟩ cnt_X1_markQuietMinutes sh_42 rfl rfl (Nat.le_of_ble_eq_true rfl) dX9_load_67 (Nat.zero_add _).symm (Nat.zero_add _).symm hc1 ?_
    refine J_aload_n rfl (i := 0) rfl dX9_load_70 ?_
    refine J_getr kls_9 (q := 0) (k := 9) sh_0 (by decide) rfl gw_438 dX9_load_71 ?_
    obtain ⟨m6, hc4, hw⟩ := hw
    refine J_callV (as := []) (k := 48) (st := []) cal_X3_forgetAll cai_X3_forgetAll gw_612 ⟨by decide, by decide⟩ cnt_X3_forgetAll sh_48 rfl rfl (Nat.le_of_ble_eq_true rfl) dX9_load_74 (Nat.zero_add _).symm (Nat.zero_add _).symm hc4 ?_
    refine J_aload_n rfl (i := 0) rfl dX9_load_77 ?_
    refine J_iconst (v := 1) (by decide) dX9_load_78 ?_
    refine J_puti kls_9 (q := 0) (k := 10) sh_0 (by decide) rfl rfl (fun _ => rfl) (fun _ => rfl) gw_439 dX9_load_79 ?_
    refine J_aload_n rfl (i := 0) rfl dX9_load_82 ?_
    refine J_getr kls_9 (q := 0) (k := 1) sh_0 (by decide) rfl gw_430 dX9_load_83 ?_
    refine J_geti kls_7 (q := 4) (k := 9) sh_4 (by decide) rfl gw_212 dX9_load_86 ?_
    exact J_fini (ty := .int) rfl rfl dX9_load_89 hw
  · replace hw := hw.2 hb11
    refine J_aload_n rfl (i := 0) rfl dX9_load_48 ?_
    refine J_getr kls_9 (q := 0) (k := 3) sh_0 (by decide) rfl gw_432 dX9_load_49 ?_
    refine J_iload_n rfl (i := 2) rfl dX9_load_52 ?_
    obtain ⟨j7, ej7, hj7, hw⟩ := hw
    refine J_aald (r := 23 + j7) sh_22 ej7 hj7 (by decide) (if_pos hj7) dX9_load_53 ?_
    obtain ⟨m10, hc8, hw⟩ := hw
    refine J_callV (as := []) (k := (23 + j7)) (st := []) cal_X0_reset cai_X0_reset gw_598 ⟨by decide, by decide⟩ cnt_X0_reset (sh_b23 hj7) rfl rfl (Nat.le_of_ble_eq_true rfl) dX9_load_54 (Nat.zero_add _).symm (Nat.zero_add _).symm hc8 ?_
    refine J_iinc [(2, .int (x2 + 1)), (0, .ref 0)] (i := 2) (v := (x2 + 1)) rfl rfl (by decide) rfl dX9_load_57 ?_
    refine J_goto (tgt := 42) dX9_load_60 (by decide) ?_
    exact J_sub [1, 0] rfl hw
theorem dX9_errorPosition_0 : decode cX9_errorPosition 0 = .ok (.aload_n 0, 1) := by decide +kernel
theorem dX9_errorPosition_1 : decode cX9_errorPosition 1 = .ok (.getfield 10, 3) := by decide +kernel
theorem dX9_errorPosition_4 : decode cX9_errorPosition 4 = .ok (.getfield 119, 3) := by decide +kernel
theorem dX9_errorPosition_7 : decode cX9_errorPosition 7 = .ok (.ireturn, 1) := by decide +kernel
set_option maxRecDepth 20000 in
theorem bX9_errorPosition_0 {G : Gx} {mm : Nat → Nat → Int32} {lm : Nat → Int64}  {o : Ou} {z : Wd} {a b : Nat} (hw : o = .inl (some (.int (mm 1 3))) ∧ z = (SH, mm, lm)) :
    J G M_X9_errorPosition 0 [(0, .ref 0)] [] (SH, mm, lm) false o z false a b := by
  refine J_aload_n rfl (i := 0) rfl dX9_errorPosition_0 ?_
  refine J_getr kls_9 (q := 0) (k := 0) sh_0 (by decide) rfl gw_429 dX9_errorPosition_1 ?_
  refine J_geti kls_8 (q := 1) (k := 3) sh_1 (by decide) rfl gw_151 dX9_errorPosition_4 ?_
  exact J_fini (ty := .int) rfl rfl dX9_errorPosition_7 hw
theorem dX9_hang_0 : decode cX9_hang 0 = .ok (.aload_n 0, 1) := by decide +kernel
theorem dX9_hang_1 : decode cX9_hang 1 = .ok (.invokevirtual 122, 3) := by decide +kernel
theorem dX9_hang_4 : decode cX9_hang 4 = .ok (.aload_n 0, 1) := by decide +kernel
theorem dX9_hang_5 : decode cX9_hang 5 = .ok (.iload_n 1, 1) := by decide +kernel
theorem dX9_hang_6 : decode cX9_hang 6 = .ok (.invokevirtual 125, 3) := by decide +kernel
theorem dX9_hang_9 : decode cX9_hang 9 = .ok (.aload_n 0, 1) := by decide +kernel
theorem dX9_hang_10 : decode cX9_hang 10 = .ok (.iload_n 2, 1) := by decide +kernel
theorem dX9_hang_11 : decode cX9_hang 11 = .ok (.invokevirtual 128, 3) := by decide +kernel
theorem dX9_hang_14 : decode cX9_hang 14 = .ok (.iload_n 3, 1) := by decide +kernel
theorem dX9_hang_15 : decode cX9_hang 15 = .ok (.bipush (-15), 2) := by decide +kernel
theorem dX9_hang_17 : decode cX9_hang 17 = .ok (.bipush 15, 2) := by decide +kernel
theorem dX9_hang_19 : decode cX9_hang 19 = .ok (.invokestatic 96, 3) := by decide +kernel
theorem dX9_hang_22 : decode cX9_hang 22 = .ok (.aload_n 0, 1) := by decide +kernel
theorem dX9_hang_23 : decode cX9_hang 23 = .ok (.getfield 28, 3) := by decide +kernel
theorem dX9_hang_26 : decode cX9_hang 26 = .ok (.iload_n 1, 1) := by decide +kernel
theorem dX9_hang_27 : decode cX9_hang 27 = .ok (.aaload, 1) := by decide +kernel
theorem dX9_hang_28 : decode cX9_hang 28 = .ok (.invokevirtual 131, 3) := by decide +kernel
theorem dX9_hang_31 : decode cX9_hang 31 = .ok (.ifCond .eq 6, 3) := by decide +kernel
theorem dX9_hang_34 : decode cX9_hang 34 = .ok (.bipush (-2), 2) := by decide +kernel
theorem dX9_hang_36 : decode cX9_hang 36 = .ok (.ireturn, 1) := by decide +kernel
theorem dX9_hang_37 : decode cX9_hang 37 = .ok (.aload_n 0, 1) := by decide +kernel
theorem dX9_hang_38 : decode cX9_hang 38 = .ok (.getfield 38, 3) := by decide +kernel
theorem dX9_hang_41 : decode cX9_hang 41 = .ok (.iload_n 1, 1) := by decide +kernel
theorem dX9_hang_42 : decode cX9_hang 42 = .ok (.iload_n 2, 1) := by decide +kernel
theorem dX9_hang_43 : decode cX9_hang 43 = .ok (.iload_n 3, 1) := by decide +kernel
theorem dX9_hang_44 : decode cX9_hang 44 = .ok (.invokevirtual 135, 3) := by decide +kernel
theorem dX9_hang_47 : decode cX9_hang 47 = .ok (.istore 4, 2) := by decide +kernel
theorem dX9_hang_49 : decode cX9_hang 49 = .ok (.iload 4, 2) := by decide +kernel
theorem dX9_hang_51 : decode cX9_hang 51 = .ok (.ifCond .eq 6, 3) := by decide +kernel
theorem dX9_hang_54 : decode cX9_hang 54 = .ok (.iload 4, 2) := by decide +kernel
theorem dX9_hang_56 : decode cX9_hang 56 = .ok (.ireturn, 1) := by decide +kernel
theorem dX9_hang_57 : decode cX9_hang 57 = .ok (.aload_n 0, 1) := by decide +kernel
theorem dX9_hang_58 : decode cX9_hang 58 = .ok (.iload_n 1, 1) := by decide +kernel
theorem dX9_hang_59 : decode cX9_hang 59 = .ok (.invokevirtual 139, 3) := by decide +kernel
theorem dX9_hang_62 : decode cX9_hang 62 = .ok (.aload_n 0, 1) := by decide +kernel
theorem dX9_hang_63 : decode cX9_hang 63 = .ok (.getfield 28, 3) := by decide +kernel
theorem dX9_hang_66 : decode cX9_hang 66 = .ok (.iload_n 1, 1) := by decide +kernel
theorem dX9_hang_67 : decode cX9_hang 67 = .ok (.aaload, 1) := by decide +kernel
theorem dX9_hang_68 : decode cX9_hang 68 = .ok (.iload_n 2, 1) := by decide +kernel
theorem dX9_hang_69 : decode cX9_hang 69 = .ok (.putfield 142, 3) := by decide +kernel
theorem dX9_hang_72 : decode cX9_hang 72 = .ok (.aload_n 0, 1) := by decide +kernel
theorem dX9_hang_73 : decode cX9_hang 73 = .ok (.getfield 28, 3) := by decide +kernel
theorem dX9_hang_76 : decode cX9_hang 76 = .ok (.iload_n 1, 1) := by decide +kernel
theorem dX9_hang_77 : decode cX9_hang 77 = .ok (.aaload, 1) := by decide +kernel
theorem dX9_hang_78 : decode cX9_hang 78 = .ok (.iload_n 3, 1) := by decide +kernel
theorem dX9_hang_79 : decode cX9_hang 79 = .ok (.putfield 145, 3) := by decide +kernel
theorem dX9_hang_82 : decode cX9_hang 82 = .ok (.aload_n 0, 1) := by decide +kernel
theorem dX9_hang_83 : decode cX9_hang 83 = .ok (.getfield 38, 3) := by decide +kernel
theorem dX9_hang_86 : decode cX9_hang 86 = .ok (.iload_n 2, 1) := by decide +kernel
theorem dX9_hang_87 : decode cX9_hang 87 = .ok (.invokevirtual 148, 3) := by decide +kernel
theorem dX9_hang_90 : decode cX9_hang 90 = .ok (.ireturn, 1) := by decide +kernel
set_option maxRecDepth 20000 in
theorem bX9_hang_0 {G : Gx} {mm : Nat → Nat → Int32} {lm : Nat → Int64} {x1 : Int32} {x2 : Int32} {x3 : Int32} {o : Ou} {z : Wd} {a b : Nat} (hw : ((Ct G M_X9_requireTower [.ref 0] (SH, mm, lm) false (.inl none) (SH, mm, lm) false 0 0 ∧ ((Ct G M_X9_requireBell [.ref 0, .int x1] (SH, mm, lm) false (.inl none) (SH, mm, lm) false 0 0 ∧ ((Ct G M_X9_requireBeam [.ref 0, .int x2] (SH, mm, lm) false (.inl none) (SH, mm, lm) false 0 0 ∧ ((Ct G M_X9_requireRange [.int x3, .int (-15), .int 15] (SH, mm, lm) false (.inl none) (SH, mm, lm) false 0 0 ∧ J G M_X9_hang 22 [(0, .ref 0), (1, .int x1), (2, .int x2), (3, .int x3)] [] (SH, mm, lm) false o z false a b) ∨ (∃ (E13 : String), Ct G M_X9_requireRange [.int x3, .int (-15), .int 15] (SH, mm, lm) false (.inr E13) (SH, mm, lm) false 1 6 ∧ o = .inr E13 ∧ z = (SH, mm, lm) ∧ 1 ≤ a ∧ 6 ≤ b))) ∨ (∃ (E14 : String), Ct G M_X9_requireBeam [.ref 0, .int x2] (SH, mm, lm) false (.inr E14) (SH, mm, lm) false 1 6 ∧ o = .inr E14 ∧ z = (SH, mm, lm) ∧ 1 ≤ a ∧ 6 ≤ b))) ∨ (∃ (E15 : String), Ct G M_X9_requireBell [.ref 0, .int x1] (SH, mm, lm) false (.inr E15) (SH, mm, lm) false 1 6 ∧ o = .inr E15 ∧ z = (SH, mm, lm) ∧ 1 ≤ a ∧ 6 ≤ b))) ∨ (∃ (E16 : String), Ct G M_X9_requireTower [.ref 0] (SH, mm, lm) false (.inr E16) (SH, mm, lm) false 1 6 ∧ o = .inr E16 ∧ z = (SH, mm, lm) ∧ 1 ≤ a ∧ 6 ≤ b))) :
    J G M_X9_hang 0 [(0, .ref 0), (1, .int x1), (2, .int x2), (3, .int x3)] [] (SH, mm, lm) false o z false a b := by
  refine J_aload_n rfl (i := 0) rfl dX9_hang_0 ?_
  rcases hw with ⟨hc1, hw⟩ | ⟨E16, hc1, rfl, rfl, h1, h6⟩
  · refine J_callV (as := []) (k := 0) (st := []) cal_X9_requireTower cai_X9_requireTower gw_733 ⟨by decide, by decide⟩ cnt_X9_requireTower sh_0 rfl rfl (Nat.le_of_ble_eq_true rfl) dX9_hang_1 (Nat.zero_add _).symm (Nat.zero_add _).symm hc1 ?_
    refine J_aload_n rfl (i := 0) rfl dX9_hang_4 ?_
    refine J_iload_n rfl (i := 1) rfl dX9_hang_5 ?_
    rcases hw with ⟨hc4, hw⟩ | ⟨E15, hc4, rfl, rfl, h1, h6⟩
    · refine J_callV (as := [.int x1]) (k := 0) (st := []) cal_X9_requireBell cai_X9_requireBell gw_738 ⟨by decide, by decide⟩ cnt_X9_requireBell sh_0 rfl rfl (Nat.le_of_ble_eq_true rfl) dX9_hang_6 (Nat.zero_add _).symm (Nat.zero_add _).symm hc4 ?_
      refine J_aload_n rfl (i := 0) rfl dX9_hang_9 ?_
      refine J_iload_n rfl (i := 2) rfl dX9_hang_10 ?_
      rcases hw with ⟨hc7, hw⟩ | ⟨E14, hc7, rfl, rfl, h1, h6⟩
      · refine J_callV (as := [.int x2]) (k := 0) (st := []) cal_X9_requireBeam cai_X9_requireBeam gw_742 ⟨by decide, by decide⟩ cnt_X9_requireBeam sh_0 rfl rfl (Nat.le_of_ble_eq_true rfl) dX9_hang_11 (Nat.zero_add _).symm (Nat.zero_add _).symm hc7 ?_
        refine J_iload_n rfl (i := 3) rfl dX9_hang_14 ?_
        refine J_bipush (v := (-15)) (by decide) dX9_hang_15 ?_
        refine J_bipush (v := 15) (by decide) dX9_hang_17 ?_
        rcases hw with ⟨hc10, hw⟩ | ⟨E13, hc10, rfl, rfl, h1, h6⟩
        · refine J_callS (as := [.int x3, .int (-15), .int 15]) (st := []) cal_X9_requireRange cas_X9_requireRange gw_707 ⟨by decide, by decide⟩ cnt_X9_requireRange rfl (Nat.le_of_ble_eq_true rfl) dX9_hang_19 (Nat.zero_add _).symm (Nat.zero_add _).symm hc10 ?_
          exact hw
        · exact J_callSx (ht := rfl) (as := [.int x3, .int (-15), .int 15]) (st := []) cal_X9_requireRange cas_X9_requireRange gw_707 ⟨by decide, by decide⟩ cnt_X9_requireRange rfl (Nat.le_of_ble_eq_true rfl) dX9_hang_19 hc10 h1 h6
      · exact J_callVx (ht := rfl) (as := [.int x2]) (k := 0) (st := []) cal_X9_requireBeam cai_X9_requireBeam gw_742 ⟨by decide, by decide⟩ cnt_X9_requireBeam sh_0 rfl rfl (Nat.le_of_ble_eq_true rfl) dX9_hang_11 hc7 h1 h6
    · exact J_callVx (ht := rfl) (as := [.int x1]) (k := 0) (st := []) cal_X9_requireBell cai_X9_requireBell gw_738 ⟨by decide, by decide⟩ cnt_X9_requireBell sh_0 rfl rfl (Nat.le_of_ble_eq_true rfl) dX9_hang_6 hc4 h1 h6
  · exact J_callVx (ht := rfl) (as := []) (k := 0) (st := []) cal_X9_requireTower cai_X9_requireTower gw_733 ⟨by decide, by decide⟩ cnt_X9_requireTower sh_0 rfl rfl (Nat.le_of_ble_eq_true rfl) dX9_hang_1 hc1 h1 h6
set_option maxRecDepth 20000 in
theorem bX9_hang_22 {G : Gx} {mm : Nat → Nat → Int32} {lm : Nat → Int64} {x1 : Int32} {x2 : Int32} {x3 : Int32} {o : Ou} {z : Wd} {a b : Nat} (hw : ∃ j1 : Nat, x1 = nI j1 ∧ j1 < 8 ∧ ∃ (v3 : Int32), Ct G M_X0_hangs [.ref (23 + j1)] (SH, mm, lm) false (.inl (some (.int v3))) (SH, mm, lm) false 0 0 ∧ ((v3 = 0) → ∃ (v6 : Int32), Ct G M_X2_errorOfPlace [.ref 31, .int x1, .int x2, .int x3] (SH, mm, lm) false (.inl (some (.int v6))) (SH, mm, lm) false 0 0 ∧ ((v6 = 0) → ∃ (m10 : Nat → Nat → Int32), Ct G M_X9_rememberBell [.ref 0, .int x1] (SH, mm, lm) false (.inl none) (SH, m10, lm) false 0 0 ∧ ∃ j11 : Nat, x1 = nI j11 ∧ j11 < 8 ∧ ∃ j12 : Nat, x1 = nI j12 ∧ j12 < 8 ∧ ∃ (v14 : Int32), Ct G M_X2_countOn [.ref 31, .int x2] (SH, (mset (mset m10 (23 + j11) 0 x2) (23 + j12) 1 x3), lm) false (.inl (some (.int v14))) (SH, (mset (mset m10 (23 + j11) 0 x2) (23 + j12) 1 x3), lm) false 0 0 ∧ o = .inl (some (.int v14)) ∧ z = (SH, (mset (mset m10 (23 + j11) 0 x2) (23 + j12) 1 x3), lm)) ∧ ((¬ v6 = 0) → o = .inl (some (.int v6)) ∧ z = (SH, mm, lm))) ∧ ((¬ v3 = 0) → o = .inl (some (.int (-2))) ∧ z = (SH, mm, lm))) :
    J G M_X9_hang 22 [(0, .ref 0), (1, .int x1), (2, .int x2), (3, .int x3)] [] (SH, mm, lm) false o z false a b := by
  refine J_aload_n rfl (i := 0) rfl dX9_hang_22 ?_
  refine J_getr kls_9 (q := 0) (k := 3) sh_0 (by decide) rfl gw_432 dX9_hang_23 ?_
  refine J_iload_n rfl (i := 1) rfl dX9_hang_26 ?_
  obtain ⟨j1, ej1, hj1, hw⟩ := hw
  refine J_aald (r := 23 + j1) sh_22 ej1 hj1 (by decide) (if_pos hj1) dX9_hang_27 ?_
  obtain ⟨v3, hc2, hw⟩ := hw
  refine J_callV (as := []) (k := (23 + j1)) (st := []) cal_X0_hangs cai_X0_hangs gw_746 ⟨by decide, by decide⟩ cnt_X0_hangs (sh_b23 hj1) rfl rfl (Nat.le_of_ble_eq_true rfl) dX9_hang_28 (Nat.zero_add _).symm (Nat.zero_add _).symm hc2 ?_
  refine J_if_eq (tgt := 37) dX9_hang_31 (by decide) (fun hb17 => ?_) (fun hb17 => ?_)
  · replace hw := hw.1 hb17
    refine J_aload_n rfl (i := 0) rfl dX9_hang_37 ?_
    refine J_getr kls_9 (q := 0) (k := 4) sh_0 (by decide) rfl gw_433 dX9_hang_38 ?_
    refine J_iload_n rfl (i := 1) rfl dX9_hang_41 ?_
    refine J_iload_n rfl (i := 2) rfl dX9_hang_42 ?_
    refine J_iload_n rfl (i := 3) rfl dX9_hang_43 ?_
    obtain ⟨v6, hc5, hw⟩ := hw
    refine J_callV (as := [.int x1, .int x2, .int x3]) (k := 31) (st := []) cal_X2_errorOfPlace cai_X2_errorOfPlace gw_750 ⟨by decide, by decide⟩ cnt_X2_errorOfPlace sh_31 rfl rfl (Nat.le_of_ble_eq_true rfl) dX9_hang_44 (Nat.zero_add _).symm (Nat.zero_add _).symm hc5 ?_
    refine J_istore [(4, .int v6), (0, .ref 0), (1, .int x1), (2, .int x2), (3, .int x3)] (i := 4) (by decide) rfl dX9_hang_47 ?_
    refine J_iload (i := 4) rfl dX9_hang_49 ?_
    refine J_if_eq (tgt := 57) dX9_hang_51 (by decide) (fun hb16 => ?_) (fun hb16 => ?_)
    · replace hw := hw.1 hb16
      refine J_aload_n rfl (i := 0) rfl dX9_hang_57 ?_
      refine J_iload_n rfl (i := 1) rfl dX9_hang_58 ?_
      obtain ⟨m10, hc8, hw⟩ := hw
      refine J_callV (as := [.int x1]) (k := 0) (st := []) cal_X9_rememberBell cai_X9_rememberBell gw_777 ⟨by decide, by decide⟩ cnt_X9_rememberBell sh_0 rfl rfl (Nat.le_of_ble_eq_true rfl) dX9_hang_59 (Nat.zero_add _).symm (Nat.zero_add _).symm hc8 ?_
      refine J_aload_n rfl (i := 0) rfl dX9_hang_62 ?_
      refine J_getr kls_9 (q := 0) (k := 3) sh_0 (by decide) rfl gw_432 dX9_hang_63 ?_
      refine J_iload_n rfl (i := 1) rfl dX9_hang_66 ?_
      obtain ⟨j11, ej11, hj11, hw⟩ := hw
      refine J_aald (r := 23 + j11) sh_22 ej11 hj11 (by decide) (if_pos hj11) dX9_hang_67 ?_
      refine J_iload_n rfl (i := 2) rfl dX9_hang_68 ?_
      refine J_puti kls_0 (q := (23 + j11)) (k := 0) (sh_b23 hj11) (by decide) rfl rfl (fun _ => rfl) (fun _ => rfl) gw_252 dX9_hang_69 ?_
      refine J_aload_n rfl (i := 0) rfl dX9_hang_72 ?_
      refine J_getr kls_9 (q := 0) (k := 3) sh_0 (by decide) rfl gw_432 dX9_hang_73 ?_
      refine J_iload_n rfl (i := 1) rfl dX9_hang_76 ?_
      obtain ⟨j12, ej12, hj12, hw⟩ := hw
      refine J_aald (r := 23 + j12) sh_22 ej12 hj12 (by decide) (if_pos hj12) dX9_hang_77 ?_
      refine J_iload_n rfl (i := 3) rfl dX9_hang_78 ?_
      refine J_puti kls_0 (q := (23 + j12)) (k := 1) (sh_b23 hj12) (by decide) rfl rfl (fun _ => rfl) (fun _ => rfl) gw_258 dX9_hang_79 ?_
      refine J_aload_n rfl (i := 0) rfl dX9_hang_82 ?_
      refine J_getr kls_9 (q := 0) (k := 4) sh_0 (by decide) rfl gw_433 dX9_hang_83 ?_
      refine J_iload_n rfl (i := 2) rfl dX9_hang_86 ?_
      obtain ⟨v14, hc13, hw⟩ := hw
      refine J_callV (as := [.int x2]) (k := 31) (st := []) cal_X2_countOn cai_X2_countOn gw_789 ⟨by decide, by decide⟩ cnt_X2_countOn sh_31 rfl rfl (Nat.le_of_ble_eq_true rfl) dX9_hang_87 (Nat.zero_add _).symm (Nat.zero_add _).symm hc13 ?_
      exact J_fini (ty := .int) rfl rfl dX9_hang_90 hw
    · replace hw := hw.2 hb16
      refine J_iload (i := 4) rfl dX9_hang_54 ?_
      exact J_fini (ty := .int) rfl rfl dX9_hang_56 hw
  · replace hw := hw.2 hb17
    refine J_bipush (v := (-2)) (by decide) dX9_hang_34 ?_
    exact J_fini (ty := .int) rfl rfl dX9_hang_36 hw
theorem dX9_takeDown_0 : decode cX9_takeDown 0 = .ok (.aload_n 0, 1) := by decide +kernel
theorem dX9_takeDown_1 : decode cX9_takeDown 1 = .ok (.invokevirtual 122, 3) := by decide +kernel
theorem dX9_takeDown_4 : decode cX9_takeDown 4 = .ok (.aload_n 0, 1) := by decide +kernel
theorem dX9_takeDown_5 : decode cX9_takeDown 5 = .ok (.iload_n 1, 1) := by decide +kernel
theorem dX9_takeDown_6 : decode cX9_takeDown 6 = .ok (.invokevirtual 125, 3) := by decide +kernel
theorem dX9_takeDown_9 : decode cX9_takeDown 9 = .ok (.aload_n 0, 1) := by decide +kernel
theorem dX9_takeDown_10 : decode cX9_takeDown 10 = .ok (.getfield 28, 3) := by decide +kernel
theorem dX9_takeDown_13 : decode cX9_takeDown 13 = .ok (.iload_n 1, 1) := by decide +kernel
theorem dX9_takeDown_14 : decode cX9_takeDown 14 = .ok (.aaload, 1) := by decide +kernel
theorem dX9_takeDown_15 : decode cX9_takeDown 15 = .ok (.invokevirtual 131, 3) := by decide +kernel
theorem dX9_takeDown_18 : decode cX9_takeDown 18 = .ok (.ifCond .ne 6, 3) := by decide +kernel
theorem dX9_takeDown_21 : decode cX9_takeDown 21 = .ok (.bipush (-2), 2) := by decide +kernel
theorem dX9_takeDown_23 : decode cX9_takeDown 23 = .ok (.ireturn, 1) := by decide +kernel
theorem dX9_takeDown_24 : decode cX9_takeDown 24 = .ok (.aload_n 0, 1) := by decide +kernel
theorem dX9_takeDown_25 : decode cX9_takeDown 25 = .ok (.getfield 28, 3) := by decide +kernel
theorem dX9_takeDown_28 : decode cX9_takeDown 28 = .ok (.iload_n 1, 1) := by decide +kernel
theorem dX9_takeDown_29 : decode cX9_takeDown 29 = .ok (.aaload, 1) := by decide +kernel
theorem dX9_takeDown_30 : decode cX9_takeDown 30 = .ok (.getfield 142, 3) := by decide +kernel
theorem dX9_takeDown_33 : decode cX9_takeDown 33 = .ok (.istore_n 2, 1) := by decide +kernel
theorem dX9_takeDown_34 : decode cX9_takeDown 34 = .ok (.aload_n 0, 1) := by decide +kernel
theorem dX9_takeDown_35 : decode cX9_takeDown 35 = .ok (.getfield 19, 3) := by decide +kernel
theorem dX9_takeDown_38 : decode cX9_takeDown 38 = .ok (.iload_n 2, 1) := by decide +kernel
theorem dX9_takeDown_39 : decode cX9_takeDown 39 = .ok (.aload_n 0, 1) := by decide +kernel
theorem dX9_takeDown_40 : decode cX9_takeDown 40 = .ok (.getfield 38, 3) := by decide +kernel
theorem dX9_takeDown_43 : decode cX9_takeDown 43 = .ok (.iload_n 2, 1) := by decide +kernel
theorem dX9_takeDown_44 : decode cX9_takeDown 44 = .ok (.iload_n 1, 1) := by decide +kernel
theorem dX9_takeDown_45 : decode cX9_takeDown 45 = .ok (.invokevirtual 152, 3) := by decide +kernel
theorem dX9_takeDown_48 : decode cX9_takeDown 48 = .ok (.invokevirtual 156, 3) := by decide +kernel
theorem dX9_takeDown_51 : decode cX9_takeDown 51 = .ok (.ifCond .ne 6, 3) := by decide +kernel
theorem dX9_takeDown_54 : decode cX9_takeDown 54 = .ok (.bipush (-4), 2) := by decide +kernel
theorem dX9_takeDown_56 : decode cX9_takeDown 56 = .ok (.ireturn, 1) := by decide +kernel
theorem dX9_takeDown_57 : decode cX9_takeDown 57 = .ok (.aload_n 0, 1) := by decide +kernel
theorem dX9_takeDown_58 : decode cX9_takeDown 58 = .ok (.iload_n 1, 1) := by decide +kernel
theorem dX9_takeDown_59 : decode cX9_takeDown 59 = .ok (.invokevirtual 139, 3) := by decide +kernel
theorem dX9_takeDown_62 : decode cX9_takeDown 62 = .ok (.aload_n 0, 1) := by decide +kernel
theorem dX9_takeDown_63 : decode cX9_takeDown 63 = .ok (.getfield 28, 3) := by decide +kernel
theorem dX9_takeDown_66 : decode cX9_takeDown 66 = .ok (.iload_n 1, 1) := by decide +kernel
theorem dX9_takeDown_67 : decode cX9_takeDown 67 = .ok (.aaload, 1) := by decide +kernel
theorem dX9_takeDown_68 : decode cX9_takeDown 68 = .ok (.iconst (-1), 1) := by decide +kernel
theorem dX9_takeDown_69 : decode cX9_takeDown 69 = .ok (.putfield 142, 3) := by decide +kernel
theorem dX9_takeDown_72 : decode cX9_takeDown 72 = .ok (.aload_n 0, 1) := by decide +kernel
theorem dX9_takeDown_73 : decode cX9_takeDown 73 = .ok (.getfield 28, 3) := by decide +kernel
theorem dX9_takeDown_76 : decode cX9_takeDown 76 = .ok (.iload_n 1, 1) := by decide +kernel
theorem dX9_takeDown_77 : decode cX9_takeDown 77 = .ok (.aaload, 1) := by decide +kernel
theorem dX9_takeDown_78 : decode cX9_takeDown 78 = .ok (.iconst 0, 1) := by decide +kernel
theorem dX9_takeDown_79 : decode cX9_takeDown 79 = .ok (.putfield 160, 3) := by decide +kernel
theorem dX9_takeDown_82 : decode cX9_takeDown 82 = .ok (.aload_n 0, 1) := by decide +kernel
theorem dX9_takeDown_83 : decode cX9_takeDown 83 = .ok (.getfield 38, 3) := by decide +kernel
theorem dX9_takeDown_86 : decode cX9_takeDown 86 = .ok (.iload_n 2, 1) := by decide +kernel
theorem dX9_takeDown_87 : decode cX9_takeDown 87 = .ok (.invokevirtual 148, 3) := by decide +kernel
theorem dX9_takeDown_90 : decode cX9_takeDown 90 = .ok (.ireturn, 1) := by decide +kernel
set_option maxRecDepth 20000 in
theorem bX9_takeDown_0 {G : Gx} {mm : Nat → Nat → Int32} {lm : Nat → Int64} {x1 : Int32} {o : Ou} {z : Wd} {a b : Nat} (hw : ((Ct G M_X9_requireTower [.ref 0] (SH, mm, lm) false (.inl none) (SH, mm, lm) false 0 0 ∧ ((Ct G M_X9_requireBell [.ref 0, .int x1] (SH, mm, lm) false (.inl none) (SH, mm, lm) false 0 0 ∧ J G M_X9_takeDown 9 [(0, .ref 0), (1, .int x1)] [] (SH, mm, lm) false o z false a b) ∨ (∃ (E7 : String), Ct G M_X9_requireBell [.ref 0, .int x1] (SH, mm, lm) false (.inr E7) (SH, mm, lm) false 1 6 ∧ o = .inr E7 ∧ z = (SH, mm, lm) ∧ 1 ≤ a ∧ 6 ≤ b))) ∨ (∃ (E8 : String), Ct G M_X9_requireTower [.ref 0] (SH, mm, lm) false (.inr E8) (SH, mm, lm) false 1 6 ∧ o = .inr E8 ∧ z = (SH, mm, lm) ∧ 1 ≤ a ∧ 6 ≤ b))) :
    J G M_X9_takeDown 0 [(0, .ref 0), (1, .int x1)] [] (SH, mm, lm) false o z false a b := by
  refine J_aload_n rfl (i := 0) rfl dX9_takeDown_0 ?_
  rcases hw with ⟨hc1, hw⟩ | ⟨E8, hc1, rfl, rfl, h1, h6⟩
  · refine J_callV (as := []) (k := 0) (st := []) cal_X9_requireTower cai_X9_requireTower gw_733 ⟨by decide, by decide⟩ cnt_X9_requireTower sh_0 rfl rfl (Nat.le_of_ble_eq_true rfl) dX9_takeDown_1 (Nat.zero_add _).symm (Nat.zero_add _).symm hc1 ?_
    refine J_aload_n rfl (i := 0) rfl dX9_takeDown_4 ?_
    refine J_iload_n rfl (i := 1) rfl dX9_takeDown_5 ?_
    rcases hw with ⟨hc4, hw⟩ | ⟨E7, hc4, rfl, rfl, h1, h6⟩
    · refine J_callV (as := [.int x1]) (k := 0) (st := []) cal_X9_requireBell cai_X9_requireBell gw_738 ⟨by decide, by decide⟩ cnt_X9_requireBell sh_0 rfl rfl (Nat.le_of_ble_eq_true rfl) dX9_takeDown_6 (Nat.zero_add _).symm (Nat.zero_add _).symm hc4 ?_
      exact hw
    · exact J_callVx (ht := rfl) (as := [.int x1]) (k := 0) (st := []) cal_X9_requireBell cai_X9_requireBell gw_738 ⟨by decide, by decide⟩ cnt_X9_requireBell sh_0 rfl rfl (Nat.le_of_ble_eq_true rfl) dX9_takeDown_6 hc4 h1 h6
  · exact J_callVx (ht := rfl) (as := []) (k := 0) (st := []) cal_X9_requireTower cai_X9_requireTower gw_733 ⟨by decide, by decide⟩ cnt_X9_requireTower sh_0 rfl rfl (Nat.le_of_ble_eq_true rfl) dX9_takeDown_1 hc1 h1 h6
set_option maxRecDepth 20000 in
theorem bX9_takeDown_9 {G : Gx} {mm : Nat → Nat → Int32} {lm : Nat → Int64} {x1 : Int32} {o : Ou} {z : Wd} {a b : Nat} (hw : ∃ j1 : Nat, x1 = nI j1 ∧ j1 < 8 ∧ ∃ (v3 : Int32), Ct G M_X0_hangs [.ref (23 + j1)] (SH, mm, lm) false (.inl (some (.int v3))) (SH, mm, lm) false 0 0 ∧ ((¬ v3 = 0) → ∃ j5 : Nat, x1 = nI j5 ∧ j5 < 8 ∧ ∃ (v7 : Int32), Ct G M_X2_momentWithout [.ref 31, .int (mm (23 + j5) 0), .int x1] (SH, mm, lm) false (.inl (some (.int v7))) (SH, mm, lm) false 0 0 ∧ ∃ (v10 : Int32), Ct G M_X7_bears [.ref 4, .int (mm (23 + j5) 0), .int v7] (SH, mm, lm) false (.inl (some (.int v10))) (SH, mm, lm) false 0 0 ∧ ((¬ v10 = 0) → ∃ (m14 : Nat → Nat → Int32), Ct G M_X9_rememberBell [.ref 0, .int x1] (SH, mm, lm) false (.inl none) (SH, m14, lm) false 0 0 ∧ ∃ j15 : Nat, x1 = nI j15 ∧ j15 < 8 ∧ ∃ j16 : Nat, x1 = nI j16 ∧ j16 < 8 ∧ ∃ (v18 : Int32), Ct G M_X2_countOn [.ref 31, .int (mm (23 + j5) 0)] (SH, (mset (mset m14 (23 + j15) 0 (-1)) (23 + j16) 5 0), lm) false (.inl (some (.int v18))) (SH, (mset (mset m14 (23 + j15) 0 (-1)) (23 + j16) 5 0), lm) false 0 0 ∧ o = .inl (some (.int v18)) ∧ z = (SH, (mset (mset m14 (23 + j15) 0 (-1)) (23 + j16) 5 0), lm)) ∧ ((v10 = 0) → o = .inl (some (.int (-4))) ∧ z = (SH, mm, lm))) ∧ ((v3 = 0) → o = .inl (some (.int (-2))) ∧ z = (SH, mm, lm))) :
    J G M_X9_takeDown 9 [(0, .ref 0), (1, .int x1)] [] (SH, mm, lm) false o z false a b := by
  refine J_aload_n rfl (i := 0) rfl dX9_takeDown_9 ?_
  refine J_getr kls_9 (q := 0) (k := 3) sh_0 (by decide) rfl gw_432 dX9_takeDown_10 ?_
  refine J_iload_n rfl (i := 1) rfl dX9_takeDown_13 ?_
  obtain ⟨j1, ej1, hj1, hw⟩ := hw
  refine J_aald (r := 23 + j1) sh_22 ej1 hj1 (by decide) (if_pos hj1) dX9_takeDown_14 ?_
  obtain ⟨v3, hc2, hw⟩ := hw
  refine J_callV (as := []) (k := (23 + j1)) (st := []) cal_X0_hangs cai_X0_hangs gw_746 ⟨by decide, by decide⟩ cnt_X0_hangs (sh_b23 hj1) rfl rfl (Nat.le_of_ble_eq_true rfl) dX9_takeDown_15 (Nat.zero_add _).symm (Nat.zero_add _).symm hc2 ?_
  refine J_if_ne (tgt := 24) dX9_takeDown_18 (by decide) (fun hb21 => ?_) (fun hb21 => ?_)
  · replace hw := hw.1 hb21
    refine J_aload_n rfl (i := 0) rfl dX9_takeDown_24 ?_
    refine J_getr kls_9 (q := 0) (k := 3) sh_0 (by decide) rfl gw_432 dX9_takeDown_25 ?_
    refine J_iload_n rfl (i := 1) rfl dX9_takeDown_28 ?_
    obtain ⟨j5, ej5, hj5, hw⟩ := hw
    refine J_aald (r := 23 + j5) sh_22 ej5 hj5 (by decide) (if_pos hj5) dX9_takeDown_29 ?_
    refine J_geti kls_0 (q := (23 + j5)) (k := 0) (sh_b23 hj5) (by decide) rfl gw_252 dX9_takeDown_30 ?_
    refine J_istore_n [(2, .int (mm (23 + j5) 0)), (0, .ref 0), (1, .int x1)] rfl (i := 2) (by decide) rfl dX9_takeDown_33 ?_
    refine J_aload_n rfl (i := 0) rfl dX9_takeDown_34 ?_
    refine J_getr kls_9 (q := 0) (k := 1) sh_0 (by decide) rfl gw_430 dX9_takeDown_35 ?_
    refine J_iload_n rfl (i := 2) rfl dX9_takeDown_38 ?_
    refine J_aload_n rfl (i := 0) rfl dX9_takeDown_39 ?_
    refine J_getr kls_9 (q := 0) (k := 4) sh_0 (by decide) rfl gw_433 dX9_takeDown_40 ?_
    refine J_iload_n rfl (i := 2) rfl dX9_takeDown_43 ?_
    refine J_iload_n rfl (i := 1) rfl dX9_takeDown_44 ?_
    obtain ⟨v7, hc6, hw⟩ := hw
    refine J_callV (as := [.int (mm (23 + j5) 0), .int x1]) (k := 31) (st := [.int (mm (23 + j5) 0), .ref 4]) cal_X2_momentWithout cai_X2_momentWithout gw_800 ⟨by decide, by decide⟩ cnt_X2_momentWithout sh_31 rfl rfl (Nat.le_of_ble_eq_true rfl) dX9_takeDown_45 (Nat.zero_add _).symm (Nat.zero_add _).symm hc6 ?_
    obtain ⟨v10, hc9, hw⟩ := hw
    refine J_callV (as := [.int (mm (23 + j5) 0), .int v7]) (k := 4) (st := []) cal_X7_bears cai_X7_bears gw_801 ⟨by decide, by decide⟩ cnt_X7_bears sh_4 rfl rfl (Nat.le_of_ble_eq_true rfl) dX9_takeDown_48 (Nat.zero_add _).symm (Nat.zero_add _).symm hc9 ?_
    refine J_if_ne (tgt := 57) dX9_takeDown_51 (by decide) (fun hb20 => ?_) (fun hb20 => ?_)
    · replace hw := hw.1 hb20
      refine J_aload_n rfl (i := 0) rfl dX9_takeDown_57 ?_
      refine J_iload_n rfl (i := 1) rfl dX9_takeDown_58 ?_
      obtain ⟨m14, hc12, hw⟩ := hw
      refine J_callV (as := [.int x1]) (k := 0) (st := []) cal_X9_rememberBell cai_X9_rememberBell gw_777 ⟨by decide, by decide⟩ cnt_X9_rememberBell sh_0 rfl rfl (Nat.le_of_ble_eq_true rfl) dX9_takeDown_59 (Nat.zero_add _).symm (Nat.zero_add _).symm hc12 ?_
      refine J_aload_n rfl (i := 0) rfl dX9_takeDown_62 ?_
      refine J_getr kls_9 (q := 0) (k := 3) sh_0 (by decide) rfl gw_432 dX9_takeDown_63 ?_
      refine J_iload_n rfl (i := 1) rfl dX9_takeDown_66 ?_
      obtain ⟨j15, ej15, hj15, hw⟩ := hw
      refine J_aald (r := 23 + j15) sh_22 ej15 hj15 (by decide) (if_pos hj15) dX9_takeDown_67 ?_
      refine J_iconst (v := (-1)) (by decide) dX9_takeDown_68 ?_
      refine J_puti kls_0 (q := (23 + j15)) (k := 0) (sh_b23 hj15) (by decide) rfl rfl (fun _ => rfl) (fun _ => rfl) gw_252 dX9_takeDown_69 ?_
      refine J_aload_n rfl (i := 0) rfl dX9_takeDown_72 ?_
      refine J_getr kls_9 (q := 0) (k := 3) sh_0 (by decide) rfl gw_432 dX9_takeDown_73 ?_
      refine J_iload_n rfl (i := 1) rfl dX9_takeDown_76 ?_
      obtain ⟨j16, ej16, hj16, hw⟩ := hw
      refine J_aald (r := 23 + j16) sh_22 ej16 hj16 (by decide) (if_pos hj16) dX9_takeDown_77 ?_
      refine J_iconst (v := 0) (by decide) dX9_takeDown_78 ?_
      refine J_puti kls_0 (q := (23 + j16)) (k := 5) (sh_b23 hj16) (by decide) rfl rfl (fun _ => rfl) (fun _ => rfl) gw_271 dX9_takeDown_79 ?_
      refine J_aload_n rfl (i := 0) rfl dX9_takeDown_82 ?_
      refine J_getr kls_9 (q := 0) (k := 4) sh_0 (by decide) rfl gw_433 dX9_takeDown_83 ?_
      refine J_iload_n rfl (i := 2) rfl dX9_takeDown_86 ?_
      obtain ⟨v18, hc17, hw⟩ := hw
      refine J_callV (as := [.int (mm (23 + j5) 0)]) (k := 31) (st := []) cal_X2_countOn cai_X2_countOn gw_789 ⟨by decide, by decide⟩ cnt_X2_countOn sh_31 rfl rfl (Nat.le_of_ble_eq_true rfl) dX9_takeDown_87 (Nat.zero_add _).symm (Nat.zero_add _).symm hc17 ?_
      exact J_fini (ty := .int) rfl rfl dX9_takeDown_90 hw
    · replace hw := hw.2 hb20
      refine J_bipush (v := (-4)) (by decide) dX9_takeDown_54 ?_
      exact J_fini (ty := .int) rfl rfl dX9_takeDown_56 hw
  · replace hw := hw.2 hb21
    refine J_bipush (v := (-2)) (by decide) dX9_takeDown_21 ?_
    exact J_fini (ty := .int) rfl rfl dX9_takeDown_23 hw
theorem dX9_shift_0 : decode cX9_shift 0 = .ok (.aload_n 0, 1) := by decide +kernel
theorem dX9_shift_1 : decode cX9_shift 1 = .ok (.invokevirtual 122, 3) := by decide +kernel
theorem dX9_shift_4 : decode cX9_shift 4 = .ok (.aload_n 0, 1) := by decide +kernel
theorem dX9_shift_5 : decode cX9_shift 5 = .ok (.iload_n 1, 1) := by decide +kernel
theorem dX9_shift_6 : decode cX9_shift 6 = .ok (.invokevirtual 125, 3) := by decide +kernel
theorem dX9_shift_9 : decode cX9_shift 9 = .ok (.iload_n 2, 1) := by decide +kernel
theorem dX9_shift_10 : decode cX9_shift 10 = .ok (.bipush (-15), 2) := by decide +kernel
theorem dX9_shift_12 : decode cX9_shift 12 = .ok (.bipush 15, 2) := by decide +kernel
theorem dX9_shift_14 : decode cX9_shift 14 = .ok (.invokestatic 96, 3) := by decide +kernel
theorem dX9_shift_17 : decode cX9_shift 17 = .ok (.aload_n 0, 1) := by decide +kernel
theorem dX9_shift_18 : decode cX9_shift 18 = .ok (.getfield 28, 3) := by decide +kernel
theorem dX9_shift_21 : decode cX9_shift 21 = .ok (.iload_n 1, 1) := by decide +kernel
theorem dX9_shift_22 : decode cX9_shift 22 = .ok (.aaload, 1) := by decide +kernel
theorem dX9_shift_23 : decode cX9_shift 23 = .ok (.invokevirtual 131, 3) := by decide +kernel
theorem dX9_shift_26 : decode cX9_shift 26 = .ok (.ifCond .ne 6, 3) := by decide +kernel
theorem dX9_shift_29 : decode cX9_shift 29 = .ok (.bipush (-2), 2) := by decide +kernel
theorem dX9_shift_31 : decode cX9_shift 31 = .ok (.ireturn, 1) := by decide +kernel
theorem dX9_shift_32 : decode cX9_shift 32 = .ok (.aload_n 0, 1) := by decide +kernel
theorem dX9_shift_33 : decode cX9_shift 33 = .ok (.getfield 38, 3) := by decide +kernel
theorem dX9_shift_36 : decode cX9_shift 36 = .ok (.iload_n 1, 1) := by decide +kernel
theorem dX9_shift_37 : decode cX9_shift 37 = .ok (.aload_n 0, 1) := by decide +kernel
theorem dX9_shift_38 : decode cX9_shift 38 = .ok (.getfield 28, 3) := by decide +kernel
theorem dX9_shift_41 : decode cX9_shift 41 = .ok (.iload_n 1, 1) := by decide +kernel
theorem dX9_shift_42 : decode cX9_shift 42 = .ok (.aaload, 1) := by decide +kernel
theorem dX9_shift_43 : decode cX9_shift 43 = .ok (.getfield 142, 3) := by decide +kernel
theorem dX9_shift_46 : decode cX9_shift 46 = .ok (.iload_n 2, 1) := by decide +kernel
theorem dX9_shift_47 : decode cX9_shift 47 = .ok (.invokevirtual 135, 3) := by decide +kernel
theorem dX9_shift_50 : decode cX9_shift 50 = .ok (.istore_n 3, 1) := by decide +kernel
theorem dX9_shift_51 : decode cX9_shift 51 = .ok (.iload_n 3, 1) := by decide +kernel
theorem dX9_shift_52 : decode cX9_shift 52 = .ok (.ifCond .eq 5, 3) := by decide +kernel
theorem dX9_shift_55 : decode cX9_shift 55 = .ok (.iload_n 3, 1) := by decide +kernel
theorem dX9_shift_56 : decode cX9_shift 56 = .ok (.ireturn, 1) := by decide +kernel
theorem dX9_shift_57 : decode cX9_shift 57 = .ok (.aload_n 0, 1) := by decide +kernel
theorem dX9_shift_58 : decode cX9_shift 58 = .ok (.getfield 28, 3) := by decide +kernel
theorem dX9_shift_61 : decode cX9_shift 61 = .ok (.iload_n 1, 1) := by decide +kernel
theorem dX9_shift_62 : decode cX9_shift 62 = .ok (.aaload, 1) := by decide +kernel
theorem dX9_shift_63 : decode cX9_shift 63 = .ok (.getfield 145, 3) := by decide +kernel
theorem dX9_shift_66 : decode cX9_shift 66 = .ok (.istore 4, 2) := by decide +kernel
theorem dX9_shift_68 : decode cX9_shift 68 = .ok (.aload_n 0, 1) := by decide +kernel
theorem dX9_shift_69 : decode cX9_shift 69 = .ok (.iload_n 1, 1) := by decide +kernel
theorem dX9_shift_70 : decode cX9_shift 70 = .ok (.invokevirtual 139, 3) := by decide +kernel
theorem dX9_shift_73 : decode cX9_shift 73 = .ok (.aload_n 0, 1) := by decide +kernel
theorem dX9_shift_74 : decode cX9_shift 74 = .ok (.getfield 28, 3) := by decide +kernel
theorem dX9_shift_77 : decode cX9_shift 77 = .ok (.iload_n 1, 1) := by decide +kernel
theorem dX9_shift_78 : decode cX9_shift 78 = .ok (.aaload, 1) := by decide +kernel
theorem dX9_shift_79 : decode cX9_shift 79 = .ok (.iload_n 2, 1) := by decide +kernel
theorem dX9_shift_80 : decode cX9_shift 80 = .ok (.putfield 145, 3) := by decide +kernel
theorem dX9_shift_83 : decode cX9_shift 83 = .ok (.bipush 100, 2) := by decide +kernel
theorem dX9_shift_85 : decode cX9_shift 85 = .ok (.iload 4, 2) := by decide +kernel
theorem dX9_shift_87 : decode cX9_shift 87 = .ok (.iadd, 1) := by decide +kernel
theorem dX9_shift_88 : decode cX9_shift 88 = .ok (.ireturn, 1) := by decide +kernel
set_option maxRecDepth 20000 in
theorem bX9_shift_0 {G : Gx} {mm : Nat → Nat → Int32} {lm : Nat → Int64} {x1 : Int32} {x2 : Int32} {o : Ou} {z : Wd} {a b : Nat} (hw : ((Ct G M_X9_requireTower [.ref 0] (SH, mm, lm) false (.inl none) (SH, mm, lm) false 0 0 ∧ ((Ct G M_X9_requireBell [.ref 0, .int x1] (SH, mm, lm) false (.inl none) (SH, mm, lm) false 0 0 ∧ ((Ct G M_X9_requireRange [.int x2, .int (-15), .int 15] (SH, mm, lm) false (.inl none) (SH, mm, lm) false 0 0 ∧ J G M_X9_shift 17 [(0, .ref 0), (1, .int x1), (2, .int x2)] [] (SH, mm, lm) false o z false a b) ∨ (∃ (E10 : String), Ct G M_X9_requireRange [.int x2, .int (-15), .int 15] (SH, mm, lm) false (.inr E10) (SH, mm, lm) false 1 6 ∧ o = .inr E10 ∧ z = (SH, mm, lm) ∧ 1 ≤ a ∧ 6 ≤ b))) ∨ (∃ (E11 : String), Ct G M_X9_requireBell [.ref 0, .int x1] (SH, mm, lm) false (.inr E11) (SH, mm, lm) false 1 6 ∧ o = .inr E11 ∧ z = (SH, mm, lm) ∧ 1 ≤ a ∧ 6 ≤ b))) ∨ (∃ (E12 : String), Ct G M_X9_requireTower [.ref 0] (SH, mm, lm) false (.inr E12) (SH, mm, lm) false 1 6 ∧ o = .inr E12 ∧ z = (SH, mm, lm) ∧ 1 ≤ a ∧ 6 ≤ b))) :
    J G M_X9_shift 0 [(0, .ref 0), (1, .int x1), (2, .int x2)] [] (SH, mm, lm) false o z false a b := by
  refine J_aload_n rfl (i := 0) rfl dX9_shift_0 ?_
  rcases hw with ⟨hc1, hw⟩ | ⟨E12, hc1, rfl, rfl, h1, h6⟩
  · refine J_callV (as := []) (k := 0) (st := []) cal_X9_requireTower cai_X9_requireTower gw_733 ⟨by decide, by decide⟩ cnt_X9_requireTower sh_0 rfl rfl (Nat.le_of_ble_eq_true rfl) dX9_shift_1 (Nat.zero_add _).symm (Nat.zero_add _).symm hc1 ?_
    refine J_aload_n rfl (i := 0) rfl dX9_shift_4 ?_
    refine J_iload_n rfl (i := 1) rfl dX9_shift_5 ?_
    rcases hw with ⟨hc4, hw⟩ | ⟨E11, hc4, rfl, rfl, h1, h6⟩
    · refine J_callV (as := [.int x1]) (k := 0) (st := []) cal_X9_requireBell cai_X9_requireBell gw_738 ⟨by decide, by decide⟩ cnt_X9_requireBell sh_0 rfl rfl (Nat.le_of_ble_eq_true rfl) dX9_shift_6 (Nat.zero_add _).symm (Nat.zero_add _).symm hc4 ?_
      refine J_iload_n rfl (i := 2) rfl dX9_shift_9 ?_
      refine J_bipush (v := (-15)) (by decide) dX9_shift_10 ?_
      refine J_bipush (v := 15) (by decide) dX9_shift_12 ?_
      rcases hw with ⟨hc7, hw⟩ | ⟨E10, hc7, rfl, rfl, h1, h6⟩
      · refine J_callS (as := [.int x2, .int (-15), .int 15]) (st := []) cal_X9_requireRange cas_X9_requireRange gw_707 ⟨by decide, by decide⟩ cnt_X9_requireRange rfl (Nat.le_of_ble_eq_true rfl) dX9_shift_14 (Nat.zero_add _).symm (Nat.zero_add _).symm hc7 ?_
        exact hw
      · exact J_callSx (ht := rfl) (as := [.int x2, .int (-15), .int 15]) (st := []) cal_X9_requireRange cas_X9_requireRange gw_707 ⟨by decide, by decide⟩ cnt_X9_requireRange rfl (Nat.le_of_ble_eq_true rfl) dX9_shift_14 hc7 h1 h6
    · exact J_callVx (ht := rfl) (as := [.int x1]) (k := 0) (st := []) cal_X9_requireBell cai_X9_requireBell gw_738 ⟨by decide, by decide⟩ cnt_X9_requireBell sh_0 rfl rfl (Nat.le_of_ble_eq_true rfl) dX9_shift_6 hc4 h1 h6
  · exact J_callVx (ht := rfl) (as := []) (k := 0) (st := []) cal_X9_requireTower cai_X9_requireTower gw_733 ⟨by decide, by decide⟩ cnt_X9_requireTower sh_0 rfl rfl (Nat.le_of_ble_eq_true rfl) dX9_shift_1 hc1 h1 h6
set_option maxRecDepth 20000 in
theorem bX9_shift_17 {G : Gx} {mm : Nat → Nat → Int32} {lm : Nat → Int64} {x1 : Int32} {x2 : Int32} {o : Ou} {z : Wd} {a b : Nat} (hw : ∃ j1 : Nat, x1 = nI j1 ∧ j1 < 8 ∧ ∃ (v3 : Int32), Ct G M_X0_hangs [.ref (23 + j1)] (SH, mm, lm) false (.inl (some (.int v3))) (SH, mm, lm) false 0 0 ∧ ((¬ v3 = 0) → ∃ j5 : Nat, x1 = nI j5 ∧ j5 < 8 ∧ ∃ (v7 : Int32), Ct G M_X2_errorOfPlace [.ref 31, .int x1, .int (mm (23 + j5) 0), .int x2] (SH, mm, lm) false (.inl (some (.int v7))) (SH, mm, lm) false 0 0 ∧ ((v7 = 0) → ∃ j9 : Nat, x1 = nI j9 ∧ j9 < 8 ∧ ∃ (m12 : Nat → Nat → Int32), Ct G M_X9_rememberBell [.ref 0, .int x1] (SH, mm, lm) false (.inl none) (SH, m12, lm) false 0 0 ∧ ∃ j13 : Nat, x1 = nI j13 ∧ j13 < 8 ∧ o = .inl (some (.int (100 + (mm (23 + j9) 1)))) ∧ z = (SH, (mset m12 (23 + j13) 1 x2), lm)) ∧ ((¬ v7 = 0) → o = .inl (some (.int v7)) ∧ z = (SH, mm, lm))) ∧ ((v3 = 0) → o = .inl (some (.int (-2))) ∧ z = (SH, mm, lm))) :
    J G M_X9_shift 17 [(0, .ref 0), (1, .int x1), (2, .int x2)] [] (SH, mm, lm) false o z false a b := by
  refine J_aload_n rfl (i := 0) rfl dX9_shift_17 ?_
  refine J_getr kls_9 (q := 0) (k := 3) sh_0 (by decide) rfl gw_432 dX9_shift_18 ?_
  refine J_iload_n rfl (i := 1) rfl dX9_shift_21 ?_
  obtain ⟨j1, ej1, hj1, hw⟩ := hw
  refine J_aald (r := 23 + j1) sh_22 ej1 hj1 (by decide) (if_pos hj1) dX9_shift_22 ?_
  obtain ⟨v3, hc2, hw⟩ := hw
  refine J_callV (as := []) (k := (23 + j1)) (st := []) cal_X0_hangs cai_X0_hangs gw_746 ⟨by decide, by decide⟩ cnt_X0_hangs (sh_b23 hj1) rfl rfl (Nat.le_of_ble_eq_true rfl) dX9_shift_23 (Nat.zero_add _).symm (Nat.zero_add _).symm hc2 ?_
  refine J_if_ne (tgt := 32) dX9_shift_26 (by decide) (fun hb15 => ?_) (fun hb15 => ?_)
  · replace hw := hw.1 hb15
    refine J_aload_n rfl (i := 0) rfl dX9_shift_32 ?_
    refine J_getr kls_9 (q := 0) (k := 4) sh_0 (by decide) rfl gw_433 dX9_shift_33 ?_
    refine J_iload_n rfl (i := 1) rfl dX9_shift_36 ?_
    refine J_aload_n rfl (i := 0) rfl dX9_shift_37 ?_
    refine J_getr kls_9 (q := 0) (k := 3) sh_0 (by decide) rfl gw_432 dX9_shift_38 ?_
    refine J_iload_n rfl (i := 1) rfl dX9_shift_41 ?_
    obtain ⟨j5, ej5, hj5, hw⟩ := hw
    refine J_aald (r := 23 + j5) sh_22 ej5 hj5 (by decide) (if_pos hj5) dX9_shift_42 ?_
    refine J_geti kls_0 (q := (23 + j5)) (k := 0) (sh_b23 hj5) (by decide) rfl gw_252 dX9_shift_43 ?_
    refine J_iload_n rfl (i := 2) rfl dX9_shift_46 ?_
    obtain ⟨v7, hc6, hw⟩ := hw
    refine J_callV (as := [.int x1, .int (mm (23 + j5) 0), .int x2]) (k := 31) (st := []) cal_X2_errorOfPlace cai_X2_errorOfPlace gw_750 ⟨by decide, by decide⟩ cnt_X2_errorOfPlace sh_31 rfl rfl (Nat.le_of_ble_eq_true rfl) dX9_shift_47 (Nat.zero_add _).symm (Nat.zero_add _).symm hc6 ?_
    refine J_istore_n [(3, .int v7), (0, .ref 0), (1, .int x1), (2, .int x2)] rfl (i := 3) (by decide) rfl dX9_shift_50 ?_
    refine J_iload_n rfl (i := 3) rfl dX9_shift_51 ?_
    refine J_if_eq (tgt := 57) dX9_shift_52 (by decide) (fun hb14 => ?_) (fun hb14 => ?_)
    · replace hw := hw.1 hb14
      refine J_aload_n rfl (i := 0) rfl dX9_shift_57 ?_
      refine J_getr kls_9 (q := 0) (k := 3) sh_0 (by decide) rfl gw_432 dX9_shift_58 ?_
      refine J_iload_n rfl (i := 1) rfl dX9_shift_61 ?_
      obtain ⟨j9, ej9, hj9, hw⟩ := hw
      refine J_aald (r := 23 + j9) sh_22 ej9 hj9 (by decide) (if_pos hj9) dX9_shift_62 ?_
      refine J_geti kls_0 (q := (23 + j9)) (k := 1) (sh_b23 hj9) (by decide) rfl gw_258 dX9_shift_63 ?_
      refine J_istore [(4, .int (mm (23 + j9) 1)), (3, .int v7), (0, .ref 0), (1, .int x1), (2, .int x2)] (i := 4) (by decide) rfl dX9_shift_66 ?_
      refine J_aload_n rfl (i := 0) rfl dX9_shift_68 ?_
      refine J_iload_n rfl (i := 1) rfl dX9_shift_69 ?_
      obtain ⟨m12, hc10, hw⟩ := hw
      refine J_callV (as := [.int x1]) (k := 0) (st := []) cal_X9_rememberBell cai_X9_rememberBell gw_777 ⟨by decide, by decide⟩ cnt_X9_rememberBell sh_0 rfl rfl (Nat.le_of_ble_eq_true rfl) dX9_shift_70 (Nat.zero_add _).symm (Nat.zero_add _).symm hc10 ?_
      refine J_aload_n rfl (i := 0) rfl dX9_shift_73 ?_
      refine J_getr kls_9 (q := 0) (k := 3) sh_0 (by decide) rfl gw_432 dX9_shift_74 ?_
      refine J_iload_n rfl (i := 1) rfl dX9_shift_77 ?_
      obtain ⟨j13, ej13, hj13, hw⟩ := hw
      refine J_aald (r := 23 + j13) sh_22 ej13 hj13 (by decide) (if_pos hj13) dX9_shift_78 ?_
      refine J_iload_n rfl (i := 2) rfl dX9_shift_79 ?_
      refine J_puti kls_0 (q := (23 + j13)) (k := 1) (sh_b23 hj13) (by decide) rfl rfl (fun _ => rfl) (fun _ => rfl) gw_258 dX9_shift_80 ?_
      refine J_bipush (v := 100) (by decide) dX9_shift_83 ?_
      refine J_iload (i := 4) rfl dX9_shift_85 ?_
      refine J_iadd dX9_shift_87 ?_
      exact J_fini (ty := .int) rfl rfl dX9_shift_88 hw
    · replace hw := hw.2 hb14
      refine J_iload_n rfl (i := 3) rfl dX9_shift_55 ?_
      exact J_fini (ty := .int) rfl rfl dX9_shift_56 hw
  · replace hw := hw.2 hb15
    refine J_bipush (v := (-2)) (by decide) dX9_shift_29 ?_
    exact J_fini (ty := .int) rfl rfl dX9_shift_31 hw
theorem dX9_beamOf_0 : decode cX9_beamOf 0 = .ok (.aload_n 0, 1) := by decide +kernel
theorem dX9_beamOf_1 : decode cX9_beamOf 1 = .ok (.invokevirtual 122, 3) := by decide +kernel
theorem dX9_beamOf_4 : decode cX9_beamOf 4 = .ok (.aload_n 0, 1) := by decide +kernel
theorem dX9_beamOf_5 : decode cX9_beamOf 5 = .ok (.iload_n 1, 1) := by decide +kernel
theorem dX9_beamOf_6 : decode cX9_beamOf 6 = .ok (.invokevirtual 125, 3) := by decide +kernel
theorem dX9_beamOf_9 : decode cX9_beamOf 9 = .ok (.aload_n 0, 1) := by decide +kernel
theorem dX9_beamOf_10 : decode cX9_beamOf 10 = .ok (.getfield 28, 3) := by decide +kernel
theorem dX9_beamOf_13 : decode cX9_beamOf 13 = .ok (.iload_n 1, 1) := by decide +kernel
theorem dX9_beamOf_14 : decode cX9_beamOf 14 = .ok (.aaload, 1) := by decide +kernel
theorem dX9_beamOf_15 : decode cX9_beamOf 15 = .ok (.invokevirtual 131, 3) := by decide +kernel
theorem dX9_beamOf_18 : decode cX9_beamOf 18 = .ok (.ifCond .eq 15, 3) := by decide +kernel
theorem dX9_beamOf_21 : decode cX9_beamOf 21 = .ok (.aload_n 0, 1) := by decide +kernel
theorem dX9_beamOf_22 : decode cX9_beamOf 22 = .ok (.getfield 28, 3) := by decide +kernel
theorem dX9_beamOf_25 : decode cX9_beamOf 25 = .ok (.iload_n 1, 1) := by decide +kernel
theorem dX9_beamOf_26 : decode cX9_beamOf 26 = .ok (.aaload, 1) := by decide +kernel
theorem dX9_beamOf_27 : decode cX9_beamOf 27 = .ok (.getfield 142, 3) := by decide +kernel
theorem dX9_beamOf_30 : decode cX9_beamOf 30 = .ok (.goto 5, 3) := by decide +kernel
theorem dX9_beamOf_33 : decode cX9_beamOf 33 = .ok (.bipush (-2), 2) := by decide +kernel
theorem dX9_beamOf_35 : decode cX9_beamOf 35 = .ok (.ireturn, 1) := by decide +kernel
set_option maxRecDepth 20000 in
theorem bX9_beamOf_0 {G : Gx} {mm : Nat → Nat → Int32} {lm : Nat → Int64} {x1 : Int32} {o : Ou} {z : Wd} {a b : Nat} (hw : ((Ct G M_X9_requireTower [.ref 0] (SH, mm, lm) false (.inl none) (SH, mm, lm) false 0 0 ∧ ((Ct G M_X9_requireBell [.ref 0, .int x1] (SH, mm, lm) false (.inl none) (SH, mm, lm) false 0 0 ∧ J G M_X9_beamOf 9 [(0, .ref 0), (1, .int x1)] [] (SH, mm, lm) false o z false a b) ∨ (∃ (E7 : String), Ct G M_X9_requireBell [.ref 0, .int x1] (SH, mm, lm) false (.inr E7) (SH, mm, lm) false 1 6 ∧ o = .inr E7 ∧ z = (SH, mm, lm) ∧ 1 ≤ a ∧ 6 ≤ b))) ∨ (∃ (E8 : String), Ct G M_X9_requireTower [.ref 0] (SH, mm, lm) false (.inr E8) (SH, mm, lm) false 1 6 ∧ o = .inr E8 ∧ z = (SH, mm, lm) ∧ 1 ≤ a ∧ 6 ≤ b))) :
    J G M_X9_beamOf 0 [(0, .ref 0), (1, .int x1)] [] (SH, mm, lm) false o z false a b := by
  refine J_aload_n rfl (i := 0) rfl dX9_beamOf_0 ?_
  rcases hw with ⟨hc1, hw⟩ | ⟨E8, hc1, rfl, rfl, h1, h6⟩
  · refine J_callV (as := []) (k := 0) (st := []) cal_X9_requireTower cai_X9_requireTower gw_733 ⟨by decide, by decide⟩ cnt_X9_requireTower sh_0 rfl rfl (Nat.le_of_ble_eq_true rfl) dX9_beamOf_1 (Nat.zero_add _).symm (Nat.zero_add _).symm hc1 ?_
    refine J_aload_n rfl (i := 0) rfl dX9_beamOf_4 ?_
    refine J_iload_n rfl (i := 1) rfl dX9_beamOf_5 ?_
    rcases hw with ⟨hc4, hw⟩ | ⟨E7, hc4, rfl, rfl, h1, h6⟩
    · refine J_callV (as := [.int x1]) (k := 0) (st := []) cal_X9_requireBell cai_X9_requireBell gw_738 ⟨by decide, by decide⟩ cnt_X9_requireBell sh_0 rfl rfl (Nat.le_of_ble_eq_true rfl) dX9_beamOf_6 (Nat.zero_add _).symm (Nat.zero_add _).symm hc4 ?_
      exact hw
    · exact J_callVx (ht := rfl) (as := [.int x1]) (k := 0) (st := []) cal_X9_requireBell cai_X9_requireBell gw_738 ⟨by decide, by decide⟩ cnt_X9_requireBell sh_0 rfl rfl (Nat.le_of_ble_eq_true rfl) dX9_beamOf_6 hc4 h1 h6
  · exact J_callVx (ht := rfl) (as := []) (k := 0) (st := []) cal_X9_requireTower cai_X9_requireTower gw_733 ⟨by decide, by decide⟩ cnt_X9_requireTower sh_0 rfl rfl (Nat.le_of_ble_eq_true rfl) dX9_beamOf_1 hc1 h1 h6
set_option maxRecDepth 20000 in
theorem bX9_beamOf_9 {G : Gx} {mm : Nat → Nat → Int32} {lm : Nat → Int64} {x1 : Int32} {o : Ou} {z : Wd} {a b : Nat} (hw : ∃ j1 : Nat, x1 = nI j1 ∧ j1 < 8 ∧ ∃ (v3 : Int32), Ct G M_X0_hangs [.ref (23 + j1)] (SH, mm, lm) false (.inl (some (.int v3))) (SH, mm, lm) false 0 0 ∧ ((v3 = 0) → o = .inl (some (.int (-2))) ∧ z = (SH, mm, lm)) ∧ ((¬ v3 = 0) → ∃ j5 : Nat, x1 = nI j5 ∧ j5 < 8 ∧ o = .inl (some (.int (mm (23 + j5) 0))) ∧ z = (SH, mm, lm))) :
    J G M_X9_beamOf 9 [(0, .ref 0), (1, .int x1)] [] (SH, mm, lm) false o z false a b := by
  refine J_aload_n rfl (i := 0) rfl dX9_beamOf_9 ?_
  refine J_getr kls_9 (q := 0) (k := 3) sh_0 (by decide) rfl gw_432 dX9_beamOf_10 ?_
  refine J_iload_n rfl (i := 1) rfl dX9_beamOf_13 ?_
  obtain ⟨j1, ej1, hj1, hw⟩ := hw
  refine J_aald (r := 23 + j1) sh_22 ej1 hj1 (by decide) (if_pos hj1) dX9_beamOf_14 ?_
  obtain ⟨v3, hc2, hw⟩ := hw
  refine J_callV (as := []) (k := (23 + j1)) (st := []) cal_X0_hangs cai_X0_hangs gw_746 ⟨by decide, by decide⟩ cnt_X0_hangs (sh_b23 hj1) rfl rfl (Nat.le_of_ble_eq_true rfl) dX9_beamOf_15 (Nat.zero_add _).symm (Nat.zero_add _).symm hc2 ?_
  refine J_if_eq (tgt := 33) dX9_beamOf_18 (by decide) (fun hb6 => ?_) (fun hb6 => ?_)
  · replace hw := hw.1 hb6
    refine J_bipush (v := (-2)) (by decide) dX9_beamOf_33 ?_
    exact J_fini (ty := .int) rfl rfl dX9_beamOf_35 hw
  · replace hw := hw.2 hb6
    refine J_aload_n rfl (i := 0) rfl dX9_beamOf_21 ?_
    refine J_getr kls_9 (q := 0) (k := 3) sh_0 (by decide) rfl gw_432 dX9_beamOf_22 ?_
    refine J_iload_n rfl (i := 1) rfl dX9_beamOf_25 ?_
    obtain ⟨j5, ej5, hj5, hw⟩ := hw
    refine J_aald (r := 23 + j5) sh_22 ej5 hj5 (by decide) (if_pos hj5) dX9_beamOf_26 ?_
    refine J_geti kls_0 (q := (23 + j5)) (k := 0) (sh_b23 hj5) (by decide) rfl gw_252 dX9_beamOf_27 ?_
    refine J_goto (tgt := 35) dX9_beamOf_30 (by decide) ?_
    exact J_fini (ty := .int) rfl rfl dX9_beamOf_35 hw
theorem dX9_positionOf_0 : decode cX9_positionOf 0 = .ok (.aload_n 0, 1) := by decide +kernel
theorem dX9_positionOf_1 : decode cX9_positionOf 1 = .ok (.invokevirtual 122, 3) := by decide +kernel
theorem dX9_positionOf_4 : decode cX9_positionOf 4 = .ok (.aload_n 0, 1) := by decide +kernel
theorem dX9_positionOf_5 : decode cX9_positionOf 5 = .ok (.iload_n 1, 1) := by decide +kernel
theorem dX9_positionOf_6 : decode cX9_positionOf 6 = .ok (.invokevirtual 125, 3) := by decide +kernel
theorem dX9_positionOf_9 : decode cX9_positionOf 9 = .ok (.aload_n 0, 1) := by decide +kernel
theorem dX9_positionOf_10 : decode cX9_positionOf 10 = .ok (.iload_n 1, 1) := by decide +kernel
theorem dX9_positionOf_11 : decode cX9_positionOf 11 = .ok (.invokevirtual 163, 3) := by decide +kernel
theorem dX9_positionOf_14 : decode cX9_positionOf 14 = .ok (.aload_n 0, 1) := by decide +kernel
theorem dX9_positionOf_15 : decode cX9_positionOf 15 = .ok (.getfield 28, 3) := by decide +kernel
theorem dX9_positionOf_18 : decode cX9_positionOf 18 = .ok (.iload_n 1, 1) := by decide +kernel
theorem dX9_positionOf_19 : decode cX9_positionOf 19 = .ok (.aaload, 1) := by decide +kernel
theorem dX9_positionOf_20 : decode cX9_positionOf 20 = .ok (.getfield 145, 3) := by decide +kernel
theorem dX9_positionOf_23 : decode cX9_positionOf 23 = .ok (.ireturn, 1) := by decide +kernel
set_option maxRecDepth 20000 in
theorem bX9_positionOf_0 {G : Gx} {mm : Nat → Nat → Int32} {lm : Nat → Int64} {x1 : Int32} {o : Ou} {z : Wd} {a b : Nat} (hw : ((Ct G M_X9_requireTower [.ref 0] (SH, mm, lm) false (.inl none) (SH, mm, lm) false 0 0 ∧ ((Ct G M_X9_requireBell [.ref 0, .int x1] (SH, mm, lm) false (.inl none) (SH, mm, lm) false 0 0 ∧ J G M_X9_positionOf 9 [(0, .ref 0), (1, .int x1)] [] (SH, mm, lm) false o z false a b) ∨ (∃ (E7 : String), Ct G M_X9_requireBell [.ref 0, .int x1] (SH, mm, lm) false (.inr E7) (SH, mm, lm) false 1 6 ∧ o = .inr E7 ∧ z = (SH, mm, lm) ∧ 1 ≤ a ∧ 6 ≤ b))) ∨ (∃ (E8 : String), Ct G M_X9_requireTower [.ref 0] (SH, mm, lm) false (.inr E8) (SH, mm, lm) false 1 6 ∧ o = .inr E8 ∧ z = (SH, mm, lm) ∧ 1 ≤ a ∧ 6 ≤ b))) :
    J G M_X9_positionOf 0 [(0, .ref 0), (1, .int x1)] [] (SH, mm, lm) false o z false a b := by
  refine J_aload_n rfl (i := 0) rfl dX9_positionOf_0 ?_
  rcases hw with ⟨hc1, hw⟩ | ⟨E8, hc1, rfl, rfl, h1, h6⟩
  · refine J_callV (as := []) (k := 0) (st := []) cal_X9_requireTower cai_X9_requireTower gw_733 ⟨by decide, by decide⟩ cnt_X9_requireTower sh_0 rfl rfl (Nat.le_of_ble_eq_true rfl) dX9_positionOf_1 (Nat.zero_add _).symm (Nat.zero_add _).symm hc1 ?_
    refine J_aload_n rfl (i := 0) rfl dX9_positionOf_4 ?_
    refine J_iload_n rfl (i := 1) rfl dX9_positionOf_5 ?_
    rcases hw with ⟨hc4, hw⟩ | ⟨E7, hc4, rfl, rfl, h1, h6⟩
    · refine J_callV (as := [.int x1]) (k := 0) (st := []) cal_X9_requireBell cai_X9_requireBell gw_738 ⟨by decide, by decide⟩ cnt_X9_requireBell sh_0 rfl rfl (Nat.le_of_ble_eq_true rfl) dX9_positionOf_6 (Nat.zero_add _).symm (Nat.zero_add _).symm hc4 ?_
      exact hw
    · exact J_callVx (ht := rfl) (as := [.int x1]) (k := 0) (st := []) cal_X9_requireBell cai_X9_requireBell gw_738 ⟨by decide, by decide⟩ cnt_X9_requireBell sh_0 rfl rfl (Nat.le_of_ble_eq_true rfl) dX9_positionOf_6 hc4 h1 h6
  · exact J_callVx (ht := rfl) (as := []) (k := 0) (st := []) cal_X9_requireTower cai_X9_requireTower gw_733 ⟨by decide, by decide⟩ cnt_X9_requireTower sh_0 rfl rfl (Nat.le_of_ble_eq_true rfl) dX9_positionOf_1 hc1 h1 h6
set_option maxRecDepth 20000 in
theorem bX9_positionOf_9 {G : Gx} {mm : Nat → Nat → Int32} {lm : Nat → Int64} {x1 : Int32} {o : Ou} {z : Wd} {a b : Nat} (hw : ((Ct G M_X9_requireHanging [.ref 0, .int x1] (SH, mm, lm) false (.inl none) (SH, mm, lm) false 0 0 ∧ ∃ j4 : Nat, x1 = nI j4 ∧ j4 < 8 ∧ o = .inl (some (.int (mm (23 + j4) 1))) ∧ z = (SH, mm, lm)) ∨ (∃ (E5 : String), Ct G M_X9_requireHanging [.ref 0, .int x1] (SH, mm, lm) false (.inr E5) (SH, mm, lm) false 1 6 ∧ o = .inr E5 ∧ z = (SH, mm, lm) ∧ 1 ≤ a ∧ 6 ≤ b))) :
    J G M_X9_positionOf 9 [(0, .ref 0), (1, .int x1)] [] (SH, mm, lm) false o z false a b := by
  refine J_aload_n rfl (i := 0) rfl dX9_positionOf_9 ?_
  refine J_iload_n rfl (i := 1) rfl dX9_positionOf_10 ?_
  rcases hw with ⟨hc1, hw⟩ | ⟨E5, hc1, rfl, rfl, h1, h6⟩
  · refine J_callV (as := [.int x1]) (k := 0) (st := []) cal_X9_requireHanging cai_X9_requireHanging gw_824 ⟨by decide, by decide⟩ cnt_X9_requireHanging sh_0 rfl rfl (Nat.le_of_ble_eq_true rfl) dX9_positionOf_11 (Nat.zero_add _).symm (Nat.zero_add _).symm hc1 ?_
    refine J_aload_n rfl (i := 0) rfl dX9_positionOf_14 ?_
    refine J_getr kls_9 (q := 0) (k := 3) sh_0 (by decide) rfl gw_432 dX9_positionOf_15 ?_
    refine J_iload_n rfl (i := 1) rfl dX9_positionOf_18 ?_
    obtain ⟨j4, ej4, hj4, hw⟩ := hw
    refine J_aald (r := 23 + j4) sh_22 ej4 hj4 (by decide) (if_pos hj4) dX9_positionOf_19 ?_
    refine J_geti kls_0 (q := (23 + j4)) (k := 1) (sh_b23 hj4) (by decide) rfl gw_258 dX9_positionOf_20 ?_
    exact J_fini (ty := .int) rfl rfl dX9_positionOf_23 hw
  · exact J_callVx (ht := rfl) (as := [.int x1]) (k := 0) (st := []) cal_X9_requireHanging cai_X9_requireHanging gw_824 ⟨by decide, by decide⟩ cnt_X9_requireHanging sh_0 rfl rfl (Nat.le_of_ble_eq_true rfl) dX9_positionOf_11 hc1 h1 h6
theorem dX9_torque_0 : decode cX9_torque 0 = .ok (.aload_n 0, 1) := by decide +kernel
theorem dX9_torque_1 : decode cX9_torque 1 = .ok (.invokevirtual 122, 3) := by decide +kernel
theorem dX9_torque_4 : decode cX9_torque 4 = .ok (.aload_n 0, 1) := by decide +kernel
theorem dX9_torque_5 : decode cX9_torque 5 = .ok (.iload_n 1, 1) := by decide +kernel
theorem dX9_torque_6 : decode cX9_torque 6 = .ok (.invokevirtual 128, 3) := by decide +kernel
theorem dX9_torque_9 : decode cX9_torque 9 = .ok (.aload_n 0, 1) := by decide +kernel
theorem dX9_torque_10 : decode cX9_torque 10 = .ok (.getfield 38, 3) := by decide +kernel
theorem dX9_torque_13 : decode cX9_torque 13 = .ok (.iload_n 1, 1) := by decide +kernel
theorem dX9_torque_14 : decode cX9_torque 14 = .ok (.iconst (-1), 1) := by decide +kernel
theorem dX9_torque_15 : decode cX9_torque 15 = .ok (.invokevirtual 152, 3) := by decide +kernel
theorem dX9_torque_18 : decode cX9_torque 18 = .ok (.ireturn, 1) := by decide +kernel
set_option maxRecDepth 20000 in
theorem bX9_torque_0 {G : Gx} {mm : Nat → Nat → Int32} {lm : Nat → Int64} {x1 : Int32} {o : Ou} {z : Wd} {a b : Nat} (hw : ((Ct G M_X9_requireTower [.ref 0] (SH, mm, lm) false (.inl none) (SH, mm, lm) false 0 0 ∧ ((Ct G M_X9_requireBeam [.ref 0, .int x1] (SH, mm, lm) false (.inl none) (SH, mm, lm) false 0 0 ∧ J G M_X9_torque 9 [(0, .ref 0), (1, .int x1)] [] (SH, mm, lm) false o z false a b) ∨ (∃ (E7 : String), Ct G M_X9_requireBeam [.ref 0, .int x1] (SH, mm, lm) false (.inr E7) (SH, mm, lm) false 1 6 ∧ o = .inr E7 ∧ z = (SH, mm, lm) ∧ 1 ≤ a ∧ 6 ≤ b))) ∨ (∃ (E8 : String), Ct G M_X9_requireTower [.ref 0] (SH, mm, lm) false (.inr E8) (SH, mm, lm) false 1 6 ∧ o = .inr E8 ∧ z = (SH, mm, lm) ∧ 1 ≤ a ∧ 6 ≤ b))) :
    J G M_X9_torque 0 [(0, .ref 0), (1, .int x1)] [] (SH, mm, lm) false o z false a b := by
  refine J_aload_n rfl (i := 0) rfl dX9_torque_0 ?_
  rcases hw with ⟨hc1, hw⟩ | ⟨E8, hc1, rfl, rfl, h1, h6⟩
  · refine J_callV (as := []) (k := 0) (st := []) cal_X9_requireTower cai_X9_requireTower gw_733 ⟨by decide, by decide⟩ cnt_X9_requireTower sh_0 rfl rfl (Nat.le_of_ble_eq_true rfl) dX9_torque_1 (Nat.zero_add _).symm (Nat.zero_add _).symm hc1 ?_
    refine J_aload_n rfl (i := 0) rfl dX9_torque_4 ?_
    refine J_iload_n rfl (i := 1) rfl dX9_torque_5 ?_
    rcases hw with ⟨hc4, hw⟩ | ⟨E7, hc4, rfl, rfl, h1, h6⟩
    · refine J_callV (as := [.int x1]) (k := 0) (st := []) cal_X9_requireBeam cai_X9_requireBeam gw_742 ⟨by decide, by decide⟩ cnt_X9_requireBeam sh_0 rfl rfl (Nat.le_of_ble_eq_true rfl) dX9_torque_6 (Nat.zero_add _).symm (Nat.zero_add _).symm hc4 ?_
      exact hw
    · exact J_callVx (ht := rfl) (as := [.int x1]) (k := 0) (st := []) cal_X9_requireBeam cai_X9_requireBeam gw_742 ⟨by decide, by decide⟩ cnt_X9_requireBeam sh_0 rfl rfl (Nat.le_of_ble_eq_true rfl) dX9_torque_6 hc4 h1 h6
  · exact J_callVx (ht := rfl) (as := []) (k := 0) (st := []) cal_X9_requireTower cai_X9_requireTower gw_733 ⟨by decide, by decide⟩ cnt_X9_requireTower sh_0 rfl rfl (Nat.le_of_ble_eq_true rfl) dX9_torque_1 hc1 h1 h6
set_option maxRecDepth 20000 in
theorem bX9_torque_9 {G : Gx} {mm : Nat → Nat → Int32} {lm : Nat → Int64} {x1 : Int32} {o : Ou} {z : Wd} {a b : Nat} (hw : ∃ (v2 : Int32), Ct G M_X2_momentWithout [.ref 31, .int x1, .int (-1)] (SH, mm, lm) false (.inl (some (.int v2))) (SH, mm, lm) false 0 0 ∧ o = .inl (some (.int v2)) ∧ z = (SH, mm, lm)) :
    J G M_X9_torque 9 [(0, .ref 0), (1, .int x1)] [] (SH, mm, lm) false o z false a b := by
  refine J_aload_n rfl (i := 0) rfl dX9_torque_9 ?_
  refine J_getr kls_9 (q := 0) (k := 4) sh_0 (by decide) rfl gw_433 dX9_torque_10 ?_
  refine J_iload_n rfl (i := 1) rfl dX9_torque_13 ?_
  refine J_iconst (v := (-1)) (by decide) dX9_torque_14 ?_
  obtain ⟨v2, hc1, hw⟩ := hw
  refine J_callV (as := [.int x1, .int (-1)]) (k := 31) (st := []) cal_X2_momentWithout cai_X2_momentWithout gw_800 ⟨by decide, by decide⟩ cnt_X2_momentWithout sh_31 rfl rfl (Nat.le_of_ble_eq_true rfl) dX9_torque_15 (Nat.zero_add _).symm (Nat.zero_add _).symm hc1 ?_
  exact J_fini (ty := .int) rfl rfl dX9_torque_18 hw
theorem dX9_bellAt_0 : decode cX9_bellAt 0 = .ok (.aload_n 0, 1) := by decide +kernel
theorem dX9_bellAt_1 : decode cX9_bellAt 1 = .ok (.invokevirtual 122, 3) := by decide +kernel
theorem dX9_bellAt_4 : decode cX9_bellAt 4 = .ok (.aload_n 0, 1) := by decide +kernel
theorem dX9_bellAt_5 : decode cX9_bellAt 5 = .ok (.iload_n 1, 1) := by decide +kernel
theorem dX9_bellAt_6 : decode cX9_bellAt 6 = .ok (.invokevirtual 128, 3) := by decide +kernel
theorem dX9_bellAt_9 : decode cX9_bellAt 9 = .ok (.iload_n 2, 1) := by decide +kernel
theorem dX9_bellAt_10 : decode cX9_bellAt 10 = .ok (.iconst 0, 1) := by decide +kernel
theorem dX9_bellAt_11 : decode cX9_bellAt 11 = .ok (.ldc 166, 2) := by decide +kernel
theorem dX9_bellAt_13 : decode cX9_bellAt 13 = .ok (.invokestatic 96, 3) := by decide +kernel
theorem dX9_bellAt_16 : decode cX9_bellAt 16 = .ok (.aload_n 0, 1) := by decide +kernel
theorem dX9_bellAt_17 : decode cX9_bellAt 17 = .ok (.getfield 38, 3) := by decide +kernel
theorem dX9_bellAt_20 : decode cX9_bellAt 20 = .ok (.iload_n 1, 1) := by decide +kernel
theorem dX9_bellAt_21 : decode cX9_bellAt 21 = .ok (.iload_n 2, 1) := by decide +kernel
theorem dX9_bellAt_22 : decode cX9_bellAt 22 = .ok (.invokevirtual 167, 3) := by decide +kernel
theorem dX9_bellAt_25 : decode cX9_bellAt 25 = .ok (.ireturn, 1) := by decide +kernel
set_option maxRecDepth 20000 in
theorem bX9_bellAt_0 {G : Gx} {mm : Nat → Nat → Int32} {lm : Nat → Int64} {x1 : Int32} {x2 : Int32} {o : Ou} {z : Wd} {a b : Nat} (hw : ((Ct G M_X9_requireTower [.ref 0] (SH, mm, lm) false (.inl none) (SH, mm, lm) false 0 0 ∧ ((Ct G M_X9_requireBeam [.ref 0, .int x1] (SH, mm, lm) false (.inl none) (SH, mm, lm) false 0 0 ∧ ((Ct G M_X9_requireRange [.int x2, .int 0, .int 2147483647] (SH, mm, lm) false (.inl none) (SH, mm, lm) false 0 0 ∧ J G M_X9_bellAt 16 [(0, .ref 0), (1, .int x1), (2, .int x2)] [] (SH, mm, lm) false o z false a b) ∨ (∃ (E10 : String), Ct G M_X9_requireRange [.int x2, .int 0, .int 2147483647] (SH, mm, lm) false (.inr E10) (SH, mm, lm) false 1 6 ∧ o = .inr E10 ∧ z = (SH, mm, lm) ∧ 1 ≤ a ∧ 6 ≤ b))) ∨ (∃ (E11 : String), Ct G M_X9_requireBeam [.ref 0, .int x1] (SH, mm, lm) false (.inr E11) (SH, mm, lm) false 1 6 ∧ o = .inr E11 ∧ z = (SH, mm, lm) ∧ 1 ≤ a ∧ 6 ≤ b))) ∨ (∃ (E12 : String), Ct G M_X9_requireTower [.ref 0] (SH, mm, lm) false (.inr E12) (SH, mm, lm) false 1 6 ∧ o = .inr E12 ∧ z = (SH, mm, lm) ∧ 1 ≤ a ∧ 6 ≤ b))) :
    J G M_X9_bellAt 0 [(0, .ref 0), (1, .int x1), (2, .int x2)] [] (SH, mm, lm) false o z false a b := by
  refine J_aload_n rfl (i := 0) rfl dX9_bellAt_0 ?_
  rcases hw with ⟨hc1, hw⟩ | ⟨E12, hc1, rfl, rfl, h1, h6⟩
  · refine J_callV (as := []) (k := 0) (st := []) cal_X9_requireTower cai_X9_requireTower gw_733 ⟨by decide, by decide⟩ cnt_X9_requireTower sh_0 rfl rfl (Nat.le_of_ble_eq_true rfl) dX9_bellAt_1 (Nat.zero_add _).symm (Nat.zero_add _).symm hc1 ?_
    refine J_aload_n rfl (i := 0) rfl dX9_bellAt_4 ?_
    refine J_iload_n rfl (i := 1) rfl dX9_bellAt_5 ?_
    rcases hw with ⟨hc4, hw⟩ | ⟨E11, hc4, rfl, rfl, h1, h6⟩
    · refine J_callV (as := [.int x1]) (k := 0) (st := []) cal_X9_requireBeam cai_X9_requireBeam gw_742 ⟨by decide, by decide⟩ cnt_X9_requireBeam sh_0 rfl rfl (Nat.le_of_ble_eq_true rfl) dX9_bellAt_6 (Nat.zero_add _).symm (Nat.zero_add _).symm hc4 ?_
      refine J_iload_n rfl (i := 2) rfl dX9_bellAt_9 ?_
      refine J_iconst (v := 0) (by decide) dX9_bellAt_10 ?_
      refine J_ldc gw_858 dX9_bellAt_11 ?_
      rcases hw with ⟨hc7, hw⟩ | ⟨E10, hc7, rfl, rfl, h1, h6⟩
      · refine J_callS (as := [.int x2, .int 0, .int 2147483647]) (st := []) cal_X9_requireRange cas_X9_requireRange gw_707 ⟨by decide, by decide⟩ cnt_X9_requireRange rfl (Nat.le_of_ble_eq_true rfl) dX9_bellAt_13 (Nat.zero_add _).symm (Nat.zero_add _).symm hc7 ?_
        exact hw
      · exact J_callSx (ht := rfl) (as := [.int x2, .int 0, .int 2147483647]) (st := []) cal_X9_requireRange cas_X9_requireRange gw_707 ⟨by decide, by decide⟩ cnt_X9_requireRange rfl (Nat.le_of_ble_eq_true rfl) dX9_bellAt_13 hc7 h1 h6
    · exact J_callVx (ht := rfl) (as := [.int x1]) (k := 0) (st := []) cal_X9_requireBeam cai_X9_requireBeam gw_742 ⟨by decide, by decide⟩ cnt_X9_requireBeam sh_0 rfl rfl (Nat.le_of_ble_eq_true rfl) dX9_bellAt_6 hc4 h1 h6
  · exact J_callVx (ht := rfl) (as := []) (k := 0) (st := []) cal_X9_requireTower cai_X9_requireTower gw_733 ⟨by decide, by decide⟩ cnt_X9_requireTower sh_0 rfl rfl (Nat.le_of_ble_eq_true rfl) dX9_bellAt_1 hc1 h1 h6
set_option maxRecDepth 20000 in
theorem bX9_bellAt_16 {G : Gx} {mm : Nat → Nat → Int32} {lm : Nat → Int64} {x1 : Int32} {x2 : Int32} {o : Ou} {z : Wd} {a b : Nat} (hw : ∃ (v2 : Int32), Ct G M_X2_bellInPlace [.ref 31, .int x1, .int x2] (SH, mm, lm) false (.inl (some (.int v2))) (SH, mm, lm) false 0 0 ∧ o = .inl (some (.int v2)) ∧ z = (SH, mm, lm)) :
    J G M_X9_bellAt 16 [(0, .ref 0), (1, .int x1), (2, .int x2)] [] (SH, mm, lm) false o z false a b := by
  refine J_aload_n rfl (i := 0) rfl dX9_bellAt_16 ?_
  refine J_getr kls_9 (q := 0) (k := 4) sh_0 (by decide) rfl gw_433 dX9_bellAt_17 ?_
  refine J_iload_n rfl (i := 1) rfl dX9_bellAt_20 ?_
  refine J_iload_n rfl (i := 2) rfl dX9_bellAt_21 ?_
  obtain ⟨v2, hc1, hw⟩ := hw
  refine J_callV (as := [.int x1, .int x2]) (k := 31) (st := []) cal_X2_bellInPlace cai_X2_bellInPlace gw_859 ⟨by decide, by decide⟩ cnt_X2_bellInPlace sh_31 rfl rfl (Nat.le_of_ble_eq_true rfl) dX9_bellAt_22 (Nat.zero_add _).symm (Nat.zero_add _).symm hc1 ?_
  exact J_fini (ty := .int) rfl rfl dX9_bellAt_25 hw
theorem dX9_freePositions_0 : decode cX9_freePositions 0 = .ok (.aload_n 0, 1) := by decide +kernel
theorem dX9_freePositions_1 : decode cX9_freePositions 1 = .ok (.invokevirtual 122, 3) := by decide +kernel
theorem dX9_freePositions_4 : decode cX9_freePositions 4 = .ok (.aload_n 0, 1) := by decide +kernel
theorem dX9_freePositions_5 : decode cX9_freePositions 5 = .ok (.iload_n 1, 1) := by decide +kernel
theorem dX9_freePositions_6 : decode cX9_freePositions 6 = .ok (.invokevirtual 125, 3) := by decide +kernel
theorem dX9_freePositions_9 : decode cX9_freePositions 9 = .ok (.aload_n 0, 1) := by decide +kernel
theorem dX9_freePositions_10 : decode cX9_freePositions 10 = .ok (.iload_n 2, 1) := by decide +kernel
theorem dX9_freePositions_11 : decode cX9_freePositions 11 = .ok (.invokevirtual 128, 3) := by decide +kernel
theorem dX9_freePositions_14 : decode cX9_freePositions 14 = .ok (.aload_n 0, 1) := by decide +kernel
theorem dX9_freePositions_15 : decode cX9_freePositions 15 = .ok (.getfield 28, 3) := by decide +kernel
theorem dX9_freePositions_18 : decode cX9_freePositions 18 = .ok (.iload_n 1, 1) := by decide +kernel
theorem dX9_freePositions_19 : decode cX9_freePositions 19 = .ok (.aaload, 1) := by decide +kernel
theorem dX9_freePositions_20 : decode cX9_freePositions 20 = .ok (.invokevirtual 131, 3) := by decide +kernel
theorem dX9_freePositions_23 : decode cX9_freePositions 23 = .ok (.ifCond .eq 8, 3) := by decide +kernel
theorem dX9_freePositions_26 : decode cX9_freePositions 26 = .ok (.bipush (-2), 2) := by decide +kernel
theorem dX9_freePositions_28 : decode cX9_freePositions 28 = .ok (.goto 12, 3) := by decide +kernel
theorem dX9_freePositions_31 : decode cX9_freePositions 31 = .ok (.aload_n 0, 1) := by decide +kernel
theorem dX9_freePositions_32 : decode cX9_freePositions 32 = .ok (.getfield 38, 3) := by decide +kernel
theorem dX9_freePositions_35 : decode cX9_freePositions 35 = .ok (.iload_n 1, 1) := by decide +kernel
theorem dX9_freePositions_36 : decode cX9_freePositions 36 = .ok (.iload_n 2, 1) := by decide +kernel
theorem dX9_freePositions_37 : decode cX9_freePositions 37 = .ok (.invokevirtual 170, 3) := by decide +kernel
theorem dX9_freePositions_40 : decode cX9_freePositions 40 = .ok (.ireturn, 1) := by decide +kernel
set_option maxRecDepth 20000 in
theorem bX9_freePositions_0 {G : Gx} {mm : Nat → Nat → Int32} {lm : Nat → Int64} {x1 : Int32} {x2 : Int32} {o : Ou} {z : Wd} {a b : Nat} (hw : ((Ct G M_X9_requireTower [.ref 0] (SH, mm, lm) false (.inl none) (SH, mm, lm) false 0 0 ∧ ((Ct G M_X9_requireBell [.ref 0, .int x1] (SH, mm, lm) false (.inl none) (SH, mm, lm) false 0 0 ∧ ((Ct G M_X9_requireBeam [.ref 0, .int x2] (SH, mm, lm) false (.inl none) (SH, mm, lm) false 0 0 ∧ J G M_X9_freePositions 14 [(0, .ref 0), (1, .int x1), (2, .int x2)] [] (SH, mm, lm) false o z false a b) ∨ (∃ (E10 : String), Ct G M_X9_requireBeam [.ref 0, .int x2] (SH, mm, lm) false (.inr E10) (SH, mm, lm) false 1 6 ∧ o = .inr E10 ∧ z = (SH, mm, lm) ∧ 1 ≤ a ∧ 6 ≤ b))) ∨ (∃ (E11 : String), Ct G M_X9_requireBell [.ref 0, .int x1] (SH, mm, lm) false (.inr E11) (SH, mm, lm) false 1 6 ∧ o = .inr E11 ∧ z = (SH, mm, lm) ∧ 1 ≤ a ∧ 6 ≤ b))) ∨ (∃ (E12 : String), Ct G M_X9_requireTower [.ref 0] (SH, mm, lm) false (.inr E12) (SH, mm, lm) false 1 6 ∧ o = .inr E12 ∧ z = (SH, mm, lm) ∧ 1 ≤ a ∧ 6 ≤ b))) :
    J G M_X9_freePositions 0 [(0, .ref 0), (1, .int x1), (2, .int x2)] [] (SH, mm, lm) false o z false a b := by
  refine J_aload_n rfl (i := 0) rfl dX9_freePositions_0 ?_
  rcases hw with ⟨hc1, hw⟩ | ⟨E12, hc1, rfl, rfl, h1, h6⟩
  · refine J_callV (as := []) (k := 0) (st := []) cal_X9_requireTower cai_X9_requireTower gw_733 ⟨by decide, by decide⟩ cnt_X9_requireTower sh_0 rfl rfl (Nat.le_of_ble_eq_true rfl) dX9_freePositions_1 (Nat.zero_add _).symm (Nat.zero_add _).symm hc1 ?_
    refine J_aload_n rfl (i := 0) rfl dX9_freePositions_4 ?_
    refine J_iload_n rfl (i := 1) rfl dX9_freePositions_5 ?_
    rcases hw with ⟨hc4, hw⟩ | ⟨E11, hc4, rfl, rfl, h1, h6⟩
    · refine J_callV (as := [.int x1]) (k := 0) (st := []) cal_X9_requireBell cai_X9_requireBell gw_738 ⟨by decide, by decide⟩ cnt_X9_requireBell sh_0 rfl rfl (Nat.le_of_ble_eq_true rfl) dX9_freePositions_6 (Nat.zero_add _).symm (Nat.zero_add _).symm hc4 ?_
      refine J_aload_n rfl (i := 0) rfl dX9_freePositions_9 ?_
      refine J_iload_n rfl (i := 2) rfl dX9_freePositions_10 ?_
      rcases hw with ⟨hc7, hw⟩ | ⟨E10, hc7, rfl, rfl, h1, h6⟩
      · refine J_callV (as := [.int x2]) (k := 0) (st := []) cal_X9_requireBeam cai_X9_requireBeam gw_742 ⟨by decide, by decide⟩ cnt_X9_requireBeam sh_0 rfl rfl (Nat.le_of_ble_eq_true rfl) dX9_freePositions_11 (Nat.zero_add _).symm (Nat.zero_add _).symm hc7 ?_
        exact hw
      · exact J_callVx (ht := rfl) (as := [.int x2]) (k := 0) (st := []) cal_X9_requireBeam cai_X9_requireBeam gw_742 ⟨by decide, by decide⟩ cnt_X9_requireBeam sh_0 rfl rfl (Nat.le_of_ble_eq_true rfl) dX9_freePositions_11 hc7 h1 h6
    · exact J_callVx (ht := rfl) (as := [.int x1]) (k := 0) (st := []) cal_X9_requireBell cai_X9_requireBell gw_738 ⟨by decide, by decide⟩ cnt_X9_requireBell sh_0 rfl rfl (Nat.le_of_ble_eq_true rfl) dX9_freePositions_6 hc4 h1 h6
  · exact J_callVx (ht := rfl) (as := []) (k := 0) (st := []) cal_X9_requireTower cai_X9_requireTower gw_733 ⟨by decide, by decide⟩ cnt_X9_requireTower sh_0 rfl rfl (Nat.le_of_ble_eq_true rfl) dX9_freePositions_1 hc1 h1 h6
set_option maxRecDepth 20000 in
theorem bX9_freePositions_14 {G : Gx} {mm : Nat → Nat → Int32} {lm : Nat → Int64} {x1 : Int32} {x2 : Int32} {o : Ou} {z : Wd} {a b : Nat} (hw : ∃ j1 : Nat, x1 = nI j1 ∧ j1 < 8 ∧ ∃ (v3 : Int32), Ct G M_X0_hangs [.ref (23 + j1)] (SH, mm, lm) false (.inl (some (.int v3))) (SH, mm, lm) false 0 0 ∧ ((v3 = 0) → ∃ (v6 : Int32), Ct G M_X2_countPlaces [.ref 31, .int x1, .int x2] (SH, mm, lm) false (.inl (some (.int v6))) (SH, mm, lm) false 0 0 ∧ o = .inl (some (.int v6)) ∧ z = (SH, mm, lm)) ∧ ((¬ v3 = 0) → o = .inl (some (.int (-2))) ∧ z = (SH, mm, lm))) :
    J G M_X9_freePositions 14 [(0, .ref 0), (1, .int x1), (2, .int x2)] [] (SH, mm, lm) false o z false a b := by
  refine J_aload_n rfl (i := 0) rfl dX9_freePositions_14 ?_
  refine J_getr kls_9 (q := 0) (k := 3) sh_0 (by decide) rfl gw_432 dX9_freePositions_15 ?_
  refine J_iload_n rfl (i := 1) rfl dX9_freePositions_18 ?_
  obtain ⟨j1, ej1, hj1, hw⟩ := hw
  refine J_aald (r := 23 + j1) sh_22 ej1 hj1 (by decide) (if_pos hj1) dX9_freePositions_19 ?_
  obtain ⟨v3, hc2, hw⟩ := hw
  refine J_callV (as := []) (k := (23 + j1)) (st := []) cal_X0_hangs cai_X0_hangs gw_746 ⟨by decide, by decide⟩ cnt_X0_hangs (sh_b23 hj1) rfl rfl (Nat.le_of_ble_eq_true rfl) dX9_freePositions_20 (Nat.zero_add _).symm (Nat.zero_add _).symm hc2 ?_
  refine J_if_eq (tgt := 31) dX9_freePositions_23 (by decide) (fun hb8 => ?_) (fun hb8 => ?_)
  · replace hw := hw.1 hb8
    refine J_aload_n rfl (i := 0) rfl dX9_freePositions_31 ?_
    refine J_getr kls_9 (q := 0) (k := 4) sh_0 (by decide) rfl gw_433 dX9_freePositions_32 ?_
    refine J_iload_n rfl (i := 1) rfl dX9_freePositions_35 ?_
    refine J_iload_n rfl (i := 2) rfl dX9_freePositions_36 ?_
    obtain ⟨v6, hc5, hw⟩ := hw
    refine J_callV (as := [.int x1, .int x2]) (k := 31) (st := []) cal_X2_countPlaces cai_X2_countPlaces gw_879 ⟨by decide, by decide⟩ cnt_X2_countPlaces sh_31 rfl rfl (Nat.le_of_ble_eq_true rfl) dX9_freePositions_37 (Nat.zero_add _).symm (Nat.zero_add _).symm hc5 ?_
    exact J_fini (ty := .int) rfl rfl dX9_freePositions_40 hw
  · replace hw := hw.2 hb8
    refine J_bipush (v := (-2)) (by decide) dX9_freePositions_26 ?_
    refine J_goto (tgt := 40) dX9_freePositions_28 (by decide) ?_
    exact J_fini (ty := .int) rfl rfl dX9_freePositions_40 hw
theorem dX9_bestPosition_0 : decode cX9_bestPosition 0 = .ok (.aload_n 0, 1) := by decide +kernel
theorem dX9_bestPosition_1 : decode cX9_bestPosition 1 = .ok (.invokevirtual 122, 3) := by decide +kernel
theorem dX9_bestPosition_4 : decode cX9_bestPosition 4 = .ok (.aload_n 0, 1) := by decide +kernel
theorem dX9_bestPosition_5 : decode cX9_bestPosition 5 = .ok (.iload_n 1, 1) := by decide +kernel
theorem dX9_bestPosition_6 : decode cX9_bestPosition 6 = .ok (.invokevirtual 125, 3) := by decide +kernel
theorem dX9_bestPosition_9 : decode cX9_bestPosition 9 = .ok (.aload_n 0, 1) := by decide +kernel
theorem dX9_bestPosition_10 : decode cX9_bestPosition 10 = .ok (.iload_n 2, 1) := by decide +kernel
theorem dX9_bestPosition_11 : decode cX9_bestPosition 11 = .ok (.invokevirtual 128, 3) := by decide +kernel
theorem dX9_bestPosition_14 : decode cX9_bestPosition 14 = .ok (.aload_n 0, 1) := by decide +kernel
theorem dX9_bestPosition_15 : decode cX9_bestPosition 15 = .ok (.getfield 28, 3) := by decide +kernel
theorem dX9_bestPosition_18 : decode cX9_bestPosition 18 = .ok (.iload_n 1, 1) := by decide +kernel
theorem dX9_bestPosition_19 : decode cX9_bestPosition 19 = .ok (.aaload, 1) := by decide +kernel
theorem dX9_bestPosition_20 : decode cX9_bestPosition 20 = .ok (.invokevirtual 131, 3) := by decide +kernel
theorem dX9_bestPosition_23 : decode cX9_bestPosition 23 = .ok (.ifCond .eq 8, 3) := by decide +kernel
theorem dX9_bestPosition_26 : decode cX9_bestPosition 26 = .ok (.bipush (-2), 2) := by decide +kernel
theorem dX9_bestPosition_28 : decode cX9_bestPosition 28 = .ok (.goto 12, 3) := by decide +kernel
theorem dX9_bestPosition_31 : decode cX9_bestPosition 31 = .ok (.aload_n 0, 1) := by decide +kernel
theorem dX9_bestPosition_32 : decode cX9_bestPosition 32 = .ok (.getfield 38, 3) := by decide +kernel
theorem dX9_bestPosition_35 : decode cX9_bestPosition 35 = .ok (.iload_n 1, 1) := by decide +kernel
theorem dX9_bestPosition_36 : decode cX9_bestPosition 36 = .ok (.iload_n 2, 1) := by decide +kernel
theorem dX9_bestPosition_37 : decode cX9_bestPosition 37 = .ok (.invokevirtual 173, 3) := by decide +kernel
theorem dX9_bestPosition_40 : decode cX9_bestPosition 40 = .ok (.ireturn, 1) := by decide +kernel
set_option maxRecDepth 20000 in
theorem bX9_bestPosition_0 {G : Gx} {mm : Nat → Nat → Int32} {lm : Nat → Int64} {x1 : Int32} {x2 : Int32} {o : Ou} {z : Wd} {a b : Nat} (hw : ((Ct G M_X9_requireTower [.ref 0] (SH, mm, lm) false (.inl none) (SH, mm, lm) false 0 0 ∧ ((Ct G M_X9_requireBell [.ref 0, .int x1] (SH, mm, lm) false (.inl none) (SH, mm, lm) false 0 0 ∧ ((Ct G M_X9_requireBeam [.ref 0, .int x2] (SH, mm, lm) false (.inl none) (SH, mm, lm) false 0 0 ∧ J G M_X9_bestPosition 14 [(0, .ref 0), (1, .int x1), (2, .int x2)] [] (SH, mm, lm) false o z false a b) ∨ (∃ (E10 : String), Ct G M_X9_requireBeam [.ref 0, .int x2] (SH, mm, lm) false (.inr E10) (SH, mm, lm) false 1 6 ∧ o = .inr E10 ∧ z = (SH, mm, lm) ∧ 1 ≤ a ∧ 6 ≤ b))) ∨ (∃ (E11 : String), Ct G M_X9_requireBell [.ref 0, .int x1] (SH, mm, lm) false (.inr E11) (SH, mm, lm) false 1 6 ∧ o = .inr E11 ∧ z = (SH, mm, lm) ∧ 1 ≤ a ∧ 6 ≤ b))) ∨ (∃ (E12 : String), Ct G M_X9_requireTower [.ref 0] (SH, mm, lm) false (.inr E12) (SH, mm, lm) false 1 6 ∧ o = .inr E12 ∧ z = (SH, mm, lm) ∧ 1 ≤ a ∧ 6 ≤ b))) :
    J G M_X9_bestPosition 0 [(0, .ref 0), (1, .int x1), (2, .int x2)] [] (SH, mm, lm) false o z false a b := by
  refine J_aload_n rfl (i := 0) rfl dX9_bestPosition_0 ?_
  rcases hw with ⟨hc1, hw⟩ | ⟨E12, hc1, rfl, rfl, h1, h6⟩
  · refine J_callV (as := []) (k := 0) (st := []) cal_X9_requireTower cai_X9_requireTower gw_733 ⟨by decide, by decide⟩ cnt_X9_requireTower sh_0 rfl rfl (Nat.le_of_ble_eq_true rfl) dX9_bestPosition_1 (Nat.zero_add _).symm (Nat.zero_add _).symm hc1 ?_
    refine J_aload_n rfl (i := 0) rfl dX9_bestPosition_4 ?_
    refine J_iload_n rfl (i := 1) rfl dX9_bestPosition_5 ?_
    rcases hw with ⟨hc4, hw⟩ | ⟨E11, hc4, rfl, rfl, h1, h6⟩
    · refine J_callV (as := [.int x1]) (k := 0) (st := []) cal_X9_requireBell cai_X9_requireBell gw_738 ⟨by decide, by decide⟩ cnt_X9_requireBell sh_0 rfl rfl (Nat.le_of_ble_eq_true rfl) dX9_bestPosition_6 (Nat.zero_add _).symm (Nat.zero_add _).symm hc4 ?_
      refine J_aload_n rfl (i := 0) rfl dX9_bestPosition_9 ?_
      refine J_iload_n rfl (i := 2) rfl dX9_bestPosition_10 ?_
      rcases hw with ⟨hc7, hw⟩ | ⟨E10, hc7, rfl, rfl, h1, h6⟩
      · refine J_callV (as := [.int x2]) (k := 0) (st := []) cal_X9_requireBeam cai_X9_requireBeam gw_742 ⟨by decide, by decide⟩ cnt_X9_requireBeam sh_0 rfl rfl (Nat.le_of_ble_eq_true rfl) dX9_bestPosition_11 (Nat.zero_add _).symm (Nat.zero_add _).symm hc7 ?_
        exact hw
      · exact J_callVx (ht := rfl) (as := [.int x2]) (k := 0) (st := []) cal_X9_requireBeam cai_X9_requireBeam gw_742 ⟨by decide, by decide⟩ cnt_X9_requireBeam sh_0 rfl rfl (Nat.le_of_ble_eq_true rfl) dX9_bestPosition_11 hc7 h1 h6
    · exact J_callVx (ht := rfl) (as := [.int x1]) (k := 0) (st := []) cal_X9_requireBell cai_X9_requireBell gw_738 ⟨by decide, by decide⟩ cnt_X9_requireBell sh_0 rfl rfl (Nat.le_of_ble_eq_true rfl) dX9_bestPosition_6 hc4 h1 h6
  · exact J_callVx (ht := rfl) (as := []) (k := 0) (st := []) cal_X9_requireTower cai_X9_requireTower gw_733 ⟨by decide, by decide⟩ cnt_X9_requireTower sh_0 rfl rfl (Nat.le_of_ble_eq_true rfl) dX9_bestPosition_1 hc1 h1 h6
set_option maxRecDepth 20000 in
theorem bX9_bestPosition_14 {G : Gx} {mm : Nat → Nat → Int32} {lm : Nat → Int64} {x1 : Int32} {x2 : Int32} {o : Ou} {z : Wd} {a b : Nat} (hw : ∃ j1 : Nat, x1 = nI j1 ∧ j1 < 8 ∧ ∃ (v3 : Int32), Ct G M_X0_hangs [.ref (23 + j1)] (SH, mm, lm) false (.inl (some (.int v3))) (SH, mm, lm) false 0 0 ∧ ((v3 = 0) → ∃ (v6 : Int32), Ct G M_X2_calmestPlace [.ref 31, .int x1, .int x2] (SH, mm, lm) false (.inl (some (.int v6))) (SH, mm, lm) false 0 0 ∧ o = .inl (some (.int v6)) ∧ z = (SH, mm, lm)) ∧ ((¬ v3 = 0) → o = .inl (some (.int (-2))) ∧ z = (SH, mm, lm))) :
    J G M_X9_bestPosition 14 [(0, .ref 0), (1, .int x1), (2, .int x2)] [] (SH, mm, lm) false o z false a b := by
  refine J_aload_n rfl (i := 0) rfl dX9_bestPosition_14 ?_
  refine J_getr kls_9 (q := 0) (k := 3) sh_0 (by decide) rfl gw_432 dX9_bestPosition_15 ?_
  refine J_iload_n rfl (i := 1) rfl dX9_bestPosition_18 ?_
  obtain ⟨j1, ej1, hj1, hw⟩ := hw
  refine J_aald (r := 23 + j1) sh_22 ej1 hj1 (by decide) (if_pos hj1) dX9_bestPosition_19 ?_
  obtain ⟨v3, hc2, hw⟩ := hw
  refine J_callV (as := []) (k := (23 + j1)) (st := []) cal_X0_hangs cai_X0_hangs gw_746 ⟨by decide, by decide⟩ cnt_X0_hangs (sh_b23 hj1) rfl rfl (Nat.le_of_ble_eq_true rfl) dX9_bestPosition_20 (Nat.zero_add _).symm (Nat.zero_add _).symm hc2 ?_
  refine J_if_eq (tgt := 31) dX9_bestPosition_23 (by decide) (fun hb8 => ?_) (fun hb8 => ?_)
  · replace hw := hw.1 hb8
    refine J_aload_n rfl (i := 0) rfl dX9_bestPosition_31 ?_
    refine J_getr kls_9 (q := 0) (k := 4) sh_0 (by decide) rfl gw_433 dX9_bestPosition_32 ?_
    refine J_iload_n rfl (i := 1) rfl dX9_bestPosition_35 ?_
    refine J_iload_n rfl (i := 2) rfl dX9_bestPosition_36 ?_
    obtain ⟨v6, hc5, hw⟩ := hw
    refine J_callV (as := [.int x1, .int x2]) (k := 31) (st := []) cal_X2_calmestPlace cai_X2_calmestPlace gw_891 ⟨by decide, by decide⟩ cnt_X2_calmestPlace sh_31 rfl rfl (Nat.le_of_ble_eq_true rfl) dX9_bestPosition_37 (Nat.zero_add _).symm (Nat.zero_add _).symm hc5 ?_
    exact J_fini (ty := .int) rfl rfl dX9_bestPosition_40 hw
  · replace hw := hw.2 hb8
    refine J_bipush (v := (-2)) (by decide) dX9_bestPosition_26 ?_
    refine J_goto (tgt := 40) dX9_bestPosition_28 (by decide) ?_
    exact J_fini (ty := .int) rfl rfl dX9_bestPosition_40 hw
theorem dX9_mirroredTorque_0 : decode cX9_mirroredTorque 0 = .ok (.aload_n 0, 1) := by decide +kernel
theorem dX9_mirroredTorque_1 : decode cX9_mirroredTorque 1 = .ok (.invokevirtual 122, 3) := by decide +kernel
theorem dX9_mirroredTorque_4 : decode cX9_mirroredTorque 4 = .ok (.aload_n 0, 1) := by decide +kernel
theorem dX9_mirroredTorque_5 : decode cX9_mirroredTorque 5 = .ok (.iload_n 1, 1) := by decide +kernel
theorem dX9_mirroredTorque_6 : decode cX9_mirroredTorque 6 = .ok (.invokevirtual 128, 3) := by decide +kernel
theorem dX9_mirroredTorque_9 : decode cX9_mirroredTorque 9 = .ok (.aload_n 0, 1) := by decide +kernel
theorem dX9_mirroredTorque_10 : decode cX9_mirroredTorque 10 = .ok (.getfield 38, 3) := by decide +kernel
theorem dX9_mirroredTorque_13 : decode cX9_mirroredTorque 13 = .ok (.iload_n 1, 1) := by decide +kernel
theorem dX9_mirroredTorque_14 : decode cX9_mirroredTorque 14 = .ok (.aload_n 0, 1) := by decide +kernel
theorem dX9_mirroredTorque_15 : decode cX9_mirroredTorque 15 = .ok (.getfield 38, 3) := by decide +kernel
theorem dX9_mirroredTorque_18 : decode cX9_mirroredTorque 18 = .ok (.iload_n 1, 1) := by decide +kernel
theorem dX9_mirroredTorque_19 : decode cX9_mirroredTorque 19 = .ok (.invokevirtual 176, 3) := by decide +kernel
theorem dX9_mirroredTorque_22 : decode cX9_mirroredTorque 22 = .ok (.invokevirtual 179, 3) := by decide +kernel
theorem dX9_mirroredTorque_25 : decode cX9_mirroredTorque 25 = .ok (.invokestatic 182, 3) := by decide +kernel
theorem dX9_mirroredTorque_28 : decode cX9_mirroredTorque 28 = .ok (.ireturn, 1) := by decide +kernel
set_option maxRecDepth 20000 in
theorem bX9_mirroredTorque_0 {G : Gx} {mm : Nat → Nat → Int32} {lm : Nat → Int64} {x1 : Int32} {o : Ou} {z : Wd} {a b : Nat} (hw : ((Ct G M_X9_requireTower [.ref 0] (SH, mm, lm) false (.inl none) (SH, mm, lm) false 0 0 ∧ ((Ct G M_X9_requireBeam [.ref 0, .int x1] (SH, mm, lm) false (.inl none) (SH, mm, lm) false 0 0 ∧ J G M_X9_mirroredTorque 9 [(0, .ref 0), (1, .int x1)] [] (SH, mm, lm) false o z false a b) ∨ (∃ (E7 : String), Ct G M_X9_requireBeam [.ref 0, .int x1] (SH, mm, lm) false (.inr E7) (SH, mm, lm) false 1 6 ∧ o = .inr E7 ∧ z = (SH, mm, lm) ∧ 1 ≤ a ∧ 6 ≤ b))) ∨ (∃ (E8 : String), Ct G M_X9_requireTower [.ref 0] (SH, mm, lm) false (.inr E8) (SH, mm, lm) false 1 6 ∧ o = .inr E8 ∧ z = (SH, mm, lm) ∧ 1 ≤ a ∧ 6 ≤ b))) :
    J G M_X9_mirroredTorque 0 [(0, .ref 0), (1, .int x1)] [] (SH, mm, lm) false o z false a b := by
  refine J_aload_n rfl (i := 0) rfl dX9_mirroredTorque_0 ?_
  rcases hw with ⟨hc1, hw⟩ | ⟨E8, hc1, rfl, rfl, h1, h6⟩
  · refine J_callV (as := []) (k := 0) (st := []) cal_X9_requireTower cai_X9_requireTower gw_733 ⟨by decide, by decide⟩ cnt_X9_requireTower sh_0 rfl rfl (Nat.le_of_ble_eq_true rfl) dX9_mirroredTorque_1 (Nat.zero_add _).symm (Nat.zero_add _).symm hc1 ?_
    refine J_aload_n rfl (i := 0) rfl dX9_mirroredTorque_4 ?_
    refine J_iload_n rfl (i := 1) rfl dX9_mirroredTorque_5 ?_
    rcases hw with ⟨hc4, hw⟩ | ⟨E7, hc4, rfl, rfl, h1, h6⟩
    · refine J_callV (as := [.int x1]) (k := 0) (st := []) cal_X9_requireBeam cai_X9_requireBeam gw_742 ⟨by decide, by decide⟩ cnt_X9_requireBeam sh_0 rfl rfl (Nat.le_of_ble_eq_true rfl) dX9_mirroredTorque_6 (Nat.zero_add _).symm (Nat.zero_add _).symm hc4 ?_
      exact hw
    · exact J_callVx (ht := rfl) (as := [.int x1]) (k := 0) (st := []) cal_X9_requireBeam cai_X9_requireBeam gw_742 ⟨by decide, by decide⟩ cnt_X9_requireBeam sh_0 rfl rfl (Nat.le_of_ble_eq_true rfl) dX9_mirroredTorque_6 hc4 h1 h6
  · exact J_callVx (ht := rfl) (as := []) (k := 0) (st := []) cal_X9_requireTower cai_X9_requireTower gw_733 ⟨by decide, by decide⟩ cnt_X9_requireTower sh_0 rfl rfl (Nat.le_of_ble_eq_true rfl) dX9_mirroredTorque_1 hc1 h1 h6
set_option maxRecDepth 20000 in
theorem bX9_mirroredTorque_9 {G : Gx} {mm : Nat → Nat → Int32} {lm : Nat → Int64} {x1 : Int32} {o : Ou} {z : Wd} {a b : Nat} (hw : ∃ (v2 : Int32), Ct G M_X2_bestMirror [.ref 31, .int x1] (SH, mm, lm) false (.inl (some (.int v2))) (SH, mm, lm) false 0 0 ∧ ∃ (v5 : Int32), Ct G M_X2_momentMirrored [.ref 31, .int x1, .int v2] (SH, mm, lm) false (.inl (some (.int v5))) (SH, mm, lm) false 0 0 ∧ ∃ (v8 : Int32), Ct G M_J9_abs_0f7a4 [.int v5] (SH, mm, lm) false (.inl (some (.int v8))) (SH, mm, lm) false 0 0 ∧ o = .inl (some (.int v8)) ∧ z = (SH, mm, lm)) :
    J G M_X9_mirroredTorque 9 [(0, .ref 0), (1, .int x1)] [] (SH, mm, lm) false o z false a b := by
  refine J_aload_n rfl (i := 0) rfl dX9_mirroredTorque_9 ?_
  refine J_getr kls_9 (q := 0) (k := 4) sh_0 (by decide) rfl gw_433 dX9_mirroredTorque_10 ?_
  refine J_iload_n rfl (i := 1) rfl dX9_mirroredTorque_13 ?_
  refine J_aload_n rfl (i := 0) rfl dX9_mirroredTorque_14 ?_
  refine J_getr kls_9 (q := 0) (k := 4) sh_0 (by decide) rfl gw_433 dX9_mirroredTorque_15 ?_
  refine J_iload_n rfl (i := 1) rfl dX9_mirroredTorque_18 ?_
  obtain ⟨v2, hc1, hw⟩ := hw
  refine J_callV (as := [.int x1]) (k := 31) (st := [.int x1, .ref 31]) cal_X2_bestMirror cai_X2_bestMirror gw_904 ⟨by decide, by decide⟩ cnt_X2_bestMirror sh_31 rfl rfl (Nat.le_of_ble_eq_true rfl) dX9_mirroredTorque_19 (Nat.zero_add _).symm (Nat.zero_add _).symm hc1 ?_
  obtain ⟨v5, hc4, hw⟩ := hw
  refine J_callV (as := [.int x1, .int v2]) (k := 31) (st := []) cal_X2_momentMirrored cai_X2_momentMirrored gw_930 ⟨by decide, by decide⟩ cnt_X2_momentMirrored sh_31 rfl rfl (Nat.le_of_ble_eq_true rfl) dX9_mirroredTorque_22 (Nat.zero_add _).symm (Nat.zero_add _).symm hc4 ?_
  obtain ⟨v8, hc7, hw⟩ := hw
  refine J_callS (as := [.int v5]) (st := []) cal_J9_abs_0f7a4 cas_J9_abs_0f7a4 gw_931 ⟨by decide, by decide⟩ cnt_J9_abs_0f7a4 rfl (Nat.le_of_ble_eq_true rfl) dX9_mirroredTorque_25 (Nat.zero_add _).symm (Nat.zero_add _).symm hc7 ?_
  exact J_fini (ty := .int) rfl rfl dX9_mirroredTorque_28 hw
theorem dX9_mirroredBells_0 : decode cX9_mirroredBells 0 = .ok (.aload_n 0, 1) := by decide +kernel
theorem dX9_mirroredBells_1 : decode cX9_mirroredBells 1 = .ok (.invokevirtual 122, 3) := by decide +kernel
theorem dX9_mirroredBells_4 : decode cX9_mirroredBells 4 = .ok (.aload_n 0, 1) := by decide +kernel
theorem dX9_mirroredBells_5 : decode cX9_mirroredBells 5 = .ok (.iload_n 1, 1) := by decide +kernel
theorem dX9_mirroredBells_6 : decode cX9_mirroredBells 6 = .ok (.invokevirtual 128, 3) := by decide +kernel
theorem dX9_mirroredBells_9 : decode cX9_mirroredBells 9 = .ok (.aload_n 0, 1) := by decide +kernel
theorem dX9_mirroredBells_10 : decode cX9_mirroredBells 10 = .ok (.getfield 38, 3) := by decide +kernel
theorem dX9_mirroredBells_13 : decode cX9_mirroredBells 13 = .ok (.iload_n 1, 1) := by decide +kernel
theorem dX9_mirroredBells_14 : decode cX9_mirroredBells 14 = .ok (.invokevirtual 176, 3) := by decide +kernel
theorem dX9_mirroredBells_17 : decode cX9_mirroredBells 17 = .ok (.ireturn, 1) := by decide +kernel
set_option maxRecDepth 20000 in
theorem bX9_mirroredBells_0 {G : Gx} {mm : Nat → Nat → Int32} {lm : Nat → Int64} {x1 : Int32} {o : Ou} {z : Wd} {a b : Nat} (hw : ((Ct G M_X9_requireTower [.ref 0] (SH, mm, lm) false (.inl none) (SH, mm, lm) false 0 0 ∧ ((Ct G M_X9_requireBeam [.ref 0, .int x1] (SH, mm, lm) false (.inl none) (SH, mm, lm) false 0 0 ∧ J G M_X9_mirroredBells 9 [(0, .ref 0), (1, .int x1)] [] (SH, mm, lm) false o z false a b) ∨ (∃ (E7 : String), Ct G M_X9_requireBeam [.ref 0, .int x1] (SH, mm, lm) false (.inr E7) (SH, mm, lm) false 1 6 ∧ o = .inr E7 ∧ z = (SH, mm, lm) ∧ 1 ≤ a ∧ 6 ≤ b))) ∨ (∃ (E8 : String), Ct G M_X9_requireTower [.ref 0] (SH, mm, lm) false (.inr E8) (SH, mm, lm) false 1 6 ∧ o = .inr E8 ∧ z = (SH, mm, lm) ∧ 1 ≤ a ∧ 6 ≤ b))) :
    J G M_X9_mirroredBells 0 [(0, .ref 0), (1, .int x1)] [] (SH, mm, lm) false o z false a b := by
  refine J_aload_n rfl (i := 0) rfl dX9_mirroredBells_0 ?_
  rcases hw with ⟨hc1, hw⟩ | ⟨E8, hc1, rfl, rfl, h1, h6⟩
  · refine J_callV (as := []) (k := 0) (st := []) cal_X9_requireTower cai_X9_requireTower gw_733 ⟨by decide, by decide⟩ cnt_X9_requireTower sh_0 rfl rfl (Nat.le_of_ble_eq_true rfl) dX9_mirroredBells_1 (Nat.zero_add _).symm (Nat.zero_add _).symm hc1 ?_
    refine J_aload_n rfl (i := 0) rfl dX9_mirroredBells_4 ?_
    refine J_iload_n rfl (i := 1) rfl dX9_mirroredBells_5 ?_
    rcases hw with ⟨hc4, hw⟩ | ⟨E7, hc4, rfl, rfl, h1, h6⟩
    · refine J_callV (as := [.int x1]) (k := 0) (st := []) cal_X9_requireBeam cai_X9_requireBeam gw_742 ⟨by decide, by decide⟩ cnt_X9_requireBeam sh_0 rfl rfl (Nat.le_of_ble_eq_true rfl) dX9_mirroredBells_6 (Nat.zero_add _).symm (Nat.zero_add _).symm hc4 ?_
      exact hw
    · exact J_callVx (ht := rfl) (as := [.int x1]) (k := 0) (st := []) cal_X9_requireBeam cai_X9_requireBeam gw_742 ⟨by decide, by decide⟩ cnt_X9_requireBeam sh_0 rfl rfl (Nat.le_of_ble_eq_true rfl) dX9_mirroredBells_6 hc4 h1 h6
  · exact J_callVx (ht := rfl) (as := []) (k := 0) (st := []) cal_X9_requireTower cai_X9_requireTower gw_733 ⟨by decide, by decide⟩ cnt_X9_requireTower sh_0 rfl rfl (Nat.le_of_ble_eq_true rfl) dX9_mirroredBells_1 hc1 h1 h6
set_option maxRecDepth 20000 in
theorem bX9_mirroredBells_9 {G : Gx} {mm : Nat → Nat → Int32} {lm : Nat → Int64} {x1 : Int32} {o : Ou} {z : Wd} {a b : Nat} (hw : ∃ (v2 : Int32), Ct G M_X2_bestMirror [.ref 31, .int x1] (SH, mm, lm) false (.inl (some (.int v2))) (SH, mm, lm) false 0 0 ∧ o = .inl (some (.int v2)) ∧ z = (SH, mm, lm)) :
    J G M_X9_mirroredBells 9 [(0, .ref 0), (1, .int x1)] [] (SH, mm, lm) false o z false a b := by
  refine J_aload_n rfl (i := 0) rfl dX9_mirroredBells_9 ?_
  refine J_getr kls_9 (q := 0) (k := 4) sh_0 (by decide) rfl gw_433 dX9_mirroredBells_10 ?_
  refine J_iload_n rfl (i := 1) rfl dX9_mirroredBells_13 ?_
  obtain ⟨v2, hc1, hw⟩ := hw
  refine J_callV (as := [.int x1]) (k := 31) (st := []) cal_X2_bestMirror cai_X2_bestMirror gw_904 ⟨by decide, by decide⟩ cnt_X2_bestMirror sh_31 rfl rfl (Nat.le_of_ble_eq_true rfl) dX9_mirroredBells_14 (Nat.zero_add _).symm (Nat.zero_add _).symm hc1 ?_
  exact J_fini (ty := .int) rfl rfl dX9_mirroredBells_17 hw
theorem dX9_setPlan_0 : decode cX9_setPlan 0 = .ok (.aload_n 0, 1) := by decide +kernel
theorem dX9_setPlan_1 : decode cX9_setPlan 1 = .ok (.invokevirtual 122, 3) := by decide +kernel
theorem dX9_setPlan_4 : decode cX9_setPlan 4 = .ok (.aload_n 0, 1) := by decide +kernel
theorem dX9_setPlan_5 : decode cX9_setPlan 5 = .ok (.iload_n 1, 1) := by decide +kernel
theorem dX9_setPlan_6 : decode cX9_setPlan 6 = .ok (.invokevirtual 125, 3) := by decide +kernel
theorem dX9_setPlan_9 : decode cX9_setPlan 9 = .ok (.aload_n 0, 1) := by decide +kernel
theorem dX9_setPlan_10 : decode cX9_setPlan 10 = .ok (.iload_n 2, 1) := by decide +kernel
theorem dX9_setPlan_11 : decode cX9_setPlan 11 = .ok (.invokevirtual 128, 3) := by decide +kernel
theorem dX9_setPlan_14 : decode cX9_setPlan 14 = .ok (.iload_n 3, 1) := by decide +kernel
theorem dX9_setPlan_15 : decode cX9_setPlan 15 = .ok (.bipush (-15), 2) := by decide +kernel
theorem dX9_setPlan_17 : decode cX9_setPlan 17 = .ok (.bipush 15, 2) := by decide +kernel
theorem dX9_setPlan_19 : decode cX9_setPlan 19 = .ok (.invokestatic 96, 3) := by decide +kernel
theorem dX9_setPlan_22 : decode cX9_setPlan 22 = .ok (.aload_n 0, 1) := by decide +kernel
theorem dX9_setPlan_23 : decode cX9_setPlan 23 = .ok (.iload_n 1, 1) := by decide +kernel
theorem dX9_setPlan_24 : decode cX9_setPlan 24 = .ok (.invokevirtual 139, 3) := by decide +kernel
theorem dX9_setPlan_27 : decode cX9_setPlan 27 = .ok (.aload_n 0, 1) := by decide +kernel
theorem dX9_setPlan_28 : decode cX9_setPlan 28 = .ok (.getfield 28, 3) := by decide +kernel
theorem dX9_setPlan_31 : decode cX9_setPlan 31 = .ok (.iload_n 1, 1) := by decide +kernel
theorem dX9_setPlan_32 : decode cX9_setPlan 32 = .ok (.aaload, 1) := by decide +kernel
theorem dX9_setPlan_33 : decode cX9_setPlan 33 = .ok (.iload_n 2, 1) := by decide +kernel
theorem dX9_setPlan_34 : decode cX9_setPlan 34 = .ok (.putfield 187, 3) := by decide +kernel
theorem dX9_setPlan_37 : decode cX9_setPlan 37 = .ok (.aload_n 0, 1) := by decide +kernel
theorem dX9_setPlan_38 : decode cX9_setPlan 38 = .ok (.getfield 28, 3) := by decide +kernel
theorem dX9_setPlan_41 : decode cX9_setPlan 41 = .ok (.iload_n 1, 1) := by decide +kernel
theorem dX9_setPlan_42 : decode cX9_setPlan 42 = .ok (.aaload, 1) := by decide +kernel
theorem dX9_setPlan_43 : decode cX9_setPlan 43 = .ok (.iload_n 3, 1) := by decide +kernel
theorem dX9_setPlan_44 : decode cX9_setPlan 44 = .ok (.putfield 190, 3) := by decide +kernel
theorem dX9_setPlan_47 : decode cX9_setPlan 47 = .ok (.aload_n 0, 1) := by decide +kernel
theorem dX9_setPlan_48 : decode cX9_setPlan 48 = .ok (.getfield 45, 3) := by decide +kernel
theorem dX9_setPlan_51 : decode cX9_setPlan 51 = .ok (.invokevirtual 193, 3) := by decide +kernel
theorem dX9_setPlan_54 : decode cX9_setPlan 54 = .ok (.ireturn, 1) := by decide +kernel
set_option maxRecDepth 20000 in
theorem bX9_setPlan_0 {G : Gx} {mm : Nat → Nat → Int32} {lm : Nat → Int64} {x1 : Int32} {x2 : Int32} {x3 : Int32} {o : Ou} {z : Wd} {a b : Nat} (hw : ((Ct G M_X9_requireTower [.ref 0] (SH, mm, lm) false (.inl none) (SH, mm, lm) false 0 0 ∧ ((Ct G M_X9_requireBell [.ref 0, .int x1] (SH, mm, lm) false (.inl none) (SH, mm, lm) false 0 0 ∧ ((Ct G M_X9_requireBeam [.ref 0, .int x2] (SH, mm, lm) false (.inl none) (SH, mm, lm) false 0 0 ∧ ((Ct G M_X9_requireRange [.int x3, .int (-15), .int 15] (SH, mm, lm) false (.inl none) (SH, mm, lm) false 0 0 ∧ J G M_X9_setPlan 22 [(0, .ref 0), (1, .int x1), (2, .int x2), (3, .int x3)] [] (SH, mm, lm) false o z false a b) ∨ (∃ (E13 : String), Ct G M_X9_requireRange [.int x3, .int (-15), .int 15] (SH, mm, lm) false (.inr E13) (SH, mm, lm) false 1 6 ∧ o = .inr E13 ∧ z = (SH, mm, lm) ∧ 1 ≤ a ∧ 6 ≤ b))) ∨ (∃ (E14 : String), Ct G M_X9_requireBeam [.ref 0, .int x2] (SH, mm, lm) false (.inr E14) (SH, mm, lm) false 1 6 ∧ o = .inr E14 ∧ z = (SH, mm, lm) ∧ 1 ≤ a ∧ 6 ≤ b))) ∨ (∃ (E15 : String), Ct G M_X9_requireBell [.ref 0, .int x1] (SH, mm, lm) false (.inr E15) (SH, mm, lm) false 1 6 ∧ o = .inr E15 ∧ z = (SH, mm, lm) ∧ 1 ≤ a ∧ 6 ≤ b))) ∨ (∃ (E16 : String), Ct G M_X9_requireTower [.ref 0] (SH, mm, lm) false (.inr E16) (SH, mm, lm) false 1 6 ∧ o = .inr E16 ∧ z = (SH, mm, lm) ∧ 1 ≤ a ∧ 6 ≤ b))) :
    J G M_X9_setPlan 0 [(0, .ref 0), (1, .int x1), (2, .int x2), (3, .int x3)] [] (SH, mm, lm) false o z false a b := by
  refine J_aload_n rfl (i := 0) rfl dX9_setPlan_0 ?_
  rcases hw with ⟨hc1, hw⟩ | ⟨E16, hc1, rfl, rfl, h1, h6⟩
  · refine J_callV (as := []) (k := 0) (st := []) cal_X9_requireTower cai_X9_requireTower gw_733 ⟨by decide, by decide⟩ cnt_X9_requireTower sh_0 rfl rfl (Nat.le_of_ble_eq_true rfl) dX9_setPlan_1 (Nat.zero_add _).symm (Nat.zero_add _).symm hc1 ?_
    refine J_aload_n rfl (i := 0) rfl dX9_setPlan_4 ?_
    refine J_iload_n rfl (i := 1) rfl dX9_setPlan_5 ?_
    rcases hw with ⟨hc4, hw⟩ | ⟨E15, hc4, rfl, rfl, h1, h6⟩
    · refine J_callV (as := [.int x1]) (k := 0) (st := []) cal_X9_requireBell cai_X9_requireBell gw_738 ⟨by decide, by decide⟩ cnt_X9_requireBell sh_0 rfl rfl (Nat.le_of_ble_eq_true rfl) dX9_setPlan_6 (Nat.zero_add _).symm (Nat.zero_add _).symm hc4 ?_
      refine J_aload_n rfl (i := 0) rfl dX9_setPlan_9 ?_
      refine J_iload_n rfl (i := 2) rfl dX9_setPlan_10 ?_
      rcases hw with ⟨hc7, hw⟩ | ⟨E14, hc7, rfl, rfl, h1, h6⟩
      · refine J_callV (as := [.int x2]) (k := 0) (st := []) cal_X9_requireBeam cai_X9_requireBeam gw_742 ⟨by decide, by decide⟩ cnt_X9_requireBeam sh_0 rfl rfl (Nat.le_of_ble_eq_true rfl) dX9_setPlan_11 (Nat.zero_add _).symm (Nat.zero_add _).symm hc7 ?_
        refine J_iload_n rfl (i := 3) rfl dX9_setPlan_14 ?_
        refine J_bipush (v := (-15)) (by decide) dX9_setPlan_15 ?_
        refine J_bipush (v := 15) (by decide) dX9_setPlan_17 ?_
        rcases hw with ⟨hc10, hw⟩ | ⟨E13, hc10, rfl, rfl, h1, h6⟩
        · refine J_callS (as := [.int x3, .int (-15), .int 15]) (st := []) cal_X9_requireRange cas_X9_requireRange gw_707 ⟨by decide, by decide⟩ cnt_X9_requireRange rfl (Nat.le_of_ble_eq_true rfl) dX9_setPlan_19 (Nat.zero_add _).symm (Nat.zero_add _).symm hc10 ?_
          exact hw
        · exact J_callSx (ht := rfl) (as := [.int x3, .int (-15), .int 15]) (st := []) cal_X9_requireRange cas_X9_requireRange gw_707 ⟨by decide, by decide⟩ cnt_X9_requireRange rfl (Nat.le_of_ble_eq_true rfl) dX9_setPlan_19 hc10 h1 h6
      · exact J_callVx (ht := rfl) (as := [.int x2]) (k := 0) (st := []) cal_X9_requireBeam cai_X9_requireBeam gw_742 ⟨by decide, by decide⟩ cnt_X9_requireBeam sh_0 rfl rfl (Nat.le_of_ble_eq_true rfl) dX9_setPlan_11 hc7 h1 h6
    · exact J_callVx (ht := rfl) (as := [.int x1]) (k := 0) (st := []) cal_X9_requireBell cai_X9_requireBell gw_738 ⟨by decide, by decide⟩ cnt_X9_requireBell sh_0 rfl rfl (Nat.le_of_ble_eq_true rfl) dX9_setPlan_6 hc4 h1 h6
  · exact J_callVx (ht := rfl) (as := []) (k := 0) (st := []) cal_X9_requireTower cai_X9_requireTower gw_733 ⟨by decide, by decide⟩ cnt_X9_requireTower sh_0 rfl rfl (Nat.le_of_ble_eq_true rfl) dX9_setPlan_1 hc1 h1 h6
set_option maxRecDepth 20000 in
theorem bX9_setPlan_22 {G : Gx} {mm : Nat → Nat → Int32} {lm : Nat → Int64} {x1 : Int32} {x2 : Int32} {x3 : Int32} {o : Ou} {z : Wd} {a b : Nat} (hw : ∃ (m3 : Nat → Nat → Int32), Ct G M_X9_rememberBell [.ref 0, .int x1] (SH, mm, lm) false (.inl none) (SH, m3, lm) false 0 0 ∧ ∃ j4 : Nat, x1 = nI j4 ∧ j4 < 8 ∧ ∃ j5 : Nat, x1 = nI j5 ∧ j5 < 8 ∧ ∃ (v7 : Int32), Ct G M_X4_countPlanned [.ref 32] (SH, (mset (mset m3 (23 + j4) 2 x2) (23 + j5) 3 x3), lm) false (.inl (some (.int v7))) (SH, (mset (mset m3 (23 + j4) 2 x2) (23 + j5) 3 x3), lm) false 0 0 ∧ o = .inl (some (.int v7)) ∧ z = (SH, (mset (mset m3 (23 + j4) 2 x2) (23 + j5) 3 x3), lm)) :
    J G M_X9_setPlan 22 [(0, .ref 0), (1, .int x1), (2, .int x2), (3, .int x3)] [] (SH, mm, lm) false o z false a b := by
  refine J_aload_n rfl (i := 0) rfl dX9_setPlan_22 ?_
  refine J_iload_n rfl (i := 1) rfl dX9_setPlan_23 ?_
  obtain ⟨m3, hc1, hw⟩ := hw
  refine J_callV (as := [.int x1]) (k := 0) (st := []) cal_X9_rememberBell cai_X9_rememberBell gw_777 ⟨by decide, by decide⟩ cnt_X9_rememberBell sh_0 rfl rfl (Nat.le_of_ble_eq_true rfl) dX9_setPlan_24 (Nat.zero_add _).symm (Nat.zero_add _).symm hc1 ?_
  refine J_aload_n rfl (i := 0) rfl dX9_setPlan_27 ?_
  refine J_getr kls_9 (q := 0) (k := 3) sh_0 (by decide) rfl gw_432 dX9_setPlan_28 ?_
  refine J_iload_n rfl (i := 1) rfl dX9_setPlan_31 ?_
  obtain ⟨j4, ej4, hj4, hw⟩ := hw
  refine J_aald (r := 23 + j4) sh_22 ej4 hj4 (by decide) (if_pos hj4) dX9_setPlan_32 ?_
  refine J_iload_n rfl (i := 2) rfl dX9_setPlan_33 ?_
  refine J_puti kls_0 (q := (23 + j4)) (k := 2) (sh_b23 hj4) (by decide) rfl rfl (fun _ => rfl) (fun _ => rfl) gw_261 dX9_setPlan_34 ?_
  refine J_aload_n rfl (i := 0) rfl dX9_setPlan_37 ?_
  refine J_getr kls_9 (q := 0) (k := 3) sh_0 (by decide) rfl gw_432 dX9_setPlan_38 ?_
  refine J_iload_n rfl (i := 1) rfl dX9_setPlan_41 ?_
  obtain ⟨j5, ej5, hj5, hw⟩ := hw
  refine J_aald (r := 23 + j5) sh_22 ej5 hj5 (by decide) (if_pos hj5) dX9_setPlan_42 ?_
  refine J_iload_n rfl (i := 3) rfl dX9_setPlan_43 ?_
  refine J_puti kls_0 (q := (23 + j5)) (k := 3) (sh_b23 hj5) (by decide) rfl rfl (fun _ => rfl) (fun _ => rfl) gw_265 dX9_setPlan_44 ?_
  refine J_aload_n rfl (i := 0) rfl dX9_setPlan_47 ?_
  refine J_getr kls_9 (q := 0) (k := 5) sh_0 (by decide) rfl gw_434 dX9_setPlan_48 ?_
  obtain ⟨v7, hc6, hw⟩ := hw
  refine J_callV (as := []) (k := 32) (st := []) cal_X4_countPlanned cai_X4_countPlanned gw_946 ⟨by decide, by decide⟩ cnt_X4_countPlanned sh_32 rfl rfl (Nat.le_of_ble_eq_true rfl) dX9_setPlan_51 (Nat.zero_add _).symm (Nat.zero_add _).symm hc6 ?_
  exact J_fini (ty := .int) rfl rfl dX9_setPlan_54 hw
theorem dX9_clearPlan_0 : decode cX9_clearPlan 0 = .ok (.aload_n 0, 1) := by decide +kernel
theorem dX9_clearPlan_1 : decode cX9_clearPlan 1 = .ok (.invokevirtual 122, 3) := by decide +kernel
theorem dX9_clearPlan_4 : decode cX9_clearPlan 4 = .ok (.aload_n 0, 1) := by decide +kernel
theorem dX9_clearPlan_5 : decode cX9_clearPlan 5 = .ok (.iload_n 1, 1) := by decide +kernel
theorem dX9_clearPlan_6 : decode cX9_clearPlan 6 = .ok (.invokevirtual 125, 3) := by decide +kernel
theorem dX9_clearPlan_9 : decode cX9_clearPlan 9 = .ok (.aload_n 0, 1) := by decide +kernel
theorem dX9_clearPlan_10 : decode cX9_clearPlan 10 = .ok (.getfield 28, 3) := by decide +kernel
theorem dX9_clearPlan_13 : decode cX9_clearPlan 13 = .ok (.iload_n 1, 1) := by decide +kernel
theorem dX9_clearPlan_14 : decode cX9_clearPlan 14 = .ok (.aaload, 1) := by decide +kernel
theorem dX9_clearPlan_15 : decode cX9_clearPlan 15 = .ok (.invokevirtual 197, 3) := by decide +kernel
theorem dX9_clearPlan_18 : decode cX9_clearPlan 18 = .ok (.ifCond .ne 6, 3) := by decide +kernel
theorem dX9_clearPlan_21 : decode cX9_clearPlan 21 = .ok (.bipush (-2), 2) := by decide +kernel
theorem dX9_clearPlan_23 : decode cX9_clearPlan 23 = .ok (.ireturn, 1) := by decide +kernel
theorem dX9_clearPlan_24 : decode cX9_clearPlan 24 = .ok (.aload_n 0, 1) := by decide +kernel
theorem dX9_clearPlan_25 : decode cX9_clearPlan 25 = .ok (.iload_n 1, 1) := by decide +kernel
theorem dX9_clearPlan_26 : decode cX9_clearPlan 26 = .ok (.invokevirtual 139, 3) := by decide +kernel
theorem dX9_clearPlan_29 : decode cX9_clearPlan 29 = .ok (.aload_n 0, 1) := by decide +kernel
theorem dX9_clearPlan_30 : decode cX9_clearPlan 30 = .ok (.getfield 28, 3) := by decide +kernel
theorem dX9_clearPlan_33 : decode cX9_clearPlan 33 = .ok (.iload_n 1, 1) := by decide +kernel
theorem dX9_clearPlan_34 : decode cX9_clearPlan 34 = .ok (.aaload, 1) := by decide +kernel
theorem dX9_clearPlan_35 : decode cX9_clearPlan 35 = .ok (.iconst (-1), 1) := by decide +kernel
theorem dX9_clearPlan_36 : decode cX9_clearPlan 36 = .ok (.putfield 187, 3) := by decide +kernel
theorem dX9_clearPlan_39 : decode cX9_clearPlan 39 = .ok (.aload_n 0, 1) := by decide +kernel
theorem dX9_clearPlan_40 : decode cX9_clearPlan 40 = .ok (.getfield 45, 3) := by decide +kernel
theorem dX9_clearPlan_43 : decode cX9_clearPlan 43 = .ok (.invokevirtual 193, 3) := by decide +kernel
theorem dX9_clearPlan_46 : decode cX9_clearPlan 46 = .ok (.ireturn, 1) := by decide +kernel
set_option maxRecDepth 20000 in
theorem bX9_clearPlan_0 {G : Gx} {mm : Nat → Nat → Int32} {lm : Nat → Int64} {x1 : Int32} {o : Ou} {z : Wd} {a b : Nat} (hw : ((Ct G M_X9_requireTower [.ref 0] (SH, mm, lm) false (.inl none) (SH, mm, lm) false 0 0 ∧ ((Ct G M_X9_requireBell [.ref 0, .int x1] (SH, mm, lm) false (.inl none) (SH, mm, lm) false 0 0 ∧ J G M_X9_clearPlan 9 [(0, .ref 0), (1, .int x1)] [] (SH, mm, lm) false o z false a b) ∨ (∃ (E7 : String), Ct G M_X9_requireBell [.ref 0, .int x1] (SH, mm, lm) false (.inr E7) (SH, mm, lm) false 1 6 ∧ o = .inr E7 ∧ z = (SH, mm, lm) ∧ 1 ≤ a ∧ 6 ≤ b))) ∨ (∃ (E8 : String), Ct G M_X9_requireTower [.ref 0] (SH, mm, lm) false (.inr E8) (SH, mm, lm) false 1 6 ∧ o = .inr E8 ∧ z = (SH, mm, lm) ∧ 1 ≤ a ∧ 6 ≤ b))) :
    J G M_X9_clearPlan 0 [(0, .ref 0), (1, .int x1)] [] (SH, mm, lm) false o z false a b := by
  refine J_aload_n rfl (i := 0) rfl dX9_clearPlan_0 ?_
  rcases hw with ⟨hc1, hw⟩ | ⟨E8, hc1, rfl, rfl, h1, h6⟩
  · refine J_callV (as := []) (k := 0) (st := []) cal_X9_requireTower cai_X9_requireTower gw_733 ⟨by decide, by decide⟩ cnt_X9_requireTower sh_0 rfl rfl (Nat.le_of_ble_eq_true rfl) dX9_clearPlan_1 (Nat.zero_add _).symm (Nat.zero_add _).symm hc1 ?_
    refine J_aload_n rfl (i := 0) rfl dX9_clearPlan_4 ?_
    refine J_iload_n rfl (i := 1) rfl dX9_clearPlan_5 ?_
    rcases hw with ⟨hc4, hw⟩ | ⟨E7, hc4, rfl, rfl, h1, h6⟩
    · refine J_callV (as := [.int x1]) (k := 0) (st := []) cal_X9_requireBell cai_X9_requireBell gw_738 ⟨by decide, by decide⟩ cnt_X9_requireBell sh_0 rfl rfl (Nat.le_of_ble_eq_true rfl) dX9_clearPlan_6 (Nat.zero_add _).symm (Nat.zero_add _).symm hc4 ?_
      exact hw
    · exact J_callVx (ht := rfl) (as := [.int x1]) (k := 0) (st := []) cal_X9_requireBell cai_X9_requireBell gw_738 ⟨by decide, by decide⟩ cnt_X9_requireBell sh_0 rfl rfl (Nat.le_of_ble_eq_true rfl) dX9_clearPlan_6 hc4 h1 h6
  · exact J_callVx (ht := rfl) (as := []) (k := 0) (st := []) cal_X9_requireTower cai_X9_requireTower gw_733 ⟨by decide, by decide⟩ cnt_X9_requireTower sh_0 rfl rfl (Nat.le_of_ble_eq_true rfl) dX9_clearPlan_1 hc1 h1 h6
set_option maxRecDepth 20000 in
theorem bX9_clearPlan_9 {G : Gx} {mm : Nat → Nat → Int32} {lm : Nat → Int64} {x1 : Int32} {o : Ou} {z : Wd} {a b : Nat} (hw : ∃ j1 : Nat, x1 = nI j1 ∧ j1 < 8 ∧ ∃ (v3 : Int32), Ct G M_X0_hasPlan [.ref (23 + j1)] (SH, mm, lm) false (.inl (some (.int v3))) (SH, mm, lm) false 0 0 ∧ ((¬ v3 = 0) → ∃ (m7 : Nat → Nat → Int32), Ct G M_X9_rememberBell [.ref 0, .int x1] (SH, mm, lm) false (.inl none) (SH, m7, lm) false 0 0 ∧ ∃ j8 : Nat, x1 = nI j8 ∧ j8 < 8 ∧ ∃ (v10 : Int32), Ct G M_X4_countPlanned [.ref 32] (SH, (mset m7 (23 + j8) 2 (-1)), lm) false (.inl (some (.int v10))) (SH, (mset m7 (23 + j8) 2 (-1)), lm) false 0 0 ∧ o = .inl (some (.int v10)) ∧ z = (SH, (mset m7 (23 + j8) 2 (-1)), lm)) ∧ ((v3 = 0) → o = .inl (some (.int (-2))) ∧ z = (SH, mm, lm))) :
    J G M_X9_clearPlan 9 [(0, .ref 0), (1, .int x1)] [] (SH, mm, lm) false o z false a b := by
  refine J_aload_n rfl (i := 0) rfl dX9_clearPlan_9 ?_
  refine J_getr kls_9 (q := 0) (k := 3) sh_0 (by decide) rfl gw_432 dX9_clearPlan_10 ?_
  refine J_iload_n rfl (i := 1) rfl dX9_clearPlan_13 ?_
  obtain ⟨j1, ej1, hj1, hw⟩ := hw
  refine J_aald (r := 23 + j1) sh_22 ej1 hj1 (by decide) (if_pos hj1) dX9_clearPlan_14 ?_
  obtain ⟨v3, hc2, hw⟩ := hw
  refine J_callV (as := []) (k := (23 + j1)) (st := []) cal_X0_hasPlan cai_X0_hasPlan gw_961 ⟨by decide, by decide⟩ cnt_X0_hasPlan (sh_b23 hj1) rfl rfl (Nat.le_of_ble_eq_true rfl) dX9_clearPlan_15 (Nat.zero_add _).symm (Nat.zero_add _).symm hc2 ?_
  refine J_if_ne (tgt := 24) dX9_clearPlan_18 (by decide) (fun hb12 => ?_) (fun hb12 => ?_)
  · replace hw := hw.1 hb12
    refine J_aload_n rfl (i := 0) rfl dX9_clearPlan_24 ?_
    refine J_iload_n rfl (i := 1) rfl dX9_clearPlan_25 ?_
    obtain ⟨m7, hc5, hw⟩ := hw
    refine J_callV (as := [.int x1]) (k := 0) (st := []) cal_X9_rememberBell cai_X9_rememberBell gw_777 ⟨by decide, by decide⟩ cnt_X9_rememberBell sh_0 rfl rfl (Nat.le_of_ble_eq_true rfl) dX9_clearPlan_26 (Nat.zero_add _).symm (Nat.zero_add _).symm hc5 ?_
    refine J_aload_n rfl (i := 0) rfl dX9_clearPlan_29 ?_
    refine J_getr kls_9 (q := 0) (k := 3) sh_0 (by decide) rfl gw_432 dX9_clearPlan_30 ?_
    refine J_iload_n rfl (i := 1) rfl dX9_clearPlan_33 ?_
    obtain ⟨j8, ej8, hj8, hw⟩ := hw
    refine J_aald (r := 23 + j8) sh_22 ej8 hj8 (by decide) (if_pos hj8) dX9_clearPlan_34 ?_
    refine J_iconst (v := (-1)) (by decide) dX9_clearPlan_35 ?_
    refine J_puti kls_0 (q := (23 + j8)) (k := 2) (sh_b23 hj8) (by decide) rfl rfl (fun _ => rfl) (fun _ => rfl) gw_261 dX9_clearPlan_36 ?_
    refine J_aload_n rfl (i := 0) rfl dX9_clearPlan_39 ?_
    refine J_getr kls_9 (q := 0) (k := 5) sh_0 (by decide) rfl gw_434 dX9_clearPlan_40 ?_
    obtain ⟨v10, hc9, hw⟩ := hw
    refine J_callV (as := []) (k := 32) (st := []) cal_X4_countPlanned cai_X4_countPlanned gw_946 ⟨by decide, by decide⟩ cnt_X4_countPlanned sh_32 rfl rfl (Nat.le_of_ble_eq_true rfl) dX9_clearPlan_43 (Nat.zero_add _).symm (Nat.zero_add _).symm hc9 ?_
    exact J_fini (ty := .int) rfl rfl dX9_clearPlan_46 hw
  · replace hw := hw.2 hb12
    refine J_bipush (v := (-2)) (by decide) dX9_clearPlan_21 ?_
    exact J_fini (ty := .int) rfl rfl dX9_clearPlan_23 hw
theorem dX9_planConflicts_0 : decode cX9_planConflicts 0 = .ok (.aload_n 0, 1) := by decide +kernel
theorem dX9_planConflicts_1 : decode cX9_planConflicts 1 = .ok (.invokevirtual 122, 3) := by decide +kernel
theorem dX9_planConflicts_4 : decode cX9_planConflicts 4 = .ok (.aload_n 0, 1) := by decide +kernel
theorem dX9_planConflicts_5 : decode cX9_planConflicts 5 = .ok (.getfield 45, 3) := by decide +kernel
theorem dX9_planConflicts_8 : decode cX9_planConflicts 8 = .ok (.invokevirtual 200, 3) := by decide +kernel
theorem dX9_planConflicts_11 : decode cX9_planConflicts 11 = .ok (.ireturn, 1) := by decide +kernel
set_option maxRecDepth 20000 in
theorem bX9_planConflicts_0 {G : Gx} {mm : Nat → Nat → Int32} {lm : Nat → Int64}  {o : Ou} {z : Wd} {a b : Nat} (hw : ((Ct G M_X9_requireTower [.ref 0] (SH, mm, lm) false (.inl none) (SH, mm, lm) false 0 0 ∧ J G M_X9_planConflicts 4 [(0, .ref 0)] [] (SH, mm, lm) false o z false a b) ∨ (∃ (E4 : String), Ct G M_X9_requireTower [.ref 0] (SH, mm, lm) false (.inr E4) (SH, mm, lm) false 1 6 ∧ o = .inr E4 ∧ z = (SH, mm, lm) ∧ 1 ≤ a ∧ 6 ≤ b))) :
    J G M_X9_planConflicts 0 [(0, .ref 0)] [] (SH, mm, lm) false o z false a b := by
  refine J_aload_n rfl (i := 0) rfl dX9_planConflicts_0 ?_
  rcases hw with ⟨hc1, hw⟩ | ⟨E4, hc1, rfl, rfl, h1, h6⟩
  · refine J_callV (as := []) (k := 0) (st := []) cal_X9_requireTower cai_X9_requireTower gw_733 ⟨by decide, by decide⟩ cnt_X9_requireTower sh_0 rfl rfl (Nat.le_of_ble_eq_true rfl) dX9_planConflicts_1 (Nat.zero_add _).symm (Nat.zero_add _).symm hc1 ?_
    exact hw
  · exact J_callVx (ht := rfl) (as := []) (k := 0) (st := []) cal_X9_requireTower cai_X9_requireTower gw_733 ⟨by decide, by decide⟩ cnt_X9_requireTower sh_0 rfl rfl (Nat.le_of_ble_eq_true rfl) dX9_planConflicts_1 hc1 h1 h6
set_option maxRecDepth 20000 in
theorem bX9_planConflicts_4 {G : Gx} {mm : Nat → Nat → Int32} {lm : Nat → Int64}  {o : Ou} {z : Wd} {a b : Nat} (hw : ∃ (v2 : Int32) (m3 : Nat → Nat → Int32), Ct G M_X4_countConflicts [.ref 32] (SH, mm, lm) false (.inl (some (.int v2))) (SH, m3, lm) false 0 0 ∧ o = .inl (some (.int v2)) ∧ z = (SH, m3, lm)) :
    J G M_X9_planConflicts 4 [(0, .ref 0)] [] (SH, mm, lm) false o z false a b := by
  refine J_aload_n rfl (i := 0) rfl dX9_planConflicts_4 ?_
  refine J_getr kls_9 (q := 0) (k := 5) sh_0 (by decide) rfl gw_434 dX9_planConflicts_5 ?_
  obtain ⟨v2, m3, hc1, hw⟩ := hw
  refine J_callV (as := []) (k := 32) (st := []) cal_X4_countConflicts cai_X4_countConflicts gw_969 ⟨by decide, by decide⟩ cnt_X4_countConflicts sh_32 rfl rfl (Nat.le_of_ble_eq_true rfl) dX9_planConflicts_8 (Nat.zero_add _).symm (Nat.zero_add _).symm hc1 ?_
  exact J_fini (ty := .int) rfl rfl dX9_planConflicts_11 hw
theorem dX9_planUnbalanced_0 : decode cX9_planUnbalanced 0 = .ok (.aload_n 0, 1) := by decide +kernel
theorem dX9_planUnbalanced_1 : decode cX9_planUnbalanced 1 = .ok (.invokevirtual 122, 3) := by decide +kernel
theorem dX9_planUnbalanced_4 : decode cX9_planUnbalanced 4 = .ok (.aload_n 0, 1) := by decide +kernel
theorem dX9_planUnbalanced_5 : decode cX9_planUnbalanced 5 = .ok (.getfield 45, 3) := by decide +kernel
theorem dX9_planUnbalanced_8 : decode cX9_planUnbalanced 8 = .ok (.invokevirtual 203, 3) := by decide +kernel
theorem dX9_planUnbalanced_11 : decode cX9_planUnbalanced 11 = .ok (.ireturn, 1) := by decide +kernel
set_option maxRecDepth 20000 in
theorem bX9_planUnbalanced_0 {G : Gx} {mm : Nat → Nat → Int32} {lm : Nat → Int64}  {o : Ou} {z : Wd} {a b : Nat} (hw : ((Ct G M_X9_requireTower [.ref 0] (SH, mm, lm) false (.inl none) (SH, mm, lm) false 0 0 ∧ J G M_X9_planUnbalanced 4 [(0, .ref 0)] [] (SH, mm, lm) false o z false a b) ∨ (∃ (E4 : String), Ct G M_X9_requireTower [.ref 0] (SH, mm, lm) false (.inr E4) (SH, mm, lm) false 1 6 ∧ o = .inr E4 ∧ z = (SH, mm, lm) ∧ 1 ≤ a ∧ 6 ≤ b))) :
    J G M_X9_planUnbalanced 0 [(0, .ref 0)] [] (SH, mm, lm) false o z false a b := by
  refine J_aload_n rfl (i := 0) rfl dX9_planUnbalanced_0 ?_
  rcases hw with ⟨hc1, hw⟩ | ⟨E4, hc1, rfl, rfl, h1, h6⟩
  · refine J_callV (as := []) (k := 0) (st := []) cal_X9_requireTower cai_X9_requireTower gw_733 ⟨by decide, by decide⟩ cnt_X9_requireTower sh_0 rfl rfl (Nat.le_of_ble_eq_true rfl) dX9_planUnbalanced_1 (Nat.zero_add _).symm (Nat.zero_add _).symm hc1 ?_
    exact hw
  · exact J_callVx (ht := rfl) (as := []) (k := 0) (st := []) cal_X9_requireTower cai_X9_requireTower gw_733 ⟨by decide, by decide⟩ cnt_X9_requireTower sh_0 rfl rfl (Nat.le_of_ble_eq_true rfl) dX9_planUnbalanced_1 hc1 h1 h6
set_option maxRecDepth 20000 in
theorem bX9_planUnbalanced_4 {G : Gx} {mm : Nat → Nat → Int32} {lm : Nat → Int64}  {o : Ou} {z : Wd} {a b : Nat} (hw : ∃ (v2 : Int32) (m3 : Nat → Nat → Int32), Ct G M_X4_unbalancedBeams [.ref 32] (SH, mm, lm) false (.inl (some (.int v2))) (SH, m3, lm) false 0 0 ∧ o = .inl (some (.int v2)) ∧ z = (SH, m3, lm)) :
    J G M_X9_planUnbalanced 4 [(0, .ref 0)] [] (SH, mm, lm) false o z false a b := by
  refine J_aload_n rfl (i := 0) rfl dX9_planUnbalanced_4 ?_
  refine J_getr kls_9 (q := 0) (k := 5) sh_0 (by decide) rfl gw_434 dX9_planUnbalanced_5 ?_
  obtain ⟨v2, m3, hc1, hw⟩ := hw
  refine J_callV (as := []) (k := 32) (st := []) cal_X4_unbalancedBeams cai_X4_unbalancedBeams gw_1007 ⟨by decide, by decide⟩ cnt_X4_unbalancedBeams sh_32 rfl rfl (Nat.le_of_ble_eq_true rfl) dX9_planUnbalanced_8 (Nat.zero_add _).symm (Nat.zero_add _).symm hc1 ?_
  exact J_fini (ty := .int) rfl rfl dX9_planUnbalanced_11 hw
theorem dX9_stepsToPlan_0 : decode cX9_stepsToPlan 0 = .ok (.aload_n 0, 1) := by decide +kernel
theorem dX9_stepsToPlan_1 : decode cX9_stepsToPlan 1 = .ok (.invokevirtual 122, 3) := by decide +kernel
theorem dX9_stepsToPlan_4 : decode cX9_stepsToPlan 4 = .ok (.aload_n 0, 1) := by decide +kernel
theorem dX9_stepsToPlan_5 : decode cX9_stepsToPlan 5 = .ok (.getfield 45, 3) := by decide +kernel
theorem dX9_stepsToPlan_8 : decode cX9_stepsToPlan 8 = .ok (.invokevirtual 206, 3) := by decide +kernel
theorem dX9_stepsToPlan_11 : decode cX9_stepsToPlan 11 = .ok (.ifCond .eq 13, 3) := by decide +kernel
theorem dX9_stepsToPlan_14 : decode cX9_stepsToPlan 14 = .ok (.aload_n 0, 1) := by decide +kernel
theorem dX9_stepsToPlan_15 : decode cX9_stepsToPlan 15 = .ok (.getfield 45, 3) := by decide +kernel
theorem dX9_stepsToPlan_18 : decode cX9_stepsToPlan 18 = .ok (.invokevirtual 209, 3) := by decide +kernel
theorem dX9_stepsToPlan_21 : decode cX9_stepsToPlan 21 = .ok (.goto 5, 3) := by decide +kernel
theorem dX9_stepsToPlan_24 : decode cX9_stepsToPlan 24 = .ok (.bipush (-2), 2) := by decide +kernel
theorem dX9_stepsToPlan_26 : decode cX9_stepsToPlan 26 = .ok (.ireturn, 1) := by decide +kernel
set_option maxRecDepth 20000 in
theorem bX9_stepsToPlan_0 {G : Gx} {mm : Nat → Nat → Int32} {lm : Nat → Int64}  {o : Ou} {z : Wd} {a b : Nat} (hw : ((Ct G M_X9_requireTower [.ref 0] (SH, mm, lm) false (.inl none) (SH, mm, lm) false 0 0 ∧ J G M_X9_stepsToPlan 4 [(0, .ref 0)] [] (SH, mm, lm) false o z false a b) ∨ (∃ (E4 : String), Ct G M_X9_requireTower [.ref 0] (SH, mm, lm) false (.inr E4) (SH, mm, lm) false 1 6 ∧ o = .inr E4 ∧ z = (SH, mm, lm) ∧ 1 ≤ a ∧ 6 ≤ b))) :
    J G M_X9_stepsToPlan 0 [(0, .ref 0)] [] (SH, mm, lm) false o z false a b := by
  refine J_aload_n rfl (i := 0) rfl dX9_stepsToPlan_0 ?_
  rcases hw with ⟨hc1, hw⟩ | ⟨E4, hc1, rfl, rfl, h1, h6⟩
  · refine J_callV (as := []) (k := 0) (st := []) cal_X9_requireTower cai_X9_requireTower gw_733 ⟨by decide, by decide⟩ cnt_X9_requireTower sh_0 rfl rfl (Nat.le_of_ble_eq_true rfl) dX9_stepsToPlan_1 (Nat.zero_add _).symm (Nat.zero_add _).symm hc1 ?_
    exact hw
  · exact J_callVx (ht := rfl) (as := []) (k := 0) (st := []) cal_X9_requireTower cai_X9_requireTower gw_733 ⟨by decide, by decide⟩ cnt_X9_requireTower sh_0 rfl rfl (Nat.le_of_ble_eq_true rfl) dX9_stepsToPlan_1 hc1 h1 h6
set_option maxRecDepth 20000 in
theorem bX9_stepsToPlan_4 {G : Gx} {mm : Nat → Nat → Int32} {lm : Nat → Int64}  {o : Ou} {z : Wd} {a b : Nat} (hw : ∃ (v2 : Int32) (m3 : Nat → Nat → Int32), Ct G M_X4_findWay [.ref 32] (SH, mm, lm) false (.inl (some (.int v2))) (SH, m3, lm) false 0 0 ∧ ((v2 = 0) → o = .inl (some (.int (-2))) ∧ z = (SH, m3, lm)) ∧ ((¬ v2 = 0) → ∃ (v5 : Int32), Ct G M_X4_countSteps [.ref 32] (SH, m3, lm) false (.inl (some (.int v5))) (SH, m3, lm) false 0 0 ∧ o = .inl (some (.int v5)) ∧ z = (SH, m3, lm))) :
    J G M_X9_stepsToPlan 4 [(0, .ref 0)] [] (SH, mm, lm) false o z false a b := by
  refine J_aload_n rfl (i := 0) rfl dX9_stepsToPlan_4 ?_
  refine J_getr kls_9 (q := 0) (k := 5) sh_0 (by decide) rfl gw_434 dX9_stepsToPlan_5 ?_
  obtain ⟨v2, m3, hc1, hw⟩ := hw
  refine J_callV (as := []) (k := 32) (st := []) cal_X4_findWay cai_X4_findWay gw_1023 ⟨by decide, by decide⟩ cnt_X4_findWay sh_32 rfl rfl (Nat.le_of_ble_eq_true rfl) dX9_stepsToPlan_8 (Nat.zero_add _).symm (Nat.zero_add _).symm hc1 ?_
  refine J_if_eq (tgt := 24) dX9_stepsToPlan_11 (by decide) (fun hb7 => ?_) (fun hb7 => ?_)
  · replace hw := hw.1 hb7
    refine J_bipush (v := (-2)) (by decide) dX9_stepsToPlan_24 ?_
    exact J_fini (ty := .int) rfl rfl dX9_stepsToPlan_26 hw
  · replace hw := hw.2 hb7
    refine J_aload_n rfl (i := 0) rfl dX9_stepsToPlan_14 ?_
    refine J_getr kls_9 (q := 0) (k := 5) sh_0 (by decide) rfl gw_434 dX9_stepsToPlan_15 ?_
    obtain ⟨v5, hc4, hw⟩ := hw
    refine J_callV (as := []) (k := 32) (st := []) cal_X4_countSteps cai_X4_countSteps gw_1047 ⟨by decide, by decide⟩ cnt_X4_countSteps sh_32 rfl rfl (Nat.le_of_ble_eq_true rfl) dX9_stepsToPlan_18 (Nat.zero_add _).symm (Nat.zero_add _).symm hc4 ?_
    refine J_goto (tgt := 26) dX9_stepsToPlan_21 (by decide) ?_
    exact J_fini (ty := .int) rfl rfl dX9_stepsToPlan_26 hw
theorem dX9_planStep_0 : decode cX9_planStep 0 = .ok (.aload_n 0, 1) := by decide +kernel
theorem dX9_planStep_1 : decode cX9_planStep 1 = .ok (.invokevirtual 122, 3) := by decide +kernel
theorem dX9_planStep_4 : decode cX9_planStep 4 = .ok (.iload_n 1, 1) := by decide +kernel
theorem dX9_planStep_5 : decode cX9_planStep 5 = .ok (.iconst 0, 1) := by decide +kernel
theorem dX9_planStep_6 : decode cX9_planStep 6 = .ok (.ldc 166, 2) := by decide +kernel
theorem dX9_planStep_8 : decode cX9_planStep 8 = .ok (.invokestatic 96, 3) := by decide +kernel
theorem dX9_planStep_11 : decode cX9_planStep 11 = .ok (.aload_n 0, 1) := by decide +kernel
theorem dX9_planStep_12 : decode cX9_planStep 12 = .ok (.getfield 45, 3) := by decide +kernel
theorem dX9_planStep_15 : decode cX9_planStep 15 = .ok (.invokevirtual 206, 3) := by decide +kernel
theorem dX9_planStep_18 : decode cX9_planStep 18 = .ok (.ifCond .eq 14, 3) := by decide +kernel
theorem dX9_planStep_21 : decode cX9_planStep 21 = .ok (.aload_n 0, 1) := by decide +kernel
theorem dX9_planStep_22 : decode cX9_planStep 22 = .ok (.getfield 45, 3) := by decide +kernel
theorem dX9_planStep_25 : decode cX9_planStep 25 = .ok (.iload_n 1, 1) := by decide +kernel
theorem dX9_planStep_26 : decode cX9_planStep 26 = .ok (.invokevirtual 212, 3) := by decide +kernel
theorem dX9_planStep_29 : decode cX9_planStep 29 = .ok (.goto 5, 3) := by decide +kernel
theorem dX9_planStep_32 : decode cX9_planStep 32 = .ok (.bipush (-2), 2) := by decide +kernel
theorem dX9_planStep_34 : decode cX9_planStep 34 = .ok (.ireturn, 1) := by decide +kernel
set_option maxRecDepth 20000 in
theorem bX9_planStep_0 {G : Gx} {mm : Nat → Nat → Int32} {lm : Nat → Int64} {x1 : Int32} {o : Ou} {z : Wd} {a b : Nat} (hw : ((Ct G M_X9_requireTower [.ref 0] (SH, mm, lm) false (.inl none) (SH, mm, lm) false 0 0 ∧ ((Ct G M_X9_requireRange [.int x1, .int 0, .int 2147483647] (SH, mm, lm) false (.inl none) (SH, mm, lm) false 0 0 ∧ J G M_X9_planStep 11 [(0, .ref 0), (1, .int x1)] [] (SH, mm, lm) false o z false a b) ∨ (∃ (E7 : String), Ct G M_X9_requireRange [.int x1, .int 0, .int 2147483647] (SH, mm, lm) false (.inr E7) (SH, mm, lm) false 1 6 ∧ o = .inr E7 ∧ z = (SH, mm, lm) ∧ 1 ≤ a ∧ 6 ≤ b))) ∨ (∃ (E8 : String), Ct G M_X9_requireTower [.ref 0] (SH, mm, lm) false (.inr E8) (SH, mm, lm) false 1 6 ∧ o = .inr E8 ∧ z = (SH, mm, lm) ∧ 1 ≤ a ∧ 6 ≤ b))) :
    J G M_X9_planStep 0 [(0, .ref 0), (1, .int x1)] [] (SH, mm, lm) false o z false a b := by
  refine J_aload_n rfl (i := 0) rfl dX9_planStep_0 ?_
  rcases hw with ⟨hc1, hw⟩ | ⟨E8, hc1, rfl, rfl, h1, h6⟩
  · refine J_callV (as := []) (k := 0) (st := []) cal_X9_requireTower cai_X9_requireTower gw_733 ⟨by decide, by decide⟩ cnt_X9_requireTower sh_0 rfl rfl (Nat.le_of_ble_eq_true rfl) dX9_planStep_1 (Nat.zero_add _).symm (Nat.zero_add _).symm hc1 ?_
    refine J_iload_n rfl (i := 1) rfl dX9_planStep_4 ?_
    refine J_iconst (v := 0) (by decide) dX9_planStep_5 ?_
    refine J_ldc gw_858 dX9_planStep_6 ?_
    rcases hw with ⟨hc4, hw⟩ | ⟨E7, hc4, rfl, rfl, h1, h6⟩
    · refine J_callS (as := [.int x1, .int 0, .int 2147483647]) (st := []) cal_X9_requireRange cas_X9_requireRange gw_707 ⟨by decide, by decide⟩ cnt_X9_requireRange rfl (Nat.le_of_ble_eq_true rfl) dX9_planStep_8 (Nat.zero_add _).symm (Nat.zero_add _).symm hc4 ?_
      exact hw
    · exact J_callSx (ht := rfl) (as := [.int x1, .int 0, .int 2147483647]) (st := []) cal_X9_requireRange cas_X9_requireRange gw_707 ⟨by decide, by decide⟩ cnt_X9_requireRange rfl (Nat.le_of_ble_eq_true rfl) dX9_planStep_8 hc4 h1 h6
  · exact J_callVx (ht := rfl) (as := []) (k := 0) (st := []) cal_X9_requireTower cai_X9_requireTower gw_733 ⟨by decide, by decide⟩ cnt_X9_requireTower sh_0 rfl rfl (Nat.le_of_ble_eq_true rfl) dX9_planStep_1 hc1 h1 h6
set_option maxRecDepth 20000 in
theorem bX9_planStep_11 {G : Gx} {mm : Nat → Nat → Int32} {lm : Nat → Int64} {x1 : Int32} {o : Ou} {z : Wd} {a b : Nat} (hw : ∃ (v2 : Int32) (m3 : Nat → Nat → Int32), Ct G M_X4_findWay [.ref 32] (SH, mm, lm) false (.inl (some (.int v2))) (SH, m3, lm) false 0 0 ∧ ((v2 = 0) → o = .inl (some (.int (-2))) ∧ z = (SH, m3, lm)) ∧ ((¬ v2 = 0) → ∃ (v5 : Int32), Ct G M_X4_stepOfWay [.ref 32, .int x1] (SH, m3, lm) false (.inl (some (.int v5))) (SH, m3, lm) false 0 0 ∧ o = .inl (some (.int v5)) ∧ z = (SH, m3, lm))) :
    J G M_X9_planStep 11 [(0, .ref 0), (1, .int x1)] [] (SH, mm, lm) false o z false a b := by
  refine J_aload_n rfl (i := 0) rfl dX9_planStep_11 ?_
  refine J_getr kls_9 (q := 0) (k := 5) sh_0 (by decide) rfl gw_434 dX9_planStep_12 ?_
  obtain ⟨v2, m3, hc1, hw⟩ := hw
  refine J_callV (as := []) (k := 32) (st := []) cal_X4_findWay cai_X4_findWay gw_1023 ⟨by decide, by decide⟩ cnt_X4_findWay sh_32 rfl rfl (Nat.le_of_ble_eq_true rfl) dX9_planStep_15 (Nat.zero_add _).symm (Nat.zero_add _).symm hc1 ?_
  refine J_if_eq (tgt := 32) dX9_planStep_18 (by decide) (fun hb7 => ?_) (fun hb7 => ?_)
  · replace hw := hw.1 hb7
    refine J_bipush (v := (-2)) (by decide) dX9_planStep_32 ?_
    exact J_fini (ty := .int) rfl rfl dX9_planStep_34 hw
  · replace hw := hw.2 hb7
    refine J_aload_n rfl (i := 0) rfl dX9_planStep_21 ?_
    refine J_getr kls_9 (q := 0) (k := 5) sh_0 (by decide) rfl gw_434 dX9_planStep_22 ?_
    refine J_iload_n rfl (i := 1) rfl dX9_planStep_25 ?_
    obtain ⟨v5, hc4, hw⟩ := hw
    refine J_callV (as := [.int x1]) (k := 32) (st := []) cal_X4_stepOfWay cai_X4_stepOfWay gw_1058 ⟨by decide, by decide⟩ cnt_X4_stepOfWay sh_32 rfl rfl (Nat.le_of_ble_eq_true rfl) dX9_planStep_26 (Nat.zero_add _).symm (Nat.zero_add _).symm hc4 ?_
    refine J_goto (tgt := 34) dX9_planStep_29 (by decide) ?_
    exact J_fini (ty := .int) rfl rfl dX9_planStep_34 hw
theorem dX9_startSwing_0 : decode cX9_startSwing 0 = .ok (.aload_n 0, 1) := by decide +kernel
theorem dX9_startSwing_1 : decode cX9_startSwing 1 = .ok (.invokevirtual 122, 3) := by decide +kernel
theorem dX9_startSwing_4 : decode cX9_startSwing 4 = .ok (.aload_n 0, 1) := by decide +kernel
theorem dX9_startSwing_5 : decode cX9_startSwing 5 = .ok (.iload_n 1, 1) := by decide +kernel
theorem dX9_startSwing_6 : decode cX9_startSwing 6 = .ok (.invokevirtual 125, 3) := by decide +kernel
theorem dX9_startSwing_9 : decode cX9_startSwing 9 = .ok (.iload_n 2, 1) := by decide +kernel
theorem dX9_startSwing_10 : decode cX9_startSwing 10 = .ok (.iconst 0, 1) := by decide +kernel
theorem dX9_startSwing_11 : decode cX9_startSwing 11 = .ok (.sipush 999, 3) := by decide +kernel
theorem dX9_startSwing_14 : decode cX9_startSwing 14 = .ok (.invokestatic 96, 3) := by decide +kernel
theorem dX9_startSwing_17 : decode cX9_startSwing 17 = .ok (.iload_n 3, 1) := by decide +kernel
theorem dX9_startSwing_18 : decode cX9_startSwing 18 = .ok (.iconst 1, 1) := by decide +kernel
theorem dX9_startSwing_19 : decode cX9_startSwing 19 = .ok (.bipush 15, 2) := by decide +kernel
theorem dX9_startSwing_21 : decode cX9_startSwing 21 = .ok (.invokestatic 96, 3) := by decide +kernel
theorem dX9_startSwing_24 : decode cX9_startSwing 24 = .ok (.aload_n 0, 1) := by decide +kernel
theorem dX9_startSwing_25 : decode cX9_startSwing 25 = .ok (.getfield 28, 3) := by decide +kernel
theorem dX9_startSwing_28 : decode cX9_startSwing 28 = .ok (.iload_n 1, 1) := by decide +kernel
theorem dX9_startSwing_29 : decode cX9_startSwing 29 = .ok (.aaload, 1) := by decide +kernel
theorem dX9_startSwing_30 : decode cX9_startSwing 30 = .ok (.invokevirtual 131, 3) := by decide +kernel
theorem dX9_startSwing_33 : decode cX9_startSwing 33 = .ok (.ifCond .ne 6, 3) := by decide +kernel
theorem dX9_startSwing_36 : decode cX9_startSwing 36 = .ok (.bipush (-2), 2) := by decide +kernel
theorem dX9_startSwing_38 : decode cX9_startSwing 38 = .ok (.ireturn, 1) := by decide +kernel
theorem dX9_startSwing_39 : decode cX9_startSwing 39 = .ok (.aload_n 0, 1) := by decide +kernel
theorem dX9_startSwing_40 : decode cX9_startSwing 40 = .ok (.iload_n 1, 1) := by decide +kernel
theorem dX9_startSwing_41 : decode cX9_startSwing 41 = .ok (.invokevirtual 139, 3) := by decide +kernel
theorem dX9_startSwing_44 : decode cX9_startSwing 44 = .ok (.aload_n 0, 1) := by decide +kernel
theorem dX9_startSwing_45 : decode cX9_startSwing 45 = .ok (.getfield 28, 3) := by decide +kernel
theorem dX9_startSwing_48 : decode cX9_startSwing 48 = .ok (.iload_n 1, 1) := by decide +kernel
theorem dX9_startSwing_49 : decode cX9_startSwing 49 = .ok (.aaload, 1) := by decide +kernel
theorem dX9_startSwing_50 : decode cX9_startSwing 50 = .ok (.iload_n 2, 1) := by decide +kernel
theorem dX9_startSwing_51 : decode cX9_startSwing 51 = .ok (.putfield 215, 3) := by decide +kernel
theorem dX9_startSwing_54 : decode cX9_startSwing 54 = .ok (.aload_n 0, 1) := by decide +kernel
theorem dX9_startSwing_55 : decode cX9_startSwing 55 = .ok (.getfield 28, 3) := by decide +kernel
theorem dX9_startSwing_58 : decode cX9_startSwing 58 = .ok (.iload_n 1, 1) := by decide +kernel
theorem dX9_startSwing_59 : decode cX9_startSwing 59 = .ok (.aaload, 1) := by decide +kernel
theorem dX9_startSwing_60 : decode cX9_startSwing 60 = .ok (.iload_n 3, 1) := by decide +kernel
theorem dX9_startSwing_61 : decode cX9_startSwing 61 = .ok (.putfield 160, 3) := by decide +kernel
theorem dX9_startSwing_64 : decode cX9_startSwing 64 = .ok (.aload_n 0, 1) := by decide +kernel
theorem dX9_startSwing_65 : decode cX9_startSwing 65 = .ok (.getfield 52, 3) := by decide +kernel
theorem dX9_startSwing_68 : decode cX9_startSwing 68 = .ok (.invokevirtual 218, 3) := by decide +kernel
theorem dX9_startSwing_71 : decode cX9_startSwing 71 = .ok (.ireturn, 1) := by decide +kernel
set_option maxRecDepth 20000 in
theorem bX9_startSwing_0 {G : Gx} {mm : Nat → Nat → Int32} {lm : Nat → Int64} {x1 : Int32} {x2 : Int32} {x3 : Int32} {o : Ou} {z : Wd} {a b : Nat} (hw : ((Ct G M_X9_requireTower [.ref 0] (SH, mm, lm) false (.inl none) (SH, mm, lm) false 0 0 ∧ ((Ct G M_X9_requireBell [.ref 0, .int x1] (SH, mm, lm) false (.inl none) (SH, mm, lm) false 0 0 ∧ ((Ct G M_X9_requireRange [.int x2, .int 0, .int 999] (SH, mm, lm) false (.inl none) (SH, mm, lm) false 0 0 ∧ ((Ct G M_X9_requireRange [.int x3, .int 1, .int 15] (SH, mm, lm) false (.inl none) (SH, mm, lm) false 0 0 ∧ J G M_X9_startSwing 24 [(0, .ref 0), (1, .int x1), (2, .int x2), (3, .int x3)] [] (SH, mm, lm) false o z false a b) ∨ (∃ (E13 : String), Ct G M_X9_requireRange [.int x3, .int 1, .int 15] (SH, mm, lm) false (.inr E13) (SH, mm, lm) false 1 6 ∧ o = .inr E13 ∧ z = (SH, mm, lm) ∧ 1 ≤ a ∧ 6 ≤ b))) ∨ (∃ (E14 : String), Ct G M_X9_requireRange [.int x2, .int 0, .int 999] (SH, mm, lm) false (.inr E14) (SH, mm, lm) false 1 6 ∧ o = .inr E14 ∧ z = (SH, mm, lm) ∧ 1 ≤ a ∧ 6 ≤ b))) ∨ (∃ (E15 : String), Ct G M_X9_requireBell [.ref 0, .int x1] (SH, mm, lm) false (.inr E15) (SH, mm, lm) false 1 6 ∧ o = .inr E15 ∧ z = (SH, mm, lm) ∧ 1 ≤ a ∧ 6 ≤ b))) ∨ (∃ (E16 : String), Ct G M_X9_requireTower [.ref 0] (SH, mm, lm) false (.inr E16) (SH, mm, lm) false 1 6 ∧ o = .inr E16 ∧ z = (SH, mm, lm) ∧ 1 ≤ a ∧ 6 ≤ b))) :
    J G M_X9_startSwing 0 [(0, .ref 0), (1, .int x1), (2, .int x2), (3, .int x3)] [] (SH, mm, lm) false o z false a b := by
  refine J_aload_n rfl (i := 0) rfl dX9_startSwing_0 ?_
  rcases hw with ⟨hc1, hw⟩ | ⟨E16, hc1, rfl, rfl, h1, h6⟩
  · refine J_callV (as := []) (k := 0) (st := []) cal_X9_requireTower cai_X9_requireTower gw_733 ⟨by decide, by decide⟩ cnt_X9_requireTower sh_0 rfl rfl (Nat.le_of_ble_eq_true rfl) dX9_startSwing_1 (Nat.zero_add _).symm (Nat.zero_add _).symm hc1 ?_
    refine J_aload_n rfl (i := 0) rfl dX9_startSwing_4 ?_
    refine J_iload_n rfl (i := 1) rfl dX9_startSwing_5 ?_
    rcases hw with ⟨hc4, hw⟩ | ⟨E15, hc4, rfl, rfl, h1, h6⟩
    · refine J_callV (as := [.int x1]) (k := 0) (st := []) cal_X9_requireBell cai_X9_requireBell gw_738 ⟨by decide, by decide⟩ cnt_X9_requireBell sh_0 rfl rfl (Nat.le_of_ble_eq_true rfl) dX9_startSwing_6 (Nat.zero_add _).symm (Nat.zero_add _).symm hc4 ?_
      refine J_iload_n rfl (i := 2) rfl dX9_startSwing_9 ?_
      refine J_iconst (v := 0) (by decide) dX9_startSwing_10 ?_
      refine J_sipush (v := 999) (by decide) dX9_startSwing_11 ?_
      rcases hw with ⟨hc7, hw⟩ | ⟨E14, hc7, rfl, rfl, h1, h6⟩
      · refine J_callS (as := [.int x2, .int 0, .int 999]) (st := []) cal_X9_requireRange cas_X9_requireRange gw_707 ⟨by decide, by decide⟩ cnt_X9_requireRange rfl (Nat.le_of_ble_eq_true rfl) dX9_startSwing_14 (Nat.zero_add _).symm (Nat.zero_add _).symm hc7 ?_
        refine J_iload_n rfl (i := 3) rfl dX9_startSwing_17 ?_
        refine J_iconst (v := 1) (by decide) dX9_startSwing_18 ?_
        refine J_bipush (v := 15) (by decide) dX9_startSwing_19 ?_
        rcases hw with ⟨hc10, hw⟩ | ⟨E13, hc10, rfl, rfl, h1, h6⟩
        · refine J_callS (as := [.int x3, .int 1, .int 15]) (st := []) cal_X9_requireRange cas_X9_requireRange gw_707 ⟨by decide, by decide⟩ cnt_X9_requireRange rfl (Nat.le_of_ble_eq_true rfl) dX9_startSwing_21 (Nat.zero_add _).symm (Nat.zero_add _).symm hc10 ?_
          exact hw
        · exact J_callSx (ht := rfl) (as := [.int x3, .int 1, .int 15]) (st := []) cal_X9_requireRange cas_X9_requireRange gw_707 ⟨by decide, by decide⟩ cnt_X9_requireRange rfl (Nat.le_of_ble_eq_true rfl) dX9_startSwing_21 hc10 h1 h6
      · exact J_callSx (ht := rfl) (as := [.int x2, .int 0, .int 999]) (st := []) cal_X9_requireRange cas_X9_requireRange gw_707 ⟨by decide, by decide⟩ cnt_X9_requireRange rfl (Nat.le_of_ble_eq_true rfl) dX9_startSwing_14 hc7 h1 h6
    · exact J_callVx (ht := rfl) (as := [.int x1]) (k := 0) (st := []) cal_X9_requireBell cai_X9_requireBell gw_738 ⟨by decide, by decide⟩ cnt_X9_requireBell sh_0 rfl rfl (Nat.le_of_ble_eq_true rfl) dX9_startSwing_6 hc4 h1 h6
  · exact J_callVx (ht := rfl) (as := []) (k := 0) (st := []) cal_X9_requireTower cai_X9_requireTower gw_733 ⟨by decide, by decide⟩ cnt_X9_requireTower sh_0 rfl rfl (Nat.le_of_ble_eq_true rfl) dX9_startSwing_1 hc1 h1 h6
set_option maxRecDepth 20000 in
theorem bX9_startSwing_24 {G : Gx} {mm : Nat → Nat → Int32} {lm : Nat → Int64} {x1 : Int32} {x2 : Int32} {x3 : Int32} {o : Ou} {z : Wd} {a b : Nat} (hw : ∃ j1 : Nat, x1 = nI j1 ∧ j1 < 8 ∧ ∃ (v3 : Int32), Ct G M_X0_hangs [.ref (23 + j1)] (SH, mm, lm) false (.inl (some (.int v3))) (SH, mm, lm) false 0 0 ∧ ((¬ v3 = 0) → ∃ (m7 : Nat → Nat → Int32), Ct G M_X9_rememberBell [.ref 0, .int x1] (SH, mm, lm) false (.inl none) (SH, m7, lm) false 0 0 ∧ ∃ j8 : Nat, x1 = nI j8 ∧ j8 < 8 ∧ ∃ j9 : Nat, x1 = nI j9 ∧ j9 < 8 ∧ ∃ (v11 : Int32), Ct G M_X6_countSwinging [.ref 38] (SH, (mset (mset m7 (23 + j8) 4 x2) (23 + j9) 5 x3), lm) false (.inl (some (.int v11))) (SH, (mset (mset m7 (23 + j8) 4 x2) (23 + j9) 5 x3), lm) false 0 0 ∧ o = .inl (some (.int v11)) ∧ z = (SH, (mset (mset m7 (23 + j8) 4 x2) (23 + j9) 5 x3), lm)) ∧ ((v3 = 0) → o = .inl (some (.int (-2))) ∧ z = (SH, mm, lm))) :
    J G M_X9_startSwing 24 [(0, .ref 0), (1, .int x1), (2, .int x2), (3, .int x3)] [] (SH, mm, lm) false o z false a b := by
  refine J_aload_n rfl (i := 0) rfl dX9_startSwing_24 ?_
  refine J_getr kls_9 (q := 0) (k := 3) sh_0 (by decide) rfl gw_432 dX9_startSwing_25 ?_
  refine J_iload_n rfl (i := 1) rfl dX9_startSwing_28 ?_
  obtain ⟨j1, ej1, hj1, hw⟩ := hw
  refine J_aald (r := 23 + j1) sh_22 ej1 hj1 (by decide) (if_pos hj1) dX9_startSwing_29 ?_
  obtain ⟨v3, hc2, hw⟩ := hw
  refine J_callV (as := []) (k := (23 + j1)) (st := []) cal_X0_hangs cai_X0_hangs gw_746 ⟨by decide, by decide⟩ cnt_X0_hangs (sh_b23 hj1) rfl rfl (Nat.le_of_ble_eq_true rfl) dX9_startSwing_30 (Nat.zero_add _).symm (Nat.zero_add _).symm hc2 ?_
  refine J_if_ne (tgt := 39) dX9_startSwing_33 (by decide) (fun hb13 => ?_) (fun hb13 => ?_)
  · replace hw := hw.1 hb13
    refine J_aload_n rfl (i := 0) rfl dX9_startSwing_39 ?_
    refine J_iload_n rfl (i := 1) rfl dX9_startSwing_40 ?_
    obtain ⟨m7, hc5, hw⟩ := hw
    refine J_callV (as := [.int x1]) (k := 0) (st := []) cal_X9_rememberBell cai_X9_rememberBell gw_777 ⟨by decide, by decide⟩ cnt_X9_rememberBell sh_0 rfl rfl (Nat.le_of_ble_eq_true rfl) dX9_startSwing_41 (Nat.zero_add _).symm (Nat.zero_add _).symm hc5 ?_
    refine J_aload_n rfl (i := 0) rfl dX9_startSwing_44 ?_
    refine J_getr kls_9 (q := 0) (k := 3) sh_0 (by decide) rfl gw_432 dX9_startSwing_45 ?_
    refine J_iload_n rfl (i := 1) rfl dX9_startSwing_48 ?_
    obtain ⟨j8, ej8, hj8, hw⟩ := hw
    refine J_aald (r := 23 + j8) sh_22 ej8 hj8 (by decide) (if_pos hj8) dX9_startSwing_49 ?_
    refine J_iload_n rfl (i := 2) rfl dX9_startSwing_50 ?_
    refine J_puti kls_0 (q := (23 + j8)) (k := 4) (sh_b23 hj8) (by decide) rfl rfl (fun _ => rfl) (fun _ => rfl) gw_268 dX9_startSwing_51 ?_
    refine J_aload_n rfl (i := 0) rfl dX9_startSwing_54 ?_
    refine J_getr kls_9 (q := 0) (k := 3) sh_0 (by decide) rfl gw_432 dX9_startSwing_55 ?_
    refine J_iload_n rfl (i := 1) rfl dX9_startSwing_58 ?_
    obtain ⟨j9, ej9, hj9, hw⟩ := hw
    refine J_aald (r := 23 + j9) sh_22 ej9 hj9 (by decide) (if_pos hj9) dX9_startSwing_59 ?_
    refine J_iload_n rfl (i := 3) rfl dX9_startSwing_60 ?_
    refine J_puti kls_0 (q := (23 + j9)) (k := 5) (sh_b23 hj9) (by decide) rfl rfl (fun _ => rfl) (fun _ => rfl) gw_271 dX9_startSwing_61 ?_
    refine J_aload_n rfl (i := 0) rfl dX9_startSwing_64 ?_
    refine J_getr kls_9 (q := 0) (k := 6) sh_0 (by decide) rfl gw_435 dX9_startSwing_65 ?_
    obtain ⟨v11, hc10, hw⟩ := hw
    refine J_callV (as := []) (k := 38) (st := []) cal_X6_countSwinging cai_X6_countSwinging gw_1070 ⟨by decide, by decide⟩ cnt_X6_countSwinging sh_38 rfl rfl (Nat.le_of_ble_eq_true rfl) dX9_startSwing_68 (Nat.zero_add _).symm (Nat.zero_add _).symm hc10 ?_
    exact J_fini (ty := .int) rfl rfl dX9_startSwing_71 hw
  · replace hw := hw.2 hb13
    refine J_bipush (v := (-2)) (by decide) dX9_startSwing_36 ?_
    exact J_fini (ty := .int) rfl rfl dX9_startSwing_38 hw
theorem dX9_stopSwing_0 : decode cX9_stopSwing 0 = .ok (.aload_n 0, 1) := by decide +kernel
theorem dX9_stopSwing_1 : decode cX9_stopSwing 1 = .ok (.invokevirtual 122, 3) := by decide +kernel
theorem dX9_stopSwing_4 : decode cX9_stopSwing 4 = .ok (.aload_n 0, 1) := by decide +kernel
theorem dX9_stopSwing_5 : decode cX9_stopSwing 5 = .ok (.iload_n 1, 1) := by decide +kernel
theorem dX9_stopSwing_6 : decode cX9_stopSwing 6 = .ok (.invokevirtual 125, 3) := by decide +kernel
theorem dX9_stopSwing_9 : decode cX9_stopSwing 9 = .ok (.aload_n 0, 1) := by decide +kernel
theorem dX9_stopSwing_10 : decode cX9_stopSwing 10 = .ok (.getfield 28, 3) := by decide +kernel
theorem dX9_stopSwing_13 : decode cX9_stopSwing 13 = .ok (.iload_n 1, 1) := by decide +kernel
theorem dX9_stopSwing_14 : decode cX9_stopSwing 14 = .ok (.aaload, 1) := by decide +kernel
theorem dX9_stopSwing_15 : decode cX9_stopSwing 15 = .ok (.invokevirtual 221, 3) := by decide +kernel
theorem dX9_stopSwing_18 : decode cX9_stopSwing 18 = .ok (.ifCond .ne 6, 3) := by decide +kernel
theorem dX9_stopSwing_21 : decode cX9_stopSwing 21 = .ok (.bipush (-2), 2) := by decide +kernel
theorem dX9_stopSwing_23 : decode cX9_stopSwing 23 = .ok (.ireturn, 1) := by decide +kernel
theorem dX9_stopSwing_24 : decode cX9_stopSwing 24 = .ok (.aload_n 0, 1) := by decide +kernel
theorem dX9_stopSwing_25 : decode cX9_stopSwing 25 = .ok (.iload_n 1, 1) := by decide +kernel
theorem dX9_stopSwing_26 : decode cX9_stopSwing 26 = .ok (.invokevirtual 139, 3) := by decide +kernel
theorem dX9_stopSwing_29 : decode cX9_stopSwing 29 = .ok (.aload_n 0, 1) := by decide +kernel
theorem dX9_stopSwing_30 : decode cX9_stopSwing 30 = .ok (.getfield 28, 3) := by decide +kernel
theorem dX9_stopSwing_33 : decode cX9_stopSwing 33 = .ok (.iload_n 1, 1) := by decide +kernel
theorem dX9_stopSwing_34 : decode cX9_stopSwing 34 = .ok (.aaload, 1) := by decide +kernel
theorem dX9_stopSwing_35 : decode cX9_stopSwing 35 = .ok (.iconst 0, 1) := by decide +kernel
theorem dX9_stopSwing_36 : decode cX9_stopSwing 36 = .ok (.putfield 160, 3) := by decide +kernel
theorem dX9_stopSwing_39 : decode cX9_stopSwing 39 = .ok (.aload_n 0, 1) := by decide +kernel
theorem dX9_stopSwing_40 : decode cX9_stopSwing 40 = .ok (.getfield 52, 3) := by decide +kernel
theorem dX9_stopSwing_43 : decode cX9_stopSwing 43 = .ok (.invokevirtual 218, 3) := by decide +kernel
theorem dX9_stopSwing_46 : decode cX9_stopSwing 46 = .ok (.ireturn, 1) := by decide +kernel
set_option maxRecDepth 20000 in
theorem bX9_stopSwing_0 {G : Gx} {mm : Nat → Nat → Int32} {lm : Nat → Int64} {x1 : Int32} {o : Ou} {z : Wd} {a b : Nat} (hw : ((Ct G M_X9_requireTower [.ref 0] (SH, mm, lm) false (.inl none) (SH, mm, lm) false 0 0 ∧ ((Ct G M_X9_requireBell [.ref 0, .int x1] (SH, mm, lm) false (.inl none) (SH, mm, lm) false 0 0 ∧ J G M_X9_stopSwing 9 [(0, .ref 0), (1, .int x1)] [] (SH, mm, lm) false o z false a b) ∨ (∃ (E7 : String), Ct G M_X9_requireBell [.ref 0, .int x1] (SH, mm, lm) false (.inr E7) (SH, mm, lm) false 1 6 ∧ o = .inr E7 ∧ z = (SH, mm, lm) ∧ 1 ≤ a ∧ 6 ≤ b))) ∨ (∃ (E8 : String), Ct G M_X9_requireTower [.ref 0] (SH, mm, lm) false (.inr E8) (SH, mm, lm) false 1 6 ∧ o = .inr E8 ∧ z = (SH, mm, lm) ∧ 1 ≤ a ∧ 6 ≤ b))) :
    J G M_X9_stopSwing 0 [(0, .ref 0), (1, .int x1)] [] (SH, mm, lm) false o z false a b := by
  refine J_aload_n rfl (i := 0) rfl dX9_stopSwing_0 ?_
  rcases hw with ⟨hc1, hw⟩ | ⟨E8, hc1, rfl, rfl, h1, h6⟩
  · refine J_callV (as := []) (k := 0) (st := []) cal_X9_requireTower cai_X9_requireTower gw_733 ⟨by decide, by decide⟩ cnt_X9_requireTower sh_0 rfl rfl (Nat.le_of_ble_eq_true rfl) dX9_stopSwing_1 (Nat.zero_add _).symm (Nat.zero_add _).symm hc1 ?_
    refine J_aload_n rfl (i := 0) rfl dX9_stopSwing_4 ?_
    refine J_iload_n rfl (i := 1) rfl dX9_stopSwing_5 ?_
    rcases hw with ⟨hc4, hw⟩ | ⟨E7, hc4, rfl, rfl, h1, h6⟩
    · refine J_callV (as := [.int x1]) (k := 0) (st := []) cal_X9_requireBell cai_X9_requireBell gw_738 ⟨by decide, by decide⟩ cnt_X9_requireBell sh_0 rfl rfl (Nat.le_of_ble_eq_true rfl) dX9_stopSwing_6 (Nat.zero_add _).symm (Nat.zero_add _).symm hc4 ?_
      exact hw
    · exact J_callVx (ht := rfl) (as := [.int x1]) (k := 0) (st := []) cal_X9_requireBell cai_X9_requireBell gw_738 ⟨by decide, by decide⟩ cnt_X9_requireBell sh_0 rfl rfl (Nat.le_of_ble_eq_true rfl) dX9_stopSwing_6 hc4 h1 h6
  · exact J_callVx (ht := rfl) (as := []) (k := 0) (st := []) cal_X9_requireTower cai_X9_requireTower gw_733 ⟨by decide, by decide⟩ cnt_X9_requireTower sh_0 rfl rfl (Nat.le_of_ble_eq_true rfl) dX9_stopSwing_1 hc1 h1 h6
set_option maxRecDepth 20000 in
theorem bX9_stopSwing_9 {G : Gx} {mm : Nat → Nat → Int32} {lm : Nat → Int64} {x1 : Int32} {o : Ou} {z : Wd} {a b : Nat} (hw : ∃ j1 : Nat, x1 = nI j1 ∧ j1 < 8 ∧ ∃ (v3 : Int32), Ct G M_X0_swings [.ref (23 + j1)] (SH, mm, lm) false (.inl (some (.int v3))) (SH, mm, lm) false 0 0 ∧ ((¬ v3 = 0) → ∃ (m7 : Nat → Nat → Int32), Ct G M_X9_rememberBell [.ref 0, .int x1] (SH, mm, lm) false (.inl none) (SH, m7, lm) false 0 0 ∧ ∃ j8 : Nat, x1 = nI j8 ∧ j8 < 8 ∧ ∃ (v10 : Int32), Ct G M_X6_countSwinging [.ref 38] (SH, (mset m7 (23 + j8) 5 0), lm) false (.inl (some (.int v10))) (SH, (mset m7 (23 + j8) 5 0), lm) false 0 0 ∧ o = .inl (some (.int v10)) ∧ z = (SH, (mset m7 (23 + j8) 5 0), lm)) ∧ ((v3 = 0) → o = .inl (some (.int (-2))) ∧ z = (SH, mm, lm))) :
    J G M_X9_stopSwing 9 [(0, .ref 0), (1, .int x1)] [] (SH, mm, lm) false o z false a b := by
  refine J_aload_n rfl (i := 0) rfl dX9_stopSwing_9 ?_
  refine J_getr kls_9 (q := 0) (k := 3) sh_0 (by decide) rfl gw_432 dX9_stopSwing_10 ?_
  refine J_iload_n rfl (i := 1) rfl dX9_stopSwing_13 ?_
  obtain ⟨j1, ej1, hj1, hw⟩ := hw
  refine J_aald (r := 23 + j1) sh_22 ej1 hj1 (by decide) (if_pos hj1) dX9_stopSwing_14 ?_
  obtain ⟨v3, hc2, hw⟩ := hw
  refine J_callV (as := []) (k := (23 + j1)) (st := []) cal_X0_swings cai_X0_swings gw_1085 ⟨by decide, by decide⟩ cnt_X0_swings (sh_b23 hj1) rfl rfl (Nat.le_of_ble_eq_true rfl) dX9_stopSwing_15 (Nat.zero_add _).symm (Nat.zero_add _).symm hc2 ?_
  refine J_if_ne (tgt := 24) dX9_stopSwing_18 (by decide) (fun hb12 => ?_) (fun hb12 => ?_)
  · replace hw := hw.1 hb12
    refine J_aload_n rfl (i := 0) rfl dX9_stopSwing_24 ?_
    refine J_iload_n rfl (i := 1) rfl dX9_stopSwing_25 ?_
    obtain ⟨m7, hc5, hw⟩ := hw
    refine J_callV (as := [.int x1]) (k := 0) (st := []) cal_X9_rememberBell cai_X9_rememberBell gw_777 ⟨by decide, by decide⟩ cnt_X9_rememberBell sh_0 rfl rfl (Nat.le_of_ble_eq_true rfl) dX9_stopSwing_26 (Nat.zero_add _).symm (Nat.zero_add _).symm hc5 ?_
    refine J_aload_n rfl (i := 0) rfl dX9_stopSwing_29 ?_
    refine J_getr kls_9 (q := 0) (k := 3) sh_0 (by decide) rfl gw_432 dX9_stopSwing_30 ?_
    refine J_iload_n rfl (i := 1) rfl dX9_stopSwing_33 ?_
    obtain ⟨j8, ej8, hj8, hw⟩ := hw
    refine J_aald (r := 23 + j8) sh_22 ej8 hj8 (by decide) (if_pos hj8) dX9_stopSwing_34 ?_
    refine J_iconst (v := 0) (by decide) dX9_stopSwing_35 ?_
    refine J_puti kls_0 (q := (23 + j8)) (k := 5) (sh_b23 hj8) (by decide) rfl rfl (fun _ => rfl) (fun _ => rfl) gw_271 dX9_stopSwing_36 ?_
    refine J_aload_n rfl (i := 0) rfl dX9_stopSwing_39 ?_
    refine J_getr kls_9 (q := 0) (k := 6) sh_0 (by decide) rfl gw_435 dX9_stopSwing_40 ?_
    obtain ⟨v10, hc9, hw⟩ := hw
    refine J_callV (as := []) (k := 38) (st := []) cal_X6_countSwinging cai_X6_countSwinging gw_1070 ⟨by decide, by decide⟩ cnt_X6_countSwinging sh_38 rfl rfl (Nat.le_of_ble_eq_true rfl) dX9_stopSwing_43 (Nat.zero_add _).symm (Nat.zero_add _).symm hc9 ?_
    exact J_fini (ty := .int) rfl rfl dX9_stopSwing_46 hw
  · replace hw := hw.2 hb12
    refine J_bipush (v := (-2)) (by decide) dX9_stopSwing_21 ?_
    exact J_fini (ty := .int) rfl rfl dX9_stopSwing_23 hw
theorem dX9_offset_0 : decode cX9_offset 0 = .ok (.aload_n 0, 1) := by decide +kernel
theorem dX9_offset_1 : decode cX9_offset 1 = .ok (.invokevirtual 122, 3) := by decide +kernel
theorem dX9_offset_4 : decode cX9_offset 4 = .ok (.aload_n 0, 1) := by decide +kernel
theorem dX9_offset_5 : decode cX9_offset 5 = .ok (.iload_n 1, 1) := by decide +kernel
theorem dX9_offset_6 : decode cX9_offset 6 = .ok (.invokevirtual 125, 3) := by decide +kernel
theorem dX9_offset_9 : decode cX9_offset 9 = .ok (.iload_n 2, 1) := by decide +kernel
theorem dX9_offset_10 : decode cX9_offset 10 = .ok (.iconst 0, 1) := by decide +kernel
theorem dX9_offset_11 : decode cX9_offset 11 = .ok (.sipush 9999, 3) := by decide +kernel
theorem dX9_offset_14 : decode cX9_offset 14 = .ok (.invokestatic 96, 3) := by decide +kernel
theorem dX9_offset_17 : decode cX9_offset 17 = .ok (.aload_n 0, 1) := by decide +kernel
theorem dX9_offset_18 : decode cX9_offset 18 = .ok (.iload_n 1, 1) := by decide +kernel
theorem dX9_offset_19 : decode cX9_offset 19 = .ok (.invokevirtual 163, 3) := by decide +kernel
theorem dX9_offset_22 : decode cX9_offset 22 = .ok (.aload_n 0, 1) := by decide +kernel
theorem dX9_offset_23 : decode cX9_offset 23 = .ok (.getfield 52, 3) := by decide +kernel
theorem dX9_offset_26 : decode cX9_offset 26 = .ok (.iload_n 1, 1) := by decide +kernel
theorem dX9_offset_27 : decode cX9_offset 27 = .ok (.iload_n 2, 1) := by decide +kernel
theorem dX9_offset_28 : decode cX9_offset 28 = .ok (.invokevirtual 223, 3) := by decide +kernel
theorem dX9_offset_31 : decode cX9_offset 31 = .ok (.ireturn, 1) := by decide +kernel
set_option maxRecDepth 20000 in
theorem bX9_offset_0 {G : Gx} {mm : Nat → Nat → Int32} {lm : Nat → Int64} {x1 : Int32} {x2 : Int32} {o : Ou} {z : Wd} {a b : Nat} (hw : ((Ct G M_X9_requireTower [.ref 0] (SH, mm, lm) false (.inl none) (SH, mm, lm) false 0 0 ∧ ((Ct G M_X9_requireBell [.ref 0, .int x1] (SH, mm, lm) false (.inl none) (SH, mm, lm) false 0 0 ∧ ((Ct G M_X9_requireRange [.int x2, .int 0, .int 9999] (SH, mm, lm) false (.inl none) (SH, mm, lm) false 0 0 ∧ J G M_X9_offset 17 [(0, .ref 0), (1, .int x1), (2, .int x2)] [] (SH, mm, lm) false o z false a b) ∨ (∃ (E10 : String), Ct G M_X9_requireRange [.int x2, .int 0, .int 9999] (SH, mm, lm) false (.inr E10) (SH, mm, lm) false 1 6 ∧ o = .inr E10 ∧ z = (SH, mm, lm) ∧ 1 ≤ a ∧ 6 ≤ b))) ∨ (∃ (E11 : String), Ct G M_X9_requireBell [.ref 0, .int x1] (SH, mm, lm) false (.inr E11) (SH, mm, lm) false 1 6 ∧ o = .inr E11 ∧ z = (SH, mm, lm) ∧ 1 ≤ a ∧ 6 ≤ b))) ∨ (∃ (E12 : String), Ct G M_X9_requireTower [.ref 0] (SH, mm, lm) false (.inr E12) (SH, mm, lm) false 1 6 ∧ o = .inr E12 ∧ z = (SH, mm, lm) ∧ 1 ≤ a ∧ 6 ≤ b))) :
    J G M_X9_offset 0 [(0, .ref 0), (1, .int x1), (2, .int x2)] [] (SH, mm, lm) false o z false a b := by
  refine J_aload_n rfl (i := 0) rfl dX9_offset_0 ?_
  rcases hw with ⟨hc1, hw⟩ | ⟨E12, hc1, rfl, rfl, h1, h6⟩
  · refine J_callV (as := []) (k := 0) (st := []) cal_X9_requireTower cai_X9_requireTower gw_733 ⟨by decide, by decide⟩ cnt_X9_requireTower sh_0 rfl rfl (Nat.le_of_ble_eq_true rfl) dX9_offset_1 (Nat.zero_add _).symm (Nat.zero_add _).symm hc1 ?_
    refine J_aload_n rfl (i := 0) rfl dX9_offset_4 ?_
    refine J_iload_n rfl (i := 1) rfl dX9_offset_5 ?_
    rcases hw with ⟨hc4, hw⟩ | ⟨E11, hc4, rfl, rfl, h1, h6⟩
    · refine J_callV (as := [.int x1]) (k := 0) (st := []) cal_X9_requireBell cai_X9_requireBell gw_738 ⟨by decide, by decide⟩ cnt_X9_requireBell sh_0 rfl rfl (Nat.le_of_ble_eq_true rfl) dX9_offset_6 (Nat.zero_add _).symm (Nat.zero_add _).symm hc4 ?_
      refine J_iload_n rfl (i := 2) rfl dX9_offset_9 ?_
      refine J_iconst (v := 0) (by decide) dX9_offset_10 ?_
      refine J_sipush (v := 9999) (by decide) dX9_offset_11 ?_
      rcases hw with ⟨hc7, hw⟩ | ⟨E10, hc7, rfl, rfl, h1, h6⟩
      · refine J_callS (as := [.int x2, .int 0, .int 9999]) (st := []) cal_X9_requireRange cas_X9_requireRange gw_707 ⟨by decide, by decide⟩ cnt_X9_requireRange rfl (Nat.le_of_ble_eq_true rfl) dX9_offset_14 (Nat.zero_add _).symm (Nat.zero_add _).symm hc7 ?_
        exact hw
      · exact J_callSx (ht := rfl) (as := [.int x2, .int 0, .int 9999]) (st := []) cal_X9_requireRange cas_X9_requireRange gw_707 ⟨by decide, by decide⟩ cnt_X9_requireRange rfl (Nat.le_of_ble_eq_true rfl) dX9_offset_14 hc7 h1 h6
    · exact J_callVx (ht := rfl) (as := [.int x1]) (k := 0) (st := []) cal_X9_requireBell cai_X9_requireBell gw_738 ⟨by decide, by decide⟩ cnt_X9_requireBell sh_0 rfl rfl (Nat.le_of_ble_eq_true rfl) dX9_offset_6 hc4 h1 h6
  · exact J_callVx (ht := rfl) (as := []) (k := 0) (st := []) cal_X9_requireTower cai_X9_requireTower gw_733 ⟨by decide, by decide⟩ cnt_X9_requireTower sh_0 rfl rfl (Nat.le_of_ble_eq_true rfl) dX9_offset_1 hc1 h1 h6
set_option maxRecDepth 20000 in
theorem bX9_offset_17 {G : Gx} {mm : Nat → Nat → Int32} {lm : Nat → Int64} {x1 : Int32} {x2 : Int32} {o : Ou} {z : Wd} {a b : Nat} (hw : ((Ct G M_X9_requireHanging [.ref 0, .int x1] (SH, mm, lm) false (.inl none) (SH, mm, lm) false 0 0 ∧ ∃ (v5 : Int32), Ct G M_X6_offsetOf [.ref 38, .int x1, .int x2] (SH, mm, lm) false (.inl (some (.int v5))) (SH, mm, lm) false 0 0 ∧ o = .inl (some (.int v5)) ∧ z = (SH, mm, lm)) ∨ (∃ (E7 : String), Ct G M_X9_requireHanging [.ref 0, .int x1] (SH, mm, lm) false (.inr E7) (SH, mm, lm) false 1 6 ∧ o = .inr E7 ∧ z = (SH, mm, lm) ∧ 1 ≤ a ∧ 6 ≤ b))) :
    J G M_X9_offset 17 [(0, .ref 0), (1, .int x1), (2, .int x2)] [] (SH, mm, lm) false o z false a b := by
  refine J_aload_n rfl (i := 0) rfl dX9_offset_17 ?_
  refine J_iload_n rfl (i := 1) rfl dX9_offset_18 ?_
  rcases hw with ⟨hc1, hw⟩ | ⟨E7, hc1, rfl, rfl, h1, h6⟩
  · refine J_callV (as := [.int x1]) (k := 0) (st := []) cal_X9_requireHanging cai_X9_requireHanging gw_824 ⟨by decide, by decide⟩ cnt_X9_requireHanging sh_0 rfl rfl (Nat.le_of_ble_eq_true rfl) dX9_offset_19 (Nat.zero_add _).symm (Nat.zero_add _).symm hc1 ?_
    refine J_aload_n rfl (i := 0) rfl dX9_offset_22 ?_
    refine J_getr kls_9 (q := 0) (k := 6) sh_0 (by decide) rfl gw_435 dX9_offset_23 ?_
    refine J_iload_n rfl (i := 1) rfl dX9_offset_26 ?_
    refine J_iload_n rfl (i := 2) rfl dX9_offset_27 ?_
    obtain ⟨v5, hc4, hw⟩ := hw
    refine J_callV (as := [.int x1, .int x2]) (k := 38) (st := []) cal_X6_offsetOf cai_X6_offsetOf gw_1093 ⟨by decide, by decide⟩ cnt_X6_offsetOf sh_38 rfl rfl (Nat.le_of_ble_eq_true rfl) dX9_offset_28 (Nat.zero_add _).symm (Nat.zero_add _).symm hc4 ?_
    exact J_fini (ty := .int) rfl rfl dX9_offset_31 hw
  · exact J_callVx (ht := rfl) (as := [.int x1]) (k := 0) (st := []) cal_X9_requireHanging cai_X9_requireHanging gw_824 ⟨by decide, by decide⟩ cnt_X9_requireHanging sh_0 rfl rfl (Nat.le_of_ble_eq_true rfl) dX9_offset_19 hc1 h1 h6
theorem dX9_gap_0 : decode cX9_gap 0 = .ok (.aload_n 0, 1) := by decide +kernel
theorem dX9_gap_1 : decode cX9_gap 1 = .ok (.invokevirtual 122, 3) := by decide +kernel
theorem dX9_gap_4 : decode cX9_gap 4 = .ok (.aload_n 0, 1) := by decide +kernel
theorem dX9_gap_5 : decode cX9_gap 5 = .ok (.iload_n 1, 1) := by decide +kernel
theorem dX9_gap_6 : decode cX9_gap 6 = .ok (.invokevirtual 125, 3) := by decide +kernel
theorem dX9_gap_9 : decode cX9_gap 9 = .ok (.aload_n 0, 1) := by decide +kernel
theorem dX9_gap_10 : decode cX9_gap 10 = .ok (.iload_n 2, 1) := by decide +kernel
theorem dX9_gap_11 : decode cX9_gap 11 = .ok (.invokevirtual 125, 3) := by decide +kernel
theorem dX9_gap_14 : decode cX9_gap 14 = .ok (.iload_n 3, 1) := by decide +kernel
theorem dX9_gap_15 : decode cX9_gap 15 = .ok (.iconst 0, 1) := by decide +kernel
theorem dX9_gap_16 : decode cX9_gap 16 = .ok (.sipush 9999, 3) := by decide +kernel
theorem dX9_gap_19 : decode cX9_gap 19 = .ok (.invokestatic 96, 3) := by decide +kernel
theorem dX9_gap_22 : decode cX9_gap 22 = .ok (.iload_n 1, 1) := by decide +kernel
theorem dX9_gap_23 : decode cX9_gap 23 = .ok (.iload_n 2, 1) := by decide +kernel
theorem dX9_gap_24 : decode cX9_gap 24 = .ok (.if_icmp .ne 13, 3) := by decide +kernel
theorem dX9_gap_27 : decode cX9_gap 27 = .ok (.new 226, 3) := by decide +kernel
theorem dX9_gap_30 : decode cX9_gap 30 = .ok (.dup, 1) := by decide +kernel
theorem dX9_gap_31 : decode cX9_gap 31 = .ok (.ldc 228, 2) := by decide +kernel
theorem dX9_gap_33 : decode cX9_gap 33 = .ok (.invokespecial 230, 3) := by decide +kernel
theorem dX9_gap_36 : decode cX9_gap 36 = .ok (.athrow, 1) := by decide +kernel
theorem dX9_gap_37 : decode cX9_gap 37 = .ok (.aload_n 0, 1) := by decide +kernel
theorem dX9_gap_38 : decode cX9_gap 38 = .ok (.getfield 28, 3) := by decide +kernel
theorem dX9_gap_41 : decode cX9_gap 41 = .ok (.iload_n 1, 1) := by decide +kernel
theorem dX9_gap_42 : decode cX9_gap 42 = .ok (.aaload, 1) := by decide +kernel
theorem dX9_gap_43 : decode cX9_gap 43 = .ok (.aload_n 0, 1) := by decide +kernel
theorem dX9_gap_44 : decode cX9_gap 44 = .ok (.getfield 28, 3) := by decide +kernel
theorem dX9_gap_47 : decode cX9_gap 47 = .ok (.iload_n 2, 1) := by decide +kernel
theorem dX9_gap_48 : decode cX9_gap 48 = .ok (.aaload, 1) := by decide +kernel
theorem dX9_gap_49 : decode cX9_gap 49 = .ok (.invokevirtual 231, 3) := by decide +kernel
theorem dX9_gap_52 : decode cX9_gap 52 = .ok (.ifCond .ne 13, 3) := by decide +kernel
theorem dX9_gap_55 : decode cX9_gap 55 = .ok (.new 235, 3) := by decide +kernel
theorem dX9_gap_58 : decode cX9_gap 58 = .ok (.dup, 1) := by decide +kernel
theorem dX9_gap_59 : decode cX9_gap 59 = .ok (.ldc 237, 2) := by decide +kernel
theorem dX9_gap_61 : decode cX9_gap 61 = .ok (.invokespecial 239, 3) := by decide +kernel
theorem dX9_gap_64 : decode cX9_gap 64 = .ok (.athrow, 1) := by decide +kernel
theorem dX9_gap_65 : decode cX9_gap 65 = .ok (.aload_n 0, 1) := by decide +kernel
theorem dX9_gap_66 : decode cX9_gap 66 = .ok (.getfield 52, 3) := by decide +kernel
theorem dX9_gap_69 : decode cX9_gap 69 = .ok (.iload_n 1, 1) := by decide +kernel
theorem dX9_gap_70 : decode cX9_gap 70 = .ok (.iload_n 2, 1) := by decide +kernel
theorem dX9_gap_71 : decode cX9_gap 71 = .ok (.iload_n 3, 1) := by decide +kernel
theorem dX9_gap_72 : decode cX9_gap 72 = .ok (.invokevirtual 240, 3) := by decide +kernel
theorem dX9_gap_75 : decode cX9_gap 75 = .ok (.ireturn, 1) := by decide +kernel
set_option maxRecDepth 20000 in
theorem bX9_gap_0 {G : Gx} {mm : Nat → Nat → Int32} {lm : Nat → Int64} {x1 : Int32} {x2 : Int32} {x3 : Int32} {o : Ou} {z : Wd} {a b : Nat} (hw : ((Ct G M_X9_requireTower [.ref 0] (SH, mm, lm) false (.inl none) (SH, mm, lm) false 0 0 ∧ ((Ct G M_X9_requireBell [.ref 0, .int x1] (SH, mm, lm) false (.inl none) (SH, mm, lm) false 0 0 ∧ ((Ct G M_X9_requireBell [.ref 0, .int x2] (SH, mm, lm) false (.inl none) (SH, mm, lm) false 0 0 ∧ ((Ct G M_X9_requireRange [.int x3, .int 0, .int 9999] (SH, mm, lm) false (.inl none) (SH, mm, lm) false 0 0 ∧ J G M_X9_gap 22 [(0, .ref 0), (1, .int x1), (2, .int x2), (3, .int x3)] [] (SH, mm, lm) false o z false a b) ∨ (∃ (E13 : String), Ct G M_X9_requireRange [.int x3, .int 0, .int 9999] (SH, mm, lm) false (.inr E13) (SH, mm, lm) false 1 6 ∧ o = .inr E13 ∧ z = (SH, mm, lm) ∧ 1 ≤ a ∧ 6 ≤ b))) ∨ (∃ (E14 : String), Ct G M_X9_requireBell [.ref 0, .int x2] (SH, mm, lm) false (.inr E14) (SH, mm, lm) false 1 6 ∧ o = .inr E14 ∧ z = (SH, mm, lm) ∧ 1 ≤ a ∧ 6 ≤ b))) ∨ (∃ (E15 : String), Ct G M_X9_requireBell [.ref 0, .int x1] (SH, mm, lm) false (.inr E15) (SH, mm, lm) false 1 6 ∧ o = .inr E15 ∧ z = (SH, mm, lm) ∧ 1 ≤ a ∧ 6 ≤ b))) ∨ (∃ (E16 : String), Ct G M_X9_requireTower [.ref 0] (SH, mm, lm) false (.inr E16) (SH, mm, lm) false 1 6 ∧ o = .inr E16 ∧ z = (SH, mm, lm) ∧ 1 ≤ a ∧ 6 ≤ b))) :
    J G M_X9_gap 0 [(0, .ref 0), (1, .int x1), (2, .int x2), (3, .int x3)] [] (SH, mm, lm) false o z false a b := by
  refine J_aload_n rfl (i := 0) rfl dX9_gap_0 ?_
  rcases hw with ⟨hc1, hw⟩ | ⟨E16, hc1, rfl, rfl, h1, h6⟩
  · refine J_callV (as := []) (k := 0) (st := []) cal_X9_requireTower cai_X9_requireTower gw_733 ⟨by decide, by decide⟩ cnt_X9_requireTower sh_0 rfl rfl (Nat.le_of_ble_eq_true rfl) dX9_gap_1 (Nat.zero_add _).symm (Nat.zero_add _).symm hc1 ?_
    refine J_aload_n rfl (i := 0) rfl dX9_gap_4 ?_
    refine J_iload_n rfl (i := 1) rfl dX9_gap_5 ?_
    rcases hw with ⟨hc4, hw⟩ | ⟨E15, hc4, rfl, rfl, h1, h6⟩
    · refine J_callV (as := [.int x1]) (k := 0) (st := []) cal_X9_requireBell cai_X9_requireBell gw_738 ⟨by decide, by decide⟩ cnt_X9_requireBell sh_0 rfl rfl (Nat.le_of_ble_eq_true rfl) dX9_gap_6 (Nat.zero_add _).symm (Nat.zero_add _).symm hc4 ?_
      refine J_aload_n rfl (i := 0) rfl dX9_gap_9 ?_
      refine J_iload_n rfl (i := 2) rfl dX9_gap_10 ?_
      rcases hw with ⟨hc7, hw⟩ | ⟨E14, hc7, rfl, rfl, h1, h6⟩
      · refine J_callV (as := [.int x2]) (k := 0) (st := []) cal_X9_requireBell cai_X9_requireBell gw_738 ⟨by decide, by decide⟩ cnt_X9_requireBell sh_0 rfl rfl (Nat.le_of_ble_eq_true rfl) dX9_gap_11 (Nat.zero_add _).symm (Nat.zero_add _).symm hc7 ?_
        refine J_iload_n rfl (i := 3) rfl dX9_gap_14 ?_
        refine J_iconst (v := 0) (by decide) dX9_gap_15 ?_
        refine J_sipush (v := 9999) (by decide) dX9_gap_16 ?_
        rcases hw with ⟨hc10, hw⟩ | ⟨E13, hc10, rfl, rfl, h1, h6⟩
        · refine J_callS (as := [.int x3, .int 0, .int 9999]) (st := []) cal_X9_requireRange cas_X9_requireRange gw_707 ⟨by decide, by decide⟩ cnt_X9_requireRange rfl (Nat.le_of_ble_eq_true rfl) dX9_gap_19 (Nat.zero_add _).symm (Nat.zero_add _).symm hc10 ?_
          exact hw
        · exact J_callSx (ht := rfl) (as := [.int x3, .int 0, .int 9999]) (st := []) cal_X9_requireRange cas_X9_requireRange gw_707 ⟨by decide, by decide⟩ cnt_X9_requireRange rfl (Nat.le_of_ble_eq_true rfl) dX9_gap_19 hc10 h1 h6
      · exact J_callVx (ht := rfl) (as := [.int x2]) (k := 0) (st := []) cal_X9_requireBell cai_X9_requireBell gw_738 ⟨by decide, by decide⟩ cnt_X9_requireBell sh_0 rfl rfl (Nat.le_of_ble_eq_true rfl) dX9_gap_11 hc7 h1 h6
    · exact J_callVx (ht := rfl) (as := [.int x1]) (k := 0) (st := []) cal_X9_requireBell cai_X9_requireBell gw_738 ⟨by decide, by decide⟩ cnt_X9_requireBell sh_0 rfl rfl (Nat.le_of_ble_eq_true rfl) dX9_gap_6 hc4 h1 h6
  · exact J_callVx (ht := rfl) (as := []) (k := 0) (st := []) cal_X9_requireTower cai_X9_requireTower gw_733 ⟨by decide, by decide⟩ cnt_X9_requireTower sh_0 rfl rfl (Nat.le_of_ble_eq_true rfl) dX9_gap_1 hc1 h1 h6
set_option maxRecDepth 20000 in
theorem bX9_gap_22 {G : Gx} {mm : Nat → Nat → Int32} {lm : Nat → Int64} {x1 : Int32} {x2 : Int32} {x3 : Int32} {o : Ou} {z : Wd} {a b : Nat} (hw : ((¬ x1 = x2) → ∃ j1 : Nat, x1 = nI j1 ∧ j1 < 8 ∧ ∃ j2 : Nat, x2 = nI j2 ∧ j2 < 8 ∧ ∃ (v4 : Int32), Ct G M_X0_sharesBeamWith [.ref (23 + j1), .ref (23 + j2)] (SH, mm, lm) false (.inl (some (.int v4))) (SH, mm, lm) false 0 0 ∧ ((¬ v4 = 0) → ∃ (v7 : Int32), Ct G M_X6_gapBetween [.ref 38, .int x1, .int x2, .int x3] (SH, mm, lm) false (.inl (some (.int v7))) (SH, mm, lm) false 0 0 ∧ o = .inl (some (.int v7)) ∧ z = (SH, mm, lm)) ∧ ((v4 = 0) → o = .inr "java/util/NoSuchElementException" ∧ z = (SH, mm, lm) ∧ 1 ≤ a ∧ 6 ≤ b)) ∧ ((x1 = x2) → o = .inr "java/lang/IllegalArgumentException" ∧ z = (SH, mm, lm) ∧ 1 ≤ a ∧ 6 ≤ b)) :
    J G M_X9_gap 22 [(0, .ref 0), (1, .int x1), (2, .int x2), (3, .int x3)] [] (SH, mm, lm) false o z false a b := by
  refine J_iload_n rfl (i := 1) rfl dX9_gap_22 ?_
  refine J_iload_n rfl (i := 2) rfl dX9_gap_23 ?_
  refine J_icmp_ne (tgt := 37) dX9_gap_24 (by decide) (fun hb10 => ?_) (fun hb10 => ?_)
  · replace hw := hw.1 hb10
    refine J_aload_n rfl (i := 0) rfl dX9_gap_37 ?_
    refine J_getr kls_9 (q := 0) (k := 3) sh_0 (by decide) rfl gw_432 dX9_gap_38 ?_
    refine J_iload_n rfl (i := 1) rfl dX9_gap_41 ?_
    obtain ⟨j1, ej1, hj1, hw⟩ := hw
    refine J_aald (r := 23 + j1) sh_22 ej1 hj1 (by decide) (if_pos hj1) dX9_gap_42 ?_
    refine J_aload_n rfl (i := 0) rfl dX9_gap_43 ?_
    refine J_getr kls_9 (q := 0) (k := 3) sh_0 (by decide) rfl gw_432 dX9_gap_44 ?_
    refine J_iload_n rfl (i := 2) rfl dX9_gap_47 ?_
    obtain ⟨j2, ej2, hj2, hw⟩ := hw
    refine J_aald (r := 23 + j2) sh_22 ej2 hj2 (by decide) (if_pos hj2) dX9_gap_48 ?_
    obtain ⟨v4, hc3, hw⟩ := hw
    refine J_callV (as := [.ref (23 + j2)]) (k := (23 + j1)) (st := []) cal_X0_sharesBeamWith cai_X0_sharesBeamWith gw_1108 ⟨by decide, by decide⟩ cnt_X0_sharesBeamWith (sh_b23 hj1) rfl rfl (Nat.le_of_ble_eq_true rfl) dX9_gap_49 (Nat.zero_add _).symm (Nat.zero_add _).symm hc3 ?_
    refine J_if_ne (tgt := 65) dX9_gap_52 (by decide) (fun hb9 => ?_) (fun hb9 => ?_)
    · replace hw := hw.1 hb9
      refine J_aload_n rfl (i := 0) rfl dX9_gap_65 ?_
      refine J_getr kls_9 (q := 0) (k := 6) sh_0 (by decide) rfl gw_435 dX9_gap_66 ?_
      refine J_iload_n rfl (i := 1) rfl dX9_gap_69 ?_
      refine J_iload_n rfl (i := 2) rfl dX9_gap_70 ?_
      refine J_iload_n rfl (i := 3) rfl dX9_gap_71 ?_
      obtain ⟨v7, hc6, hw⟩ := hw
      refine J_callV (as := [.int x1, .int x2, .int x3]) (k := 38) (st := []) cal_X6_gapBetween cai_X6_gapBetween gw_1110 ⟨by decide, by decide⟩ cnt_X6_gapBetween sh_38 rfl rfl (Nat.le_of_ble_eq_true rfl) dX9_gap_72 (Nat.zero_add _).symm (Nat.zero_add _).symm hc6 ?_
      exact J_fini (ty := .int) rfl rfl dX9_gap_75 hw
    · replace hw := hw.2 hb9
      obtain ⟨rfl, rfl, h1, h6⟩ := hw
      exact J_throwX nx0 nx1 nx2 nx5 rfl (by decide +kernel) (by decide +kernel) gw_828 gw_130 st_RX9_237 tha_RX9_239 thb_RX9_239 ca_RX9_239 (Nat.le_of_ble_eq_true rfl) (by decide) (by decide) h1 h6 dX9_gap_55 dX9_gap_58 dX9_gap_59 dX9_gap_61 dX9_gap_64
  · replace hw := hw.2 hb10
    obtain ⟨rfl, rfl, h1, h6⟩ := hw
    exact J_throwS rfl (by decide +kernel) (by decide +kernel) gw_710 gw_123 st_RX9_228 tha_RX9_230 thb_RX9_230 ca_RX9_230 (Nat.le_of_ble_eq_true rfl) (by decide) (by decide) h1 h6 dX9_gap_27 dX9_gap_30 dX9_gap_31 dX9_gap_33 dX9_gap_36
theorem dX9_firstCollision_0 : decode cX9_firstCollision 0 = .ok (.aload_n 0, 1) := by decide +kernel
theorem dX9_firstCollision_1 : decode cX9_firstCollision 1 = .ok (.invokevirtual 122, 3) := by decide +kernel
theorem dX9_firstCollision_4 : decode cX9_firstCollision 4 = .ok (.aload_n 0, 1) := by decide +kernel
theorem dX9_firstCollision_5 : decode cX9_firstCollision 5 = .ok (.getfield 52, 3) := by decide +kernel
theorem dX9_firstCollision_8 : decode cX9_firstCollision 8 = .ok (.invokevirtual 243, 3) := by decide +kernel
theorem dX9_firstCollision_11 : decode cX9_firstCollision 11 = .ok (.istore_n 1, 1) := by decide +kernel
theorem dX9_firstCollision_12 : decode cX9_firstCollision 12 = .ok (.iload_n 1, 1) := by decide +kernel
theorem dX9_firstCollision_13 : decode cX9_firstCollision 13 = .ok (.iconst (-1), 1) := by decide +kernel
theorem dX9_firstCollision_14 : decode cX9_firstCollision 14 = .ok (.if_icmp .ne 8, 3) := by decide +kernel
theorem dX9_firstCollision_17 : decode cX9_firstCollision 17 = .ok (.bipush (-2), 2) := by decide +kernel
theorem dX9_firstCollision_19 : decode cX9_firstCollision 19 = .ok (.goto 4, 3) := by decide +kernel
theorem dX9_firstCollision_22 : decode cX9_firstCollision 22 = .ok (.iload_n 1, 1) := by decide +kernel
theorem dX9_firstCollision_23 : decode cX9_firstCollision 23 = .ok (.ireturn, 1) := by decide +kernel
set_option maxRecDepth 20000 in
theorem bX9_firstCollision_0 {G : Gx} {mm : Nat → Nat → Int32} {lm : Nat → Int64}  {o : Ou} {z : Wd} {a b : Nat} (hw : ((Ct G M_X9_requireTower [.ref 0] (SH, mm, lm) false (.inl none) (SH, mm, lm) false 0 0 ∧ J G M_X9_firstCollision 4 [(0, .ref 0)] [] (SH, mm, lm) false o z false a b) ∨ (∃ (E4 : String), Ct G M_X9_requireTower [.ref 0] (SH, mm, lm) false (.inr E4) (SH, mm, lm) false 1 6 ∧ o = .inr E4 ∧ z = (SH, mm, lm) ∧ 1 ≤ a ∧ 6 ≤ b))) :
    J G M_X9_firstCollision 0 [(0, .ref 0)] [] (SH, mm, lm) false o z false a b := by
  refine J_aload_n rfl (i := 0) rfl dX9_firstCollision_0 ?_
  rcases hw with ⟨hc1, hw⟩ | ⟨E4, hc1, rfl, rfl, h1, h6⟩
  · refine J_callV (as := []) (k := 0) (st := []) cal_X9_requireTower cai_X9_requireTower gw_733 ⟨by decide, by decide⟩ cnt_X9_requireTower sh_0 rfl rfl (Nat.le_of_ble_eq_true rfl) dX9_firstCollision_1 (Nat.zero_add _).symm (Nat.zero_add _).symm hc1 ?_
    exact hw
  · exact J_callVx (ht := rfl) (as := []) (k := 0) (st := []) cal_X9_requireTower cai_X9_requireTower gw_733 ⟨by decide, by decide⟩ cnt_X9_requireTower sh_0 rfl rfl (Nat.le_of_ble_eq_true rfl) dX9_firstCollision_1 hc1 h1 h6
set_option maxRecDepth 20000 in
theorem bX9_firstCollision_4 {G : Gx} {mm : Nat → Nat → Int32} {lm : Nat → Int64}  {o : Ou} {z : Wd} {a b : Nat} (hw : ∃ (v2 : Int32) (m3 : Nat → Nat → Int32), Ct G M_X6_tickOfCollision [.ref 38] (SH, mm, lm) false (.inl (some (.int v2))) (SH, m3, lm) false 0 0 ∧ ((¬ v2 = (-1)) → o = .inl (some (.int v2)) ∧ z = (SH, m3, lm)) ∧ ((v2 = (-1)) → o = .inl (some (.int (-2))) ∧ z = (SH, m3, lm))) :
    J G M_X9_firstCollision 4 [(0, .ref 0)] [] (SH, mm, lm) false o z false a b := by
  refine J_aload_n rfl (i := 0) rfl dX9_firstCollision_4 ?_
  refine J_getr kls_9 (q := 0) (k := 6) sh_0 (by decide) rfl gw_435 dX9_firstCollision_5 ?_
  obtain ⟨v2, m3, hc1, hw⟩ := hw
  refine J_callV (as := []) (k := 38) (st := []) cal_X6_tickOfCollision cai_X6_tickOfCollision gw_1130 ⟨by decide, by decide⟩ cnt_X6_tickOfCollision sh_38 rfl rfl (Nat.le_of_ble_eq_true rfl) dX9_firstCollision_8 (Nat.zero_add _).symm (Nat.zero_add _).symm hc1 ?_
  refine J_istore_n [(1, .int v2), (0, .ref 0)] rfl (i := 1) (by decide) rfl dX9_firstCollision_11 ?_
  refine J_iload_n rfl (i := 1) rfl dX9_firstCollision_12 ?_
  refine J_iconst (v := (-1)) (by decide) dX9_firstCollision_13 ?_
  refine J_icmp_ne (tgt := 22) dX9_firstCollision_14 (by decide) (fun hb4 => ?_) (fun hb4 => ?_)
  · replace hw := hw.1 hb4
    refine J_iload_n rfl (i := 1) rfl dX9_firstCollision_22 ?_
    exact J_fini (ty := .int) rfl rfl dX9_firstCollision_23 hw
  · replace hw := hw.2 hb4
    refine J_bipush (v := (-2)) (by decide) dX9_firstCollision_17 ?_
    refine J_goto (tgt := 23) dX9_firstCollision_19 (by decide) ?_
    exact J_fini (ty := .int) rfl rfl dX9_firstCollision_23 hw
theorem dX9_collidingBells_0 : decode cX9_collidingBells 0 = .ok (.aload_n 0, 1) := by decide +kernel
theorem dX9_collidingBells_1 : decode cX9_collidingBells 1 = .ok (.invokevirtual 122, 3) := by decide +kernel
theorem dX9_collidingBells_4 : decode cX9_collidingBells 4 = .ok (.aload_n 0, 1) := by decide +kernel
theorem dX9_collidingBells_5 : decode cX9_collidingBells 5 = .ok (.getfield 52, 3) := by decide +kernel
theorem dX9_collidingBells_8 : decode cX9_collidingBells 8 = .ok (.invokevirtual 243, 3) := by decide +kernel
theorem dX9_collidingBells_11 : decode cX9_collidingBells 11 = .ok (.istore_n 1, 1) := by decide +kernel
theorem dX9_collidingBells_12 : decode cX9_collidingBells 12 = .ok (.iload_n 1, 1) := by decide +kernel
theorem dX9_collidingBells_13 : decode cX9_collidingBells 13 = .ok (.iconst (-1), 1) := by decide +kernel
theorem dX9_collidingBells_14 : decode cX9_collidingBells 14 = .ok (.if_icmp .ne 8, 3) := by decide +kernel
theorem dX9_collidingBells_17 : decode cX9_collidingBells 17 = .ok (.bipush (-2), 2) := by decide +kernel
theorem dX9_collidingBells_19 : decode cX9_collidingBells 19 = .ok (.goto 11, 3) := by decide +kernel
theorem dX9_collidingBells_22 : decode cX9_collidingBells 22 = .ok (.aload_n 0, 1) := by decide +kernel
theorem dX9_collidingBells_23 : decode cX9_collidingBells 23 = .ok (.getfield 52, 3) := by decide +kernel
theorem dX9_collidingBells_26 : decode cX9_collidingBells 26 = .ok (.iload_n 1, 1) := by decide +kernel
theorem dX9_collidingBells_27 : decode cX9_collidingBells 27 = .ok (.invokevirtual 246, 3) := by decide +kernel
theorem dX9_collidingBells_30 : decode cX9_collidingBells 30 = .ok (.ireturn, 1) := by decide +kernel
set_option maxRecDepth 20000 in
theorem bX9_collidingBells_0 {G : Gx} {mm : Nat → Nat → Int32} {lm : Nat → Int64}  {o : Ou} {z : Wd} {a b : Nat} (hw : ((Ct G M_X9_requireTower [.ref 0] (SH, mm, lm) false (.inl none) (SH, mm, lm) false 0 0 ∧ J G M_X9_collidingBells 4 [(0, .ref 0)] [] (SH, mm, lm) false o z false a b) ∨ (∃ (E4 : String), Ct G M_X9_requireTower [.ref 0] (SH, mm, lm) false (.inr E4) (SH, mm, lm) false 1 6 ∧ o = .inr E4 ∧ z = (SH, mm, lm) ∧ 1 ≤ a ∧ 6 ≤ b))) :
    J G M_X9_collidingBells 0 [(0, .ref 0)] [] (SH, mm, lm) false o z false a b := by
  refine J_aload_n rfl (i := 0) rfl dX9_collidingBells_0 ?_
  rcases hw with ⟨hc1, hw⟩ | ⟨E4, hc1, rfl, rfl, h1, h6⟩
  · refine J_callV (as := []) (k := 0) (st := []) cal_X9_requireTower cai_X9_requireTower gw_733 ⟨by decide, by decide⟩ cnt_X9_requireTower sh_0 rfl rfl (Nat.le_of_ble_eq_true rfl) dX9_collidingBells_1 (Nat.zero_add _).symm (Nat.zero_add _).symm hc1 ?_
    exact hw
  · exact J_callVx (ht := rfl) (as := []) (k := 0) (st := []) cal_X9_requireTower cai_X9_requireTower gw_733 ⟨by decide, by decide⟩ cnt_X9_requireTower sh_0 rfl rfl (Nat.le_of_ble_eq_true rfl) dX9_collidingBells_1 hc1 h1 h6
set_option maxRecDepth 20000 in
theorem bX9_collidingBells_4 {G : Gx} {mm : Nat → Nat → Int32} {lm : Nat → Int64}  {o : Ou} {z : Wd} {a b : Nat} (hw : ∃ (v2 : Int32) (m3 : Nat → Nat → Int32), Ct G M_X6_tickOfCollision [.ref 38] (SH, mm, lm) false (.inl (some (.int v2))) (SH, m3, lm) false 0 0 ∧ ((¬ v2 = (-1)) → ∃ (v5 : Int32) (m6 : Nat → Nat → Int32), Ct G M_X6_pairCollidingAt [.ref 38, .int v2] (SH, m3, lm) false (.inl (some (.int v5))) (SH, m6, lm) false 0 0 ∧ o = .inl (some (.int v5)) ∧ z = (SH, m6, lm)) ∧ ((v2 = (-1)) → o = .inl (some (.int (-2))) ∧ z = (SH, m3, lm))) :
    J G M_X9_collidingBells 4 [(0, .ref 0)] [] (SH, mm, lm) false o z false a b := by
  refine J_aload_n rfl (i := 0) rfl dX9_collidingBells_4 ?_
  refine J_getr kls_9 (q := 0) (k := 6) sh_0 (by decide) rfl gw_435 dX9_collidingBells_5 ?_
  obtain ⟨v2, m3, hc1, hw⟩ := hw
  refine J_callV (as := []) (k := 38) (st := []) cal_X6_tickOfCollision cai_X6_tickOfCollision gw_1130 ⟨by decide, by decide⟩ cnt_X6_tickOfCollision sh_38 rfl rfl (Nat.le_of_ble_eq_true rfl) dX9_collidingBells_8 (Nat.zero_add _).symm (Nat.zero_add _).symm hc1 ?_
  refine J_istore_n [(1, .int v2), (0, .ref 0)] rfl (i := 1) (by decide) rfl dX9_collidingBells_11 ?_
  refine J_iload_n rfl (i := 1) rfl dX9_collidingBells_12 ?_
  refine J_iconst (v := (-1)) (by decide) dX9_collidingBells_13 ?_
  refine J_icmp_ne (tgt := 22) dX9_collidingBells_14 (by decide) (fun hb7 => ?_) (fun hb7 => ?_)
  · replace hw := hw.1 hb7
    refine J_aload_n rfl (i := 0) rfl dX9_collidingBells_22 ?_
    refine J_getr kls_9 (q := 0) (k := 6) sh_0 (by decide) rfl gw_435 dX9_collidingBells_23 ?_
    refine J_iload_n rfl (i := 1) rfl dX9_collidingBells_26 ?_
    obtain ⟨v5, m6, hc4, hw⟩ := hw
    refine J_callV (as := [.int v2]) (k := 38) (st := []) cal_X6_pairCollidingAt cai_X6_pairCollidingAt gw_1146 ⟨by decide, by decide⟩ cnt_X6_pairCollidingAt sh_38 rfl rfl (Nat.le_of_ble_eq_true rfl) dX9_collidingBells_27 (Nat.zero_add _).symm (Nat.zero_add _).symm hc4 ?_
    exact J_fini (ty := .int) rfl rfl dX9_collidingBells_30 hw
  · replace hw := hw.2 hb7
    refine J_bipush (v := (-2)) (by decide) dX9_collidingBells_17 ?_
    refine J_goto (tgt := 30) dX9_collidingBells_19 (by decide) ?_
    exact J_fini (ty := .int) rfl rfl dX9_collidingBells_30 hw
theorem dX9_safeStart_0 : decode cX9_safeStart 0 = .ok (.aload_n 0, 1) := by decide +kernel
theorem dX9_safeStart_1 : decode cX9_safeStart 1 = .ok (.invokevirtual 122, 3) := by decide +kernel
theorem dX9_safeStart_4 : decode cX9_safeStart 4 = .ok (.aload_n 0, 1) := by decide +kernel
theorem dX9_safeStart_5 : decode cX9_safeStart 5 = .ok (.iload_n 1, 1) := by decide +kernel
theorem dX9_safeStart_6 : decode cX9_safeStart 6 = .ok (.invokevirtual 125, 3) := by decide +kernel
theorem dX9_safeStart_9 : decode cX9_safeStart 9 = .ok (.iload_n 2, 1) := by decide +kernel
theorem dX9_safeStart_10 : decode cX9_safeStart 10 = .ok (.iconst 1, 1) := by decide +kernel
theorem dX9_safeStart_11 : decode cX9_safeStart 11 = .ok (.bipush 15, 2) := by decide +kernel
theorem dX9_safeStart_13 : decode cX9_safeStart 13 = .ok (.invokestatic 96, 3) := by decide +kernel
theorem dX9_safeStart_16 : decode cX9_safeStart 16 = .ok (.aload_n 0, 1) := by decide +kernel
theorem dX9_safeStart_17 : decode cX9_safeStart 17 = .ok (.getfield 28, 3) := by decide +kernel
theorem dX9_safeStart_20 : decode cX9_safeStart 20 = .ok (.iload_n 1, 1) := by decide +kernel
theorem dX9_safeStart_21 : decode cX9_safeStart 21 = .ok (.aaload, 1) := by decide +kernel
theorem dX9_safeStart_22 : decode cX9_safeStart 22 = .ok (.invokevirtual 131, 3) := by decide +kernel
theorem dX9_safeStart_25 : decode cX9_safeStart 25 = .ok (.ifCond .eq 15, 3) := by decide +kernel
theorem dX9_safeStart_28 : decode cX9_safeStart 28 = .ok (.aload_n 0, 1) := by decide +kernel
theorem dX9_safeStart_29 : decode cX9_safeStart 29 = .ok (.getfield 52, 3) := by decide +kernel
theorem dX9_safeStart_32 : decode cX9_safeStart 32 = .ok (.iload_n 1, 1) := by decide +kernel
theorem dX9_safeStart_33 : decode cX9_safeStart 33 = .ok (.iload_n 2, 1) := by decide +kernel
theorem dX9_safeStart_34 : decode cX9_safeStart 34 = .ok (.invokevirtual 249, 3) := by decide +kernel
theorem dX9_safeStart_37 : decode cX9_safeStart 37 = .ok (.goto 5, 3) := by decide +kernel
theorem dX9_safeStart_40 : decode cX9_safeStart 40 = .ok (.bipush (-2), 2) := by decide +kernel
theorem dX9_safeStart_42 : decode cX9_safeStart 42 = .ok (.ireturn, 1) := by decide +kernel
set_option maxRecDepth 20000 in
theorem bX9_safeStart_0 {G : Gx} {mm : Nat → Nat → Int32} {lm : Nat → Int64} {x1 : Int32} {x2 : Int32} {o : Ou} {z : Wd} {a b : Nat} (hw : ((Ct G M_X9_requireTower [.ref 0] (SH, mm, lm) false (.inl none) (SH, mm, lm) false 0 0 ∧ ((Ct G M_X9_requireBell [.ref 0, .int x1] (SH, mm, lm) false (.inl none) (SH, mm, lm) false 0 0 ∧ ((Ct G M_X9_requireRange [.int x2, .int 1, .int 15] (SH, mm, lm) false (.inl none) (SH, mm, lm) false 0 0 ∧ J G M_X9_safeStart 16 [(0, .ref 0), (1, .int x1), (2, .int x2)] [] (SH, mm, lm) false o z false a b) ∨ (∃ (E10 : String), Ct G M_X9_requireRange [.int x2, .int 1, .int 15] (SH, mm, lm) false (.inr E10) (SH, mm, lm) false 1 6 ∧ o = .inr E10 ∧ z = (SH, mm, lm) ∧ 1 ≤ a ∧ 6 ≤ b))) ∨ (∃ (E11 : String), Ct G M_X9_requireBell [.ref 0, .int x1] (SH, mm, lm) false (.inr E11) (SH, mm, lm) false 1 6 ∧ o = .inr E11 ∧ z = (SH, mm, lm) ∧ 1 ≤ a ∧ 6 ≤ b))) ∨ (∃ (E12 : String), Ct G M_X9_requireTower [.ref 0] (SH, mm, lm) false (.inr E12) (SH, mm, lm) false 1 6 ∧ o = .inr E12 ∧ z = (SH, mm, lm) ∧ 1 ≤ a ∧ 6 ≤ b))) :
    J G M_X9_safeStart 0 [(0, .ref 0), (1, .int x1), (2, .int x2)] [] (SH, mm, lm) false o z false a b := by
  refine J_aload_n rfl (i := 0) rfl dX9_safeStart_0 ?_
  rcases hw with ⟨hc1, hw⟩ | ⟨E12, hc1, rfl, rfl, h1, h6⟩
  · refine J_callV (as := []) (k := 0) (st := []) cal_X9_requireTower cai_X9_requireTower gw_733 ⟨by decide, by decide⟩ cnt_X9_requireTower sh_0 rfl rfl (Nat.le_of_ble_eq_true rfl) dX9_safeStart_1 (Nat.zero_add _).symm (Nat.zero_add _).symm hc1 ?_
    refine J_aload_n rfl (i := 0) rfl dX9_safeStart_4 ?_
    refine J_iload_n rfl (i := 1) rfl dX9_safeStart_5 ?_
    rcases hw with ⟨hc4, hw⟩ | ⟨E11, hc4, rfl, rfl, h1, h6⟩
    · refine J_callV (as := [.int x1]) (k := 0) (st := []) cal_X9_requireBell cai_X9_requireBell gw_738 ⟨by decide, by decide⟩ cnt_X9_requireBell sh_0 rfl rfl (Nat.le_of_ble_eq_true rfl) dX9_safeStart_6 (Nat.zero_add _).symm (Nat.zero_add _).symm hc4 ?_
      refine J_iload_n rfl (i := 2) rfl dX9_safeStart_9 ?_
      refine J_iconst (v := 1) (by decide) dX9_safeStart_10 ?_
      refine J_bipush (v := 15) (by decide) dX9_safeStart_11 ?_
      rcases hw with ⟨hc7, hw⟩ | ⟨E10, hc7, rfl, rfl, h1, h6⟩
      · refine J_callS (as := [.int x2, .int 1, .int 15]) (st := []) cal_X9_requireRange cas_X9_requireRange gw_707 ⟨by decide, by decide⟩ cnt_X9_requireRange rfl (Nat.le_of_ble_eq_true rfl) dX9_safeStart_13 (Nat.zero_add _).symm (Nat.zero_add _).symm hc7 ?_
        exact hw
      · exact J_callSx (ht := rfl) (as := [.int x2, .int 1, .int 15]) (st := []) cal_X9_requireRange cas_X9_requireRange gw_707 ⟨by decide, by decide⟩ cnt_X9_requireRange rfl (Nat.le_of_ble_eq_true rfl) dX9_safeStart_13 hc7 h1 h6
    · exact J_callVx (ht := rfl) (as := [.int x1]) (k := 0) (st := []) cal_X9_requireBell cai_X9_requireBell gw_738 ⟨by decide, by decide⟩ cnt_X9_requireBell sh_0 rfl rfl (Nat.le_of_ble_eq_true rfl) dX9_safeStart_6 hc4 h1 h6
  · exact J_callVx (ht := rfl) (as := []) (k := 0) (st := []) cal_X9_requireTower cai_X9_requireTower gw_733 ⟨by decide, by decide⟩ cnt_X9_requireTower sh_0 rfl rfl (Nat.le_of_ble_eq_true rfl) dX9_safeStart_1 hc1 h1 h6
set_option maxRecDepth 20000 in
theorem bX9_safeStart_16 {G : Gx} {mm : Nat → Nat → Int32} {lm : Nat → Int64} {x1 : Int32} {x2 : Int32} {o : Ou} {z : Wd} {a b : Nat} (hw : ∃ j1 : Nat, x1 = nI j1 ∧ j1 < 8 ∧ ∃ (v3 : Int32), Ct G M_X0_hangs [.ref (23 + j1)] (SH, mm, lm) false (.inl (some (.int v3))) (SH, mm, lm) false 0 0 ∧ ((v3 = 0) → o = .inl (some (.int (-2))) ∧ z = (SH, mm, lm)) ∧ ((¬ v3 = 0) → ∃ (v6 : Int32) (m7 : Nat → Nat → Int32), Ct G M_X6_leastSafeStart [.ref 38, .int x1, .int x2] (SH, mm, lm) false (.inl (some (.int v6))) (SH, m7, lm) false 0 0 ∧ o = .inl (some (.int v6)) ∧ z = (SH, m7, lm))) :
    J G M_X9_safeStart 16 [(0, .ref 0), (1, .int x1), (2, .int x2)] [] (SH, mm, lm) false o z false a b := by
  refine J_aload_n rfl (i := 0) rfl dX9_safeStart_16 ?_
  refine J_getr kls_9 (q := 0) (k := 3) sh_0 (by decide) rfl gw_432 dX9_safeStart_17 ?_
  refine J_iload_n rfl (i := 1) rfl dX9_safeStart_20 ?_
  obtain ⟨j1, ej1, hj1, hw⟩ := hw
  refine J_aald (r := 23 + j1) sh_22 ej1 hj1 (by decide) (if_pos hj1) dX9_safeStart_21 ?_
  obtain ⟨v3, hc2, hw⟩ := hw
  refine J_callV (as := []) (k := (23 + j1)) (st := []) cal_X0_hangs cai_X0_hangs gw_746 ⟨by decide, by decide⟩ cnt_X0_hangs (sh_b23 hj1) rfl rfl (Nat.le_of_ble_eq_true rfl) dX9_safeStart_22 (Nat.zero_add _).symm (Nat.zero_add _).symm hc2 ?_
  refine J_if_eq (tgt := 40) dX9_safeStart_25 (by decide) (fun hb8 => ?_) (fun hb8 => ?_)
  · replace hw := hw.1 hb8
    refine J_bipush (v := (-2)) (by decide) dX9_safeStart_40 ?_
    exact J_fini (ty := .int) rfl rfl dX9_safeStart_42 hw
  · replace hw := hw.2 hb8
    refine J_aload_n rfl (i := 0) rfl dX9_safeStart_28 ?_
    refine J_getr kls_9 (q := 0) (k := 6) sh_0 (by decide) rfl gw_435 dX9_safeStart_29 ?_
    refine J_iload_n rfl (i := 1) rfl dX9_safeStart_32 ?_
    refine J_iload_n rfl (i := 2) rfl dX9_safeStart_33 ?_
    obtain ⟨v6, m7, hc5, hw⟩ := hw
    refine J_callV (as := [.int x1, .int x2]) (k := 38) (st := []) cal_X6_leastSafeStart cai_X6_leastSafeStart gw_1154 ⟨by decide, by decide⟩ cnt_X6_leastSafeStart sh_38 rfl rfl (Nat.le_of_ble_eq_true rfl) dX9_safeStart_34 (Nat.zero_add _).symm (Nat.zero_add _).symm hc5 ?_
    refine J_goto (tgt := 42) dX9_safeStart_37 (by decide) ?_
    exact J_fini (ty := .int) rfl rfl dX9_safeStart_42 hw
theorem dX9_safeAmplitude_0 : decode cX9_safeAmplitude 0 = .ok (.aload_n 0, 1) := by decide +kernel
theorem dX9_safeAmplitude_1 : decode cX9_safeAmplitude 1 = .ok (.invokevirtual 122, 3) := by decide +kernel
theorem dX9_safeAmplitude_4 : decode cX9_safeAmplitude 4 = .ok (.aload_n 0, 1) := by decide +kernel
theorem dX9_safeAmplitude_5 : decode cX9_safeAmplitude 5 = .ok (.iload_n 1, 1) := by decide +kernel
theorem dX9_safeAmplitude_6 : decode cX9_safeAmplitude 6 = .ok (.invokevirtual 125, 3) := by decide +kernel
theorem dX9_safeAmplitude_9 : decode cX9_safeAmplitude 9 = .ok (.aload_n 0, 1) := by decide +kernel
theorem dX9_safeAmplitude_10 : decode cX9_safeAmplitude 10 = .ok (.getfield 28, 3) := by decide +kernel
theorem dX9_safeAmplitude_13 : decode cX9_safeAmplitude 13 = .ok (.iload_n 1, 1) := by decide +kernel
theorem dX9_safeAmplitude_14 : decode cX9_safeAmplitude 14 = .ok (.aaload, 1) := by decide +kernel
theorem dX9_safeAmplitude_15 : decode cX9_safeAmplitude 15 = .ok (.invokevirtual 221, 3) := by decide +kernel
theorem dX9_safeAmplitude_18 : decode cX9_safeAmplitude 18 = .ok (.ifCond .eq 14, 3) := by decide +kernel
theorem dX9_safeAmplitude_21 : decode cX9_safeAmplitude 21 = .ok (.aload_n 0, 1) := by decide +kernel
theorem dX9_safeAmplitude_22 : decode cX9_safeAmplitude 22 = .ok (.getfield 52, 3) := by decide +kernel
theorem dX9_safeAmplitude_25 : decode cX9_safeAmplitude 25 = .ok (.iload_n 1, 1) := by decide +kernel
theorem dX9_safeAmplitude_26 : decode cX9_safeAmplitude 26 = .ok (.invokevirtual 252, 3) := by decide +kernel
theorem dX9_safeAmplitude_29 : decode cX9_safeAmplitude 29 = .ok (.goto 5, 3) := by decide +kernel
theorem dX9_safeAmplitude_32 : decode cX9_safeAmplitude 32 = .ok (.bipush (-2), 2) := by decide +kernel
theorem dX9_safeAmplitude_34 : decode cX9_safeAmplitude 34 = .ok (.ireturn, 1) := by decide +kernel
set_option maxRecDepth 20000 in
theorem bX9_safeAmplitude_0 {G : Gx} {mm : Nat → Nat → Int32} {lm : Nat → Int64} {x1 : Int32} {o : Ou} {z : Wd} {a b : Nat} (hw : ((Ct G M_X9_requireTower [.ref 0] (SH, mm, lm) false (.inl none) (SH, mm, lm) false 0 0 ∧ ((Ct G M_X9_requireBell [.ref 0, .int x1] (SH, mm, lm) false (.inl none) (SH, mm, lm) false 0 0 ∧ J G M_X9_safeAmplitude 9 [(0, .ref 0), (1, .int x1)] [] (SH, mm, lm) false o z false a b) ∨ (∃ (E7 : String), Ct G M_X9_requireBell [.ref 0, .int x1] (SH, mm, lm) false (.inr E7) (SH, mm, lm) false 1 6 ∧ o = .inr E7 ∧ z = (SH, mm, lm) ∧ 1 ≤ a ∧ 6 ≤ b))) ∨ (∃ (E8 : String), Ct G M_X9_requireTower [.ref 0] (SH, mm, lm) false (.inr E8) (SH, mm, lm) false 1 6 ∧ o = .inr E8 ∧ z = (SH, mm, lm) ∧ 1 ≤ a ∧ 6 ≤ b))) :
    J G M_X9_safeAmplitude 0 [(0, .ref 0), (1, .int x1)] [] (SH, mm, lm) false o z false a b := by
  refine J_aload_n rfl (i := 0) rfl dX9_safeAmplitude_0 ?_
  rcases hw with ⟨hc1, hw⟩ | ⟨E8, hc1, rfl, rfl, h1, h6⟩
  · refine J_callV (as := []) (k := 0) (st := []) cal_X9_requireTower cai_X9_requireTower gw_733 ⟨by decide, by decide⟩ cnt_X9_requireTower sh_0 rfl rfl (Nat.le_of_ble_eq_true rfl) dX9_safeAmplitude_1 (Nat.zero_add _).symm (Nat.zero_add _).symm hc1 ?_
    refine J_aload_n rfl (i := 0) rfl dX9_safeAmplitude_4 ?_
    refine J_iload_n rfl (i := 1) rfl dX9_safeAmplitude_5 ?_
    rcases hw with ⟨hc4, hw⟩ | ⟨E7, hc4, rfl, rfl, h1, h6⟩
    · refine J_callV (as := [.int x1]) (k := 0) (st := []) cal_X9_requireBell cai_X9_requireBell gw_738 ⟨by decide, by decide⟩ cnt_X9_requireBell sh_0 rfl rfl (Nat.le_of_ble_eq_true rfl) dX9_safeAmplitude_6 (Nat.zero_add _).symm (Nat.zero_add _).symm hc4 ?_
      exact hw
    · exact J_callVx (ht := rfl) (as := [.int x1]) (k := 0) (st := []) cal_X9_requireBell cai_X9_requireBell gw_738 ⟨by decide, by decide⟩ cnt_X9_requireBell sh_0 rfl rfl (Nat.le_of_ble_eq_true rfl) dX9_safeAmplitude_6 hc4 h1 h6
  · exact J_callVx (ht := rfl) (as := []) (k := 0) (st := []) cal_X9_requireTower cai_X9_requireTower gw_733 ⟨by decide, by decide⟩ cnt_X9_requireTower sh_0 rfl rfl (Nat.le_of_ble_eq_true rfl) dX9_safeAmplitude_1 hc1 h1 h6
set_option maxRecDepth 20000 in
theorem bX9_safeAmplitude_9 {G : Gx} {mm : Nat → Nat → Int32} {lm : Nat → Int64} {x1 : Int32} {o : Ou} {z : Wd} {a b : Nat} (hw : ∃ j1 : Nat, x1 = nI j1 ∧ j1 < 8 ∧ ∃ (v3 : Int32), Ct G M_X0_swings [.ref (23 + j1)] (SH, mm, lm) false (.inl (some (.int v3))) (SH, mm, lm) false 0 0 ∧ ((v3 = 0) → o = .inl (some (.int (-2))) ∧ z = (SH, mm, lm)) ∧ ((¬ v3 = 0) → ∃ (v6 : Int32) (m7 : Nat → Nat → Int32), Ct G M_X6_greatestSafeAmplitude [.ref 38, .int x1] (SH, mm, lm) false (.inl (some (.int v6))) (SH, m7, lm) false 0 0 ∧ o = .inl (some (.int v6)) ∧ z = (SH, m7, lm))) :
    J G M_X9_safeAmplitude 9 [(0, .ref 0), (1, .int x1)] [] (SH, mm, lm) false o z false a b := by
  refine J_aload_n rfl (i := 0) rfl dX9_safeAmplitude_9 ?_
  refine J_getr kls_9 (q := 0) (k := 3) sh_0 (by decide) rfl gw_432 dX9_safeAmplitude_10 ?_
  refine J_iload_n rfl (i := 1) rfl dX9_safeAmplitude_13 ?_
  obtain ⟨j1, ej1, hj1, hw⟩ := hw
  refine J_aald (r := 23 + j1) sh_22 ej1 hj1 (by decide) (if_pos hj1) dX9_safeAmplitude_14 ?_
  obtain ⟨v3, hc2, hw⟩ := hw
  refine J_callV (as := []) (k := (23 + j1)) (st := []) cal_X0_swings cai_X0_swings gw_1085 ⟨by decide, by decide⟩ cnt_X0_swings (sh_b23 hj1) rfl rfl (Nat.le_of_ble_eq_true rfl) dX9_safeAmplitude_15 (Nat.zero_add _).symm (Nat.zero_add _).symm hc2 ?_
  refine J_if_eq (tgt := 32) dX9_safeAmplitude_18 (by decide) (fun hb8 => ?_) (fun hb8 => ?_)
  · replace hw := hw.1 hb8
    refine J_bipush (v := (-2)) (by decide) dX9_safeAmplitude_32 ?_
    exact J_fini (ty := .int) rfl rfl dX9_safeAmplitude_34 hw
  · replace hw := hw.2 hb8
    refine J_aload_n rfl (i := 0) rfl dX9_safeAmplitude_21 ?_
    refine J_getr kls_9 (q := 0) (k := 6) sh_0 (by decide) rfl gw_435 dX9_safeAmplitude_22 ?_
    refine J_iload_n rfl (i := 1) rfl dX9_safeAmplitude_25 ?_
    obtain ⟨v6, m7, hc5, hw⟩ := hw
    refine J_callV (as := [.int x1]) (k := 38) (st := []) cal_X6_greatestSafeAmplitude cai_X6_greatestSafeAmplitude gw_1179 ⟨by decide, by decide⟩ cnt_X6_greatestSafeAmplitude sh_38 rfl rfl (Nat.le_of_ble_eq_true rfl) dX9_safeAmplitude_26 (Nat.zero_add _).symm (Nat.zero_add _).symm hc5 ?_
    refine J_goto (tgt := 34) dX9_safeAmplitude_29 (by decide) ?_
    exact J_fini (ty := .int) rfl rfl dX9_safeAmplitude_34 hw
theorem dX9_strikes_0 : decode cX9_strikes 0 = .ok (.aload_n 0, 1) := by decide +kernel
theorem dX9_strikes_1 : decode cX9_strikes 1 = .ok (.invokevirtual 122, 3) := by decide +kernel
theorem dX9_strikes_4 : decode cX9_strikes 4 = .ok (.aload_n 0, 1) := by decide +kernel
theorem dX9_strikes_5 : decode cX9_strikes 5 = .ok (.iload_n 1, 1) := by decide +kernel
theorem dX9_strikes_6 : decode cX9_strikes 6 = .ok (.invokevirtual 125, 3) := by decide +kernel
theorem dX9_strikes_9 : decode cX9_strikes 9 = .ok (.iload_n 2, 1) := by decide +kernel
theorem dX9_strikes_10 : decode cX9_strikes 10 = .ok (.iconst 0, 1) := by decide +kernel
theorem dX9_strikes_11 : decode cX9_strikes 11 = .ok (.sipush 9999, 3) := by decide +kernel
theorem dX9_strikes_14 : decode cX9_strikes 14 = .ok (.invokestatic 96, 3) := by decide +kernel
theorem dX9_strikes_17 : decode cX9_strikes 17 = .ok (.iload_n 3, 1) := by decide +kernel
theorem dX9_strikes_18 : decode cX9_strikes 18 = .ok (.iload_n 2, 1) := by decide +kernel
theorem dX9_strikes_19 : decode cX9_strikes 19 = .ok (.sipush 9999, 3) := by decide +kernel
theorem dX9_strikes_22 : decode cX9_strikes 22 = .ok (.invokestatic 96, 3) := by decide +kernel
theorem dX9_strikes_25 : decode cX9_strikes 25 = .ok (.aload_n 0, 1) := by decide +kernel
theorem dX9_strikes_26 : decode cX9_strikes 26 = .ok (.getfield 28, 3) := by decide +kernel
theorem dX9_strikes_29 : decode cX9_strikes 29 = .ok (.iload_n 1, 1) := by decide +kernel
theorem dX9_strikes_30 : decode cX9_strikes 30 = .ok (.aaload, 1) := by decide +kernel
theorem dX9_strikes_31 : decode cX9_strikes 31 = .ok (.invokevirtual 221, 3) := by decide +kernel
theorem dX9_strikes_34 : decode cX9_strikes 34 = .ok (.ifCond .eq 16, 3) := by decide +kernel
theorem dX9_strikes_37 : decode cX9_strikes 37 = .ok (.aload_n 0, 1) := by decide +kernel
theorem dX9_strikes_38 : decode cX9_strikes 38 = .ok (.getfield 52, 3) := by decide +kernel
theorem dX9_strikes_41 : decode cX9_strikes 41 = .ok (.iload_n 1, 1) := by decide +kernel
theorem dX9_strikes_42 : decode cX9_strikes 42 = .ok (.iload_n 2, 1) := by decide +kernel
theorem dX9_strikes_43 : decode cX9_strikes 43 = .ok (.iload_n 3, 1) := by decide +kernel
theorem dX9_strikes_44 : decode cX9_strikes 44 = .ok (.invokevirtual 255, 3) := by decide +kernel
theorem dX9_strikes_47 : decode cX9_strikes 47 = .ok (.goto 5, 3) := by decide +kernel
theorem dX9_strikes_50 : decode cX9_strikes 50 = .ok (.bipush (-2), 2) := by decide +kernel
theorem dX9_strikes_52 : decode cX9_strikes 52 = .ok (.ireturn, 1) := by decide +kernel
set_option maxRecDepth 20000 in
theorem bX9_strikes_0 {G : Gx} {mm : Nat → Nat → Int32} {lm : Nat → Int64} {x1 : Int32} {x2 : Int32} {x3 : Int32} {o : Ou} {z : Wd} {a b : Nat} (hw : ((Ct G M_X9_requireTower [.ref 0] (SH, mm, lm) false (.inl none) (SH, mm, lm) false 0 0 ∧ ((Ct G M_X9_requireBell [.ref 0, .int x1] (SH, mm, lm) false (.inl none) (SH, mm, lm) false 0 0 ∧ ((Ct G M_X9_requireRange [.int x2, .int 0, .int 9999] (SH, mm, lm) false (.inl none) (SH, mm, lm) false 0 0 ∧ ((Ct G M_X9_requireRange [.int x3, .int x2, .int 9999] (SH, mm, lm) false (.inl none) (SH, mm, lm) false 0 0 ∧ J G M_X9_strikes 25 [(0, .ref 0), (1, .int x1), (2, .int x2), (3, .int x3)] [] (SH, mm, lm) false o z false a b) ∨ (∃ (E13 : String), Ct G M_X9_requireRange [.int x3, .int x2, .int 9999] (SH, mm, lm) false (.inr E13) (SH, mm, lm) false 1 6 ∧ o = .inr E13 ∧ z = (SH, mm, lm) ∧ 1 ≤ a ∧ 6 ≤ b))) ∨ (∃ (E14 : String), Ct G M_X9_requireRange [.int x2, .int 0, .int 9999] (SH, mm, lm) false (.inr E14) (SH, mm, lm) false 1 6 ∧ o = .inr E14 ∧ z = (SH, mm, lm) ∧ 1 ≤ a ∧ 6 ≤ b))) ∨ (∃ (E15 : String), Ct G M_X9_requireBell [.ref 0, .int x1] (SH, mm, lm) false (.inr E15) (SH, mm, lm) false 1 6 ∧ o = .inr E15 ∧ z = (SH, mm, lm) ∧ 1 ≤ a ∧ 6 ≤ b))) ∨ (∃ (E16 : String), Ct G M_X9_requireTower [.ref 0] (SH, mm, lm) false (.inr E16) (SH, mm, lm) false 1 6 ∧ o = .inr E16 ∧ z = (SH, mm, lm) ∧ 1 ≤ a ∧ 6 ≤ b))) :
    J G M_X9_strikes 0 [(0, .ref 0), (1, .int x1), (2, .int x2), (3, .int x3)] [] (SH, mm, lm) false o z false a b := by
  refine J_aload_n rfl (i := 0) rfl dX9_strikes_0 ?_
  rcases hw with ⟨hc1, hw⟩ | ⟨E16, hc1, rfl, rfl, h1, h6⟩
  · refine J_callV (as := []) (k := 0) (st := []) cal_X9_requireTower cai_X9_requireTower gw_733 ⟨by decide, by decide⟩ cnt_X9_requireTower sh_0 rfl rfl (Nat.le_of_ble_eq_true rfl) dX9_strikes_1 (Nat.zero_add _).symm (Nat.zero_add _).symm hc1 ?_
    refine J_aload_n rfl (i := 0) rfl dX9_strikes_4 ?_
    refine J_iload_n rfl (i := 1) rfl dX9_strikes_5 ?_
    rcases hw with ⟨hc4, hw⟩ | ⟨E15, hc4, rfl, rfl, h1, h6⟩
    · refine J_callV (as := [.int x1]) (k := 0) (st := []) cal_X9_requireBell cai_X9_requireBell gw_738 ⟨by decide, by decide⟩ cnt_X9_requireBell sh_0 rfl rfl (Nat.le_of_ble_eq_true rfl) dX9_strikes_6 (Nat.zero_add _).symm (Nat.zero_add _).symm hc4 ?_
      refine J_iload_n rfl (i := 2) rfl dX9_strikes_9 ?_
      refine J_iconst (v := 0) (by decide) dX9_strikes_10 ?_
      refine J_sipush (v := 9999) (by decide) dX9_strikes_11 ?_
      rcases hw with ⟨hc7, hw⟩ | ⟨E14, hc7, rfl, rfl, h1, h6⟩
      · refine J_callS (as := [.int x2, .int 0, .int 9999]) (st := []) cal_X9_requireRange cas_X9_requireRange gw_707 ⟨by decide, by decide⟩ cnt_X9_requireRange rfl (Nat.le_of_ble_eq_true rfl) dX9_strikes_14 (Nat.zero_add _).symm (Nat.zero_add _).symm hc7 ?_
        refine J_iload_n rfl (i := 3) rfl dX9_strikes_17 ?_
        refine J_iload_n rfl (i := 2) rfl dX9_strikes_18 ?_
        refine J_sipush (v := 9999) (by decide) dX9_strikes_19 ?_
        rcases hw with ⟨hc10, hw⟩ | ⟨E13, hc10, rfl, rfl, h1, h6⟩
        · refine J_callS (as := [.int x3, .int x2, .int 9999]) (st := []) cal_X9_requireRange cas_X9_requireRange gw_707 ⟨by decide, by decide⟩ cnt_X9_requireRange rfl (Nat.le_of_ble_eq_true rfl) dX9_strikes_22 (Nat.zero_add _).symm (Nat.zero_add _).symm hc10 ?_
          exact hw
        · exact J_callSx (ht := rfl) (as := [.int x3, .int x2, .int 9999]) (st := []) cal_X9_requireRange cas_X9_requireRange gw_707 ⟨by decide, by decide⟩ cnt_X9_requireRange rfl (Nat.le_of_ble_eq_true rfl) dX9_strikes_22 hc10 h1 h6
      · exact J_callSx (ht := rfl) (as := [.int x2, .int 0, .int 9999]) (st := []) cal_X9_requireRange cas_X9_requireRange gw_707 ⟨by decide, by decide⟩ cnt_X9_requireRange rfl (Nat.le_of_ble_eq_true rfl) dX9_strikes_14 hc7 h1 h6
    · exact J_callVx (ht := rfl) (as := [.int x1]) (k := 0) (st := []) cal_X9_requireBell cai_X9_requireBell gw_738 ⟨by decide, by decide⟩ cnt_X9_requireBell sh_0 rfl rfl (Nat.le_of_ble_eq_true rfl) dX9_strikes_6 hc4 h1 h6
  · exact J_callVx (ht := rfl) (as := []) (k := 0) (st := []) cal_X9_requireTower cai_X9_requireTower gw_733 ⟨by decide, by decide⟩ cnt_X9_requireTower sh_0 rfl rfl (Nat.le_of_ble_eq_true rfl) dX9_strikes_1 hc1 h1 h6
set_option maxRecDepth 20000 in
theorem bX9_strikes_25 {G : Gx} {mm : Nat → Nat → Int32} {lm : Nat → Int64} {x1 : Int32} {x2 : Int32} {x3 : Int32} {o : Ou} {z : Wd} {a b : Nat} (hw : ∃ j1 : Nat, x1 = nI j1 ∧ j1 < 8 ∧ ∃ (v3 : Int32), Ct G M_X0_swings [.ref (23 + j1)] (SH, mm, lm) false (.inl (some (.int v3))) (SH, mm, lm) false 0 0 ∧ ((v3 = 0) → o = .inl (some (.int (-2))) ∧ z = (SH, mm, lm)) ∧ ((¬ v3 = 0) → ∃ (v6 : Int32), Ct G M_X6_countStrikes [.ref 38, .int x1, .int x2, .int x3] (SH, mm, lm) false (.inl (some (.int v6))) (SH, mm, lm) false 0 0 ∧ o = .inl (some (.int v6)) ∧ z = (SH, mm, lm))) :
    J G M_X9_strikes 25 [(0, .ref 0), (1, .int x1), (2, .int x2), (3, .int x3)] [] (SH, mm, lm) false o z false a b := by
  refine J_aload_n rfl (i := 0) rfl dX9_strikes_25 ?_
  refine J_getr kls_9 (q := 0) (k := 3) sh_0 (by decide) rfl gw_432 dX9_strikes_26 ?_
  refine J_iload_n rfl (i := 1) rfl dX9_strikes_29 ?_
  obtain ⟨j1, ej1, hj1, hw⟩ := hw
  refine J_aald (r := 23 + j1) sh_22 ej1 hj1 (by decide) (if_pos hj1) dX9_strikes_30 ?_
  obtain ⟨v3, hc2, hw⟩ := hw
  refine J_callV (as := []) (k := (23 + j1)) (st := []) cal_X0_swings cai_X0_swings gw_1085 ⟨by decide, by decide⟩ cnt_X0_swings (sh_b23 hj1) rfl rfl (Nat.le_of_ble_eq_true rfl) dX9_strikes_31 (Nat.zero_add _).symm (Nat.zero_add _).symm hc2 ?_
  refine J_if_eq (tgt := 50) dX9_strikes_34 (by decide) (fun hb8 => ?_) (fun hb8 => ?_)
  · replace hw := hw.1 hb8
    refine J_bipush (v := (-2)) (by decide) dX9_strikes_50 ?_
    exact J_fini (ty := .int) rfl rfl dX9_strikes_52 hw
  · replace hw := hw.2 hb8
    refine J_aload_n rfl (i := 0) rfl dX9_strikes_37 ?_
    refine J_getr kls_9 (q := 0) (k := 6) sh_0 (by decide) rfl gw_435 dX9_strikes_38 ?_
    refine J_iload_n rfl (i := 1) rfl dX9_strikes_41 ?_
    refine J_iload_n rfl (i := 2) rfl dX9_strikes_42 ?_
    refine J_iload_n rfl (i := 3) rfl dX9_strikes_43 ?_
    obtain ⟨v6, hc5, hw⟩ := hw
    refine J_callV (as := [.int x1, .int x2, .int x3]) (k := 38) (st := []) cal_X6_countStrikes cai_X6_countStrikes gw_1190 ⟨by decide, by decide⟩ cnt_X6_countStrikes sh_38 rfl rfl (Nat.le_of_ble_eq_true rfl) dX9_strikes_44 (Nat.zero_add _).symm (Nat.zero_add _).symm hc5 ?_
    refine J_goto (tgt := 52) dX9_strikes_47 (by decide) ?_
    exact J_fini (ty := .int) rfl rfl dX9_strikes_52 hw
theorem dX9_strikeTogether_0 : decode cX9_strikeTogether 0 = .ok (.aload_n 0, 1) := by decide +kernel
theorem dX9_strikeTogether_1 : decode cX9_strikeTogether 1 = .ok (.invokevirtual 122, 3) := by decide +kernel
theorem dX9_strikeTogether_4 : decode cX9_strikeTogether 4 = .ok (.aload_n 0, 1) := by decide +kernel
theorem dX9_strikeTogether_5 : decode cX9_strikeTogether 5 = .ok (.iload_n 1, 1) := by decide +kernel
theorem dX9_strikeTogether_6 : decode cX9_strikeTogether 6 = .ok (.invokevirtual 125, 3) := by decide +kernel
theorem dX9_strikeTogether_9 : decode cX9_strikeTogether 9 = .ok (.aload_n 0, 1) := by decide +kernel
theorem dX9_strikeTogether_10 : decode cX9_strikeTogether 10 = .ok (.iload_n 2, 1) := by decide +kernel
theorem dX9_strikeTogether_11 : decode cX9_strikeTogether 11 = .ok (.invokevirtual 125, 3) := by decide +kernel
theorem dX9_strikeTogether_14 : decode cX9_strikeTogether 14 = .ok (.aload_n 0, 1) := by decide +kernel
theorem dX9_strikeTogether_15 : decode cX9_strikeTogether 15 = .ok (.getfield 28, 3) := by decide +kernel
theorem dX9_strikeTogether_18 : decode cX9_strikeTogether 18 = .ok (.iload_n 1, 1) := by decide +kernel
theorem dX9_strikeTogether_19 : decode cX9_strikeTogether 19 = .ok (.aaload, 1) := by decide +kernel
theorem dX9_strikeTogether_20 : decode cX9_strikeTogether 20 = .ok (.invokevirtual 221, 3) := by decide +kernel
theorem dX9_strikeTogether_23 : decode cX9_strikeTogether 23 = .ok (.ifCond .eq 15, 3) := by decide +kernel
theorem dX9_strikeTogether_26 : decode cX9_strikeTogether 26 = .ok (.aload_n 0, 1) := by decide +kernel
theorem dX9_strikeTogether_27 : decode cX9_strikeTogether 27 = .ok (.getfield 28, 3) := by decide +kernel
theorem dX9_strikeTogether_30 : decode cX9_strikeTogether 30 = .ok (.iload_n 2, 1) := by decide +kernel
theorem dX9_strikeTogether_31 : decode cX9_strikeTogether 31 = .ok (.aaload, 1) := by decide +kernel
theorem dX9_strikeTogether_32 : decode cX9_strikeTogether 32 = .ok (.invokevirtual 221, 3) := by decide +kernel
theorem dX9_strikeTogether_35 : decode cX9_strikeTogether 35 = .ok (.ifCond .ne 6, 3) := by decide +kernel
theorem dX9_strikeTogether_38 : decode cX9_strikeTogether 38 = .ok (.bipush (-2), 2) := by decide +kernel
theorem dX9_strikeTogether_40 : decode cX9_strikeTogether 40 = .ok (.ireturn, 1) := by decide +kernel
theorem dX9_strikeTogether_41 : decode cX9_strikeTogether 41 = .ok (.aload_n 0, 1) := by decide +kernel
theorem dX9_strikeTogether_42 : decode cX9_strikeTogether 42 = .ok (.getfield 52, 3) := by decide +kernel
theorem dX9_strikeTogether_45 : decode cX9_strikeTogether 45 = .ok (.iload_n 1, 1) := by decide +kernel
theorem dX9_strikeTogether_46 : decode cX9_strikeTogether 46 = .ok (.iload_n 2, 1) := by decide +kernel
theorem dX9_strikeTogether_47 : decode cX9_strikeTogether 47 = .ok (.invokevirtual 258, 3) := by decide +kernel
theorem dX9_strikeTogether_50 : decode cX9_strikeTogether 50 = .ok (.ireturn, 1) := by decide +kernel
set_option maxRecDepth 20000 in
theorem bX9_strikeTogether_0 {G : Gx} {mm : Nat → Nat → Int32} {lm : Nat → Int64} {x1 : Int32} {x2 : Int32} {o : Ou} {z : Wd} {a b : Nat} (hw : ((Ct G M_X9_requireTower [.ref 0] (SH, mm, lm) false (.inl none) (SH, mm, lm) false 0 0 ∧ ((Ct G M_X9_requireBell [.ref 0, .int x1] (SH, mm, lm) false (.inl none) (SH, mm, lm) false 0 0 ∧ ((Ct G M_X9_requireBell [.ref 0, .int x2] (SH, mm, lm) false (.inl none) (SH, mm, lm) false 0 0 ∧ J G M_X9_strikeTogether 14 [(0, .ref 0), (1, .int x1), (2, .int x2)] [] (SH, mm, lm) false o z false a b) ∨ (∃ (E10 : String), Ct G M_X9_requireBell [.ref 0, .int x2] (SH, mm, lm) false (.inr E10) (SH, mm, lm) false 1 6 ∧ o = .inr E10 ∧ z = (SH, mm, lm) ∧ 1 ≤ a ∧ 6 ≤ b))) ∨ (∃ (E11 : String), Ct G M_X9_requireBell [.ref 0, .int x1] (SH, mm, lm) false (.inr E11) (SH, mm, lm) false 1 6 ∧ o = .inr E11 ∧ z = (SH, mm, lm) ∧ 1 ≤ a ∧ 6 ≤ b))) ∨ (∃ (E12 : String), Ct G M_X9_requireTower [.ref 0] (SH, mm, lm) false (.inr E12) (SH, mm, lm) false 1 6 ∧ o = .inr E12 ∧ z = (SH, mm, lm) ∧ 1 ≤ a ∧ 6 ≤ b))) :
    J G M_X9_strikeTogether 0 [(0, .ref 0), (1, .int x1), (2, .int x2)] [] (SH, mm, lm) false o z false a b := by
  refine J_aload_n rfl (i := 0) rfl dX9_strikeTogether_0 ?_
  rcases hw with ⟨hc1, hw⟩ | ⟨E12, hc1, rfl, rfl, h1, h6⟩
  · refine J_callV (as := []) (k := 0) (st := []) cal_X9_requireTower cai_X9_requireTower gw_733 ⟨by decide, by decide⟩ cnt_X9_requireTower sh_0 rfl rfl (Nat.le_of_ble_eq_true rfl) dX9_strikeTogether_1 (Nat.zero_add _).symm (Nat.zero_add _).symm hc1 ?_
    refine J_aload_n rfl (i := 0) rfl dX9_strikeTogether_4 ?_
    refine J_iload_n rfl (i := 1) rfl dX9_strikeTogether_5 ?_
    rcases hw with ⟨hc4, hw⟩ | ⟨E11, hc4, rfl, rfl, h1, h6⟩
    · refine J_callV (as := [.int x1]) (k := 0) (st := []) cal_X9_requireBell cai_X9_requireBell gw_738 ⟨by decide, by decide⟩ cnt_X9_requireBell sh_0 rfl rfl (Nat.le_of_ble_eq_true rfl) dX9_strikeTogether_6 (Nat.zero_add _).symm (Nat.zero_add _).symm hc4 ?_
      refine J_aload_n rfl (i := 0) rfl dX9_strikeTogether_9 ?_
      refine J_iload_n rfl (i := 2) rfl dX9_strikeTogether_10 ?_
      rcases hw with ⟨hc7, hw⟩ | ⟨E10, hc7, rfl, rfl, h1, h6⟩
      · refine J_callV (as := [.int x2]) (k := 0) (st := []) cal_X9_requireBell cai_X9_requireBell gw_738 ⟨by decide, by decide⟩ cnt_X9_requireBell sh_0 rfl rfl (Nat.le_of_ble_eq_true rfl) dX9_strikeTogether_11 (Nat.zero_add _).symm (Nat.zero_add _).symm hc7 ?_
        exact hw
      · exact J_callVx (ht := rfl) (as := [.int x2]) (k := 0) (st := []) cal_X9_requireBell cai_X9_requireBell gw_738 ⟨by decide, by decide⟩ cnt_X9_requireBell sh_0 rfl rfl (Nat.le_of_ble_eq_true rfl) dX9_strikeTogether_11 hc7 h1 h6
    · exact J_callVx (ht := rfl) (as := [.int x1]) (k := 0) (st := []) cal_X9_requireBell cai_X9_requireBell gw_738 ⟨by decide, by decide⟩ cnt_X9_requireBell sh_0 rfl rfl (Nat.le_of_ble_eq_true rfl) dX9_strikeTogether_6 hc4 h1 h6
  · exact J_callVx (ht := rfl) (as := []) (k := 0) (st := []) cal_X9_requireTower cai_X9_requireTower gw_733 ⟨by decide, by decide⟩ cnt_X9_requireTower sh_0 rfl rfl (Nat.le_of_ble_eq_true rfl) dX9_strikeTogether_1 hc1 h1 h6
set_option maxRecDepth 20000 in
theorem bX9_strikeTogether_14 {G : Gx} {mm : Nat → Nat → Int32} {lm : Nat → Int64} {x1 : Int32} {x2 : Int32} {o : Ou} {z : Wd} {a b : Nat} (hw : ∃ j1 : Nat, x1 = nI j1 ∧ j1 < 8 ∧ ∃ (v3 : Int32), Ct G M_X0_swings [.ref (23 + j1)] (SH, mm, lm) false (.inl (some (.int v3))) (SH, mm, lm) false 0 0 ∧ ((v3 = 0) → o = .inl (some (.int (-2))) ∧ z = (SH, mm, lm)) ∧ ((¬ v3 = 0) → ∃ j5 : Nat, x2 = nI j5 ∧ j5 < 8 ∧ ∃ (v7 : Int32), Ct G M_X0_swings [.ref (23 + j5)] (SH, mm, lm) false (.inl (some (.int v7))) (SH, mm, lm) false 0 0 ∧ ((¬ v7 = 0) → ∃ (v10 : Int32), Ct G M_X6_firstCommonStrike [.ref 38, .int x1, .int x2] (SH, mm, lm) false (.inl (some (.int v10))) (SH, mm, lm) false 0 0 ∧ o = .inl (some (.int v10)) ∧ z = (SH, mm, lm)) ∧ ((v7 = 0) → o = .inl (some (.int (-2))) ∧ z = (SH, mm, lm)))) :
    J G M_X9_strikeTogether 14 [(0, .ref 0), (1, .int x1), (2, .int x2)] [] (SH, mm, lm) false o z false a b := by
  refine J_aload_n rfl (i := 0) rfl dX9_strikeTogether_14 ?_
  refine J_getr kls_9 (q := 0) (k := 3) sh_0 (by decide) rfl gw_432 dX9_strikeTogether_15 ?_
  refine J_iload_n rfl (i := 1) rfl dX9_strikeTogether_18 ?_
  obtain ⟨j1, ej1, hj1, hw⟩ := hw
  refine J_aald (r := 23 + j1) sh_22 ej1 hj1 (by decide) (if_pos hj1) dX9_strikeTogether_19 ?_
  obtain ⟨v3, hc2, hw⟩ := hw
  refine J_callV (as := []) (k := (23 + j1)) (st := []) cal_X0_swings cai_X0_swings gw_1085 ⟨by decide, by decide⟩ cnt_X0_swings (sh_b23 hj1) rfl rfl (Nat.le_of_ble_eq_true rfl) dX9_strikeTogether_20 (Nat.zero_add _).symm (Nat.zero_add _).symm hc2 ?_
  refine J_if_eq (tgt := 38) dX9_strikeTogether_23 (by decide) (fun hb13 => ?_) (fun hb13 => ?_)
  · replace hw := hw.1 hb13
    refine J_bipush (v := (-2)) (by decide) dX9_strikeTogether_38 ?_
    exact J_fini (ty := .int) rfl rfl dX9_strikeTogether_40 hw
  · replace hw := hw.2 hb13
    refine J_aload_n rfl (i := 0) rfl dX9_strikeTogether_26 ?_
    refine J_getr kls_9 (q := 0) (k := 3) sh_0 (by decide) rfl gw_432 dX9_strikeTogether_27 ?_
    refine J_iload_n rfl (i := 2) rfl dX9_strikeTogether_30 ?_
    obtain ⟨j5, ej5, hj5, hw⟩ := hw
    refine J_aald (r := 23 + j5) sh_22 ej5 hj5 (by decide) (if_pos hj5) dX9_strikeTogether_31 ?_
    obtain ⟨v7, hc6, hw⟩ := hw
    refine J_callV (as := []) (k := (23 + j5)) (st := []) cal_X0_swings cai_X0_swings gw_1085 ⟨by decide, by decide⟩ cnt_X0_swings (sh_b23 hj5) rfl rfl (Nat.le_of_ble_eq_true rfl) dX9_strikeTogether_32 (Nat.zero_add _).symm (Nat.zero_add _).symm hc6 ?_
    refine J_if_ne (tgt := 41) dX9_strikeTogether_35 (by decide) (fun hb12 => ?_) (fun hb12 => ?_)
    · replace hw := hw.1 hb12
      refine J_aload_n rfl (i := 0) rfl dX9_strikeTogether_41 ?_
      refine J_getr kls_9 (q := 0) (k := 6) sh_0 (by decide) rfl gw_435 dX9_strikeTogether_42 ?_
      refine J_iload_n rfl (i := 1) rfl dX9_strikeTogether_45 ?_
      refine J_iload_n rfl (i := 2) rfl dX9_strikeTogether_46 ?_
      obtain ⟨v10, hc9, hw⟩ := hw
      refine J_callV (as := [.int x1, .int x2]) (k := 38) (st := []) cal_X6_firstCommonStrike cai_X6_firstCommonStrike gw_1205 ⟨by decide, by decide⟩ cnt_X6_firstCommonStrike sh_38 rfl rfl (Nat.le_of_ble_eq_true rfl) dX9_strikeTogether_47 (Nat.zero_add _).symm (Nat.zero_add _).symm hc9 ?_
      exact J_fini (ty := .int) rfl rfl dX9_strikeTogether_50 hw
    · replace hw := hw.2 hb12
      refine J_bipush (v := (-2)) (by decide) dX9_strikeTogether_38 ?_
      exact J_fini (ty := .int) rfl rfl dX9_strikeTogether_40 hw
theorem dX9_setChime_0 : decode cX9_setChime 0 = .ok (.aload_n 0, 1) := by decide +kernel
theorem dX9_setChime_1 : decode cX9_setChime 1 = .ok (.invokevirtual 122, 3) := by decide +kernel
theorem dX9_setChime_4 : decode cX9_setChime 4 = .ok (.aload_n 0, 1) := by decide +kernel
theorem dX9_setChime_5 : decode cX9_setChime 5 = .ok (.iload_n 1, 1) := by decide +kernel
theorem dX9_setChime_6 : decode cX9_setChime 6 = .ok (.invokevirtual 125, 3) := by decide +kernel
theorem dX9_setChime_9 : decode cX9_setChime 9 = .ok (.iload_n 2, 1) := by decide +kernel
theorem dX9_setChime_10 : decode cX9_setChime 10 = .ok (.iconst 0, 1) := by decide +kernel
theorem dX9_setChime_11 : decode cX9_setChime 11 = .ok (.sipush 1439, 3) := by decide +kernel
theorem dX9_setChime_14 : decode cX9_setChime 14 = .ok (.invokestatic 96, 3) := by decide +kernel
theorem dX9_setChime_17 : decode cX9_setChime 17 = .ok (.iload_n 3, 1) := by decide +kernel
theorem dX9_setChime_18 : decode cX9_setChime 18 = .ok (.iconst 1, 1) := by decide +kernel
theorem dX9_setChime_19 : decode cX9_setChime 19 = .ok (.sipush 1440, 3) := by decide +kernel
theorem dX9_setChime_22 : decode cX9_setChime 22 = .ok (.invokestatic 96, 3) := by decide +kernel
theorem dX9_setChime_25 : decode cX9_setChime 25 = .ok (.aload_n 0, 1) := by decide +kernel
theorem dX9_setChime_26 : decode cX9_setChime 26 = .ok (.iload_n 1, 1) := by decide +kernel
theorem dX9_setChime_27 : decode cX9_setChime 27 = .ok (.invokevirtual 139, 3) := by decide +kernel
theorem dX9_setChime_30 : decode cX9_setChime 30 = .ok (.aload_n 0, 1) := by decide +kernel
theorem dX9_setChime_31 : decode cX9_setChime 31 = .ok (.getfield 28, 3) := by decide +kernel
theorem dX9_setChime_34 : decode cX9_setChime 34 = .ok (.iload_n 1, 1) := by decide +kernel
theorem dX9_setChime_35 : decode cX9_setChime 35 = .ok (.aaload, 1) := by decide +kernel
theorem dX9_setChime_36 : decode cX9_setChime 36 = .ok (.iload_n 2, 1) := by decide +kernel
theorem dX9_setChime_37 : decode cX9_setChime 37 = .ok (.putfield 261, 3) := by decide +kernel
theorem dX9_setChime_40 : decode cX9_setChime 40 = .ok (.aload_n 0, 1) := by decide +kernel
theorem dX9_setChime_41 : decode cX9_setChime 41 = .ok (.getfield 28, 3) := by decide +kernel
theorem dX9_setChime_44 : decode cX9_setChime 44 = .ok (.iload_n 1, 1) := by decide +kernel
theorem dX9_setChime_45 : decode cX9_setChime 45 = .ok (.aaload, 1) := by decide +kernel
theorem dX9_setChime_46 : decode cX9_setChime 46 = .ok (.iload_n 3, 1) := by decide +kernel
theorem dX9_setChime_47 : decode cX9_setChime 47 = .ok (.putfield 264, 3) := by decide +kernel
theorem dX9_setChime_50 : decode cX9_setChime 50 = .ok (.iconst 1, 1) := by decide +kernel
theorem dX9_setChime_51 : decode cX9_setChime 51 = .ok (.sipush 1439, 3) := by decide +kernel
theorem dX9_setChime_54 : decode cX9_setChime 54 = .ok (.iload_n 2, 1) := by decide +kernel
theorem dX9_setChime_55 : decode cX9_setChime 55 = .ok (.isub, 1) := by decide +kernel
theorem dX9_setChime_56 : decode cX9_setChime 56 = .ok (.iload_n 3, 1) := by decide +kernel
theorem dX9_setChime_57 : decode cX9_setChime 57 = .ok (.idiv, 1) := by decide +kernel
theorem dX9_setChime_58 : decode cX9_setChime 58 = .ok (.iadd, 1) := by decide +kernel
theorem dX9_setChime_59 : decode cX9_setChime 59 = .ok (.ireturn, 1) := by decide +kernel
set_option maxRecDepth 20000 in
theorem bX9_setChime_0 {G : Gx} {mm : Nat → Nat → Int32} {lm : Nat → Int64} {x1 : Int32} {x2 : Int32} {x3 : Int32} {o : Ou} {z : Wd} {a b : Nat} (hw : ((Ct G M_X9_requireTower [.ref 0] (SH, mm, lm) false (.inl none) (SH, mm, lm) false 0 0 ∧ ((Ct G M_X9_requireBell [.ref 0, .int x1] (SH, mm, lm) false (.inl none) (SH, mm, lm) false 0 0 ∧ ((Ct G M_X9_requireRange [.int x2, .int 0, .int 1439] (SH, mm, lm) false (.inl none) (SH, mm, lm) false 0 0 ∧ ((Ct G M_X9_requireRange [.int x3, .int 1, .int 1440] (SH, mm, lm) false (.inl none) (SH, mm, lm) false 0 0 ∧ J G M_X9_setChime 25 [(0, .ref 0), (1, .int x1), (2, .int x2), (3, .int x3)] [] (SH, mm, lm) false o z false a b) ∨ (∃ (E13 : String), Ct G M_X9_requireRange [.int x3, .int 1, .int 1440] (SH, mm, lm) false (.inr E13) (SH, mm, lm) false 1 6 ∧ o = .inr E13 ∧ z = (SH, mm, lm) ∧ 1 ≤ a ∧ 6 ≤ b))) ∨ (∃ (E14 : String), Ct G M_X9_requireRange [.int x2, .int 0, .int 1439] (SH, mm, lm) false (.inr E14) (SH, mm, lm) false 1 6 ∧ o = .inr E14 ∧ z = (SH, mm, lm) ∧ 1 ≤ a ∧ 6 ≤ b))) ∨ (∃ (E15 : String), Ct G M_X9_requireBell [.ref 0, .int x1] (SH, mm, lm) false (.inr E15) (SH, mm, lm) false 1 6 ∧ o = .inr E15 ∧ z = (SH, mm, lm) ∧ 1 ≤ a ∧ 6 ≤ b))) ∨ (∃ (E16 : String), Ct G M_X9_requireTower [.ref 0] (SH, mm, lm) false (.inr E16) (SH, mm, lm) false 1 6 ∧ o = .inr E16 ∧ z = (SH, mm, lm) ∧ 1 ≤ a ∧ 6 ≤ b))) :
    J G M_X9_setChime 0 [(0, .ref 0), (1, .int x1), (2, .int x2), (3, .int x3)] [] (SH, mm, lm) false o z false a b := by
  refine J_aload_n rfl (i := 0) rfl dX9_setChime_0 ?_
  rcases hw with ⟨hc1, hw⟩ | ⟨E16, hc1, rfl, rfl, h1, h6⟩
  · refine J_callV (as := []) (k := 0) (st := []) cal_X9_requireTower cai_X9_requireTower gw_733 ⟨by decide, by decide⟩ cnt_X9_requireTower sh_0 rfl rfl (Nat.le_of_ble_eq_true rfl) dX9_setChime_1 (Nat.zero_add _).symm (Nat.zero_add _).symm hc1 ?_
    refine J_aload_n rfl (i := 0) rfl dX9_setChime_4 ?_
    refine J_iload_n rfl (i := 1) rfl dX9_setChime_5 ?_
    rcases hw with ⟨hc4, hw⟩ | ⟨E15, hc4, rfl, rfl, h1, h6⟩
    · refine J_callV (as := [.int x1]) (k := 0) (st := []) cal_X9_requireBell cai_X9_requireBell gw_738 ⟨by decide, by decide⟩ cnt_X9_requireBell sh_0 rfl rfl (Nat.le_of_ble_eq_true rfl) dX9_setChime_6 (Nat.zero_add _).symm (Nat.zero_add _).symm hc4 ?_
      refine J_iload_n rfl (i := 2) rfl dX9_setChime_9 ?_
      refine J_iconst (v := 0) (by decide) dX9_setChime_10 ?_
      refine J_sipush (v := 1439) (by decide) dX9_setChime_11 ?_
      rcases hw with ⟨hc7, hw⟩ | ⟨E14, hc7, rfl, rfl, h1, h6⟩
      · refine J_callS (as := [.int x2, .int 0, .int 1439]) (st := []) cal_X9_requireRange cas_X9_requireRange gw_707 ⟨by decide, by decide⟩ cnt_X9_requireRange rfl (Nat.le_of_ble_eq_true rfl) dX9_setChime_14 (Nat.zero_add _).symm (Nat.zero_add _).symm hc7 ?_
        refine J_iload_n rfl (i := 3) rfl dX9_setChime_17 ?_
        refine J_iconst (v := 1) (by decide) dX9_setChime_18 ?_
        refine J_sipush (v := 1440) (by decide) dX9_setChime_19 ?_
        rcases hw with ⟨hc10, hw⟩ | ⟨E13, hc10, rfl, rfl, h1, h6⟩
        · refine J_callS (as := [.int x3, .int 1, .int 1440]) (st := []) cal_X9_requireRange cas_X9_requireRange gw_707 ⟨by decide, by decide⟩ cnt_X9_requireRange rfl (Nat.le_of_ble_eq_true rfl) dX9_setChime_22 (Nat.zero_add _).symm (Nat.zero_add _).symm hc10 ?_
          exact hw
        · exact J_callSx (ht := rfl) (as := [.int x3, .int 1, .int 1440]) (st := []) cal_X9_requireRange cas_X9_requireRange gw_707 ⟨by decide, by decide⟩ cnt_X9_requireRange rfl (Nat.le_of_ble_eq_true rfl) dX9_setChime_22 hc10 h1 h6
      · exact J_callSx (ht := rfl) (as := [.int x2, .int 0, .int 1439]) (st := []) cal_X9_requireRange cas_X9_requireRange gw_707 ⟨by decide, by decide⟩ cnt_X9_requireRange rfl (Nat.le_of_ble_eq_true rfl) dX9_setChime_14 hc7 h1 h6
    · exact J_callVx (ht := rfl) (as := [.int x1]) (k := 0) (st := []) cal_X9_requireBell cai_X9_requireBell gw_738 ⟨by decide, by decide⟩ cnt_X9_requireBell sh_0 rfl rfl (Nat.le_of_ble_eq_true rfl) dX9_setChime_6 hc4 h1 h6
  · exact J_callVx (ht := rfl) (as := []) (k := 0) (st := []) cal_X9_requireTower cai_X9_requireTower gw_733 ⟨by decide, by decide⟩ cnt_X9_requireTower sh_0 rfl rfl (Nat.le_of_ble_eq_true rfl) dX9_setChime_1 hc1 h1 h6
set_option maxRecDepth 20000 in
theorem bX9_setChime_25 {G : Gx} {mm : Nat → Nat → Int32} {lm : Nat → Int64} {x1 : Int32} {x2 : Int32} {x3 : Int32} {o : Ou} {z : Wd} {a b : Nat} (hw : ∃ (m3 : Nat → Nat → Int32), Ct G M_X9_rememberBell [.ref 0, .int x1] (SH, mm, lm) false (.inl none) (SH, m3, lm) false 0 0 ∧ ∃ j4 : Nat, x1 = nI j4 ∧ j4 < 8 ∧ ∃ j5 : Nat, x1 = nI j5 ∧ j5 < 8 ∧ ¬ x3 = 0 ∧ o = .inl (some (.int (1 + ((1439 - x2) / x3)))) ∧ z = (SH, (mset (mset m3 (23 + j4) 6 x2) (23 + j5) 7 x3), lm)) :
    J G M_X9_setChime 25 [(0, .ref 0), (1, .int x1), (2, .int x2), (3, .int x3)] [] (SH, mm, lm) false o z false a b := by
  refine J_aload_n rfl (i := 0) rfl dX9_setChime_25 ?_
  refine J_iload_n rfl (i := 1) rfl dX9_setChime_26 ?_
  obtain ⟨m3, hc1, hw⟩ := hw
  refine J_callV (as := [.int x1]) (k := 0) (st := []) cal_X9_rememberBell cai_X9_rememberBell gw_777 ⟨by decide, by decide⟩ cnt_X9_rememberBell sh_0 rfl rfl (Nat.le_of_ble_eq_true rfl) dX9_setChime_27 (Nat.zero_add _).symm (Nat.zero_add _).symm hc1 ?_
  refine J_aload_n rfl (i := 0) rfl dX9_setChime_30 ?_
  refine J_getr kls_9 (q := 0) (k := 3) sh_0 (by decide) rfl gw_432 dX9_setChime_31 ?_
  refine J_iload_n rfl (i := 1) rfl dX9_setChime_34 ?_
  obtain ⟨j4, ej4, hj4, hw⟩ := hw
  refine J_aald (r := 23 + j4) sh_22 ej4 hj4 (by decide) (if_pos hj4) dX9_setChime_35 ?_
  refine J_iload_n rfl (i := 2) rfl dX9_setChime_36 ?_
  refine J_puti kls_0 (q := (23 + j4)) (k := 6) (sh_b23 hj4) (by decide) rfl rfl (fun _ => rfl) (fun _ => rfl) gw_274 dX9_setChime_37 ?_
  refine J_aload_n rfl (i := 0) rfl dX9_setChime_40 ?_
  refine J_getr kls_9 (q := 0) (k := 3) sh_0 (by decide) rfl gw_432 dX9_setChime_41 ?_
  refine J_iload_n rfl (i := 1) rfl dX9_setChime_44 ?_
  obtain ⟨j5, ej5, hj5, hw⟩ := hw
  refine J_aald (r := 23 + j5) sh_22 ej5 hj5 (by decide) (if_pos hj5) dX9_setChime_45 ?_
  refine J_iload_n rfl (i := 3) rfl dX9_setChime_46 ?_
  refine J_puti kls_0 (q := (23 + j5)) (k := 7) (sh_b23 hj5) (by decide) rfl rfl (fun _ => rfl) (fun _ => rfl) gw_277 dX9_setChime_47 ?_
  refine J_iconst (v := 1) (by decide) dX9_setChime_50 ?_
  refine J_sipush (v := 1439) (by decide) dX9_setChime_51 ?_
  refine J_iload_n rfl (i := 2) rfl dX9_setChime_54 ?_
  refine J_isub dX9_setChime_55 ?_
  refine J_iload_n rfl (i := 3) rfl dX9_setChime_56 ?_
  obtain ⟨hz6, hw⟩ := hw
  refine J_idiv hz6 dX9_setChime_57 ?_
  refine J_iadd dX9_setChime_58 ?_
  exact J_fini (ty := .int) rfl rfl dX9_setChime_59 hw
theorem dX9_clearChime_0 : decode cX9_clearChime 0 = .ok (.aload_n 0, 1) := by decide +kernel
theorem dX9_clearChime_1 : decode cX9_clearChime 1 = .ok (.invokevirtual 122, 3) := by decide +kernel
theorem dX9_clearChime_4 : decode cX9_clearChime 4 = .ok (.aload_n 0, 1) := by decide +kernel
theorem dX9_clearChime_5 : decode cX9_clearChime 5 = .ok (.iload_n 1, 1) := by decide +kernel
theorem dX9_clearChime_6 : decode cX9_clearChime 6 = .ok (.invokevirtual 125, 3) := by decide +kernel
theorem dX9_clearChime_9 : decode cX9_clearChime 9 = .ok (.aload_n 0, 1) := by decide +kernel
theorem dX9_clearChime_10 : decode cX9_clearChime 10 = .ok (.getfield 28, 3) := by decide +kernel
theorem dX9_clearChime_13 : decode cX9_clearChime 13 = .ok (.iload_n 1, 1) := by decide +kernel
theorem dX9_clearChime_14 : decode cX9_clearChime 14 = .ok (.aaload, 1) := by decide +kernel
theorem dX9_clearChime_15 : decode cX9_clearChime 15 = .ok (.invokevirtual 267, 3) := by decide +kernel
theorem dX9_clearChime_18 : decode cX9_clearChime 18 = .ok (.ifCond .ne 6, 3) := by decide +kernel
theorem dX9_clearChime_21 : decode cX9_clearChime 21 = .ok (.bipush (-2), 2) := by decide +kernel
theorem dX9_clearChime_23 : decode cX9_clearChime 23 = .ok (.ireturn, 1) := by decide +kernel
theorem dX9_clearChime_24 : decode cX9_clearChime 24 = .ok (.aload_n 0, 1) := by decide +kernel
theorem dX9_clearChime_25 : decode cX9_clearChime 25 = .ok (.iload_n 1, 1) := by decide +kernel
theorem dX9_clearChime_26 : decode cX9_clearChime 26 = .ok (.invokevirtual 139, 3) := by decide +kernel
theorem dX9_clearChime_29 : decode cX9_clearChime 29 = .ok (.aload_n 0, 1) := by decide +kernel
theorem dX9_clearChime_30 : decode cX9_clearChime 30 = .ok (.getfield 28, 3) := by decide +kernel
theorem dX9_clearChime_33 : decode cX9_clearChime 33 = .ok (.iload_n 1, 1) := by decide +kernel
theorem dX9_clearChime_34 : decode cX9_clearChime 34 = .ok (.aaload, 1) := by decide +kernel
theorem dX9_clearChime_35 : decode cX9_clearChime 35 = .ok (.iconst 0, 1) := by decide +kernel
theorem dX9_clearChime_36 : decode cX9_clearChime 36 = .ok (.putfield 264, 3) := by decide +kernel
theorem dX9_clearChime_39 : decode cX9_clearChime 39 = .ok (.aload_n 0, 1) := by decide +kernel
theorem dX9_clearChime_40 : decode cX9_clearChime 40 = .ok (.getfield 59, 3) := by decide +kernel
theorem dX9_clearChime_43 : decode cX9_clearChime 43 = .ok (.invokevirtual 270, 3) := by decide +kernel
theorem dX9_clearChime_46 : decode cX9_clearChime 46 = .ok (.ireturn, 1) := by decide +kernel
set_option maxRecDepth 20000 in
theorem bX9_clearChime_0 {G : Gx} {mm : Nat → Nat → Int32} {lm : Nat → Int64} {x1 : Int32} {o : Ou} {z : Wd} {a b : Nat} (hw : ((Ct G M_X9_requireTower [.ref 0] (SH, mm, lm) false (.inl none) (SH, mm, lm) false 0 0 ∧ ((Ct G M_X9_requireBell [.ref 0, .int x1] (SH, mm, lm) false (.inl none) (SH, mm, lm) false 0 0 ∧ J G M_X9_clearChime 9 [(0, .ref 0), (1, .int x1)] [] (SH, mm, lm) false o z false a b) ∨ (∃ (E7 : String), Ct G M_X9_requireBell [.ref 0, .int x1] (SH, mm, lm) false (.inr E7) (SH, mm, lm) false 1 6 ∧ o = .inr E7 ∧ z = (SH, mm, lm) ∧ 1 ≤ a ∧ 6 ≤ b))) ∨ (∃ (E8 : String), Ct G M_X9_requireTower [.ref 0] (SH, mm, lm) false (.inr E8) (SH, mm, lm) false 1 6 ∧ o = .inr E8 ∧ z = (SH, mm, lm) ∧ 1 ≤ a ∧ 6 ≤ b))) :
    J G M_X9_clearChime 0 [(0, .ref 0), (1, .int x1)] [] (SH, mm, lm) false o z false a b := by
  refine J_aload_n rfl (i := 0) rfl dX9_clearChime_0 ?_
  rcases hw with ⟨hc1, hw⟩ | ⟨E8, hc1, rfl, rfl, h1, h6⟩
  · refine J_callV (as := []) (k := 0) (st := []) cal_X9_requireTower cai_X9_requireTower gw_733 ⟨by decide, by decide⟩ cnt_X9_requireTower sh_0 rfl rfl (Nat.le_of_ble_eq_true rfl) dX9_clearChime_1 (Nat.zero_add _).symm (Nat.zero_add _).symm hc1 ?_
    refine J_aload_n rfl (i := 0) rfl dX9_clearChime_4 ?_
    refine J_iload_n rfl (i := 1) rfl dX9_clearChime_5 ?_
    rcases hw with ⟨hc4, hw⟩ | ⟨E7, hc4, rfl, rfl, h1, h6⟩
    · refine J_callV (as := [.int x1]) (k := 0) (st := []) cal_X9_requireBell cai_X9_requireBell gw_738 ⟨by decide, by decide⟩ cnt_X9_requireBell sh_0 rfl rfl (Nat.le_of_ble_eq_true rfl) dX9_clearChime_6 (Nat.zero_add _).symm (Nat.zero_add _).symm hc4 ?_
      exact hw
    · exact J_callVx (ht := rfl) (as := [.int x1]) (k := 0) (st := []) cal_X9_requireBell cai_X9_requireBell gw_738 ⟨by decide, by decide⟩ cnt_X9_requireBell sh_0 rfl rfl (Nat.le_of_ble_eq_true rfl) dX9_clearChime_6 hc4 h1 h6
  · exact J_callVx (ht := rfl) (as := []) (k := 0) (st := []) cal_X9_requireTower cai_X9_requireTower gw_733 ⟨by decide, by decide⟩ cnt_X9_requireTower sh_0 rfl rfl (Nat.le_of_ble_eq_true rfl) dX9_clearChime_1 hc1 h1 h6
set_option maxRecDepth 20000 in
theorem bX9_clearChime_9 {G : Gx} {mm : Nat → Nat → Int32} {lm : Nat → Int64} {x1 : Int32} {o : Ou} {z : Wd} {a b : Nat} (hw : ∃ j1 : Nat, x1 = nI j1 ∧ j1 < 8 ∧ ∃ (v3 : Int32), Ct G M_X0_hasChime [.ref (23 + j1)] (SH, mm, lm) false (.inl (some (.int v3))) (SH, mm, lm) false 0 0 ∧ ((¬ v3 = 0) → ∃ (m7 : Nat → Nat → Int32), Ct G M_X9_rememberBell [.ref 0, .int x1] (SH, mm, lm) false (.inl none) (SH, m7, lm) false 0 0 ∧ ∃ j8 : Nat, x1 = nI j8 ∧ j8 < 8 ∧ ∃ (v10 : Int32), Ct G M_X1_countChiming [.ref 42] (SH, (mset m7 (23 + j8) 7 0), lm) false (.inl (some (.int v10))) (SH, (mset m7 (23 + j8) 7 0), lm) false 0 0 ∧ o = .inl (some (.int v10)) ∧ z = (SH, (mset m7 (23 + j8) 7 0), lm)) ∧ ((v3 = 0) → o = .inl (some (.int (-2))) ∧ z = (SH, mm, lm))) :
    J G M_X9_clearChime 9 [(0, .ref 0), (1, .int x1)] [] (SH, mm, lm) false o z false a b := by
  refine J_aload_n rfl (i := 0) rfl dX9_clearChime_9 ?_
  refine J_getr kls_9 (q := 0) (k := 3) sh_0 (by decide) rfl gw_432 dX9_clearChime_10 ?_
  refine J_iload_n rfl (i := 1) rfl dX9_clearChime_13 ?_
  obtain ⟨j1, ej1, hj1, hw⟩ := hw
  refine J_aald (r := 23 + j1) sh_22 ej1 hj1 (by decide) (if_pos hj1) dX9_clearChime_14 ?_
  obtain ⟨v3, hc2, hw⟩ := hw
  refine J_callV (as := []) (k := (23 + j1)) (st := []) cal_X0_hasChime cai_X0_hasChime gw_1223 ⟨by decide, by decide⟩ cnt_X0_hasChime (sh_b23 hj1) rfl rfl (Nat.le_of_ble_eq_true rfl) dX9_clearChime_15 (Nat.zero_add _).symm (Nat.zero_add _).symm hc2 ?_
  refine J_if_ne (tgt := 24) dX9_clearChime_18 (by decide) (fun hb12 => ?_) (fun hb12 => ?_)
  · replace hw := hw.1 hb12
    refine J_aload_n rfl (i := 0) rfl dX9_clearChime_24 ?_
    refine J_iload_n rfl (i := 1) rfl dX9_clearChime_25 ?_
    obtain ⟨m7, hc5, hw⟩ := hw
    refine J_callV (as := [.int x1]) (k := 0) (st := []) cal_X9_rememberBell cai_X9_rememberBell gw_777 ⟨by decide, by decide⟩ cnt_X9_rememberBell sh_0 rfl rfl (Nat.le_of_ble_eq_true rfl) dX9_clearChime_26 (Nat.zero_add _).symm (Nat.zero_add _).symm hc5 ?_
    refine J_aload_n rfl (i := 0) rfl dX9_clearChime_29 ?_
    refine J_getr kls_9 (q := 0) (k := 3) sh_0 (by decide) rfl gw_432 dX9_clearChime_30 ?_
    refine J_iload_n rfl (i := 1) rfl dX9_clearChime_33 ?_
    obtain ⟨j8, ej8, hj8, hw⟩ := hw
    refine J_aald (r := 23 + j8) sh_22 ej8 hj8 (by decide) (if_pos hj8) dX9_clearChime_34 ?_
    refine J_iconst (v := 0) (by decide) dX9_clearChime_35 ?_
    refine J_puti kls_0 (q := (23 + j8)) (k := 7) (sh_b23 hj8) (by decide) rfl rfl (fun _ => rfl) (fun _ => rfl) gw_277 dX9_clearChime_36 ?_
    refine J_aload_n rfl (i := 0) rfl dX9_clearChime_39 ?_
    refine J_getr kls_9 (q := 0) (k := 7) sh_0 (by decide) rfl gw_436 dX9_clearChime_40 ?_
    obtain ⟨v10, hc9, hw⟩ := hw
    refine J_callV (as := []) (k := 42) (st := []) cal_X1_countChiming cai_X1_countChiming gw_1227 ⟨by decide, by decide⟩ cnt_X1_countChiming sh_42 rfl rfl (Nat.le_of_ble_eq_true rfl) dX9_clearChime_43 (Nat.zero_add _).symm (Nat.zero_add _).symm hc9 ?_
    exact J_fini (ty := .int) rfl rfl dX9_clearChime_46 hw
  · replace hw := hw.2 hb12
    refine J_bipush (v := (-2)) (by decide) dX9_clearChime_21 ?_
    exact J_fini (ty := .int) rfl rfl dX9_clearChime_23 hw
theorem dX9_isQuiet_0 : decode cX9_isQuiet 0 = .ok (.aload_n 0, 1) := by decide +kernel
theorem dX9_isQuiet_1 : decode cX9_isQuiet 1 = .ok (.invokevirtual 122, 3) := by decide +kernel
theorem dX9_isQuiet_4 : decode cX9_isQuiet 4 = .ok (.iload_n 1, 1) := by decide +kernel
theorem dX9_isQuiet_5 : decode cX9_isQuiet 5 = .ok (.iconst 0, 1) := by decide +kernel
theorem dX9_isQuiet_6 : decode cX9_isQuiet 6 = .ok (.sipush 1439, 3) := by decide +kernel
theorem dX9_isQuiet_9 : decode cX9_isQuiet 9 = .ok (.invokestatic 96, 3) := by decide +kernel
theorem dX9_isQuiet_12 : decode cX9_isQuiet 12 = .ok (.aload_n 0, 1) := by decide +kernel
theorem dX9_isQuiet_13 : decode cX9_isQuiet 13 = .ok (.getfield 59, 3) := by decide +kernel
theorem dX9_isQuiet_16 : decode cX9_isQuiet 16 = .ok (.getfield 273, 3) := by decide +kernel
theorem dX9_isQuiet_19 : decode cX9_isQuiet 19 = .ok (.iload_n 1, 1) := by decide +kernel
theorem dX9_isQuiet_20 : decode cX9_isQuiet 20 = .ok (.baload, 1) := by decide +kernel
theorem dX9_isQuiet_21 : decode cX9_isQuiet 21 = .ok (.ireturn, 1) := by decide +kernel
set_option maxRecDepth 20000 in
theorem bX9_isQuiet_0 {G : Gx} {mm : Nat → Nat → Int32} {lm : Nat → Int64} {x1 : Int32} {o : Ou} {z : Wd} {a b : Nat} (hw : ((Ct G M_X9_requireTower [.ref 0] (SH, mm, lm) false (.inl none) (SH, mm, lm) false 0 0 ∧ ((Ct G M_X9_requireRange [.int x1, .int 0, .int 1439] (SH, mm, lm) false (.inl none) (SH, mm, lm) false 0 0 ∧ J G M_X9_isQuiet 12 [(0, .ref 0), (1, .int x1)] [] (SH, mm, lm) false o z false a b) ∨ (∃ (E7 : String), Ct G M_X9_requireRange [.int x1, .int 0, .int 1439] (SH, mm, lm) false (.inr E7) (SH, mm, lm) false 1 6 ∧ o = .inr E7 ∧ z = (SH, mm, lm) ∧ 1 ≤ a ∧ 6 ≤ b))) ∨ (∃ (E8 : String), Ct G M_X9_requireTower [.ref 0] (SH, mm, lm) false (.inr E8) (SH, mm, lm) false 1 6 ∧ o = .inr E8 ∧ z = (SH, mm, lm) ∧ 1 ≤ a ∧ 6 ≤ b))) :
    J G M_X9_isQuiet 0 [(0, .ref 0), (1, .int x1)] [] (SH, mm, lm) false o z false a b := by
  refine J_aload_n rfl (i := 0) rfl dX9_isQuiet_0 ?_
  rcases hw with ⟨hc1, hw⟩ | ⟨E8, hc1, rfl, rfl, h1, h6⟩
  · refine J_callV (as := []) (k := 0) (st := []) cal_X9_requireTower cai_X9_requireTower gw_733 ⟨by decide, by decide⟩ cnt_X9_requireTower sh_0 rfl rfl (Nat.le_of_ble_eq_true rfl) dX9_isQuiet_1 (Nat.zero_add _).symm (Nat.zero_add _).symm hc1 ?_
    refine J_iload_n rfl (i := 1) rfl dX9_isQuiet_4 ?_
    refine J_iconst (v := 0) (by decide) dX9_isQuiet_5 ?_
    refine J_sipush (v := 1439) (by decide) dX9_isQuiet_6 ?_
    rcases hw with ⟨hc4, hw⟩ | ⟨E7, hc4, rfl, rfl, h1, h6⟩
    · refine J_callS (as := [.int x1, .int 0, .int 1439]) (st := []) cal_X9_requireRange cas_X9_requireRange gw_707 ⟨by decide, by decide⟩ cnt_X9_requireRange rfl (Nat.le_of_ble_eq_true rfl) dX9_isQuiet_9 (Nat.zero_add _).symm (Nat.zero_add _).symm hc4 ?_
      exact hw
    · exact J_callSx (ht := rfl) (as := [.int x1, .int 0, .int 1439]) (st := []) cal_X9_requireRange cas_X9_requireRange gw_707 ⟨by decide, by decide⟩ cnt_X9_requireRange rfl (Nat.le_of_ble_eq_true rfl) dX9_isQuiet_9 hc4 h1 h6
  · exact J_callVx (ht := rfl) (as := []) (k := 0) (st := []) cal_X9_requireTower cai_X9_requireTower gw_733 ⟨by decide, by decide⟩ cnt_X9_requireTower sh_0 rfl rfl (Nat.le_of_ble_eq_true rfl) dX9_isQuiet_1 hc1 h1 h6
set_option maxRecDepth 20000 in
theorem bX9_isQuiet_12 {G : Gx} {mm : Nat → Nat → Int32} {lm : Nat → Int64} {x1 : Int32} {o : Ou} {z : Wd} {a b : Nat} (hw : ∃ j1 : Nat, x1 = nI j1 ∧ j1 < 1440 ∧ narrow .boolean (.int (mm 43 j1)) = .int (mm 43 j1) ∧ o = .inl (some (.int (mm 43 j1))) ∧ z = (SH, mm, lm)) :
    J G M_X9_isQuiet 12 [(0, .ref 0), (1, .int x1)] [] (SH, mm, lm) false o z false a b := by
  refine J_aload_n rfl (i := 0) rfl dX9_isQuiet_12 ?_
  refine J_getr kls_9 (q := 0) (k := 7) sh_0 (by decide) rfl gw_436 dX9_isQuiet_13 ?_
  refine J_getr kls_1 (q := 42) (k := 2) sh_42 (by decide) rfl gw_373 dX9_isQuiet_16 ?_
  refine J_iload_n rfl (i := 1) rfl dX9_isQuiet_19 ?_
  obtain ⟨j1, ej1, hj1, hw⟩ := hw
  refine J_zald sh_43 ej1 hj1 (by decide) dX9_isQuiet_20 ?_
  exact J_fini (ty := .boolean) rfl hw.1 dX9_isQuiet_21 hw.2
theorem dX9_quietMinutes_0 : decode cX9_quietMinutes 0 = .ok (.aload_n 0, 1) := by decide +kernel
theorem dX9_quietMinutes_1 : decode cX9_quietMinutes 1 = .ok (.invokevirtual 122, 3) := by decide +kernel
theorem dX9_quietMinutes_4 : decode cX9_quietMinutes 4 = .ok (.aload_n 0, 1) := by decide +kernel
theorem dX9_quietMinutes_5 : decode cX9_quietMinutes 5 = .ok (.getfield 59, 3) := by decide +kernel
theorem dX9_quietMinutes_8 : decode cX9_quietMinutes 8 = .ok (.invokevirtual 277, 3) := by decide +kernel
theorem dX9_quietMinutes_11 : decode cX9_quietMinutes 11 = .ok (.ireturn, 1) := by decide +kernel
set_option maxRecDepth 20000 in
theorem bX9_quietMinutes_0 {G : Gx} {mm : Nat → Nat → Int32} {lm : Nat → Int64}  {o : Ou} {z : Wd} {a b : Nat} (hw : ((Ct G M_X9_requireTower [.ref 0] (SH, mm, lm) false (.inl none) (SH, mm, lm) false 0 0 ∧ J G M_X9_quietMinutes 4 [(0, .ref 0)] [] (SH, mm, lm) false o z false a b) ∨ (∃ (E4 : String), Ct G M_X9_requireTower [.ref 0] (SH, mm, lm) false (.inr E4) (SH, mm, lm) false 1 6 ∧ o = .inr E4 ∧ z = (SH, mm, lm) ∧ 1 ≤ a ∧ 6 ≤ b))) :
    J G M_X9_quietMinutes 0 [(0, .ref 0)] [] (SH, mm, lm) false o z false a b := by
  refine J_aload_n rfl (i := 0) rfl dX9_quietMinutes_0 ?_
  rcases hw with ⟨hc1, hw⟩ | ⟨E4, hc1, rfl, rfl, h1, h6⟩
  · refine J_callV (as := []) (k := 0) (st := []) cal_X9_requireTower cai_X9_requireTower gw_733 ⟨by decide, by decide⟩ cnt_X9_requireTower sh_0 rfl rfl (Nat.le_of_ble_eq_true rfl) dX9_quietMinutes_1 (Nat.zero_add _).symm (Nat.zero_add _).symm hc1 ?_
    exact hw
  · exact J_callVx (ht := rfl) (as := []) (k := 0) (st := []) cal_X9_requireTower cai_X9_requireTower gw_733 ⟨by decide, by decide⟩ cnt_X9_requireTower sh_0 rfl rfl (Nat.le_of_ble_eq_true rfl) dX9_quietMinutes_1 hc1 h1 h6
set_option maxRecDepth 20000 in
theorem bX9_quietMinutes_4 {G : Gx} {mm : Nat → Nat → Int32} {lm : Nat → Int64}  {o : Ou} {z : Wd} {a b : Nat} (hw : ∃ (v2 : Int32), Ct G M_X1_countQuiet [.ref 42] (SH, mm, lm) false (.inl (some (.int v2))) (SH, mm, lm) false 0 0 ∧ o = .inl (some (.int v2)) ∧ z = (SH, mm, lm)) :
    J G M_X9_quietMinutes 4 [(0, .ref 0)] [] (SH, mm, lm) false o z false a b := by
  refine J_aload_n rfl (i := 0) rfl dX9_quietMinutes_4 ?_
  refine J_getr kls_9 (q := 0) (k := 7) sh_0 (by decide) rfl gw_436 dX9_quietMinutes_5 ?_
  obtain ⟨v2, hc1, hw⟩ := hw
  refine J_callV (as := []) (k := 42) (st := []) cal_X1_countQuiet cai_X1_countQuiet gw_1246 ⟨by decide, by decide⟩ cnt_X1_countQuiet sh_42 rfl rfl (Nat.le_of_ble_eq_true rfl) dX9_quietMinutes_8 (Nat.zero_add _).symm (Nat.zero_add _).symm hc1 ?_
  exact J_fini (ty := .int) rfl rfl dX9_quietMinutes_11 hw
theorem dX9_longestLoud_0 : decode cX9_longestLoud 0 = .ok (.aload_n 0, 1) := by decide +kernel
theorem dX9_longestLoud_1 : decode cX9_longestLoud 1 = .ok (.invokevirtual 122, 3) := by decide +kernel
theorem dX9_longestLoud_4 : decode cX9_longestLoud 4 = .ok (.aload_n 0, 1) := by decide +kernel
theorem dX9_longestLoud_5 : decode cX9_longestLoud 5 = .ok (.getfield 59, 3) := by decide +kernel
theorem dX9_longestLoud_8 : decode cX9_longestLoud 8 = .ok (.invokevirtual 280, 3) := by decide +kernel
theorem dX9_longestLoud_11 : decode cX9_longestLoud 11 = .ok (.ireturn, 1) := by decide +kernel
set_option maxRecDepth 20000 in
theorem bX9_longestLoud_0 {G : Gx} {mm : Nat → Nat → Int32} {lm : Nat → Int64}  {o : Ou} {z : Wd} {a b : Nat} (hw : ((Ct G M_X9_requireTower [.ref 0] (SH, mm, lm) false (.inl none) (SH, mm, lm) false 0 0 ∧ J G M_X9_longestLoud 4 [(0, .ref 0)] [] (SH, mm, lm) false o z false a b) ∨ (∃ (E4 : String), Ct G M_X9_requireTower [.ref 0] (SH, mm, lm) false (.inr E4) (SH, mm, lm) false 1 6 ∧ o = .inr E4 ∧ z = (SH, mm, lm) ∧ 1 ≤ a ∧ 6 ≤ b))) :
    J G M_X9_longestLoud 0 [(0, .ref 0)] [] (SH, mm, lm) false o z false a b := by
  refine J_aload_n rfl (i := 0) rfl dX9_longestLoud_0 ?_
  rcases hw with ⟨hc1, hw⟩ | ⟨E4, hc1, rfl, rfl, h1, h6⟩
  · refine J_callV (as := []) (k := 0) (st := []) cal_X9_requireTower cai_X9_requireTower gw_733 ⟨by decide, by decide⟩ cnt_X9_requireTower sh_0 rfl rfl (Nat.le_of_ble_eq_true rfl) dX9_longestLoud_1 (Nat.zero_add _).symm (Nat.zero_add _).symm hc1 ?_
    exact hw
  · exact J_callVx (ht := rfl) (as := []) (k := 0) (st := []) cal_X9_requireTower cai_X9_requireTower gw_733 ⟨by decide, by decide⟩ cnt_X9_requireTower sh_0 rfl rfl (Nat.le_of_ble_eq_true rfl) dX9_longestLoud_1 hc1 h1 h6
set_option maxRecDepth 20000 in
theorem bX9_longestLoud_4 {G : Gx} {mm : Nat → Nat → Int32} {lm : Nat → Int64}  {o : Ou} {z : Wd} {a b : Nat} (hw : ∃ (v2 : Int32), Ct G M_X1_longestLoudRun [.ref 42] (SH, mm, lm) false (.inl (some (.int v2))) (SH, mm, lm) false 0 0 ∧ o = .inl (some (.int v2)) ∧ z = (SH, mm, lm)) :
    J G M_X9_longestLoud 4 [(0, .ref 0)] [] (SH, mm, lm) false o z false a b := by
  refine J_aload_n rfl (i := 0) rfl dX9_longestLoud_4 ?_
  refine J_getr kls_9 (q := 0) (k := 7) sh_0 (by decide) rfl gw_436 dX9_longestLoud_5 ?_
  obtain ⟨v2, hc1, hw⟩ := hw
  refine J_callV (as := []) (k := 42) (st := []) cal_X1_longestLoudRun cai_X1_longestLoudRun gw_1257 ⟨by decide, by decide⟩ cnt_X1_longestLoudRun sh_42 rfl rfl (Nat.le_of_ble_eq_true rfl) dX9_longestLoud_8 (Nat.zero_add _).symm (Nat.zero_add _).symm hc1 ?_
  exact J_fini (ty := .int) rfl rfl dX9_longestLoud_11 hw
theorem dX9_soundsAt_0 : decode cX9_soundsAt 0 = .ok (.aload_n 0, 1) := by decide +kernel
theorem dX9_soundsAt_1 : decode cX9_soundsAt 1 = .ok (.invokevirtual 122, 3) := by decide +kernel
theorem dX9_soundsAt_4 : decode cX9_soundsAt 4 = .ok (.iload_n 1, 1) := by decide +kernel
theorem dX9_soundsAt_5 : decode cX9_soundsAt 5 = .ok (.iconst 0, 1) := by decide +kernel
theorem dX9_soundsAt_6 : decode cX9_soundsAt 6 = .ok (.sipush 1439, 3) := by decide +kernel
theorem dX9_soundsAt_9 : decode cX9_soundsAt 9 = .ok (.invokestatic 96, 3) := by decide +kernel
theorem dX9_soundsAt_12 : decode cX9_soundsAt 12 = .ok (.aload_n 0, 1) := by decide +kernel
theorem dX9_soundsAt_13 : decode cX9_soundsAt 13 = .ok (.getfield 59, 3) := by decide +kernel
theorem dX9_soundsAt_16 : decode cX9_soundsAt 16 = .ok (.iload_n 1, 1) := by decide +kernel
theorem dX9_soundsAt_17 : decode cX9_soundsAt 17 = .ok (.invokevirtual 283, 3) := by decide +kernel
theorem dX9_soundsAt_20 : decode cX9_soundsAt 20 = .ok (.ireturn, 1) := by decide +kernel
set_option maxRecDepth 20000 in
theorem bX9_soundsAt_0 {G : Gx} {mm : Nat → Nat → Int32} {lm : Nat → Int64} {x1 : Int32} {o : Ou} {z : Wd} {a b : Nat} (hw : ((Ct G M_X9_requireTower [.ref 0] (SH, mm, lm) false (.inl none) (SH, mm, lm) false 0 0 ∧ ((Ct G M_X9_requireRange [.int x1, .int 0, .int 1439] (SH, mm, lm) false (.inl none) (SH, mm, lm) false 0 0 ∧ J G M_X9_soundsAt 12 [(0, .ref 0), (1, .int x1)] [] (SH, mm, lm) false o z false a b) ∨ (∃ (E7 : String), Ct G M_X9_requireRange [.int x1, .int 0, .int 1439] (SH, mm, lm) false (.inr E7) (SH, mm, lm) false 1 6 ∧ o = .inr E7 ∧ z = (SH, mm, lm) ∧ 1 ≤ a ∧ 6 ≤ b))) ∨ (∃ (E8 : String), Ct G M_X9_requireTower [.ref 0] (SH, mm, lm) false (.inr E8) (SH, mm, lm) false 1 6 ∧ o = .inr E8 ∧ z = (SH, mm, lm) ∧ 1 ≤ a ∧ 6 ≤ b))) :
    J G M_X9_soundsAt 0 [(0, .ref 0), (1, .int x1)] [] (SH, mm, lm) false o z false a b := by
  refine J_aload_n rfl (i := 0) rfl dX9_soundsAt_0 ?_
  rcases hw with ⟨hc1, hw⟩ | ⟨E8, hc1, rfl, rfl, h1, h6⟩
  · refine J_callV (as := []) (k := 0) (st := []) cal_X9_requireTower cai_X9_requireTower gw_733 ⟨by decide, by decide⟩ cnt_X9_requireTower sh_0 rfl rfl (Nat.le_of_ble_eq_true rfl) dX9_soundsAt_1 (Nat.zero_add _).symm (Nat.zero_add _).symm hc1 ?_
    refine J_iload_n rfl (i := 1) rfl dX9_soundsAt_4 ?_
    refine J_iconst (v := 0) (by decide) dX9_soundsAt_5 ?_
    refine J_sipush (v := 1439) (by decide) dX9_soundsAt_6 ?_
    rcases hw with ⟨hc4, hw⟩ | ⟨E7, hc4, rfl, rfl, h1, h6⟩
    · refine J_callS (as := [.int x1, .int 0, .int 1439]) (st := []) cal_X9_requireRange cas_X9_requireRange gw_707 ⟨by decide, by decide⟩ cnt_X9_requireRange rfl (Nat.le_of_ble_eq_true rfl) dX9_soundsAt_9 (Nat.zero_add _).symm (Nat.zero_add _).symm hc4 ?_
      exact hw
    · exact J_callSx (ht := rfl) (as := [.int x1, .int 0, .int 1439]) (st := []) cal_X9_requireRange cas_X9_requireRange gw_707 ⟨by decide, by decide⟩ cnt_X9_requireRange rfl (Nat.le_of_ble_eq_true rfl) dX9_soundsAt_9 hc4 h1 h6
  · exact J_callVx (ht := rfl) (as := []) (k := 0) (st := []) cal_X9_requireTower cai_X9_requireTower gw_733 ⟨by decide, by decide⟩ cnt_X9_requireTower sh_0 rfl rfl (Nat.le_of_ble_eq_true rfl) dX9_soundsAt_1 hc1 h1 h6
set_option maxRecDepth 20000 in
theorem bX9_soundsAt_12 {G : Gx} {mm : Nat → Nat → Int32} {lm : Nat → Int64} {x1 : Int32} {o : Ou} {z : Wd} {a b : Nat} (hw : ∃ (v2 : Int32), Ct G M_X1_soundingSet [.ref 42, .int x1] (SH, mm, lm) false (.inl (some (.int v2))) (SH, mm, lm) false 0 0 ∧ o = .inl (some (.int v2)) ∧ z = (SH, mm, lm)) :
    J G M_X9_soundsAt 12 [(0, .ref 0), (1, .int x1)] [] (SH, mm, lm) false o z false a b := by
  refine J_aload_n rfl (i := 0) rfl dX9_soundsAt_12 ?_
  refine J_getr kls_9 (q := 0) (k := 7) sh_0 (by decide) rfl gw_436 dX9_soundsAt_13 ?_
  refine J_iload_n rfl (i := 1) rfl dX9_soundsAt_16 ?_
  obtain ⟨v2, hc1, hw⟩ := hw
  refine J_callV (as := [.int x1]) (k := 42) (st := []) cal_X1_soundingSet cai_X1_soundingSet gw_1268 ⟨by decide, by decide⟩ cnt_X1_soundingSet sh_42 rfl rfl (Nat.le_of_ble_eq_true rfl) dX9_soundsAt_17 (Nat.zero_add _).symm (Nat.zero_add _).symm hc1 ?_
  exact J_fini (ty := .int) rfl rfl dX9_soundsAt_20 hw
theorem dX9_soundsPerDay_0 : decode cX9_soundsPerDay 0 = .ok (.aload_n 0, 1) := by decide +kernel
theorem dX9_soundsPerDay_1 : decode cX9_soundsPerDay 1 = .ok (.invokevirtual 122, 3) := by decide +kernel
theorem dX9_soundsPerDay_4 : decode cX9_soundsPerDay 4 = .ok (.aload_n 0, 1) := by decide +kernel
theorem dX9_soundsPerDay_5 : decode cX9_soundsPerDay 5 = .ok (.iload_n 1, 1) := by decide +kernel
theorem dX9_soundsPerDay_6 : decode cX9_soundsPerDay 6 = .ok (.invokevirtual 125, 3) := by decide +kernel
theorem dX9_soundsPerDay_9 : decode cX9_soundsPerDay 9 = .ok (.aload_n 0, 1) := by decide +kernel
theorem dX9_soundsPerDay_10 : decode cX9_soundsPerDay 10 = .ok (.getfield 28, 3) := by decide +kernel
theorem dX9_soundsPerDay_13 : decode cX9_soundsPerDay 13 = .ok (.iload_n 1, 1) := by decide +kernel
theorem dX9_soundsPerDay_14 : decode cX9_soundsPerDay 14 = .ok (.aaload, 1) := by decide +kernel
theorem dX9_soundsPerDay_15 : decode cX9_soundsPerDay 15 = .ok (.invokevirtual 267, 3) := by decide +kernel
theorem dX9_soundsPerDay_18 : decode cX9_soundsPerDay 18 = .ok (.ifCond .eq 15, 3) := by decide +kernel
theorem dX9_soundsPerDay_21 : decode cX9_soundsPerDay 21 = .ok (.aload_n 0, 1) := by decide +kernel
theorem dX9_soundsPerDay_22 : decode cX9_soundsPerDay 22 = .ok (.getfield 59, 3) := by decide +kernel
theorem dX9_soundsPerDay_25 : decode cX9_soundsPerDay 25 = .ok (.iload_n 1, 1) := by decide +kernel
theorem dX9_soundsPerDay_26 : decode cX9_soundsPerDay 26 = .ok (.iload_n 1, 1) := by decide +kernel
theorem dX9_soundsPerDay_27 : decode cX9_soundsPerDay 27 = .ok (.invokevirtual 286, 3) := by decide +kernel
theorem dX9_soundsPerDay_30 : decode cX9_soundsPerDay 30 = .ok (.goto 5, 3) := by decide +kernel
theorem dX9_soundsPerDay_33 : decode cX9_soundsPerDay 33 = .ok (.bipush (-2), 2) := by decide +kernel
theorem dX9_soundsPerDay_35 : decode cX9_soundsPerDay 35 = .ok (.ireturn, 1) := by decide +kernel
set_option maxRecDepth 20000 in
theorem bX9_soundsPerDay_0 {G : Gx} {mm : Nat → Nat → Int32} {lm : Nat → Int64} {x1 : Int32} {o : Ou} {z : Wd} {a b : Nat} (hw : ((Ct G M_X9_requireTower [.ref 0] (SH, mm, lm) false (.inl none) (SH, mm, lm) false 0 0 ∧ ((Ct G M_X9_requireBell [.ref 0, .int x1] (SH, mm, lm) false (.inl none) (SH, mm, lm) false 0 0 ∧ J G M_X9_soundsPerDay 9 [(0, .ref 0), (1, .int x1)] [] (SH, mm, lm) false o z false a b) ∨ (∃ (E7 : String), Ct G M_X9_requireBell [.ref 0, .int x1] (SH, mm, lm) false (.inr E7) (SH, mm, lm) false 1 6 ∧ o = .inr E7 ∧ z = (SH, mm, lm) ∧ 1 ≤ a ∧ 6 ≤ b))) ∨ (∃ (E8 : String), Ct G M_X9_requireTower [.ref 0] (SH, mm, lm) false (.inr E8) (SH, mm, lm) false 1 6 ∧ o = .inr E8 ∧ z = (SH, mm, lm) ∧ 1 ≤ a ∧ 6 ≤ b))) :
    J G M_X9_soundsPerDay 0 [(0, .ref 0), (1, .int x1)] [] (SH, mm, lm) false o z false a b := by
  refine J_aload_n rfl (i := 0) rfl dX9_soundsPerDay_0 ?_
  rcases hw with ⟨hc1, hw⟩ | ⟨E8, hc1, rfl, rfl, h1, h6⟩
  · refine J_callV (as := []) (k := 0) (st := []) cal_X9_requireTower cai_X9_requireTower gw_733 ⟨by decide, by decide⟩ cnt_X9_requireTower sh_0 rfl rfl (Nat.le_of_ble_eq_true rfl) dX9_soundsPerDay_1 (Nat.zero_add _).symm (Nat.zero_add _).symm hc1 ?_
    refine J_aload_n rfl (i := 0) rfl dX9_soundsPerDay_4 ?_
    refine J_iload_n rfl (i := 1) rfl dX9_soundsPerDay_5 ?_
    rcases hw with ⟨hc4, hw⟩ | ⟨E7, hc4, rfl, rfl, h1, h6⟩
    · refine J_callV (as := [.int x1]) (k := 0) (st := []) cal_X9_requireBell cai_X9_requireBell gw_738 ⟨by decide, by decide⟩ cnt_X9_requireBell sh_0 rfl rfl (Nat.le_of_ble_eq_true rfl) dX9_soundsPerDay_6 (Nat.zero_add _).symm (Nat.zero_add _).symm hc4 ?_
      exact hw
    · exact J_callVx (ht := rfl) (as := [.int x1]) (k := 0) (st := []) cal_X9_requireBell cai_X9_requireBell gw_738 ⟨by decide, by decide⟩ cnt_X9_requireBell sh_0 rfl rfl (Nat.le_of_ble_eq_true rfl) dX9_soundsPerDay_6 hc4 h1 h6
  · exact J_callVx (ht := rfl) (as := []) (k := 0) (st := []) cal_X9_requireTower cai_X9_requireTower gw_733 ⟨by decide, by decide⟩ cnt_X9_requireTower sh_0 rfl rfl (Nat.le_of_ble_eq_true rfl) dX9_soundsPerDay_1 hc1 h1 h6
set_option maxRecDepth 20000 in
theorem bX9_soundsPerDay_9 {G : Gx} {mm : Nat → Nat → Int32} {lm : Nat → Int64} {x1 : Int32} {o : Ou} {z : Wd} {a b : Nat} (hw : ∃ j1 : Nat, x1 = nI j1 ∧ j1 < 8 ∧ ∃ (v3 : Int32), Ct G M_X0_hasChime [.ref (23 + j1)] (SH, mm, lm) false (.inl (some (.int v3))) (SH, mm, lm) false 0 0 ∧ ((v3 = 0) → o = .inl (some (.int (-2))) ∧ z = (SH, mm, lm)) ∧ ((¬ v3 = 0) → ∃ (v6 : Int32), Ct G M_X1_countCommonSounds [.ref 42, .int x1, .int x1] (SH, mm, lm) false (.inl (some (.int v6))) (SH, mm, lm) false 0 0 ∧ o = .inl (some (.int v6)) ∧ z = (SH, mm, lm))) :
    J G M_X9_soundsPerDay 9 [(0, .ref 0), (1, .int x1)] [] (SH, mm, lm) false o z false a b := by
  refine J_aload_n rfl (i := 0) rfl dX9_soundsPerDay_9 ?_
  refine J_getr kls_9 (q := 0) (k := 3) sh_0 (by decide) rfl gw_432 dX9_soundsPerDay_10 ?_
  refine J_iload_n rfl (i := 1) rfl dX9_soundsPerDay_13 ?_
  obtain ⟨j1, ej1, hj1, hw⟩ := hw
  refine J_aald (r := 23 + j1) sh_22 ej1 hj1 (by decide) (if_pos hj1) dX9_soundsPerDay_14 ?_
  obtain ⟨v3, hc2, hw⟩ := hw
  refine J_callV (as := []) (k := (23 + j1)) (st := []) cal_X0_hasChime cai_X0_hasChime gw_1223 ⟨by decide, by decide⟩ cnt_X0_hasChime (sh_b23 hj1) rfl rfl (Nat.le_of_ble_eq_true rfl) dX9_soundsPerDay_15 (Nat.zero_add _).symm (Nat.zero_add _).symm hc2 ?_
  refine J_if_eq (tgt := 33) dX9_soundsPerDay_18 (by decide) (fun hb8 => ?_) (fun hb8 => ?_)
  · replace hw := hw.1 hb8
    refine J_bipush (v := (-2)) (by decide) dX9_soundsPerDay_33 ?_
    exact J_fini (ty := .int) rfl rfl dX9_soundsPerDay_35 hw
  · replace hw := hw.2 hb8
    refine J_aload_n rfl (i := 0) rfl dX9_soundsPerDay_21 ?_
    refine J_getr kls_9 (q := 0) (k := 7) sh_0 (by decide) rfl gw_436 dX9_soundsPerDay_22 ?_
    refine J_iload_n rfl (i := 1) rfl dX9_soundsPerDay_25 ?_
    refine J_iload_n rfl (i := 1) rfl dX9_soundsPerDay_26 ?_
    obtain ⟨v6, hc5, hw⟩ := hw
    refine J_callV (as := [.int x1, .int x1]) (k := 42) (st := []) cal_X1_countCommonSounds cai_X1_countCommonSounds gw_1289 ⟨by decide, by decide⟩ cnt_X1_countCommonSounds sh_42 rfl rfl (Nat.le_of_ble_eq_true rfl) dX9_soundsPerDay_27 (Nat.zero_add _).symm (Nat.zero_add _).symm hc5 ?_
    refine J_goto (tgt := 35) dX9_soundsPerDay_30 (by decide) ?_
    exact J_fini (ty := .int) rfl rfl dX9_soundsPerDay_35 hw
theorem dX9_nextSound_0 : decode cX9_nextSound 0 = .ok (.aload_n 0, 1) := by decide +kernel
theorem dX9_nextSound_1 : decode cX9_nextSound 1 = .ok (.invokevirtual 122, 3) := by decide +kernel
theorem dX9_nextSound_4 : decode cX9_nextSound 4 = .ok (.iload_n 1, 1) := by decide +kernel
theorem dX9_nextSound_5 : decode cX9_nextSound 5 = .ok (.iconst 0, 1) := by decide +kernel
theorem dX9_nextSound_6 : decode cX9_nextSound 6 = .ok (.sipush 1439, 3) := by decide +kernel
theorem dX9_nextSound_9 : decode cX9_nextSound 9 = .ok (.invokestatic 96, 3) := by decide +kernel
theorem dX9_nextSound_12 : decode cX9_nextSound 12 = .ok (.aload_n 0, 1) := by decide +kernel
theorem dX9_nextSound_13 : decode cX9_nextSound 13 = .ok (.getfield 59, 3) := by decide +kernel
theorem dX9_nextSound_16 : decode cX9_nextSound 16 = .ok (.iload_n 1, 1) := by decide +kernel
theorem dX9_nextSound_17 : decode cX9_nextSound 17 = .ok (.invokevirtual 289, 3) := by decide +kernel
theorem dX9_nextSound_20 : decode cX9_nextSound 20 = .ok (.ireturn, 1) := by decide +kernel
set_option maxRecDepth 20000 in
theorem bX9_nextSound_0 {G : Gx} {mm : Nat → Nat → Int32} {lm : Nat → Int64} {x1 : Int32} {o : Ou} {z : Wd} {a b : Nat} (hw : ((Ct G M_X9_requireTower [.ref 0] (SH, mm, lm) false (.inl none) (SH, mm, lm) false 0 0 ∧ ((Ct G M_X9_requireRange [.int x1, .int 0, .int 1439] (SH, mm, lm) false (.inl none) (SH, mm, lm) false 0 0 ∧ J G M_X9_nextSound 12 [(0, .ref 0), (1, .int x1)] [] (SH, mm, lm) false o z false a b) ∨ (∃ (E7 : String), Ct G M_X9_requireRange [.int x1, .int 0, .int 1439] (SH, mm, lm) false (.inr E7) (SH, mm, lm) false 1 6 ∧ o = .inr E7 ∧ z = (SH, mm, lm) ∧ 1 ≤ a ∧ 6 ≤ b))) ∨ (∃ (E8 : String), Ct G M_X9_requireTower [.ref 0] (SH, mm, lm) false (.inr E8) (SH, mm, lm) false 1 6 ∧ o = .inr E8 ∧ z = (SH, mm, lm) ∧ 1 ≤ a ∧ 6 ≤ b))) :
    J G M_X9_nextSound 0 [(0, .ref 0), (1, .int x1)] [] (SH, mm, lm) false o z false a b := by
  refine J_aload_n rfl (i := 0) rfl dX9_nextSound_0 ?_
  rcases hw with ⟨hc1, hw⟩ | ⟨E8, hc1, rfl, rfl, h1, h6⟩
  · refine J_callV (as := []) (k := 0) (st := []) cal_X9_requireTower cai_X9_requireTower gw_733 ⟨by decide, by decide⟩ cnt_X9_requireTower sh_0 rfl rfl (Nat.le_of_ble_eq_true rfl) dX9_nextSound_1 (Nat.zero_add _).symm (Nat.zero_add _).symm hc1 ?_
    refine J_iload_n rfl (i := 1) rfl dX9_nextSound_4 ?_
    refine J_iconst (v := 0) (by decide) dX9_nextSound_5 ?_
    refine J_sipush (v := 1439) (by decide) dX9_nextSound_6 ?_
    rcases hw with ⟨hc4, hw⟩ | ⟨E7, hc4, rfl, rfl, h1, h6⟩
    · refine J_callS (as := [.int x1, .int 0, .int 1439]) (st := []) cal_X9_requireRange cas_X9_requireRange gw_707 ⟨by decide, by decide⟩ cnt_X9_requireRange rfl (Nat.le_of_ble_eq_true rfl) dX9_nextSound_9 (Nat.zero_add _).symm (Nat.zero_add _).symm hc4 ?_
      exact hw
    · exact J_callSx (ht := rfl) (as := [.int x1, .int 0, .int 1439]) (st := []) cal_X9_requireRange cas_X9_requireRange gw_707 ⟨by decide, by decide⟩ cnt_X9_requireRange rfl (Nat.le_of_ble_eq_true rfl) dX9_nextSound_9 hc4 h1 h6
  · exact J_callVx (ht := rfl) (as := []) (k := 0) (st := []) cal_X9_requireTower cai_X9_requireTower gw_733 ⟨by decide, by decide⟩ cnt_X9_requireTower sh_0 rfl rfl (Nat.le_of_ble_eq_true rfl) dX9_nextSound_1 hc1 h1 h6
set_option maxRecDepth 20000 in
theorem bX9_nextSound_12 {G : Gx} {mm : Nat → Nat → Int32} {lm : Nat → Int64} {x1 : Int32} {o : Ou} {z : Wd} {a b : Nat} (hw : ∃ (v2 : Int32), Ct G M_X1_firstSoundFrom [.ref 42, .int x1] (SH, mm, lm) false (.inl (some (.int v2))) (SH, mm, lm) false 0 0 ∧ o = .inl (some (.int v2)) ∧ z = (SH, mm, lm)) :
    J G M_X9_nextSound 12 [(0, .ref 0), (1, .int x1)] [] (SH, mm, lm) false o z false a b := by
  refine J_aload_n rfl (i := 0) rfl dX9_nextSound_12 ?_
  refine J_getr kls_9 (q := 0) (k := 7) sh_0 (by decide) rfl gw_436 dX9_nextSound_13 ?_
  refine J_iload_n rfl (i := 1) rfl dX9_nextSound_16 ?_
  obtain ⟨v2, hc1, hw⟩ := hw
  refine J_callV (as := [.int x1]) (k := 42) (st := []) cal_X1_firstSoundFrom cai_X1_firstSoundFrom gw_1300 ⟨by decide, by decide⟩ cnt_X1_firstSoundFrom sh_42 rfl rfl (Nat.le_of_ble_eq_true rfl) dX9_nextSound_17 (Nat.zero_add _).symm (Nat.zero_add _).symm hc1 ?_
  exact J_fini (ty := .int) rfl rfl dX9_nextSound_20 hw
theorem dX9_busiestMinute_0 : decode cX9_busiestMinute 0 = .ok (.aload_n 0, 1) := by decide +kernel
theorem dX9_busiestMinute_1 : decode cX9_busiestMinute 1 = .ok (.invokevirtual 122, 3) := by decide +kernel
theorem dX9_busiestMinute_4 : decode cX9_busiestMinute 4 = .ok (.aload_n 0, 1) := by decide +kernel
theorem dX9_busiestMinute_5 : decode cX9_busiestMinute 5 = .ok (.getfield 59, 3) := by decide +kernel
theorem dX9_busiestMinute_8 : decode cX9_busiestMinute 8 = .ok (.invokevirtual 292, 3) := by decide +kernel
theorem dX9_busiestMinute_11 : decode cX9_busiestMinute 11 = .ok (.ireturn, 1) := by decide +kernel
set_option maxRecDepth 20000 in
theorem bX9_busiestMinute_0 {G : Gx} {mm : Nat → Nat → Int32} {lm : Nat → Int64}  {o : Ou} {z : Wd} {a b : Nat} (hw : ((Ct G M_X9_requireTower [.ref 0] (SH, mm, lm) false (.inl none) (SH, mm, lm) false 0 0 ∧ J G M_X9_busiestMinute 4 [(0, .ref 0)] [] (SH, mm, lm) false o z false a b) ∨ (∃ (E4 : String), Ct G M_X9_requireTower [.ref 0] (SH, mm, lm) false (.inr E4) (SH, mm, lm) false 1 6 ∧ o = .inr E4 ∧ z = (SH, mm, lm) ∧ 1 ≤ a ∧ 6 ≤ b))) :
    J G M_X9_busiestMinute 0 [(0, .ref 0)] [] (SH, mm, lm) false o z false a b := by
  refine J_aload_n rfl (i := 0) rfl dX9_busiestMinute_0 ?_
  rcases hw with ⟨hc1, hw⟩ | ⟨E4, hc1, rfl, rfl, h1, h6⟩
  · refine J_callV (as := []) (k := 0) (st := []) cal_X9_requireTower cai_X9_requireTower gw_733 ⟨by decide, by decide⟩ cnt_X9_requireTower sh_0 rfl rfl (Nat.le_of_ble_eq_true rfl) dX9_busiestMinute_1 (Nat.zero_add _).symm (Nat.zero_add _).symm hc1 ?_
    exact hw
  · exact J_callVx (ht := rfl) (as := []) (k := 0) (st := []) cal_X9_requireTower cai_X9_requireTower gw_733 ⟨by decide, by decide⟩ cnt_X9_requireTower sh_0 rfl rfl (Nat.le_of_ble_eq_true rfl) dX9_busiestMinute_1 hc1 h1 h6
set_option maxRecDepth 20000 in
theorem bX9_busiestMinute_4 {G : Gx} {mm : Nat → Nat → Int32} {lm : Nat → Int64}  {o : Ou} {z : Wd} {a b : Nat} (hw : ∃ (v2 : Int32), Ct G M_X1_minuteOfMostSounds [.ref 42] (SH, mm, lm) false (.inl (some (.int v2))) (SH, mm, lm) false 0 0 ∧ o = .inl (some (.int v2)) ∧ z = (SH, mm, lm)) :
    J G M_X9_busiestMinute 4 [(0, .ref 0)] [] (SH, mm, lm) false o z false a b := by
  refine J_aload_n rfl (i := 0) rfl dX9_busiestMinute_4 ?_
  refine J_getr kls_9 (q := 0) (k := 7) sh_0 (by decide) rfl gw_436 dX9_busiestMinute_5 ?_
  obtain ⟨v2, hc1, hw⟩ := hw
  refine J_callV (as := []) (k := 42) (st := []) cal_X1_minuteOfMostSounds cai_X1_minuteOfMostSounds gw_1312 ⟨by decide, by decide⟩ cnt_X1_minuteOfMostSounds sh_42 rfl rfl (Nat.le_of_ble_eq_true rfl) dX9_busiestMinute_8 (Nat.zero_add _).symm (Nat.zero_add _).symm hc1 ?_
  exact J_fini (ty := .int) rfl rfl dX9_busiestMinute_11 hw
theorem dX9_soundTogether_0 : decode cX9_soundTogether 0 = .ok (.aload_n 0, 1) := by decide +kernel
theorem dX9_soundTogether_1 : decode cX9_soundTogether 1 = .ok (.invokevirtual 122, 3) := by decide +kernel
theorem dX9_soundTogether_4 : decode cX9_soundTogether 4 = .ok (.aload_n 0, 1) := by decide +kernel
theorem dX9_soundTogether_5 : decode cX9_soundTogether 5 = .ok (.iload_n 1, 1) := by decide +kernel
theorem dX9_soundTogether_6 : decode cX9_soundTogether 6 = .ok (.invokevirtual 125, 3) := by decide +kernel
theorem dX9_soundTogether_9 : decode cX9_soundTogether 9 = .ok (.aload_n 0, 1) := by decide +kernel
theorem dX9_soundTogether_10 : decode cX9_soundTogether 10 = .ok (.iload_n 2, 1) := by decide +kernel
theorem dX9_soundTogether_11 : decode cX9_soundTogether 11 = .ok (.invokevirtual 125, 3) := by decide +kernel
theorem dX9_soundTogether_14 : decode cX9_soundTogether 14 = .ok (.aload_n 0, 1) := by decide +kernel
theorem dX9_soundTogether_15 : decode cX9_soundTogether 15 = .ok (.getfield 28, 3) := by decide +kernel
theorem dX9_soundTogether_18 : decode cX9_soundTogether 18 = .ok (.iload_n 1, 1) := by decide +kernel
theorem dX9_soundTogether_19 : decode cX9_soundTogether 19 = .ok (.aaload, 1) := by decide +kernel
theorem dX9_soundTogether_20 : decode cX9_soundTogether 20 = .ok (.invokevirtual 267, 3) := by decide +kernel
theorem dX9_soundTogether_23 : decode cX9_soundTogether 23 = .ok (.ifCond .eq 15, 3) := by decide +kernel
theorem dX9_soundTogether_26 : decode cX9_soundTogether 26 = .ok (.aload_n 0, 1) := by decide +kernel
theorem dX9_soundTogether_27 : decode cX9_soundTogether 27 = .ok (.getfield 28, 3) := by decide +kernel
theorem dX9_soundTogether_30 : decode cX9_soundTogether 30 = .ok (.iload_n 2, 1) := by decide +kernel
theorem dX9_soundTogether_31 : decode cX9_soundTogether 31 = .ok (.aaload, 1) := by decide +kernel
theorem dX9_soundTogether_32 : decode cX9_soundTogether 32 = .ok (.invokevirtual 267, 3) := by decide +kernel
theorem dX9_soundTogether_35 : decode cX9_soundTogether 35 = .ok (.ifCond .ne 6, 3) := by decide +kernel
theorem dX9_soundTogether_38 : decode cX9_soundTogether 38 = .ok (.bipush (-2), 2) := by decide +kernel
theorem dX9_soundTogether_40 : decode cX9_soundTogether 40 = .ok (.ireturn, 1) := by decide +kernel
theorem dX9_soundTogether_41 : decode cX9_soundTogether 41 = .ok (.aload_n 0, 1) := by decide +kernel
theorem dX9_soundTogether_42 : decode cX9_soundTogether 42 = .ok (.getfield 59, 3) := by decide +kernel
theorem dX9_soundTogether_45 : decode cX9_soundTogether 45 = .ok (.iload_n 1, 1) := by decide +kernel
theorem dX9_soundTogether_46 : decode cX9_soundTogether 46 = .ok (.iload_n 2, 1) := by decide +kernel
theorem dX9_soundTogether_47 : decode cX9_soundTogether 47 = .ok (.invokevirtual 286, 3) := by decide +kernel
theorem dX9_soundTogether_50 : decode cX9_soundTogether 50 = .ok (.ireturn, 1) := by decide +kernel
set_option maxRecDepth 20000 in
theorem bX9_soundTogether_0 {G : Gx} {mm : Nat → Nat → Int32} {lm : Nat → Int64} {x1 : Int32} {x2 : Int32} {o : Ou} {z : Wd} {a b : Nat} (hw : ((Ct G M_X9_requireTower [.ref 0] (SH, mm, lm) false (.inl none) (SH, mm, lm) false 0 0 ∧ ((Ct G M_X9_requireBell [.ref 0, .int x1] (SH, mm, lm) false (.inl none) (SH, mm, lm) false 0 0 ∧ ((Ct G M_X9_requireBell [.ref 0, .int x2] (SH, mm, lm) false (.inl none) (SH, mm, lm) false 0 0 ∧ J G M_X9_soundTogether 14 [(0, .ref 0), (1, .int x1), (2, .int x2)] [] (SH, mm, lm) false o z false a b) ∨ (∃ (E10 : String), Ct G M_X9_requireBell [.ref 0, .int x2] (SH, mm, lm) false (.inr E10) (SH, mm, lm) false 1 6 ∧ o = .inr E10 ∧ z = (SH, mm, lm) ∧ 1 ≤ a ∧ 6 ≤ b))) ∨ (∃ (E11 : String), Ct G M_X9_requireBell [.ref 0, .int x1] (SH, mm, lm) false (.inr E11) (SH, mm, lm) false 1 6 ∧ o = .inr E11 ∧ z = (SH, mm, lm) ∧ 1 ≤ a ∧ 6 ≤ b))) ∨ (∃ (E12 : String), Ct G M_X9_requireTower [.ref 0] (SH, mm, lm) false (.inr E12) (SH, mm, lm) false 1 6 ∧ o = .inr E12 ∧ z = (SH, mm, lm) ∧ 1 ≤ a ∧ 6 ≤ b))) :
    J G M_X9_soundTogether 0 [(0, .ref 0), (1, .int x1), (2, .int x2)] [] (SH, mm, lm) false o z false a b := by
  refine J_aload_n rfl (i := 0) rfl dX9_soundTogether_0 ?_
  rcases hw with ⟨hc1, hw⟩ | ⟨E12, hc1, rfl, rfl, h1, h6⟩
  · refine J_callV (as := []) (k := 0) (st := []) cal_X9_requireTower cai_X9_requireTower gw_733 ⟨by decide, by decide⟩ cnt_X9_requireTower sh_0 rfl rfl (Nat.le_of_ble_eq_true rfl) dX9_soundTogether_1 (Nat.zero_add _).symm (Nat.zero_add _).symm hc1 ?_
    refine J_aload_n rfl (i := 0) rfl dX9_soundTogether_4 ?_
    refine J_iload_n rfl (i := 1) rfl dX9_soundTogether_5 ?_
    rcases hw with ⟨hc4, hw⟩ | ⟨E11, hc4, rfl, rfl, h1, h6⟩
    · refine J_callV (as := [.int x1]) (k := 0) (st := []) cal_X9_requireBell cai_X9_requireBell gw_738 ⟨by decide, by decide⟩ cnt_X9_requireBell sh_0 rfl rfl (Nat.le_of_ble_eq_true rfl) dX9_soundTogether_6 (Nat.zero_add _).symm (Nat.zero_add _).symm hc4 ?_
      refine J_aload_n rfl (i := 0) rfl dX9_soundTogether_9 ?_
      refine J_iload_n rfl (i := 2) rfl dX9_soundTogether_10 ?_
      rcases hw with ⟨hc7, hw⟩ | ⟨E10, hc7, rfl, rfl, h1, h6⟩
      · refine J_callV (as := [.int x2]) (k := 0) (st := []) cal_X9_requireBell cai_X9_requireBell gw_738 ⟨by decide, by decide⟩ cnt_X9_requireBell sh_0 rfl rfl (Nat.le_of_ble_eq_true rfl) dX9_soundTogether_11 (Nat.zero_add _).symm (Nat.zero_add _).symm hc7 ?_
        exact hw
      · exact J_callVx (ht := rfl) (as := [.int x2]) (k := 0) (st := []) cal_X9_requireBell cai_X9_requireBell gw_738 ⟨by decide, by decide⟩ cnt_X9_requireBell sh_0 rfl rfl (Nat.le_of_ble_eq_true rfl) dX9_soundTogether_11 hc7 h1 h6
    · exact J_callVx (ht := rfl) (as := [.int x1]) (k := 0) (st := []) cal_X9_requireBell cai_X9_requireBell gw_738 ⟨by decide, by decide⟩ cnt_X9_requireBell sh_0 rfl rfl (Nat.le_of_ble_eq_true rfl) dX9_soundTogether_6 hc4 h1 h6
  · exact J_callVx (ht := rfl) (as := []) (k := 0) (st := []) cal_X9_requireTower cai_X9_requireTower gw_733 ⟨by decide, by decide⟩ cnt_X9_requireTower sh_0 rfl rfl (Nat.le_of_ble_eq_true rfl) dX9_soundTogether_1 hc1 h1 h6
set_option maxRecDepth 20000 in
theorem bX9_soundTogether_14 {G : Gx} {mm : Nat → Nat → Int32} {lm : Nat → Int64} {x1 : Int32} {x2 : Int32} {o : Ou} {z : Wd} {a b : Nat} (hw : ∃ j1 : Nat, x1 = nI j1 ∧ j1 < 8 ∧ ∃ (v3 : Int32), Ct G M_X0_hasChime [.ref (23 + j1)] (SH, mm, lm) false (.inl (some (.int v3))) (SH, mm, lm) false 0 0 ∧ ((v3 = 0) → o = .inl (some (.int (-2))) ∧ z = (SH, mm, lm)) ∧ ((¬ v3 = 0) → ∃ j5 : Nat, x2 = nI j5 ∧ j5 < 8 ∧ ∃ (v7 : Int32), Ct G M_X0_hasChime [.ref (23 + j5)] (SH, mm, lm) false (.inl (some (.int v7))) (SH, mm, lm) false 0 0 ∧ ((¬ v7 = 0) → ∃ (v10 : Int32), Ct G M_X1_countCommonSounds [.ref 42, .int x1, .int x2] (SH, mm, lm) false (.inl (some (.int v10))) (SH, mm, lm) false 0 0 ∧ o = .inl (some (.int v10)) ∧ z = (SH, mm, lm)) ∧ ((v7 = 0) → o = .inl (some (.int (-2))) ∧ z = (SH, mm, lm)))) :
    J G M_X9_soundTogether 14 [(0, .ref 0), (1, .int x1), (2, .int x2)] [] (SH, mm, lm) false o z false a b := by
  refine J_aload_n rfl (i := 0) rfl dX9_soundTogether_14 ?_
  refine J_getr kls_9 (q := 0) (k := 3) sh_0 (by decide) rfl gw_432 dX9_soundTogether_15 ?_
  refine J_iload_n rfl (i := 1) rfl dX9_soundTogether_18 ?_
  obtain ⟨j1, ej1, hj1, hw⟩ := hw
  refine J_aald (r := 23 + j1) sh_22 ej1 hj1 (by decide) (if_pos hj1) dX9_soundTogether_19 ?_
  obtain ⟨v3, hc2, hw⟩ := hw
  refine J_callV (as := []) (k := (23 + j1)) (st := []) cal_X0_hasChime cai_X0_hasChime gw_1223 ⟨by decide, by decide⟩ cnt_X0_hasChime (sh_b23 hj1) rfl rfl (Nat.le_of_ble_eq_true rfl) dX9_soundTogether_20 (Nat.zero_add _).symm (Nat.zero_add _).symm hc2 ?_
  refine J_if_eq (tgt := 38) dX9_soundTogether_23 (by decide) (fun hb13 => ?_) (fun hb13 => ?_)
  · replace hw := hw.1 hb13
    refine J_bipush (v := (-2)) (by decide) dX9_soundTogether_38 ?_
    exact J_fini (ty := .int) rfl rfl dX9_soundTogether_40 hw
  · replace hw := hw.2 hb13
    refine J_aload_n rfl (i := 0) rfl dX9_soundTogether_26 ?_
    refine J_getr kls_9 (q := 0) (k := 3) sh_0 (by decide) rfl gw_432 dX9_soundTogether_27 ?_
    refine J_iload_n rfl (i := 2) rfl dX9_soundTogether_30 ?_
    obtain ⟨j5, ej5, hj5, hw⟩ := hw
    refine J_aald (r := 23 + j5) sh_22 ej5 hj5 (by decide) (if_pos hj5) dX9_soundTogether_31 ?_
    obtain ⟨v7, hc6, hw⟩ := hw
    refine J_callV (as := []) (k := (23 + j5)) (st := []) cal_X0_hasChime cai_X0_hasChime gw_1223 ⟨by decide, by decide⟩ cnt_X0_hasChime (sh_b23 hj5) rfl rfl (Nat.le_of_ble_eq_true rfl) dX9_soundTogether_32 (Nat.zero_add _).symm (Nat.zero_add _).symm hc6 ?_
    refine J_if_ne (tgt := 41) dX9_soundTogether_35 (by decide) (fun hb12 => ?_) (fun hb12 => ?_)
    · replace hw := hw.1 hb12
      refine J_aload_n rfl (i := 0) rfl dX9_soundTogether_41 ?_
      refine J_getr kls_9 (q := 0) (k := 7) sh_0 (by decide) rfl gw_436 dX9_soundTogether_42 ?_
      refine J_iload_n rfl (i := 1) rfl dX9_soundTogether_45 ?_
      refine J_iload_n rfl (i := 2) rfl dX9_soundTogether_46 ?_
      obtain ⟨v10, hc9, hw⟩ := hw
      refine J_callV (as := [.int x1, .int x2]) (k := 42) (st := []) cal_X1_countCommonSounds cai_X1_countCommonSounds gw_1289 ⟨by decide, by decide⟩ cnt_X1_countCommonSounds sh_42 rfl rfl (Nat.le_of_ble_eq_true rfl) dX9_soundTogether_47 (Nat.zero_add _).symm (Nat.zero_add _).symm hc9 ?_
      exact J_fini (ty := .int) rfl rfl dX9_soundTogether_50 hw
    · replace hw := hw.2 hb12
      refine J_bipush (v := (-2)) (by decide) dX9_soundTogether_38 ?_
      exact J_fini (ty := .int) rfl rfl dX9_soundTogether_40 hw
theorem dX9_leastDelay_0 : decode cX9_leastDelay 0 = .ok (.aload_n 0, 1) := by decide +kernel
theorem dX9_leastDelay_1 : decode cX9_leastDelay 1 = .ok (.invokevirtual 122, 3) := by decide +kernel
theorem dX9_leastDelay_4 : decode cX9_leastDelay 4 = .ok (.aload_n 0, 1) := by decide +kernel
theorem dX9_leastDelay_5 : decode cX9_leastDelay 5 = .ok (.iload_n 1, 1) := by decide +kernel
theorem dX9_leastDelay_6 : decode cX9_leastDelay 6 = .ok (.invokevirtual 125, 3) := by decide +kernel
theorem dX9_leastDelay_9 : decode cX9_leastDelay 9 = .ok (.aload_n 0, 1) := by decide +kernel
theorem dX9_leastDelay_10 : decode cX9_leastDelay 10 = .ok (.getfield 28, 3) := by decide +kernel
theorem dX9_leastDelay_13 : decode cX9_leastDelay 13 = .ok (.iload_n 1, 1) := by decide +kernel
theorem dX9_leastDelay_14 : decode cX9_leastDelay 14 = .ok (.aaload, 1) := by decide +kernel
theorem dX9_leastDelay_15 : decode cX9_leastDelay 15 = .ok (.invokevirtual 267, 3) := by decide +kernel
theorem dX9_leastDelay_18 : decode cX9_leastDelay 18 = .ok (.ifCond .eq 14, 3) := by decide +kernel
theorem dX9_leastDelay_21 : decode cX9_leastDelay 21 = .ok (.aload_n 0, 1) := by decide +kernel
theorem dX9_leastDelay_22 : decode cX9_leastDelay 22 = .ok (.getfield 59, 3) := by decide +kernel
theorem dX9_leastDelay_25 : decode cX9_leastDelay 25 = .ok (.iload_n 1, 1) := by decide +kernel
theorem dX9_leastDelay_26 : decode cX9_leastDelay 26 = .ok (.invokevirtual 295, 3) := by decide +kernel
theorem dX9_leastDelay_29 : decode cX9_leastDelay 29 = .ok (.goto 5, 3) := by decide +kernel
theorem dX9_leastDelay_32 : decode cX9_leastDelay 32 = .ok (.bipush (-2), 2) := by decide +kernel
theorem dX9_leastDelay_34 : decode cX9_leastDelay 34 = .ok (.ireturn, 1) := by decide +kernel
set_option maxRecDepth 20000 in
theorem bX9_leastDelay_0 {G : Gx} {mm : Nat → Nat → Int32} {lm : Nat → Int64} {x1 : Int32} {o : Ou} {z : Wd} {a b : Nat} (hw : ((Ct G M_X9_requireTower [.ref 0] (SH, mm, lm) false (.inl none) (SH, mm, lm) false 0 0 ∧ ((Ct G M_X9_requireBell [.ref 0, .int x1] (SH, mm, lm) false (.inl none) (SH, mm, lm) false 0 0 ∧ J G M_X9_leastDelay 9 [(0, .ref 0), (1, .int x1)] [] (SH, mm, lm) false o z false a b) ∨ (∃ (E7 : String), Ct G M_X9_requireBell [.ref 0, .int x1] (SH, mm, lm) false (.inr E7) (SH, mm, lm) false 1 6 ∧ o = .inr E7 ∧ z = (SH, mm, lm) ∧ 1 ≤ a ∧ 6 ≤ b))) ∨ (∃ (E8 : String), Ct G M_X9_requireTower [.ref 0] (SH, mm, lm) false (.inr E8) (SH, mm, lm) false 1 6 ∧ o = .inr E8 ∧ z = (SH, mm, lm) ∧ 1 ≤ a ∧ 6 ≤ b))) :
    J G M_X9_leastDelay 0 [(0, .ref 0), (1, .int x1)] [] (SH, mm, lm) false o z false a b := by
  refine J_aload_n rfl (i := 0) rfl dX9_leastDelay_0 ?_
  rcases hw with ⟨hc1, hw⟩ | ⟨E8, hc1, rfl, rfl, h1, h6⟩
  · refine J_callV (as := []) (k := 0) (st := []) cal_X9_requireTower cai_X9_requireTower gw_733 ⟨by decide, by decide⟩ cnt_X9_requireTower sh_0 rfl rfl (Nat.le_of_ble_eq_true rfl) dX9_leastDelay_1 (Nat.zero_add _).symm (Nat.zero_add _).symm hc1 ?_
    refine J_aload_n rfl (i := 0) rfl dX9_leastDelay_4 ?_
    refine J_iload_n rfl (i := 1) rfl dX9_leastDelay_5 ?_
    rcases hw with ⟨hc4, hw⟩ | ⟨E7, hc4, rfl, rfl, h1, h6⟩
    · refine J_callV (as := [.int x1]) (k := 0) (st := []) cal_X9_requireBell cai_X9_requireBell gw_738 ⟨by decide, by decide⟩ cnt_X9_requireBell sh_0 rfl rfl (Nat.le_of_ble_eq_true rfl) dX9_leastDelay_6 (Nat.zero_add _).symm (Nat.zero_add _).symm hc4 ?_
      exact hw
    · exact J_callVx (ht := rfl) (as := [.int x1]) (k := 0) (st := []) cal_X9_requireBell cai_X9_requireBell gw_738 ⟨by decide, by decide⟩ cnt_X9_requireBell sh_0 rfl rfl (Nat.le_of_ble_eq_true rfl) dX9_leastDelay_6 hc4 h1 h6
  · exact J_callVx (ht := rfl) (as := []) (k := 0) (st := []) cal_X9_requireTower cai_X9_requireTower gw_733 ⟨by decide, by decide⟩ cnt_X9_requireTower sh_0 rfl rfl (Nat.le_of_ble_eq_true rfl) dX9_leastDelay_1 hc1 h1 h6
set_option maxRecDepth 20000 in
theorem bX9_leastDelay_9 {G : Gx} {mm : Nat → Nat → Int32} {lm : Nat → Int64} {x1 : Int32} {o : Ou} {z : Wd} {a b : Nat} (hw : ∃ j1 : Nat, x1 = nI j1 ∧ j1 < 8 ∧ ∃ (v3 : Int32), Ct G M_X0_hasChime [.ref (23 + j1)] (SH, mm, lm) false (.inl (some (.int v3))) (SH, mm, lm) false 0 0 ∧ ((v3 = 0) → o = .inl (some (.int (-2))) ∧ z = (SH, mm, lm)) ∧ ((¬ v3 = 0) → ∃ (v6 : Int32), Ct G M_X1_delayToLoudMinutes [.ref 42, .int x1] (SH, mm, lm) false (.inl (some (.int v6))) (SH, mm, lm) false 0 0 ∧ o = .inl (some (.int v6)) ∧ z = (SH, mm, lm))) :
    J G M_X9_leastDelay 9 [(0, .ref 0), (1, .int x1)] [] (SH, mm, lm) false o z false a b := by
  refine J_aload_n rfl (i := 0) rfl dX9_leastDelay_9 ?_
  refine J_getr kls_9 (q := 0) (k := 3) sh_0 (by decide) rfl gw_432 dX9_leastDelay_10 ?_
  refine J_iload_n rfl (i := 1) rfl dX9_leastDelay_13 ?_
  obtain ⟨j1, ej1, hj1, hw⟩ := hw
  refine J_aald (r := 23 + j1) sh_22 ej1 hj1 (by decide) (if_pos hj1) dX9_leastDelay_14 ?_
  obtain ⟨v3, hc2, hw⟩ := hw
  refine J_callV (as := []) (k := (23 + j1)) (st := []) cal_X0_hasChime cai_X0_hasChime gw_1223 ⟨by decide, by decide⟩ cnt_X0_hasChime (sh_b23 hj1) rfl rfl (Nat.le_of_ble_eq_true rfl) dX9_leastDelay_15 (Nat.zero_add _).symm (Nat.zero_add _).symm hc2 ?_
  refine J_if_eq (tgt := 32) dX9_leastDelay_18 (by decide) (fun hb8 => ?_) (fun hb8 => ?_)
  · replace hw := hw.1 hb8
    refine J_bipush (v := (-2)) (by decide) dX9_leastDelay_32 ?_
    exact J_fini (ty := .int) rfl rfl dX9_leastDelay_34 hw
  · replace hw := hw.2 hb8
    refine J_aload_n rfl (i := 0) rfl dX9_leastDelay_21 ?_
    refine J_getr kls_9 (q := 0) (k := 7) sh_0 (by decide) rfl gw_436 dX9_leastDelay_22 ?_
    refine J_iload_n rfl (i := 1) rfl dX9_leastDelay_25 ?_
    obtain ⟨v6, hc5, hw⟩ := hw
    refine J_callV (as := [.int x1]) (k := 42) (st := []) cal_X1_delayToLoudMinutes cai_X1_delayToLoudMinutes gw_1331 ⟨by decide, by decide⟩ cnt_X1_delayToLoudMinutes sh_42 rfl rfl (Nat.le_of_ble_eq_true rfl) dX9_leastDelay_26 (Nat.zero_add _).symm (Nat.zero_add _).symm hc5 ?_
    refine J_goto (tgt := 34) dX9_leastDelay_29 (by decide) ?_
    exact J_fini (ty := .int) rfl rfl dX9_leastDelay_34 hw
theorem dX9_ropeLength_0 : decode cX9_ropeLength 0 = .ok (.aload_n 0, 1) := by decide +kernel
theorem dX9_ropeLength_1 : decode cX9_ropeLength 1 = .ok (.invokevirtual 122, 3) := by decide +kernel
theorem dX9_ropeLength_4 : decode cX9_ropeLength 4 = .ok (.aload_n 0, 1) := by decide +kernel
theorem dX9_ropeLength_5 : decode cX9_ropeLength 5 = .ok (.iload_n 1, 1) := by decide +kernel
theorem dX9_ropeLength_6 : decode cX9_ropeLength 6 = .ok (.invokevirtual 125, 3) := by decide +kernel
theorem dX9_ropeLength_9 : decode cX9_ropeLength 9 = .ok (.aload_n 0, 1) := by decide +kernel
theorem dX9_ropeLength_10 : decode cX9_ropeLength 10 = .ok (.getfield 28, 3) := by decide +kernel
theorem dX9_ropeLength_13 : decode cX9_ropeLength 13 = .ok (.iload_n 1, 1) := by decide +kernel
theorem dX9_ropeLength_14 : decode cX9_ropeLength 14 = .ok (.aaload, 1) := by decide +kernel
theorem dX9_ropeLength_15 : decode cX9_ropeLength 15 = .ok (.invokevirtual 131, 3) := by decide +kernel
theorem dX9_ropeLength_18 : decode cX9_ropeLength 18 = .ok (.ifCond .eq 14, 3) := by decide +kernel
theorem dX9_ropeLength_21 : decode cX9_ropeLength 21 = .ok (.aload_n 0, 1) := by decide +kernel
theorem dX9_ropeLength_22 : decode cX9_ropeLength 22 = .ok (.getfield 66, 3) := by decide +kernel
theorem dX9_ropeLength_25 : decode cX9_ropeLength 25 = .ok (.iload_n 1, 1) := by decide +kernel
theorem dX9_ropeLength_26 : decode cX9_ropeLength 26 = .ok (.invokevirtual 298, 3) := by decide +kernel
theorem dX9_ropeLength_29 : decode cX9_ropeLength 29 = .ok (.goto 5, 3) := by decide +kernel
theorem dX9_ropeLength_32 : decode cX9_ropeLength 32 = .ok (.bipush (-2), 2) := by decide +kernel
theorem dX9_ropeLength_34 : decode cX9_ropeLength 34 = .ok (.ireturn, 1) := by decide +kernel
set_option maxRecDepth 20000 in
theorem bX9_ropeLength_0 {G : Gx} {mm : Nat → Nat → Int32} {lm : Nat → Int64} {x1 : Int32} {o : Ou} {z : Wd} {a b : Nat} (hw : ((Ct G M_X9_requireTower [.ref 0] (SH, mm, lm) false (.inl none) (SH, mm, lm) false 0 0 ∧ ((Ct G M_X9_requireBell [.ref 0, .int x1] (SH, mm, lm) false (.inl none) (SH, mm, lm) false 0 0 ∧ J G M_X9_ropeLength 9 [(0, .ref 0), (1, .int x1)] [] (SH, mm, lm) false o z false a b) ∨ (∃ (E7 : String), Ct G M_X9_requireBell [.ref 0, .int x1] (SH, mm, lm) false (.inr E7) (SH, mm, lm) false 1 6 ∧ o = .inr E7 ∧ z = (SH, mm, lm) ∧ 1 ≤ a ∧ 6 ≤ b))) ∨ (∃ (E8 : String), Ct G M_X9_requireTower [.ref 0] (SH, mm, lm) false (.inr E8) (SH, mm, lm) false 1 6 ∧ o = .inr E8 ∧ z = (SH, mm, lm) ∧ 1 ≤ a ∧ 6 ≤ b))) :
    J G M_X9_ropeLength 0 [(0, .ref 0), (1, .int x1)] [] (SH, mm, lm) false o z false a b := by
  refine J_aload_n rfl (i := 0) rfl dX9_ropeLength_0 ?_
  rcases hw with ⟨hc1, hw⟩ | ⟨E8, hc1, rfl, rfl, h1, h6⟩
  · refine J_callV (as := []) (k := 0) (st := []) cal_X9_requireTower cai_X9_requireTower gw_733 ⟨by decide, by decide⟩ cnt_X9_requireTower sh_0 rfl rfl (Nat.le_of_ble_eq_true rfl) dX9_ropeLength_1 (Nat.zero_add _).symm (Nat.zero_add _).symm hc1 ?_
    refine J_aload_n rfl (i := 0) rfl dX9_ropeLength_4 ?_
    refine J_iload_n rfl (i := 1) rfl dX9_ropeLength_5 ?_
    rcases hw with ⟨hc4, hw⟩ | ⟨E7, hc4, rfl, rfl, h1, h6⟩
    · refine J_callV (as := [.int x1]) (k := 0) (st := []) cal_X9_requireBell cai_X9_requireBell gw_738 ⟨by decide, by decide⟩ cnt_X9_requireBell sh_0 rfl rfl (Nat.le_of_ble_eq_true rfl) dX9_ropeLength_6 (Nat.zero_add _).symm (Nat.zero_add _).symm hc4 ?_
      exact hw
    · exact J_callVx (ht := rfl) (as := [.int x1]) (k := 0) (st := []) cal_X9_requireBell cai_X9_requireBell gw_738 ⟨by decide, by decide⟩ cnt_X9_requireBell sh_0 rfl rfl (Nat.le_of_ble_eq_true rfl) dX9_ropeLength_6 hc4 h1 h6
  · exact J_callVx (ht := rfl) (as := []) (k := 0) (st := []) cal_X9_requireTower cai_X9_requireTower gw_733 ⟨by decide, by decide⟩ cnt_X9_requireTower sh_0 rfl rfl (Nat.le_of_ble_eq_true rfl) dX9_ropeLength_1 hc1 h1 h6
set_option maxRecDepth 20000 in
theorem bX9_ropeLength_9 {G : Gx} {mm : Nat → Nat → Int32} {lm : Nat → Int64} {x1 : Int32} {o : Ou} {z : Wd} {a b : Nat} (hw : ∃ j1 : Nat, x1 = nI j1 ∧ j1 < 8 ∧ ∃ (v3 : Int32), Ct G M_X0_hangs [.ref (23 + j1)] (SH, mm, lm) false (.inl (some (.int v3))) (SH, mm, lm) false 0 0 ∧ ((v3 = 0) → o = .inl (some (.int (-2))) ∧ z = (SH, mm, lm)) ∧ ((¬ v3 = 0) → ∃ (v6 : Int32), Ct G M_X5_lengthFor [.ref 44, .int x1] (SH, mm, lm) false (.inl (some (.int v6))) (SH, mm, lm) false 0 0 ∧ o = .inl (some (.int v6)) ∧ z = (SH, mm, lm))) :
    J G M_X9_ropeLength 9 [(0, .ref 0), (1, .int x1)] [] (SH, mm, lm) false o z false a b := by
  refine J_aload_n rfl (i := 0) rfl dX9_ropeLength_9 ?_
  refine J_getr kls_9 (q := 0) (k := 3) sh_0 (by decide) rfl gw_432 dX9_ropeLength_10 ?_
  refine J_iload_n rfl (i := 1) rfl dX9_ropeLength_13 ?_
  obtain ⟨j1, ej1, hj1, hw⟩ := hw
  refine J_aald (r := 23 + j1) sh_22 ej1 hj1 (by decide) (if_pos hj1) dX9_ropeLength_14 ?_
  obtain ⟨v3, hc2, hw⟩ := hw
  refine J_callV (as := []) (k := (23 + j1)) (st := []) cal_X0_hangs cai_X0_hangs gw_746 ⟨by decide, by decide⟩ cnt_X0_hangs (sh_b23 hj1) rfl rfl (Nat.le_of_ble_eq_true rfl) dX9_ropeLength_15 (Nat.zero_add _).symm (Nat.zero_add _).symm hc2 ?_
  refine J_if_eq (tgt := 32) dX9_ropeLength_18 (by decide) (fun hb8 => ?_) (fun hb8 => ?_)
  · replace hw := hw.1 hb8
    refine J_bipush (v := (-2)) (by decide) dX9_ropeLength_32 ?_
    exact J_fini (ty := .int) rfl rfl dX9_ropeLength_34 hw
  · replace hw := hw.2 hb8
    refine J_aload_n rfl (i := 0) rfl dX9_ropeLength_21 ?_
    refine J_getr kls_9 (q := 0) (k := 8) sh_0 (by decide) rfl gw_437 dX9_ropeLength_22 ?_
    refine J_iload_n rfl (i := 1) rfl dX9_ropeLength_25 ?_
    obtain ⟨v6, hc5, hw⟩ := hw
    refine J_callV (as := [.int x1]) (k := 44) (st := []) cal_X5_lengthFor cai_X5_lengthFor gw_1346 ⟨by decide, by decide⟩ cnt_X5_lengthFor sh_44 rfl rfl (Nat.le_of_ble_eq_true rfl) dX9_ropeLength_26 (Nat.zero_add _).symm (Nat.zero_add _).symm hc5 ?_
    refine J_goto (tgt := 34) dX9_ropeLength_29 (by decide) ?_
    exact J_fini (ty := .int) rfl rfl dX9_ropeLength_34 hw
theorem dX9_fewestPieces_0 : decode cX9_fewestPieces 0 = .ok (.aload_n 0, 1) := by decide +kernel
theorem dX9_fewestPieces_1 : decode cX9_fewestPieces 1 = .ok (.invokevirtual 122, 3) := by decide +kernel
theorem dX9_fewestPieces_4 : decode cX9_fewestPieces 4 = .ok (.aload_n 0, 1) := by decide +kernel
theorem dX9_fewestPieces_5 : decode cX9_fewestPieces 5 = .ok (.getfield 66, 3) := by decide +kernel
theorem dX9_fewestPieces_8 : decode cX9_fewestPieces 8 = .ok (.invokevirtual 301, 3) := by decide +kernel
theorem dX9_fewestPieces_11 : decode cX9_fewestPieces 11 = .ok (.ifCond .eq 13, 3) := by decide +kernel
theorem dX9_fewestPieces_14 : decode cX9_fewestPieces 14 = .ok (.aload_n 0, 1) := by decide +kernel
theorem dX9_fewestPieces_15 : decode cX9_fewestPieces 15 = .ok (.getfield 66, 3) := by decide +kernel
theorem dX9_fewestPieces_18 : decode cX9_fewestPieces 18 = .ok (.invokevirtual 304, 3) := by decide +kernel
theorem dX9_fewestPieces_21 : decode cX9_fewestPieces 21 = .ok (.goto 5, 3) := by decide +kernel
theorem dX9_fewestPieces_24 : decode cX9_fewestPieces 24 = .ok (.bipush (-2), 2) := by decide +kernel
theorem dX9_fewestPieces_26 : decode cX9_fewestPieces 26 = .ok (.ireturn, 1) := by decide +kernel
set_option maxRecDepth 20000 in
theorem bX9_fewestPieces_0 {G : Gx} {mm : Nat → Nat → Int32} {lm : Nat → Int64}  {o : Ou} {z : Wd} {a b : Nat} (hw : ((Ct G M_X9_requireTower [.ref 0] (SH, mm, lm) false (.inl none) (SH, mm, lm) false 0 0 ∧ J G M_X9_fewestPieces 4 [(0, .ref 0)] [] (SH, mm, lm) false o z false a b) ∨ (∃ (E4 : String), Ct G M_X9_requireTower [.ref 0] (SH, mm, lm) false (.inr E4) (SH, mm, lm) false 1 6 ∧ o = .inr E4 ∧ z = (SH, mm, lm) ∧ 1 ≤ a ∧ 6 ≤ b))) :
    J G M_X9_fewestPieces 0 [(0, .ref 0)] [] (SH, mm, lm) false o z false a b := by
  refine J_aload_n rfl (i := 0) rfl dX9_fewestPieces_0 ?_
  rcases hw with ⟨hc1, hw⟩ | ⟨E4, hc1, rfl, rfl, h1, h6⟩
  · refine J_callV (as := []) (k := 0) (st := []) cal_X9_requireTower cai_X9_requireTower gw_733 ⟨by decide, by decide⟩ cnt_X9_requireTower sh_0 rfl rfl (Nat.le_of_ble_eq_true rfl) dX9_fewestPieces_1 (Nat.zero_add _).symm (Nat.zero_add _).symm hc1 ?_
    exact hw
  · exact J_callVx (ht := rfl) (as := []) (k := 0) (st := []) cal_X9_requireTower cai_X9_requireTower gw_733 ⟨by decide, by decide⟩ cnt_X9_requireTower sh_0 rfl rfl (Nat.le_of_ble_eq_true rfl) dX9_fewestPieces_1 hc1 h1 h6
set_option maxRecDepth 20000 in
theorem bX9_fewestPieces_4 {G : Gx} {mm : Nat → Nat → Int32} {lm : Nat → Int64}  {o : Ou} {z : Wd} {a b : Nat} (hw : ∃ (v2 : Int32) (m3 : Nat → Nat → Int32), Ct G M_X5_findCutting [.ref 44] (SH, mm, lm) false (.inl (some (.int v2))) (SH, m3, lm) false 0 0 ∧ ((v2 = 0) → o = .inl (some (.int (-2))) ∧ z = (SH, m3, lm)) ∧ ((¬ v2 = 0) → ∃ (v5 : Int32), Ct G M_X5_countUsedPieces [.ref 44] (SH, m3, lm) false (.inl (some (.int v5))) (SH, m3, lm) false 0 0 ∧ o = .inl (some (.int v5)) ∧ z = (SH, m3, lm))) :
    J G M_X9_fewestPieces 4 [(0, .ref 0)] [] (SH, mm, lm) false o z false a b := by
  refine J_aload_n rfl (i := 0) rfl dX9_fewestPieces_4 ?_
  refine J_getr kls_9 (q := 0) (k := 8) sh_0 (by decide) rfl gw_437 dX9_fewestPieces_5 ?_
  obtain ⟨v2, m3, hc1, hw⟩ := hw
  refine J_callV (as := []) (k := 44) (st := []) cal_X5_findCutting cai_X5_findCutting gw_1358 ⟨by decide, by decide⟩ cnt_X5_findCutting sh_44 rfl rfl (Nat.le_of_ble_eq_true rfl) dX9_fewestPieces_8 (Nat.zero_add _).symm (Nat.zero_add _).symm hc1 ?_
  refine J_if_eq (tgt := 24) dX9_fewestPieces_11 (by decide) (fun hb7 => ?_) (fun hb7 => ?_)
  · replace hw := hw.1 hb7
    refine J_bipush (v := (-2)) (by decide) dX9_fewestPieces_24 ?_
    exact J_fini (ty := .int) rfl rfl dX9_fewestPieces_26 hw
  · replace hw := hw.2 hb7
    refine J_aload_n rfl (i := 0) rfl dX9_fewestPieces_14 ?_
    refine J_getr kls_9 (q := 0) (k := 8) sh_0 (by decide) rfl gw_437 dX9_fewestPieces_15 ?_
    obtain ⟨v5, hc4, hw⟩ := hw
    refine J_callV (as := []) (k := 44) (st := []) cal_X5_countUsedPieces cai_X5_countUsedPieces gw_1378 ⟨by decide, by decide⟩ cnt_X5_countUsedPieces sh_44 rfl rfl (Nat.le_of_ble_eq_true rfl) dX9_fewestPieces_18 (Nat.zero_add _).symm (Nat.zero_add _).symm hc4 ?_
    refine J_goto (tgt := 26) dX9_fewestPieces_21 (by decide) ?_
    exact J_fini (ty := .int) rfl rfl dX9_fewestPieces_26 hw
theorem dX9_pieceOf_0 : decode cX9_pieceOf 0 = .ok (.aload_n 0, 1) := by decide +kernel
theorem dX9_pieceOf_1 : decode cX9_pieceOf 1 = .ok (.invokevirtual 122, 3) := by decide +kernel
theorem dX9_pieceOf_4 : decode cX9_pieceOf 4 = .ok (.aload_n 0, 1) := by decide +kernel
theorem dX9_pieceOf_5 : decode cX9_pieceOf 5 = .ok (.iload_n 1, 1) := by decide +kernel
theorem dX9_pieceOf_6 : decode cX9_pieceOf 6 = .ok (.invokevirtual 125, 3) := by decide +kernel
theorem dX9_pieceOf_9 : decode cX9_pieceOf 9 = .ok (.aload_n 0, 1) := by decide +kernel
theorem dX9_pieceOf_10 : decode cX9_pieceOf 10 = .ok (.getfield 28, 3) := by decide +kernel
theorem dX9_pieceOf_13 : decode cX9_pieceOf 13 = .ok (.iload_n 1, 1) := by decide +kernel
theorem dX9_pieceOf_14 : decode cX9_pieceOf 14 = .ok (.aaload, 1) := by decide +kernel
theorem dX9_pieceOf_15 : decode cX9_pieceOf 15 = .ok (.invokevirtual 131, 3) := by decide +kernel
theorem dX9_pieceOf_18 : decode cX9_pieceOf 18 = .ok (.ifCond .ne 6, 3) := by decide +kernel
theorem dX9_pieceOf_21 : decode cX9_pieceOf 21 = .ok (.bipush (-2), 2) := by decide +kernel
theorem dX9_pieceOf_23 : decode cX9_pieceOf 23 = .ok (.ireturn, 1) := by decide +kernel
theorem dX9_pieceOf_24 : decode cX9_pieceOf 24 = .ok (.aload_n 0, 1) := by decide +kernel
theorem dX9_pieceOf_25 : decode cX9_pieceOf 25 = .ok (.getfield 66, 3) := by decide +kernel
theorem dX9_pieceOf_28 : decode cX9_pieceOf 28 = .ok (.invokevirtual 301, 3) := by decide +kernel
theorem dX9_pieceOf_31 : decode cX9_pieceOf 31 = .ok (.ifCond .eq 14, 3) := by decide +kernel
theorem dX9_pieceOf_34 : decode cX9_pieceOf 34 = .ok (.aload_n 0, 1) := by decide +kernel
theorem dX9_pieceOf_35 : decode cX9_pieceOf 35 = .ok (.getfield 66, 3) := by decide +kernel
theorem dX9_pieceOf_38 : decode cX9_pieceOf 38 = .ok (.iload_n 1, 1) := by decide +kernel
theorem dX9_pieceOf_39 : decode cX9_pieceOf 39 = .ok (.invokevirtual 307, 3) := by decide +kernel
theorem dX9_pieceOf_42 : decode cX9_pieceOf 42 = .ok (.goto 5, 3) := by decide +kernel
theorem dX9_pieceOf_45 : decode cX9_pieceOf 45 = .ok (.bipush (-3), 2) := by decide +kernel
theorem dX9_pieceOf_47 : decode cX9_pieceOf 47 = .ok (.ireturn, 1) := by decide +kernel
set_option maxRecDepth 20000 in
theorem bX9_pieceOf_0 {G : Gx} {mm : Nat → Nat → Int32} {lm : Nat → Int64} {x1 : Int32} {o : Ou} {z : Wd} {a b : Nat} (hw : ((Ct G M_X9_requireTower [.ref 0] (SH, mm, lm) false (.inl none) (SH, mm, lm) false 0 0 ∧ ((Ct G M_X9_requireBell [.ref 0, .int x1] (SH, mm, lm) false (.inl none) (SH, mm, lm) false 0 0 ∧ J G M_X9_pieceOf 9 [(0, .ref 0), (1, .int x1)] [] (SH, mm, lm) false o z false a b) ∨ (∃ (E7 : String), Ct G M_X9_requireBell [.ref 0, .int x1] (SH, mm, lm) false (.inr E7) (SH, mm, lm) false 1 6 ∧ o = .inr E7 ∧ z = (SH, mm, lm) ∧ 1 ≤ a ∧ 6 ≤ b))) ∨ (∃ (E8 : String), Ct G M_X9_requireTower [.ref 0] (SH, mm, lm) false (.inr E8) (SH, mm, lm) false 1 6 ∧ o = .inr E8 ∧ z = (SH, mm, lm) ∧ 1 ≤ a ∧ 6 ≤ b))) :
    J G M_X9_pieceOf 0 [(0, .ref 0), (1, .int x1)] [] (SH, mm, lm) false o z false a b := by
  refine J_aload_n rfl (i := 0) rfl dX9_pieceOf_0 ?_
  rcases hw with ⟨hc1, hw⟩ | ⟨E8, hc1, rfl, rfl, h1, h6⟩
  · refine J_callV (as := []) (k := 0) (st := []) cal_X9_requireTower cai_X9_requireTower gw_733 ⟨by decide, by decide⟩ cnt_X9_requireTower sh_0 rfl rfl (Nat.le_of_ble_eq_true rfl) dX9_pieceOf_1 (Nat.zero_add _).symm (Nat.zero_add _).symm hc1 ?_
    refine J_aload_n rfl (i := 0) rfl dX9_pieceOf_4 ?_
    refine J_iload_n rfl (i := 1) rfl dX9_pieceOf_5 ?_
    rcases hw with ⟨hc4, hw⟩ | ⟨E7, hc4, rfl, rfl, h1, h6⟩
    · refine J_callV (as := [.int x1]) (k := 0) (st := []) cal_X9_requireBell cai_X9_requireBell gw_738 ⟨by decide, by decide⟩ cnt_X9_requireBell sh_0 rfl rfl (Nat.le_of_ble_eq_true rfl) dX9_pieceOf_6 (Nat.zero_add _).symm (Nat.zero_add _).symm hc4 ?_
      exact hw
    · exact J_callVx (ht := rfl) (as := [.int x1]) (k := 0) (st := []) cal_X9_requireBell cai_X9_requireBell gw_738 ⟨by decide, by decide⟩ cnt_X9_requireBell sh_0 rfl rfl (Nat.le_of_ble_eq_true rfl) dX9_pieceOf_6 hc4 h1 h6
  · exact J_callVx (ht := rfl) (as := []) (k := 0) (st := []) cal_X9_requireTower cai_X9_requireTower gw_733 ⟨by decide, by decide⟩ cnt_X9_requireTower sh_0 rfl rfl (Nat.le_of_ble_eq_true rfl) dX9_pieceOf_1 hc1 h1 h6
set_option maxRecDepth 20000 in
theorem bX9_pieceOf_9 {G : Gx} {mm : Nat → Nat → Int32} {lm : Nat → Int64} {x1 : Int32} {o : Ou} {z : Wd} {a b : Nat} (hw : ∃ j1 : Nat, x1 = nI j1 ∧ j1 < 8 ∧ ∃ (v3 : Int32), Ct G M_X0_hangs [.ref (23 + j1)] (SH, mm, lm) false (.inl (some (.int v3))) (SH, mm, lm) false 0 0 ∧ ((¬ v3 = 0) → ∃ (v6 : Int32) (m7 : Nat → Nat → Int32), Ct G M_X5_findCutting [.ref 44] (SH, mm, lm) false (.inl (some (.int v6))) (SH, m7, lm) false 0 0 ∧ ((v6 = 0) → o = .inl (some (.int (-3))) ∧ z = (SH, m7, lm)) ∧ ((¬ v6 = 0) → ∃ (v9 : Int32), Ct G M_X5_pieceFor [.ref 44, .int x1] (SH, m7, lm) false (.inl (some (.int v9))) (SH, m7, lm) false 0 0 ∧ o = .inl (some (.int v9)) ∧ z = (SH, m7, lm))) ∧ ((v3 = 0) → o = .inl (some (.int (-2))) ∧ z = (SH, mm, lm))) :
    J G M_X9_pieceOf 9 [(0, .ref 0), (1, .int x1)] [] (SH, mm, lm) false o z false a b := by
  refine J_aload_n rfl (i := 0) rfl dX9_pieceOf_9 ?_
  refine J_getr kls_9 (q := 0) (k := 3) sh_0 (by decide) rfl gw_432 dX9_pieceOf_10 ?_
  refine J_iload_n rfl (i := 1) rfl dX9_pieceOf_13 ?_
  obtain ⟨j1, ej1, hj1, hw⟩ := hw
  refine J_aald (r := 23 + j1) sh_22 ej1 hj1 (by decide) (if_pos hj1) dX9_pieceOf_14 ?_
  obtain ⟨v3, hc2, hw⟩ := hw
  refine J_callV (as := []) (k := (23 + j1)) (st := []) cal_X0_hangs cai_X0_hangs gw_746 ⟨by decide, by decide⟩ cnt_X0_hangs (sh_b23 hj1) rfl rfl (Nat.le_of_ble_eq_true rfl) dX9_pieceOf_15 (Nat.zero_add _).symm (Nat.zero_add _).symm hc2 ?_
  refine J_if_ne (tgt := 24) dX9_pieceOf_18 (by decide) (fun hb12 => ?_) (fun hb12 => ?_)
  · replace hw := hw.1 hb12
    refine J_aload_n rfl (i := 0) rfl dX9_pieceOf_24 ?_
    refine J_getr kls_9 (q := 0) (k := 8) sh_0 (by decide) rfl gw_437 dX9_pieceOf_25 ?_
    obtain ⟨v6, m7, hc5, hw⟩ := hw
    refine J_callV (as := []) (k := 44) (st := []) cal_X5_findCutting cai_X5_findCutting gw_1358 ⟨by decide, by decide⟩ cnt_X5_findCutting sh_44 rfl rfl (Nat.le_of_ble_eq_true rfl) dX9_pieceOf_28 (Nat.zero_add _).symm (Nat.zero_add _).symm hc5 ?_
    refine J_if_eq (tgt := 45) dX9_pieceOf_31 (by decide) (fun hb11 => ?_) (fun hb11 => ?_)
    · replace hw := hw.1 hb11
      refine J_bipush (v := (-3)) (by decide) dX9_pieceOf_45 ?_
      exact J_fini (ty := .int) rfl rfl dX9_pieceOf_47 hw
    · replace hw := hw.2 hb11
      refine J_aload_n rfl (i := 0) rfl dX9_pieceOf_34 ?_
      refine J_getr kls_9 (q := 0) (k := 8) sh_0 (by decide) rfl gw_437 dX9_pieceOf_35 ?_
      refine J_iload_n rfl (i := 1) rfl dX9_pieceOf_38 ?_
      obtain ⟨v9, hc8, hw⟩ := hw
      refine J_callV (as := [.int x1]) (k := 44) (st := []) cal_X5_pieceFor cai_X5_pieceFor gw_1389 ⟨by decide, by decide⟩ cnt_X5_pieceFor sh_44 rfl rfl (Nat.le_of_ble_eq_true rfl) dX9_pieceOf_39 (Nat.zero_add _).symm (Nat.zero_add _).symm hc8 ?_
      refine J_goto (tgt := 47) dX9_pieceOf_42 (by decide) ?_
      exact J_fini (ty := .int) rfl rfl dX9_pieceOf_47 hw
  · replace hw := hw.2 hb12
    refine J_bipush (v := (-2)) (by decide) dX9_pieceOf_21 ?_
    exact J_fini (ty := .int) rfl rfl dX9_pieceOf_23 hw
theorem dX9_waste_0 : decode cX9_waste 0 = .ok (.aload_n 0, 1) := by decide +kernel
theorem dX9_waste_1 : decode cX9_waste 1 = .ok (.invokevirtual 122, 3) := by decide +kernel
theorem dX9_waste_4 : decode cX9_waste 4 = .ok (.aload_n 0, 1) := by decide +kernel
theorem dX9_waste_5 : decode cX9_waste 5 = .ok (.getfield 66, 3) := by decide +kernel
theorem dX9_waste_8 : decode cX9_waste 8 = .ok (.invokevirtual 301, 3) := by decide +kernel
theorem dX9_waste_11 : decode cX9_waste 11 = .ok (.ifCond .eq 13, 3) := by decide +kernel
theorem dX9_waste_14 : decode cX9_waste 14 = .ok (.aload_n 0, 1) := by decide +kernel
theorem dX9_waste_15 : decode cX9_waste 15 = .ok (.getfield 66, 3) := by decide +kernel
theorem dX9_waste_18 : decode cX9_waste 18 = .ok (.invokevirtual 310, 3) := by decide +kernel
theorem dX9_waste_21 : decode cX9_waste 21 = .ok (.goto 5, 3) := by decide +kernel
theorem dX9_waste_24 : decode cX9_waste 24 = .ok (.bipush (-2), 2) := by decide +kernel
theorem dX9_waste_26 : decode cX9_waste 26 = .ok (.ireturn, 1) := by decide +kernel
set_option maxRecDepth 20000 in
theorem bX9_waste_0 {G : Gx} {mm : Nat → Nat → Int32} {lm : Nat → Int64}  {o : Ou} {z : Wd} {a b : Nat} (hw : ((Ct G M_X9_requireTower [.ref 0] (SH, mm, lm) false (.inl none) (SH, mm, lm) false 0 0 ∧ J G M_X9_waste 4 [(0, .ref 0)] [] (SH, mm, lm) false o z false a b) ∨ (∃ (E4 : String), Ct G M_X9_requireTower [.ref 0] (SH, mm, lm) false (.inr E4) (SH, mm, lm) false 1 6 ∧ o = .inr E4 ∧ z = (SH, mm, lm) ∧ 1 ≤ a ∧ 6 ≤ b))) :
    J G M_X9_waste 0 [(0, .ref 0)] [] (SH, mm, lm) false o z false a b := by
  refine J_aload_n rfl (i := 0) rfl dX9_waste_0 ?_
  rcases hw with ⟨hc1, hw⟩ | ⟨E4, hc1, rfl, rfl, h1, h6⟩
  · refine J_callV (as := []) (k := 0) (st := []) cal_X9_requireTower cai_X9_requireTower gw_733 ⟨by decide, by decide⟩ cnt_X9_requireTower sh_0 rfl rfl (Nat.le_of_ble_eq_true rfl) dX9_waste_1 (Nat.zero_add _).symm (Nat.zero_add _).symm hc1 ?_
    exact hw
  · exact J_callVx (ht := rfl) (as := []) (k := 0) (st := []) cal_X9_requireTower cai_X9_requireTower gw_733 ⟨by decide, by decide⟩ cnt_X9_requireTower sh_0 rfl rfl (Nat.le_of_ble_eq_true rfl) dX9_waste_1 hc1 h1 h6
set_option maxRecDepth 20000 in
theorem bX9_waste_4 {G : Gx} {mm : Nat → Nat → Int32} {lm : Nat → Int64}  {o : Ou} {z : Wd} {a b : Nat} (hw : ∃ (v2 : Int32) (m3 : Nat → Nat → Int32), Ct G M_X5_findCutting [.ref 44] (SH, mm, lm) false (.inl (some (.int v2))) (SH, m3, lm) false 0 0 ∧ ((v2 = 0) → o = .inl (some (.int (-2))) ∧ z = (SH, m3, lm)) ∧ ((¬ v2 = 0) → ∃ (v5 : Int32), Ct G M_X5_lengthLeft [.ref 44] (SH, m3, lm) false (.inl (some (.int v5))) (SH, m3, lm) false 0 0 ∧ o = .inl (some (.int v5)) ∧ z = (SH, m3, lm))) :
    J G M_X9_waste 4 [(0, .ref 0)] [] (SH, mm, lm) false o z false a b := by
  refine J_aload_n rfl (i := 0) rfl dX9_waste_4 ?_
  refine J_getr kls_9 (q := 0) (k := 8) sh_0 (by decide) rfl gw_437 dX9_waste_5 ?_
  obtain ⟨v2, m3, hc1, hw⟩ := hw
  refine J_callV (as := []) (k := 44) (st := []) cal_X5_findCutting cai_X5_findCutting gw_1358 ⟨by decide, by decide⟩ cnt_X5_findCutting sh_44 rfl rfl (Nat.le_of_ble_eq_true rfl) dX9_waste_8 (Nat.zero_add _).symm (Nat.zero_add _).symm hc1 ?_
  refine J_if_eq (tgt := 24) dX9_waste_11 (by decide) (fun hb7 => ?_) (fun hb7 => ?_)
  · replace hw := hw.1 hb7
    refine J_bipush (v := (-2)) (by decide) dX9_waste_24 ?_
    exact J_fini (ty := .int) rfl rfl dX9_waste_26 hw
  · replace hw := hw.2 hb7
    refine J_aload_n rfl (i := 0) rfl dX9_waste_14 ?_
    refine J_getr kls_9 (q := 0) (k := 8) sh_0 (by decide) rfl gw_437 dX9_waste_15 ?_
    obtain ⟨v5, hc4, hw⟩ := hw
    refine J_callV (as := []) (k := 44) (st := []) cal_X5_lengthLeft cai_X5_lengthLeft gw_1400 ⟨by decide, by decide⟩ cnt_X5_lengthLeft sh_44 rfl rfl (Nat.le_of_ble_eq_true rfl) dX9_waste_18 (Nat.zero_add _).symm (Nat.zero_add _).symm hc4 ?_
    refine J_goto (tgt := 26) dX9_waste_21 (by decide) ?_
    exact J_fini (ty := .int) rfl rfl dX9_waste_26 hw
theorem dX9_extraPiece_0 : decode cX9_extraPiece 0 = .ok (.aload_n 0, 1) := by decide +kernel
theorem dX9_extraPiece_1 : decode cX9_extraPiece 1 = .ok (.invokevirtual 122, 3) := by decide +kernel
theorem dX9_extraPiece_4 : decode cX9_extraPiece 4 = .ok (.aload_n 0, 1) := by decide +kernel
theorem dX9_extraPiece_5 : decode cX9_extraPiece 5 = .ok (.getfield 66, 3) := by decide +kernel
theorem dX9_extraPiece_8 : decode cX9_extraPiece 8 = .ok (.invokevirtual 301, 3) := by decide +kernel
theorem dX9_extraPiece_11 : decode cX9_extraPiece 11 = .ok (.ifCond .eq 7, 3) := by decide +kernel
theorem dX9_extraPiece_14 : decode cX9_extraPiece 14 = .ok (.iconst 0, 1) := by decide +kernel
theorem dX9_extraPiece_15 : decode cX9_extraPiece 15 = .ok (.goto 10, 3) := by decide +kernel
theorem dX9_extraPiece_18 : decode cX9_extraPiece 18 = .ok (.aload_n 0, 1) := by decide +kernel
theorem dX9_extraPiece_19 : decode cX9_extraPiece 19 = .ok (.getfield 66, 3) := by decide +kernel
theorem dX9_extraPiece_22 : decode cX9_extraPiece 22 = .ok (.invokevirtual 313, 3) := by decide +kernel
theorem dX9_extraPiece_25 : decode cX9_extraPiece 25 = .ok (.ireturn, 1) := by decide +kernel
set_option maxRecDepth 20000 in
theorem bX9_extraPiece_0 {G : Gx} {mm : Nat → Nat → Int32} {lm : Nat → Int64}  {o : Ou} {z : Wd} {a b : Nat} (hw : ((Ct G M_X9_requireTower [.ref 0] (SH, mm, lm) false (.inl none) (SH, mm, lm) false 0 0 ∧ J G M_X9_extraPiece 4 [(0, .ref 0)] [] (SH, mm, lm) false o z false a b) ∨ (∃ (E4 : String), Ct G M_X9_requireTower [.ref 0] (SH, mm, lm) false (.inr E4) (SH, mm, lm) false 1 6 ∧ o = .inr E4 ∧ z = (SH, mm, lm) ∧ 1 ≤ a ∧ 6 ≤ b))) :
    J G M_X9_extraPiece 0 [(0, .ref 0)] [] (SH, mm, lm) false o z false a b := by
  refine J_aload_n rfl (i := 0) rfl dX9_extraPiece_0 ?_
  rcases hw with ⟨hc1, hw⟩ | ⟨E4, hc1, rfl, rfl, h1, h6⟩
  · refine J_callV (as := []) (k := 0) (st := []) cal_X9_requireTower cai_X9_requireTower gw_733 ⟨by decide, by decide⟩ cnt_X9_requireTower sh_0 rfl rfl (Nat.le_of_ble_eq_true rfl) dX9_extraPiece_1 (Nat.zero_add _).symm (Nat.zero_add _).symm hc1 ?_
    exact hw
  · exact J_callVx (ht := rfl) (as := []) (k := 0) (st := []) cal_X9_requireTower cai_X9_requireTower gw_733 ⟨by decide, by decide⟩ cnt_X9_requireTower sh_0 rfl rfl (Nat.le_of_ble_eq_true rfl) dX9_extraPiece_1 hc1 h1 h6
set_option maxRecDepth 20000 in
theorem bX9_extraPiece_4 {G : Gx} {mm : Nat → Nat → Int32} {lm : Nat → Int64}  {o : Ou} {z : Wd} {a b : Nat} (hw : ∃ (v2 : Int32) (m3 : Nat → Nat → Int32), Ct G M_X5_findCutting [.ref 44] (SH, mm, lm) false (.inl (some (.int v2))) (SH, m3, lm) false 0 0 ∧ ((v2 = 0) → ∃ (v5 : Int32), Ct G M_X5_leastMissingLength [.ref 44] (SH, m3, lm) false (.inl (some (.int v5))) (SH, m3, lm) false 0 0 ∧ o = .inl (some (.int v5)) ∧ z = (SH, m3, lm)) ∧ ((¬ v2 = 0) → o = .inl (some (.int 0)) ∧ z = (SH, m3, lm))) :
    J G M_X9_extraPiece 4 [(0, .ref 0)] [] (SH, mm, lm) false o z false a b := by
  refine J_aload_n rfl (i := 0) rfl dX9_extraPiece_4 ?_
  refine J_getr kls_9 (q := 0) (k := 8) sh_0 (by decide) rfl gw_437 dX9_extraPiece_5 ?_
  obtain ⟨v2, m3, hc1, hw⟩ := hw
  refine J_callV (as := []) (k := 44) (st := []) cal_X5_findCutting cai_X5_findCutting gw_1358 ⟨by decide, by decide⟩ cnt_X5_findCutting sh_44 rfl rfl (Nat.le_of_ble_eq_true rfl) dX9_extraPiece_8 (Nat.zero_add _).symm (Nat.zero_add _).symm hc1 ?_
  refine J_if_eq (tgt := 18) dX9_extraPiece_11 (by decide) (fun hb7 => ?_) (fun hb7 => ?_)
  · replace hw := hw.1 hb7
    refine J_aload_n rfl (i := 0) rfl dX9_extraPiece_18 ?_
    refine J_getr kls_9 (q := 0) (k := 8) sh_0 (by decide) rfl gw_437 dX9_extraPiece_19 ?_
    obtain ⟨v5, hc4, hw⟩ := hw
    refine J_callV (as := []) (k := 44) (st := []) cal_X5_leastMissingLength cai_X5_leastMissingLength gw_1412 ⟨by decide, by decide⟩ cnt_X5_leastMissingLength sh_44 rfl rfl (Nat.le_of_ble_eq_true rfl) dX9_extraPiece_22 (Nat.zero_add _).symm (Nat.zero_add _).symm hc4 ?_
    exact J_fini (ty := .int) rfl rfl dX9_extraPiece_25 hw
  · replace hw := hw.2 hb7
    refine J_iconst (v := 0) (by decide) dX9_extraPiece_14 ?_
    refine J_goto (tgt := 25) dX9_extraPiece_15 (by decide) ?_
    exact J_fini (ty := .int) rfl rfl dX9_extraPiece_25 hw
theorem dX9_undo_0 : decode cX9_undo 0 = .ok (.aload_n 0, 1) := by decide +kernel
theorem dX9_undo_1 : decode cX9_undo 1 = .ok (.invokevirtual 122, 3) := by decide +kernel
theorem dX9_undo_4 : decode cX9_undo 4 = .ok (.aload_n 0, 1) := by decide +kernel
theorem dX9_undo_5 : decode cX9_undo 5 = .ok (.getfield 73, 3) := by decide +kernel
theorem dX9_undo_8 : decode cX9_undo 8 = .ok (.getfield 316, 3) := by decide +kernel
theorem dX9_undo_11 : decode cX9_undo 11 = .ok (.ifCond .ne 6, 3) := by decide +kernel
theorem dX9_undo_14 : decode cX9_undo 14 = .ok (.bipush (-2), 2) := by decide +kernel
theorem dX9_undo_16 : decode cX9_undo 16 = .ok (.ireturn, 1) := by decide +kernel
theorem dX9_undo_17 : decode cX9_undo 17 = .ok (.aload_n 0, 1) := by decide +kernel
theorem dX9_undo_18 : decode cX9_undo 18 = .ok (.getfield 73, 3) := by decide +kernel
theorem dX9_undo_21 : decode cX9_undo 21 = .ok (.aload_n 0, 1) := by decide +kernel
theorem dX9_undo_22 : decode cX9_undo 22 = .ok (.getfield 28, 3) := by decide +kernel
theorem dX9_undo_25 : decode cX9_undo 25 = .ok (.invokevirtual 319, 3) := by decide +kernel
theorem dX9_undo_28 : decode cX9_undo 28 = .ok (.aload_n 0, 1) := by decide +kernel
theorem dX9_undo_29 : decode cX9_undo 29 = .ok (.getfield 73, 3) := by decide +kernel
theorem dX9_undo_32 : decode cX9_undo 32 = .ok (.getfield 316, 3) := by decide +kernel
theorem dX9_undo_35 : decode cX9_undo 35 = .ok (.ireturn, 1) := by decide +kernel
set_option maxRecDepth 20000 in
theorem bX9_undo_0 {G : Gx} {mm : Nat → Nat → Int32} {lm : Nat → Int64}  {o : Ou} {z : Wd} {a b : Nat} (hw : ((Ct G M_X9_requireTower [.ref 0] (SH, mm, lm) false (.inl none) (SH, mm, lm) false 0 0 ∧ J G M_X9_undo 4 [(0, .ref 0)] [] (SH, mm, lm) false o z false a b) ∨ (∃ (E4 : String), Ct G M_X9_requireTower [.ref 0] (SH, mm, lm) false (.inr E4) (SH, mm, lm) false 1 6 ∧ o = .inr E4 ∧ z = (SH, mm, lm) ∧ 1 ≤ a ∧ 6 ≤ b))) :
    J G M_X9_undo 0 [(0, .ref 0)] [] (SH, mm, lm) false o z false a b := by
  refine J_aload_n rfl (i := 0) rfl dX9_undo_0 ?_
  rcases hw with ⟨hc1, hw⟩ | ⟨E4, hc1, rfl, rfl, h1, h6⟩
  · refine J_callV (as := []) (k := 0) (st := []) cal_X9_requireTower cai_X9_requireTower gw_733 ⟨by decide, by decide⟩ cnt_X9_requireTower sh_0 rfl rfl (Nat.le_of_ble_eq_true rfl) dX9_undo_1 (Nat.zero_add _).symm (Nat.zero_add _).symm hc1 ?_
    exact hw
  · exact J_callVx (ht := rfl) (as := []) (k := 0) (st := []) cal_X9_requireTower cai_X9_requireTower gw_733 ⟨by decide, by decide⟩ cnt_X9_requireTower sh_0 rfl rfl (Nat.le_of_ble_eq_true rfl) dX9_undo_1 hc1 h1 h6
set_option maxRecDepth 20000 in
theorem bX9_undo_4 {G : Gx} {mm : Nat → Nat → Int32} {lm : Nat → Int64}  {o : Ou} {z : Wd} {a b : Nat} (hw : ((¬ (mm 48 3) = 0) → ∃ (m3 : Nat → Nat → Int32), Ct G M_X3_stepBack [.ref 48, .ref 22] (SH, mm, lm) false (.inl none) (SH, m3, lm) false 0 0 ∧ o = .inl (some (.int (m3 48 3))) ∧ z = (SH, m3, lm)) ∧ (((mm 48 3) = 0) → o = .inl (some (.int (-2))) ∧ z = (SH, mm, lm))) :
    J G M_X9_undo 4 [(0, .ref 0)] [] (SH, mm, lm) false o z false a b := by
  refine J_aload_n rfl (i := 0) rfl dX9_undo_4 ?_
  refine J_getr kls_9 (q := 0) (k := 9) sh_0 (by decide) rfl gw_438 dX9_undo_5 ?_
  refine J_geti kls_3 (q := 48) (k := 3) sh_48 (by decide) rfl gw_419 dX9_undo_8 ?_
  refine J_if_ne (tgt := 17) dX9_undo_11 (by decide) (fun hb4 => ?_) (fun hb4 => ?_)
  · replace hw := hw.1 hb4
    refine J_aload_n rfl (i := 0) rfl dX9_undo_17 ?_
    refine J_getr kls_9 (q := 0) (k := 9) sh_0 (by decide) rfl gw_438 dX9_undo_18 ?_
    refine J_aload_n rfl (i := 0) rfl dX9_undo_21 ?_
    refine J_getr kls_9 (q := 0) (k := 3) sh_0 (by decide) rfl gw_432 dX9_undo_22 ?_
    obtain ⟨m3, hc1, hw⟩ := hw
    refine J_callV (as := [.ref 22]) (k := 48) (st := []) cal_X3_stepBack cai_X3_stepBack gw_1423 ⟨by decide, by decide⟩ cnt_X3_stepBack sh_48 rfl rfl (Nat.le_of_ble_eq_true rfl) dX9_undo_25 (Nat.zero_add _).symm (Nat.zero_add _).symm hc1 ?_
    refine J_aload_n rfl (i := 0) rfl dX9_undo_28 ?_
    refine J_getr kls_9 (q := 0) (k := 9) sh_0 (by decide) rfl gw_438 dX9_undo_29 ?_
    refine J_geti kls_3 (q := 48) (k := 3) sh_48 (by decide) rfl gw_419 dX9_undo_32 ?_
    exact J_fini (ty := .int) rfl rfl dX9_undo_35 hw
  · replace hw := hw.2 hb4
    refine J_bipush (v := (-2)) (by decide) dX9_undo_14 ?_
    exact J_fini (ty := .int) rfl rfl dX9_undo_16 hw
theorem dX9_rememberBell_0 : decode cX9_rememberBell 0 = .ok (.aload_n 0, 1) := by decide +kernel
theorem dX9_rememberBell_1 : decode cX9_rememberBell 1 = .ok (.getfield 73, 3) := by decide +kernel
theorem dX9_rememberBell_4 : decode cX9_rememberBell 4 = .ok (.iload_n 1, 1) := by decide +kernel
theorem dX9_rememberBell_5 : decode cX9_rememberBell 5 = .ok (.aload_n 0, 1) := by decide +kernel
theorem dX9_rememberBell_6 : decode cX9_rememberBell 6 = .ok (.getfield 28, 3) := by decide +kernel
theorem dX9_rememberBell_9 : decode cX9_rememberBell 9 = .ok (.iload_n 1, 1) := by decide +kernel
theorem dX9_rememberBell_10 : decode cX9_rememberBell 10 = .ok (.aaload, 1) := by decide +kernel
theorem dX9_rememberBell_11 : decode cX9_rememberBell 11 = .ok (.invokevirtual 323, 3) := by decide +kernel
theorem dX9_rememberBell_14 : decode cX9_rememberBell 14 = .ok (.return_, 1) := by decide +kernel
set_option maxRecDepth 20000 in
theorem bX9_rememberBell_0 {G : Gx} {mm : Nat → Nat → Int32} {lm : Nat → Int64} {x1 : Int32} {o : Ou} {z : Wd} {a b : Nat} (hw : ∃ j1 : Nat, x1 = nI j1 ∧ j1 < 8 ∧ ∃ (m4 : Nat → Nat → Int32), Ct G M_X3_push [.ref 48, .int x1, .ref (23 + j1)] (SH, mm, lm) false (.inl none) (SH, m4, lm) false 0 0 ∧ o = .inl none ∧ z = (SH, m4, lm)) :
    J G M_X9_rememberBell 0 [(0, .ref 0), (1, .int x1)] [] (SH, mm, lm) false o z false a b := by
  refine J_aload_n rfl (i := 0) rfl dX9_rememberBell_0 ?_
  refine J_getr kls_9 (q := 0) (k := 9) sh_0 (by decide) rfl gw_438 dX9_rememberBell_1 ?_
  refine J_iload_n rfl (i := 1) rfl dX9_rememberBell_4 ?_
  refine J_aload_n rfl (i := 0) rfl dX9_rememberBell_5 ?_
  refine J_getr kls_9 (q := 0) (k := 3) sh_0 (by decide) rfl gw_432 dX9_rememberBell_6 ?_
  refine J_iload_n rfl (i := 1) rfl dX9_rememberBell_9 ?_
  obtain ⟨j1, ej1, hj1, hw⟩ := hw
  refine J_aald (r := 23 + j1) sh_22 ej1 hj1 (by decide) (if_pos hj1) dX9_rememberBell_10 ?_
  obtain ⟨m4, hc2, hw⟩ := hw
  refine J_callV (as := [.int x1, .ref (23 + j1)]) (k := 48) (st := []) cal_X3_push cai_X3_push gw_781 ⟨by decide, by decide⟩ cnt_X3_push sh_48 rfl rfl (Nat.le_of_ble_eq_true rfl) dX9_rememberBell_11 (Nat.zero_add _).symm (Nat.zero_add _).symm hc2 ?_
  exact J_finv rfl dX9_rememberBell_14 hw
theorem dX9_requireTower_0 : decode cX9_requireTower 0 = .ok (.aload_n 0, 1) := by decide +kernel
theorem dX9_requireTower_1 : decode cX9_requireTower 1 = .ok (.getfield 77, 3) := by decide +kernel
theorem dX9_requireTower_4 : decode cX9_requireTower 4 = .ok (.ifCond .ne 14, 3) := by decide +kernel
theorem dX9_requireTower_7 : decode cX9_requireTower 7 = .ok (.new 85, 3) := by decide +kernel
theorem dX9_requireTower_10 : decode cX9_requireTower 10 = .ok (.dup, 1) := by decide +kernel
theorem dX9_requireTower_11 : decode cX9_requireTower 11 = .ok (.ldc_w 327, 3) := by decide +kernel
theorem dX9_requireTower_14 : decode cX9_requireTower 14 = .ok (.invokespecial 89, 3) := by decide +kernel
theorem dX9_requireTower_17 : decode cX9_requireTower 17 = .ok (.athrow, 1) := by decide +kernel
theorem dX9_requireTower_18 : decode cX9_requireTower 18 = .ok (.return_, 1) := by decide +kernel
set_option maxRecDepth 20000 in
theorem bX9_requireTower_0 {G : Gx} {mm : Nat → Nat → Int32} {lm : Nat → Int64}  {o : Ou} {z : Wd} {a b : Nat} (hw : ((¬ (mm 0 10) = 0) → o = .inl none ∧ z = (SH, mm, lm)) ∧ (((mm 0 10) = 0) → o = .inr "java/lang/IllegalStateException" ∧ z = (SH, mm, lm) ∧ 1 ≤ a ∧ 6 ≤ b)) :
    J G M_X9_requireTower 0 [(0, .ref 0)] [] (SH, mm, lm) false o z false a b := by
  refine J_aload_n rfl (i := 0) rfl dX9_requireTower_0 ?_
  refine J_geti kls_9 (q := 0) (k := 10) sh_0 (by decide) rfl gw_439 dX9_requireTower_1 ?_
  refine J_if_ne (tgt := 18) dX9_requireTower_4 (by decide) (fun hb1 => ?_) (fun hb1 => ?_)
  · replace hw := hw.1 hb1
    exact J_finv rfl dX9_requireTower_18 hw
  · replace hw := hw.2 hb1
    obtain ⟨rfl, rfl, h1, h6⟩ := hw
    exact J_throwSW rfl (by decide +kernel) (by decide +kernel) gw_628 gw_122 st_RX9_327 tha_RX9_89 thb_RX9_89 ca_RX9_89 (Nat.le_of_ble_eq_true rfl) (by decide) (by decide) h1 h6 dX9_requireTower_7 dX9_requireTower_10 dX9_requireTower_11 dX9_requireTower_14 dX9_requireTower_17
theorem dX9_requireBell_0 : decode cX9_requireBell 0 = .ok (.iload_n 1, 1) := by decide +kernel
theorem dX9_requireBell_1 : decode cX9_requireBell 1 = .ok (.iconst 0, 1) := by decide +kernel
theorem dX9_requireBell_2 : decode cX9_requireBell 2 = .ok (.aload_n 0, 1) := by decide +kernel
theorem dX9_requireBell_3 : decode cX9_requireBell 3 = .ok (.getfield 19, 3) := by decide +kernel
theorem dX9_requireBell_6 : decode cX9_requireBell 6 = .ok (.getfield 117, 3) := by decide +kernel
theorem dX9_requireBell_9 : decode cX9_requireBell 9 = .ok (.iconst 1, 1) := by decide +kernel
theorem dX9_requireBell_10 : decode cX9_requireBell 10 = .ok (.isub, 1) := by decide +kernel
theorem dX9_requireBell_11 : decode cX9_requireBell 11 = .ok (.invokestatic 96, 3) := by decide +kernel
theorem dX9_requireBell_14 : decode cX9_requireBell 14 = .ok (.return_, 1) := by decide +kernel
set_option maxRecDepth 20000 in
theorem bX9_requireBell_0 {G : Gx} {mm : Nat → Nat → Int32} {lm : Nat → Int64} {x1 : Int32} {o : Ou} {z : Wd} {a b : Nat} (hw : ((Ct G M_X9_requireRange [.int x1, .int 0, .int ((mm 4 9) - 1)] (SH, mm, lm) false (.inl none) (SH, mm, lm) false 0 0 ∧ o = .inl none ∧ z = (SH, mm, lm)) ∨ (∃ (E4 : String), Ct G M_X9_requireRange [.int x1, .int 0, .int ((mm 4 9) - 1)] (SH, mm, lm) false (.inr E4) (SH, mm, lm) false 1 6 ∧ o = .inr E4 ∧ z = (SH, mm, lm) ∧ 1 ≤ a ∧ 6 ≤ b))) :
    J G M_X9_requireBell 0 [(0, .ref 0), (1, .int x1)] [] (SH, mm, lm) false o z false a b := by
  refine J_iload_n rfl (i := 1) rfl dX9_requireBell_0 ?_
  refine J_iconst (v := 0) (by decide) dX9_requireBell_1 ?_
  refine J_aload_n rfl (i := 0) rfl dX9_requireBell_2 ?_
  refine J_getr kls_9 (q := 0) (k := 1) sh_0 (by decide) rfl gw_430 dX9_requireBell_3 ?_
  refine J_geti kls_7 (q := 4) (k := 9) sh_4 (by decide) rfl gw_212 dX9_requireBell_6 ?_
  refine J_iconst (v := 1) (by decide) dX9_requireBell_9 ?_
  refine J_isub dX9_requireBell_10 ?_
  rcases hw with ⟨hc1, hw⟩ | ⟨E4, hc1, rfl, rfl, h1, h6⟩
  · refine J_callS (as := [.int x1, .int 0, .int ((mm 4 9) - 1)]) (st := []) cal_X9_requireRange cas_X9_requireRange gw_707 ⟨by decide, by decide⟩ cnt_X9_requireRange rfl (Nat.le_of_ble_eq_true rfl) dX9_requireBell_11 (Nat.zero_add _).symm (Nat.zero_add _).symm hc1 ?_
    exact J_finv rfl dX9_requireBell_14 hw
  · exact J_callSx (ht := rfl) (as := [.int x1, .int 0, .int ((mm 4 9) - 1)]) (st := []) cal_X9_requireRange cas_X9_requireRange gw_707 ⟨by decide, by decide⟩ cnt_X9_requireRange rfl (Nat.le_of_ble_eq_true rfl) dX9_requireBell_11 hc1 h1 h6
theorem dX9_requireBeam_0 : decode cX9_requireBeam 0 = .ok (.iload_n 1, 1) := by decide +kernel
theorem dX9_requireBeam_1 : decode cX9_requireBeam 1 = .ok (.iconst 0, 1) := by decide +kernel
theorem dX9_requireBeam_2 : decode cX9_requireBeam 2 = .ok (.aload_n 0, 1) := by decide +kernel
theorem dX9_requireBeam_3 : decode cX9_requireBeam 3 = .ok (.getfield 19, 3) := by decide +kernel
theorem dX9_requireBeam_6 : decode cX9_requireBeam 6 = .ok (.getfield 329, 3) := by decide +kernel
theorem dX9_requireBeam_9 : decode cX9_requireBeam 9 = .ok (.iconst 1, 1) := by decide +kernel
theorem dX9_requireBeam_10 : decode cX9_requireBeam 10 = .ok (.isub, 1) := by decide +kernel
theorem dX9_requireBeam_11 : decode cX9_requireBeam 11 = .ok (.invokestatic 96, 3) := by decide +kernel
theorem dX9_requireBeam_14 : decode cX9_requireBeam 14 = .ok (.return_, 1) := by decide +kernel
set_option maxRecDepth 20000 in
theorem bX9_requireBeam_0 {G : Gx} {mm : Nat → Nat → Int32} {lm : Nat → Int64} {x1 : Int32} {o : Ou} {z : Wd} {a b : Nat} (hw : ((Ct G M_X9_requireRange [.int x1, .int 0, .int ((mm 4 8) - 1)] (SH, mm, lm) false (.inl none) (SH, mm, lm) false 0 0 ∧ o = .inl none ∧ z = (SH, mm, lm)) ∨ (∃ (E4 : String), Ct G M_X9_requireRange [.int x1, .int 0, .int ((mm 4 8) - 1)] (SH, mm, lm) false (.inr E4) (SH, mm, lm) false 1 6 ∧ o = .inr E4 ∧ z = (SH, mm, lm) ∧ 1 ≤ a ∧ 6 ≤ b))) :
    J G M_X9_requireBeam 0 [(0, .ref 0), (1, .int x1)] [] (SH, mm, lm) false o z false a b := by
  refine J_iload_n rfl (i := 1) rfl dX9_requireBeam_0 ?_
  refine J_iconst (v := 0) (by decide) dX9_requireBeam_1 ?_
  refine J_aload_n rfl (i := 0) rfl dX9_requireBeam_2 ?_
  refine J_getr kls_9 (q := 0) (k := 1) sh_0 (by decide) rfl gw_430 dX9_requireBeam_3 ?_
  refine J_geti kls_7 (q := 4) (k := 8) sh_4 (by decide) rfl gw_204 dX9_requireBeam_6 ?_
  refine J_iconst (v := 1) (by decide) dX9_requireBeam_9 ?_
  refine J_isub dX9_requireBeam_10 ?_
  rcases hw with ⟨hc1, hw⟩ | ⟨E4, hc1, rfl, rfl, h1, h6⟩
  · refine J_callS (as := [.int x1, .int 0, .int ((mm 4 8) - 1)]) (st := []) cal_X9_requireRange cas_X9_requireRange gw_707 ⟨by decide, by decide⟩ cnt_X9_requireRange rfl (Nat.le_of_ble_eq_true rfl) dX9_requireBeam_11 (Nat.zero_add _).symm (Nat.zero_add _).symm hc1 ?_
    exact J_finv rfl dX9_requireBeam_14 hw
  · exact J_callSx (ht := rfl) (as := [.int x1, .int 0, .int ((mm 4 8) - 1)]) (st := []) cal_X9_requireRange cas_X9_requireRange gw_707 ⟨by decide, by decide⟩ cnt_X9_requireRange rfl (Nat.le_of_ble_eq_true rfl) dX9_requireBeam_11 hc1 h1 h6
theorem dX9_requireRange_0 : decode cX9_requireRange 0 = .ok (.iload_n 0, 1) := by decide +kernel
theorem dX9_requireRange_1 : decode cX9_requireRange 1 = .ok (.iload_n 1, 1) := by decide +kernel
theorem dX9_requireRange_2 : decode cX9_requireRange 2 = .ok (.if_icmp .lt 8, 3) := by decide +kernel
theorem dX9_requireRange_5 : decode cX9_requireRange 5 = .ok (.iload_n 0, 1) := by decide +kernel
theorem dX9_requireRange_6 : decode cX9_requireRange 6 = .ok (.iload_n 2, 1) := by decide +kernel
theorem dX9_requireRange_7 : decode cX9_requireRange 7 = .ok (.if_icmp .le 14, 3) := by decide +kernel
theorem dX9_requireRange_10 : decode cX9_requireRange 10 = .ok (.new 226, 3) := by decide +kernel
theorem dX9_requireRange_13 : decode cX9_requireRange 13 = .ok (.dup, 1) := by decide +kernel
theorem dX9_requireRange_14 : decode cX9_requireRange 14 = .ok (.ldc_w 332, 3) := by decide +kernel
theorem dX9_requireRange_17 : decode cX9_requireRange 17 = .ok (.invokespecial 230, 3) := by decide +kernel
theorem dX9_requireRange_20 : decode cX9_requireRange 20 = .ok (.athrow, 1) := by decide +kernel
theorem dX9_requireRange_21 : decode cX9_requireRange 21 = .ok (.return_, 1) := by decide +kernel
set_option maxRecDepth 20000 in
theorem bX9_requireRange_0 {G : Gx} {mm : Nat → Nat → Int32} {lm : Nat → Int64} {x0 : Int32} {x1 : Int32} {x2 : Int32} {o : Ou} {z : Wd} {a b : Nat} (hw : ((x0 < x1) → o = .inr "java/lang/IllegalArgumentException" ∧ z = (SH, mm, lm) ∧ 1 ≤ a ∧ 6 ≤ b) ∧ ((¬ x0 < x1) → ((x0 ≤ x2) → o = .inl none ∧ z = (SH, mm, lm)) ∧ ((¬ x0 ≤ x2) → o = .inr "java/lang/IllegalArgumentException" ∧ z = (SH, mm, lm) ∧ 1 ≤ a ∧ 6 ≤ b))) :
    J G M_X9_requireRange 0 [(0, .int x0), (1, .int x1), (2, .int x2)] [] (SH, mm, lm) false o z false a b := by
  refine J_iload_n rfl (i := 0) rfl dX9_requireRange_0 ?_
  refine J_iload_n rfl (i := 1) rfl dX9_requireRange_1 ?_
  refine J_icmp_lt (tgt := 10) dX9_requireRange_2 (by decide) (fun hb2 => ?_) (fun hb2 => ?_)
  · replace hw := hw.1 hb2
    obtain ⟨rfl, rfl, h1, h6⟩ := hw
    exact J_throwSW rfl (by decide +kernel) (by decide +kernel) gw_710 gw_123 st_RX9_332 tha_RX9_230 thb_RX9_230 ca_RX9_230 (Nat.le_of_ble_eq_true rfl) (by decide) (by decide) h1 h6 dX9_requireRange_10 dX9_requireRange_13 dX9_requireRange_14 dX9_requireRange_17 dX9_requireRange_20
  · replace hw := hw.2 hb2
    refine J_iload_n rfl (i := 0) rfl dX9_requireRange_5 ?_
    refine J_iload_n rfl (i := 2) rfl dX9_requireRange_6 ?_
    refine J_icmp_le (tgt := 21) dX9_requireRange_7 (by decide) (fun hb1 => ?_) (fun hb1 => ?_)
    · replace hw := hw.1 hb1
      exact J_finv rfl dX9_requireRange_21 hw
    · replace hw := hw.2 hb1
      obtain ⟨rfl, rfl, h1, h6⟩ := hw
      exact J_throwSW rfl (by decide +kernel) (by decide +kernel) gw_710 gw_123 st_RX9_332 tha_RX9_230 thb_RX9_230 ca_RX9_230 (Nat.le_of_ble_eq_true rfl) (by decide) (by decide) h1 h6 dX9_requireRange_10 dX9_requireRange_13 dX9_requireRange_14 dX9_requireRange_17 dX9_requireRange_20
theorem dX9_requireHanging_0 : decode cX9_requireHanging 0 = .ok (.aload_n 0, 1) := by decide +kernel
theorem dX9_requireHanging_1 : decode cX9_requireHanging 1 = .ok (.getfield 28, 3) := by decide +kernel
theorem dX9_requireHanging_4 : decode cX9_requireHanging 4 = .ok (.iload_n 1, 1) := by decide +kernel
theorem dX9_requireHanging_5 : decode cX9_requireHanging 5 = .ok (.aaload, 1) := by decide +kernel
theorem dX9_requireHanging_6 : decode cX9_requireHanging 6 = .ok (.invokevirtual 131, 3) := by decide +kernel
theorem dX9_requireHanging_9 : decode cX9_requireHanging 9 = .ok (.ifCond .ne 14, 3) := by decide +kernel
theorem dX9_requireHanging_12 : decode cX9_requireHanging 12 = .ok (.new 235, 3) := by decide +kernel
theorem dX9_requireHanging_15 : decode cX9_requireHanging 15 = .ok (.dup, 1) := by decide +kernel
theorem dX9_requireHanging_16 : decode cX9_requireHanging 16 = .ok (.ldc_w 334, 3) := by decide +kernel
theorem dX9_requireHanging_19 : decode cX9_requireHanging 19 = .ok (.invokespecial 239, 3) := by decide +kernel
theorem dX9_requireHanging_22 : decode cX9_requireHanging 22 = .ok (.athrow, 1) := by decide +kernel
theorem dX9_requireHanging_23 : decode cX9_requireHanging 23 = .ok (.return_, 1) := by decide +kernel
set_option maxRecDepth 20000 in
theorem bX9_requireHanging_0 {G : Gx} {mm : Nat → Nat → Int32} {lm : Nat → Int64} {x1 : Int32} {o : Ou} {z : Wd} {a b : Nat} (hw : ∃ j1 : Nat, x1 = nI j1 ∧ j1 < 8 ∧ ∃ (v3 : Int32), Ct G M_X0_hangs [.ref (23 + j1)] (SH, mm, lm) false (.inl (some (.int v3))) (SH, mm, lm) false 0 0 ∧ ((¬ v3 = 0) → o = .inl none ∧ z = (SH, mm, lm)) ∧ ((v3 = 0) → o = .inr "java/util/NoSuchElementException" ∧ z = (SH, mm, lm) ∧ 1 ≤ a ∧ 6 ≤ b)) :
    J G M_X9_requireHanging 0 [(0, .ref 0), (1, .int x1)] [] (SH, mm, lm) false o z false a b := by
  refine J_aload_n rfl (i := 0) rfl dX9_requireHanging_0 ?_
  refine J_getr kls_9 (q := 0) (k := 3) sh_0 (by decide) rfl gw_432 dX9_requireHanging_1 ?_
  refine J_iload_n rfl (i := 1) rfl dX9_requireHanging_4 ?_
  obtain ⟨j1, ej1, hj1, hw⟩ := hw
  refine J_aald (r := 23 + j1) sh_22 ej1 hj1 (by decide) (if_pos hj1) dX9_requireHanging_5 ?_
  obtain ⟨v3, hc2, hw⟩ := hw
  refine J_callV (as := []) (k := (23 + j1)) (st := []) cal_X0_hangs cai_X0_hangs gw_746 ⟨by decide, by decide⟩ cnt_X0_hangs (sh_b23 hj1) rfl rfl (Nat.le_of_ble_eq_true rfl) dX9_requireHanging_6 (Nat.zero_add _).symm (Nat.zero_add _).symm hc2 ?_
  refine J_if_ne (tgt := 23) dX9_requireHanging_9 (by decide) (fun hb5 => ?_) (fun hb5 => ?_)
  · replace hw := hw.1 hb5
    exact J_finv rfl dX9_requireHanging_23 hw
  · replace hw := hw.2 hb5
    obtain ⟨rfl, rfl, h1, h6⟩ := hw
    exact J_throwXW nx0 nx1 nx2 nx5 rfl (by decide +kernel) (by decide +kernel) gw_828 gw_130 st_RX9_334 tha_RX9_239 thb_RX9_239 ca_RX9_239 (Nat.le_of_ble_eq_true rfl) (by decide) (by decide) h1 h6 dX9_requireHanging_12 dX9_requireHanging_15 dX9_requireHanging_16 dX9_requireHanging_19 dX9_requireHanging_22
