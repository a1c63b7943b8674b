/-! the law, by cases -/
section Law
variable {G : Gx} {I : (Nat → Nat → Int32) → Prop} {mm : Nat → Nat → Int32} {lm : Nat → Int64} {o : Ou} {a b k : Nat}
theorem law_12 (hk : k + 5 < Gn G) (hL : Gn G < 2 ^ 31) (hop : OpW G I M_L_bestPosition M_X10_bestPosition [.int (Gs G (k + 1)), .int (Gs G (k + 2))] cmpI) (hI : I mm) (hc : ∀ mm2 l1, I mm2 → ∃ z, J G M_L_law 23 [(4, .int (nI k + 6)), (3, .ref 85), (2, .ref 63), (1, .ref 0), (0, .ref 1000)] [] (SH, mm2, l1) false o z false a b) :
    ∃ z, J G M_L_law 942 [(4, .int (nI k)), (3, .ref 85), (2, .ref 63), (1, .ref 0), (0, .ref 1000)] [] (SH, mm, lm) false o z false (a + 1) (b + 6) := by
  obtain ⟨kk, mm1, l1, bb, mm2, h1, h2, h3, h4, h5⟩ := hop mm lm hI
  obtain ⟨z, hz⟩ := hc mm2 l1 h5
  refine ⟨z, ?_⟩
  refine J_aload_n rfl (i := 1) rfl dL_law_942 ?_
  refine J_aload_n rfl (i := 0) rfl dL_law_943 ?_
  refine J_iload (i := 4) rfl dL_law_944 ?_
  refine J_iconst (v := 1) (by decide) dL_law_946 ?_
  refine J_iadd dL_law_947 ?_
  refine J_sld (nI_add k 1) (by omega) hL dL_law_948 ?_
  refine J_aload_n rfl (i := 0) rfl dL_law_949 ?_
  refine J_iload (i := 4) rfl dL_law_950 ?_
  refine J_iconst (v := 2) (by decide) dL_law_952 ?_
  refine J_iadd dL_law_953 ?_
  refine J_sld (nI_add k 2) (by omega) hL dL_law_954 ?_
  refine J_aload_n rfl (i := 3) rfl dL_law_955 ?_
  refine J_callSH (Mc := M_L_bestPosition) (as := [.ref 0, .int (Gs G (k + 1)), .int (Gs G (k + 2)), .ref 85]) (st := []) rfl gw_886 gw_107 ⟨by decide, by decide⟩ gw_885 gw_884 ⟨by decide, by decide⟩ cnt_L_bestPosition rfl (Nat.le_of_ble_eq_true rfl) dL_law_956 (Nat.add_comm a 1) (Nat.add_comm b 6) h1 ?_
  refine J_istore [(5, .int kk), (4, .int (nI k)), (3, .ref 85), (2, .ref 63), (1, .ref 0), (0, .ref 1000)] (i := 5) (by decide) rfl dL_law_959 ?_
  refine J_aload_n rfl (i := 2) rfl dL_law_961 ?_
  refine J_aload_n rfl (i := 0) rfl dL_law_962 ?_
  refine J_iload (i := 4) rfl dL_law_963 ?_
  refine J_iconst (v := 1) (by decide) dL_law_965 ?_
  refine J_iadd dL_law_966 ?_
  refine J_sld (nI_add k 1) (by omega) hL dL_law_967 ?_
  refine J_aload_n rfl (i := 0) rfl dL_law_968 ?_
  refine J_iload (i := 4) rfl dL_law_969 ?_
  refine J_iconst (v := 2) (by decide) dL_law_971 ?_
  refine J_iadd dL_law_972 ?_
  refine J_sld (nI_add k 2) (by omega) hL dL_law_973 ?_
  refine J_callV (as := [.int (Gs G (k + 1)), .int (Gs G (k + 2))]) (k := 63) (st := []) cal_X10_bestPosition cai_X10_bestPosition gw_1751 ⟨by decide, by decide⟩ cnt_X10_bestPosition sh_63 rfl rfl (Nat.le_of_ble_eq_true rfl) dL_law_974 (Nat.zero_add _).symm (Nat.zero_add _).symm h2 ?_
  refine J_istore [(6, .int bb), (5, .int kk), (4, .int (nI k)), (3, .ref 85), (2, .ref 63), (1, .ref 0), (0, .ref 1000)] (i := 6) (by decide) rfl dL_law_977 ?_
  refine J_aload_n rfl (i := 2) rfl dL_law_979 ?_
  refine J_callV (as := []) (k := 63) (st := []) cal_X10_thrown cai_X10_thrown gw_1557 ⟨by decide, by decide⟩ cnt_X10_thrown sh_63 rfl rfl (Nat.le_of_ble_eq_true rfl) dL_law_980 (Nat.zero_add _).symm (Nat.zero_add _).symm th_hyp ?_
  refine J_iload (i := 5) rfl dL_law_983 ?_
  refine J_icmp_eq (tgt := 990) dL_law_985 (by decide) (fun _ => ?_) (fun hn => absurd h3 hn)
  refine J_iload (i := 5) rfl dL_law_990 ?_
  refine J_if_ne (tgt := 1007) dL_law_992 (by decide) (fun _ => ?_) (fun h0 => ?_)
  · refine J_goto (tgt := 3001) dL_law_1007 (by decide) ?_
    refine J_iinc [(4, .int (nI k + 6)), (6, .int bb), (5, .int kk), (3, .ref 85), (2, .ref 63), (1, .ref 0), (0, .ref 1000)] (i := 4) (v := nI k + 6) rfl rfl (by decide) rfl dL_law_3001 ?_
    refine J_goto (tgt := 23) dL_law_3004 (by decide) ?_
    exact J_sub [0, 3, 4, 5, 6] rfl hz
  · refine J_aload_n rfl (i := 3) rfl dL_law_995 ?_
    refine J_iconst (v := 0) (by decide) dL_law_996 ?_
    refine J_lald sh_85 (by unfold vp_in; decide) dL_law_997 ?_
    refine J_iload (i := 6) rfl dL_law_998 ?_
    refine J_i2l dL_law_1000 ?_
    refine J_lcmp dL_law_1001 ?_
    refine J_if_eq (tgt := 1007) dL_law_1002 (by decide) (fun _ => ?_) (fun hn => absurd ((lg_cmp_eq _ _).mpr (h4 h0)) hn)
    refine J_goto (tgt := 3001) dL_law_1007 (by decide) ?_
    refine J_iinc [(4, .int (nI k + 6)), (6, .int bb), (5, .int kk), (3, .ref 85), (2, .ref 63), (1, .ref 0), (0, .ref 1000)] (i := 4) (v := nI k + 6) rfl rfl (by decide) rfl dL_law_3001 ?_
    refine J_goto (tgt := 23) dL_law_3004 (by decide) ?_
    exact J_sub [0, 3, 4, 5, 6] rfl hz
theorem law_13 (hk : k + 5 < Gn G) (hL : Gn G < 2 ^ 31) (hop : OpW G I M_L_mirroredTorque M_X10_mirroredTorque [.int (Gs G (k + 1))] cmpI) (hI : I mm) (hc : ∀ mm2 l1, I mm2 → ∃ z, J G M_L_law 23 [(4, .int (nI k + 6)), (3, .ref 85), (2, .ref 63), (1, .ref 0), (0, .ref 1000)] [] (SH, mm2, l1) false o z false a b) :
    ∃ z, J G M_L_law 1010 [(4, .int (nI k)), (3, .ref 85), (2, .ref 63), (1, .ref 0), (0, .ref 1000)] [] (SH, mm, lm) false o z false (a + 1) (b + 6) := by
  obtain ⟨kk, mm1, l1, bb, mm2, h1, h2, h3, h4, h5⟩ := hop mm lm hI
  obtain ⟨z, hz⟩ := hc mm2 l1 h5
  refine ⟨z, ?_⟩
  refine J_aload_n rfl (i := 1) rfl dL_law_1010 ?_
  refine J_aload_n rfl (i := 0) rfl dL_law_1011 ?_
  refine J_iload (i := 4) rfl dL_law_1012 ?_
  refine J_iconst (v := 1) (by decide) dL_law_1014 ?_
  refine J_iadd dL_law_1015 ?_
  refine J_sld (nI_add k 1) (by omega) hL dL_law_1016 ?_
  refine J_aload_n rfl (i := 3) rfl dL_law_1017 ?_
  refine J_callSH (Mc := M_L_mirroredTorque) (as := [.ref 0, .int (Gs G (k + 1)), .ref 85]) (st := []) rfl gw_899 gw_107 ⟨by decide, by decide⟩ gw_898 gw_897 ⟨by decide, by decide⟩ cnt_L_mirroredTorque rfl (Nat.le_of_ble_eq_true rfl) dL_law_1018 (Nat.add_comm a 1) (Nat.add_comm b 6) h1 ?_
  refine J_istore [(5, .int kk), (4, .int (nI k)), (3, .ref 85), (2, .ref 63), (1, .ref 0), (0, .ref 1000)] (i := 5) (by decide) rfl dL_law_1021 ?_
  refine J_aload_n rfl (i := 2) rfl dL_law_1023 ?_
  refine J_aload_n rfl (i := 0) rfl dL_law_1024 ?_
  refine J_iload (i := 4) rfl dL_law_1025 ?_
  refine J_iconst (v := 1) (by decide) dL_law_1027 ?_
  refine J_iadd dL_law_1028 ?_
  refine J_sld (nI_add k 1) (by omega) hL dL_law_1029 ?_
  refine J_callV (as := [.int (Gs G (k + 1))]) (k := 63) (st := []) cal_X10_mirroredTorque cai_X10_mirroredTorque gw_1755 ⟨by decide, by decide⟩ cnt_X10_mirroredTorque sh_63 rfl rfl (Nat.le_of_ble_eq_true rfl) dL_law_1030 (Nat.zero_add _).symm (Nat.zero_add _).symm h2 ?_
  refine J_istore [(6, .int bb), (5, .int kk), (4, .int (nI k)), (3, .ref 85), (2, .ref 63), (1, .ref 0), (0, .ref 1000)] (i := 6) (by decide) rfl dL_law_1033 ?_
  refine J_aload_n rfl (i := 2) rfl dL_law_1035 ?_
  refine J_callV (as := []) (k := 63) (st := []) cal_X10_thrown cai_X10_thrown gw_1557 ⟨by decide, by decide⟩ cnt_X10_thrown sh_63 rfl rfl (Nat.le_of_ble_eq_true rfl) dL_law_1036 (Nat.zero_add _).symm (Nat.zero_add _).symm th_hyp ?_
  refine J_iload (i := 5) rfl dL_law_1039 ?_
  refine J_icmp_eq (tgt := 1046) dL_law_1041 (by decide) (fun _ => ?_) (fun hn => absurd h3 hn)
  refine J_iload (i := 5) rfl dL_law_1046 ?_
  refine J_if_ne (tgt := 1063) dL_law_1048 (by decide) (fun _ => ?_) (fun h0 => ?_)
  · refine J_goto (tgt := 3001) dL_law_1063 (by decide) ?_
    refine J_iinc [(4, .int (nI k + 6)), (6, .int bb), (5, .int kk), (3, .ref 85), (2, .ref 63), (1, .ref 0), (0, .ref 1000)] (i := 4) (v := nI k + 6) rfl rfl (by decide) rfl dL_law_3001 ?_
    refine J_goto (tgt := 23) dL_law_3004 (by decide) ?_
    exact J_sub [0, 3, 4, 5, 6] rfl hz
  · refine J_aload_n rfl (i := 3) rfl dL_law_1051 ?_
    refine J_iconst (v := 0) (by decide) dL_law_1052 ?_
    refine J_lald sh_85 (by unfold vp_in; decide) dL_law_1053 ?_
    refine J_iload (i := 6) rfl dL_law_1054 ?_
    refine J_i2l dL_law_1056 ?_
    refine J_lcmp dL_law_1057 ?_
    refine J_if_eq (tgt := 1063) dL_law_1058 (by decide) (fun _ => ?_) (fun hn => absurd ((lg_cmp_eq _ _).mpr (h4 h0)) hn)
    refine J_goto (tgt := 3001) dL_law_1063 (by decide) ?_
    refine J_iinc [(4, .int (nI k + 6)), (6, .int bb), (5, .int kk), (3, .ref 85), (2, .ref 63), (1, .ref 0), (0, .ref 1000)] (i := 4) (v := nI k + 6) rfl rfl (by decide) rfl dL_law_3001 ?_
    refine J_goto (tgt := 23) dL_law_3004 (by decide) ?_
    exact J_sub [0, 3, 4, 5, 6] rfl hz
theorem law_14 (hk : k + 5 < Gn G) (hL : Gn G < 2 ^ 31) (hop : OpW G I M_L_mirroredBells M_X10_mirroredBells [.int (Gs G (k + 1))] cmpI) (hI : I mm) (hc : ∀ mm2 l1, I mm2 → ∃ z, J G M_L_law 23 [(4, .int (nI k + 6)), (3, .ref 85), (2, .ref 63), (1, .ref 0), (0, .ref 1000)] [] (SH, mm2, l1) false o z false a b) :
    ∃ z, J G M_L_law 1066 [(4, .int (nI k)), (3, .ref 85), (2, .ref 63), (1, .ref 0), (0, .ref 1000)] [] (SH, mm, lm) false o z false (a + 1) (b + 6) := by
  obtain ⟨kk, mm1, l1, bb, mm2, h1, h2, h3, h4, h5⟩ := hop mm lm hI
  obtain ⟨z, hz⟩ := hc mm2 l1 h5
  refine ⟨z, ?_⟩
  refine J_aload_n rfl (i := 1) rfl dL_law_1066 ?_
  refine J_aload_n rfl (i := 0) rfl dL_law_1067 ?_
  refine J_iload (i := 4) rfl dL_law_1068 ?_
  refine J_iconst (v := 1) (by decide) dL_law_1070 ?_
  refine J_iadd dL_law_1071 ?_
  refine J_sld (nI_add k 1) (by omega) hL dL_law_1072 ?_
  refine J_aload_n rfl (i := 3) rfl dL_law_1073 ?_
  refine J_callSH (Mc := M_L_mirroredBells) (as := [.ref 0, .int (Gs G (k + 1)), .ref 85]) (st := []) rfl gw_934 gw_107 ⟨by decide, by decide⟩ gw_933 gw_932 ⟨by decide, by decide⟩ cnt_L_mirroredBells rfl (Nat.le_of_ble_eq_true rfl) dL_law_1074 (Nat.add_comm a 1) (Nat.add_comm b 6) h1 ?_
  refine J_istore [(5, .int kk), (4, .int (nI k)), (3, .ref 85), (2, .ref 63), (1, .ref 0), (0, .ref 1000)] (i := 5) (by decide) rfl dL_law_1077 ?_
  refine J_aload_n rfl (i := 2) rfl dL_law_1079 ?_
  refine J_aload_n rfl (i := 0) rfl dL_law_1080 ?_
  refine J_iload (i := 4) rfl dL_law_1081 ?_
  refine J_iconst (v := 1) (by decide) dL_law_1083 ?_
  refine J_iadd dL_law_1084 ?_
  refine J_sld (nI_add k 1) (by omega) hL dL_law_1085 ?_
  refine J_callV (as := [.int (Gs G (k + 1))]) (k := 63) (st := []) cal_X10_mirroredBells cai_X10_mirroredBells gw_1774 ⟨by decide, by decide⟩ cnt_X10_mirroredBells sh_63 rfl rfl (Nat.le_of_ble_eq_true rfl) dL_law_1086 (Nat.zero_add _).symm (Nat.zero_add _).symm h2 ?_
  refine J_istore [(6, .int bb), (5, .int kk), (4, .int (nI k)), (3, .ref 85), (2, .ref 63), (1, .ref 0), (0, .ref 1000)] (i := 6) (by decide) rfl dL_law_1089 ?_
  refine J_aload_n rfl (i := 2) rfl dL_law_1091 ?_
  refine J_callV (as := []) (k := 63) (st := []) cal_X10_thrown cai_X10_thrown gw_1557 ⟨by decide, by decide⟩ cnt_X10_thrown sh_63 rfl rfl (Nat.le_of_ble_eq_true rfl) dL_law_1092 (Nat.zero_add _).symm (Nat.zero_add _).symm th_hyp ?_
  refine J_iload (i := 5) rfl dL_law_1095 ?_
  refine J_icmp_eq (tgt := 1102) dL_law_1097 (by decide) (fun _ => ?_) (fun hn => absurd h3 hn)
  refine J_iload (i := 5) rfl dL_law_1102 ?_
  refine J_if_ne (tgt := 1119) dL_law_1104 (by decide) (fun _ => ?_) (fun h0 => ?_)
  · refine J_goto (tgt := 3001) dL_law_1119 (by decide) ?_
    refine J_iinc [(4, .int (nI k + 6)), (6, .int bb), (5, .int kk), (3, .ref 85), (2, .ref 63), (1, .ref 0), (0, .ref 1000)] (i := 4) (v := nI k + 6) rfl rfl (by decide) rfl dL_law_3001 ?_
    refine J_goto (tgt := 23) dL_law_3004 (by decide) ?_
    exact J_sub [0, 3, 4, 5, 6] rfl hz
  · refine J_aload_n rfl (i := 3) rfl dL_law_1107 ?_
    refine J_iconst (v := 0) (by decide) dL_law_1108 ?_
    refine J_lald sh_85 (by unfold vp_in; decide) dL_law_1109 ?_
    refine J_iload (i := 6) rfl dL_law_1110 ?_
    refine J_i2l dL_law_1112 ?_
    refine J_lcmp dL_law_1113 ?_
    refine J_if_eq (tgt := 1119) dL_law_1114 (by decide) (fun _ => ?_) (fun hn => absurd ((lg_cmp_eq _ _).mpr (h4 h0)) hn)
    refine J_goto (tgt := 3001) dL_law_1119 (by decide) ?_
    refine J_iinc [(4, .int (nI k + 6)), (6, .int bb), (5, .int kk), (3, .ref 85), (2, .ref 63), (1, .ref 0), (0, .ref 1000)] (i := 4) (v := nI k + 6) rfl rfl (by decide) rfl dL_law_3001 ?_
    refine J_goto (tgt := 23) dL_law_3004 (by decide) ?_
    exact J_sub [0, 3, 4, 5, 6] rfl hz
theorem law_15 (hk : k + 5 < Gn G) (hL : Gn G < 2 ^ 31) (hop : OpW G I M_L_setPlan M_X10_setPlan [.int (Gs G (k + 1)), .int (Gs G (k + 2)), .int (Gs G (k + 3))] cmpI) (hI : I mm) (hc : ∀ mm2 l1, I mm2 → ∃ z, J G M_L_law 23 [(4, .int (nI k + 6)), (3, .ref 85), (2, .ref 63), (1, .ref 0), (0, .ref 1000)] [] (SH, mm2, l1) false o z false a b) :
    ∃ z, J G M_L_law 1122 [(4, .int (nI k)), (3, .ref 85), (2, .ref 63), (1, .ref 0), (0, .ref 1000)] [] (SH, mm, lm) false o z false (a + 1) (b + 6) := by
  obtain ⟨kk, mm1, l1, bb, mm2, h1, h2, h3, h4, h5⟩ := hop mm lm hI
  obtain ⟨z, hz⟩ := hc mm2 l1 h5
  refine ⟨z, ?_⟩
  refine J_aload_n rfl (i := 1) rfl dL_law_1122 ?_
  refine J_aload_n rfl (i := 0) rfl dL_law_1123 ?_
  refine J_iload (i := 4) rfl dL_law_1124 ?_
  refine J_iconst (v := 1) (by decide) dL_law_1126 ?_
  refine J_iadd dL_law_1127 ?_
  refine J_sld (nI_add k 1) (by omega) hL dL_law_1128 ?_
  refine J_aload_n rfl (i := 0) rfl dL_law_1129 ?_
  refine J_iload (i := 4) rfl dL_law_1130 ?_
  refine J_iconst (v := 2) (by decide) dL_law_1132 ?_
  refine J_iadd dL_law_1133 ?_
  refine J_sld (nI_add k 2) (by omega) hL dL_law_1134 ?_
  refine J_aload_n rfl (i := 0) rfl dL_law_1135 ?_
  refine J_iload (i := 4) rfl dL_law_1136 ?_
  refine J_iconst (v := 3) (by decide) dL_law_1138 ?_
  refine J_iadd dL_law_1139 ?_
  refine J_sld (nI_add k 3) (by omega) hL dL_law_1140 ?_
  refine J_aload_n rfl (i := 3) rfl dL_law_1141 ?_
  refine J_callSH (Mc := M_L_setPlan) (as := [.ref 0, .int (Gs G (k + 1)), .int (Gs G (k + 2)), .int (Gs G (k + 3)), .ref 85]) (st := []) rfl gw_941 gw_107 ⟨by decide, by decide⟩ gw_940 gw_939 ⟨by decide, by decide⟩ cnt_L_setPlan rfl (Nat.le_of_ble_eq_true rfl) dL_law_1142 (Nat.add_comm a 1) (Nat.add_comm b 6) h1 ?_
  refine J_istore [(5, .int kk), (4, .int (nI k)), (3, .ref 85), (2, .ref 63), (1, .ref 0), (0, .ref 1000)] (i := 5) (by decide) rfl dL_law_1145 ?_
  refine J_aload_n rfl (i := 2) rfl dL_law_1147 ?_
  refine J_aload_n rfl (i := 0) rfl dL_law_1148 ?_
  refine J_iload (i := 4) rfl dL_law_1149 ?_
  refine J_iconst (v := 1) (by decide) dL_law_1151 ?_
  refine J_iadd dL_law_1152 ?_
  refine J_sld (nI_add k 1) (by omega) hL dL_law_1153 ?_
  refine J_aload_n rfl (i := 0) rfl dL_law_1154 ?_
  refine J_iload (i := 4) rfl dL_law_1155 ?_
  refine J_iconst (v := 2) (by decide) dL_law_1157 ?_
  refine J_iadd dL_law_1158 ?_
  refine J_sld (nI_add k 2) (by omega) hL dL_law_1159 ?_
  refine J_aload_n rfl (i := 0) rfl dL_law_1160 ?_
  refine J_iload (i := 4) rfl dL_law_1161 ?_
  refine J_iconst (v := 3) (by decide) dL_law_1163 ?_
  refine J_iadd dL_law_1164 ?_
  refine J_sld (nI_add k 3) (by omega) hL dL_law_1165 ?_
  refine J_callV (as := [.int (Gs G (k + 1)), .int (Gs G (k + 2)), .int (Gs G (k + 3))]) (k := 63) (st := []) cal_X10_setPlan cai_X10_setPlan gw_1778 ⟨by decide, by decide⟩ cnt_X10_setPlan sh_63 rfl rfl (Nat.le_of_ble_eq_true rfl) dL_law_1166 (Nat.zero_add _).symm (Nat.zero_add _).symm h2 ?_
  refine J_istore [(6, .int bb), (5, .int kk), (4, .int (nI k)), (3, .ref 85), (2, .ref 63), (1, .ref 0), (0, .ref 1000)] (i := 6) (by decide) rfl dL_law_1169 ?_
  refine J_aload_n rfl (i := 2) rfl dL_law_1171 ?_
  refine J_callV (as := []) (k := 63) (st := []) cal_X10_thrown cai_X10_thrown gw_1557 ⟨by decide, by decide⟩ cnt_X10_thrown sh_63 rfl rfl (Nat.le_of_ble_eq_true rfl) dL_law_1172 (Nat.zero_add _).symm (Nat.zero_add _).symm th_hyp ?_
  refine J_iload (i := 5) rfl dL_law_1175 ?_
  refine J_icmp_eq (tgt := 1182) dL_law_1177 (by decide) (fun _ => ?_) (fun hn => absurd h3 hn)
  refine J_iload (i := 5) rfl dL_law_1182 ?_
  refine J_if_ne (tgt := 1199) dL_law_1184 (by decide) (fun _ => ?_) (fun h0 => ?_)
  · refine J_goto (tgt := 3001) dL_law_1199 (by decide) ?_
    refine J_iinc [(4, .int (nI k + 6)), (6, .int bb), (5, .int kk), (3, .ref 85), (2, .ref 63), (1, .ref 0), (0, .ref 1000)] (i := 4) (v := nI k + 6) rfl rfl (by decide) rfl dL_law_3001 ?_
    refine J_goto (tgt := 23) dL_law_3004 (by decide) ?_
    exact J_sub [0, 3, 4, 5, 6] rfl hz
  · refine J_aload_n rfl (i := 3) rfl dL_law_1187 ?_
    refine J_iconst (v := 0) (by decide) dL_law_1188 ?_
    refine J_lald sh_85 (by unfold vp_in; decide) dL_law_1189 ?_
    refine J_iload (i := 6) rfl dL_law_1190 ?_
    refine J_i2l dL_law_1192 ?_
    refine J_lcmp dL_law_1193 ?_
    refine J_if_eq (tgt := 1199) dL_law_1194 (by decide) (fun _ => ?_) (fun hn => absurd ((lg_cmp_eq _ _).mpr (h4 h0)) hn)
    refine J_goto (tgt := 3001) dL_law_1199 (by decide) ?_
    refine J_iinc [(4, .int (nI k + 6)), (6, .int bb), (5, .int kk), (3, .ref 85), (2, .ref 63), (1, .ref 0), (0, .ref 1000)] (i := 4) (v := nI k + 6) rfl rfl (by decide) rfl dL_law_3001 ?_
    refine J_goto (tgt := 23) dL_law_3004 (by decide) ?_
    exact J_sub [0, 3, 4, 5, 6] rfl hz
theorem law_16 (hk : k + 5 < Gn G) (hL : Gn G < 2 ^ 31) (hop : OpW G I M_L_clearPlan M_X10_clearPlan [.int (Gs G (k + 1))] cmpI) (hI : I mm) (hc : ∀ mm2 l1, I mm2 → ∃ z, J G M_L_law 23 [(4, .int (nI k + 6)), (3, .ref 85), (2, .ref 63), (1, .ref 0), (0, .ref 1000)] [] (SH, mm2, l1) false o z false a b) :
    ∃ z, J G M_L_law 1202 [(4, .int (nI k)), (3, .ref 85), (2, .ref 63), (1, .ref 0), (0, .ref 1000)] [] (SH, mm, lm) false o z false (a + 1) (b + 6) := by
  obtain ⟨kk, mm1, l1, bb, mm2, h1, h2, h3, h4, h5⟩ := hop mm lm hI
  obtain ⟨z, hz⟩ := hc mm2 l1 h5
  refine ⟨z, ?_⟩
  refine J_aload_n rfl (i := 1) rfl dL_law_1202 ?_
  refine J_aload_n rfl (i := 0) rfl dL_law_1203 ?_
  refine J_iload (i := 4) rfl dL_law_1204 ?_
  refine J_iconst (v := 1) (by decide) dL_law_1206 ?_
  refine J_iadd dL_law_1207 ?_
  refine J_sld (nI_add k 1) (by omega) hL dL_law_1208 ?_
  refine J_aload_n rfl (i := 3) rfl dL_law_1209 ?_
  refine J_callSH (Mc := M_L_clearPlan) (as := [.ref 0, .int (Gs G (k + 1)), .ref 85]) (st := []) rfl gw_956 gw_107 ⟨by decide, by decide⟩ gw_955 gw_954 ⟨by decide, by decide⟩ cnt_L_clearPlan rfl (Nat.le_of_ble_eq_true rfl) dL_law_1210 (Nat.add_comm a 1) (Nat.add_comm b 6) h1 ?_
  refine J_istore [(5, .int kk), (4, .int (nI k)), (3, .ref 85), (2, .ref 63), (1, .ref 0), (0, .ref 1000)] (i := 5) (by decide) rfl dL_law_1213 ?_
  refine J_aload_n rfl (i := 2) rfl dL_law_1215 ?_
  refine J_aload_n rfl (i := 0) rfl dL_law_1216 ?_
  refine J_iload (i := 4) rfl dL_law_1217 ?_
  refine J_iconst (v := 1) (by decide) dL_law_1219 ?_
  refine J_iadd dL_law_1220 ?_
  refine J_sld (nI_add k 1) (by omega) hL dL_law_1221 ?_
  refine J_callV (as := [.int (Gs G (k + 1))]) (k := 63) (st := []) cal_X10_clearPlan cai_X10_clearPlan gw_1786 ⟨by decide, by decide⟩ cnt_X10_clearPlan sh_63 rfl rfl (Nat.le_of_ble_eq_true rfl) dL_law_1222 (Nat.zero_add _).symm (Nat.zero_add _).symm h2 ?_
  refine J_istore [(6, .int bb), (5, .int kk), (4, .int (nI k)), (3, .ref 85), (2, .ref 63), (1, .ref 0), (0, .ref 1000)] (i := 6) (by decide) rfl dL_law_1225 ?_
  refine J_aload_n rfl (i := 2) rfl dL_law_1227 ?_
  refine J_callV (as := []) (k := 63) (st := []) cal_X10_thrown cai_X10_thrown gw_1557 ⟨by decide, by decide⟩ cnt_X10_thrown sh_63 rfl rfl (Nat.le_of_ble_eq_true rfl) dL_law_1228 (Nat.zero_add _).symm (Nat.zero_add _).symm th_hyp ?_
  refine J_iload (i := 5) rfl dL_law_1231 ?_
  refine J_icmp_eq (tgt := 1238) dL_law_1233 (by decide) (fun _ => ?_) (fun hn => absurd h3 hn)
  refine J_iload (i := 5) rfl dL_law_1238 ?_
  refine J_if_ne (tgt := 1255) dL_law_1240 (by decide) (fun _ => ?_) (fun h0 => ?_)
  · refine J_goto (tgt := 3001) dL_law_1255 (by decide) ?_
    refine J_iinc [(4, .int (nI k + 6)), (6, .int bb), (5, .int kk), (3, .ref 85), (2, .ref 63), (1, .ref 0), (0, .ref 1000)] (i := 4) (v := nI k + 6) rfl rfl (by decide) rfl dL_law_3001 ?_
    refine J_goto (tgt := 23) dL_law_3004 (by decide) ?_
    exact J_sub [0, 3, 4, 5, 6] rfl hz
  · refine J_aload_n rfl (i := 3) rfl dL_law_1243 ?_
    refine J_iconst (v := 0) (by decide) dL_law_1244 ?_
    refine J_lald sh_85 (by unfold vp_in; decide) dL_law_1245 ?_
    refine J_iload (i := 6) rfl dL_law_1246 ?_
    refine J_i2l dL_law_1248 ?_
    refine J_lcmp dL_law_1249 ?_
    refine J_if_eq (tgt := 1255) dL_law_1250 (by decide) (fun _ => ?_) (fun hn => absurd ((lg_cmp_eq _ _).mpr (h4 h0)) hn)
    refine J_goto (tgt := 3001) dL_law_1255 (by decide) ?_
    refine J_iinc [(4, .int (nI k + 6)), (6, .int bb), (5, .int kk), (3, .ref 85), (2, .ref 63), (1, .ref 0), (0, .ref 1000)] (i := 4) (v := nI k + 6) rfl rfl (by decide) rfl dL_law_3001 ?_
    refine J_goto (tgt := 23) dL_law_3004 (by decide) ?_
    exact J_sub [0, 3, 4, 5, 6] rfl hz
theorem law_17 (hk : k + 5 < Gn G) (hL : Gn G < 2 ^ 31) (hop : OpW G I M_L_planConflicts M_X10_planConflicts [] cmpI) (hI : I mm) (hc : ∀ mm2 l1, I mm2 → ∃ z, J G M_L_law 23 [(4, .int (nI k + 6)), (3, .ref 85), (2, .ref 63), (1, .ref 0), (0, .ref 1000)] [] (SH, mm2, l1) false o z false a b) :
    ∃ z, J G M_L_law 1258 [(4, .int (nI k)), (3, .ref 85), (2, .ref 63), (1, .ref 0), (0, .ref 1000)] [] (SH, mm, lm) false o z false (a + 1) (b + 6) := by
  obtain ⟨kk, mm1, l1, bb, mm2, h1, h2, h3, h4, h5⟩ := hop mm lm hI
  obtain ⟨z, hz⟩ := hc mm2 l1 h5
  refine ⟨z, ?_⟩
  refine J_aload_n rfl (i := 1) rfl dL_law_1258 ?_
  refine J_aload_n rfl (i := 3) rfl dL_law_1259 ?_
  refine J_callSH (Mc := M_L_planConflicts) (as := [.ref 0, .ref 85]) (st := []) rfl gw_964 gw_107 ⟨by decide, by decide⟩ gw_963 gw_962 ⟨by decide, by decide⟩ cnt_L_planConflicts rfl (Nat.le_of_ble_eq_true rfl) dL_law_1260 (Nat.add_comm a 1) (Nat.add_comm b 6) h1 ?_
  refine J_istore [(5, .int kk), (4, .int (nI k)), (3, .ref 85), (2, .ref 63), (1, .ref 0), (0, .ref 1000)] (i := 5) (by decide) rfl dL_law_1263 ?_
  refine J_aload_n rfl (i := 2) rfl dL_law_1265 ?_
  refine J_callV (as := []) (k := 63) (st := []) cal_X10_planConflicts cai_X10_planConflicts gw_1790 ⟨by decide, by decide⟩ cnt_X10_planConflicts sh_63 rfl rfl (Nat.le_of_ble_eq_true rfl) dL_law_1266 (Nat.zero_add _).symm (Nat.zero_add _).symm h2 ?_
  refine J_istore [(6, .int bb), (5, .int kk), (4, .int (nI k)), (3, .ref 85), (2, .ref 63), (1, .ref 0), (0, .ref 1000)] (i := 6) (by decide) rfl dL_law_1269 ?_
  refine J_aload_n rfl (i := 2) rfl dL_law_1271 ?_
  refine J_callV (as := []) (k := 63) (st := []) cal_X10_thrown cai_X10_thrown gw_1557 ⟨by decide, by decide⟩ cnt_X10_thrown sh_63 rfl rfl (Nat.le_of_ble_eq_true rfl) dL_law_1272 (Nat.zero_add _).symm (Nat.zero_add _).symm th_hyp ?_
  refine J_iload (i := 5) rfl dL_law_1275 ?_
  refine J_icmp_eq (tgt := 1282) dL_law_1277 (by decide) (fun _ => ?_) (fun hn => absurd h3 hn)
  refine J_iload (i := 5) rfl dL_law_1282 ?_
  refine J_if_ne (tgt := 1299) dL_law_1284 (by decide) (fun _ => ?_) (fun h0 => ?_)
  · refine J_goto (tgt := 3001) dL_law_1299 (by decide) ?_
    refine J_iinc [(4, .int (nI k + 6)), (6, .int bb), (5, .int kk), (3, .ref 85), (2, .ref 63), (1, .ref 0), (0, .ref 1000)] (i := 4) (v := nI k + 6) rfl rfl (by decide) rfl dL_law_3001 ?_
    refine J_goto (tgt := 23) dL_law_3004 (by decide) ?_
    exact J_sub [0, 3, 4, 5, 6] rfl hz
  · refine J_aload_n rfl (i := 3) rfl dL_law_1287 ?_
    refine J_iconst (v := 0) (by decide) dL_law_1288 ?_
    refine J_lald sh_85 (by unfold vp_in; decide) dL_law_1289 ?_
    refine J_iload (i := 6) rfl dL_law_1290 ?_
    refine J_i2l dL_law_1292 ?_
    refine J_lcmp dL_law_1293 ?_
    refine J_if_eq (tgt := 1299) dL_law_1294 (by decide) (fun _ => ?_) (fun hn => absurd ((lg_cmp_eq _ _).mpr (h4 h0)) hn)
    refine J_goto (tgt := 3001) dL_law_1299 (by decide) ?_
    refine J_iinc [(4, .int (nI k + 6)), (6, .int bb), (5, .int kk), (3, .ref 85), (2, .ref 63), (1, .ref 0), (0, .ref 1000)] (i := 4) (v := nI k + 6) rfl rfl (by decide) rfl dL_law_3001 ?_
    refine J_goto (tgt := 23) dL_law_3004 (by decide) ?_
    exact J_sub [0, 3, 4, 5, 6] rfl hz
theorem law_18 (hk : k + 5 < Gn G) (hL : Gn G < 2 ^ 31) (hop : OpW G I M_L_planUnbalanced M_X10_planUnbalanced [] cmpI) (hI : I mm) (hc : ∀ mm2 l1, I mm2 → ∃ z, J G M_L_law 23 [(4, .int (nI k + 6)), (3, .ref 85), (2, .ref 63), (1, .ref 0), (0, .ref 1000)] [] (SH, mm2, l1) false o z false a b) :
    ∃ z, J G M_L_law 1302 [(4, .int (nI k)), (3, .ref 85), (2, .ref 63), (1, .ref 0), (0, .ref 1000)] [] (SH, mm, lm) false o z false (a + 1) (b + 6) := by
  obtain ⟨kk, mm1, l1, bb, mm2, h1, h2, h3, h4, h5⟩ := hop mm lm hI
  obtain ⟨z, hz⟩ := hc mm2 l1 h5
  refine ⟨z, ?_⟩
  refine J_aload_n rfl (i := 1) rfl dL_law_1302 ?_
  refine J_aload_n rfl (i := 3) rfl dL_law_1303 ?_
  refine J_callSH (Mc := M_L_planUnbalanced) (as := [.ref 0, .ref 85]) (st := []) rfl gw_1002 gw_107 ⟨by decide, by decide⟩ gw_1001 gw_1000 ⟨by decide, by decide⟩ cnt_L_planUnbalanced rfl (Nat.le_of_ble_eq_true rfl) dL_law_1304 (Nat.add_comm a 1) (Nat.add_comm b 6) h1 ?_
  refine J_istore [(5, .int kk), (4, .int (nI k)), (3, .ref 85), (2, .ref 63), (1, .ref 0), (0, .ref 1000)] (i := 5) (by decide) rfl dL_law_1307 ?_
  refine J_aload_n rfl (i := 2) rfl dL_law_1309 ?_
  refine J_callV (as := []) (k := 63) (st := []) cal_X10_planUnbalanced cai_X10_planUnbalanced gw_1810 ⟨by decide, by decide⟩ cnt_X10_planUnbalanced sh_63 rfl rfl (Nat.le_of_ble_eq_true rfl) dL_law_1310 (Nat.zero_add _).symm (Nat.zero_add _).symm h2 ?_
  refine J_istore [(6, .int bb), (5, .int kk), (4, .int (nI k)), (3, .ref 85), (2, .ref 63), (1, .ref 0), (0, .ref 1000)] (i := 6) (by decide) rfl dL_law_1313 ?_
  refine J_aload_n rfl (i := 2) rfl dL_law_1315 ?_
  refine J_callV (as := []) (k := 63) (st := []) cal_X10_thrown cai_X10_thrown gw_1557 ⟨by decide, by decide⟩ cnt_X10_thrown sh_63 rfl rfl (Nat.le_of_ble_eq_true rfl) dL_law_1316 (Nat.zero_add _).symm (Nat.zero_add _).symm th_hyp ?_
  refine J_iload (i := 5) rfl dL_law_1319 ?_
  refine J_icmp_eq (tgt := 1326) dL_law_1321 (by decide) (fun _ => ?_) (fun hn => absurd h3 hn)
  refine J_iload (i := 5) rfl dL_law_1326 ?_
  refine J_if_ne (tgt := 1343) dL_law_1328 (by decide) (fun _ => ?_) (fun h0 => ?_)
  · refine J_goto (tgt := 3001) dL_law_1343 (by decide) ?_
    refine J_iinc [(4, .int (nI k + 6)), (6, .int bb), (5, .int kk), (3, .ref 85), (2, .ref 63), (1, .ref 0), (0, .ref 1000)] (i := 4) (v := nI k + 6) rfl rfl (by decide) rfl dL_law_3001 ?_
    refine J_goto (tgt := 23) dL_law_3004 (by decide) ?_
    exact J_sub [0, 3, 4, 5, 6] rfl hz
  · refine J_aload_n rfl (i := 3) rfl dL_law_1331 ?_
    refine J_iconst (v := 0) (by decide) dL_law_1332 ?_
    refine J_lald sh_85 (by unfold vp_in; decide) dL_law_1333 ?_
    refine J_iload (i := 6) rfl dL_law_1334 ?_
    refine J_i2l dL_law_1336 ?_
    refine J_lcmp dL_law_1337 ?_
    refine J_if_eq (tgt := 1343) dL_law_1338 (by decide) (fun _ => ?_) (fun hn => absurd ((lg_cmp_eq _ _).mpr (h4 h0)) hn)
    refine J_goto (tgt := 3001) dL_law_1343 (by decide) ?_
    refine J_iinc [(4, .int (nI k + 6)), (6, .int bb), (5, .int kk), (3, .ref 85), (2, .ref 63), (1, .ref 0), (0, .ref 1000)] (i := 4) (v := nI k + 6) rfl rfl (by decide) rfl dL_law_3001 ?_
    refine J_goto (tgt := 23) dL_law_3004 (by decide) ?_
    exact J_sub [0, 3, 4, 5, 6] rfl hz
theorem law_19 (hk : k + 5 < Gn G) (hL : Gn G < 2 ^ 31) (hop : OpW G I M_L_stepsToPlan M_X10_stepsToPlan [] cmpI) (hI : I mm) (hc : ∀ mm2 l1, I mm2 → ∃ z, J G M_L_law 23 [(4, .int (nI k + 6)), (3, .ref 85), (2, .ref 63), (1, .ref 0), (0, .ref 1000)] [] (SH, mm2, l1) false o z false a b) :
    ∃ z, J G M_L_law 1346 [(4, .int (nI k)), (3, .ref 85), (2, .ref 63), (1, .ref 0), (0, .ref 1000)] [] (SH, mm, lm) false o z false (a + 1) (b + 6) := by
  obtain ⟨kk, mm1, l1, bb, mm2, h1, h2, h3, h4, h5⟩ := hop mm lm hI
  obtain ⟨z, hz⟩ := hc mm2 l1 h5
  refine ⟨z, ?_⟩
  refine J_aload_n rfl (i := 1) rfl dL_law_1346 ?_
  refine J_aload_n rfl (i := 3) rfl dL_law_1347 ?_
  refine J_callSH (Mc := M_L_stepsToPlan) (as := [.ref 0, .ref 85]) (st := []) rfl gw_1018 gw_107 ⟨by decide, by decide⟩ gw_1017 gw_1016 ⟨by decide, by decide⟩ cnt_L_stepsToPlan rfl (Nat.le_of_ble_eq_true rfl) dL_law_1348 (Nat.add_comm a 1) (Nat.add_comm b 6) h1 ?_
  refine J_istore [(5, .int kk), (4, .int (nI k)), (3, .ref 85), (2, .ref 63), (1, .ref 0), (0, .ref 1000)] (i := 5) (by decide) rfl dL_law_1351 ?_
  refine J_aload_n rfl (i := 2) rfl dL_law_1353 ?_
  refine J_callV (as := []) (k := 63) (st := []) cal_X10_stepsToPlan cai_X10_stepsToPlan gw_1818 ⟨by decide, by decide⟩ cnt_X10_stepsToPlan sh_63 rfl rfl (Nat.le_of_ble_eq_true rfl) dL_law_1354 (Nat.zero_add _).symm (Nat.zero_add _).symm h2 ?_
  refine J_istore [(6, .int bb), (5, .int kk), (4, .int (nI k)), (3, .ref 85), (2, .ref 63), (1, .ref 0), (0, .ref 1000)] (i := 6) (by decide) rfl dL_law_1357 ?_
  refine J_aload_n rfl (i := 2) rfl dL_law_1359 ?_
  refine J_callV (as := []) (k := 63) (st := []) cal_X10_thrown cai_X10_thrown gw_1557 ⟨by decide, by decide⟩ cnt_X10_thrown sh_63 rfl rfl (Nat.le_of_ble_eq_true rfl) dL_law_1360 (Nat.zero_add _).symm (Nat.zero_add _).symm th_hyp ?_
  refine J_iload (i := 5) rfl dL_law_1363 ?_
  refine J_icmp_eq (tgt := 1370) dL_law_1365 (by decide) (fun _ => ?_) (fun hn => absurd h3 hn)
  refine J_iload (i := 5) rfl dL_law_1370 ?_
  refine J_if_ne (tgt := 1387) dL_law_1372 (by decide) (fun _ => ?_) (fun h0 => ?_)
  · refine J_goto (tgt := 3001) dL_law_1387 (by decide) ?_
    refine J_iinc [(4, .int (nI k + 6)), (6, .int bb), (5, .int kk), (3, .ref 85), (2, .ref 63), (1, .ref 0), (0, .ref 1000)] (i := 4) (v := nI k + 6) rfl rfl (by decide) rfl dL_law_3001 ?_
    refine J_goto (tgt := 23) dL_law_3004 (by decide) ?_
    exact J_sub [0, 3, 4, 5, 6] rfl hz
  · refine J_aload_n rfl (i := 3) rfl dL_law_1375 ?_
    refine J_iconst (v := 0) (by decide) dL_law_1376 ?_
    refine J_lald sh_85 (by unfold vp_in; decide) dL_law_1377 ?_
    refine J_iload (i := 6) rfl dL_law_1378 ?_
    refine J_i2l dL_law_1380 ?_
    refine J_lcmp dL_law_1381 ?_
    refine J_if_eq (tgt := 1387) dL_law_1382 (by decide) (fun _ => ?_) (fun hn => absurd ((lg_cmp_eq _ _).mpr (h4 h0)) hn)
    refine J_goto (tgt := 3001) dL_law_1387 (by decide) ?_
    refine J_iinc [(4, .int (nI k + 6)), (6, .int bb), (5, .int kk), (3, .ref 85), (2, .ref 63), (1, .ref 0), (0, .ref 1000)] (i := 4) (v := nI k + 6) rfl rfl (by decide) rfl dL_law_3001 ?_
    refine J_goto (tgt := 23) dL_law_3004 (by decide) ?_
    exact J_sub [0, 3, 4, 5, 6] rfl hz
theorem law_20 (hk : k + 5 < Gn G) (hL : Gn G < 2 ^ 31) (hop : OpW G I M_L_planStep M_X10_planStep [.int (Gs G (k + 1))] cmpI) (hI : I mm) (hc : ∀ mm2 l1, I mm2 → ∃ z, J G M_L_law 23 [(4, .int (nI k + 6)), (3, .ref 85), (2, .ref 63), (1, .ref 0), (0, .ref 1000)] [] (SH, mm2, l1) false o z false a b) :
    ∃ z, J G M_L_law 1390 [(4, .int (nI k)), (3, .ref 85), (2, .ref 63), (1, .ref 0), (0, .ref 1000)] [] (SH, mm, lm) false o z false (a + 1) (b + 6) := by
  obtain ⟨kk, mm1, l1, bb, mm2, h1, h2, h3, h4, h5⟩ := hop mm lm hI
  obtain ⟨z, hz⟩ := hc mm2 l1 h5
  refine ⟨z, ?_⟩
  refine J_aload_n rfl (i := 1) rfl dL_law_1390 ?_
  refine J_aload_n rfl (i := 0) rfl dL_law_1391 ?_
  refine J_iload (i := 4) rfl dL_law_1392 ?_
  refine J_iconst (v := 1) (by decide) dL_law_1394 ?_
  refine J_iadd dL_law_1395 ?_
  refine J_sld (nI_add k 1) (by omega) hL dL_law_1396 ?_
  refine J_aload_n rfl (i := 3) rfl dL_law_1397 ?_
  refine J_callSH (Mc := M_L_planStep) (as := [.ref 0, .int (Gs G (k + 1)), .ref 85]) (st := []) rfl gw_1053 gw_107 ⟨by decide, by decide⟩ gw_1052 gw_1051 ⟨by decide, by decide⟩ cnt_L_planStep rfl (Nat.le_of_ble_eq_true rfl) dL_law_1398 (Nat.add_comm a 1) (Nat.add_comm b 6) h1 ?_
  refine J_istore [(5, .int kk), (4, .int (nI k)), (3, .ref 85), (2, .ref 63), (1, .ref 0), (0, .ref 1000)] (i := 5) (by decide) rfl dL_law_1401 ?_
  refine J_aload_n rfl (i := 2) rfl dL_law_1403 ?_
  refine J_aload_n rfl (i := 0) rfl dL_law_1404 ?_
  refine J_iload (i := 4) rfl dL_law_1405 ?_
  refine J_iconst (v := 1) (by decide) dL_law_1407 ?_
  refine J_iadd dL_law_1408 ?_
  refine J_sld (nI_add k 1) (by omega) hL dL_law_1409 ?_
  refine J_callV (as := [.int (Gs G (k + 1))]) (k := 63) (st := []) cal_X10_planStep cai_X10_planStep gw_1849 ⟨by decide, by decide⟩ cnt_X10_planStep sh_63 rfl rfl (Nat.le_of_ble_eq_true rfl) dL_law_1410 (Nat.zero_add _).symm (Nat.zero_add _).symm h2 ?_
  refine J_istore [(6, .int bb), (5, .int kk), (4, .int (nI k)), (3, .ref 85), (2, .ref 63), (1, .ref 0), (0, .ref 1000)] (i := 6) (by decide) rfl dL_law_1413 ?_
  refine J_aload_n rfl (i := 2) rfl dL_law_1415 ?_
  refine J_callV (as := []) (k := 63) (st := []) cal_X10_thrown cai_X10_thrown gw_1557 ⟨by decide, by decide⟩ cnt_X10_thrown sh_63 rfl rfl (Nat.le_of_ble_eq_true rfl) dL_law_1416 (Nat.zero_add _).symm (Nat.zero_add _).symm th_hyp ?_
  refine J_iload (i := 5) rfl dL_law_1419 ?_
  refine J_icmp_eq (tgt := 1426) dL_law_1421 (by decide) (fun _ => ?_) (fun hn => absurd h3 hn)
  refine J_iload (i := 5) rfl dL_law_1426 ?_
  refine J_if_ne (tgt := 1443) dL_law_1428 (by decide) (fun _ => ?_) (fun h0 => ?_)
  · refine J_goto (tgt := 3001) dL_law_1443 (by decide) ?_
    refine J_iinc [(4, .int (nI k + 6)), (6, .int bb), (5, .int kk), (3, .ref 85), (2, .ref 63), (1, .ref 0), (0, .ref 1000)] (i := 4) (v := nI k + 6) rfl rfl (by decide) rfl dL_law_3001 ?_
    refine J_goto (tgt := 23) dL_law_3004 (by decide) ?_
    exact J_sub [0, 3, 4, 5, 6] rfl hz
  · refine J_aload_n rfl (i := 3) rfl dL_law_1431 ?_
    refine J_iconst (v := 0) (by decide) dL_law_1432 ?_
    refine J_lald sh_85 (by unfold vp_in; decide) dL_law_1433 ?_
    refine J_iload (i := 6) rfl dL_law_1434 ?_
    refine J_i2l dL_law_1436 ?_
    refine J_lcmp dL_law_1437 ?_
    refine J_if_eq (tgt := 1443) dL_law_1438 (by decide) (fun _ => ?_) (fun hn => absurd ((lg_cmp_eq _ _).mpr (h4 h0)) hn)
    refine J_goto (tgt := 3001) dL_law_1443 (by decide) ?_
    refine J_iinc [(4, .int (nI k + 6)), (6, .int bb), (5, .int kk), (3, .ref 85), (2, .ref 63), (1, .ref 0), (0, .ref 1000)] (i := 4) (v := nI k + 6) rfl rfl (by decide) rfl dL_law_3001 ?_
    refine J_goto (tgt := 23) dL_law_3004 (by decide) ?_
    exact J_sub [0, 3, 4, 5, 6] rfl hz
theorem law_21 (hk : k + 5 < Gn G) (hL : Gn G < 2 ^ 31) (hop : OpW G I M_L_startSwing M_X10_startSwing [.int (Gs G (k + 1)), .int (Gs G (k + 2)), .int (Gs G (k + 3))] cmpI) (hI : I mm) (hc : ∀ mm2 l1, I mm2 → ∃ z, J G M_L_law 23 [(4, .int (nI k + 6)), (3, .ref 85), (2, .ref 63), (1, .ref 0), (0, .ref 1000)] [] (SH, mm2, l1) false o z false a b) :
    ∃ z, J G M_L_law 1446 [(4, .int (nI k)), (3, .ref 85), (2, .ref 63), (1, .ref 0), (0, .ref 1000)] [] (SH, mm, lm) false o z false (a + 1) (b + 6) := by
  obtain ⟨kk, mm1, l1, bb, mm2, h1, h2, h3, h4, h5⟩ := hop mm lm hI
  obtain ⟨z, hz⟩ := hc mm2 l1 h5
  refine ⟨z, ?_⟩
  refine J_aload_n rfl (i := 1) rfl dL_law_1446 ?_
  refine J_aload_n rfl (i := 0) rfl dL_law_1447 ?_
  refine J_iload (i := 4) rfl dL_law_1448 ?_
  refine J_iconst (v := 1) (by decide) dL_law_1450 ?_
  refine J_iadd dL_law_1451 ?_
  refine J_sld (nI_add k 1) (by omega) hL dL_law_1452 ?_
  refine J_aload_n rfl (i := 0) rfl dL_law_1453 ?_
  refine J_iload (i := 4) rfl dL_law_1454 ?_
  refine J_iconst (v := 2) (by decide) dL_law_1456 ?_
  refine J_iadd dL_law_1457 ?_
  refine J_sld (nI_add k 2) (by omega) hL dL_law_1458 ?_
  refine J_aload_n rfl (i := 0) rfl dL_law_1459 ?_
  refine J_iload (i := 4) rfl dL_law_1460 ?_
  refine J_iconst (v := 3) (by decide) dL_law_1462 ?_
  refine J_iadd dL_law_1463 ?_
  refine J_sld (nI_add k 3) (by omega) hL dL_law_1464 ?_
  refine J_aload_n rfl (i := 3) rfl dL_law_1465 ?_
  refine J_callSH (Mc := M_L_startSwing) (as := [.ref 0, .int (Gs G (k + 1)), .int (Gs G (k + 2)), .int (Gs G (k + 3)), .ref 85]) (st := []) rfl gw_1065 gw_107 ⟨by decide, by decide⟩ gw_1064 gw_1063 ⟨by decide, by decide⟩ cnt_L_startSwing rfl (Nat.le_of_ble_eq_true rfl) dL_law_1466 (Nat.add_comm a 1) (Nat.add_comm b 6) h1 ?_
  refine J_istore [(5, .int kk), (4, .int (nI k)), (3, .ref 85), (2, .ref 63), (1, .ref 0), (0, .ref 1000)] (i := 5) (by decide) rfl dL_law_1469 ?_
  refine J_aload_n rfl (i := 2) rfl dL_law_1471 ?_
  refine J_aload_n rfl (i := 0) rfl dL_law_1472 ?_
  refine J_iload (i := 4) rfl dL_law_1473 ?_
  refine J_iconst (v := 1) (by decide) dL_law_1475 ?_
  refine J_iadd dL_law_1476 ?_
  refine J_sld (nI_add k 1) (by omega) hL dL_law_1477 ?_
  refine J_aload_n rfl (i := 0) rfl dL_law_1478 ?_
  refine J_iload (i := 4) rfl dL_law_1479 ?_
  refine J_iconst (v := 2) (by decide) dL_law_1481 ?_
  refine J_iadd dL_law_1482 ?_
  refine J_sld (nI_add k 2) (by omega) hL dL_law_1483 ?_
  refine J_aload_n rfl (i := 0) rfl dL_law_1484 ?_
  refine J_iload (i := 4) rfl dL_law_1485 ?_
  refine J_iconst (v := 3) (by decide) dL_law_1487 ?_
  refine J_iadd dL_law_1488 ?_
  refine J_sld (nI_add k 3) (by omega) hL dL_law_1489 ?_
  refine J_callV (as := [.int (Gs G (k + 1)), .int (Gs G (k + 2)), .int (Gs G (k + 3))]) (k := 63) (st := []) cal_X10_startSwing cai_X10_startSwing gw_1853 ⟨by decide, by decide⟩ cnt_X10_startSwing sh_63 rfl rfl (Nat.le_of_ble_eq_true rfl) dL_law_1490 (Nat.zero_add _).symm (Nat.zero_add _).symm h2 ?_
  refine J_istore [(6, .int bb), (5, .int kk), (4, .int (nI k)), (3, .ref 85), (2, .ref 63), (1, .ref 0), (0, .ref 1000)] (i := 6) (by decide) rfl dL_law_1493 ?_
  refine J_aload_n rfl (i := 2) rfl dL_law_1495 ?_
  refine J_callV (as := []) (k := 63) (st := []) cal_X10_thrown cai_X10_thrown gw_1557 ⟨by decide, by decide⟩ cnt_X10_thrown sh_63 rfl rfl (Nat.le_of_ble_eq_true rfl) dL_law_1496 (Nat.zero_add _).symm (Nat.zero_add _).symm th_hyp ?_
  refine J_iload (i := 5) rfl dL_law_1499 ?_
  refine J_icmp_eq (tgt := 1506) dL_law_1501 (by decide) (fun _ => ?_) (fun hn => absurd h3 hn)
  refine J_iload (i := 5) rfl dL_law_1506 ?_
  refine J_if_ne (tgt := 1523) dL_law_1508 (by decide) (fun _ => ?_) (fun h0 => ?_)
  · refine J_goto (tgt := 3001) dL_law_1523 (by decide) ?_
    refine J_iinc [(4, .int (nI k + 6)), (6, .int bb), (5, .int kk), (3, .ref 85), (2, .ref 63), (1, .ref 0), (0, .ref 1000)] (i := 4) (v := nI k + 6) rfl rfl (by decide) rfl dL_law_3001 ?_
    refine J_goto (tgt := 23) dL_law_3004 (by decide) ?_
    exact J_sub [0, 3, 4, 5, 6] rfl hz
  · refine J_aload_n rfl (i := 3) rfl dL_law_1511 ?_
    refine J_iconst (v := 0) (by decide) dL_law_1512 ?_
    refine J_lald sh_85 (by unfold vp_in; decide) dL_law_1513 ?_
    refine J_iload (i := 6) rfl dL_law_1514 ?_
    refine J_i2l dL_law_1516 ?_
    refine J_lcmp dL_law_1517 ?_
    refine J_if_eq (tgt := 1523) dL_law_1518 (by decide) (fun _ => ?_) (fun hn => absurd ((lg_cmp_eq _ _).mpr (h4 h0)) hn)
    refine J_goto (tgt := 3001) dL_law_1523 (by decide) ?_
    refine J_iinc [(4, .int (nI k + 6)), (6, .int bb), (5, .int kk), (3, .ref 85), (2, .ref 63), (1, .ref 0), (0, .ref 1000)] (i := 4) (v := nI k + 6) rfl rfl (by decide) rfl dL_law_3001 ?_
    refine J_goto (tgt := 23) dL_law_3004 (by decide) ?_
    exact J_sub [0, 3, 4, 5, 6] rfl hz
theorem law_22 (hk : k + 5 < Gn G) (hL : Gn G < 2 ^ 31) (hop : OpW G I M_L_stopSwing M_X10_stopSwing [.int (Gs G (k + 1))] cmpI) (hI : I mm) (hc : ∀ mm2 l1, I mm2 → ∃ z, J G M_L_law 23 [(4, .int (nI k + 6)), (3, .ref 85), (2, .ref 63), (1, .ref 0), (0, .ref 1000)] [] (SH, mm2, l1) false o z false a b) :
    ∃ z, J G M_L_law 1526 [(4, .int (nI k)), (3, .ref 85), (2, .ref 63), (1, .ref 0), (0, .ref 1000)] [] (SH, mm, lm) false o z false (a + 1) (b + 6) := by
  obtain ⟨kk, mm1, l1, bb, mm2, h1, h2, h3, h4, h5⟩ := hop mm lm hI
  obtain ⟨z, hz⟩ := hc mm2 l1 h5
  refine ⟨z, ?_⟩
  refine J_aload_n rfl (i := 1) rfl dL_law_1526 ?_
  refine J_aload_n rfl (i := 0) rfl dL_law_1527 ?_
  refine J_iload (i := 4) rfl dL_law_1528 ?_
  refine J_iconst (v := 1) (by decide) dL_law_1530 ?_
  refine J_iadd dL_law_1531 ?_
  refine J_sld (nI_add k 1) (by omega) hL dL_law_1532 ?_
  refine J_aload_n rfl (i := 3) rfl dL_law_1533 ?_
  refine J_callSH (Mc := M_L_stopSwing) (as := [.ref 0, .int (Gs G (k + 1)), .ref 85]) (st := []) rfl gw_1080 gw_107 ⟨by decide, by decide⟩ gw_1079 gw_1078 ⟨by decide, by decide⟩ cnt_L_stopSwing rfl (Nat.le_of_ble_eq_true rfl) dL_law_1534 (Nat.add_comm a 1) (Nat.add_comm b 6) h1 ?_
  refine J_istore [(5, .int kk), (4, .int (nI k)), (3, .ref 85), (2, .ref 63), (1, .ref 0), (0, .ref 1000)] (i := 5) (by decide) rfl dL_law_1537 ?_
  refine J_aload_n rfl (i := 2) rfl dL_law_1539 ?_
  refine J_aload_n rfl (i := 0) rfl dL_law_1540 ?_
  refine J_iload (i := 4) rfl dL_law_1541 ?_
  refine J_iconst (v := 1) (by decide) dL_law_1543 ?_
  refine J_iadd dL_law_1544 ?_
  refine J_sld (nI_add k 1) (by omega) hL dL_law_1545 ?_
  refine J_callV (as := [.int (Gs G (k + 1))]) (k := 63) (st := []) cal_X10_stopSwing cai_X10_stopSwing gw_1866 ⟨by decide, by decide⟩ cnt_X10_stopSwing sh_63 rfl rfl (Nat.le_of_ble_eq_true rfl) dL_law_1546 (Nat.zero_add _).symm (Nat.zero_add _).symm h2 ?_
  refine J_istore [(6, .int bb), (5, .int kk), (4, .int (nI k)), (3, .ref 85), (2, .ref 63), (1, .ref 0), (0, .ref 1000)] (i := 6) (by decide) rfl dL_law_1549 ?_
  refine J_aload_n rfl (i := 2) rfl dL_law_1551 ?_
  refine J_callV (as := []) (k := 63) (st := []) cal_X10_thrown cai_X10_thrown gw_1557 ⟨by decide, by decide⟩ cnt_X10_thrown sh_63 rfl rfl (Nat.le_of_ble_eq_true rfl) dL_law_1552 (Nat.zero_add _).symm (Nat.zero_add _).symm th_hyp ?_
  refine J_iload (i := 5) rfl dL_law_1555 ?_
  refine J_icmp_eq (tgt := 1562) dL_law_1557 (by decide) (fun _ => ?_) (fun hn => absurd h3 hn)
  refine J_iload (i := 5) rfl dL_law_1562 ?_
  refine J_if_ne (tgt := 1579) dL_law_1564 (by decide) (fun _ => ?_) (fun h0 => ?_)
  · refine J_goto (tgt := 3001) dL_law_1579 (by decide) ?_
    refine J_iinc [(4, .int (nI k + 6)), (6, .int bb), (5, .int kk), (3, .ref 85), (2, .ref 63), (1, .ref 0), (0, .ref 1000)] (i := 4) (v := nI k + 6) rfl rfl (by decide) rfl dL_law_3001 ?_
    refine J_goto (tgt := 23) dL_law_3004 (by decide) ?_
    exact J_sub [0, 3, 4, 5, 6] rfl hz
  · refine J_aload_n rfl (i := 3) rfl dL_law_1567 ?_
    refine J_iconst (v := 0) (by decide) dL_law_1568 ?_
    refine J_lald sh_85 (by unfold vp_in; decide) dL_law_1569 ?_
    refine J_iload (i := 6) rfl dL_law_1570 ?_
    refine J_i2l dL_law_1572 ?_
    refine J_lcmp dL_law_1573 ?_
    refine J_if_eq (tgt := 1579) dL_law_1574 (by decide) (fun _ => ?_) (fun hn => absurd ((lg_cmp_eq _ _).mpr (h4 h0)) hn)
    refine J_goto (tgt := 3001) dL_law_1579 (by decide) ?_
    refine J_iinc [(4, .int (nI k + 6)), (6, .int bb), (5, .int kk), (3, .ref 85), (2, .ref 63), (1, .ref 0), (0, .ref 1000)] (i := 4) (v := nI k + 6) rfl rfl (by decide) rfl dL_law_3001 ?_
    refine J_goto (tgt := 23) dL_law_3004 (by decide) ?_
    exact J_sub [0, 3, 4, 5, 6] rfl hz
theorem law_23 (hk : k + 5 < Gn G) (hL : Gn G < 2 ^ 31) (hop : OpW G I M_L_offset M_X10_offset [.int (Gs G (k + 1)), .int (Gs G (k + 2))] cmpI) (hI : I mm) (hc : ∀ mm2 l1, I mm2 → ∃ z, J G M_L_law 23 [(4, .int (nI k + 6)), (3, .ref 85), (2, .ref 63), (1, .ref 0), (0, .ref 1000)] [] (SH, mm2, l1) false o z false a b) :
    ∃ z, J G M_L_law 1582 [(4, .int (nI k)), (3, .ref 85), (2, .ref 63), (1, .ref 0), (0, .ref 1000)] [] (SH, mm, lm) false o z false (a + 1) (b + 6) := by
  obtain ⟨kk, mm1, l1, bb, mm2, h1, h2, h3, h4, h5⟩ := hop mm lm hI
  obtain ⟨z, hz⟩ := hc mm2 l1 h5
  refine ⟨z, ?_⟩
  refine J_aload_n rfl (i := 1) rfl dL_law_1582 ?_
  refine J_aload_n rfl (i := 0) rfl dL_law_1583 ?_
  refine J_iload (i := 4) rfl dL_law_1584 ?_
  refine J_iconst (v := 1) (by decide) dL_law_1586 ?_
  refine J_iadd dL_law_1587 ?_
  refine J_sld (nI_add k 1) (by omega) hL dL_law_1588 ?_
  refine J_aload_n rfl (i := 0) rfl dL_law_1589 ?_
  refine J_iload (i := 4) rfl dL_law_1590 ?_
  refine J_iconst (v := 2) (by decide) dL_law_1592 ?_
  refine J_iadd dL_law_1593 ?_
  refine J_sld (nI_add k 2) (by omega) hL dL_law_1594 ?_
  refine J_aload_n rfl (i := 3) rfl dL_law_1595 ?_
  refine J_callSH (Mc := M_L_offset) (as := [.ref 0, .int (Gs G (k + 1)), .int (Gs G (k + 2)), .ref 85]) (st := []) rfl gw_1088 gw_107 ⟨by decide, by decide⟩ gw_1087 gw_1086 ⟨by decide, by decide⟩ cnt_L_offset rfl (Nat.le_of_ble_eq_true rfl) dL_law_1596 (Nat.add_comm a 1) (Nat.add_comm b 6) h1 ?_
  refine J_istore [(5, .int kk), (4, .int (nI k)), (3, .ref 85), (2, .ref 63), (1, .ref 0), (0, .ref 1000)] (i := 5) (by decide) rfl dL_law_1599 ?_
  refine J_aload_n rfl (i := 2) rfl dL_law_1601 ?_
  refine J_aload_n rfl (i := 0) rfl dL_law_1602 ?_
  refine J_iload (i := 4) rfl dL_law_1603 ?_
  refine J_iconst (v := 1) (by decide) dL_law_1605 ?_
  refine J_iadd dL_law_1606 ?_
  refine J_sld (nI_add k 1) (by omega) hL dL_law_1607 ?_
  refine J_aload_n rfl (i := 0) rfl dL_law_1608 ?_
  refine J_iload (i := 4) rfl dL_law_1609 ?_
  refine J_iconst (v := 2) (by decide) dL_law_1611 ?_
  refine J_iadd dL_law_1612 ?_
  refine J_sld (nI_add k 2) (by omega) hL dL_law_1613 ?_
  refine J_callV (as := [.int (Gs G (k + 1)), .int (Gs G (k + 2))]) (k := 63) (st := []) cal_X10_offset cai_X10_offset gw_1870 ⟨by decide, by decide⟩ cnt_X10_offset sh_63 rfl rfl (Nat.le_of_ble_eq_true rfl) dL_law_1614 (Nat.zero_add _).symm (Nat.zero_add _).symm h2 ?_
  refine J_istore [(6, .int bb), (5, .int kk), (4, .int (nI k)), (3, .ref 85), (2, .ref 63), (1, .ref 0), (0, .ref 1000)] (i := 6) (by decide) rfl dL_law_1617 ?_
  refine J_aload_n rfl (i := 2) rfl dL_law_1619 ?_
  refine J_callV (as := []) (k := 63) (st := []) cal_X10_thrown cai_X10_thrown gw_1557 ⟨by decide, by decide⟩ cnt_X10_thrown sh_63 rfl rfl (Nat.le_of_ble_eq_true rfl) dL_law_1620 (Nat.zero_add _).symm (Nat.zero_add _).symm th_hyp ?_
  refine J_iload (i := 5) rfl dL_law_1623 ?_
  refine J_icmp_eq (tgt := 1630) dL_law_1625 (by decide) (fun _ => ?_) (fun hn => absurd h3 hn)
  refine J_iload (i := 5) rfl dL_law_1630 ?_
  refine J_if_ne (tgt := 1647) dL_law_1632 (by decide) (fun _ => ?_) (fun h0 => ?_)
  · refine J_goto (tgt := 3001) dL_law_1647 (by decide) ?_
    refine J_iinc [(4, .int (nI k + 6)), (6, .int bb), (5, .int kk), (3, .ref 85), (2, .ref 63), (1, .ref 0), (0, .ref 1000)] (i := 4) (v := nI k + 6) rfl rfl (by decide) rfl dL_law_3001 ?_
    refine J_goto (tgt := 23) dL_law_3004 (by decide) ?_
    exact J_sub [0, 3, 4, 5, 6] rfl hz
  · refine J_aload_n rfl (i := 3) rfl dL_law_1635 ?_
    refine J_iconst (v := 0) (by decide) dL_law_1636 ?_
    refine J_lald sh_85 (by unfold vp_in; decide) dL_law_1637 ?_
    refine J_iload (i := 6) rfl dL_law_1638 ?_
    refine J_i2l dL_law_1640 ?_
    refine J_lcmp dL_law_1641 ?_
    refine J_if_eq (tgt := 1647) dL_law_1642 (by decide) (fun _ => ?_) (fun hn => absurd ((lg_cmp_eq _ _).mpr (h4 h0)) hn)
    refine J_goto (tgt := 3001) dL_law_1647 (by decide) ?_
    refine J_iinc [(4, .int (nI k + 6)), (6, .int bb), (5, .int kk), (3, .ref 85), (2, .ref 63), (1, .ref 0), (0, .ref 1000)] (i := 4) (v := nI k + 6) rfl rfl (by decide) rfl dL_law_3001 ?_
    refine J_goto (tgt := 23) dL_law_3004 (by decide) ?_
    exact J_sub [0, 3, 4, 5, 6] rfl hz
end Law
