/-! ===== decode rows and walks between cut points, by program (wip/gen/mk10.py) ===== -/
theorem dX7_empty_0 : decode cX7_empty 0 = .ok (.aload_n 0, 1) := by decide +kernel
theorem dX7_empty_1 : decode cX7_empty 1 = .ok (.iconst 0, 1) := by decide +kernel
theorem dX7_empty_2 : decode cX7_empty 2 = .ok (.putfield 36, 3) := by decide +kernel
theorem dX7_empty_5 : decode cX7_empty 5 = .ok (.aload_n 0, 1) := by decide +kernel
theorem dX7_empty_6 : decode cX7_empty 6 = .ok (.iconst 0, 1) := by decide +kernel
theorem dX7_empty_7 : decode cX7_empty 7 = .ok (.putfield 40, 3) := by decide +kernel
theorem dX7_empty_10 : decode cX7_empty 10 = .ok (.aload_n 0, 1) := by decide +kernel
theorem dX7_empty_11 : decode cX7_empty 11 = .ok (.iconst 0, 1) := by decide +kernel
theorem dX7_empty_12 : decode cX7_empty 12 = .ok (.putfield 43, 3) := by decide +kernel
theorem dX7_empty_15 : decode cX7_empty 15 = .ok (.aload_n 0, 1) := by decide +kernel
theorem dX7_empty_16 : decode cX7_empty 16 = .ok (.iconst 0, 1) := by decide +kernel
theorem dX7_empty_17 : decode cX7_empty 17 = .ok (.putfield 46, 3) := by decide +kernel
theorem dX7_empty_20 : decode cX7_empty 20 = .ok (.return_, 1) := by decide +kernel
set_option maxRecDepth 20000 in
theorem bX7_empty_0 {G : Gx} {mm : Nat → Nat → Int32} {lm : Nat → Int64}  {o : Ou} {z : Wd} {a b : Nat} (hw : o = .inl none ∧ z = (SH, (mset (mset (mset (mset mm 13 8 0) 13 9 0) 13 10 0) 13 11 0), lm)) :
    J G M_X7_empty 0 [(0, .ref 13)] [] (SH, mm, lm) false o z false a b := by
  refine J_aload_n rfl (i := 0) rfl dX7_empty_0 ?_
  refine J_iconst (v := 0) (by decide) dX7_empty_1 ?_
  refine J_puti kls_7 (q := 13) (k := 8) sh_13 (by decide) rfl rfl (fun _ => rfl) (fun _ => rfl) gw_200 dX7_empty_2 ?_
  refine J_aload_n rfl (i := 0) rfl dX7_empty_5 ?_
  refine J_iconst (v := 0) (by decide) dX7_empty_6 ?_
  refine J_puti kls_7 (q := 13) (k := 9) sh_13 (by decide) rfl rfl (fun _ => rfl) (fun _ => rfl) gw_205 dX7_empty_7 ?_
  refine J_aload_n rfl (i := 0) rfl dX7_empty_10 ?_
  refine J_iconst (v := 0) (by decide) dX7_empty_11 ?_
  refine J_puti kls_7 (q := 13) (k := 10) sh_13 (by decide) rfl rfl (fun _ => rfl) (fun _ => rfl) gw_213 dX7_empty_12 ?_
  refine J_aload_n rfl (i := 0) rfl dX7_empty_15 ?_
  refine J_iconst (v := 0) (by decide) dX7_empty_16 ?_
  refine J_puti kls_7 (q := 13) (k := 11) sh_13 (by decide) rfl rfl (fun _ => rfl) (fun _ => rfl) gw_215 dX7_empty_17 ?_
  exact J_finv rfl dX7_empty_20 hw
theorem dX7_isFull_0 : decode cX7_isFull 0 = .ok (.iload_n 1, 1) := by decide +kernel
theorem dX7_isFull_1 : decode cX7_isFull 1 = .ok (.tableswitch 71 0 2 #[27, 41, 56], 27) := by decide +kernel
theorem dX7_isFull_28 : decode cX7_isFull 28 = .ok (.aload_n 0, 1) := by decide +kernel
theorem dX7_isFull_29 : decode cX7_isFull 29 = .ok (.getfield 36, 3) := by decide +kernel
theorem dX7_isFull_32 : decode cX7_isFull 32 = .ok (.iconst 4, 1) := by decide +kernel
theorem dX7_isFull_33 : decode cX7_isFull 33 = .ok (.if_icmp .lt 7, 3) := by decide +kernel
theorem dX7_isFull_36 : decode cX7_isFull 36 = .ok (.iconst 1, 1) := by decide +kernel
theorem dX7_isFull_37 : decode cX7_isFull 37 = .ok (.goto 4, 3) := by decide +kernel
theorem dX7_isFull_40 : decode cX7_isFull 40 = .ok (.iconst 0, 1) := by decide +kernel
theorem dX7_isFull_41 : decode cX7_isFull 41 = .ok (.ireturn, 1) := by decide +kernel
theorem dX7_isFull_42 : decode cX7_isFull 42 = .ok (.aload_n 0, 1) := by decide +kernel
theorem dX7_isFull_43 : decode cX7_isFull 43 = .ok (.getfield 40, 3) := by decide +kernel
theorem dX7_isFull_46 : decode cX7_isFull 46 = .ok (.bipush 8, 2) := by decide +kernel
theorem dX7_isFull_48 : decode cX7_isFull 48 = .ok (.if_icmp .lt 7, 3) := by decide +kernel
theorem dX7_isFull_51 : decode cX7_isFull 51 = .ok (.iconst 1, 1) := by decide +kernel
theorem dX7_isFull_52 : decode cX7_isFull 52 = .ok (.goto 4, 3) := by decide +kernel
theorem dX7_isFull_55 : decode cX7_isFull 55 = .ok (.iconst 0, 1) := by decide +kernel
theorem dX7_isFull_56 : decode cX7_isFull 56 = .ok (.ireturn, 1) := by decide +kernel
theorem dX7_isFull_57 : decode cX7_isFull 57 = .ok (.aload_n 0, 1) := by decide +kernel
theorem dX7_isFull_58 : decode cX7_isFull 58 = .ok (.getfield 43, 3) := by decide +kernel
theorem dX7_isFull_61 : decode cX7_isFull 61 = .ok (.bipush 6, 2) := by decide +kernel
theorem dX7_isFull_63 : decode cX7_isFull 63 = .ok (.if_icmp .lt 7, 3) := by decide +kernel
theorem dX7_isFull_66 : decode cX7_isFull 66 = .ok (.iconst 1, 1) := by decide +kernel
theorem dX7_isFull_67 : decode cX7_isFull 67 = .ok (.goto 4, 3) := by decide +kernel
theorem dX7_isFull_70 : decode cX7_isFull 70 = .ok (.iconst 0, 1) := by decide +kernel
theorem dX7_isFull_71 : decode cX7_isFull 71 = .ok (.ireturn, 1) := by decide +kernel
theorem dX7_isFull_72 : decode cX7_isFull 72 = .ok (.aload_n 0, 1) := by decide +kernel
theorem dX7_isFull_73 : decode cX7_isFull 73 = .ok (.getfield 46, 3) := by decide +kernel
theorem dX7_isFull_76 : decode cX7_isFull 76 = .ok (.bipush 8, 2) := by decide +kernel
theorem dX7_isFull_78 : decode cX7_isFull 78 = .ok (.if_icmp .lt 7, 3) := by decide +kernel
theorem dX7_isFull_81 : decode cX7_isFull 81 = .ok (.iconst 1, 1) := by decide +kernel
theorem dX7_isFull_82 : decode cX7_isFull 82 = .ok (.goto 4, 3) := by decide +kernel
theorem dX7_isFull_85 : decode cX7_isFull 85 = .ok (.iconst 0, 1) := by decide +kernel
theorem dX7_isFull_86 : decode cX7_isFull 86 = .ok (.ireturn, 1) := by decide +kernel
set_option maxRecDepth 20000 in
theorem bX7_isFull_0 {G : Gx} {mm : Nat → Nat → Int32} {lm : Nat → Int64} {x1 : Int32} {o : Ou} {z : Wd} {a b : Nat} (hw : (x1 = 0 → (((mm 13 8) < 4) → o = .inl (some (.int 0)) ∧ z = (SH, mm, lm)) ∧ ((¬ (mm 13 8) < 4) → o = .inl (some (.int 1)) ∧ z = (SH, mm, lm))) ∧ (x1 = 1 → (((mm 13 9) < 8) → o = .inl (some (.int 0)) ∧ z = (SH, mm, lm)) ∧ ((¬ (mm 13 9) < 8) → o = .inl (some (.int 1)) ∧ z = (SH, mm, lm))) ∧ (x1 = 2 → (((mm 13 10) < 6) → o = .inl (some (.int 0)) ∧ z = (SH, mm, lm)) ∧ ((¬ (mm 13 10) < 6) → o = .inl (some (.int 1)) ∧ z = (SH, mm, lm))) ∧ (¬ x1 = 0 → ¬ x1 = 1 → ¬ x1 = 2 → (((mm 13 11) < 8) → o = .inl (some (.int 0)) ∧ z = (SH, mm, lm)) ∧ ((¬ (mm 13 11) < 8) → o = .inl (some (.int 1)) ∧ z = (SH, mm, lm)))) :
    J G M_X7_isFull 0 [(0, .ref 13), (1, .int x1)] [] (SH, mm, lm) false o z false a b := by
  refine J_iload_n rfl (i := 1) rfl dX7_isFull_0 ?_
  refine J_tab3 (t0 := 28) (t1 := 42) (t2 := 57) (t3 := 72) dX7_isFull_1 rfl rfl (by decide) (by decide) (by decide) (by decide) (fun hb1 => ?_) (fun hb1 => ?_) (fun hb1 => ?_) (fun hb1 hb1b hb1c => ?_)
  · replace hw := hw.1 hb1
    refine J_aload_n rfl (i := 0) rfl dX7_isFull_28 ?_
    refine J_geti kls_7 (q := 13) (k := 8) sh_13 (by decide) rfl gw_200 dX7_isFull_29 ?_
    refine J_iconst (v := 4) (by decide) dX7_isFull_32 ?_
    refine J_icmp_lt (tgt := 40) dX7_isFull_33 (by decide) (fun hb2 => ?_) (fun hb2 => ?_)
    · replace hw := hw.1 hb2
      refine J_iconst (v := 0) (by decide) dX7_isFull_40 ?_
      exact J_fini (ty := .boolean) rfl rfl dX7_isFull_41 hw
    · replace hw := hw.2 hb2
      refine J_iconst (v := 1) (by decide) dX7_isFull_36 ?_
      refine J_goto (tgt := 41) dX7_isFull_37 (by decide) ?_
      exact J_fini (ty := .boolean) rfl rfl dX7_isFull_41 hw
  · replace hw := hw.2.1 hb1
    refine J_aload_n rfl (i := 0) rfl dX7_isFull_42 ?_
    refine J_geti kls_7 (q := 13) (k := 9) sh_13 (by decide) rfl gw_205 dX7_isFull_43 ?_
    refine J_bipush (v := 8) (by decide) dX7_isFull_46 ?_
    refine J_icmp_lt (tgt := 55) dX7_isFull_48 (by decide) (fun hb3 => ?_) (fun hb3 => ?_)
    · replace hw := hw.1 hb3
      refine J_iconst (v := 0) (by decide) dX7_isFull_55 ?_
      exact J_fini (ty := .boolean) rfl rfl dX7_isFull_56 hw
    · replace hw := hw.2 hb3
      refine J_iconst (v := 1) (by decide) dX7_isFull_51 ?_
      refine J_goto (tgt := 56) dX7_isFull_52 (by decide) ?_
      exact J_fini (ty := .boolean) rfl rfl dX7_isFull_56 hw
  · replace hw := hw.2.2.1 hb1
    refine J_aload_n rfl (i := 0) rfl dX7_isFull_57 ?_
    refine J_geti kls_7 (q := 13) (k := 10) sh_13 (by decide) rfl gw_213 dX7_isFull_58 ?_
    refine J_bipush (v := 6) (by decide) dX7_isFull_61 ?_
    refine J_icmp_lt (tgt := 70) dX7_isFull_63 (by decide) (fun hb4 => ?_) (fun hb4 => ?_)
    · replace hw := hw.1 hb4
      refine J_iconst (v := 0) (by decide) dX7_isFull_70 ?_
      exact J_fini (ty := .boolean) rfl rfl dX7_isFull_71 hw
    · replace hw := hw.2 hb4
      refine J_iconst (v := 1) (by decide) dX7_isFull_66 ?_
      refine J_goto (tgt := 71) dX7_isFull_67 (by decide) ?_
      exact J_fini (ty := .boolean) rfl rfl dX7_isFull_71 hw
  · replace hw := hw.2.2.2 hb1 hb1b hb1c
    refine J_aload_n rfl (i := 0) rfl dX7_isFull_72 ?_
    refine J_geti kls_7 (q := 13) (k := 11) sh_13 (by decide) rfl gw_215 dX7_isFull_73 ?_
    refine J_bipush (v := 8) (by decide) dX7_isFull_76 ?_
    refine J_icmp_lt (tgt := 85) dX7_isFull_78 (by decide) (fun hb5 => ?_) (fun hb5 => ?_)
    · replace hw := hw.1 hb5
      refine J_iconst (v := 0) (by decide) dX7_isFull_85 ?_
      exact J_fini (ty := .boolean) rfl rfl dX7_isFull_86 hw
    · replace hw := hw.2 hb5
      refine J_iconst (v := 1) (by decide) dX7_isFull_81 ?_
      refine J_goto (tgt := 86) dX7_isFull_82 (by decide) ?_
      exact J_fini (ty := .boolean) rfl rfl dX7_isFull_86 hw
theorem dX7_add_0 : decode cX7_add 0 = .ok (.aload_n 0, 1) := by decide +kernel
theorem dX7_add_1 : decode cX7_add 1 = .ok (.iload_n 1, 1) := by decide +kernel
theorem dX7_add_2 : decode cX7_add 2 = .ok (.invokevirtual 49, 3) := by decide +kernel
theorem dX7_add_5 : decode cX7_add 5 = .ok (.ifCond .ne 9, 3) := by decide +kernel
theorem dX7_add_8 : decode cX7_add 8 = .ok (.aload_n 2, 1) := by decide +kernel
theorem dX7_add_9 : decode cX7_add 9 = .ok (.arraylength, 1) := by decide +kernel
theorem dX7_add_10 : decode cX7_add 10 = .ok (.iconst 3, 1) := by decide +kernel
theorem dX7_add_11 : decode cX7_add 11 = .ok (.if_icmp .ge 4, 3) := by decide +kernel
theorem dX7_add_14 : decode cX7_add 14 = .ok (.return_, 1) := by decide +kernel
theorem dX7_add_15 : decode cX7_add 15 = .ok (.iload_n 1, 1) := by decide +kernel
theorem dX7_add_16 : decode cX7_add 16 = .ok (.tableswitch 151 0 2 #[28, 65, 114], 28) := by decide +kernel
theorem dX7_add_44 : decode cX7_add 44 = .ok (.aload_n 0, 1) := by decide +kernel
theorem dX7_add_45 : decode cX7_add 45 = .ok (.getfield 9, 3) := by decide +kernel
theorem dX7_add_48 : decode cX7_add 48 = .ok (.aload_n 0, 1) := by decide +kernel
theorem dX7_add_49 : decode cX7_add 49 = .ok (.getfield 36, 3) := by decide +kernel
theorem dX7_add_52 : decode cX7_add 52 = .ok (.aload_n 2, 1) := by decide +kernel
theorem dX7_add_53 : decode cX7_add 53 = .ok (.iconst 0, 1) := by decide +kernel
theorem dX7_add_54 : decode cX7_add 54 = .ok (.iaload, 1) := by decide +kernel
theorem dX7_add_55 : decode cX7_add 55 = .ok (.iastore, 1) := by decide +kernel
theorem dX7_add_56 : decode cX7_add 56 = .ok (.aload_n 0, 1) := by decide +kernel
theorem dX7_add_57 : decode cX7_add 57 = .ok (.getfield 15, 3) := by decide +kernel
theorem dX7_add_60 : decode cX7_add 60 = .ok (.aload_n 0, 1) := by decide +kernel
theorem dX7_add_61 : decode cX7_add 61 = .ok (.getfield 36, 3) := by decide +kernel
theorem dX7_add_64 : decode cX7_add 64 = .ok (.aload_n 2, 1) := by decide +kernel
theorem dX7_add_65 : decode cX7_add 65 = .ok (.iconst 1, 1) := by decide +kernel
theorem dX7_add_66 : decode cX7_add 66 = .ok (.iaload, 1) := by decide +kernel
theorem dX7_add_67 : decode cX7_add 67 = .ok (.iastore, 1) := by decide +kernel
theorem dX7_add_68 : decode cX7_add 68 = .ok (.aload_n 0, 1) := by decide +kernel
theorem dX7_add_69 : decode cX7_add 69 = .ok (.dup, 1) := by decide +kernel
theorem dX7_add_70 : decode cX7_add 70 = .ok (.getfield 36, 3) := by decide +kernel
theorem dX7_add_73 : decode cX7_add 73 = .ok (.iconst 1, 1) := by decide +kernel
theorem dX7_add_74 : decode cX7_add 74 = .ok (.iadd, 1) := by decide +kernel
theorem dX7_add_75 : decode cX7_add 75 = .ok (.putfield 36, 3) := by decide +kernel
theorem dX7_add_78 : decode cX7_add 78 = .ok (.goto 111, 3) := by decide +kernel
theorem dX7_add_81 : decode cX7_add 81 = .ok (.aload_n 0, 1) := by decide +kernel
theorem dX7_add_82 : decode cX7_add 82 = .ok (.getfield 18, 3) := by decide +kernel
theorem dX7_add_85 : decode cX7_add 85 = .ok (.aload_n 0, 1) := by decide +kernel
theorem dX7_add_86 : decode cX7_add 86 = .ok (.getfield 40, 3) := by decide +kernel
theorem dX7_add_89 : decode cX7_add 89 = .ok (.aload_n 2, 1) := by decide +kernel
theorem dX7_add_90 : decode cX7_add 90 = .ok (.iconst 0, 1) := by decide +kernel
theorem dX7_add_91 : decode cX7_add 91 = .ok (.iaload, 1) := by decide +kernel
theorem dX7_add_92 : decode cX7_add 92 = .ok (.iastore, 1) := by decide +kernel
theorem dX7_add_93 : decode cX7_add 93 = .ok (.aload_n 0, 1) := by decide +kernel
theorem dX7_add_94 : decode cX7_add 94 = .ok (.getfield 21, 3) := by decide +kernel
theorem dX7_add_97 : decode cX7_add 97 = .ok (.aload_n 0, 1) := by decide +kernel
theorem dX7_add_98 : decode cX7_add 98 = .ok (.getfield 40, 3) := by decide +kernel
theorem dX7_add_101 : decode cX7_add 101 = .ok (.aload_n 2, 1) := by decide +kernel
theorem dX7_add_102 : decode cX7_add 102 = .ok (.iconst 1, 1) := by decide +kernel
theorem dX7_add_103 : decode cX7_add 103 = .ok (.iaload, 1) := by decide +kernel
theorem dX7_add_104 : decode cX7_add 104 = .ok (.iastore, 1) := by decide +kernel
theorem dX7_add_105 : decode cX7_add 105 = .ok (.aload_n 0, 1) := by decide +kernel
theorem dX7_add_106 : decode cX7_add 106 = .ok (.getfield 24, 3) := by decide +kernel
theorem dX7_add_109 : decode cX7_add 109 = .ok (.aload_n 0, 1) := by decide +kernel
theorem dX7_add_110 : decode cX7_add 110 = .ok (.getfield 40, 3) := by decide +kernel
theorem dX7_add_113 : decode cX7_add 113 = .ok (.aload_n 2, 1) := by decide +kernel
theorem dX7_add_114 : decode cX7_add 114 = .ok (.iconst 2, 1) := by decide +kernel
theorem dX7_add_115 : decode cX7_add 115 = .ok (.iaload, 1) := by decide +kernel
theorem dX7_add_116 : decode cX7_add 116 = .ok (.iastore, 1) := by decide +kernel
theorem dX7_add_117 : decode cX7_add 117 = .ok (.aload_n 0, 1) := by decide +kernel
theorem dX7_add_118 : decode cX7_add 118 = .ok (.dup, 1) := by decide +kernel
theorem dX7_add_119 : decode cX7_add 119 = .ok (.getfield 40, 3) := by decide +kernel
theorem dX7_add_122 : decode cX7_add 122 = .ok (.iconst 1, 1) := by decide +kernel
theorem dX7_add_123 : decode cX7_add 123 = .ok (.iadd, 1) := by decide +kernel
theorem dX7_add_124 : decode cX7_add 124 = .ok (.putfield 40, 3) := by decide +kernel
theorem dX7_add_127 : decode cX7_add 127 = .ok (.goto 62, 3) := by decide +kernel
theorem dX7_add_130 : decode cX7_add 130 = .ok (.aload_n 0, 1) := by decide +kernel
theorem dX7_add_131 : decode cX7_add 131 = .ok (.getfield 27, 3) := by decide +kernel
theorem dX7_add_134 : decode cX7_add 134 = .ok (.aload_n 0, 1) := by decide +kernel
theorem dX7_add_135 : decode cX7_add 135 = .ok (.getfield 43, 3) := by decide +kernel
theorem dX7_add_138 : decode cX7_add 138 = .ok (.aload_n 2, 1) := by decide +kernel
theorem dX7_add_139 : decode cX7_add 139 = .ok (.iconst 0, 1) := by decide +kernel
theorem dX7_add_140 : decode cX7_add 140 = .ok (.iaload, 1) := by decide +kernel
theorem dX7_add_141 : decode cX7_add 141 = .ok (.iastore, 1) := by decide +kernel
theorem dX7_add_142 : decode cX7_add 142 = .ok (.aload_n 0, 1) := by decide +kernel
theorem dX7_add_143 : decode cX7_add 143 = .ok (.getfield 30, 3) := by decide +kernel
theorem dX7_add_146 : decode cX7_add 146 = .ok (.aload_n 0, 1) := by decide +kernel
theorem dX7_add_147 : decode cX7_add 147 = .ok (.getfield 43, 3) := by decide +kernel
theorem dX7_add_150 : decode cX7_add 150 = .ok (.aload_n 2, 1) := by decide +kernel
theorem dX7_add_151 : decode cX7_add 151 = .ok (.iconst 1, 1) := by decide +kernel
theorem dX7_add_152 : decode cX7_add 152 = .ok (.iaload, 1) := by decide +kernel
theorem dX7_add_153 : decode cX7_add 153 = .ok (.iastore, 1) := by decide +kernel
theorem dX7_add_154 : decode cX7_add 154 = .ok (.aload_n 0, 1) := by decide +kernel
theorem dX7_add_155 : decode cX7_add 155 = .ok (.dup, 1) := by decide +kernel
theorem dX7_add_156 : decode cX7_add 156 = .ok (.getfield 43, 3) := by decide +kernel
theorem dX7_add_159 : decode cX7_add 159 = .ok (.iconst 1, 1) := by decide +kernel
theorem dX7_add_160 : decode cX7_add 160 = .ok (.iadd, 1) := by decide +kernel
theorem dX7_add_161 : decode cX7_add 161 = .ok (.putfield 43, 3) := by decide +kernel
theorem dX7_add_164 : decode cX7_add 164 = .ok (.goto 25, 3) := by decide +kernel
theorem dX7_add_167 : decode cX7_add 167 = .ok (.aload_n 0, 1) := by decide +kernel
theorem dX7_add_168 : decode cX7_add 168 = .ok (.getfield 33, 3) := by decide +kernel
theorem dX7_add_171 : decode cX7_add 171 = .ok (.aload_n 0, 1) := by decide +kernel
theorem dX7_add_172 : decode cX7_add 172 = .ok (.getfield 46, 3) := by decide +kernel
theorem dX7_add_175 : decode cX7_add 175 = .ok (.aload_n 2, 1) := by decide +kernel
theorem dX7_add_176 : decode cX7_add 176 = .ok (.iconst 0, 1) := by decide +kernel
theorem dX7_add_177 : decode cX7_add 177 = .ok (.iaload, 1) := by decide +kernel
theorem dX7_add_178 : decode cX7_add 178 = .ok (.iastore, 1) := by decide +kernel
theorem dX7_add_179 : decode cX7_add 179 = .ok (.aload_n 0, 1) := by decide +kernel
theorem dX7_add_180 : decode cX7_add 180 = .ok (.dup, 1) := by decide +kernel
theorem dX7_add_181 : decode cX7_add 181 = .ok (.getfield 46, 3) := by decide +kernel
theorem dX7_add_184 : decode cX7_add 184 = .ok (.iconst 1, 1) := by decide +kernel
theorem dX7_add_185 : decode cX7_add 185 = .ok (.iadd, 1) := by decide +kernel
theorem dX7_add_186 : decode cX7_add 186 = .ok (.putfield 46, 3) := by decide +kernel
theorem dX7_add_189 : decode cX7_add 189 = .ok (.return_, 1) := by decide +kernel
set_option maxRecDepth 20000 in
theorem bX7_add_0 {G : Gx} {mm : Nat → Nat → Int32} {lm : Nat → Int64} {x1 : Int32} {o : Ou} {z : Wd} {a b : Nat} (hw : ∃ (v2 : Int32), Ct G M_X7_isFull [.ref 13, .int x1] (SH, mm, lm) false (.inl (some (.int v2))) (SH, mm, lm) false 0 0 ∧ ((¬ v2 = 0) → o = .inl none ∧ z = (SH, mm, lm)) ∧ ((v2 = 0) → (x1 = 0 → ∃ j6 : Nat, 0 = nI j6 ∧ j6 < 3 ∧ ∃ j7 : Nat, (mm 13 8) = nI j7 ∧ j7 < 4 ∧ ∃ j8 : Nat, 1 = nI j8 ∧ j8 < 3 ∧ ∃ j9 : Nat, ((mset mm 14 j7 (mm 3 j6)) 13 8) = nI j9 ∧ j9 < 4 ∧ o = .inl none ∧ z = (SH, (mset (mset (mset mm 14 j7 (mm 3 j6)) 15 j9 ((mset mm 14 j7 (mm 3 j6)) 3 j8)) 13 8 (((mset (mset mm 14 j7 (mm 3 j6)) 15 j9 ((mset mm 14 j7 (mm 3 j6)) 3 j8)) 13 8) + 1)), lm)) ∧ (x1 = 1 → ∃ j10 : Nat, 0 = nI j10 ∧ j10 < 3 ∧ ∃ j11 : Nat, (mm 13 9) = nI j11 ∧ j11 < 8 ∧ ∃ j12 : Nat, 1 = nI j12 ∧ j12 < 3 ∧ ∃ j13 : Nat, ((mset mm 16 j11 (mm 3 j10)) 13 9) = nI j13 ∧ j13 < 8 ∧ ∃ j14 : Nat, 2 = nI j14 ∧ j14 < 3 ∧ ∃ j15 : Nat, ((mset (mset mm 16 j11 (mm 3 j10)) 17 j13 ((mset mm 16 j11 (mm 3 j10)) 3 j12)) 13 9) = nI j15 ∧ j15 < 8 ∧ o = .inl none ∧ z = (SH, (mset (mset (mset (mset mm 16 j11 (mm 3 j10)) 17 j13 ((mset mm 16 j11 (mm 3 j10)) 3 j12)) 18 j15 ((mset (mset mm 16 j11 (mm 3 j10)) 17 j13 ((mset mm 16 j11 (mm 3 j10)) 3 j12)) 3 j14)) 13 9 (((mset (mset (mset mm 16 j11 (mm 3 j10)) 17 j13 ((mset mm 16 j11 (mm 3 j10)) 3 j12)) 18 j15 ((mset (mset mm 16 j11 (mm 3 j10)) 17 j13 ((mset mm 16 j11 (mm 3 j10)) 3 j12)) 3 j14)) 13 9) + 1)), lm)) ∧ (x1 = 2 → ∃ j16 : Nat, 0 = nI j16 ∧ j16 < 3 ∧ ∃ j17 : Nat, (mm 13 10) = nI j17 ∧ j17 < 6 ∧ ∃ j18 : Nat, 1 = nI j18 ∧ j18 < 3 ∧ ∃ j19 : Nat, ((mset mm 19 j17 (mm 3 j16)) 13 10) = nI j19 ∧ j19 < 6 ∧ o = .inl none ∧ z = (SH, (mset (mset (mset mm 19 j17 (mm 3 j16)) 20 j19 ((mset mm 19 j17 (mm 3 j16)) 3 j18)) 13 10 (((mset (mset mm 19 j17 (mm 3 j16)) 20 j19 ((mset mm 19 j17 (mm 3 j16)) 3 j18)) 13 10) + 1)), lm)) ∧ (¬ x1 = 0 → ¬ x1 = 1 → ¬ x1 = 2 → ∃ j20 : Nat, 0 = nI j20 ∧ j20 < 3 ∧ ∃ j21 : Nat, (mm 13 11) = nI j21 ∧ j21 < 8 ∧ o = .inl none ∧ z = (SH, (mset (mset mm 21 j21 (mm 3 j20)) 13 11 (((mset mm 21 j21 (mm 3 j20)) 13 11) + 1)), lm)))) :
    J G M_X7_add 0 [(0, .ref 13), (1, .int x1), (2, .ref 3)] [] (SH, mm, lm) false o z false a b := by
  refine J_aload_n rfl (i := 0) rfl dX7_add_0 ?_
  refine J_iload_n rfl (i := 1) rfl dX7_add_1 ?_
  obtain ⟨v2, hc1, hw⟩ := hw
  refine J_callV (as := [.int x1]) (k := 13) (st := []) cal_X7_isFull cai_X7_isFull gw_590 ⟨by decide, by decide⟩ cnt_X7_isFull sh_13 rfl rfl (Nat.le_of_ble_eq_true rfl) dX7_add_2 (Nat.zero_add _).symm (Nat.zero_add _).symm hc1 ?_
  refine J_if_ne (tgt := 14) dX7_add_5 (by decide) (fun hb22 => ?_) (fun hb22 => ?_)
  · replace hw := hw.1 hb22
    exact J_finv rfl dX7_add_14 hw
  · replace hw := hw.2 hb22
    refine J_aload_n rfl (i := 2) rfl dX7_add_8 ?_
    refine J_alen (v := 3) sh_3 (by decide) (by decide) dX7_add_9 ?_
    refine J_iconst (v := 3) (by decide) dX7_add_10 ?_
    refine J_icmp_ge (tgt := 15) dX7_add_11 (by decide) (fun _ => ?_) (fun hb4 => absurd hb4 (by decide))
    refine J_iload_n rfl (i := 1) rfl dX7_add_15 ?_
    refine J_tab3 (t0 := 44) (t1 := 81) (t2 := 130) (t3 := 167) dX7_add_16 rfl rfl (by decide) (by decide) (by decide) (by decide) (fun hb5 => ?_) (fun hb5 => ?_) (fun hb5 => ?_) (fun hb5 hb5b hb5c => ?_)
    · replace hw := hw.1 hb5
      refine J_aload_n rfl (i := 0) rfl dX7_add_44 ?_
      refine J_getr kls_7 (q := 13) (k := 0) sh_13 (by decide) rfl gw_184 dX7_add_45 ?_
      refine J_aload_n rfl (i := 0) rfl dX7_add_48 ?_
      refine J_geti kls_7 (q := 13) (k := 8) sh_13 (by decide) rfl gw_200 dX7_add_49 ?_
      refine J_aload_n rfl (i := 2) rfl dX7_add_52 ?_
      refine J_iconst (v := 0) (by decide) dX7_add_53 ?_
      obtain ⟨j6, ej6, hj6, hw⟩ := hw
      refine J_iald sh_3 ej6 hj6 (by decide) dX7_add_54 ?_
      obtain ⟨j7, ej7, hj7, hw⟩ := hw
      refine J_iast sh_14 ej7 hj7 (by decide) dX7_add_55 ?_
      refine J_aload_n rfl (i := 0) rfl dX7_add_56 ?_
      refine J_getr kls_7 (q := 13) (k := 1) sh_13 (by decide) rfl gw_186 dX7_add_57 ?_
      refine J_aload_n rfl (i := 0) rfl dX7_add_60 ?_
      refine J_geti kls_7 (q := 13) (k := 8) sh_13 (by decide) rfl gw_200 dX7_add_61 ?_
      refine J_aload_n rfl (i := 2) rfl dX7_add_64 ?_
      refine J_iconst (v := 1) (by decide) dX7_add_65 ?_
      obtain ⟨j8, ej8, hj8, hw⟩ := hw
      refine J_iald sh_3 ej8 hj8 (by decide) dX7_add_66 ?_
      obtain ⟨j9, ej9, hj9, hw⟩ := hw
      refine J_iast sh_15 ej9 hj9 (by decide) dX7_add_67 ?_
      refine J_aload_n rfl (i := 0) rfl dX7_add_68 ?_
      refine J_dupr dX7_add_69 ?_
      refine J_geti kls_7 (q := 13) (k := 8) sh_13 (by decide) rfl gw_200 dX7_add_70 ?_
      refine J_iconst (v := 1) (by decide) dX7_add_73 ?_
      refine J_iadd dX7_add_74 ?_
      refine J_puti kls_7 (q := 13) (k := 8) sh_13 (by decide) rfl rfl (fun _ => rfl) (fun _ => rfl) gw_200 dX7_add_75 ?_
      refine J_goto (tgt := 189) dX7_add_78 (by decide) ?_
      exact J_finv rfl dX7_add_189 hw
    · replace hw := hw.2.1 hb5
      refine J_aload_n rfl (i := 0) rfl dX7_add_81 ?_
      refine J_getr kls_7 (q := 13) (k := 2) sh_13 (by decide) rfl gw_187 dX7_add_82 ?_
      refine J_aload_n rfl (i := 0) rfl dX7_add_85 ?_
      refine J_geti kls_7 (q := 13) (k := 9) sh_13 (by decide) rfl gw_205 dX7_add_86 ?_
      refine J_aload_n rfl (i := 2) rfl dX7_add_89 ?_
      refine J_iconst (v := 0) (by decide) dX7_add_90 ?_
      obtain ⟨j10, ej10, hj10, hw⟩ := hw
      refine J_iald sh_3 ej10 hj10 (by decide) dX7_add_91 ?_
      obtain ⟨j11, ej11, hj11, hw⟩ := hw
      refine J_iast sh_16 ej11 hj11 (by decide) dX7_add_92 ?_
      refine J_aload_n rfl (i := 0) rfl dX7_add_93 ?_
      refine J_getr kls_7 (q := 13) (k := 3) sh_13 (by decide) rfl gw_190 dX7_add_94 ?_
      refine J_aload_n rfl (i := 0) rfl dX7_add_97 ?_
      refine J_geti kls_7 (q := 13) (k := 9) sh_13 (by decide) rfl gw_205 dX7_add_98 ?_
      refine J_aload_n rfl (i := 2) rfl dX7_add_101 ?_
      refine J_iconst (v := 1) (by decide) dX7_add_102 ?_
      obtain ⟨j12, ej12, hj12, hw⟩ := hw
      refine J_iald sh_3 ej12 hj12 (by decide) dX7_add_103 ?_
      obtain ⟨j13, ej13, hj13, hw⟩ := hw
      refine J_iast sh_17 ej13 hj13 (by decide) dX7_add_104 ?_
      refine J_aload_n rfl (i := 0) rfl dX7_add_105 ?_
      refine J_getr kls_7 (q := 13) (k := 4) sh_13 (by decide) rfl gw_192 dX7_add_106 ?_
      refine J_aload_n rfl (i := 0) rfl dX7_add_109 ?_
      refine J_geti kls_7 (q := 13) (k := 9) sh_13 (by decide) rfl gw_205 dX7_add_110 ?_
      refine J_aload_n rfl (i := 2) rfl dX7_add_113 ?_
      refine J_iconst (v := 2) (by decide) dX7_add_114 ?_
      obtain ⟨j14, ej14, hj14, hw⟩ := hw
      refine J_iald sh_3 ej14 hj14 (by decide) dX7_add_115 ?_
      obtain ⟨j15, ej15, hj15, hw⟩ := hw
      refine J_iast sh_18 ej15 hj15 (by decide) dX7_add_116 ?_
      refine J_aload_n rfl (i := 0) rfl dX7_add_117 ?_
      refine J_dupr dX7_add_118 ?_
      refine J_geti kls_7 (q := 13) (k := 9) sh_13 (by decide) rfl gw_205 dX7_add_119 ?_
      refine J_iconst (v := 1) (by decide) dX7_add_122 ?_
      refine J_iadd dX7_add_123 ?_
      refine J_puti kls_7 (q := 13) (k := 9) sh_13 (by decide) rfl rfl (fun _ => rfl) (fun _ => rfl) gw_205 dX7_add_124 ?_
      refine J_goto (tgt := 189) dX7_add_127 (by decide) ?_
      exact J_finv rfl dX7_add_189 hw
    · replace hw := hw.2.2.1 hb5
      refine J_aload_n rfl (i := 0) rfl dX7_add_130 ?_
      refine J_getr kls_7 (q := 13) (k := 5) sh_13 (by decide) rfl gw_194 dX7_add_131 ?_
      refine J_aload_n rfl (i := 0) rfl dX7_add_134 ?_
      refine J_geti kls_7 (q := 13) (k := 10) sh_13 (by decide) rfl gw_213 dX7_add_135 ?_
      refine J_aload_n rfl (i := 2) rfl dX7_add_138 ?_
      refine J_iconst (v := 0) (by decide) dX7_add_139 ?_
      obtain ⟨j16, ej16, hj16, hw⟩ := hw
      refine J_iald sh_3 ej16 hj16 (by decide) dX7_add_140 ?_
      obtain ⟨j17, ej17, hj17, hw⟩ := hw
      refine J_iast sh_19 ej17 hj17 (by decide) dX7_add_141 ?_
      refine J_aload_n rfl (i := 0) rfl dX7_add_142 ?_
      refine J_getr kls_7 (q := 13) (k := 6) sh_13 (by decide) rfl gw_196 dX7_add_143 ?_
      refine J_aload_n rfl (i := 0) rfl dX7_add_146 ?_
      refine J_geti kls_7 (q := 13) (k := 10) sh_13 (by decide) rfl gw_213 dX7_add_147 ?_
      refine J_aload_n rfl (i := 2) rfl dX7_add_150 ?_
      refine J_iconst (v := 1) (by decide) dX7_add_151 ?_
      obtain ⟨j18, ej18, hj18, hw⟩ := hw
      refine J_iald sh_3 ej18 hj18 (by decide) dX7_add_152 ?_
      obtain ⟨j19, ej19, hj19, hw⟩ := hw
      refine J_iast sh_20 ej19 hj19 (by decide) dX7_add_153 ?_
      refine J_aload_n rfl (i := 0) rfl dX7_add_154 ?_
      refine J_dupr dX7_add_155 ?_
      refine J_geti kls_7 (q := 13) (k := 10) sh_13 (by decide) rfl gw_213 dX7_add_156 ?_
      refine J_iconst (v := 1) (by decide) dX7_add_159 ?_
      refine J_iadd dX7_add_160 ?_
      refine J_puti kls_7 (q := 13) (k := 10) sh_13 (by decide) rfl rfl (fun _ => rfl) (fun _ => rfl) gw_213 dX7_add_161 ?_
      refine J_goto (tgt := 189) dX7_add_164 (by decide) ?_
      exact J_finv rfl dX7_add_189 hw
    · replace hw := hw.2.2.2 hb5 hb5b hb5c
      refine J_aload_n rfl (i := 0) rfl dX7_add_167 ?_
      refine J_getr kls_7 (q := 13) (k := 7) sh_13 (by decide) rfl gw_198 dX7_add_168 ?_
      refine J_aload_n rfl (i := 0) rfl dX7_add_171 ?_
      refine J_geti kls_7 (q := 13) (k := 11) sh_13 (by decide) rfl gw_215 dX7_add_172 ?_
      refine J_aload_n rfl (i := 2) rfl dX7_add_175 ?_
      refine J_iconst (v := 0) (by decide) dX7_add_176 ?_
      obtain ⟨j20, ej20, hj20, hw⟩ := hw
      refine J_iald sh_3 ej20 hj20 (by decide) dX7_add_177 ?_
      obtain ⟨j21, ej21, hj21, hw⟩ := hw
      refine J_iast sh_21 ej21 hj21 (by decide) dX7_add_178 ?_
      refine J_aload_n rfl (i := 0) rfl dX7_add_179 ?_
      refine J_dupr dX7_add_180 ?_
      refine J_geti kls_7 (q := 13) (k := 11) sh_13 (by decide) rfl gw_215 dX7_add_181 ?_
      refine J_iconst (v := 1) (by decide) dX7_add_184 ?_
      refine J_iadd dX7_add_185 ?_
      refine J_puti kls_7 (q := 13) (k := 11) sh_13 (by decide) rfl rfl (fun _ => rfl) (fun _ => rfl) gw_215 dX7_add_186 ?_
      exact J_finv rfl dX7_add_189 hw
theorem dX7_copyFrom_0 : decode cX7_copyFrom 0 = .ok (.aload_n 1, 1) := by decide +kernel
theorem dX7_copyFrom_1 : decode cX7_copyFrom 1 = .ok (.getfield 9, 3) := by decide +kernel
theorem dX7_copyFrom_4 : decode cX7_copyFrom 4 = .ok (.iconst 0, 1) := by decide +kernel
theorem dX7_copyFrom_5 : decode cX7_copyFrom 5 = .ok (.aload_n 0, 1) := by decide +kernel
theorem dX7_copyFrom_6 : decode cX7_copyFrom 6 = .ok (.getfield 9, 3) := by decide +kernel
theorem dX7_copyFrom_9 : decode cX7_copyFrom 9 = .ok (.iconst 0, 1) := by decide +kernel
theorem dX7_copyFrom_10 : decode cX7_copyFrom 10 = .ok (.iconst 4, 1) := by decide +kernel
theorem dX7_copyFrom_11 : decode cX7_copyFrom 11 = .ok (.invokestatic 53, 3) := by decide +kernel
theorem dX7_copyFrom_14 : decode cX7_copyFrom 14 = .ok (.aload_n 1, 1) := by decide +kernel
theorem dX7_copyFrom_15 : decode cX7_copyFrom 15 = .ok (.getfield 15, 3) := by decide +kernel
theorem dX7_copyFrom_18 : decode cX7_copyFrom 18 = .ok (.iconst 0, 1) := by decide +kernel
theorem dX7_copyFrom_19 : decode cX7_copyFrom 19 = .ok (.aload_n 0, 1) := by decide +kernel
theorem dX7_copyFrom_20 : decode cX7_copyFrom 20 = .ok (.getfield 15, 3) := by decide +kernel
theorem dX7_copyFrom_23 : decode cX7_copyFrom 23 = .ok (.iconst 0, 1) := by decide +kernel
theorem dX7_copyFrom_24 : decode cX7_copyFrom 24 = .ok (.iconst 4, 1) := by decide +kernel
theorem dX7_copyFrom_25 : decode cX7_copyFrom 25 = .ok (.invokestatic 53, 3) := by decide +kernel
theorem dX7_copyFrom_28 : decode cX7_copyFrom 28 = .ok (.aload_n 1, 1) := by decide +kernel
theorem dX7_copyFrom_29 : decode cX7_copyFrom 29 = .ok (.getfield 18, 3) := by decide +kernel
theorem dX7_copyFrom_32 : decode cX7_copyFrom 32 = .ok (.iconst 0, 1) := by decide +kernel
theorem dX7_copyFrom_33 : decode cX7_copyFrom 33 = .ok (.aload_n 0, 1) := by decide +kernel
theorem dX7_copyFrom_34 : decode cX7_copyFrom 34 = .ok (.getfield 18, 3) := by decide +kernel
theorem dX7_copyFrom_37 : decode cX7_copyFrom 37 = .ok (.iconst 0, 1) := by decide +kernel
theorem dX7_copyFrom_38 : decode cX7_copyFrom 38 = .ok (.bipush 8, 2) := by decide +kernel
theorem dX7_copyFrom_40 : decode cX7_copyFrom 40 = .ok (.invokestatic 53, 3) := by decide +kernel
theorem dX7_copyFrom_43 : decode cX7_copyFrom 43 = .ok (.aload_n 1, 1) := by decide +kernel
theorem dX7_copyFrom_44 : decode cX7_copyFrom 44 = .ok (.getfield 21, 3) := by decide +kernel
theorem dX7_copyFrom_47 : decode cX7_copyFrom 47 = .ok (.iconst 0, 1) := by decide +kernel
theorem dX7_copyFrom_48 : decode cX7_copyFrom 48 = .ok (.aload_n 0, 1) := by decide +kernel
theorem dX7_copyFrom_49 : decode cX7_copyFrom 49 = .ok (.getfield 21, 3) := by decide +kernel
theorem dX7_copyFrom_52 : decode cX7_copyFrom 52 = .ok (.iconst 0, 1) := by decide +kernel
theorem dX7_copyFrom_53 : decode cX7_copyFrom 53 = .ok (.bipush 8, 2) := by decide +kernel
theorem dX7_copyFrom_55 : decode cX7_copyFrom 55 = .ok (.invokestatic 53, 3) := by decide +kernel
theorem dX7_copyFrom_58 : decode cX7_copyFrom 58 = .ok (.aload_n 1, 1) := by decide +kernel
theorem dX7_copyFrom_59 : decode cX7_copyFrom 59 = .ok (.getfield 24, 3) := by decide +kernel
theorem dX7_copyFrom_62 : decode cX7_copyFrom 62 = .ok (.iconst 0, 1) := by decide +kernel
theorem dX7_copyFrom_63 : decode cX7_copyFrom 63 = .ok (.aload_n 0, 1) := by decide +kernel
theorem dX7_copyFrom_64 : decode cX7_copyFrom 64 = .ok (.getfield 24, 3) := by decide +kernel
theorem dX7_copyFrom_67 : decode cX7_copyFrom 67 = .ok (.iconst 0, 1) := by decide +kernel
theorem dX7_copyFrom_68 : decode cX7_copyFrom 68 = .ok (.bipush 8, 2) := by decide +kernel
theorem dX7_copyFrom_70 : decode cX7_copyFrom 70 = .ok (.invokestatic 53, 3) := by decide +kernel
theorem dX7_copyFrom_73 : decode cX7_copyFrom 73 = .ok (.aload_n 1, 1) := by decide +kernel
theorem dX7_copyFrom_74 : decode cX7_copyFrom 74 = .ok (.getfield 27, 3) := by decide +kernel
theorem dX7_copyFrom_77 : decode cX7_copyFrom 77 = .ok (.iconst 0, 1) := by decide +kernel
theorem dX7_copyFrom_78 : decode cX7_copyFrom 78 = .ok (.aload_n 0, 1) := by decide +kernel
theorem dX7_copyFrom_79 : decode cX7_copyFrom 79 = .ok (.getfield 27, 3) := by decide +kernel
theorem dX7_copyFrom_82 : decode cX7_copyFrom 82 = .ok (.iconst 0, 1) := by decide +kernel
theorem dX7_copyFrom_83 : decode cX7_copyFrom 83 = .ok (.bipush 6, 2) := by decide +kernel
theorem dX7_copyFrom_85 : decode cX7_copyFrom 85 = .ok (.invokestatic 53, 3) := by decide +kernel
theorem dX7_copyFrom_88 : decode cX7_copyFrom 88 = .ok (.aload_n 1, 1) := by decide +kernel
theorem dX7_copyFrom_89 : decode cX7_copyFrom 89 = .ok (.getfield 30, 3) := by decide +kernel
theorem dX7_copyFrom_92 : decode cX7_copyFrom 92 = .ok (.iconst 0, 1) := by decide +kernel
theorem dX7_copyFrom_93 : decode cX7_copyFrom 93 = .ok (.aload_n 0, 1) := by decide +kernel
theorem dX7_copyFrom_94 : decode cX7_copyFrom 94 = .ok (.getfield 30, 3) := by decide +kernel
theorem dX7_copyFrom_97 : decode cX7_copyFrom 97 = .ok (.iconst 0, 1) := by decide +kernel
theorem dX7_copyFrom_98 : decode cX7_copyFrom 98 = .ok (.bipush 6, 2) := by decide +kernel
theorem dX7_copyFrom_100 : decode cX7_copyFrom 100 = .ok (.invokestatic 53, 3) := by decide +kernel
theorem dX7_copyFrom_103 : decode cX7_copyFrom 103 = .ok (.aload_n 1, 1) := by decide +kernel
theorem dX7_copyFrom_104 : decode cX7_copyFrom 104 = .ok (.getfield 33, 3) := by decide +kernel
theorem dX7_copyFrom_107 : decode cX7_copyFrom 107 = .ok (.iconst 0, 1) := by decide +kernel
theorem dX7_copyFrom_108 : decode cX7_copyFrom 108 = .ok (.aload_n 0, 1) := by decide +kernel
theorem dX7_copyFrom_109 : decode cX7_copyFrom 109 = .ok (.getfield 33, 3) := by decide +kernel
theorem dX7_copyFrom_112 : decode cX7_copyFrom 112 = .ok (.iconst 0, 1) := by decide +kernel
theorem dX7_copyFrom_113 : decode cX7_copyFrom 113 = .ok (.bipush 8, 2) := by decide +kernel
theorem dX7_copyFrom_115 : decode cX7_copyFrom 115 = .ok (.invokestatic 53, 3) := by decide +kernel
theorem dX7_copyFrom_118 : decode cX7_copyFrom 118 = .ok (.aload_n 0, 1) := by decide +kernel
theorem dX7_copyFrom_119 : decode cX7_copyFrom 119 = .ok (.aload_n 1, 1) := by decide +kernel
theorem dX7_copyFrom_120 : decode cX7_copyFrom 120 = .ok (.getfield 36, 3) := by decide +kernel
theorem dX7_copyFrom_123 : decode cX7_copyFrom 123 = .ok (.putfield 36, 3) := by decide +kernel
theorem dX7_copyFrom_126 : decode cX7_copyFrom 126 = .ok (.aload_n 0, 1) := by decide +kernel
theorem dX7_copyFrom_127 : decode cX7_copyFrom 127 = .ok (.aload_n 1, 1) := by decide +kernel
theorem dX7_copyFrom_128 : decode cX7_copyFrom 128 = .ok (.getfield 40, 3) := by decide +kernel
theorem dX7_copyFrom_131 : decode cX7_copyFrom 131 = .ok (.putfield 40, 3) := by decide +kernel
theorem dX7_copyFrom_134 : decode cX7_copyFrom 134 = .ok (.aload_n 0, 1) := by decide +kernel
theorem dX7_copyFrom_135 : decode cX7_copyFrom 135 = .ok (.aload_n 1, 1) := by decide +kernel
theorem dX7_copyFrom_136 : decode cX7_copyFrom 136 = .ok (.getfield 43, 3) := by decide +kernel
theorem dX7_copyFrom_139 : decode cX7_copyFrom 139 = .ok (.putfield 43, 3) := by decide +kernel
theorem dX7_copyFrom_142 : decode cX7_copyFrom 142 = .ok (.aload_n 0, 1) := by decide +kernel
theorem dX7_copyFrom_143 : decode cX7_copyFrom 143 = .ok (.aload_n 1, 1) := by decide +kernel
theorem dX7_copyFrom_144 : decode cX7_copyFrom 144 = .ok (.getfield 46, 3) := by decide +kernel
theorem dX7_copyFrom_147 : decode cX7_copyFrom 147 = .ok (.putfield 46, 3) := by decide +kernel
theorem dX7_copyFrom_150 : decode cX7_copyFrom 150 = .ok (.return_, 1) := by decide +kernel
set_option maxRecDepth 20000 in
theorem bX7_copyFrom_0 {G : Gx} {mm : Nat → Nat → Int32} {lm : Nat → Int64}  {o : Ou} {z : Wd} {a b : Nat} (hw : o = .inl none ∧ z = (SH, (mset (mset (mset (mset (mcpy (mcpy (mcpy (mcpy (mcpy (mcpy (mcpy (mcpy mm 14 5 4) 15 6 4) 16 7 8) 17 8 8) 18 9 8) 19 10 6) 20 11 6) 21 12 8) 4 8 ((mcpy (mcpy (mcpy (mcpy (mcpy (mcpy (mcpy (mcpy mm 14 5 4) 15 6 4) 16 7 8) 17 8 8) 18 9 8) 19 10 6) 20 11 6) 21 12 8) 13 8)) 4 9 ((mset (mcpy (mcpy (mcpy (mcpy (mcpy (mcpy (mcpy (mcpy mm 14 5 4) 15 6 4) 16 7 8) 17 8 8) 18 9 8) 19 10 6) 20 11 6) 21 12 8) 4 8 ((mcpy (mcpy (mcpy (mcpy (mcpy (mcpy (mcpy (mcpy mm 14 5 4) 15 6 4) 16 7 8) 17 8 8) 18 9 8) 19 10 6) 20 11 6) 21 12 8) 13 8)) 13 9)) 4 10 ((mset (mset (mcpy (mcpy (mcpy (mcpy (mcpy (mcpy (mcpy (mcpy mm 14 5 4) 15 6 4) 16 7 8) 17 8 8) 18 9 8) 19 10 6) 20 11 6) 21 12 8) 4 8 ((mcpy (mcpy (mcpy (mcpy (mcpy (mcpy (mcpy (mcpy mm 14 5 4) 15 6 4) 16 7 8) 17 8 8) 18 9 8) 19 10 6) 20 11 6) 21 12 8) 13 8)) 4 9 ((mset (mcpy (mcpy (mcpy (mcpy (mcpy (mcpy (mcpy (mcpy mm 14 5 4) 15 6 4) 16 7 8) 17 8 8) 18 9 8) 19 10 6) 20 11 6) 21 12 8) 4 8 ((mcpy (mcpy (mcpy (mcpy (mcpy (mcpy (mcpy (mcpy mm 14 5 4) 15 6 4) 16 7 8) 17 8 8) 18 9 8) 19 10 6) 20 11 6) 21 12 8) 13 8)) 13 9)) 13 10)) 4 11 ((mset (mset (mset (mcpy (mcpy (mcpy (mcpy (mcpy (mcpy (mcpy (mcpy mm 14 5 4) 15 6 4) 16 7 8) 17 8 8) 18 9 8) 19 10 6) 20 11 6) 21 12 8) 4 8 ((mcpy (mcpy (mcpy (mcpy (mcpy (mcpy (mcpy (mcpy mm 14 5 4) 15 6 4) 16 7 8) 17 8 8) 18 9 8) 19 10 6) 20 11 6) 21 12 8) 13 8)) 4 9 ((mset (mcpy (mcpy (mcpy (mcpy (mcpy (mcpy (mcpy (mcpy mm 14 5 4) 15 6 4) 16 7 8) 17 8 8) 18 9 8) 19 10 6) 20 11 6) 21 12 8) 4 8 ((mcpy (mcpy (mcpy (mcpy (mcpy (mcpy (mcpy (mcpy mm 14 5 4) 15 6 4) 16 7 8) 17 8 8) 18 9 8) 19 10 6) 20 11 6) 21 12 8) 13 8)) 13 9)) 4 10 ((mset (mset (mcpy (mcpy (mcpy (mcpy (mcpy (mcpy (mcpy (mcpy mm 14 5 4) 15 6 4) 16 7 8) 17 8 8) 18 9 8) 19 10 6) 20 11 6) 21 12 8) 4 8 ((mcpy (mcpy (mcpy (mcpy (mcpy (mcpy (mcpy (mcpy mm 14 5 4) 15 6 4) 16 7 8) 17 8 8) 18 9 8) 19 10 6) 20 11 6) 21 12 8) 13 8)) 4 9 ((mset (mcpy (mcpy (mcpy (mcpy (mcpy (mcpy (mcpy (mcpy mm 14 5 4) 15 6 4) 16 7 8) 17 8 8) 18 9 8) 19 10 6) 20 11 6) 21 12 8) 4 8 ((mcpy (mcpy (mcpy (mcpy (mcpy (mcpy (mcpy (mcpy mm 14 5 4) 15 6 4) 16 7 8) 17 8 8) 18 9 8) 19 10 6) 20 11 6) 21 12 8) 13 8)) 13 9)) 13 10)) 13 11)), lm)) :
    J G M_X7_copyFrom 0 [(0, .ref 4), (1, .ref 13)] [] (SH, mm, lm) false o z false a b := by
  refine J_aload_n rfl (i := 1) rfl dX7_copyFrom_0 ?_
  refine J_getr kls_7 (q := 13) (k := 0) sh_13 (by decide) rfl gw_184 dX7_copyFrom_1 ?_
  refine J_iconst (v := 0) (by decide) dX7_copyFrom_4 ?_
  refine J_aload_n rfl (i := 0) rfl dX7_copyFrom_5 ?_
  refine J_getr kls_7 (q := 4) (k := 0) sh_4 (by decide) rfl gw_184 dX7_copyFrom_6 ?_
  refine J_iconst (v := 0) (by decide) dX7_copyFrom_9 ?_
  refine J_iconst (v := 4) (by decide) dX7_copyFrom_10 ?_
  refine J_copy (N := 4) sh_14 sh_5 rfl (by decide) (by decide) gw_595 gw_597 gw_596 gw_128 (Nat.le_of_ble_eq_true rfl) (by decide) (by decide) dX7_copyFrom_11 ?_
  refine J_aload_n rfl (i := 1) rfl dX7_copyFrom_14 ?_
  refine J_getr kls_7 (q := 13) (k := 1) sh_13 (by decide) rfl gw_186 dX7_copyFrom_15 ?_
  refine J_iconst (v := 0) (by decide) dX7_copyFrom_18 ?_
  refine J_aload_n rfl (i := 0) rfl dX7_copyFrom_19 ?_
  refine J_getr kls_7 (q := 4) (k := 1) sh_4 (by decide) rfl gw_186 dX7_copyFrom_20 ?_
  refine J_iconst (v := 0) (by decide) dX7_copyFrom_23 ?_
  refine J_iconst (v := 4) (by decide) dX7_copyFrom_24 ?_
  refine J_copy (N := 4) sh_15 sh_6 rfl (by decide) (by decide) gw_595 gw_597 gw_596 gw_128 (Nat.le_of_ble_eq_true rfl) (by decide) (by decide) dX7_copyFrom_25 ?_
  refine J_aload_n rfl (i := 1) rfl dX7_copyFrom_28 ?_
  refine J_getr kls_7 (q := 13) (k := 2) sh_13 (by decide) rfl gw_187 dX7_copyFrom_29 ?_
  refine J_iconst (v := 0) (by decide) dX7_copyFrom_32 ?_
  refine J_aload_n rfl (i := 0) rfl dX7_copyFrom_33 ?_
  refine J_getr kls_7 (q := 4) (k := 2) sh_4 (by decide) rfl gw_187 dX7_copyFrom_34 ?_
  refine J_iconst (v := 0) (by decide) dX7_copyFrom_37 ?_
  refine J_bipush (v := 8) (by decide) dX7_copyFrom_38 ?_
  refine J_copy (N := 8) sh_16 sh_7 rfl (by decide) (by decide) gw_595 gw_597 gw_596 gw_128 (Nat.le_of_ble_eq_true rfl) (by decide) (by decide) dX7_copyFrom_40 ?_
  refine J_aload_n rfl (i := 1) rfl dX7_copyFrom_43 ?_
  refine J_getr kls_7 (q := 13) (k := 3) sh_13 (by decide) rfl gw_190 dX7_copyFrom_44 ?_
  refine J_iconst (v := 0) (by decide) dX7_copyFrom_47 ?_
  refine J_aload_n rfl (i := 0) rfl dX7_copyFrom_48 ?_
  refine J_getr kls_7 (q := 4) (k := 3) sh_4 (by decide) rfl gw_190 dX7_copyFrom_49 ?_
  refine J_iconst (v := 0) (by decide) dX7_copyFrom_52 ?_
  refine J_bipush (v := 8) (by decide) dX7_copyFrom_53 ?_
  refine J_copy (N := 8) sh_17 sh_8 rfl (by decide) (by decide) gw_595 gw_597 gw_596 gw_128 (Nat.le_of_ble_eq_true rfl) (by decide) (by decide) dX7_copyFrom_55 ?_
  refine J_aload_n rfl (i := 1) rfl dX7_copyFrom_58 ?_
  refine J_getr kls_7 (q := 13) (k := 4) sh_13 (by decide) rfl gw_192 dX7_copyFrom_59 ?_
  refine J_iconst (v := 0) (by decide) dX7_copyFrom_62 ?_
  refine J_aload_n rfl (i := 0) rfl dX7_copyFrom_63 ?_
  refine J_getr kls_7 (q := 4) (k := 4) sh_4 (by decide) rfl gw_192 dX7_copyFrom_64 ?_
  refine J_iconst (v := 0) (by decide) dX7_copyFrom_67 ?_
  refine J_bipush (v := 8) (by decide) dX7_copyFrom_68 ?_
  refine J_copy (N := 8) sh_18 sh_9 rfl (by decide) (by decide) gw_595 gw_597 gw_596 gw_128 (Nat.le_of_ble_eq_true rfl) (by decide) (by decide) dX7_copyFrom_70 ?_
  refine J_aload_n rfl (i := 1) rfl dX7_copyFrom_73 ?_
  refine J_getr kls_7 (q := 13) (k := 5) sh_13 (by decide) rfl gw_194 dX7_copyFrom_74 ?_
  refine J_iconst (v := 0) (by decide) dX7_copyFrom_77 ?_
  refine J_aload_n rfl (i := 0) rfl dX7_copyFrom_78 ?_
  refine J_getr kls_7 (q := 4) (k := 5) sh_4 (by decide) rfl gw_194 dX7_copyFrom_79 ?_
  refine J_iconst (v := 0) (by decide) dX7_copyFrom_82 ?_
  refine J_bipush (v := 6) (by decide) dX7_copyFrom_83 ?_
  refine J_copy (N := 6) sh_19 sh_10 rfl (by decide) (by decide) gw_595 gw_597 gw_596 gw_128 (Nat.le_of_ble_eq_true rfl) (by decide) (by decide) dX7_copyFrom_85 ?_
  refine J_aload_n rfl (i := 1) rfl dX7_copyFrom_88 ?_
  refine J_getr kls_7 (q := 13) (k := 6) sh_13 (by decide) rfl gw_196 dX7_copyFrom_89 ?_
  refine J_iconst (v := 0) (by decide) dX7_copyFrom_92 ?_
  refine J_aload_n rfl (i := 0) rfl dX7_copyFrom_93 ?_
  refine J_getr kls_7 (q := 4) (k := 6) sh_4 (by decide) rfl gw_196 dX7_copyFrom_94 ?_
  refine J_iconst (v := 0) (by decide) dX7_copyFrom_97 ?_
  refine J_bipush (v := 6) (by decide) dX7_copyFrom_98 ?_
  refine J_copy (N := 6) sh_20 sh_11 rfl (by decide) (by decide) gw_595 gw_597 gw_596 gw_128 (Nat.le_of_ble_eq_true rfl) (by decide) (by decide) dX7_copyFrom_100 ?_
  refine J_aload_n rfl (i := 1) rfl dX7_copyFrom_103 ?_
  refine J_getr kls_7 (q := 13) (k := 7) sh_13 (by decide) rfl gw_198 dX7_copyFrom_104 ?_
  refine J_iconst (v := 0) (by decide) dX7_copyFrom_107 ?_
  refine J_aload_n rfl (i := 0) rfl dX7_copyFrom_108 ?_
  refine J_getr kls_7 (q := 4) (k := 7) sh_4 (by decide) rfl gw_198 dX7_copyFrom_109 ?_
  refine J_iconst (v := 0) (by decide) dX7_copyFrom_112 ?_
  refine J_bipush (v := 8) (by decide) dX7_copyFrom_113 ?_
  refine J_copy (N := 8) sh_21 sh_12 rfl (by decide) (by decide) gw_595 gw_597 gw_596 gw_128 (Nat.le_of_ble_eq_true rfl) (by decide) (by decide) dX7_copyFrom_115 ?_
  refine J_aload_n rfl (i := 0) rfl dX7_copyFrom_118 ?_
  refine J_aload_n rfl (i := 1) rfl dX7_copyFrom_119 ?_
  refine J_geti kls_7 (q := 13) (k := 8) sh_13 (by decide) rfl gw_200 dX7_copyFrom_120 ?_
  refine J_puti kls_7 (q := 4) (k := 8) sh_4 (by decide) rfl rfl (fun _ => rfl) (fun _ => rfl) gw_200 dX7_copyFrom_123 ?_
  refine J_aload_n rfl (i := 0) rfl dX7_copyFrom_126 ?_
  refine J_aload_n rfl (i := 1) rfl dX7_copyFrom_127 ?_
  refine J_geti kls_7 (q := 13) (k := 9) sh_13 (by decide) rfl gw_205 dX7_copyFrom_128 ?_
  refine J_puti kls_7 (q := 4) (k := 9) sh_4 (by decide) rfl rfl (fun _ => rfl) (fun _ => rfl) gw_205 dX7_copyFrom_131 ?_
  refine J_aload_n rfl (i := 0) rfl dX7_copyFrom_134 ?_
  refine J_aload_n rfl (i := 1) rfl dX7_copyFrom_135 ?_
  refine J_geti kls_7 (q := 13) (k := 10) sh_13 (by decide) rfl gw_213 dX7_copyFrom_136 ?_
  refine J_puti kls_7 (q := 4) (k := 10) sh_4 (by decide) rfl rfl (fun _ => rfl) (fun _ => rfl) gw_213 dX7_copyFrom_139 ?_
  refine J_aload_n rfl (i := 0) rfl dX7_copyFrom_142 ?_
  refine J_aload_n rfl (i := 1) rfl dX7_copyFrom_143 ?_
  refine J_geti kls_7 (q := 13) (k := 11) sh_13 (by decide) rfl gw_215 dX7_copyFrom_144 ?_
  refine J_puti kls_7 (q := 4) (k := 11) sh_4 (by decide) rfl rfl (fun _ => rfl) (fun _ => rfl) gw_215 dX7_copyFrom_147 ?_
  exact J_finv rfl dX7_copyFrom_150 hw
theorem dX7_keepsClear_0 : decode cX7_keepsClear 0 = .ok (.iload_n 3, 1) := by decide +kernel
theorem dX7_keepsClear_1 : decode cX7_keepsClear 1 = .ok (.invokestatic 59, 3) := by decide +kernel
theorem dX7_keepsClear_4 : decode cX7_keepsClear 4 = .ok (.aload_n 0, 1) := by decide +kernel
theorem dX7_keepsClear_5 : decode cX7_keepsClear 5 = .ok (.getfield 21, 3) := by decide +kernel
theorem dX7_keepsClear_8 : decode cX7_keepsClear 8 = .ok (.iload_n 1, 1) := by decide +kernel
theorem dX7_keepsClear_9 : decode cX7_keepsClear 9 = .ok (.iaload, 1) := by decide +kernel
theorem dX7_keepsClear_10 : decode cX7_keepsClear 10 = .ok (.aload_n 0, 1) := by decide +kernel
theorem dX7_keepsClear_11 : decode cX7_keepsClear 11 = .ok (.getfield 21, 3) := by decide +kernel
theorem dX7_keepsClear_14 : decode cX7_keepsClear 14 = .ok (.iload_n 2, 1) := by decide +kernel
theorem dX7_keepsClear_15 : decode cX7_keepsClear 15 = .ok (.iaload, 1) := by decide +kernel
theorem dX7_keepsClear_16 : decode cX7_keepsClear 16 = .ok (.iadd, 1) := by decide +kernel
theorem dX7_keepsClear_17 : decode cX7_keepsClear 17 = .ok (.if_icmp .lt 7, 3) := by decide +kernel
theorem dX7_keepsClear_20 : decode cX7_keepsClear 20 = .ok (.iconst 1, 1) := by decide +kernel
theorem dX7_keepsClear_21 : decode cX7_keepsClear 21 = .ok (.goto 4, 3) := by decide +kernel
theorem dX7_keepsClear_24 : decode cX7_keepsClear 24 = .ok (.iconst 0, 1) := by decide +kernel
theorem dX7_keepsClear_25 : decode cX7_keepsClear 25 = .ok (.ireturn, 1) := by decide +kernel
set_option maxRecDepth 20000 in
theorem bX7_keepsClear_0 {G : Gx} {mm : Nat → Nat → Int32} {lm : Nat → Int64} {x1 : Int32} {x2 : Int32} {x3 : Int32} {o : Ou} {z : Wd} {a b : Nat} (hw : ∃ (v2 : Int32), Ct G M_J9_abs_0f7a4 [.int x3] (SH, mm, lm) false (.inl (some (.int v2))) (SH, mm, lm) false 0 0 ∧ ∃ j4 : Nat, x1 = nI j4 ∧ j4 < 8 ∧ ∃ j5 : Nat, x2 = nI j5 ∧ j5 < 8 ∧ ((v2 < ((mm 8 j4) + (mm 8 j5))) → o = .inl (some (.int 0)) ∧ z = (SH, mm, lm)) ∧ ((¬ v2 < ((mm 8 j4) + (mm 8 j5))) → o = .inl (some (.int 1)) ∧ z = (SH, mm, lm))) :
    J G M_X7_keepsClear 0 [(0, .ref 4), (1, .int x1), (2, .int x2), (3, .int x3)] [] (SH, mm, lm) false o z false a b := by
  refine J_iload_n rfl (i := 3) rfl dX7_keepsClear_0 ?_
  obtain ⟨v2, hc1, hw⟩ := hw
  refine J_callS (as := [.int x3]) (st := []) cal_J9_abs_0f7a4 cas_J9_abs_0f7a4 gw_762 ⟨by decide, by decide⟩ cnt_J9_abs_0f7a4 rfl (Nat.le_of_ble_eq_true rfl) dX7_keepsClear_1 (Nat.zero_add _).symm (Nat.zero_add _).symm hc1 ?_
  refine J_aload_n rfl (i := 0) rfl dX7_keepsClear_4 ?_
  refine J_getr kls_7 (q := 4) (k := 3) sh_4 (by decide) rfl gw_190 dX7_keepsClear_5 ?_
  refine J_iload_n rfl (i := 1) rfl dX7_keepsClear_8 ?_
  obtain ⟨j4, ej4, hj4, hw⟩ := hw
  refine J_iald sh_8 ej4 hj4 (by decide) dX7_keepsClear_9 ?_
  refine J_aload_n rfl (i := 0) rfl dX7_keepsClear_10 ?_
  refine J_getr kls_7 (q := 4) (k := 3) sh_4 (by decide) rfl gw_190 dX7_keepsClear_11 ?_
  refine J_iload_n rfl (i := 2) rfl dX7_keepsClear_14 ?_
  obtain ⟨j5, ej5, hj5, hw⟩ := hw
  refine J_iald sh_8 ej5 hj5 (by decide) dX7_keepsClear_15 ?_
  refine J_iadd dX7_keepsClear_16 ?_
  refine J_icmp_lt (tgt := 24) dX7_keepsClear_17 (by decide) (fun hb6 => ?_) (fun hb6 => ?_)
  · replace hw := hw.1 hb6
    refine J_iconst (v := 0) (by decide) dX7_keepsClear_24 ?_
    exact J_fini (ty := .boolean) rfl rfl dX7_keepsClear_25 hw
  · replace hw := hw.2 hb6
    refine J_iconst (v := 1) (by decide) dX7_keepsClear_20 ?_
    refine J_goto (tgt := 25) dX7_keepsClear_21 (by decide) ?_
    exact J_fini (ty := .boolean) rfl rfl dX7_keepsClear_25 hw
theorem dX7_bears_0 : decode cX7_bears 0 = .ok (.iload_n 2, 1) := by decide +kernel
theorem dX7_bears_1 : decode cX7_bears 1 = .ok (.invokestatic 59, 3) := by decide +kernel
theorem dX7_bears_4 : decode cX7_bears 4 = .ok (.aload_n 0, 1) := by decide +kernel
theorem dX7_bears_5 : decode cX7_bears 5 = .ok (.getfield 15, 3) := by decide +kernel
theorem dX7_bears_8 : decode cX7_bears 8 = .ok (.iload_n 1, 1) := by decide +kernel
theorem dX7_bears_9 : decode cX7_bears 9 = .ok (.iaload, 1) := by decide +kernel
theorem dX7_bears_10 : decode cX7_bears 10 = .ok (.if_icmp .gt 7, 3) := by decide +kernel
theorem dX7_bears_13 : decode cX7_bears 13 = .ok (.iconst 1, 1) := by decide +kernel
theorem dX7_bears_14 : decode cX7_bears 14 = .ok (.goto 4, 3) := by decide +kernel
theorem dX7_bears_17 : decode cX7_bears 17 = .ok (.iconst 0, 1) := by decide +kernel
theorem dX7_bears_18 : decode cX7_bears 18 = .ok (.ireturn, 1) := by decide +kernel
set_option maxRecDepth 20000 in
theorem bX7_bears_0 {G : Gx} {mm : Nat → Nat → Int32} {lm : Nat → Int64} {x1 : Int32} {x2 : Int32} {o : Ou} {z : Wd} {a b : Nat} (hw : ∃ (v2 : Int32), Ct G M_J9_abs_0f7a4 [.int x2] (SH, mm, lm) false (.inl (some (.int v2))) (SH, mm, lm) false 0 0 ∧ ∃ j4 : Nat, x1 = nI j4 ∧ j4 < 4 ∧ (((mm 6 j4) < v2) → o = .inl (some (.int 0)) ∧ z = (SH, mm, lm)) ∧ ((¬ (mm 6 j4) < v2) → o = .inl (some (.int 1)) ∧ z = (SH, mm, lm))) :
    J G M_X7_bears 0 [(0, .ref 4), (1, .int x1), (2, .int x2)] [] (SH, mm, lm) false o z false a b := by
  refine J_iload_n rfl (i := 2) rfl dX7_bears_0 ?_
  obtain ⟨v2, hc1, hw⟩ := hw
  refine J_callS (as := [.int x2]) (st := []) cal_J9_abs_0f7a4 cas_J9_abs_0f7a4 gw_762 ⟨by decide, by decide⟩ cnt_J9_abs_0f7a4 rfl (Nat.le_of_ble_eq_true rfl) dX7_bears_1 (Nat.zero_add _).symm (Nat.zero_add _).symm hc1 ?_
  refine J_aload_n rfl (i := 0) rfl dX7_bears_4 ?_
  refine J_getr kls_7 (q := 4) (k := 1) sh_4 (by decide) rfl gw_186 dX7_bears_5 ?_
  refine J_iload_n rfl (i := 1) rfl dX7_bears_8 ?_
  obtain ⟨j4, ej4, hj4, hw⟩ := hw
  refine J_iald sh_6 ej4 hj4 (by decide) dX7_bears_9 ?_
  refine J_icmp_gt (tgt := 17) dX7_bears_10 (by decide) (fun hb5 => ?_) (fun hb5 => ?_)
  · replace hw := hw.1 hb5
    refine J_iconst (v := 0) (by decide) dX7_bears_17 ?_
    exact J_fini (ty := .boolean) rfl rfl dX7_bears_18 hw
  · replace hw := hw.2 hb5
    refine J_iconst (v := 1) (by decide) dX7_bears_13 ?_
    refine J_goto (tgt := 18) dX7_bears_14 (by decide) ?_
    exact J_fini (ty := .boolean) rfl rfl dX7_bears_18 hw
