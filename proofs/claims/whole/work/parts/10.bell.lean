/-! ===== decode rows and walks between cut points, by program (wip/gen/mk10.py) ===== -/
theorem dX0_reset_0 : decode cX0_reset 0 = .ok (.aload_n 0, 1) := by decide +kernel
theorem dX0_reset_1 : decode cX0_reset 1 = .ok (.iconst (-1), 1) := by decide +kernel
theorem dX0_reset_2 : decode cX0_reset 2 = .ok (.putfield 9, 3) := by decide +kernel
theorem dX0_reset_5 : decode cX0_reset 5 = .ok (.aload_n 0, 1) := by decide +kernel
theorem dX0_reset_6 : decode cX0_reset 6 = .ok (.iconst 0, 1) := by decide +kernel
theorem dX0_reset_7 : decode cX0_reset 7 = .ok (.putfield 18, 3) := by decide +kernel
theorem dX0_reset_10 : decode cX0_reset 10 = .ok (.aload_n 0, 1) := by decide +kernel
theorem dX0_reset_11 : decode cX0_reset 11 = .ok (.iconst (-1), 1) := by decide +kernel
theorem dX0_reset_12 : decode cX0_reset 12 = .ok (.putfield 15, 3) := by decide +kernel
theorem dX0_reset_15 : decode cX0_reset 15 = .ok (.aload_n 0, 1) := by decide +kernel
theorem dX0_reset_16 : decode cX0_reset 16 = .ok (.iconst 0, 1) := by decide +kernel
theorem dX0_reset_17 : decode cX0_reset 17 = .ok (.putfield 21, 3) := by decide +kernel
theorem dX0_reset_20 : decode cX0_reset 20 = .ok (.aload_n 0, 1) := by decide +kernel
theorem dX0_reset_21 : decode cX0_reset 21 = .ok (.iconst 0, 1) := by decide +kernel
theorem dX0_reset_22 : decode cX0_reset 22 = .ok (.putfield 24, 3) := by decide +kernel
theorem dX0_reset_25 : decode cX0_reset 25 = .ok (.aload_n 0, 1) := by decide +kernel
theorem dX0_reset_26 : decode cX0_reset 26 = .ok (.iconst 0, 1) := by decide +kernel
theorem dX0_reset_27 : decode cX0_reset 27 = .ok (.putfield 27, 3) := by decide +kernel
theorem dX0_reset_30 : decode cX0_reset 30 = .ok (.aload_n 0, 1) := by decide +kernel
theorem dX0_reset_31 : decode cX0_reset 31 = .ok (.iconst 0, 1) := by decide +kernel
theorem dX0_reset_32 : decode cX0_reset 32 = .ok (.putfield 30, 3) := by decide +kernel
theorem dX0_reset_35 : decode cX0_reset 35 = .ok (.aload_n 0, 1) := by decide +kernel
theorem dX0_reset_36 : decode cX0_reset 36 = .ok (.iconst 0, 1) := by decide +kernel
theorem dX0_reset_37 : decode cX0_reset 37 = .ok (.putfield 33, 3) := by decide +kernel
theorem dX0_reset_40 : decode cX0_reset 40 = .ok (.return_, 1) := by decide +kernel
set_option maxRecDepth 20000 in
theorem bX0_reset_0 {G : Gx} {mm : Nat → Nat → Int32} {lm : Nat → Int64} {q : Nat} (hq_q : SH[q]? = some (.inl (0, bsl))) {o : Ou} {z : Wd} {a b : Nat} (hw : o = .inl none ∧ z = (SH, (mset (mset (mset (mset (mset (mset (mset (mset mm q 0 (-1)) q 1 0) q 2 (-1)) q 3 0) q 4 0) q 5 0) q 6 0) q 7 0), lm)) :
    J G M_X0_reset 0 [(0, .ref q)] [] (SH, mm, lm) false o z false a b := by
  refine J_aload_n rfl (i := 0) rfl dX0_reset_0 ?_
  refine J_iconst (v := (-1)) (by decide) dX0_reset_1 ?_
  refine J_puti kls_0 (q := q) (k := 0) hq_q (by decide) rfl rfl (fun _ => rfl) (fun _ => rfl) gw_249 dX0_reset_2 ?_
  refine J_aload_n rfl (i := 0) rfl dX0_reset_5 ?_
  refine J_iconst (v := 0) (by decide) dX0_reset_6 ?_
  refine J_puti kls_0 (q := q) (k := 1) hq_q (by decide) rfl rfl (fun _ => rfl) (fun _ => rfl) gw_254 dX0_reset_7 ?_
  refine J_aload_n rfl (i := 0) rfl dX0_reset_10 ?_
  refine J_iconst (v := (-1)) (by decide) dX0_reset_11 ?_
  refine J_puti kls_0 (q := q) (k := 2) hq_q (by decide) rfl rfl (fun _ => rfl) (fun _ => rfl) gw_260 dX0_reset_12 ?_
  refine J_aload_n rfl (i := 0) rfl dX0_reset_15 ?_
  refine J_iconst (v := 0) (by decide) dX0_reset_16 ?_
  refine J_puti kls_0 (q := q) (k := 3) hq_q (by decide) rfl rfl (fun _ => rfl) (fun _ => rfl) gw_263 dX0_reset_17 ?_
  refine J_aload_n rfl (i := 0) rfl dX0_reset_20 ?_
  refine J_iconst (v := 0) (by decide) dX0_reset_21 ?_
  refine J_puti kls_0 (q := q) (k := 4) hq_q (by decide) rfl rfl (fun _ => rfl) (fun _ => rfl) gw_266 dX0_reset_22 ?_
  refine J_aload_n rfl (i := 0) rfl dX0_reset_25 ?_
  refine J_iconst (v := 0) (by decide) dX0_reset_26 ?_
  refine J_puti kls_0 (q := q) (k := 5) hq_q (by decide) rfl rfl (fun _ => rfl) (fun _ => rfl) gw_269 dX0_reset_27 ?_
  refine J_aload_n rfl (i := 0) rfl dX0_reset_30 ?_
  refine J_iconst (v := 0) (by decide) dX0_reset_31 ?_
  refine J_puti kls_0 (q := q) (k := 6) hq_q (by decide) rfl rfl (fun _ => rfl) (fun _ => rfl) gw_272 dX0_reset_32 ?_
  refine J_aload_n rfl (i := 0) rfl dX0_reset_35 ?_
  refine J_iconst (v := 0) (by decide) dX0_reset_36 ?_
  refine J_puti kls_0 (q := q) (k := 7) hq_q (by decide) rfl rfl (fun _ => rfl) (fun _ => rfl) gw_275 dX0_reset_37 ?_
  exact J_finv rfl dX0_reset_40 hw
theorem dX0_copyFrom_0 : decode cX0_copyFrom 0 = .ok (.aload_n 0, 1) := by decide +kernel
theorem dX0_copyFrom_1 : decode cX0_copyFrom 1 = .ok (.aload_n 1, 1) := by decide +kernel
theorem dX0_copyFrom_2 : decode cX0_copyFrom 2 = .ok (.getfield 9, 3) := by decide +kernel
theorem dX0_copyFrom_5 : decode cX0_copyFrom 5 = .ok (.putfield 9, 3) := by decide +kernel
theorem dX0_copyFrom_8 : decode cX0_copyFrom 8 = .ok (.aload_n 0, 1) := by decide +kernel
theorem dX0_copyFrom_9 : decode cX0_copyFrom 9 = .ok (.aload_n 1, 1) := by decide +kernel
theorem dX0_copyFrom_10 : decode cX0_copyFrom 10 = .ok (.getfield 18, 3) := by decide +kernel
theorem dX0_copyFrom_13 : decode cX0_copyFrom 13 = .ok (.putfield 18, 3) := by decide +kernel
theorem dX0_copyFrom_16 : decode cX0_copyFrom 16 = .ok (.aload_n 0, 1) := by decide +kernel
theorem dX0_copyFrom_17 : decode cX0_copyFrom 17 = .ok (.aload_n 1, 1) := by decide +kernel
theorem dX0_copyFrom_18 : decode cX0_copyFrom 18 = .ok (.getfield 15, 3) := by decide +kernel
theorem dX0_copyFrom_21 : decode cX0_copyFrom 21 = .ok (.putfield 15, 3) := by decide +kernel
theorem dX0_copyFrom_24 : decode cX0_copyFrom 24 = .ok (.aload_n 0, 1) := by decide +kernel
theorem dX0_copyFrom_25 : decode cX0_copyFrom 25 = .ok (.aload_n 1, 1) := by decide +kernel
theorem dX0_copyFrom_26 : decode cX0_copyFrom 26 = .ok (.getfield 21, 3) := by decide +kernel
theorem dX0_copyFrom_29 : decode cX0_copyFrom 29 = .ok (.putfield 21, 3) := by decide +kernel
theorem dX0_copyFrom_32 : decode cX0_copyFrom 32 = .ok (.aload_n 0, 1) := by decide +kernel
theorem dX0_copyFrom_33 : decode cX0_copyFrom 33 = .ok (.aload_n 1, 1) := by decide +kernel
theorem dX0_copyFrom_34 : decode cX0_copyFrom 34 = .ok (.getfield 24, 3) := by decide +kernel
theorem dX0_copyFrom_37 : decode cX0_copyFrom 37 = .ok (.putfield 24, 3) := by decide +kernel
theorem dX0_copyFrom_40 : decode cX0_copyFrom 40 = .ok (.aload_n 0, 1) := by decide +kernel
theorem dX0_copyFrom_41 : decode cX0_copyFrom 41 = .ok (.aload_n 1, 1) := by decide +kernel
theorem dX0_copyFrom_42 : decode cX0_copyFrom 42 = .ok (.getfield 27, 3) := by decide +kernel
theorem dX0_copyFrom_45 : decode cX0_copyFrom 45 = .ok (.putfield 27, 3) := by decide +kernel
theorem dX0_copyFrom_48 : decode cX0_copyFrom 48 = .ok (.aload_n 0, 1) := by decide +kernel
theorem dX0_copyFrom_49 : decode cX0_copyFrom 49 = .ok (.aload_n 1, 1) := by decide +kernel
theorem dX0_copyFrom_50 : decode cX0_copyFrom 50 = .ok (.getfield 30, 3) := by decide +kernel
theorem dX0_copyFrom_53 : decode cX0_copyFrom 53 = .ok (.putfield 30, 3) := by decide +kernel
theorem dX0_copyFrom_56 : decode cX0_copyFrom 56 = .ok (.aload_n 0, 1) := by decide +kernel
theorem dX0_copyFrom_57 : decode cX0_copyFrom 57 = .ok (.aload_n 1, 1) := by decide +kernel
theorem dX0_copyFrom_58 : decode cX0_copyFrom 58 = .ok (.getfield 33, 3) := by decide +kernel
theorem dX0_copyFrom_61 : decode cX0_copyFrom 61 = .ok (.putfield 33, 3) := by decide +kernel
theorem dX0_copyFrom_64 : decode cX0_copyFrom 64 = .ok (.return_, 1) := by decide +kernel
set_option maxRecDepth 20000 in
theorem bX0_copyFrom_0 {G : Gx} {mm : Nat → Nat → Int32} {lm : Nat → Int64} {q : Nat} (hq_q : SH[q]? = some (.inl (0, bsl))) {r : Nat} (hq_r : SH[r]? = some (.inl (0, bsl))) {o : Ou} {z : Wd} {a b : Nat} (hw : o = .inl none ∧ z = (SH, (mset (mset (mset (mset (mset (mset (mset (mset mm q 0 (mm r 0)) q 1 ((mset mm q 0 (mm r 0)) r 1)) q 2 ((mset (mset mm q 0 (mm r 0)) q 1 ((mset mm q 0 (mm r 0)) r 1)) r 2)) q 3 ((mset (mset (mset mm q 0 (mm r 0)) q 1 ((mset mm q 0 (mm r 0)) r 1)) q 2 ((mset (mset mm q 0 (mm r 0)) q 1 ((mset mm q 0 (mm r 0)) r 1)) r 2)) r 3)) q 4 ((mset (mset (mset (mset mm q 0 (mm r 0)) q 1 ((mset mm q 0 (mm r 0)) r 1)) q 2 ((mset (mset mm q 0 (mm r 0)) q 1 ((mset mm q 0 (mm r 0)) r 1)) r 2)) q 3 ((mset (mset (mset mm q 0 (mm r 0)) q 1 ((mset mm q 0 (mm r 0)) r 1)) q 2 ((mset (mset mm q 0 (mm r 0)) q 1 ((mset mm q 0 (mm r 0)) r 1)) r 2)) r 3)) r 4)) q 5 ((mset (mset (mset (mset (mset mm q 0 (mm r 0)) q 1 ((mset mm q 0 (mm r 0)) r 1)) q 2 ((mset (mset mm q 0 (mm r 0)) q 1 ((mset mm q 0 (mm r 0)) r 1)) r 2)) q 3 ((mset (mset (mset mm q 0 (mm r 0)) q 1 ((mset mm q 0 (mm r 0)) r 1)) q 2 ((mset (mset mm q 0 (mm r 0)) q 1 ((mset mm q 0 (mm r 0)) r 1)) r 2)) r 3)) q 4 ((mset (mset (mset (mset mm q 0 (mm r 0)) q 1 ((mset mm q 0 (mm r 0)) r 1)) q 2 ((mset (mset mm q 0 (mm r 0)) q 1 ((mset mm q 0 (mm r 0)) r 1)) r 2)) q 3 ((mset (mset (mset mm q 0 (mm r 0)) q 1 ((mset mm q 0 (mm r 0)) r 1)) q 2 ((mset (mset mm q 0 (mm r 0)) q 1 ((mset mm q 0 (mm r 0)) r 1)) r 2)) r 3)) r 4)) r 5)) q 6 ((mset (mset (mset (mset (mset (mset mm q 0 (mm r 0)) q 1 ((mset mm q 0 (mm r 0)) r 1)) q 2 ((mset (mset mm q 0 (mm r 0)) q 1 ((mset mm q 0 (mm r 0)) r 1)) r 2)) q 3 ((mset (mset (mset mm q 0 (mm r 0)) q 1 ((mset mm q 0 (mm r 0)) r 1)) q 2 ((mset (mset mm q 0 (mm r 0)) q 1 ((mset mm q 0 (mm r 0)) r 1)) r 2)) r 3)) q 4 ((mset (mset (mset (mset mm q 0 (mm r 0)) q 1 ((mset mm q 0 (mm r 0)) r 1)) q 2 ((mset (mset mm q 0 (mm r 0)) q 1 ((mset mm q 0 (mm r 0)) r 1)) r 2)) q 3 ((mset (mset (mset mm q 0 (mm r 0)) q 1 ((mset mm q 0 (mm r 0)) r 1)) q 2 ((mset (mset mm q 0 (mm r 0)) q 1 ((mset mm q 0 (mm r 0)) r 1)) r 2)) r 3)) r 4)) q 5 ((mset (mset (mset (mset (mset mm q 0 (mm r 0)) q 1 ((mset mm q 0 (mm r 0)) r 1)) q 2 ((mset (mset mm q 0 (mm r 0)) q 1 ((mset mm q 0 (mm r 0)) r 1)) r 2)) q 3 ((mset (mset (mset mm q 0 (mm r 0)) q 1 ((mset mm q 0 (mm r 0)) r 1)) q 2 ((mset (mset mm q 0 (mm r 0)) q 1 ((mset mm q 0 (mm r 0)) r 1)) r 2)) r 3)) q 4 ((mset (mset (mset (mset mm q 0 (mm r 0)) q 1 ((mset mm q 0 (mm r 0)) r 1)) q 2 ((mset (mset mm q 0 (mm r 0)) q 1 ((mset mm q 0 (mm r 0)) r 1)) r 2)) q 3 ((mset (mset (mset mm q 0 (mm r 0)) q 1 ((mset mm q 0 (mm r 0)) r 1)) q 2 ((mset (mset mm q 0 (mm r 0)) q 1 ((mset mm q 0 (mm r 0)) r 1)) r 2)) r 3)) r 4)) r 5)) r 6)) q 7 ((mset (mset (mset (mset (mset (mset (mset mm q 0 (mm r 0)) q 1 ((mset mm q 0 (mm r 0)) r 1)) q 2 ((mset (mset mm q 0 (mm r 0)) q 1 ((mset mm q 0 (mm r 0)) r 1)) r 2)) q 3 ((mset (mset (mset mm q 0 (mm r 0)) q 1 ((mset mm q 0 (mm r 0)) r 1)) q 2 ((mset (mset mm q 0 (mm r 0)) q 1 ((mset mm q 0 (mm r 0)) r 1)) r 2)) r 3)) q 4 ((mset (mset (mset (mset mm q 0 (mm r 0)) q 1 ((mset mm q 0 (mm r 0)) r 1)) q 2 ((mset (mset mm q 0 (mm r 0)) q 1 ((mset mm q 0 (mm r 0)) r 1)) r 2)) q 3 ((mset (mset (mset mm q 0 (mm r 0)) q 1 ((mset mm q 0 (mm r 0)) r 1)) q 2 ((mset (mset mm q 0 (mm r 0)) q 1 ((mset mm q 0 (mm r 0)) r 1)) r 2)) r 3)) r 4)) q 5 ((mset (mset (mset (mset (mset mm q 0 (mm r 0)) q 1 ((mset mm q 0 (mm r 0)) r 1)) q 2 ((mset (mset mm q 0 (mm r 0)) q 1 ((mset mm q 0 (mm r 0)) r 1)) r 2)) q 3 ((mset (mset (mset mm q 0 (mm r 0)) q 1 ((mset mm q 0 (mm r 0)) r 1)) q 2 ((mset (mset mm q 0 (mm r 0)) q 1 ((mset mm q 0 (mm r 0)) r 1)) r 2)) r 3)) q 4 ((mset (mset (mset (mset mm q 0 (mm r 0)) q 1 ((mset mm q 0 (mm r 0)) r 1)) q 2 ((mset (mset mm q 0 (mm r 0)) q 1 ((mset mm q 0 (mm r 0)) r 1)) r 2)) q 3 ((mset (mset (mset mm q 0 (mm r 0)) q 1 ((mset mm q 0 (mm r 0)) r 1)) q 2 ((mset (mset mm q 0 (mm r 0)) q 1 ((mset mm q 0 (mm r 0)) r 1)) r 2)) r 3)) r 4)) r 5)) q 6 ((mset (mset (mset (mset (mset (mset mm q 0 (mm r 0)) q 1 ((mset mm q 0 (mm r 0)) r 1)) q 2 ((mset (mset mm q 0 (mm r 0)) q 1 ((mset mm q 0 (mm r 0)) r 1)) r 2)) q 3 ((mset (mset (mset mm q 0 (mm r 0)) q 1 ((mset mm q 0 (mm r 0)) r 1)) q 2 ((mset (mset mm q 0 (mm r 0)) q 1 ((mset mm q 0 (mm r 0)) r 1)) r 2)) r 3)) q 4 ((mset (mset (mset (mset mm q 0 (mm r 0)) q 1 ((mset mm q 0 (mm r 0)) r 1)) q 2 ((mset (mset mm q 0 (mm r 0)) q 1 ((mset mm q 0 (mm r 0)) r 1)) r 2)) q 3 ((mset (mset (mset mm q 0 (mm r 0)) q 1 ((mset mm q 0 (mm r 0)) r 1)) q 2 ((mset (mset mm q 0 (mm r 0)) q 1 ((mset mm q 0 (mm r 0)) r 1)) r 2)) r 3)) r 4)) q 5 ((mset (mset (mset (mset (mset mm q 0 (mm r 0)) q 1 ((mset mm q 0 (mm r 0)) r 1)) q 2 ((mset (mset mm q 0 (mm r 0)) q 1 ((mset mm q 0 (mm r 0)) r 1)) r 2)) q 3 ((mset (mset (mset mm q 0 (mm r 0)) q 1 ((mset mm q 0 (mm r 0)) r 1)) q 2 ((mset (mset mm q 0 (mm r 0)) q 1 ((mset mm q 0 (mm r 0)) r 1)) r 2)) r 3)) q 4 ((mset (mset (mset (mset mm q 0 (mm r 0)) q 1 ((mset mm q 0 (mm r 0)) r 1)) q 2 ((mset (mset mm q 0 (mm r 0)) q 1 ((mset mm q 0 (mm r 0)) r 1)) r 2)) q 3 ((mset (mset (mset mm q 0 (mm r 0)) q 1 ((mset mm q 0 (mm r 0)) r 1)) q 2 ((mset (mset mm q 0 (mm r 0)) q 1 ((mset mm q 0 (mm r 0)) r 1)) r 2)) r 3)) r 4)) r 5)) r 6)) r 7)), lm)) :
    J G M_X0_copyFrom 0 [(0, .ref q), (1, .ref r)] [] (SH, mm, lm) false o z false a b := by
  refine J_aload_n rfl (i := 0) rfl dX0_copyFrom_0 ?_
  refine J_aload_n rfl (i := 1) rfl dX0_copyFrom_1 ?_
  refine J_geti kls_0 (q := r) (k := 0) hq_r (by decide) rfl gw_249 dX0_copyFrom_2 ?_
  refine J_puti kls_0 (q := q) (k := 0) hq_q (by decide) rfl rfl (fun _ => rfl) (fun _ => rfl) gw_249 dX0_copyFrom_5 ?_
  refine J_aload_n rfl (i := 0) rfl dX0_copyFrom_8 ?_
  refine J_aload_n rfl (i := 1) rfl dX0_copyFrom_9 ?_
  refine J_geti kls_0 (q := r) (k := 1) hq_r (by decide) rfl gw_254 dX0_copyFrom_10 ?_
  refine J_puti kls_0 (q := q) (k := 1) hq_q (by decide) rfl rfl (fun _ => rfl) (fun _ => rfl) gw_254 dX0_copyFrom_13 ?_
  refine J_aload_n rfl (i := 0) rfl dX0_copyFrom_16 ?_
  refine J_aload_n rfl (i := 1) rfl dX0_copyFrom_17 ?_
  refine J_geti kls_0 (q := r) (k := 2) hq_r (by decide) rfl gw_260 dX0_copyFrom_18 ?_
  refine J_puti kls_0 (q := q) (k := 2) hq_q (by decide) rfl rfl (fun _ => rfl) (fun _ => rfl) gw_260 dX0_copyFrom_21 ?_
  refine J_aload_n rfl (i := 0) rfl dX0_copyFrom_24 ?_
  refine J_aload_n rfl (i := 1) rfl dX0_copyFrom_25 ?_
  refine J_geti kls_0 (q := r) (k := 3) hq_r (by decide) rfl gw_263 dX0_copyFrom_26 ?_
  refine J_puti kls_0 (q := q) (k := 3) hq_q (by decide) rfl rfl (fun _ => rfl) (fun _ => rfl) gw_263 dX0_copyFrom_29 ?_
  refine J_aload_n rfl (i := 0) rfl dX0_copyFrom_32 ?_
  refine J_aload_n rfl (i := 1) rfl dX0_copyFrom_33 ?_
  refine J_geti kls_0 (q := r) (k := 4) hq_r (by decide) rfl gw_266 dX0_copyFrom_34 ?_
  refine J_puti kls_0 (q := q) (k := 4) hq_q (by decide) rfl rfl (fun _ => rfl) (fun _ => rfl) gw_266 dX0_copyFrom_37 ?_
  refine J_aload_n rfl (i := 0) rfl dX0_copyFrom_40 ?_
  refine J_aload_n rfl (i := 1) rfl dX0_copyFrom_41 ?_
  refine J_geti kls_0 (q := r) (k := 5) hq_r (by decide) rfl gw_269 dX0_copyFrom_42 ?_
  refine J_puti kls_0 (q := q) (k := 5) hq_q (by decide) rfl rfl (fun _ => rfl) (fun _ => rfl) gw_269 dX0_copyFrom_45 ?_
  refine J_aload_n rfl (i := 0) rfl dX0_copyFrom_48 ?_
  refine J_aload_n rfl (i := 1) rfl dX0_copyFrom_49 ?_
  refine J_geti kls_0 (q := r) (k := 6) hq_r (by decide) rfl gw_272 dX0_copyFrom_50 ?_
  refine J_puti kls_0 (q := q) (k := 6) hq_q (by decide) rfl rfl (fun _ => rfl) (fun _ => rfl) gw_272 dX0_copyFrom_53 ?_
  refine J_aload_n rfl (i := 0) rfl dX0_copyFrom_56 ?_
  refine J_aload_n rfl (i := 1) rfl dX0_copyFrom_57 ?_
  refine J_geti kls_0 (q := r) (k := 7) hq_r (by decide) rfl gw_275 dX0_copyFrom_58 ?_
  refine J_puti kls_0 (q := q) (k := 7) hq_q (by decide) rfl rfl (fun _ => rfl) (fun _ => rfl) gw_275 dX0_copyFrom_61 ?_
  exact J_finv rfl dX0_copyFrom_64 hw
theorem dX0_hangs_0 : decode cX0_hangs 0 = .ok (.aload_n 0, 1) := by decide +kernel
theorem dX0_hangs_1 : decode cX0_hangs 1 = .ok (.getfield 9, 3) := by decide +kernel
theorem dX0_hangs_4 : decode cX0_hangs 4 = .ok (.iconst (-1), 1) := by decide +kernel
theorem dX0_hangs_5 : decode cX0_hangs 5 = .ok (.if_icmp .eq 7, 3) := by decide +kernel
theorem dX0_hangs_8 : decode cX0_hangs 8 = .ok (.iconst 1, 1) := by decide +kernel
theorem dX0_hangs_9 : decode cX0_hangs 9 = .ok (.goto 4, 3) := by decide +kernel
theorem dX0_hangs_12 : decode cX0_hangs 12 = .ok (.iconst 0, 1) := by decide +kernel
theorem dX0_hangs_13 : decode cX0_hangs 13 = .ok (.ireturn, 1) := by decide +kernel
set_option maxRecDepth 20000 in
theorem bX0_hangs_0 {G : Gx} {mm : Nat → Nat → Int32} {lm : Nat → Int64} {q : Nat} (hq_q : SH[q]? = some (.inl (0, bsl))) {o : Ou} {z : Wd} {a b : Nat} (hw : (((mm q 0) = (-1)) → o = .inl (some (.int 0)) ∧ z = (SH, mm, lm)) ∧ ((¬ (mm q 0) = (-1)) → o = .inl (some (.int 1)) ∧ z = (SH, mm, lm))) :
    J G M_X0_hangs 0 [(0, .ref q)] [] (SH, mm, lm) false o z false a b := by
  refine J_aload_n rfl (i := 0) rfl dX0_hangs_0 ?_
  refine J_geti kls_0 (q := q) (k := 0) hq_q (by decide) rfl gw_249 dX0_hangs_1 ?_
  refine J_iconst (v := (-1)) (by decide) dX0_hangs_4 ?_
  refine J_icmp_eq (tgt := 12) dX0_hangs_5 (by decide) (fun hb1 => ?_) (fun hb1 => ?_)
  · replace hw := hw.1 hb1
    refine J_iconst (v := 0) (by decide) dX0_hangs_12 ?_
    exact J_fini (ty := .boolean) rfl rfl dX0_hangs_13 hw
  · replace hw := hw.2 hb1
    refine J_iconst (v := 1) (by decide) dX0_hangs_8 ?_
    refine J_goto (tgt := 13) dX0_hangs_9 (by decide) ?_
    exact J_fini (ty := .boolean) rfl rfl dX0_hangs_13 hw
theorem dX0_hasPlan_0 : decode cX0_hasPlan 0 = .ok (.aload_n 0, 1) := by decide +kernel
theorem dX0_hasPlan_1 : decode cX0_hasPlan 1 = .ok (.getfield 15, 3) := by decide +kernel
theorem dX0_hasPlan_4 : decode cX0_hasPlan 4 = .ok (.iconst (-1), 1) := by decide +kernel
theorem dX0_hasPlan_5 : decode cX0_hasPlan 5 = .ok (.if_icmp .eq 7, 3) := by decide +kernel
theorem dX0_hasPlan_8 : decode cX0_hasPlan 8 = .ok (.iconst 1, 1) := by decide +kernel
theorem dX0_hasPlan_9 : decode cX0_hasPlan 9 = .ok (.goto 4, 3) := by decide +kernel
theorem dX0_hasPlan_12 : decode cX0_hasPlan 12 = .ok (.iconst 0, 1) := by decide +kernel
theorem dX0_hasPlan_13 : decode cX0_hasPlan 13 = .ok (.ireturn, 1) := by decide +kernel
set_option maxRecDepth 20000 in
theorem bX0_hasPlan_0 {G : Gx} {mm : Nat → Nat → Int32} {lm : Nat → Int64} {q : Nat} (hq_q : SH[q]? = some (.inl (0, bsl))) {o : Ou} {z : Wd} {a b : Nat} (hw : (((mm q 2) = (-1)) → o = .inl (some (.int 0)) ∧ z = (SH, mm, lm)) ∧ ((¬ (mm q 2) = (-1)) → o = .inl (some (.int 1)) ∧ z = (SH, mm, lm))) :
    J G M_X0_hasPlan 0 [(0, .ref q)] [] (SH, mm, lm) false o z false a b := by
  refine J_aload_n rfl (i := 0) rfl dX0_hasPlan_0 ?_
  refine J_geti kls_0 (q := q) (k := 2) hq_q (by decide) rfl gw_260 dX0_hasPlan_1 ?_
  refine J_iconst (v := (-1)) (by decide) dX0_hasPlan_4 ?_
  refine J_icmp_eq (tgt := 12) dX0_hasPlan_5 (by decide) (fun hb1 => ?_) (fun hb1 => ?_)
  · replace hw := hw.1 hb1
    refine J_iconst (v := 0) (by decide) dX0_hasPlan_12 ?_
    exact J_fini (ty := .boolean) rfl rfl dX0_hasPlan_13 hw
  · replace hw := hw.2 hb1
    refine J_iconst (v := 1) (by decide) dX0_hasPlan_8 ?_
    refine J_goto (tgt := 13) dX0_hasPlan_9 (by decide) ?_
    exact J_fini (ty := .boolean) rfl rfl dX0_hasPlan_13 hw
theorem dX0_swings_0 : decode cX0_swings 0 = .ok (.aload_n 0, 1) := by decide +kernel
theorem dX0_swings_1 : decode cX0_swings 1 = .ok (.getfield 27, 3) := by decide +kernel
theorem dX0_swings_4 : decode cX0_swings 4 = .ok (.ifCond .le 7, 3) := by decide +kernel
theorem dX0_swings_7 : decode cX0_swings 7 = .ok (.iconst 1, 1) := by decide +kernel
theorem dX0_swings_8 : decode cX0_swings 8 = .ok (.goto 4, 3) := by decide +kernel
theorem dX0_swings_11 : decode cX0_swings 11 = .ok (.iconst 0, 1) := by decide +kernel
theorem dX0_swings_12 : decode cX0_swings 12 = .ok (.ireturn, 1) := by decide +kernel
set_option maxRecDepth 20000 in
theorem bX0_swings_0 {G : Gx} {mm : Nat → Nat → Int32} {lm : Nat → Int64} {q : Nat} (hq_q : SH[q]? = some (.inl (0, bsl))) {o : Ou} {z : Wd} {a b : Nat} (hw : (((mm q 5) ≤ 0) → o = .inl (some (.int 0)) ∧ z = (SH, mm, lm)) ∧ ((¬ (mm q 5) ≤ 0) → o = .inl (some (.int 1)) ∧ z = (SH, mm, lm))) :
    J G M_X0_swings 0 [(0, .ref q)] [] (SH, mm, lm) false o z false a b := by
  refine J_aload_n rfl (i := 0) rfl dX0_swings_0 ?_
  refine J_geti kls_0 (q := q) (k := 5) hq_q (by decide) rfl gw_269 dX0_swings_1 ?_
  refine J_if_le (tgt := 11) dX0_swings_4 (by decide) (fun hb1 => ?_) (fun hb1 => ?_)
  · replace hw := hw.1 hb1
    refine J_iconst (v := 0) (by decide) dX0_swings_11 ?_
    exact J_fini (ty := .boolean) rfl rfl dX0_swings_12 hw
  · replace hw := hw.2 hb1
    refine J_iconst (v := 1) (by decide) dX0_swings_7 ?_
    refine J_goto (tgt := 12) dX0_swings_8 (by decide) ?_
    exact J_fini (ty := .boolean) rfl rfl dX0_swings_12 hw
theorem dX0_hasChime_0 : decode cX0_hasChime 0 = .ok (.aload_n 0, 1) := by decide +kernel
theorem dX0_hasChime_1 : decode cX0_hasChime 1 = .ok (.getfield 33, 3) := by decide +kernel
theorem dX0_hasChime_4 : decode cX0_hasChime 4 = .ok (.ifCond .le 7, 3) := by decide +kernel
theorem dX0_hasChime_7 : decode cX0_hasChime 7 = .ok (.iconst 1, 1) := by decide +kernel
theorem dX0_hasChime_8 : decode cX0_hasChime 8 = .ok (.goto 4, 3) := by decide +kernel
theorem dX0_hasChime_11 : decode cX0_hasChime 11 = .ok (.iconst 0, 1) := by decide +kernel
theorem dX0_hasChime_12 : decode cX0_hasChime 12 = .ok (.ireturn, 1) := by decide +kernel
set_option maxRecDepth 20000 in
theorem bX0_hasChime_0 {G : Gx} {mm : Nat → Nat → Int32} {lm : Nat → Int64} {q : Nat} (hq_q : SH[q]? = some (.inl (0, bsl))) {o : Ou} {z : Wd} {a b : Nat} (hw : (((mm q 7) ≤ 0) → o = .inl (some (.int 0)) ∧ z = (SH, mm, lm)) ∧ ((¬ (mm q 7) ≤ 0) → o = .inl (some (.int 1)) ∧ z = (SH, mm, lm))) :
    J G M_X0_hasChime 0 [(0, .ref q)] [] (SH, mm, lm) false o z false a b := by
  refine J_aload_n rfl (i := 0) rfl dX0_hasChime_0 ?_
  refine J_geti kls_0 (q := q) (k := 7) hq_q (by decide) rfl gw_275 dX0_hasChime_1 ?_
  refine J_if_le (tgt := 11) dX0_hasChime_4 (by decide) (fun hb1 => ?_) (fun hb1 => ?_)
  · replace hw := hw.1 hb1
    refine J_iconst (v := 0) (by decide) dX0_hasChime_11 ?_
    exact J_fini (ty := .boolean) rfl rfl dX0_hasChime_12 hw
  · replace hw := hw.2 hb1
    refine J_iconst (v := 1) (by decide) dX0_hasChime_7 ?_
    refine J_goto (tgt := 12) dX0_hasChime_8 (by decide) ?_
    exact J_fini (ty := .boolean) rfl rfl dX0_hasChime_12 hw
theorem dX0_sharesBeamWith_0 : decode cX0_sharesBeamWith 0 = .ok (.aload_n 0, 1) := by decide +kernel
theorem dX0_sharesBeamWith_1 : decode cX0_sharesBeamWith 1 = .ok (.invokevirtual 36, 3) := by decide +kernel
theorem dX0_sharesBeamWith_4 : decode cX0_sharesBeamWith 4 = .ok (.ifCond .eq 18, 3) := by decide +kernel
theorem dX0_sharesBeamWith_7 : decode cX0_sharesBeamWith 7 = .ok (.aload_n 0, 1) := by decide +kernel
theorem dX0_sharesBeamWith_8 : decode cX0_sharesBeamWith 8 = .ok (.getfield 9, 3) := by decide +kernel
theorem dX0_sharesBeamWith_11 : decode cX0_sharesBeamWith 11 = .ok (.aload_n 1, 1) := by decide +kernel
theorem dX0_sharesBeamWith_12 : decode cX0_sharesBeamWith 12 = .ok (.getfield 9, 3) := by decide +kernel
theorem dX0_sharesBeamWith_15 : decode cX0_sharesBeamWith 15 = .ok (.if_icmp .ne 7, 3) := by decide +kernel
theorem dX0_sharesBeamWith_18 : decode cX0_sharesBeamWith 18 = .ok (.iconst 1, 1) := by decide +kernel
theorem dX0_sharesBeamWith_19 : decode cX0_sharesBeamWith 19 = .ok (.goto 4, 3) := by decide +kernel
theorem dX0_sharesBeamWith_22 : decode cX0_sharesBeamWith 22 = .ok (.iconst 0, 1) := by decide +kernel
theorem dX0_sharesBeamWith_23 : decode cX0_sharesBeamWith 23 = .ok (.ireturn, 1) := by decide +kernel
set_option maxRecDepth 20000 in
theorem bX0_sharesBeamWith_0 {G : Gx} {mm : Nat → Nat → Int32} {lm : Nat → Int64} {q : Nat} (hq_q : SH[q]? = some (.inl (0, bsl))) {r : Nat} (hq_r : SH[r]? = some (.inl (0, bsl))) {o : Ou} {z : Wd} {a b : Nat} (hw : ∃ (v2 : Int32), Ct G M_X0_hangs [.ref q] (SH, mm, lm) false (.inl (some (.int v2))) (SH, mm, lm) false 0 0 ∧ ((v2 = 0) → o = .inl (some (.int 0)) ∧ z = (SH, mm, lm)) ∧ ((¬ v2 = 0) → ((¬ (mm q 0) = (mm r 0)) → o = .inl (some (.int 0)) ∧ z = (SH, mm, lm)) ∧ (((mm q 0) = (mm r 0)) → o = .inl (some (.int 1)) ∧ z = (SH, mm, lm)))) :
    J G M_X0_sharesBeamWith 0 [(0, .ref q), (1, .ref r)] [] (SH, mm, lm) false o z false a b := by
  refine J_aload_n rfl (i := 0) rfl dX0_sharesBeamWith_0 ?_
  obtain ⟨v2, hc1, hw⟩ := hw
  refine J_callV (as := []) (k := q) (st := []) cal_X0_hangs cai_X0_hangs gw_871 ⟨by decide, by decide⟩ cnt_X0_hangs hq_q rfl rfl (Nat.le_of_ble_eq_true rfl) dX0_sharesBeamWith_1 (Nat.zero_add _).symm (Nat.zero_add _).symm hc1 ?_
  refine J_if_eq (tgt := 22) dX0_sharesBeamWith_4 (by decide) (fun hb5 => ?_) (fun hb5 => ?_)
  · replace hw := hw.1 hb5
    refine J_iconst (v := 0) (by decide) dX0_sharesBeamWith_22 ?_
    exact J_fini (ty := .boolean) rfl rfl dX0_sharesBeamWith_23 hw
  · replace hw := hw.2 hb5
    refine J_aload_n rfl (i := 0) rfl dX0_sharesBeamWith_7 ?_
    refine J_geti kls_0 (q := q) (k := 0) hq_q (by decide) rfl gw_249 dX0_sharesBeamWith_8 ?_
    refine J_aload_n rfl (i := 1) rfl dX0_sharesBeamWith_11 ?_
    refine J_geti kls_0 (q := r) (k := 0) hq_r (by decide) rfl gw_249 dX0_sharesBeamWith_12 ?_
    refine J_icmp_ne (tgt := 22) dX0_sharesBeamWith_15 (by decide) (fun hb4 => ?_) (fun hb4 => ?_)
    · replace hw := hw.1 hb4
      refine J_iconst (v := 0) (by decide) dX0_sharesBeamWith_22 ?_
      exact J_fini (ty := .boolean) rfl rfl dX0_sharesBeamWith_23 hw
    · replace hw := hw.2 hb4
      refine J_iconst (v := 1) (by decide) dX0_sharesBeamWith_18 ?_
      refine J_goto (tgt := 23) dX0_sharesBeamWith_19 (by decide) ?_
      exact J_fini (ty := .boolean) rfl rfl dX0_sharesBeamWith_23 hw
theorem dX0_plannedWhereItHangs_0 : decode cX0_plannedWhereItHangs 0 = .ok (.aload_n 0, 1) := by decide +kernel
theorem dX0_plannedWhereItHangs_1 : decode cX0_plannedWhereItHangs 1 = .ok (.invokevirtual 40, 3) := by decide +kernel
theorem dX0_plannedWhereItHangs_4 : decode cX0_plannedWhereItHangs 4 = .ok (.ifCond .eq 29, 3) := by decide +kernel
theorem dX0_plannedWhereItHangs_7 : decode cX0_plannedWhereItHangs 7 = .ok (.aload_n 0, 1) := by decide +kernel
theorem dX0_plannedWhereItHangs_8 : decode cX0_plannedWhereItHangs 8 = .ok (.getfield 15, 3) := by decide +kernel
theorem dX0_plannedWhereItHangs_11 : decode cX0_plannedWhereItHangs 11 = .ok (.aload_n 0, 1) := by decide +kernel
theorem dX0_plannedWhereItHangs_12 : decode cX0_plannedWhereItHangs 12 = .ok (.getfield 9, 3) := by decide +kernel
theorem dX0_plannedWhereItHangs_15 : decode cX0_plannedWhereItHangs 15 = .ok (.if_icmp .ne 18, 3) := by decide +kernel
theorem dX0_plannedWhereItHangs_18 : decode cX0_plannedWhereItHangs 18 = .ok (.aload_n 0, 1) := by decide +kernel
theorem dX0_plannedWhereItHangs_19 : decode cX0_plannedWhereItHangs 19 = .ok (.getfield 21, 3) := by decide +kernel
theorem dX0_plannedWhereItHangs_22 : decode cX0_plannedWhereItHangs 22 = .ok (.aload_n 0, 1) := by decide +kernel
theorem dX0_plannedWhereItHangs_23 : decode cX0_plannedWhereItHangs 23 = .ok (.getfield 18, 3) := by decide +kernel
theorem dX0_plannedWhereItHangs_26 : decode cX0_plannedWhereItHangs 26 = .ok (.if_icmp .ne 7, 3) := by decide +kernel
theorem dX0_plannedWhereItHangs_29 : decode cX0_plannedWhereItHangs 29 = .ok (.iconst 1, 1) := by decide +kernel
theorem dX0_plannedWhereItHangs_30 : decode cX0_plannedWhereItHangs 30 = .ok (.goto 4, 3) := by decide +kernel
theorem dX0_plannedWhereItHangs_33 : decode cX0_plannedWhereItHangs 33 = .ok (.iconst 0, 1) := by decide +kernel
theorem dX0_plannedWhereItHangs_34 : decode cX0_plannedWhereItHangs 34 = .ok (.ireturn, 1) := by decide +kernel
set_option maxRecDepth 20000 in
theorem bX0_plannedWhereItHangs_0 {G : Gx} {mm : Nat → Nat → Int32} {lm : Nat → Int64} {q : Nat} (hq_q : SH[q]? = some (.inl (0, bsl))) {o : Ou} {z : Wd} {a b : Nat} (hw : ∃ (v2 : Int32), Ct G M_X0_hasPlan [.ref q] (SH, mm, lm) false (.inl (some (.int v2))) (SH, mm, lm) false 0 0 ∧ ((v2 = 0) → o = .inl (some (.int 0)) ∧ z = (SH, mm, lm)) ∧ ((¬ v2 = 0) → ((¬ (mm q 2) = (mm q 0)) → o = .inl (some (.int 0)) ∧ z = (SH, mm, lm)) ∧ (((mm q 2) = (mm q 0)) → ((¬ (mm q 3) = (mm q 1)) → o = .inl (some (.int 0)) ∧ z = (SH, mm, lm)) ∧ (((mm q 3) = (mm q 1)) → o = .inl (some (.int 1)) ∧ z = (SH, mm, lm))))) :
    J G M_X0_plannedWhereItHangs 0 [(0, .ref q)] [] (SH, mm, lm) false o z false a b := by
  refine J_aload_n rfl (i := 0) rfl dX0_plannedWhereItHangs_0 ?_
  obtain ⟨v2, hc1, hw⟩ := hw
  refine J_callV (as := []) (k := q) (st := []) cal_X0_hasPlan cai_X0_hasPlan gw_981 ⟨by decide, by decide⟩ cnt_X0_hasPlan hq_q rfl rfl (Nat.le_of_ble_eq_true rfl) dX0_plannedWhereItHangs_1 (Nat.zero_add _).symm (Nat.zero_add _).symm hc1 ?_
  refine J_if_eq (tgt := 33) dX0_plannedWhereItHangs_4 (by decide) (fun hb6 => ?_) (fun hb6 => ?_)
  · replace hw := hw.1 hb6
    refine J_iconst (v := 0) (by decide) dX0_plannedWhereItHangs_33 ?_
    exact J_fini (ty := .boolean) rfl rfl dX0_plannedWhereItHangs_34 hw
  · replace hw := hw.2 hb6
    refine J_aload_n rfl (i := 0) rfl dX0_plannedWhereItHangs_7 ?_
    refine J_geti kls_0 (q := q) (k := 2) hq_q (by decide) rfl gw_260 dX0_plannedWhereItHangs_8 ?_
    refine J_aload_n rfl (i := 0) rfl dX0_plannedWhereItHangs_11 ?_
    refine J_geti kls_0 (q := q) (k := 0) hq_q (by decide) rfl gw_249 dX0_plannedWhereItHangs_12 ?_
    refine J_icmp_ne (tgt := 33) dX0_plannedWhereItHangs_15 (by decide) (fun hb5 => ?_) (fun hb5 => ?_)
    · replace hw := hw.1 hb5
      refine J_iconst (v := 0) (by decide) dX0_plannedWhereItHangs_33 ?_
      exact J_fini (ty := .boolean) rfl rfl dX0_plannedWhereItHangs_34 hw
    · replace hw := hw.2 hb5
      refine J_aload_n rfl (i := 0) rfl dX0_plannedWhereItHangs_18 ?_
      refine J_geti kls_0 (q := q) (k := 3) hq_q (by decide) rfl gw_263 dX0_plannedWhereItHangs_19 ?_
      refine J_aload_n rfl (i := 0) rfl dX0_plannedWhereItHangs_22 ?_
      refine J_geti kls_0 (q := q) (k := 1) hq_q (by decide) rfl gw_254 dX0_plannedWhereItHangs_23 ?_
      refine J_icmp_ne (tgt := 33) dX0_plannedWhereItHangs_26 (by decide) (fun hb4 => ?_) (fun hb4 => ?_)
      · replace hw := hw.1 hb4
        refine J_iconst (v := 0) (by decide) dX0_plannedWhereItHangs_33 ?_
        exact J_fini (ty := .boolean) rfl rfl dX0_plannedWhereItHangs_34 hw
      · replace hw := hw.2 hb4
        refine J_iconst (v := 1) (by decide) dX0_plannedWhereItHangs_29 ?_
        refine J_goto (tgt := 34) dX0_plannedWhereItHangs_30 (by decide) ?_
        exact J_fini (ty := .boolean) rfl rfl dX0_plannedWhereItHangs_34 hw
theorem dX0_chimesAt_0 : decode cX0_chimesAt 0 = .ok (.aload_n 0, 1) := by decide +kernel
theorem dX0_chimesAt_1 : decode cX0_chimesAt 1 = .ok (.invokevirtual 43, 3) := by decide +kernel
theorem dX0_chimesAt_4 : decode cX0_chimesAt 4 = .ok (.ifCond .eq 29, 3) := by decide +kernel
theorem dX0_chimesAt_7 : decode cX0_chimesAt 7 = .ok (.iload_n 1, 1) := by decide +kernel
theorem dX0_chimesAt_8 : decode cX0_chimesAt 8 = .ok (.aload_n 0, 1) := by decide +kernel
theorem dX0_chimesAt_9 : decode cX0_chimesAt 9 = .ok (.getfield 30, 3) := by decide +kernel
theorem dX0_chimesAt_12 : decode cX0_chimesAt 12 = .ok (.if_icmp .lt 21, 3) := by decide +kernel
theorem dX0_chimesAt_15 : decode cX0_chimesAt 15 = .ok (.iload_n 1, 1) := by decide +kernel
theorem dX0_chimesAt_16 : decode cX0_chimesAt 16 = .ok (.aload_n 0, 1) := by decide +kernel
theorem dX0_chimesAt_17 : decode cX0_chimesAt 17 = .ok (.getfield 30, 3) := by decide +kernel
theorem dX0_chimesAt_20 : decode cX0_chimesAt 20 = .ok (.isub, 1) := by decide +kernel
theorem dX0_chimesAt_21 : decode cX0_chimesAt 21 = .ok (.aload_n 0, 1) := by decide +kernel
theorem dX0_chimesAt_22 : decode cX0_chimesAt 22 = .ok (.getfield 33, 3) := by decide +kernel
theorem dX0_chimesAt_25 : decode cX0_chimesAt 25 = .ok (.irem, 1) := by decide +kernel
theorem dX0_chimesAt_26 : decode cX0_chimesAt 26 = .ok (.ifCond .ne 7, 3) := by decide +kernel
theorem dX0_chimesAt_29 : decode cX0_chimesAt 29 = .ok (.iconst 1, 1) := by decide +kernel
theorem dX0_chimesAt_30 : decode cX0_chimesAt 30 = .ok (.goto 4, 3) := by decide +kernel
theorem dX0_chimesAt_33 : decode cX0_chimesAt 33 = .ok (.iconst 0, 1) := by decide +kernel
theorem dX0_chimesAt_34 : decode cX0_chimesAt 34 = .ok (.ireturn, 1) := by decide +kernel
set_option maxRecDepth 20000 in
theorem bX0_chimesAt_0 {G : Gx} {mm : Nat → Nat → Int32} {lm : Nat → Int64} {q : Nat} (hq_q : SH[q]? = some (.inl (0, bsl))) {x1 : Int32} {o : Ou} {z : Wd} {a b : Nat} (hw : ∃ (v2 : Int32), Ct G M_X0_hasChime [.ref q] (SH, mm, lm) false (.inl (some (.int v2))) (SH, mm, lm) false 0 0 ∧ ((v2 = 0) → o = .inl (some (.int 0)) ∧ z = (SH, mm, lm)) ∧ ((¬ v2 = 0) → ((x1 < (mm q 6)) → o = .inl (some (.int 0)) ∧ z = (SH, mm, lm)) ∧ ((¬ x1 < (mm q 6)) → ¬ (mm q 7) = 0 ∧ ((¬ ((x1 - (mm q 6)) - (x1 - (mm q 6)) / (mm q 7) * (mm q 7)) = 0) → o = .inl (some (.int 0)) ∧ z = (SH, mm, lm)) ∧ ((((x1 - (mm q 6)) - (x1 - (mm q 6)) / (mm q 7) * (mm q 7)) = 0) → o = .inl (some (.int 1)) ∧ z = (SH, mm, lm))))) :
    J G M_X0_chimesAt 0 [(0, .ref q), (1, .int x1)] [] (SH, mm, lm) false o z false a b := by
  refine J_aload_n rfl (i := 0) rfl dX0_chimesAt_0 ?_
  obtain ⟨v2, hc1, hw⟩ := hw
  refine J_callV (as := []) (k := q) (st := []) cal_X0_hasChime cai_X0_hasChime gw_1281 ⟨by decide, by decide⟩ cnt_X0_hasChime hq_q rfl rfl (Nat.le_of_ble_eq_true rfl) dX0_chimesAt_1 (Nat.zero_add _).symm (Nat.zero_add _).symm hc1 ?_
  refine J_if_eq (tgt := 33) dX0_chimesAt_4 (by decide) (fun hb7 => ?_) (fun hb7 => ?_)
  · replace hw := hw.1 hb7
    refine J_iconst (v := 0) (by decide) dX0_chimesAt_33 ?_
    exact J_fini (ty := .boolean) rfl rfl dX0_chimesAt_34 hw
  · replace hw := hw.2 hb7
    refine J_iload_n rfl (i := 1) rfl dX0_chimesAt_7 ?_
    refine J_aload_n rfl (i := 0) rfl dX0_chimesAt_8 ?_
    refine J_geti kls_0 (q := q) (k := 6) hq_q (by decide) rfl gw_272 dX0_chimesAt_9 ?_
    refine J_icmp_lt (tgt := 33) dX0_chimesAt_12 (by decide) (fun hb6 => ?_) (fun hb6 => ?_)
    · replace hw := hw.1 hb6
      refine J_iconst (v := 0) (by decide) dX0_chimesAt_33 ?_
      exact J_fini (ty := .boolean) rfl rfl dX0_chimesAt_34 hw
    · replace hw := hw.2 hb6
      refine J_iload_n rfl (i := 1) rfl dX0_chimesAt_15 ?_
      refine J_aload_n rfl (i := 0) rfl dX0_chimesAt_16 ?_
      refine J_geti kls_0 (q := q) (k := 6) hq_q (by decide) rfl gw_272 dX0_chimesAt_17 ?_
      refine J_isub dX0_chimesAt_20 ?_
      refine J_aload_n rfl (i := 0) rfl dX0_chimesAt_21 ?_
      refine J_geti kls_0 (q := q) (k := 7) hq_q (by decide) rfl gw_275 dX0_chimesAt_22 ?_
      obtain ⟨hz5, hw⟩ := hw
      refine J_irem hz5 dX0_chimesAt_25 ?_
      refine J_if_ne (tgt := 33) dX0_chimesAt_26 (by decide) (fun hb4 => ?_) (fun hb4 => ?_)
      · replace hw := hw.1 hb4
        refine J_iconst (v := 0) (by decide) dX0_chimesAt_33 ?_
        exact J_fini (ty := .boolean) rfl rfl dX0_chimesAt_34 hw
      · replace hw := hw.2 hb4
        refine J_iconst (v := 1) (by decide) dX0_chimesAt_29 ?_
        refine J_goto (tgt := 34) dX0_chimesAt_30 (by decide) ?_
        exact J_fini (ty := .boolean) rfl rfl dX0_chimesAt_34 hw
