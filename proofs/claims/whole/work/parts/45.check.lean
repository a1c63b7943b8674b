/-! ===== the checks of the arguments, of the class and of the reference; each call put together (wip/gen/mk45.py) ===== -/
section Check
variable {G : Gx} {I : (Nat → Nat → Int32) → Prop} {mm : Nat → Nat → Int32} {lm : Nat → Int64} {x1 x2 x3 : Int32}
/-- what both sides do behind the checks: they answer alike -/
def CoreI (G : Gx) (I : (Nat → Nat → Int32) → Prop) (Mx Mm : Md) (px pm : Nat) (L Lm : List (Nat × Value)) (mm : Nat → Nat → Int32) (lm : Nat → Int64) : Prop :=
  ∃ (v : Int32) (mm1 : Nat → Nat → Int32), J G Mx px L [] (SH, mm, lm) false (.inl (some (.int v))) (SH, mm1, lm) false 1 6 ∧ (mm1 63 3 = mm 63 3 ∧ mm1 63 5 = mm 63 5 ∧ mm1 63 8 = mm 63 8) ∧
    ∀ l : Nat → Int64, ∃ mm2, J G Mm pm Lm [] (SH, mset mm1 63 4 0, l) false (.inl (some (.int v))) (SH, mm2, l) false 0 0 ∧ mm2 63 4 = 0 ∧ I mm2
/-- .. or throw alike: nothing hangs there -/
def CoreN (G : Gx) (I : (Nat → Nat → Int32) → Prop) (Mx Mm : Md) (px pm : Nat) (L Lm : List (Nat × Value)) (mm : Nat → Nat → Int32) (lm : Nat → Int64) : Prop :=
  J G Mx px L [] (SH, mm, lm) false (.inr NSE) (SH, mm, lm) false 1 6 ∧
    ∀ l : Nat → Int64, ∃ (v : Int32) (mm2 : Nat → Nat → Int32), J G Mm pm Lm [] (SH, mset mm 63 4 0, l) false (.inl (some (.int v))) (SH, mm2, l) false 0 0 ∧ mm2 63 4 = 3 ∧ I mm2
/-- what every invariant gives -/
def Bas (I : (Nat → Nat → Int32) → Prop) : Prop := ∀ mm, I mm → (mm 63 3 = 0 ↔ mm 0 10 = 0) ∧ mm 63 8 = mm 4 9 ∧ mm 63 5 = mm 4 8 ∧ ∀ t, I (mset mm 63 4 t)
theorem wA (h : mm 63 3 = 0) (v : Int32) : Ct G M_X10_isWrong [.ref 63, .int v] (SH, mm, lm) false (.inl (some (.int 1))) (SH, mset mm 63 4 1, lm) false 0 0 := by
  have e := cm_isWrong (G := G) (mm := mm) (lm := lm) v
  rwa [thrV, if_pos h, bI_t (by decide)] at e
theorem wB (h : ¬ mm 63 3 = 0) : Ct G M_X10_isWrong [.ref 63, .int 0] (SH, mm, lm) false (.inl (some (.int 1))) (SH, mset mm 63 4 2, lm) false 0 0 := by
  have e := cm_isWrong (G := G) (mm := mm) (lm := lm) 0
  rwa [thrV, if_neg h, if_pos rfl, bI_t (by decide)] at e
theorem wC (h : ¬ mm 63 3 = 0) {v : Int32} (hv : ¬ v = 0) : Ct G M_X10_isWrong [.ref 63, .int v] (SH, mm, lm) false (.inl (some (.int 0))) (SH, mset mm 63 4 0, lm) false 0 0 := by
  have e := cm_isWrong (G := G) (mm := mm) (lm := lm) v
  rwa [thrV, if_neg h, if_neg hv, bI_f (by decide)] at e
theorem inR_max {x : Int32} (h : ¬ x < 0) : inR 0 2147483647 x := by
  refine ⟨h, ?_⟩
  have q := fb_rng x
  rw [fa_le, show (2147483647 : Int32).toInt = 2147483647 from rfl]; omega
theorem kA_hang (h : mm 0 10 = 0) : Ct G M_X9_hang [.ref 0, .int x1, .int x2, .int x3] (SH, mm, lm) false (.inr ISE) (SH, mm, lm) false 1 6 :=
  CJ (bX9_hang_0 (Or.inr ⟨_, c_rtx h, rfl, rfl, Nat.le_refl _, Nat.le_refl _⟩))
theorem kC_hang (h : ¬ mm 0 10 = 0) (g1 : inR 0 (mm 4 9 - 1) x1) (g2 : inR 0 (mm 4 8 - 1) x2) (g3 : inR (-15) 15 x3) {o : Ou} {z : Wd} (hj : J G M_X9_hang 22 [(0, .ref 0), (1, .int x1), (2, .int x2), (3, .int x3)] [] (SH, mm, lm) false o z false 1 6) : Ct G M_X9_hang [.ref 0, .int x1, .int x2, .int x3] (SH, mm, lm) false o z false 1 6 :=
  CJ (bX9_hang_0 (Or.inl ⟨c_rt h, Or.inl ⟨c_rb g1, Or.inl ⟨c_rm g2, Or.inl ⟨c_rr g3, hj⟩⟩⟩⟩))
theorem kB_hang (h : ¬ mm 0 10 = 0) (hb : ¬ ((inR 0 (mm 4 9 - 1) x1) ∧ (inR 0 (mm 4 8 - 1) x2) ∧ (inR (-15) 15 x3))) : Ct G M_X9_hang [.ref 0, .int x1, .int x2, .int x3] (SH, mm, lm) false (.inr IAE) (SH, mm, lm) false 1 6 := by
  by_cases g1 : inR 0 (mm 4 9 - 1) x1
  · by_cases g2 : inR 0 (mm 4 8 - 1) x2
    · by_cases g3 : inR (-15) 15 x3
      · exact absurd (⟨g1, g2, g3⟩) hb
      · exact CJ (bX9_hang_0 (Or.inl ⟨c_rt h, Or.inl ⟨c_rb g1, Or.inl ⟨c_rm g2, Or.inr ⟨_, c_rrx g3, rfl, rfl, Nat.le_refl _, Nat.le_refl _⟩⟩⟩⟩))
    · exact CJ (bX9_hang_0 (Or.inl ⟨c_rt h, Or.inl ⟨c_rb g1, Or.inr ⟨_, c_rmx g2, rfl, rfl, Nat.le_refl _, Nat.le_refl _⟩⟩⟩))
  · exact CJ (bX9_hang_0 (Or.inl ⟨c_rt h, Or.inr ⟨_, c_rbx g1, rfl, rfl, Nat.le_refl _, Nat.le_refl _⟩⟩))
theorem mA_hang (h : mm 63 3 = 0) : Ct G M_X10_hang [.ref 63, .int x1, .int x2, .int x3] (SH, mm, lm) false (.inl (some (.int 0))) (SH, mset mm 63 4 1, lm) false 0 0 :=
  CJ (bX10_hang_0 (⟨_, cm_isBell x1, fun z => ⟨_, _, wA h _, fun z => absurd z (by decide), fun _ => ⟨rfl, rfl⟩⟩, fun z => ⟨_, cm_isBeam x2, fun z => ⟨_, _, wA h _, fun z => absurd z (by decide), fun _ => ⟨rfl, rfl⟩⟩, fun z => ⟨_, cm_isPosition x3, fun z => ⟨_, _, wA h _, fun z => absurd z (by decide), fun _ => ⟨rfl, rfl⟩⟩, fun z => ⟨_, _, wA h _, fun z => absurd z (by decide), fun _ => ⟨rfl, rfl⟩⟩⟩⟩⟩))
theorem mC_hang (h : ¬ mm 63 3 = 0) (g1 : inR 0 (mm 63 8 - 1) x1) (g2 : inR 0 (mm 63 5 - 1) x2) (g3 : inR (-15) 15 x3) {o : Ou} {z : Wd} (hj : J G M_X10_hang 37 [(0, .ref 63), (1, .int x1), (2, .int x2), (3, .int x3)] [] (SH, mset mm 63 4 0, lm) false o z false 0 0) : Ct G M_X10_hang [.ref 63, .int x1, .int x2, .int x3] (SH, mm, lm) false o z false 0 0 :=
  CJ (bX10_hang_0 (⟨_, cm_isBell x1, fun z => absurd g1 (bI_0.mp z), fun z => ⟨_, cm_isBeam x2, fun z => absurd g2 (bI_0.mp z), fun z => ⟨_, cm_isPosition x3, fun z => absurd g3 (bI_0.mp z), fun z => ⟨_, _, wC h (by decide), fun _ => hj, fun z => absurd rfl z⟩⟩⟩⟩))
theorem mB_hang (h : ¬ mm 63 3 = 0) (hb : ¬ ((inR 0 (mm 63 8 - 1) x1) ∧ (inR 0 (mm 63 5 - 1) x2) ∧ (inR (-15) 15 x3))) : Ct G M_X10_hang [.ref 63, .int x1, .int x2, .int x3] (SH, mm, lm) false (.inl (some (.int 0))) (SH, mset mm 63 4 2, lm) false 0 0 := by
  by_cases g1 : inR 0 (mm 63 8 - 1) x1
  · by_cases g2 : inR 0 (mm 63 5 - 1) x2
    · by_cases g3 : inR (-15) 15 x3
      · exact absurd (⟨g1, g2, g3⟩) hb
      · exact CJ (bX10_hang_0 (⟨_, cm_isBell x1, fun z => absurd g1 (bI_0.mp z), fun z => ⟨_, cm_isBeam x2, fun z => absurd g2 (bI_0.mp z), fun z => ⟨_, cm_isPosition x3, fun z => ⟨_, _, wB h, fun z => absurd z (by decide), fun _ => ⟨rfl, rfl⟩⟩, fun z => absurd (bI_1.mp z) g3⟩⟩⟩))
    · exact CJ (bX10_hang_0 (⟨_, cm_isBell x1, fun z => absurd g1 (bI_0.mp z), fun z => ⟨_, cm_isBeam x2, fun z => ⟨_, _, wB h, fun z => absurd z (by decide), fun _ => ⟨rfl, rfl⟩⟩, fun z => absurd (bI_1.mp z) g2⟩⟩))
  · exact CJ (bX10_hang_0 (⟨_, cm_isBell x1, fun z => ⟨_, _, wB h, fun z => absurd z (by decide), fun _ => ⟨rfl, rfl⟩⟩, fun z => absurd (bI_1.mp z) g1⟩))
theorem as_hang (hB : Bas I) (core : ∀ mm lm, I mm → ¬ mm 0 10 = 0 → inR 0 (mm 4 9 - 1) x1 → inR 0 (mm 4 8 - 1) x2 → inR (-15) 15 x3 → CoreI G I M_X9_hang M_X10_hang 22 37 [(0, .ref 0), (1, .int x1), (2, .int x2), (3, .int x3)] [(0, .ref 63), (1, .int x1), (2, .int x2), (3, .int x3)] mm lm) : OpW G I M_L_hang M_X10_hang [.int x1, .int x2, .int x3] cmpI := by
  intro mm lm hI
  obtain ⟨b1, b2, b3, b4⟩ := hB mm hI
  by_cases h : mm 0 10 = 0
  · exact ⟨1, mm, lm, 0, _, w1_hang (kA_hang h), mA_hang (b1.mpr h), mset_eq, fun z => absurd z (by decide), b4 1⟩
  · by_cases hg : (inR 0 (mm 4 9 - 1) x1) ∧ (inR 0 (mm 4 8 - 1) x2) ∧ (inR (-15) 15 x3)
    · obtain ⟨g1, g2, g3⟩ := hg
      obtain ⟨v, mm1, q1, q2, q6⟩ := core mm lm hI h g1 g2 g3
      obtain ⟨mm2, q3, q4, q5⟩ := q6 (vp_updL lm 0 v.toInt64)
      exact ⟨0, mm1, _, v, mm2, w_hang (kC_hang h g1 g2 g3 q1), mC_hang (fun z => h (b1.mp (q2.1 ▸ z))) (by rw [q2.2.2, b2]; exact g1) (by rw [q2.2.1, b3]; exact g2) g3 q3, q4, fun _ => rfl, q5⟩
    · exact ⟨2, mm, lm, 0, _, w2_hang (kB_hang h hg), mB_hang (fun z => h (b1.mp z)) (fun z => hg ⟨(by rw [← b2]; exact z.1), (by rw [← b3]; exact z.2.1), z.2.2⟩), mset_eq, fun z => absurd z (by decide), b4 2⟩
theorem kA_takeDown (h : mm 0 10 = 0) : Ct G M_X9_takeDown [.ref 0, .int x1] (SH, mm, lm) false (.inr ISE) (SH, mm, lm) false 1 6 :=
  CJ (bX9_takeDown_0 (Or.inr ⟨_, c_rtx h, rfl, rfl, Nat.le_refl _, Nat.le_refl _⟩))
theorem kC_takeDown (h : ¬ mm 0 10 = 0) (g1 : inR 0 (mm 4 9 - 1) x1) {o : Ou} {z : Wd} (hj : J G M_X9_takeDown 9 [(0, .ref 0), (1, .int x1)] [] (SH, mm, lm) false o z false 1 6) : Ct G M_X9_takeDown [.ref 0, .int x1] (SH, mm, lm) false o z false 1 6 :=
  CJ (bX9_takeDown_0 (Or.inl ⟨c_rt h, Or.inl ⟨c_rb g1, hj⟩⟩))
theorem kB_takeDown (h : ¬ mm 0 10 = 0) (hb : ¬ ((inR 0 (mm 4 9 - 1) x1))) : Ct G M_X9_takeDown [.ref 0, .int x1] (SH, mm, lm) false (.inr IAE) (SH, mm, lm) false 1 6 := by
  by_cases g1 : inR 0 (mm 4 9 - 1) x1
  · exact absurd (g1) hb
  · exact CJ (bX9_takeDown_0 (Or.inl ⟨c_rt h, Or.inr ⟨_, c_rbx g1, rfl, rfl, Nat.le_refl _, Nat.le_refl _⟩⟩))
theorem mA_takeDown (h : mm 63 3 = 0) : Ct G M_X10_takeDown [.ref 63, .int x1] (SH, mm, lm) false (.inl (some (.int 0))) (SH, mset mm 63 4 1, lm) false 0 0 :=
  CJ (bX10_takeDown_0 (⟨_, cm_isBell x1, ⟨_, _, wA h _, fun z => absurd z (by decide), fun _ => ⟨rfl, rfl⟩⟩⟩))
theorem mC_takeDown (h : ¬ mm 63 3 = 0) (g1 : inR 0 (mm 63 8 - 1) x1) {o : Ou} {z : Wd} (hj : J G M_X10_takeDown 14 [(0, .ref 63), (1, .int x1)] [] (SH, mset mm 63 4 0, lm) false o z false 0 0) : Ct G M_X10_takeDown [.ref 63, .int x1] (SH, mm, lm) false o z false 0 0 :=
  CJ (bX10_takeDown_0 (⟨_, cm_isBell x1, ⟨_, _, wC h (bI_1.mpr g1), fun _ => hj, fun z => absurd rfl z⟩⟩))
theorem mB_takeDown (h : ¬ mm 63 3 = 0) (hb : ¬ ((inR 0 (mm 63 8 - 1) x1))) : Ct G M_X10_takeDown [.ref 63, .int x1] (SH, mm, lm) false (.inl (some (.int 0))) (SH, mset mm 63 4 2, lm) false 0 0 := by
  by_cases g1 : inR 0 (mm 63 8 - 1) x1
  · exact absurd (g1) hb
  · exact CJ (bX10_takeDown_0 (⟨0, (bI_f g1) ▸ cm_isBell x1, ⟨_, _, wB h, fun z => absurd z (by decide), fun _ => ⟨rfl, rfl⟩⟩⟩))
theorem as_takeDown (hB : Bas I) (core : ∀ mm lm, I mm → ¬ mm 0 10 = 0 → inR 0 (mm 4 9 - 1) x1 → CoreI G I M_X9_takeDown M_X10_takeDown 9 14 [(0, .ref 0), (1, .int x1)] [(0, .ref 63), (1, .int x1)] mm lm) : OpW G I M_L_takeDown M_X10_takeDown [.int x1] cmpI := by
  intro mm lm hI
  obtain ⟨b1, b2, b3, b4⟩ := hB mm hI
  by_cases h : mm 0 10 = 0
  · exact ⟨1, mm, lm, 0, _, w1_takeDown (kA_takeDown h), mA_takeDown (b1.mpr h), mset_eq, fun z => absurd z (by decide), b4 1⟩
  · by_cases hg : (inR 0 (mm 4 9 - 1) x1)
    · have g1 := hg
      obtain ⟨v, mm1, q1, q2, q6⟩ := core mm lm hI h g1
      obtain ⟨mm2, q3, q4, q5⟩ := q6 (vp_updL lm 0 v.toInt64)
      exact ⟨0, mm1, _, v, mm2, w_takeDown (kC_takeDown h g1 q1), mC_takeDown (fun z => h (b1.mp (q2.1 ▸ z))) (by rw [q2.2.2, b2]; exact g1) q3, q4, fun _ => rfl, q5⟩
    · exact ⟨2, mm, lm, 0, _, w2_takeDown (kB_takeDown h hg), mB_takeDown (fun z => h (b1.mp z)) (fun z => hg (by rw [← b2]; exact z)), mset_eq, fun z => absurd z (by decide), b4 2⟩
theorem kA_shift (h : mm 0 10 = 0) : Ct G M_X9_shift [.ref 0, .int x1, .int x2] (SH, mm, lm) false (.inr ISE) (SH, mm, lm) false 1 6 :=
  CJ (bX9_shift_0 (Or.inr ⟨_, c_rtx h, rfl, rfl, Nat.le_refl _, Nat.le_refl _⟩))
theorem kC_shift (h : ¬ mm 0 10 = 0) (g1 : inR 0 (mm 4 9 - 1) x1) (g2 : inR (-15) 15 x2) {o : Ou} {z : Wd} (hj : J G M_X9_shift 17 [(0, .ref 0), (1, .int x1), (2, .int x2)] [] (SH, mm, lm) false o z false 1 6) : Ct G M_X9_shift [.ref 0, .int x1, .int x2] (SH, mm, lm) false o z false 1 6 :=
  CJ (bX9_shift_0 (Or.inl ⟨c_rt h, Or.inl ⟨c_rb g1, Or.inl ⟨c_rr g2, hj⟩⟩⟩))
theorem kB_shift (h : ¬ mm 0 10 = 0) (hb : ¬ ((inR 0 (mm 4 9 - 1) x1) ∧ (inR (-15) 15 x2))) : Ct G M_X9_shift [.ref 0, .int x1, .int x2] (SH, mm, lm) false (.inr IAE) (SH, mm, lm) false 1 6 := by
  by_cases g1 : inR 0 (mm 4 9 - 1) x1
  · by_cases g2 : inR (-15) 15 x2
    · exact absurd (⟨g1, g2⟩) hb
    · exact CJ (bX9_shift_0 (Or.inl ⟨c_rt h, Or.inl ⟨c_rb g1, Or.inr ⟨_, c_rrx g2, rfl, rfl, Nat.le_refl _, Nat.le_refl _⟩⟩⟩))
  · exact CJ (bX9_shift_0 (Or.inl ⟨c_rt h, Or.inr ⟨_, c_rbx g1, rfl, rfl, Nat.le_refl _, Nat.le_refl _⟩⟩))
theorem mA_shift (h : mm 63 3 = 0) : Ct G M_X10_shift [.ref 63, .int x1, .int x2] (SH, mm, lm) false (.inl (some (.int 0))) (SH, mset mm 63 4 1, lm) false 0 0 :=
  CJ (bX10_shift_0 (⟨_, cm_isBell x1, fun z => ⟨_, _, wA h _, fun z => absurd z (by decide), fun _ => ⟨rfl, rfl⟩⟩, fun z => ⟨_, cm_isPosition x2, fun z => ⟨_, _, wA h _, fun z => absurd z (by decide), fun _ => ⟨rfl, rfl⟩⟩, fun z => ⟨_, _, wA h _, fun z => absurd z (by decide), fun _ => ⟨rfl, rfl⟩⟩⟩⟩))
theorem mC_shift (h : ¬ mm 63 3 = 0) (g1 : inR 0 (mm 63 8 - 1) x1) (g2 : inR (-15) 15 x2) {o : Ou} {z : Wd} (hj : J G M_X10_shift 29 [(0, .ref 63), (1, .int x1), (2, .int x2)] [] (SH, mset mm 63 4 0, lm) false o z false 0 0) : Ct G M_X10_shift [.ref 63, .int x1, .int x2] (SH, mm, lm) false o z false 0 0 :=
  CJ (bX10_shift_0 (⟨_, cm_isBell x1, fun z => absurd g1 (bI_0.mp z), fun z => ⟨_, cm_isPosition x2, fun z => absurd g2 (bI_0.mp z), fun z => ⟨_, _, wC h (by decide), fun _ => hj, fun z => absurd rfl z⟩⟩⟩))
theorem mB_shift (h : ¬ mm 63 3 = 0) (hb : ¬ ((inR 0 (mm 63 8 - 1) x1) ∧ (inR (-15) 15 x2))) : Ct G M_X10_shift [.ref 63, .int x1, .int x2] (SH, mm, lm) false (.inl (some (.int 0))) (SH, mset mm 63 4 2, lm) false 0 0 := by
  by_cases g1 : inR 0 (mm 63 8 - 1) x1
  · by_cases g2 : inR (-15) 15 x2
    · exact absurd (⟨g1, g2⟩) hb
    · exact CJ (bX10_shift_0 (⟨_, cm_isBell x1, fun z => absurd g1 (bI_0.mp z), fun z => ⟨_, cm_isPosition x2, fun z => ⟨_, _, wB h, fun z => absurd z (by decide), fun _ => ⟨rfl, rfl⟩⟩, fun z => absurd (bI_1.mp z) g2⟩⟩))
  · exact CJ (bX10_shift_0 (⟨_, cm_isBell x1, fun z => ⟨_, _, wB h, fun z => absurd z (by decide), fun _ => ⟨rfl, rfl⟩⟩, fun z => absurd (bI_1.mp z) g1⟩))
theorem as_shift (hB : Bas I) (core : ∀ mm lm, I mm → ¬ mm 0 10 = 0 → inR 0 (mm 4 9 - 1) x1 → inR (-15) 15 x2 → CoreI G I M_X9_shift M_X10_shift 17 29 [(0, .ref 0), (1, .int x1), (2, .int x2)] [(0, .ref 63), (1, .int x1), (2, .int x2)] mm lm) : OpW G I M_L_shift M_X10_shift [.int x1, .int x2] cmpI := by
  intro mm lm hI
  obtain ⟨b1, b2, b3, b4⟩ := hB mm hI
  by_cases h : mm 0 10 = 0
  · exact ⟨1, mm, lm, 0, _, w1_shift (kA_shift h), mA_shift (b1.mpr h), mset_eq, fun z => absurd z (by decide), b4 1⟩
  · by_cases hg : (inR 0 (mm 4 9 - 1) x1) ∧ (inR (-15) 15 x2)
    · obtain ⟨g1, g2⟩ := hg
      obtain ⟨v, mm1, q1, q2, q6⟩ := core mm lm hI h g1 g2
      obtain ⟨mm2, q3, q4, q5⟩ := q6 (vp_updL lm 0 v.toInt64)
      exact ⟨0, mm1, _, v, mm2, w_shift (kC_shift h g1 g2 q1), mC_shift (fun z => h (b1.mp (q2.1 ▸ z))) (by rw [q2.2.2, b2]; exact g1) g2 q3, q4, fun _ => rfl, q5⟩
    · exact ⟨2, mm, lm, 0, _, w2_shift (kB_shift h hg), mB_shift (fun z => h (b1.mp z)) (fun z => hg ⟨(by rw [← b2]; exact z.1), z.2⟩), mset_eq, fun z => absurd z (by decide), b4 2⟩
theorem kA_beamOf (h : mm 0 10 = 0) : Ct G M_X9_beamOf [.ref 0, .int x1] (SH, mm, lm) false (.inr ISE) (SH, mm, lm) false 1 6 :=
  CJ (bX9_beamOf_0 (Or.inr ⟨_, c_rtx h, rfl, rfl, Nat.le_refl _, Nat.le_refl _⟩))
theorem kC_beamOf (h : ¬ mm 0 10 = 0) (g1 : inR 0 (mm 4 9 - 1) x1) {o : Ou} {z : Wd} (hj : J G M_X9_beamOf 9 [(0, .ref 0), (1, .int x1)] [] (SH, mm, lm) false o z false 1 6) : Ct G M_X9_beamOf [.ref 0, .int x1] (SH, mm, lm) false o z false 1 6 :=
  CJ (bX9_beamOf_0 (Or.inl ⟨c_rt h, Or.inl ⟨c_rb g1, hj⟩⟩))
theorem kB_beamOf (h : ¬ mm 0 10 = 0) (hb : ¬ ((inR 0 (mm 4 9 - 1) x1))) : Ct G M_X9_beamOf [.ref 0, .int x1] (SH, mm, lm) false (.inr IAE) (SH, mm, lm) false 1 6 := by
  by_cases g1 : inR 0 (mm 4 9 - 1) x1
  · exact absurd (g1) hb
  · exact CJ (bX9_beamOf_0 (Or.inl ⟨c_rt h, Or.inr ⟨_, c_rbx g1, rfl, rfl, Nat.le_refl _, Nat.le_refl _⟩⟩))
theorem mA_beamOf (h : mm 63 3 = 0) : Ct G M_X10_beamOf [.ref 63, .int x1] (SH, mm, lm) false (.inl (some (.int 0))) (SH, mset mm 63 4 1, lm) false 0 0 :=
  CJ (bX10_beamOf_0 (⟨_, cm_isBell x1, ⟨_, _, wA h _, fun z => absurd z (by decide), fun _ => ⟨rfl, rfl⟩⟩⟩))
theorem mC_beamOf (h : ¬ mm 63 3 = 0) (g1 : inR 0 (mm 63 8 - 1) x1) {o : Ou} {z : Wd} (hj : J G M_X10_beamOf 14 [(0, .ref 63), (1, .int x1)] [] (SH, mset mm 63 4 0, lm) false o z false 0 0) : Ct G M_X10_beamOf [.ref 63, .int x1] (SH, mm, lm) false o z false 0 0 :=
  CJ (bX10_beamOf_0 (⟨_, cm_isBell x1, ⟨_, _, wC h (bI_1.mpr g1), fun _ => hj, fun z => absurd rfl z⟩⟩))
theorem mB_beamOf (h : ¬ mm 63 3 = 0) (hb : ¬ ((inR 0 (mm 63 8 - 1) x1))) : Ct G M_X10_beamOf [.ref 63, .int x1] (SH, mm, lm) false (.inl (some (.int 0))) (SH, mset mm 63 4 2, lm) false 0 0 := by
  by_cases g1 : inR 0 (mm 63 8 - 1) x1
  · exact absurd (g1) hb
  · exact CJ (bX10_beamOf_0 (⟨0, (bI_f g1) ▸ cm_isBell x1, ⟨_, _, wB h, fun z => absurd z (by decide), fun _ => ⟨rfl, rfl⟩⟩⟩))
theorem as_beamOf (hB : Bas I) (core : ∀ mm lm, I mm → ¬ mm 0 10 = 0 → inR 0 (mm 4 9 - 1) x1 → CoreI G I M_X9_beamOf M_X10_beamOf 9 14 [(0, .ref 0), (1, .int x1)] [(0, .ref 63), (1, .int x1)] mm lm) : OpW G I M_L_beamOf M_X10_beamOf [.int x1] cmpI := by
  intro mm lm hI
  obtain ⟨b1, b2, b3, b4⟩ := hB mm hI
  by_cases h : mm 0 10 = 0
  · exact ⟨1, mm, lm, 0, _, w1_beamOf (kA_beamOf h), mA_beamOf (b1.mpr h), mset_eq, fun z => absurd z (by decide), b4 1⟩
  · by_cases hg : (inR 0 (mm 4 9 - 1) x1)
    · have g1 := hg
      obtain ⟨v, mm1, q1, q2, q6⟩ := core mm lm hI h g1
      obtain ⟨mm2, q3, q4, q5⟩ := q6 (vp_updL lm 0 v.toInt64)
      exact ⟨0, mm1, _, v, mm2, w_beamOf (kC_beamOf h g1 q1), mC_beamOf (fun z => h (b1.mp (q2.1 ▸ z))) (by rw [q2.2.2, b2]; exact g1) q3, q4, fun _ => rfl, q5⟩
    · exact ⟨2, mm, lm, 0, _, w2_beamOf (kB_beamOf h hg), mB_beamOf (fun z => h (b1.mp z)) (fun z => hg (by rw [← b2]; exact z)), mset_eq, fun z => absurd z (by decide), b4 2⟩
theorem kA_positionOf (h : mm 0 10 = 0) : Ct G M_X9_positionOf [.ref 0, .int x1] (SH, mm, lm) false (.inr ISE) (SH, mm, lm) false 1 6 :=
  CJ (bX9_positionOf_0 (Or.inr ⟨_, c_rtx h, rfl, rfl, Nat.le_refl _, Nat.le_refl _⟩))
theorem kC_positionOf (h : ¬ mm 0 10 = 0) (g1 : inR 0 (mm 4 9 - 1) x1) {o : Ou} {z : Wd} (hj : J G M_X9_positionOf 9 [(0, .ref 0), (1, .int x1)] [] (SH, mm, lm) false o z false 1 6) : Ct G M_X9_positionOf [.ref 0, .int x1] (SH, mm, lm) false o z false 1 6 :=
  CJ (bX9_positionOf_0 (Or.inl ⟨c_rt h, Or.inl ⟨c_rb g1, hj⟩⟩))
theorem kB_positionOf (h : ¬ mm 0 10 = 0) (hb : ¬ ((inR 0 (mm 4 9 - 1) x1))) : Ct G M_X9_positionOf [.ref 0, .int x1] (SH, mm, lm) false (.inr IAE) (SH, mm, lm) false 1 6 := by
  by_cases g1 : inR 0 (mm 4 9 - 1) x1
  · exact absurd (g1) hb
  · exact CJ (bX9_positionOf_0 (Or.inl ⟨c_rt h, Or.inr ⟨_, c_rbx g1, rfl, rfl, Nat.le_refl _, Nat.le_refl _⟩⟩))
theorem mA_positionOf (h : mm 63 3 = 0) : Ct G M_X10_positionOf [.ref 63, .int x1] (SH, mm, lm) false (.inl (some (.int 0))) (SH, mset mm 63 4 1, lm) false 0 0 :=
  CJ (bX10_positionOf_0 (⟨_, cm_isBell x1, ⟨_, _, wA h _, fun z => absurd z (by decide), fun _ => ⟨rfl, rfl⟩⟩⟩))
theorem mC_positionOf (h : ¬ mm 63 3 = 0) (g1 : inR 0 (mm 63 8 - 1) x1) {o : Ou} {z : Wd} (hj : J G M_X10_positionOf 14 [(0, .ref 63), (1, .int x1)] [] (SH, mset mm 63 4 0, lm) false o z false 0 0) : Ct G M_X10_positionOf [.ref 63, .int x1] (SH, mm, lm) false o z false 0 0 :=
  CJ (bX10_positionOf_0 (⟨_, cm_isBell x1, ⟨_, _, wC h (bI_1.mpr g1), fun _ => hj, fun z => absurd rfl z⟩⟩))
theorem mB_positionOf (h : ¬ mm 63 3 = 0) (hb : ¬ ((inR 0 (mm 63 8 - 1) x1))) : Ct G M_X10_positionOf [.ref 63, .int x1] (SH, mm, lm) false (.inl (some (.int 0))) (SH, mset mm 63 4 2, lm) false 0 0 := by
  by_cases g1 : inR 0 (mm 63 8 - 1) x1
  · exact absurd (g1) hb
  · exact CJ (bX10_positionOf_0 (⟨0, (bI_f g1) ▸ cm_isBell x1, ⟨_, _, wB h, fun z => absurd z (by decide), fun _ => ⟨rfl, rfl⟩⟩⟩))
theorem as_positionOf (hB : Bas I) (core : ∀ mm lm, I mm → ¬ mm 0 10 = 0 → inR 0 (mm 4 9 - 1) x1 → (CoreI G I M_X9_positionOf M_X10_positionOf 9 14 [(0, .ref 0), (1, .int x1)] [(0, .ref 63), (1, .int x1)] mm lm ∨ CoreN G I M_X9_positionOf M_X10_positionOf 9 14 [(0, .ref 0), (1, .int x1)] [(0, .ref 63), (1, .int x1)] mm lm)) : OpW G I M_L_positionOf M_X10_positionOf [.int x1] cmpI := by
  intro mm lm hI
  obtain ⟨b1, b2, b3, b4⟩ := hB mm hI
  by_cases h : mm 0 10 = 0
  · exact ⟨1, mm, lm, 0, _, w1_positionOf (kA_positionOf h), mA_positionOf (b1.mpr h), mset_eq, fun z => absurd z (by decide), b4 1⟩
  · by_cases hg : (inR 0 (mm 4 9 - 1) x1)
    · have g1 := hg
      rcases core mm lm hI h g1 with hc | hc
      · obtain ⟨v, mm1, q1, q2, q6⟩ := hc
        obtain ⟨mm2, q3, q4, q5⟩ := q6 (vp_updL lm 0 v.toInt64)
        exact ⟨0, mm1, _, v, mm2, w_positionOf (kC_positionOf h g1 q1), mC_positionOf (fun z => h (b1.mp (q2.1 ▸ z))) (by rw [q2.2.2, b2]; exact g1) q3, q4, fun _ => rfl, q5⟩
      · obtain ⟨q1, q6⟩ := hc
        obtain ⟨v, mm2, q3, q4, q5⟩ := q6 lm
        exact ⟨3, mm, lm, v, mm2, w3_positionOf (kC_positionOf h g1 q1), mC_positionOf (fun z => h (b1.mp z)) (by rw [b2]; exact g1) q3, q4, fun z => absurd z (by decide), q5⟩
    · exact ⟨2, mm, lm, 0, _, w2_positionOf (kB_positionOf h hg), mB_positionOf (fun z => h (b1.mp z)) (fun z => hg (by rw [← b2]; exact z)), mset_eq, fun z => absurd z (by decide), b4 2⟩
theorem kA_torque (h : mm 0 10 = 0) : Ct G M_X9_torque [.ref 0, .int x1] (SH, mm, lm) false (.inr ISE) (SH, mm, lm) false 1 6 :=
  CJ (bX9_torque_0 (Or.inr ⟨_, c_rtx h, rfl, rfl, Nat.le_refl _, Nat.le_refl _⟩))
theorem kC_torque (h : ¬ mm 0 10 = 0) (g1 : inR 0 (mm 4 8 - 1) x1) {o : Ou} {z : Wd} (hj : J G M_X9_torque 9 [(0, .ref 0), (1, .int x1)] [] (SH, mm, lm) false o z false 1 6) : Ct G M_X9_torque [.ref 0, .int x1] (SH, mm, lm) false o z false 1 6 :=
  CJ (bX9_torque_0 (Or.inl ⟨c_rt h, Or.inl ⟨c_rm g1, hj⟩⟩))
theorem kB_torque (h : ¬ mm 0 10 = 0) (hb : ¬ ((inR 0 (mm 4 8 - 1) x1))) : Ct G M_X9_torque [.ref 0, .int x1] (SH, mm, lm) false (.inr IAE) (SH, mm, lm) false 1 6 := by
  by_cases g1 : inR 0 (mm 4 8 - 1) x1
  · exact absurd (g1) hb
  · exact CJ (bX9_torque_0 (Or.inl ⟨c_rt h, Or.inr ⟨_, c_rmx g1, rfl, rfl, Nat.le_refl _, Nat.le_refl _⟩⟩))
theorem mA_torque (h : mm 63 3 = 0) : Ct G M_X10_torque [.ref 63, .int x1] (SH, mm, lm) false (.inl (some (.int 0))) (SH, mset mm 63 4 1, lm) false 0 0 :=
  CJ (bX10_torque_0 (⟨_, cm_isBeam x1, ⟨_, _, wA h _, fun z => absurd z (by decide), fun _ => ⟨rfl, rfl⟩⟩⟩))
theorem mC_torque (h : ¬ mm 63 3 = 0) (g1 : inR 0 (mm 63 5 - 1) x1) {o : Ou} {z : Wd} (hj : J G M_X10_torque 16 [(0, .ref 63), (1, .int x1)] [] (SH, mset mm 63 4 0, lm) false o z false 0 0) : Ct G M_X10_torque [.ref 63, .int x1] (SH, mm, lm) false o z false 0 0 :=
  CJ (bX10_torque_0 (⟨_, cm_isBeam x1, ⟨_, _, wC h (bI_1.mpr g1), fun _ => hj, fun z => absurd rfl z⟩⟩))
theorem mB_torque (h : ¬ mm 63 3 = 0) (hb : ¬ ((inR 0 (mm 63 5 - 1) x1))) : Ct G M_X10_torque [.ref 63, .int x1] (SH, mm, lm) false (.inl (some (.int 0))) (SH, mset mm 63 4 2, lm) false 0 0 := by
  by_cases g1 : inR 0 (mm 63 5 - 1) x1
  · exact absurd (g1) hb
  · exact CJ (bX10_torque_0 (⟨0, (bI_f g1) ▸ cm_isBeam x1, ⟨_, _, wB h, fun z => absurd z (by decide), fun _ => ⟨rfl, rfl⟩⟩⟩))
theorem as_torque (hB : Bas I) (core : ∀ mm lm, I mm → ¬ mm 0 10 = 0 → inR 0 (mm 4 8 - 1) x1 → CoreI G I M_X9_torque M_X10_torque 9 16 [(0, .ref 0), (1, .int x1)] [(0, .ref 63), (1, .int x1)] mm lm) : OpW G I M_L_torque M_X10_torque [.int x1] cmpI := by
  intro mm lm hI
  obtain ⟨b1, b2, b3, b4⟩ := hB mm hI
  by_cases h : mm 0 10 = 0
  · exact ⟨1, mm, lm, 0, _, w1_torque (kA_torque h), mA_torque (b1.mpr h), mset_eq, fun z => absurd z (by decide), b4 1⟩
  · by_cases hg : (inR 0 (mm 4 8 - 1) x1)
    · have g1 := hg
      obtain ⟨v, mm1, q1, q2, q6⟩ := core mm lm hI h g1
      obtain ⟨mm2, q3, q4, q5⟩ := q6 (vp_updL lm 0 v.toInt64)
      exact ⟨0, mm1, _, v, mm2, w_torque (kC_torque h g1 q1), mC_torque (fun z => h (b1.mp (q2.1 ▸ z))) (by rw [q2.2.1, b3]; exact g1) q3, q4, fun _ => rfl, q5⟩
    · exact ⟨2, mm, lm, 0, _, w2_torque (kB_torque h hg), mB_torque (fun z => h (b1.mp z)) (fun z => hg (by rw [← b3]; exact z)), mset_eq, fun z => absurd z (by decide), b4 2⟩
theorem kA_bellAt (h : mm 0 10 = 0) : Ct G M_X9_bellAt [.ref 0, .int x1, .int x2] (SH, mm, lm) false (.inr ISE) (SH, mm, lm) false 1 6 :=
  CJ (bX9_bellAt_0 (Or.inr ⟨_, c_rtx h, rfl, rfl, Nat.le_refl _, Nat.le_refl _⟩))
theorem kC_bellAt (h : ¬ mm 0 10 = 0) (g1 : inR 0 (mm 4 8 - 1) x1) (g2 : inR 0 2147483647 x2) {o : Ou} {z : Wd} (hj : J G M_X9_bellAt 16 [(0, .ref 0), (1, .int x1), (2, .int x2)] [] (SH, mm, lm) false o z false 1 6) : Ct G M_X9_bellAt [.ref 0, .int x1, .int x2] (SH, mm, lm) false o z false 1 6 :=
  CJ (bX9_bellAt_0 (Or.inl ⟨c_rt h, Or.inl ⟨c_rm g1, Or.inl ⟨c_rr g2, hj⟩⟩⟩))
theorem kB_bellAt (h : ¬ mm 0 10 = 0) (hb : ¬ ((inR 0 (mm 4 8 - 1) x1) ∧ (inR 0 2147483647 x2))) : Ct G M_X9_bellAt [.ref 0, .int x1, .int x2] (SH, mm, lm) false (.inr IAE) (SH, mm, lm) false 1 6 := by
  by_cases g1 : inR 0 (mm 4 8 - 1) x1
  · by_cases g2 : inR 0 2147483647 x2
    · exact absurd (⟨g1, g2⟩) hb
    · exact CJ (bX9_bellAt_0 (Or.inl ⟨c_rt h, Or.inl ⟨c_rm g1, Or.inr ⟨_, c_rrx g2, rfl, rfl, Nat.le_refl _, Nat.le_refl _⟩⟩⟩))
  · exact CJ (bX9_bellAt_0 (Or.inl ⟨c_rt h, Or.inr ⟨_, c_rmx g1, rfl, rfl, Nat.le_refl _, Nat.le_refl _⟩⟩))
theorem mA_bellAt (h : mm 63 3 = 0) : Ct G M_X10_bellAt [.ref 63, .int x1, .int x2] (SH, mm, lm) false (.inl (some (.int 0))) (SH, mset mm 63 4 1, lm) false 0 0 :=
  CJ (bX10_bellAt_0 (⟨_, cm_isBeam x1, fun z => ⟨_, _, wA h _, fun z => absurd z (by decide), fun _ => ⟨rfl, rfl⟩⟩, fun z => ⟨fun z => ⟨_, _, wA h _, fun z => absurd z (by decide), fun _ => ⟨rfl, rfl⟩⟩, fun z => ⟨_, _, wA h _, fun z => absurd z (by decide), fun _ => ⟨rfl, rfl⟩⟩⟩⟩))
theorem mC_bellAt (h : ¬ mm 63 3 = 0) (g1 : inR 0 (mm 63 5 - 1) x1) (g2 : ¬ x2 < 0) {o : Ou} {z : Wd} (hj : J G M_X10_bellAt 26 [(0, .ref 63), (1, .int x1), (2, .int x2)] [] (SH, mset mm 63 4 0, lm) false o z false 0 0) : Ct G M_X10_bellAt [.ref 63, .int x1, .int x2] (SH, mm, lm) false o z false 0 0 :=
  CJ (bX10_bellAt_0 (⟨_, cm_isBeam x1, fun z => absurd g1 (bI_0.mp z), fun z => ⟨fun z => absurd z g2, fun z => ⟨_, _, wC h (by decide), fun _ => hj, fun z => absurd rfl z⟩⟩⟩))
theorem mB_bellAt (h : ¬ mm 63 3 = 0) (hb : ¬ ((inR 0 (mm 63 5 - 1) x1) ∧ (¬ x2 < 0))) : Ct G M_X10_bellAt [.ref 63, .int x1, .int x2] (SH, mm, lm) false (.inl (some (.int 0))) (SH, mset mm 63 4 2, lm) false 0 0 := by
  by_cases g1 : inR 0 (mm 63 5 - 1) x1
  · by_cases g2 : ¬ x2 < 0
    · exact absurd (⟨g1, g2⟩) hb
    · exact CJ (bX10_bellAt_0 (⟨_, cm_isBeam x1, fun z => absurd g1 (bI_0.mp z), fun z => ⟨fun z => ⟨_, _, wB h, fun z => absurd z (by decide), fun _ => ⟨rfl, rfl⟩⟩, fun z => absurd z g2⟩⟩))
  · exact CJ (bX10_bellAt_0 (⟨_, cm_isBeam x1, fun z => ⟨_, _, wB h, fun z => absurd z (by decide), fun _ => ⟨rfl, rfl⟩⟩, fun z => absurd (bI_1.mp z) g1⟩))
theorem as_bellAt (hB : Bas I) (core : ∀ mm lm, I mm → ¬ mm 0 10 = 0 → inR 0 (mm 4 8 - 1) x1 → inR 0 2147483647 x2 → CoreI G I M_X9_bellAt M_X10_bellAt 16 26 [(0, .ref 0), (1, .int x1), (2, .int x2)] [(0, .ref 63), (1, .int x1), (2, .int x2)] mm lm) : OpW G I M_L_bellAt M_X10_bellAt [.int x1, .int x2] cmpI := by
  intro mm lm hI
  obtain ⟨b1, b2, b3, b4⟩ := hB mm hI
  by_cases h : mm 0 10 = 0
  · exact ⟨1, mm, lm, 0, _, w1_bellAt (kA_bellAt h), mA_bellAt (b1.mpr h), mset_eq, fun z => absurd z (by decide), b4 1⟩
  · by_cases hg : (inR 0 (mm 4 8 - 1) x1) ∧ (inR 0 2147483647 x2)
    · obtain ⟨g1, g2⟩ := hg
      obtain ⟨v, mm1, q1, q2, q6⟩ := core mm lm hI h g1 g2
      obtain ⟨mm2, q3, q4, q5⟩ := q6 (vp_updL lm 0 v.toInt64)
      exact ⟨0, mm1, _, v, mm2, w_bellAt (kC_bellAt h g1 g2 q1), mC_bellAt (fun z => h (b1.mp (q2.1 ▸ z))) (by rw [q2.2.1, b3]; exact g1) g2.1 q3, q4, fun _ => rfl, q5⟩
    · exact ⟨2, mm, lm, 0, _, w2_bellAt (kB_bellAt h hg), mB_bellAt (fun z => h (b1.mp z)) (fun z => hg ⟨(by rw [← b3]; exact z.1), inR_max z.2⟩), mset_eq, fun z => absurd z (by decide), b4 2⟩
theorem kA_freePositions (h : mm 0 10 = 0) : Ct G M_X9_freePositions [.ref 0, .int x1, .int x2] (SH, mm, lm) false (.inr ISE) (SH, mm, lm) false 1 6 :=
  CJ (bX9_freePositions_0 (Or.inr ⟨_, c_rtx h, rfl, rfl, Nat.le_refl _, Nat.le_refl _⟩))
theorem kC_freePositions (h : ¬ mm 0 10 = 0) (g1 : inR 0 (mm 4 9 - 1) x1) (g2 : inR 0 (mm 4 8 - 1) x2) {o : Ou} {z : Wd} (hj : J G M_X9_freePositions 14 [(0, .ref 0), (1, .int x1), (2, .int x2)] [] (SH, mm, lm) false o z false 1 6) : Ct G M_X9_freePositions [.ref 0, .int x1, .int x2] (SH, mm, lm) false o z false 1 6 :=
  CJ (bX9_freePositions_0 (Or.inl ⟨c_rt h, Or.inl ⟨c_rb g1, Or.inl ⟨c_rm g2, hj⟩⟩⟩))
theorem kB_freePositions (h : ¬ mm 0 10 = 0) (hb : ¬ ((inR 0 (mm 4 9 - 1) x1) ∧ (inR 0 (mm 4 8 - 1) x2))) : Ct G M_X9_freePositions [.ref 0, .int x1, .int x2] (SH, mm, lm) false (.inr IAE) (SH, mm, lm) false 1 6 := by
  by_cases g1 : inR 0 (mm 4 9 - 1) x1
  · by_cases g2 : inR 0 (mm 4 8 - 1) x2
    · exact absurd (⟨g1, g2⟩) hb
    · exact CJ (bX9_freePositions_0 (Or.inl ⟨c_rt h, Or.inl ⟨c_rb g1, Or.inr ⟨_, c_rmx g2, rfl, rfl, Nat.le_refl _, Nat.le_refl _⟩⟩⟩))
  · exact CJ (bX9_freePositions_0 (Or.inl ⟨c_rt h, Or.inr ⟨_, c_rbx g1, rfl, rfl, Nat.le_refl _, Nat.le_refl _⟩⟩))
theorem mA_freePositions (h : mm 63 3 = 0) : Ct G M_X10_freePositions [.ref 63, .int x1, .int x2] (SH, mm, lm) false (.inl (some (.int 0))) (SH, mset mm 63 4 1, lm) false 0 0 :=
  CJ (bX10_freePositions_0 (⟨_, cm_isBell x1, fun z => ⟨_, _, wA h _, fun z => absurd z (by decide), fun _ => ⟨rfl, rfl⟩⟩, fun z => ⟨_, cm_isBeam x2, fun z => ⟨_, _, wA h _, fun z => absurd z (by decide), fun _ => ⟨rfl, rfl⟩⟩, fun z => ⟨_, _, wA h _, fun z => absurd z (by decide), fun _ => ⟨rfl, rfl⟩⟩⟩⟩))
theorem mC_freePositions (h : ¬ mm 63 3 = 0) (g1 : inR 0 (mm 63 8 - 1) x1) (g2 : inR 0 (mm 63 5 - 1) x2) {o : Ou} {z : Wd} (hj : J G M_X10_freePositions 30 [(0, .ref 63), (1, .int x1), (2, .int x2)] [] (SH, mset mm 63 4 0, lm) false o z false 0 0) : Ct G M_X10_freePositions [.ref 63, .int x1, .int x2] (SH, mm, lm) false o z false 0 0 :=
  CJ (bX10_freePositions_0 (⟨_, cm_isBell x1, fun z => absurd g1 (bI_0.mp z), fun z => ⟨_, cm_isBeam x2, fun z => absurd g2 (bI_0.mp z), fun z => ⟨_, _, wC h (by decide), fun _ => hj, fun z => absurd rfl z⟩⟩⟩))
theorem mB_freePositions (h : ¬ mm 63 3 = 0) (hb : ¬ ((inR 0 (mm 63 8 - 1) x1) ∧ (inR 0 (mm 63 5 - 1) x2))) : Ct G M_X10_freePositions [.ref 63, .int x1, .int x2] (SH, mm, lm) false (.inl (some (.int 0))) (SH, mset mm 63 4 2, lm) false 0 0 := by
  by_cases g1 : inR 0 (mm 63 8 - 1) x1
  · by_cases g2 : inR 0 (mm 63 5 - 1) x2
    · exact absurd (⟨g1, g2⟩) hb
    · exact CJ (bX10_freePositions_0 (⟨_, cm_isBell x1, fun z => absurd g1 (bI_0.mp z), fun z => ⟨_, cm_isBeam x2, fun z => ⟨_, _, wB h, fun z => absurd z (by decide), fun _ => ⟨rfl, rfl⟩⟩, fun z => absurd (bI_1.mp z) g2⟩⟩))
  · exact CJ (bX10_freePositions_0 (⟨_, cm_isBell x1, fun z => ⟨_, _, wB h, fun z => absurd z (by decide), fun _ => ⟨rfl, rfl⟩⟩, fun z => absurd (bI_1.mp z) g1⟩))
theorem as_freePositions (hB : Bas I) (core : ∀ mm lm, I mm → ¬ mm 0 10 = 0 → inR 0 (mm 4 9 - 1) x1 → inR 0 (mm 4 8 - 1) x2 → CoreI G I M_X9_freePositions M_X10_freePositions 14 30 [(0, .ref 0), (1, .int x1), (2, .int x2)] [(0, .ref 63), (1, .int x1), (2, .int x2)] mm lm) : OpW G I M_L_freePositions M_X10_freePositions [.int x1, .int x2] cmpI := by
  intro mm lm hI
  obtain ⟨b1, b2, b3, b4⟩ := hB mm hI
  by_cases h : mm 0 10 = 0
  · exact ⟨1, mm, lm, 0, _, w1_freePositions (kA_freePositions h), mA_freePositions (b1.mpr h), mset_eq, fun z => absurd z (by decide), b4 1⟩
  · by_cases hg : (inR 0 (mm 4 9 - 1) x1) ∧ (inR 0 (mm 4 8 - 1) x2)
    · obtain ⟨g1, g2⟩ := hg
      obtain ⟨v, mm1, q1, q2, q6⟩ := core mm lm hI h g1 g2
      obtain ⟨mm2, q3, q4, q5⟩ := q6 (vp_updL lm 0 v.toInt64)
      exact ⟨0, mm1, _, v, mm2, w_freePositions (kC_freePositions h g1 g2 q1), mC_freePositions (fun z => h (b1.mp (q2.1 ▸ z))) (by rw [q2.2.2, b2]; exact g1) (by rw [q2.2.1, b3]; exact g2) q3, q4, fun _ => rfl, q5⟩
    · exact ⟨2, mm, lm, 0, _, w2_freePositions (kB_freePositions h hg), mB_freePositions (fun z => h (b1.mp z)) (fun z => hg ⟨(by rw [← b2]; exact z.1), (by rw [← b3]; exact z.2)⟩), mset_eq, fun z => absurd z (by decide), b4 2⟩
theorem kA_bestPosition (h : mm 0 10 = 0) : Ct G M_X9_bestPosition [.ref 0, .int x1, .int x2] (SH, mm, lm) false (.inr ISE) (SH, mm, lm) false 1 6 :=
  CJ (bX9_bestPosition_0 (Or.inr ⟨_, c_rtx h, rfl, rfl, Nat.le_refl _, Nat.le_refl _⟩))
theorem kC_bestPosition (h : ¬ mm 0 10 = 0) (g1 : inR 0 (mm 4 9 - 1) x1) (g2 : inR 0 (mm 4 8 - 1) x2) {o : Ou} {z : Wd} (hj : J G M_X9_bestPosition 14 [(0, .ref 0), (1, .int x1), (2, .int x2)] [] (SH, mm, lm) false o z false 1 6) : Ct G M_X9_bestPosition [.ref 0, .int x1, .int x2] (SH, mm, lm) false o z false 1 6 :=
  CJ (bX9_bestPosition_0 (Or.inl ⟨c_rt h, Or.inl ⟨c_rb g1, Or.inl ⟨c_rm g2, hj⟩⟩⟩))
theorem kB_bestPosition (h : ¬ mm 0 10 = 0) (hb : ¬ ((inR 0 (mm 4 9 - 1) x1) ∧ (inR 0 (mm 4 8 - 1) x2))) : Ct G M_X9_bestPosition [.ref 0, .int x1, .int x2] (SH, mm, lm) false (.inr IAE) (SH, mm, lm) false 1 6 := by
  by_cases g1 : inR 0 (mm 4 9 - 1) x1
  · by_cases g2 : inR 0 (mm 4 8 - 1) x2
    · exact absurd (⟨g1, g2⟩) hb
    · exact CJ (bX9_bestPosition_0 (Or.inl ⟨c_rt h, Or.inl ⟨c_rb g1, Or.inr ⟨_, c_rmx g2, rfl, rfl, Nat.le_refl _, Nat.le_refl _⟩⟩⟩))
  · exact CJ (bX9_bestPosition_0 (Or.inl ⟨c_rt h, Or.inr ⟨_, c_rbx g1, rfl, rfl, Nat.le_refl _, Nat.le_refl _⟩⟩))
theorem mA_bestPosition (h : mm 63 3 = 0) : Ct G M_X10_bestPosition [.ref 63, .int x1, .int x2] (SH, mm, lm) false (.inl (some (.int 0))) (SH, mset mm 63 4 1, lm) false 0 0 :=
  CJ (bX10_bestPosition_0 (⟨_, cm_isBell x1, fun z => ⟨_, _, wA h _, fun z => absurd z (by decide), fun _ => ⟨rfl, rfl⟩⟩, fun z => ⟨_, cm_isBeam x2, fun z => ⟨_, _, wA h _, fun z => absurd z (by decide), fun _ => ⟨rfl, rfl⟩⟩, fun z => ⟨_, _, wA h _, fun z => absurd z (by decide), fun _ => ⟨rfl, rfl⟩⟩⟩⟩))
theorem mC_bestPosition (h : ¬ mm 63 3 = 0) (g1 : inR 0 (mm 63 8 - 1) x1) (g2 : inR 0 (mm 63 5 - 1) x2) {o : Ou} {z : Wd} (hj : J G M_X10_bestPosition 30 [(0, .ref 63), (1, .int x1), (2, .int x2)] [] (SH, mset mm 63 4 0, lm) false o z false 0 0) : Ct G M_X10_bestPosition [.ref 63, .int x1, .int x2] (SH, mm, lm) false o z false 0 0 :=
  CJ (bX10_bestPosition_0 (⟨_, cm_isBell x1, fun z => absurd g1 (bI_0.mp z), fun z => ⟨_, cm_isBeam x2, fun z => absurd g2 (bI_0.mp z), fun z => ⟨_, _, wC h (by decide), fun _ => hj, fun z => absurd rfl z⟩⟩⟩))
theorem mB_bestPosition (h : ¬ mm 63 3 = 0) (hb : ¬ ((inR 0 (mm 63 8 - 1) x1) ∧ (inR 0 (mm 63 5 - 1) x2))) : Ct G M_X10_bestPosition [.ref 63, .int x1, .int x2] (SH, mm, lm) false (.inl (some (.int 0))) (SH, mset mm 63 4 2, lm) false 0 0 := by
  by_cases g1 : inR 0 (mm 63 8 - 1) x1
  · by_cases g2 : inR 0 (mm 63 5 - 1) x2
    · exact absurd (⟨g1, g2⟩) hb
    · exact CJ (bX10_bestPosition_0 (⟨_, cm_isBell x1, fun z => absurd g1 (bI_0.mp z), fun z => ⟨_, cm_isBeam x2, fun z => ⟨_, _, wB h, fun z => absurd z (by decide), fun _ => ⟨rfl, rfl⟩⟩, fun z => absurd (bI_1.mp z) g2⟩⟩))
  · exact CJ (bX10_bestPosition_0 (⟨_, cm_isBell x1, fun z => ⟨_, _, wB h, fun z => absurd z (by decide), fun _ => ⟨rfl, rfl⟩⟩, fun z => absurd (bI_1.mp z) g1⟩))
theorem as_bestPosition (hB : Bas I) (core : ∀ mm lm, I mm → ¬ mm 0 10 = 0 → inR 0 (mm 4 9 - 1) x1 → inR 0 (mm 4 8 - 1) x2 → CoreI G I M_X9_bestPosition M_X10_bestPosition 14 30 [(0, .ref 0), (1, .int x1), (2, .int x2)] [(0, .ref 63), (1, .int x1), (2, .int x2)] mm lm) : OpW G I M_L_bestPosition M_X10_bestPosition [.int x1, .int x2] cmpI := by
  intro mm lm hI
  obtain ⟨b1, b2, b3, b4⟩ := hB mm hI
  by_cases h : mm 0 10 = 0
  · exact ⟨1, mm, lm, 0, _, w1_bestPosition (kA_bestPosition h), mA_bestPosition (b1.mpr h), mset_eq, fun z => absurd z (by decide), b4 1⟩
  · by_cases hg : (inR 0 (mm 4 9 - 1) x1) ∧ (inR 0 (mm 4 8 - 1) x2)
    · obtain ⟨g1, g2⟩ := hg
      obtain ⟨v, mm1, q1, q2, q6⟩ := core mm lm hI h g1 g2
      obtain ⟨mm2, q3, q4, q5⟩ := q6 (vp_updL lm 0 v.toInt64)
      exact ⟨0, mm1, _, v, mm2, w_bestPosition (kC_bestPosition h g1 g2 q1), mC_bestPosition (fun z => h (b1.mp (q2.1 ▸ z))) (by rw [q2.2.2, b2]; exact g1) (by rw [q2.2.1, b3]; exact g2) q3, q4, fun _ => rfl, q5⟩
    · exact ⟨2, mm, lm, 0, _, w2_bestPosition (kB_bestPosition h hg), mB_bestPosition (fun z => h (b1.mp z)) (fun z => hg ⟨(by rw [← b2]; exact z.1), (by rw [← b3]; exact z.2)⟩), mset_eq, fun z => absurd z (by decide), b4 2⟩
theorem kA_mirroredTorque (h : mm 0 10 = 0) : Ct G M_X9_mirroredTorque [.ref 0, .int x1] (SH, mm, lm) false (.inr ISE) (SH, mm, lm) false 1 6 :=
  CJ (bX9_mirroredTorque_0 (Or.inr ⟨_, c_rtx h, rfl, rfl, Nat.le_refl _, Nat.le_refl _⟩))
theorem kC_mirroredTorque (h : ¬ mm 0 10 = 0) (g1 : inR 0 (mm 4 8 - 1) x1) {o : Ou} {z : Wd} (hj : J G M_X9_mirroredTorque 9 [(0, .ref 0), (1, .int x1)] [] (SH, mm, lm) false o z false 1 6) : Ct G M_X9_mirroredTorque [.ref 0, .int x1] (SH, mm, lm) false o z false 1 6 :=
  CJ (bX9_mirroredTorque_0 (Or.inl ⟨c_rt h, Or.inl ⟨c_rm g1, hj⟩⟩))
theorem kB_mirroredTorque (h : ¬ mm 0 10 = 0) (hb : ¬ ((inR 0 (mm 4 8 - 1) x1))) : Ct G M_X9_mirroredTorque [.ref 0, .int x1] (SH, mm, lm) false (.inr IAE) (SH, mm, lm) false 1 6 := by
  by_cases g1 : inR 0 (mm 4 8 - 1) x1
  · exact absurd (g1) hb
  · exact CJ (bX9_mirroredTorque_0 (Or.inl ⟨c_rt h, Or.inr ⟨_, c_rmx g1, rfl, rfl, Nat.le_refl _, Nat.le_refl _⟩⟩))
theorem mA_mirroredTorque (h : mm 63 3 = 0) : Ct G M_X10_mirroredTorque [.ref 63, .int x1] (SH, mm, lm) false (.inl (some (.int 0))) (SH, mset mm 63 4 1, lm) false 0 0 :=
  CJ (bX10_mirroredTorque_0 (⟨_, cm_isBeam x1, ⟨_, _, wA h _, fun z => absurd z (by decide), fun _ => ⟨rfl, rfl⟩⟩⟩))
theorem mC_mirroredTorque (h : ¬ mm 63 3 = 0) (g1 : inR 0 (mm 63 5 - 1) x1) {o : Ou} {z : Wd} (hj : J G M_X10_mirroredTorque 14 [(0, .ref 63), (1, .int x1)] [] (SH, mset mm 63 4 0, lm) false o z false 0 0) : Ct G M_X10_mirroredTorque [.ref 63, .int x1] (SH, mm, lm) false o z false 0 0 :=
  CJ (bX10_mirroredTorque_0 (⟨_, cm_isBeam x1, ⟨_, _, wC h (bI_1.mpr g1), fun _ => hj, fun z => absurd rfl z⟩⟩))
theorem mB_mirroredTorque (h : ¬ mm 63 3 = 0) (hb : ¬ ((inR 0 (mm 63 5 - 1) x1))) : Ct G M_X10_mirroredTorque [.ref 63, .int x1] (SH, mm, lm) false (.inl (some (.int 0))) (SH, mset mm 63 4 2, lm) false 0 0 := by
  by_cases g1 : inR 0 (mm 63 5 - 1) x1
  · exact absurd (g1) hb
  · exact CJ (bX10_mirroredTorque_0 (⟨0, (bI_f g1) ▸ cm_isBeam x1, ⟨_, _, wB h, fun z => absurd z (by decide), fun _ => ⟨rfl, rfl⟩⟩⟩))
theorem as_mirroredTorque (hB : Bas I) (core : ∀ mm lm, I mm → ¬ mm 0 10 = 0 → inR 0 (mm 4 8 - 1) x1 → CoreI G I M_X9_mirroredTorque M_X10_mirroredTorque 9 14 [(0, .ref 0), (1, .int x1)] [(0, .ref 63), (1, .int x1)] mm lm) : OpW G I M_L_mirroredTorque M_X10_mirroredTorque [.int x1] cmpI := by
  intro mm lm hI
  obtain ⟨b1, b2, b3, b4⟩ := hB mm hI
  by_cases h : mm 0 10 = 0
  · exact ⟨1, mm, lm, 0, _, w1_mirroredTorque (kA_mirroredTorque h), mA_mirroredTorque (b1.mpr h), mset_eq, fun z => absurd z (by decide), b4 1⟩
  · by_cases hg : (inR 0 (mm 4 8 - 1) x1)
    · have g1 := hg
      obtain ⟨v, mm1, q1, q2, q6⟩ := core mm lm hI h g1
      obtain ⟨mm2, q3, q4, q5⟩ := q6 (vp_updL lm 0 v.toInt64)
      exact ⟨0, mm1, _, v, mm2, w_mirroredTorque (kC_mirroredTorque h g1 q1), mC_mirroredTorque (fun z => h (b1.mp (q2.1 ▸ z))) (by rw [q2.2.1, b3]; exact g1) q3, q4, fun _ => rfl, q5⟩
    · exact ⟨2, mm, lm, 0, _, w2_mirroredTorque (kB_mirroredTorque h hg), mB_mirroredTorque (fun z => h (b1.mp z)) (fun z => hg (by rw [← b3]; exact z)), mset_eq, fun z => absurd z (by decide), b4 2⟩
theorem kA_mirroredBells (h : mm 0 10 = 0) : Ct G M_X9_mirroredBells [.ref 0, .int x1] (SH, mm, lm) false (.inr ISE) (SH, mm, lm) false 1 6 :=
  CJ (bX9_mirroredBells_0 (Or.inr ⟨_, c_rtx h, rfl, rfl, Nat.le_refl _, Nat.le_refl _⟩))
theorem kC_mirroredBells (h : ¬ mm 0 10 = 0) (g1 : inR 0 (mm 4 8 - 1) x1) {o : Ou} {z : Wd} (hj : J G M_X9_mirroredBells 9 [(0, .ref 0), (1, .int x1)] [] (SH, mm, lm) false o z false 1 6) : Ct G M_X9_mirroredBells [.ref 0, .int x1] (SH, mm, lm) false o z false 1 6 :=
  CJ (bX9_mirroredBells_0 (Or.inl ⟨c_rt h, Or.inl ⟨c_rm g1, hj⟩⟩))
theorem kB_mirroredBells (h : ¬ mm 0 10 = 0) (hb : ¬ ((inR 0 (mm 4 8 - 1) x1))) : Ct G M_X9_mirroredBells [.ref 0, .int x1] (SH, mm, lm) false (.inr IAE) (SH, mm, lm) false 1 6 := by
  by_cases g1 : inR 0 (mm 4 8 - 1) x1
  · exact absurd (g1) hb
  · exact CJ (bX9_mirroredBells_0 (Or.inl ⟨c_rt h, Or.inr ⟨_, c_rmx g1, rfl, rfl, Nat.le_refl _, Nat.le_refl _⟩⟩))
theorem mA_mirroredBells (h : mm 63 3 = 0) : Ct G M_X10_mirroredBells [.ref 63, .int x1] (SH, mm, lm) false (.inl (some (.int 0))) (SH, mset mm 63 4 1, lm) false 0 0 :=
  CJ (bX10_mirroredBells_0 (⟨_, cm_isBeam x1, ⟨_, _, wA h _, fun z => absurd z (by decide), fun _ => ⟨rfl, rfl⟩⟩⟩))
theorem mC_mirroredBells (h : ¬ mm 63 3 = 0) (g1 : inR 0 (mm 63 5 - 1) x1) {o : Ou} {z : Wd} (hj : J G M_X10_mirroredBells 16 [(0, .ref 63), (1, .int x1)] [] (SH, mset mm 63 4 0, lm) false o z false 0 0) : Ct G M_X10_mirroredBells [.ref 63, .int x1] (SH, mm, lm) false o z false 0 0 :=
  CJ (bX10_mirroredBells_0 (⟨_, cm_isBeam x1, ⟨_, _, wC h (bI_1.mpr g1), fun _ => hj, fun z => absurd rfl z⟩⟩))
theorem mB_mirroredBells (h : ¬ mm 63 3 = 0) (hb : ¬ ((inR 0 (mm 63 5 - 1) x1))) : Ct G M_X10_mirroredBells [.ref 63, .int x1] (SH, mm, lm) false (.inl (some (.int 0))) (SH, mset mm 63 4 2, lm) false 0 0 := by
  by_cases g1 : inR 0 (mm 63 5 - 1) x1
  · exact absurd (g1) hb
  · exact CJ (bX10_mirroredBells_0 (⟨0, (bI_f g1) ▸ cm_isBeam x1, ⟨_, _, wB h, fun z => absurd z (by decide), fun _ => ⟨rfl, rfl⟩⟩⟩))
theorem as_mirroredBells (hB : Bas I) (core : ∀ mm lm, I mm → ¬ mm 0 10 = 0 → inR 0 (mm 4 8 - 1) x1 → CoreI G I M_X9_mirroredBells M_X10_mirroredBells 9 16 [(0, .ref 0), (1, .int x1)] [(0, .ref 63), (1, .int x1)] mm lm) : OpW G I M_L_mirroredBells M_X10_mirroredBells [.int x1] cmpI := by
  intro mm lm hI
  obtain ⟨b1, b2, b3, b4⟩ := hB mm hI
  by_cases h : mm 0 10 = 0
  · exact ⟨1, mm, lm, 0, _, w1_mirroredBells (kA_mirroredBells h), mA_mirroredBells (b1.mpr h), mset_eq, fun z => absurd z (by decide), b4 1⟩
  · by_cases hg : (inR 0 (mm 4 8 - 1) x1)
    · have g1 := hg
      obtain ⟨v, mm1, q1, q2, q6⟩ := core mm lm hI h g1
      obtain ⟨mm2, q3, q4, q5⟩ := q6 (vp_updL lm 0 v.toInt64)
      exact ⟨0, mm1, _, v, mm2, w_mirroredBells (kC_mirroredBells h g1 q1), mC_mirroredBells (fun z => h (b1.mp (q2.1 ▸ z))) (by rw [q2.2.1, b3]; exact g1) q3, q4, fun _ => rfl, q5⟩
    · exact ⟨2, mm, lm, 0, _, w2_mirroredBells (kB_mirroredBells h hg), mB_mirroredBells (fun z => h (b1.mp z)) (fun z => hg (by rw [← b3]; exact z)), mset_eq, fun z => absurd z (by decide), b4 2⟩
theorem kA_setPlan (h : mm 0 10 = 0) : Ct G M_X9_setPlan [.ref 0, .int x1, .int x2, .int x3] (SH, mm, lm) false (.inr ISE) (SH, mm, lm) false 1 6 :=
  CJ (bX9_setPlan_0 (Or.inr ⟨_, c_rtx h, rfl, rfl, Nat.le_refl _, Nat.le_refl _⟩))
theorem kC_setPlan (h : ¬ mm 0 10 = 0) (g1 : inR 0 (mm 4 9 - 1) x1) (g2 : inR 0 (mm 4 8 - 1) x2) (g3 : inR (-15) 15 x3) {o : Ou} {z : Wd} (hj : J G M_X9_setPlan 22 [(0, .ref 0), (1, .int x1), (2, .int x2), (3, .int x3)] [] (SH, mm, lm) false o z false 1 6) : Ct G M_X9_setPlan [.ref 0, .int x1, .int x2, .int x3] (SH, mm, lm) false o z false 1 6 :=
  CJ (bX9_setPlan_0 (Or.inl ⟨c_rt h, Or.inl ⟨c_rb g1, Or.inl ⟨c_rm g2, Or.inl ⟨c_rr g3, hj⟩⟩⟩⟩))
theorem kB_setPlan (h : ¬ mm 0 10 = 0) (hb : ¬ ((inR 0 (mm 4 9 - 1) x1) ∧ (inR 0 (mm 4 8 - 1) x2) ∧ (inR (-15) 15 x3))) : Ct G M_X9_setPlan [.ref 0, .int x1, .int x2, .int x3] (SH, mm, lm) false (.inr IAE) (SH, mm, lm) false 1 6 := by
  by_cases g1 : inR 0 (mm 4 9 - 1) x1
  · by_cases g2 : inR 0 (mm 4 8 - 1) x2
    · by_cases g3 : inR (-15) 15 x3
      · exact absurd (⟨g1, g2, g3⟩) hb
      · exact CJ (bX9_setPlan_0 (Or.inl ⟨c_rt h, Or.inl ⟨c_rb g1, Or.inl ⟨c_rm g2, Or.inr ⟨_, c_rrx g3, rfl, rfl, Nat.le_refl _, Nat.le_refl _⟩⟩⟩⟩))
    · exact CJ (bX9_setPlan_0 (Or.inl ⟨c_rt h, Or.inl ⟨c_rb g1, Or.inr ⟨_, c_rmx g2, rfl, rfl, Nat.le_refl _, Nat.le_refl _⟩⟩⟩))
  · exact CJ (bX9_setPlan_0 (Or.inl ⟨c_rt h, Or.inr ⟨_, c_rbx g1, rfl, rfl, Nat.le_refl _, Nat.le_refl _⟩⟩))
theorem mA_setPlan (h : mm 63 3 = 0) : Ct G M_X10_setPlan [.ref 63, .int x1, .int x2, .int x3] (SH, mm, lm) false (.inl (some (.int 0))) (SH, mset mm 63 4 1, lm) false 0 0 :=
  CJ (bX10_setPlan_0 (⟨_, cm_isBell x1, fun z => ⟨_, _, wA h _, fun z => absurd z (by decide), fun _ => ⟨rfl, rfl⟩⟩, fun z => ⟨_, cm_isBeam x2, fun z => ⟨_, _, wA h _, fun z => absurd z (by decide), fun _ => ⟨rfl, rfl⟩⟩, fun z => ⟨_, cm_isPosition x3, fun z => ⟨_, _, wA h _, fun z => absurd z (by decide), fun _ => ⟨rfl, rfl⟩⟩, fun z => ⟨_, _, wA h _, fun z => absurd z (by decide), fun _ => ⟨rfl, rfl⟩⟩⟩⟩⟩))
theorem mC_setPlan (h : ¬ mm 63 3 = 0) (g1 : inR 0 (mm 63 8 - 1) x1) (g2 : inR 0 (mm 63 5 - 1) x2) (g3 : inR (-15) 15 x3) {o : Ou} {z : Wd} (hj : J G M_X10_setPlan 37 [(0, .ref 63), (1, .int x1), (2, .int x2), (3, .int x3)] [] (SH, mset mm 63 4 0, lm) false o z false 0 0) : Ct G M_X10_setPlan [.ref 63, .int x1, .int x2, .int x3] (SH, mm, lm) false o z false 0 0 :=
  CJ (bX10_setPlan_0 (⟨_, cm_isBell x1, fun z => absurd g1 (bI_0.mp z), fun z => ⟨_, cm_isBeam x2, fun z => absurd g2 (bI_0.mp z), fun z => ⟨_, cm_isPosition x3, fun z => absurd g3 (bI_0.mp z), fun z => ⟨_, _, wC h (by decide), fun _ => hj, fun z => absurd rfl z⟩⟩⟩⟩))
theorem mB_setPlan (h : ¬ mm 63 3 = 0) (hb : ¬ ((inR 0 (mm 63 8 - 1) x1) ∧ (inR 0 (mm 63 5 - 1) x2) ∧ (inR (-15) 15 x3))) : Ct G M_X10_setPlan [.ref 63, .int x1, .int x2, .int x3] (SH, mm, lm) false (.inl (some (.int 0))) (SH, mset mm 63 4 2, lm) false 0 0 := by
  by_cases g1 : inR 0 (mm 63 8 - 1) x1
  · by_cases g2 : inR 0 (mm 63 5 - 1) x2
    · by_cases g3 : inR (-15) 15 x3
      · exact absurd (⟨g1, g2, g3⟩) hb
      · exact CJ (bX10_setPlan_0 (⟨_, cm_isBell x1, fun z => absurd g1 (bI_0.mp z), fun z => ⟨_, cm_isBeam x2, fun z => absurd g2 (bI_0.mp z), fun z => ⟨_, cm_isPosition x3, fun z => ⟨_, _, wB h, fun z => absurd z (by decide), fun _ => ⟨rfl, rfl⟩⟩, fun z => absurd (bI_1.mp z) g3⟩⟩⟩))
    · exact CJ (bX10_setPlan_0 (⟨_, cm_isBell x1, fun z => absurd g1 (bI_0.mp z), fun z => ⟨_, cm_isBeam x2, fun z => ⟨_, _, wB h, fun z => absurd z (by decide), fun _ => ⟨rfl, rfl⟩⟩, fun z => absurd (bI_1.mp z) g2⟩⟩))
  · exact CJ (bX10_setPlan_0 (⟨_, cm_isBell x1, fun z => ⟨_, _, wB h, fun z => absurd z (by decide), fun _ => ⟨rfl, rfl⟩⟩, fun z => absurd (bI_1.mp z) g1⟩))
theorem as_setPlan (hB : Bas I) (core : ∀ mm lm, I mm → ¬ mm 0 10 = 0 → inR 0 (mm 4 9 - 1) x1 → inR 0 (mm 4 8 - 1) x2 → inR (-15) 15 x3 → CoreI G I M_X9_setPlan M_X10_setPlan 22 37 [(0, .ref 0), (1, .int x1), (2, .int x2), (3, .int x3)] [(0, .ref 63), (1, .int x1), (2, .int x2), (3, .int x3)] mm lm) : OpW G I M_L_setPlan M_X10_setPlan [.int x1, .int x2, .int x3] cmpI := by
  intro mm lm hI
  obtain ⟨b1, b2, b3, b4⟩ := hB mm hI
  by_cases h : mm 0 10 = 0
  · exact ⟨1, mm, lm, 0, _, w1_setPlan (kA_setPlan h), mA_setPlan (b1.mpr h), mset_eq, fun z => absurd z (by decide), b4 1⟩
  · by_cases hg : (inR 0 (mm 4 9 - 1) x1) ∧ (inR 0 (mm 4 8 - 1) x2) ∧ (inR (-15) 15 x3)
    · obtain ⟨g1, g2, g3⟩ := hg
      obtain ⟨v, mm1, q1, q2, q6⟩ := core mm lm hI h g1 g2 g3
      obtain ⟨mm2, q3, q4, q5⟩ := q6 (vp_updL lm 0 v.toInt64)
      exact ⟨0, mm1, _, v, mm2, w_setPlan (kC_setPlan h g1 g2 g3 q1), mC_setPlan (fun z => h (b1.mp (q2.1 ▸ z))) (by rw [q2.2.2, b2]; exact g1) (by rw [q2.2.1, b3]; exact g2) g3 q3, q4, fun _ => rfl, q5⟩
    · exact ⟨2, mm, lm, 0, _, w2_setPlan (kB_setPlan h hg), mB_setPlan (fun z => h (b1.mp z)) (fun z => hg ⟨(by rw [← b2]; exact z.1), (by rw [← b3]; exact z.2.1), z.2.2⟩), mset_eq, fun z => absurd z (by decide), b4 2⟩
theorem kA_clearPlan (h : mm 0 10 = 0) : Ct G M_X9_clearPlan [.ref 0, .int x1] (SH, mm, lm) false (.inr ISE) (SH, mm, lm) false 1 6 :=
  CJ (bX9_clearPlan_0 (Or.inr ⟨_, c_rtx h, rfl, rfl, Nat.le_refl _, Nat.le_refl _⟩))
theorem kC_clearPlan (h : ¬ mm 0 10 = 0) (g1 : inR 0 (mm 4 9 - 1) x1) {o : Ou} {z : Wd} (hj : J G M_X9_clearPlan 9 [(0, .ref 0), (1, .int x1)] [] (SH, mm, lm) false o z false 1 6) : Ct G M_X9_clearPlan [.ref 0, .int x1] (SH, mm, lm) false o z false 1 6 :=
  CJ (bX9_clearPlan_0 (Or.inl ⟨c_rt h, Or.inl ⟨c_rb g1, hj⟩⟩))
theorem kB_clearPlan (h : ¬ mm 0 10 = 0) (hb : ¬ ((inR 0 (mm 4 9 - 1) x1))) : Ct G M_X9_clearPlan [.ref 0, .int x1] (SH, mm, lm) false (.inr IAE) (SH, mm, lm) false 1 6 := by
  by_cases g1 : inR 0 (mm 4 9 - 1) x1
  · exact absurd (g1) hb
  · exact CJ (bX9_clearPlan_0 (Or.inl ⟨c_rt h, Or.inr ⟨_, c_rbx g1, rfl, rfl, Nat.le_refl _, Nat.le_refl _⟩⟩))
theorem mA_clearPlan (h : mm 63 3 = 0) : Ct G M_X10_clearPlan [.ref 63, .int x1] (SH, mm, lm) false (.inl (some (.int 0))) (SH, mset mm 63 4 1, lm) false 0 0 :=
  CJ (bX10_clearPlan_0 (⟨_, cm_isBell x1, ⟨_, _, wA h _, fun z => absurd z (by decide), fun _ => ⟨rfl, rfl⟩⟩⟩))
theorem mC_clearPlan (h : ¬ mm 63 3 = 0) (g1 : inR 0 (mm 63 8 - 1) x1) {o : Ou} {z : Wd} (hj : J G M_X10_clearPlan 14 [(0, .ref 63), (1, .int x1)] [] (SH, mset mm 63 4 0, lm) false o z false 0 0) : Ct G M_X10_clearPlan [.ref 63, .int x1] (SH, mm, lm) false o z false 0 0 :=
  CJ (bX10_clearPlan_0 (⟨_, cm_isBell x1, ⟨_, _, wC h (bI_1.mpr g1), fun _ => hj, fun z => absurd rfl z⟩⟩))
theorem mB_clearPlan (h : ¬ mm 63 3 = 0) (hb : ¬ ((inR 0 (mm 63 8 - 1) x1))) : Ct G M_X10_clearPlan [.ref 63, .int x1] (SH, mm, lm) false (.inl (some (.int 0))) (SH, mset mm 63 4 2, lm) false 0 0 := by
  by_cases g1 : inR 0 (mm 63 8 - 1) x1
  · exact absurd (g1) hb
  · exact CJ (bX10_clearPlan_0 (⟨0, (bI_f g1) ▸ cm_isBell x1, ⟨_, _, wB h, fun z => absurd z (by decide), fun _ => ⟨rfl, rfl⟩⟩⟩))
theorem as_clearPlan (hB : Bas I) (core : ∀ mm lm, I mm → ¬ mm 0 10 = 0 → inR 0 (mm 4 9 - 1) x1 → CoreI G I M_X9_clearPlan M_X10_clearPlan 9 14 [(0, .ref 0), (1, .int x1)] [(0, .ref 63), (1, .int x1)] mm lm) : OpW G I M_L_clearPlan M_X10_clearPlan [.int x1] cmpI := by
  intro mm lm hI
  obtain ⟨b1, b2, b3, b4⟩ := hB mm hI
  by_cases h : mm 0 10 = 0
  · exact ⟨1, mm, lm, 0, _, w1_clearPlan (kA_clearPlan h), mA_clearPlan (b1.mpr h), mset_eq, fun z => absurd z (by decide), b4 1⟩
  · by_cases hg : (inR 0 (mm 4 9 - 1) x1)
    · have g1 := hg
      obtain ⟨v, mm1, q1, q2, q6⟩ := core mm lm hI h g1
      obtain ⟨mm2, q3, q4, q5⟩ := q6 (vp_updL lm 0 v.toInt64)
      exact ⟨0, mm1, _, v, mm2, w_clearPlan (kC_clearPlan h g1 q1), mC_clearPlan (fun z => h (b1.mp (q2.1 ▸ z))) (by rw [q2.2.2, b2]; exact g1) q3, q4, fun _ => rfl, q5⟩
    · exact ⟨2, mm, lm, 0, _, w2_clearPlan (kB_clearPlan h hg), mB_clearPlan (fun z => h (b1.mp z)) (fun z => hg (by rw [← b2]; exact z)), mset_eq, fun z => absurd z (by decide), b4 2⟩
theorem kA_planConflicts (h : mm 0 10 = 0) : Ct G M_X9_planConflicts [.ref 0] (SH, mm, lm) false (.inr ISE) (SH, mm, lm) false 1 6 :=
  CJ (bX9_planConflicts_0 (Or.inr ⟨_, c_rtx h, rfl, rfl, Nat.le_refl _, Nat.le_refl _⟩))
theorem kC_planConflicts (h : ¬ mm 0 10 = 0)  {o : Ou} {z : Wd} (hj : J G M_X9_planConflicts 4 [(0, .ref 0)] [] (SH, mm, lm) false o z false 1 6) : Ct G M_X9_planConflicts [.ref 0] (SH, mm, lm) false o z false 1 6 :=
  CJ (bX9_planConflicts_0 (Or.inl ⟨c_rt h, hj⟩))
theorem mA_planConflicts (h : mm 63 3 = 0) : Ct G M_X10_planConflicts [.ref 63] (SH, mm, lm) false (.inl (some (.int 0))) (SH, mset mm 63 4 1, lm) false 0 0 :=
  CJ (bX10_planConflicts_0 (⟨_, _, wA h _, fun z => absurd z (by decide), fun _ => ⟨rfl, rfl⟩⟩))
theorem mC_planConflicts (h : ¬ mm 63 3 = 0)  {o : Ou} {z : Wd} (hj : J G M_X10_planConflicts 10 [(0, .ref 63)] [] (SH, mset mm 63 4 0, lm) false o z false 0 0) : Ct G M_X10_planConflicts [.ref 63] (SH, mm, lm) false o z false 0 0 :=
  CJ (bX10_planConflicts_0 (⟨_, _, wC h (by decide), fun _ => hj, fun z => absurd rfl z⟩))
theorem as_planConflicts (hB : Bas I) (core : ∀ mm lm, I mm → ¬ mm 0 10 = 0 → CoreI G I M_X9_planConflicts M_X10_planConflicts 4 10 [(0, .ref 0)] [(0, .ref 63)] mm lm) : OpW G I M_L_planConflicts M_X10_planConflicts [] cmpI := by
  intro mm lm hI
  obtain ⟨b1, b2, b3, b4⟩ := hB mm hI
  by_cases h : mm 0 10 = 0
  · exact ⟨1, mm, lm, 0, _, w1_planConflicts (kA_planConflicts h), mA_planConflicts (b1.mpr h), mset_eq, fun z => absurd z (by decide), b4 1⟩
  · obtain ⟨v, mm1, q1, q2, q6⟩ := core mm lm hI h 
    obtain ⟨mm2, q3, q4, q5⟩ := q6 (vp_updL lm 0 v.toInt64)
    exact ⟨0, mm1, _, v, mm2, w_planConflicts (kC_planConflicts h  q1), mC_planConflicts (fun z => h (b1.mp (q2.1 ▸ z)))  q3, q4, fun _ => rfl, q5⟩
theorem kA_planUnbalanced (h : mm 0 10 = 0) : Ct G M_X9_planUnbalanced [.ref 0] (SH, mm, lm) false (.inr ISE) (SH, mm, lm) false 1 6 :=
  CJ (bX9_planUnbalanced_0 (Or.inr ⟨_, c_rtx h, rfl, rfl, Nat.le_refl _, Nat.le_refl _⟩))
theorem kC_planUnbalanced (h : ¬ mm 0 10 = 0)  {o : Ou} {z : Wd} (hj : J G M_X9_planUnbalanced 4 [(0, .ref 0)] [] (SH, mm, lm) false o z false 1 6) : Ct G M_X9_planUnbalanced [.ref 0] (SH, mm, lm) false o z false 1 6 :=
  CJ (bX9_planUnbalanced_0 (Or.inl ⟨c_rt h, hj⟩))
theorem mA_planUnbalanced (h : mm 63 3 = 0) : Ct G M_X10_planUnbalanced [.ref 63] (SH, mm, lm) false (.inl (some (.int 0))) (SH, mset mm 63 4 1, lm) false 0 0 :=
  CJ (bX10_planUnbalanced_0 (⟨_, _, wA h _, fun z => absurd z (by decide), fun _ => ⟨rfl, rfl⟩⟩))
theorem mC_planUnbalanced (h : ¬ mm 63 3 = 0)  {o : Ou} {z : Wd} (hj : J G M_X10_planUnbalanced 10 [(0, .ref 63)] [] (SH, mset mm 63 4 0, lm) false o z false 0 0) : Ct G M_X10_planUnbalanced [.ref 63] (SH, mm, lm) false o z false 0 0 :=
  CJ (bX10_planUnbalanced_0 (⟨_, _, wC h (by decide), fun _ => hj, fun z => absurd rfl z⟩))
theorem as_planUnbalanced (hB : Bas I) (core : ∀ mm lm, I mm → ¬ mm 0 10 = 0 → CoreI G I M_X9_planUnbalanced M_X10_planUnbalanced 4 10 [(0, .ref 0)] [(0, .ref 63)] mm lm) : OpW G I M_L_planUnbalanced M_X10_planUnbalanced [] cmpI := by
  intro mm lm hI
  obtain ⟨b1, b2, b3, b4⟩ := hB mm hI
  by_cases h : mm 0 10 = 0
  · exact ⟨1, mm, lm, 0, _, w1_planUnbalanced (kA_planUnbalanced h), mA_planUnbalanced (b1.mpr h), mset_eq, fun z => absurd z (by decide), b4 1⟩
  · obtain ⟨v, mm1, q1, q2, q6⟩ := core mm lm hI h 
    obtain ⟨mm2, q3, q4, q5⟩ := q6 (vp_updL lm 0 v.toInt64)
    exact ⟨0, mm1, _, v, mm2, w_planUnbalanced (kC_planUnbalanced h  q1), mC_planUnbalanced (fun z => h (b1.mp (q2.1 ▸ z)))  q3, q4, fun _ => rfl, q5⟩
theorem kA_stepsToPlan (h : mm 0 10 = 0) : Ct G M_X9_stepsToPlan [.ref 0] (SH, mm, lm) false (.inr ISE) (SH, mm, lm) false 1 6 :=
  CJ (bX9_stepsToPlan_0 (Or.inr ⟨_, c_rtx h, rfl, rfl, Nat.le_refl _, Nat.le_refl _⟩))
theorem kC_stepsToPlan (h : ¬ mm 0 10 = 0)  {o : Ou} {z : Wd} (hj : J G M_X9_stepsToPlan 4 [(0, .ref 0)] [] (SH, mm, lm) false o z false 1 6) : Ct G M_X9_stepsToPlan [.ref 0] (SH, mm, lm) false o z false 1 6 :=
  CJ (bX9_stepsToPlan_0 (Or.inl ⟨c_rt h, hj⟩))
theorem mA_stepsToPlan (h : mm 63 3 = 0) : Ct G M_X10_stepsToPlan [.ref 63] (SH, mm, lm) false (.inl (some (.int 0))) (SH, mset mm 63 4 1, lm) false 0 0 :=
  CJ (bX10_stepsToPlan_0 (⟨_, _, wA h _, fun z => absurd z (by decide), fun _ => ⟨rfl, rfl⟩⟩))
theorem mC_stepsToPlan (h : ¬ mm 63 3 = 0)  {o : Ou} {z : Wd} (hj : J G M_X10_stepsToPlan 10 [(0, .ref 63)] [] (SH, mset mm 63 4 0, lm) false o z false 0 0) : Ct G M_X10_stepsToPlan [.ref 63] (SH, mm, lm) false o z false 0 0 :=
  CJ (bX10_stepsToPlan_0 (⟨_, _, wC h (by decide), fun _ => hj, fun z => absurd rfl z⟩))
theorem as_stepsToPlan (hB : Bas I) (core : ∀ mm lm, I mm → ¬ mm 0 10 = 0 → CoreI G I M_X9_stepsToPlan M_X10_stepsToPlan 4 10 [(0, .ref 0)] [(0, .ref 63)] mm lm) : OpW G I M_L_stepsToPlan M_X10_stepsToPlan [] cmpI := by
  intro mm lm hI
  obtain ⟨b1, b2, b3, b4⟩ := hB mm hI
  by_cases h : mm 0 10 = 0
  · exact ⟨1, mm, lm, 0, _, w1_stepsToPlan (kA_stepsToPlan h), mA_stepsToPlan (b1.mpr h), mset_eq, fun z => absurd z (by decide), b4 1⟩
  · obtain ⟨v, mm1, q1, q2, q6⟩ := core mm lm hI h 
    obtain ⟨mm2, q3, q4, q5⟩ := q6 (vp_updL lm 0 v.toInt64)
    exact ⟨0, mm1, _, v, mm2, w_stepsToPlan (kC_stepsToPlan h  q1), mC_stepsToPlan (fun z => h (b1.mp (q2.1 ▸ z)))  q3, q4, fun _ => rfl, q5⟩
theorem kA_planStep (h : mm 0 10 = 0) : Ct G M_X9_planStep [.ref 0, .int x1] (SH, mm, lm) false (.inr ISE) (SH, mm, lm) false 1 6 :=
  CJ (bX9_planStep_0 (Or.inr ⟨_, c_rtx h, rfl, rfl, Nat.le_refl _, Nat.le_refl _⟩))
theorem kC_planStep (h : ¬ mm 0 10 = 0) (g1 : inR 0 2147483647 x1) {o : Ou} {z : Wd} (hj : J G M_X9_planStep 11 [(0, .ref 0), (1, .int x1)] [] (SH, mm, lm) false o z false 1 6) : Ct G M_X9_planStep [.ref 0, .int x1] (SH, mm, lm) false o z false 1 6 :=
  CJ (bX9_planStep_0 (Or.inl ⟨c_rt h, Or.inl ⟨c_rr g1, hj⟩⟩))
theorem kB_planStep (h : ¬ mm 0 10 = 0) (hb : ¬ ((inR 0 2147483647 x1))) : Ct G M_X9_planStep [.ref 0, .int x1] (SH, mm, lm) false (.inr IAE) (SH, mm, lm) false 1 6 := by
  by_cases g1 : inR 0 2147483647 x1
  · exact absurd (g1) hb
  · exact CJ (bX9_planStep_0 (Or.inl ⟨c_rt h, Or.inr ⟨_, c_rrx g1, rfl, rfl, Nat.le_refl _, Nat.le_refl _⟩⟩))
theorem mA_planStep (h : mm 63 3 = 0) : Ct G M_X10_planStep [.ref 63, .int x1] (SH, mm, lm) false (.inl (some (.int 0))) (SH, mset mm 63 4 1, lm) false 0 0 :=
  CJ (bX10_planStep_0 (⟨fun z => ⟨_, _, wA h _, fun z => absurd z (by decide), fun _ => ⟨rfl, rfl⟩⟩, fun z => ⟨_, _, wA h _, fun z => absurd z (by decide), fun _ => ⟨rfl, rfl⟩⟩⟩))
theorem mC_planStep (h : ¬ mm 63 3 = 0) (g1 : ¬ x1 < 0) {o : Ou} {z : Wd} (hj : J G M_X10_planStep 18 [(0, .ref 63), (1, .int x1)] [] (SH, mset mm 63 4 0, lm) false o z false 0 0) : Ct G M_X10_planStep [.ref 63, .int x1] (SH, mm, lm) false o z false 0 0 :=
  CJ (bX10_planStep_0 (⟨fun z => absurd z g1, fun z => ⟨_, _, wC h (by decide), fun _ => hj, fun z => absurd rfl z⟩⟩))
theorem mB_planStep (h : ¬ mm 63 3 = 0) (hb : ¬ ((¬ x1 < 0))) : Ct G M_X10_planStep [.ref 63, .int x1] (SH, mm, lm) false (.inl (some (.int 0))) (SH, mset mm 63 4 2, lm) false 0 0 := by
  by_cases g1 : ¬ x1 < 0
  · exact absurd (g1) hb
  · exact CJ (bX10_planStep_0 (⟨fun z => ⟨_, _, wB h, fun z => absurd z (by decide), fun _ => ⟨rfl, rfl⟩⟩, fun z => absurd z g1⟩))
theorem as_planStep (hB : Bas I) (core : ∀ mm lm, I mm → ¬ mm 0 10 = 0 → inR 0 2147483647 x1 → CoreI G I M_X9_planStep M_X10_planStep 11 18 [(0, .ref 0), (1, .int x1)] [(0, .ref 63), (1, .int x1)] mm lm) : OpW G I M_L_planStep M_X10_planStep [.int x1] cmpI := by
  intro mm lm hI
  obtain ⟨b1, b2, b3, b4⟩ := hB mm hI
  by_cases h : mm 0 10 = 0
  · exact ⟨1, mm, lm, 0, _, w1_planStep (kA_planStep h), mA_planStep (b1.mpr h), mset_eq, fun z => absurd z (by decide), b4 1⟩
  · by_cases hg : (inR 0 2147483647 x1)
    · have g1 := hg
      obtain ⟨v, mm1, q1, q2, q6⟩ := core mm lm hI h g1
      obtain ⟨mm2, q3, q4, q5⟩ := q6 (vp_updL lm 0 v.toInt64)
      exact ⟨0, mm1, _, v, mm2, w_planStep (kC_planStep h g1 q1), mC_planStep (fun z => h (b1.mp (q2.1 ▸ z))) g1.1 q3, q4, fun _ => rfl, q5⟩
    · exact ⟨2, mm, lm, 0, _, w2_planStep (kB_planStep h hg), mB_planStep (fun z => h (b1.mp z)) (fun z => hg (inR_max z)), mset_eq, fun z => absurd z (by decide), b4 2⟩
theorem kA_startSwing (h : mm 0 10 = 0) : Ct G M_X9_startSwing [.ref 0, .int x1, .int x2, .int x3] (SH, mm, lm) false (.inr ISE) (SH, mm, lm) false 1 6 :=
  CJ (bX9_startSwing_0 (Or.inr ⟨_, c_rtx h, rfl, rfl, Nat.le_refl _, Nat.le_refl _⟩))
theorem kC_startSwing (h : ¬ mm 0 10 = 0) (g1 : inR 0 (mm 4 9 - 1) x1) (g2 : inR 0 999 x2) (g3 : inR 1 15 x3) {o : Ou} {z : Wd} (hj : J G M_X9_startSwing 24 [(0, .ref 0), (1, .int x1), (2, .int x2), (3, .int x3)] [] (SH, mm, lm) false o z false 1 6) : Ct G M_X9_startSwing [.ref 0, .int x1, .int x2, .int x3] (SH, mm, lm) false o z false 1 6 :=
  CJ (bX9_startSwing_0 (Or.inl ⟨c_rt h, Or.inl ⟨c_rb g1, Or.inl ⟨c_rr g2, Or.inl ⟨c_rr g3, hj⟩⟩⟩⟩))
theorem kB_startSwing (h : ¬ mm 0 10 = 0) (hb : ¬ ((inR 0 (mm 4 9 - 1) x1) ∧ (inR 0 999 x2) ∧ (inR 1 15 x3))) : Ct G M_X9_startSwing [.ref 0, .int x1, .int x2, .int x3] (SH, mm, lm) false (.inr IAE) (SH, mm, lm) false 1 6 := by
  by_cases g1 : inR 0 (mm 4 9 - 1) x1
  · by_cases g2 : inR 0 999 x2
    · by_cases g3 : inR 1 15 x3
      · exact absurd (⟨g1, g2, g3⟩) hb
      · exact CJ (bX9_startSwing_0 (Or.inl ⟨c_rt h, Or.inl ⟨c_rb g1, Or.inl ⟨c_rr g2, Or.inr ⟨_, c_rrx g3, rfl, rfl, Nat.le_refl _, Nat.le_refl _⟩⟩⟩⟩))
    · exact CJ (bX9_startSwing_0 (Or.inl ⟨c_rt h, Or.inl ⟨c_rb g1, Or.inr ⟨_, c_rrx g2, rfl, rfl, Nat.le_refl _, Nat.le_refl _⟩⟩⟩))
  · exact CJ (bX9_startSwing_0 (Or.inl ⟨c_rt h, Or.inr ⟨_, c_rbx g1, rfl, rfl, Nat.le_refl _, Nat.le_refl _⟩⟩))
theorem mA_startSwing (h : mm 63 3 = 0) : Ct G M_X10_startSwing [.ref 63, .int x1, .int x2, .int x3] (SH, mm, lm) false (.inl (some (.int 0))) (SH, mset mm 63 4 1, lm) false 0 0 :=
  CJ (bX10_startSwing_0 (⟨_, cm_isBell x1, fun z => ⟨_, _, wA h _, fun z => absurd z (by decide), fun _ => ⟨rfl, rfl⟩⟩, fun z => ⟨_, cm_in (x := x2) (l := 0) (g := 999) rfl rfl, fun z => ⟨_, _, wA h _, fun z => absurd z (by decide), fun _ => ⟨rfl, rfl⟩⟩, fun z => ⟨_, cm_in (x := x3) (l := 1) (g := 15) rfl rfl, fun z => ⟨_, _, wA h _, fun z => absurd z (by decide), fun _ => ⟨rfl, rfl⟩⟩, fun z => ⟨_, _, wA h _, fun z => absurd z (by decide), fun _ => ⟨rfl, rfl⟩⟩⟩⟩⟩))
theorem mC_startSwing (h : ¬ mm 63 3 = 0) (g1 : inR 0 (mm 63 8 - 1) x1) (g2 : inR 0 999 x2) (g3 : inR 1 15 x3) {o : Ou} {z : Wd} (hj : J G M_X10_startSwing 46 [(0, .ref 63), (1, .int x1), (2, .int x2), (3, .int x3)] [] (SH, mset mm 63 4 0, lm) false o z false 0 0) : Ct G M_X10_startSwing [.ref 63, .int x1, .int x2, .int x3] (SH, mm, lm) false o z false 0 0 :=
  CJ (bX10_startSwing_0 (⟨_, cm_isBell x1, fun z => absurd g1 (bI_0.mp z), fun z => ⟨_, cm_in (x := x2) (l := 0) (g := 999) rfl rfl, fun z => absurd g2 (bI_0.mp z), fun z => ⟨_, cm_in (x := x3) (l := 1) (g := 15) rfl rfl, fun z => absurd g3 (bI_0.mp z), fun z => ⟨_, _, wC h (by decide), fun _ => hj, fun z => absurd rfl z⟩⟩⟩⟩))
theorem mB_startSwing (h : ¬ mm 63 3 = 0) (hb : ¬ ((inR 0 (mm 63 8 - 1) x1) ∧ (inR 0 999 x2) ∧ (inR 1 15 x3))) : Ct G M_X10_startSwing [.ref 63, .int x1, .int x2, .int x3] (SH, mm, lm) false (.inl (some (.int 0))) (SH, mset mm 63 4 2, lm) false 0 0 := by
  by_cases g1 : inR 0 (mm 63 8 - 1) x1
  · by_cases g2 : inR 0 999 x2
    · by_cases g3 : inR 1 15 x3
      · exact absurd (⟨g1, g2, g3⟩) hb
      · exact CJ (bX10_startSwing_0 (⟨_, cm_isBell x1, fun z => absurd g1 (bI_0.mp z), fun z => ⟨_, cm_in (x := x2) (l := 0) (g := 999) rfl rfl, fun z => absurd g2 (bI_0.mp z), fun z => ⟨_, cm_in (x := x3) (l := 1) (g := 15) rfl rfl, fun z => ⟨_, _, wB h, fun z => absurd z (by decide), fun _ => ⟨rfl, rfl⟩⟩, fun z => absurd (bI_1.mp z) g3⟩⟩⟩))
    · exact CJ (bX10_startSwing_0 (⟨_, cm_isBell x1, fun z => absurd g1 (bI_0.mp z), fun z => ⟨_, cm_in (x := x2) (l := 0) (g := 999) rfl rfl, fun z => ⟨_, _, wB h, fun z => absurd z (by decide), fun _ => ⟨rfl, rfl⟩⟩, fun z => absurd (bI_1.mp z) g2⟩⟩))
  · exact CJ (bX10_startSwing_0 (⟨_, cm_isBell x1, fun z => ⟨_, _, wB h, fun z => absurd z (by decide), fun _ => ⟨rfl, rfl⟩⟩, fun z => absurd (bI_1.mp z) g1⟩))
theorem as_startSwing (hB : Bas I) (core : ∀ mm lm, I mm → ¬ mm 0 10 = 0 → inR 0 (mm 4 9 - 1) x1 → inR 0 999 x2 → inR 1 15 x3 → CoreI G I M_X9_startSwing M_X10_startSwing 24 46 [(0, .ref 0), (1, .int x1), (2, .int x2), (3, .int x3)] [(0, .ref 63), (1, .int x1), (2, .int x2), (3, .int x3)] mm lm) : OpW G I M_L_startSwing M_X10_startSwing [.int x1, .int x2, .int x3] cmpI := by
  intro mm lm hI
  obtain ⟨b1, b2, b3, b4⟩ := hB mm hI
  by_cases h : mm 0 10 = 0
  · exact ⟨1, mm, lm, 0, _, w1_startSwing (kA_startSwing h), mA_startSwing (b1.mpr h), mset_eq, fun z => absurd z (by decide), b4 1⟩
  · by_cases hg : (inR 0 (mm 4 9 - 1) x1) ∧ (inR 0 999 x2) ∧ (inR 1 15 x3)
    · obtain ⟨g1, g2, g3⟩ := hg
      obtain ⟨v, mm1, q1, q2, q6⟩ := core mm lm hI h g1 g2 g3
      obtain ⟨mm2, q3, q4, q5⟩ := q6 (vp_updL lm 0 v.toInt64)
      exact ⟨0, mm1, _, v, mm2, w_startSwing (kC_startSwing h g1 g2 g3 q1), mC_startSwing (fun z => h (b1.mp (q2.1 ▸ z))) (by rw [q2.2.2, b2]; exact g1) g2 g3 q3, q4, fun _ => rfl, q5⟩
    · exact ⟨2, mm, lm, 0, _, w2_startSwing (kB_startSwing h hg), mB_startSwing (fun z => h (b1.mp z)) (fun z => hg ⟨(by rw [← b2]; exact z.1), z.2.1, z.2.2⟩), mset_eq, fun z => absurd z (by decide), b4 2⟩
theorem kA_stopSwing (h : mm 0 10 = 0) : Ct G M_X9_stopSwing [.ref 0, .int x1] (SH, mm, lm) false (.inr ISE) (SH, mm, lm) false 1 6 :=
  CJ (bX9_stopSwing_0 (Or.inr ⟨_, c_rtx h, rfl, rfl, Nat.le_refl _, Nat.le_refl _⟩))
theorem kC_stopSwing (h : ¬ mm 0 10 = 0) (g1 : inR 0 (mm 4 9 - 1) x1) {o : Ou} {z : Wd} (hj : J G M_X9_stopSwing 9 [(0, .ref 0), (1, .int x1)] [] (SH, mm, lm) false o z false 1 6) : Ct G M_X9_stopSwing [.ref 0, .int x1] (SH, mm, lm) false o z false 1 6 :=
  CJ (bX9_stopSwing_0 (Or.inl ⟨c_rt h, Or.inl ⟨c_rb g1, hj⟩⟩))
theorem kB_stopSwing (h : ¬ mm 0 10 = 0) (hb : ¬ ((inR 0 (mm 4 9 - 1) x1))) : Ct G M_X9_stopSwing [.ref 0, .int x1] (SH, mm, lm) false (.inr IAE) (SH, mm, lm) false 1 6 := by
  by_cases g1 : inR 0 (mm 4 9 - 1) x1
  · exact absurd (g1) hb
  · exact CJ (bX9_stopSwing_0 (Or.inl ⟨c_rt h, Or.inr ⟨_, c_rbx g1, rfl, rfl, Nat.le_refl _, Nat.le_refl _⟩⟩))
theorem mA_stopSwing (h : mm 63 3 = 0) : Ct G M_X10_stopSwing [.ref 63, .int x1] (SH, mm, lm) false (.inl (some (.int 0))) (SH, mset mm 63 4 1, lm) false 0 0 :=
  CJ (bX10_stopSwing_0 (⟨_, cm_isBell x1, ⟨_, _, wA h _, fun z => absurd z (by decide), fun _ => ⟨rfl, rfl⟩⟩⟩))
theorem mC_stopSwing (h : ¬ mm 63 3 = 0) (g1 : inR 0 (mm 63 8 - 1) x1) {o : Ou} {z : Wd} (hj : J G M_X10_stopSwing 14 [(0, .ref 63), (1, .int x1)] [] (SH, mset mm 63 4 0, lm) false o z false 0 0) : Ct G M_X10_stopSwing [.ref 63, .int x1] (SH, mm, lm) false o z false 0 0 :=
  CJ (bX10_stopSwing_0 (⟨_, cm_isBell x1, ⟨_, _, wC h (bI_1.mpr g1), fun _ => hj, fun z => absurd rfl z⟩⟩))
theorem mB_stopSwing (h : ¬ mm 63 3 = 0) (hb : ¬ ((inR 0 (mm 63 8 - 1) x1))) : Ct G M_X10_stopSwing [.ref 63, .int x1] (SH, mm, lm) false (.inl (some (.int 0))) (SH, mset mm 63 4 2, lm) false 0 0 := by
  by_cases g1 : inR 0 (mm 63 8 - 1) x1
  · exact absurd (g1) hb
  · exact CJ (bX10_stopSwing_0 (⟨0, (bI_f g1) ▸ cm_isBell x1, ⟨_, _, wB h, fun z => absurd z (by decide), fun _ => ⟨rfl, rfl⟩⟩⟩))
theorem as_stopSwing (hB : Bas I) (core : ∀ mm lm, I mm → ¬ mm 0 10 = 0 → inR 0 (mm 4 9 - 1) x1 → CoreI G I M_X9_stopSwing M_X10_stopSwing 9 14 [(0, .ref 0), (1, .int x1)] [(0, .ref 63), (1, .int x1)] mm lm) : OpW G I M_L_stopSwing M_X10_stopSwing [.int x1] cmpI := by
  intro mm lm hI
  obtain ⟨b1, b2, b3, b4⟩ := hB mm hI
  by_cases h : mm 0 10 = 0
  · exact ⟨1, mm, lm, 0, _, w1_stopSwing (kA_stopSwing h), mA_stopSwing (b1.mpr h), mset_eq, fun z => absurd z (by decide), b4 1⟩
  · by_cases hg : (inR 0 (mm 4 9 - 1) x1)
    · have g1 := hg
      obtain ⟨v, mm1, q1, q2, q6⟩ := core mm lm hI h g1
      obtain ⟨mm2, q3, q4, q5⟩ := q6 (vp_updL lm 0 v.toInt64)
      exact ⟨0, mm1, _, v, mm2, w_stopSwing (kC_stopSwing h g1 q1), mC_stopSwing (fun z => h (b1.mp (q2.1 ▸ z))) (by rw [q2.2.2, b2]; exact g1) q3, q4, fun _ => rfl, q5⟩
    · exact ⟨2, mm, lm, 0, _, w2_stopSwing (kB_stopSwing h hg), mB_stopSwing (fun z => h (b1.mp z)) (fun z => hg (by rw [← b2]; exact z)), mset_eq, fun z => absurd z (by decide), b4 2⟩
theorem kA_offset (h : mm 0 10 = 0) : Ct G M_X9_offset [.ref 0, .int x1, .int x2] (SH, mm, lm) false (.inr ISE) (SH, mm, lm) false 1 6 :=
  CJ (bX9_offset_0 (Or.inr ⟨_, c_rtx h, rfl, rfl, Nat.le_refl _, Nat.le_refl _⟩))
theorem kC_offset (h : ¬ mm 0 10 = 0) (g1 : inR 0 (mm 4 9 - 1) x1) (g2 : inR 0 9999 x2) {o : Ou} {z : Wd} (hj : J G M_X9_offset 17 [(0, .ref 0), (1, .int x1), (2, .int x2)] [] (SH, mm, lm) false o z false 1 6) : Ct G M_X9_offset [.ref 0, .int x1, .int x2] (SH, mm, lm) false o z false 1 6 :=
  CJ (bX9_offset_0 (Or.inl ⟨c_rt h, Or.inl ⟨c_rb g1, Or.inl ⟨c_rr g2, hj⟩⟩⟩))
theorem kB_offset (h : ¬ mm 0 10 = 0) (hb : ¬ ((inR 0 (mm 4 9 - 1) x1) ∧ (inR 0 9999 x2))) : Ct G M_X9_offset [.ref 0, .int x1, .int x2] (SH, mm, lm) false (.inr IAE) (SH, mm, lm) false 1 6 := by
  by_cases g1 : inR 0 (mm 4 9 - 1) x1
  · by_cases g2 : inR 0 9999 x2
    · exact absurd (⟨g1, g2⟩) hb
    · exact CJ (bX9_offset_0 (Or.inl ⟨c_rt h, Or.inl ⟨c_rb g1, Or.inr ⟨_, c_rrx g2, rfl, rfl, Nat.le_refl _, Nat.le_refl _⟩⟩⟩))
  · exact CJ (bX9_offset_0 (Or.inl ⟨c_rt h, Or.inr ⟨_, c_rbx g1, rfl, rfl, Nat.le_refl _, Nat.le_refl _⟩⟩))
theorem mA_offset (h : mm 63 3 = 0) : Ct G M_X10_offset [.ref 63, .int x1, .int x2] (SH, mm, lm) false (.inl (some (.int 0))) (SH, mset mm 63 4 1, lm) false 0 0 :=
  CJ (bX10_offset_0 (⟨_, cm_isBell x1, fun z => ⟨_, _, wA h _, fun z => absurd z (by decide), fun _ => ⟨rfl, rfl⟩⟩, fun z => ⟨_, cm_in (x := x2) (l := 0) (g := 9999) rfl rfl, fun z => ⟨_, _, wA h _, fun z => absurd z (by decide), fun _ => ⟨rfl, rfl⟩⟩, fun z => ⟨_, _, wA h _, fun z => absurd z (by decide), fun _ => ⟨rfl, rfl⟩⟩⟩⟩))
theorem mC_offset (h : ¬ mm 63 3 = 0) (g1 : inR 0 (mm 63 8 - 1) x1) (g2 : inR 0 9999 x2) {o : Ou} {z : Wd} (hj : J G M_X10_offset 34 [(0, .ref 63), (1, .int x1), (2, .int x2)] [] (SH, mset mm 63 4 0, lm) false o z false 0 0) : Ct G M_X10_offset [.ref 63, .int x1, .int x2] (SH, mm, lm) false o z false 0 0 :=
  CJ (bX10_offset_0 (⟨_, cm_isBell x1, fun z => absurd g1 (bI_0.mp z), fun z => ⟨_, cm_in (x := x2) (l := 0) (g := 9999) rfl rfl, fun z => absurd g2 (bI_0.mp z), fun z => ⟨_, _, wC h (by decide), fun _ => hj, fun z => absurd rfl z⟩⟩⟩))
theorem mB_offset (h : ¬ mm 63 3 = 0) (hb : ¬ ((inR 0 (mm 63 8 - 1) x1) ∧ (inR 0 9999 x2))) : Ct G M_X10_offset [.ref 63, .int x1, .int x2] (SH, mm, lm) false (.inl (some (.int 0))) (SH, mset mm 63 4 2, lm) false 0 0 := by
  by_cases g1 : inR 0 (mm 63 8 - 1) x1
  · by_cases g2 : inR 0 9999 x2
    · exact absurd (⟨g1, g2⟩) hb
    · exact CJ (bX10_offset_0 (⟨_, cm_isBell x1, fun z => absurd g1 (bI_0.mp z), fun z => ⟨_, cm_in (x := x2) (l := 0) (g := 9999) rfl rfl, fun z => ⟨_, _, wB h, fun z => absurd z (by decide), fun _ => ⟨rfl, rfl⟩⟩, fun z => absurd (bI_1.mp z) g2⟩⟩))
  · exact CJ (bX10_offset_0 (⟨_, cm_isBell x1, fun z => ⟨_, _, wB h, fun z => absurd z (by decide), fun _ => ⟨rfl, rfl⟩⟩, fun z => absurd (bI_1.mp z) g1⟩))
theorem as_offset (hB : Bas I) (core : ∀ mm lm, I mm → ¬ mm 0 10 = 0 → inR 0 (mm 4 9 - 1) x1 → inR 0 9999 x2 → (CoreI G I M_X9_offset M_X10_offset 17 34 [(0, .ref 0), (1, .int x1), (2, .int x2)] [(0, .ref 63), (1, .int x1), (2, .int x2)] mm lm ∨ CoreN G I M_X9_offset M_X10_offset 17 34 [(0, .ref 0), (1, .int x1), (2, .int x2)] [(0, .ref 63), (1, .int x1), (2, .int x2)] mm lm)) : OpW G I M_L_offset M_X10_offset [.int x1, .int x2] cmpI := by
  intro mm lm hI
  obtain ⟨b1, b2, b3, b4⟩ := hB mm hI
  by_cases h : mm 0 10 = 0
  · exact ⟨1, mm, lm, 0, _, w1_offset (kA_offset h), mA_offset (b1.mpr h), mset_eq, fun z => absurd z (by decide), b4 1⟩
  · by_cases hg : (inR 0 (mm 4 9 - 1) x1) ∧ (inR 0 9999 x2)
    · obtain ⟨g1, g2⟩ := hg
      rcases core mm lm hI h g1 g2 with hc | hc
      · obtain ⟨v, mm1, q1, q2, q6⟩ := hc
        obtain ⟨mm2, q3, q4, q5⟩ := q6 (vp_updL lm 0 v.toInt64)
        exact ⟨0, mm1, _, v, mm2, w_offset (kC_offset h g1 g2 q1), mC_offset (fun z => h (b1.mp (q2.1 ▸ z))) (by rw [q2.2.2, b2]; exact g1) g2 q3, q4, fun _ => rfl, q5⟩
      · obtain ⟨q1, q6⟩ := hc
        obtain ⟨v, mm2, q3, q4, q5⟩ := q6 lm
        exact ⟨3, mm, lm, v, mm2, w3_offset (kC_offset h g1 g2 q1), mC_offset (fun z => h (b1.mp z)) (by rw [b2]; exact g1) g2 q3, q4, fun z => absurd z (by decide), q5⟩
    · exact ⟨2, mm, lm, 0, _, w2_offset (kB_offset h hg), mB_offset (fun z => h (b1.mp z)) (fun z => hg ⟨(by rw [← b2]; exact z.1), z.2⟩), mset_eq, fun z => absurd z (by decide), b4 2⟩
theorem kA_gap (h : mm 0 10 = 0) : Ct G M_X9_gap [.ref 0, .int x1, .int x2, .int x3] (SH, mm, lm) false (.inr ISE) (SH, mm, lm) false 1 6 :=
  CJ (bX9_gap_0 (Or.inr ⟨_, c_rtx h, rfl, rfl, Nat.le_refl _, Nat.le_refl _⟩))
theorem kC_gap (h : ¬ mm 0 10 = 0) (g1 : inR 0 (mm 4 9 - 1) x1) (g2 : inR 0 (mm 4 9 - 1) x2) (g3 : inR 0 9999 x3) {o : Ou} {z : Wd} (hj : J G M_X9_gap 22 [(0, .ref 0), (1, .int x1), (2, .int x2), (3, .int x3)] [] (SH, mm, lm) false o z false 1 6) : Ct G M_X9_gap [.ref 0, .int x1, .int x2, .int x3] (SH, mm, lm) false o z false 1 6 :=
  CJ (bX9_gap_0 (Or.inl ⟨c_rt h, Or.inl ⟨c_rb g1, Or.inl ⟨c_rb g2, Or.inl ⟨c_rr g3, hj⟩⟩⟩⟩))
theorem kB_gap (h : ¬ mm 0 10 = 0) (hb : ¬ ((inR 0 (mm 4 9 - 1) x1) ∧ (inR 0 (mm 4 9 - 1) x2) ∧ (inR 0 9999 x3))) : Ct G M_X9_gap [.ref 0, .int x1, .int x2, .int x3] (SH, mm, lm) false (.inr IAE) (SH, mm, lm) false 1 6 := by
  by_cases g1 : inR 0 (mm 4 9 - 1) x1
  · by_cases g2 : inR 0 (mm 4 9 - 1) x2
    · by_cases g3 : inR 0 9999 x3
      · exact absurd (⟨g1, g2, g3⟩) hb
      · exact CJ (bX9_gap_0 (Or.inl ⟨c_rt h, Or.inl ⟨c_rb g1, Or.inl ⟨c_rb g2, Or.inr ⟨_, c_rrx g3, rfl, rfl, Nat.le_refl _, Nat.le_refl _⟩⟩⟩⟩))
    · exact CJ (bX9_gap_0 (Or.inl ⟨c_rt h, Or.inl ⟨c_rb g1, Or.inr ⟨_, c_rbx g2, rfl, rfl, Nat.le_refl _, Nat.le_refl _⟩⟩⟩))
  · exact CJ (bX9_gap_0 (Or.inl ⟨c_rt h, Or.inr ⟨_, c_rbx g1, rfl, rfl, Nat.le_refl _, Nat.le_refl _⟩⟩))
theorem mA_gap (h : mm 63 3 = 0) : Ct G M_X10_gap [.ref 63, .int x1, .int x2, .int x3] (SH, mm, lm) false (.inl (some (.int 0))) (SH, mset mm 63 4 1, lm) false 0 0 :=
  CJ (bX10_gap_0 (⟨_, cm_isBell x1, fun z => ⟨_, _, wA h _, fun z => absurd z (by decide), fun _ => ⟨rfl, rfl⟩⟩, fun z => ⟨_, cm_isBell x2, fun z => ⟨_, _, wA h _, fun z => absurd z (by decide), fun _ => ⟨rfl, rfl⟩⟩, fun z => ⟨fun z => ⟨_, _, wA h _, fun z => absurd z (by decide), fun _ => ⟨rfl, rfl⟩⟩, fun z => ⟨_, cm_in (x := x3) (l := 0) (g := 9999) rfl rfl, fun z => ⟨_, _, wA h _, fun z => absurd z (by decide), fun _ => ⟨rfl, rfl⟩⟩, fun z => ⟨_, _, wA h _, fun z => absurd z (by decide), fun _ => ⟨rfl, rfl⟩⟩⟩⟩⟩⟩))
theorem mC_gap (h : ¬ mm 63 3 = 0) (g1 : inR 0 (mm 63 8 - 1) x1) (g2 : inR 0 (mm 63 8 - 1) x2) (g3 : ¬ x1 = x2) (g4 : inR 0 9999 x3) {o : Ou} {z : Wd} (hj : J G M_X10_gap 47 [(0, .ref 63), (1, .int x1), (2, .int x2), (3, .int x3)] [] (SH, mset mm 63 4 0, lm) false o z false 0 0) : Ct G M_X10_gap [.ref 63, .int x1, .int x2, .int x3] (SH, mm, lm) false o z false 0 0 :=
  CJ (bX10_gap_0 (⟨_, cm_isBell x1, fun z => absurd g1 (bI_0.mp z), fun z => ⟨_, cm_isBell x2, fun z => absurd g2 (bI_0.mp z), fun z => ⟨fun z => absurd z g3, fun z => ⟨_, cm_in (x := x3) (l := 0) (g := 9999) rfl rfl, fun z => absurd g4 (bI_0.mp z), fun z => ⟨_, _, wC h (by decide), fun _ => hj, fun z => absurd rfl z⟩⟩⟩⟩⟩))
theorem mB_gap (h : ¬ mm 63 3 = 0) (hb : ¬ ((inR 0 (mm 63 8 - 1) x1) ∧ (inR 0 (mm 63 8 - 1) x2) ∧ (¬ x1 = x2) ∧ (inR 0 9999 x3))) : Ct G M_X10_gap [.ref 63, .int x1, .int x2, .int x3] (SH, mm, lm) false (.inl (some (.int 0))) (SH, mset mm 63 4 2, lm) false 0 0 := by
  by_cases g1 : inR 0 (mm 63 8 - 1) x1
  · by_cases g2 : inR 0 (mm 63 8 - 1) x2
    · by_cases g3 : ¬ x1 = x2
      · by_cases g4 : inR 0 9999 x3
        · exact absurd (⟨g1, g2, g3, g4⟩) hb
        · exact CJ (bX10_gap_0 (⟨_, cm_isBell x1, fun z => absurd g1 (bI_0.mp z), fun z => ⟨_, cm_isBell x2, fun z => absurd g2 (bI_0.mp z), fun z => ⟨fun z => absurd z g3, fun z => ⟨_, cm_in (x := x3) (l := 0) (g := 9999) rfl rfl, fun z => ⟨_, _, wB h, fun z => absurd z (by decide), fun _ => ⟨rfl, rfl⟩⟩, fun z => absurd (bI_1.mp z) g4⟩⟩⟩⟩))
      · exact CJ (bX10_gap_0 (⟨_, cm_isBell x1, fun z => absurd g1 (bI_0.mp z), fun z => ⟨_, cm_isBell x2, fun z => absurd g2 (bI_0.mp z), fun z => ⟨fun z => ⟨_, _, wB h, fun z => absurd z (by decide), fun _ => ⟨rfl, rfl⟩⟩, fun z => absurd z g3⟩⟩⟩))
    · exact CJ (bX10_gap_0 (⟨_, cm_isBell x1, fun z => absurd g1 (bI_0.mp z), fun z => ⟨_, cm_isBell x2, fun z => ⟨_, _, wB h, fun z => absurd z (by decide), fun _ => ⟨rfl, rfl⟩⟩, fun z => absurd (bI_1.mp z) g2⟩⟩))
  · exact CJ (bX10_gap_0 (⟨_, cm_isBell x1, fun z => ⟨_, _, wB h, fun z => absurd z (by decide), fun _ => ⟨rfl, rfl⟩⟩, fun z => absurd (bI_1.mp z) g1⟩))
theorem kA_firstCollision (h : mm 0 10 = 0) : Ct G M_X9_firstCollision [.ref 0] (SH, mm, lm) false (.inr ISE) (SH, mm, lm) false 1 6 :=
  CJ (bX9_firstCollision_0 (Or.inr ⟨_, c_rtx h, rfl, rfl, Nat.le_refl _, Nat.le_refl _⟩))
theorem kC_firstCollision (h : ¬ mm 0 10 = 0)  {o : Ou} {z : Wd} (hj : J G M_X9_firstCollision 4 [(0, .ref 0)] [] (SH, mm, lm) false o z false 1 6) : Ct G M_X9_firstCollision [.ref 0] (SH, mm, lm) false o z false 1 6 :=
  CJ (bX9_firstCollision_0 (Or.inl ⟨c_rt h, hj⟩))
theorem mA_firstCollision (h : mm 63 3 = 0) : Ct G M_X10_firstCollision [.ref 63] (SH, mm, lm) false (.inl (some (.int 0))) (SH, mset mm 63 4 1, lm) false 0 0 :=
  CJ (bX10_firstCollision_0 (⟨_, _, wA h _, fun z => absurd z (by decide), fun _ => ⟨rfl, rfl⟩⟩))
theorem mC_firstCollision (h : ¬ mm 63 3 = 0)  {o : Ou} {z : Wd} (hj : J G M_X10_firstCollision 10 [(0, .ref 63)] [] (SH, mset mm 63 4 0, lm) false o z false 0 0) : Ct G M_X10_firstCollision [.ref 63] (SH, mm, lm) false o z false 0 0 :=
  CJ (bX10_firstCollision_0 (⟨_, _, wC h (by decide), fun _ => hj, fun z => absurd rfl z⟩))
theorem as_firstCollision (hB : Bas I) (core : ∀ mm lm, I mm → ¬ mm 0 10 = 0 → CoreI G I M_X9_firstCollision M_X10_firstCollision 4 10 [(0, .ref 0)] [(0, .ref 63)] mm lm) : OpW G I M_L_firstCollision M_X10_firstCollision [] cmpI := by
  intro mm lm hI
  obtain ⟨b1, b2, b3, b4⟩ := hB mm hI
  by_cases h : mm 0 10 = 0
  · exact ⟨1, mm, lm, 0, _, w1_firstCollision (kA_firstCollision h), mA_firstCollision (b1.mpr h), mset_eq, fun z => absurd z (by decide), b4 1⟩
  · obtain ⟨v, mm1, q1, q2, q6⟩ := core mm lm hI h 
    obtain ⟨mm2, q3, q4, q5⟩ := q6 (vp_updL lm 0 v.toInt64)
    exact ⟨0, mm1, _, v, mm2, w_firstCollision (kC_firstCollision h  q1), mC_firstCollision (fun z => h (b1.mp (q2.1 ▸ z)))  q3, q4, fun _ => rfl, q5⟩
theorem kA_collidingBells (h : mm 0 10 = 0) : Ct G M_X9_collidingBells [.ref 0] (SH, mm, lm) false (.inr ISE) (SH, mm, lm) false 1 6 :=
  CJ (bX9_collidingBells_0 (Or.inr ⟨_, c_rtx h, rfl, rfl, Nat.le_refl _, Nat.le_refl _⟩))
theorem kC_collidingBells (h : ¬ mm 0 10 = 0)  {o : Ou} {z : Wd} (hj : J G M_X9_collidingBells 4 [(0, .ref 0)] [] (SH, mm, lm) false o z false 1 6) : Ct G M_X9_collidingBells [.ref 0] (SH, mm, lm) false o z false 1 6 :=
  CJ (bX9_collidingBells_0 (Or.inl ⟨c_rt h, hj⟩))
theorem mA_collidingBells (h : mm 63 3 = 0) : Ct G M_X10_collidingBells [.ref 63] (SH, mm, lm) false (.inl (some (.int 0))) (SH, mset mm 63 4 1, lm) false 0 0 :=
  CJ (bX10_collidingBells_0 (⟨_, _, wA h _, fun z => absurd z (by decide), fun _ => ⟨rfl, rfl⟩⟩))
theorem mC_collidingBells (h : ¬ mm 63 3 = 0)  {o : Ou} {z : Wd} (hj : J G M_X10_collidingBells 10 [(0, .ref 63)] [] (SH, mset mm 63 4 0, lm) false o z false 0 0) : Ct G M_X10_collidingBells [.ref 63] (SH, mm, lm) false o z false 0 0 :=
  CJ (bX10_collidingBells_0 (⟨_, _, wC h (by decide), fun _ => hj, fun z => absurd rfl z⟩))
theorem as_collidingBells (hB : Bas I) (core : ∀ mm lm, I mm → ¬ mm 0 10 = 0 → CoreI G I M_X9_collidingBells M_X10_collidingBells 4 10 [(0, .ref 0)] [(0, .ref 63)] mm lm) : OpW G I M_L_collidingBells M_X10_collidingBells [] cmpI := by
  intro mm lm hI
  obtain ⟨b1, b2, b3, b4⟩ := hB mm hI
  by_cases h : mm 0 10 = 0
  · exact ⟨1, mm, lm, 0, _, w1_collidingBells (kA_collidingBells h), mA_collidingBells (b1.mpr h), mset_eq, fun z => absurd z (by decide), b4 1⟩
  · obtain ⟨v, mm1, q1, q2, q6⟩ := core mm lm hI h 
    obtain ⟨mm2, q3, q4, q5⟩ := q6 (vp_updL lm 0 v.toInt64)
    exact ⟨0, mm1, _, v, mm2, w_collidingBells (kC_collidingBells h  q1), mC_collidingBells (fun z => h (b1.mp (q2.1 ▸ z)))  q3, q4, fun _ => rfl, q5⟩
theorem kA_safeStart (h : mm 0 10 = 0) : Ct G M_X9_safeStart [.ref 0, .int x1, .int x2] (SH, mm, lm) false (.inr ISE) (SH, mm, lm) false 1 6 :=
  CJ (bX9_safeStart_0 (Or.inr ⟨_, c_rtx h, rfl, rfl, Nat.le_refl _, Nat.le_refl _⟩))
theorem kC_safeStart (h : ¬ mm 0 10 = 0) (g1 : inR 0 (mm 4 9 - 1) x1) (g2 : inR 1 15 x2) {o : Ou} {z : Wd} (hj : J G M_X9_safeStart 16 [(0, .ref 0), (1, .int x1), (2, .int x2)] [] (SH, mm, lm) false o z false 1 6) : Ct G M_X9_safeStart [.ref 0, .int x1, .int x2] (SH, mm, lm) false o z false 1 6 :=
  CJ (bX9_safeStart_0 (Or.inl ⟨c_rt h, Or.inl ⟨c_rb g1, Or.inl ⟨c_rr g2, hj⟩⟩⟩))
theorem kB_safeStart (h : ¬ mm 0 10 = 0) (hb : ¬ ((inR 0 (mm 4 9 - 1) x1) ∧ (inR 1 15 x2))) : Ct G M_X9_safeStart [.ref 0, .int x1, .int x2] (SH, mm, lm) false (.inr IAE) (SH, mm, lm) false 1 6 := by
  by_cases g1 : inR 0 (mm 4 9 - 1) x1
  · by_cases g2 : inR 1 15 x2
    · exact absurd (⟨g1, g2⟩) hb
    · exact CJ (bX9_safeStart_0 (Or.inl ⟨c_rt h, Or.inl ⟨c_rb g1, Or.inr ⟨_, c_rrx g2, rfl, rfl, Nat.le_refl _, Nat.le_refl _⟩⟩⟩))
  · exact CJ (bX9_safeStart_0 (Or.inl ⟨c_rt h, Or.inr ⟨_, c_rbx g1, rfl, rfl, Nat.le_refl _, Nat.le_refl _⟩⟩))
theorem mA_safeStart (h : mm 63 3 = 0) : Ct G M_X10_safeStart [.ref 63, .int x1, .int x2] (SH, mm, lm) false (.inl (some (.int 0))) (SH, mset mm 63 4 1, lm) false 0 0 :=
  CJ (bX10_safeStart_0 (⟨_, cm_isBell x1, fun z => ⟨_, _, wA h _, fun z => absurd z (by decide), fun _ => ⟨rfl, rfl⟩⟩, fun z => ⟨_, cm_in (x := x2) (l := 1) (g := 15) rfl rfl, fun z => ⟨_, _, wA h _, fun z => absurd z (by decide), fun _ => ⟨rfl, rfl⟩⟩, fun z => ⟨_, _, wA h _, fun z => absurd z (by decide), fun _ => ⟨rfl, rfl⟩⟩⟩⟩))
theorem mC_safeStart (h : ¬ mm 63 3 = 0) (g1 : inR 0 (mm 63 8 - 1) x1) (g2 : inR 1 15 x2) {o : Ou} {z : Wd} (hj : J G M_X10_safeStart 34 [(0, .ref 63), (1, .int x1), (2, .int x2)] [] (SH, mset mm 63 4 0, lm) false o z false 0 0) : Ct G M_X10_safeStart [.ref 63, .int x1, .int x2] (SH, mm, lm) false o z false 0 0 :=
  CJ (bX10_safeStart_0 (⟨_, cm_isBell x1, fun z => absurd g1 (bI_0.mp z), fun z => ⟨_, cm_in (x := x2) (l := 1) (g := 15) rfl rfl, fun z => absurd g2 (bI_0.mp z), fun z => ⟨_, _, wC h (by decide), fun _ => hj, fun z => absurd rfl z⟩⟩⟩))
theorem mB_safeStart (h : ¬ mm 63 3 = 0) (hb : ¬ ((inR 0 (mm 63 8 - 1) x1) ∧ (inR 1 15 x2))) : Ct G M_X10_safeStart [.ref 63, .int x1, .int x2] (SH, mm, lm) false (.inl (some (.int 0))) (SH, mset mm 63 4 2, lm) false 0 0 := by
  by_cases g1 : inR 0 (mm 63 8 - 1) x1
  · by_cases g2 : inR 1 15 x2
    · exact absurd (⟨g1, g2⟩) hb
    · exact CJ (bX10_safeStart_0 (⟨_, cm_isBell x1, fun z => absurd g1 (bI_0.mp z), fun z => ⟨_, cm_in (x := x2) (l := 1) (g := 15) rfl rfl, fun z => ⟨_, _, wB h, fun z => absurd z (by decide), fun _ => ⟨rfl, rfl⟩⟩, fun z => absurd (bI_1.mp z) g2⟩⟩))
  · exact CJ (bX10_safeStart_0 (⟨_, cm_isBell x1, fun z => ⟨_, _, wB h, fun z => absurd z (by decide), fun _ => ⟨rfl, rfl⟩⟩, fun z => absurd (bI_1.mp z) g1⟩))
theorem as_safeStart (hB : Bas I) (core : ∀ mm lm, I mm → ¬ mm 0 10 = 0 → inR 0 (mm 4 9 - 1) x1 → inR 1 15 x2 → CoreI G I M_X9_safeStart M_X10_safeStart 16 34 [(0, .ref 0), (1, .int x1), (2, .int x2)] [(0, .ref 63), (1, .int x1), (2, .int x2)] mm lm) : OpW G I M_L_safeStart M_X10_safeStart [.int x1, .int x2] cmpI := by
  intro mm lm hI
  obtain ⟨b1, b2, b3, b4⟩ := hB mm hI
  by_cases h : mm 0 10 = 0
  · exact ⟨1, mm, lm, 0, _, w1_safeStart (kA_safeStart h), mA_safeStart (b1.mpr h), mset_eq, fun z => absurd z (by decide), b4 1⟩
  · by_cases hg : (inR 0 (mm 4 9 - 1) x1) ∧ (inR 1 15 x2)
    · obtain ⟨g1, g2⟩ := hg
      obtain ⟨v, mm1, q1, q2, q6⟩ := core mm lm hI h g1 g2
      obtain ⟨mm2, q3, q4, q5⟩ := q6 (vp_updL lm 0 v.toInt64)
      exact ⟨0, mm1, _, v, mm2, w_safeStart (kC_safeStart h g1 g2 q1), mC_safeStart (fun z => h (b1.mp (q2.1 ▸ z))) (by rw [q2.2.2, b2]; exact g1) g2 q3, q4, fun _ => rfl, q5⟩
    · exact ⟨2, mm, lm, 0, _, w2_safeStart (kB_safeStart h hg), mB_safeStart (fun z => h (b1.mp z)) (fun z => hg ⟨(by rw [← b2]; exact z.1), z.2⟩), mset_eq, fun z => absurd z (by decide), b4 2⟩
theorem kA_safeAmplitude (h : mm 0 10 = 0) : Ct G M_X9_safeAmplitude [.ref 0, .int x1] (SH, mm, lm) false (.inr ISE) (SH, mm, lm) false 1 6 :=
  CJ (bX9_safeAmplitude_0 (Or.inr ⟨_, c_rtx h, rfl, rfl, Nat.le_refl _, Nat.le_refl _⟩))
theorem kC_safeAmplitude (h : ¬ mm 0 10 = 0) (g1 : inR 0 (mm 4 9 - 1) x1) {o : Ou} {z : Wd} (hj : J G M_X9_safeAmplitude 9 [(0, .ref 0), (1, .int x1)] [] (SH, mm, lm) false o z false 1 6) : Ct G M_X9_safeAmplitude [.ref 0, .int x1] (SH, mm, lm) false o z false 1 6 :=
  CJ (bX9_safeAmplitude_0 (Or.inl ⟨c_rt h, Or.inl ⟨c_rb g1, hj⟩⟩))
theorem kB_safeAmplitude (h : ¬ mm 0 10 = 0) (hb : ¬ ((inR 0 (mm 4 9 - 1) x1))) : Ct G M_X9_safeAmplitude [.ref 0, .int x1] (SH, mm, lm) false (.inr IAE) (SH, mm, lm) false 1 6 := by
  by_cases g1 : inR 0 (mm 4 9 - 1) x1
  · exact absurd (g1) hb
  · exact CJ (bX9_safeAmplitude_0 (Or.inl ⟨c_rt h, Or.inr ⟨_, c_rbx g1, rfl, rfl, Nat.le_refl _, Nat.le_refl _⟩⟩))
theorem mA_safeAmplitude (h : mm 63 3 = 0) : Ct G M_X10_safeAmplitude [.ref 63, .int x1] (SH, mm, lm) false (.inl (some (.int 0))) (SH, mset mm 63 4 1, lm) false 0 0 :=
  CJ (bX10_safeAmplitude_0 (⟨_, cm_isBell x1, ⟨_, _, wA h _, fun z => absurd z (by decide), fun _ => ⟨rfl, rfl⟩⟩⟩))
theorem mC_safeAmplitude (h : ¬ mm 63 3 = 0) (g1 : inR 0 (mm 63 8 - 1) x1) {o : Ou} {z : Wd} (hj : J G M_X10_safeAmplitude 14 [(0, .ref 63), (1, .int x1)] [] (SH, mset mm 63 4 0, lm) false o z false 0 0) : Ct G M_X10_safeAmplitude [.ref 63, .int x1] (SH, mm, lm) false o z false 0 0 :=
  CJ (bX10_safeAmplitude_0 (⟨_, cm_isBell x1, ⟨_, _, wC h (bI_1.mpr g1), fun _ => hj, fun z => absurd rfl z⟩⟩))
theorem mB_safeAmplitude (h : ¬ mm 63 3 = 0) (hb : ¬ ((inR 0 (mm 63 8 - 1) x1))) : Ct G M_X10_safeAmplitude [.ref 63, .int x1] (SH, mm, lm) false (.inl (some (.int 0))) (SH, mset mm 63 4 2, lm) false 0 0 := by
  by_cases g1 : inR 0 (mm 63 8 - 1) x1
  · exact absurd (g1) hb
  · exact CJ (bX10_safeAmplitude_0 (⟨0, (bI_f g1) ▸ cm_isBell x1, ⟨_, _, wB h, fun z => absurd z (by decide), fun _ => ⟨rfl, rfl⟩⟩⟩))
theorem as_safeAmplitude (hB : Bas I) (core : ∀ mm lm, I mm → ¬ mm 0 10 = 0 → inR 0 (mm 4 9 - 1) x1 → CoreI G I M_X9_safeAmplitude M_X10_safeAmplitude 9 14 [(0, .ref 0), (1, .int x1)] [(0, .ref 63), (1, .int x1)] mm lm) : OpW G I M_L_safeAmplitude M_X10_safeAmplitude [.int x1] cmpI := by
  intro mm lm hI
  obtain ⟨b1, b2, b3, b4⟩ := hB mm hI
  by_cases h : mm 0 10 = 0
  · exact ⟨1, mm, lm, 0, _, w1_safeAmplitude (kA_safeAmplitude h), mA_safeAmplitude (b1.mpr h), mset_eq, fun z => absurd z (by decide), b4 1⟩
  · by_cases hg : (inR 0 (mm 4 9 - 1) x1)
    · have g1 := hg
      obtain ⟨v, mm1, q1, q2, q6⟩ := core mm lm hI h g1
      obtain ⟨mm2, q3, q4, q5⟩ := q6 (vp_updL lm 0 v.toInt64)
      exact ⟨0, mm1, _, v, mm2, w_safeAmplitude (kC_safeAmplitude h g1 q1), mC_safeAmplitude (fun z => h (b1.mp (q2.1 ▸ z))) (by rw [q2.2.2, b2]; exact g1) q3, q4, fun _ => rfl, q5⟩
    · exact ⟨2, mm, lm, 0, _, w2_safeAmplitude (kB_safeAmplitude h hg), mB_safeAmplitude (fun z => h (b1.mp z)) (fun z => hg (by rw [← b2]; exact z)), mset_eq, fun z => absurd z (by decide), b4 2⟩
theorem kA_strikes (h : mm 0 10 = 0) : Ct G M_X9_strikes [.ref 0, .int x1, .int x2, .int x3] (SH, mm, lm) false (.inr ISE) (SH, mm, lm) false 1 6 :=
  CJ (bX9_strikes_0 (Or.inr ⟨_, c_rtx h, rfl, rfl, Nat.le_refl _, Nat.le_refl _⟩))
theorem kC_strikes (h : ¬ mm 0 10 = 0) (g1 : inR 0 (mm 4 9 - 1) x1) (g2 : inR 0 9999 x2) (g3 : inR x2 9999 x3) {o : Ou} {z : Wd} (hj : J G M_X9_strikes 25 [(0, .ref 0), (1, .int x1), (2, .int x2), (3, .int x3)] [] (SH, mm, lm) false o z false 1 6) : Ct G M_X9_strikes [.ref 0, .int x1, .int x2, .int x3] (SH, mm, lm) false o z false 1 6 :=
  CJ (bX9_strikes_0 (Or.inl ⟨c_rt h, Or.inl ⟨c_rb g1, Or.inl ⟨c_rr g2, Or.inl ⟨c_rr g3, hj⟩⟩⟩⟩))
theorem kB_strikes (h : ¬ mm 0 10 = 0) (hb : ¬ ((inR 0 (mm 4 9 - 1) x1) ∧ (inR 0 9999 x2) ∧ (inR x2 9999 x3))) : Ct G M_X9_strikes [.ref 0, .int x1, .int x2, .int x3] (SH, mm, lm) false (.inr IAE) (SH, mm, lm) false 1 6 := by
  by_cases g1 : inR 0 (mm 4 9 - 1) x1
  · by_cases g2 : inR 0 9999 x2
    · by_cases g3 : inR x2 9999 x3
      · exact absurd (⟨g1, g2, g3⟩) hb
      · exact CJ (bX9_strikes_0 (Or.inl ⟨c_rt h, Or.inl ⟨c_rb g1, Or.inl ⟨c_rr g2, Or.inr ⟨_, c_rrx g3, rfl, rfl, Nat.le_refl _, Nat.le_refl _⟩⟩⟩⟩))
    · exact CJ (bX9_strikes_0 (Or.inl ⟨c_rt h, Or.inl ⟨c_rb g1, Or.inr ⟨_, c_rrx g2, rfl, rfl, Nat.le_refl _, Nat.le_refl _⟩⟩⟩))
  · exact CJ (bX9_strikes_0 (Or.inl ⟨c_rt h, Or.inr ⟨_, c_rbx g1, rfl, rfl, Nat.le_refl _, Nat.le_refl _⟩⟩))
theorem mA_strikes (h : mm 63 3 = 0) : Ct G M_X10_strikes [.ref 63, .int x1, .int x2, .int x3] (SH, mm, lm) false (.inl (some (.int 0))) (SH, mset mm 63 4 1, lm) false 0 0 :=
  CJ (bX10_strikes_0 (⟨_, cm_isBell x1, fun z => ⟨_, _, wA h _, fun z => absurd z (by decide), fun _ => ⟨rfl, rfl⟩⟩, fun z => ⟨_, cm_in (x := x2) (l := 0) (g := 9999) rfl rfl, fun z => ⟨_, _, wA h _, fun z => absurd z (by decide), fun _ => ⟨rfl, rfl⟩⟩, fun z => ⟨_, cm_in (x := x3) (l := x2) (g := 9999) rfl rfl, fun z => ⟨_, _, wA h _, fun z => absurd z (by decide), fun _ => ⟨rfl, rfl⟩⟩, fun z => ⟨_, _, wA h _, fun z => absurd z (by decide), fun _ => ⟨rfl, rfl⟩⟩⟩⟩⟩))
theorem mC_strikes (h : ¬ mm 63 3 = 0) (g1 : inR 0 (mm 63 8 - 1) x1) (g2 : inR 0 9999 x2) (g3 : inR x2 9999 x3) {o : Ou} {z : Wd} (hj : J G M_X10_strikes 47 [(0, .ref 63), (1, .int x1), (2, .int x2), (3, .int x3)] [] (SH, mset mm 63 4 0, lm) false o z false 0 0) : Ct G M_X10_strikes [.ref 63, .int x1, .int x2, .int x3] (SH, mm, lm) false o z false 0 0 :=
  CJ (bX10_strikes_0 (⟨_, cm_isBell x1, fun z => absurd g1 (bI_0.mp z), fun z => ⟨_, cm_in (x := x2) (l := 0) (g := 9999) rfl rfl, fun z => absurd g2 (bI_0.mp z), fun z => ⟨_, cm_in (x := x3) (l := x2) (g := 9999) rfl rfl, fun z => absurd g3 (bI_0.mp z), fun z => ⟨_, _, wC h (by decide), fun _ => hj, fun z => absurd rfl z⟩⟩⟩⟩))
theorem mB_strikes (h : ¬ mm 63 3 = 0) (hb : ¬ ((inR 0 (mm 63 8 - 1) x1) ∧ (inR 0 9999 x2) ∧ (inR x2 9999 x3))) : Ct G M_X10_strikes [.ref 63, .int x1, .int x2, .int x3] (SH, mm, lm) false (.inl (some (.int 0))) (SH, mset mm 63 4 2, lm) false 0 0 := by
  by_cases g1 : inR 0 (mm 63 8 - 1) x1
  · by_cases g2 : inR 0 9999 x2
    · by_cases g3 : inR x2 9999 x3
      · exact absurd (⟨g1, g2, g3⟩) hb
      · exact CJ (bX10_strikes_0 (⟨_, cm_isBell x1, fun z => absurd g1 (bI_0.mp z), fun z => ⟨_, cm_in (x := x2) (l := 0) (g := 9999) rfl rfl, fun z => absurd g2 (bI_0.mp z), fun z => ⟨_, cm_in (x := x3) (l := x2) (g := 9999) rfl rfl, fun z => ⟨_, _, wB h, fun z => absurd z (by decide), fun _ => ⟨rfl, rfl⟩⟩, fun z => absurd (bI_1.mp z) g3⟩⟩⟩))
    · exact CJ (bX10_strikes_0 (⟨_, cm_isBell x1, fun z => absurd g1 (bI_0.mp z), fun z => ⟨_, cm_in (x := x2) (l := 0) (g := 9999) rfl rfl, fun z => ⟨_, _, wB h, fun z => absurd z (by decide), fun _ => ⟨rfl, rfl⟩⟩, fun z => absurd (bI_1.mp z) g2⟩⟩))
  · exact CJ (bX10_strikes_0 (⟨_, cm_isBell x1, fun z => ⟨_, _, wB h, fun z => absurd z (by decide), fun _ => ⟨rfl, rfl⟩⟩, fun z => absurd (bI_1.mp z) g1⟩))
theorem as_strikes (hB : Bas I) (core : ∀ mm lm, I mm → ¬ mm 0 10 = 0 → inR 0 (mm 4 9 - 1) x1 → inR 0 9999 x2 → inR x2 9999 x3 → CoreI G I M_X9_strikes M_X10_strikes 25 47 [(0, .ref 0), (1, .int x1), (2, .int x2), (3, .int x3)] [(0, .ref 63), (1, .int x1), (2, .int x2), (3, .int x3)] mm lm) : OpW G I M_L_strikes M_X10_strikes [.int x1, .int x2, .int x3] cmpI := by
  intro mm lm hI
  obtain ⟨b1, b2, b3, b4⟩ := hB mm hI
  by_cases h : mm 0 10 = 0
  · exact ⟨1, mm, lm, 0, _, w1_strikes (kA_strikes h), mA_strikes (b1.mpr h), mset_eq, fun z => absurd z (by decide), b4 1⟩
  · by_cases hg : (inR 0 (mm 4 9 - 1) x1) ∧ (inR 0 9999 x2) ∧ (inR x2 9999 x3)
    · obtain ⟨g1, g2, g3⟩ := hg
      obtain ⟨v, mm1, q1, q2, q6⟩ := core mm lm hI h g1 g2 g3
      obtain ⟨mm2, q3, q4, q5⟩ := q6 (vp_updL lm 0 v.toInt64)
      exact ⟨0, mm1, _, v, mm2, w_strikes (kC_strikes h g1 g2 g3 q1), mC_strikes (fun z => h (b1.mp (q2.1 ▸ z))) (by rw [q2.2.2, b2]; exact g1) g2 g3 q3, q4, fun _ => rfl, q5⟩
    · exact ⟨2, mm, lm, 0, _, w2_strikes (kB_strikes h hg), mB_strikes (fun z => h (b1.mp z)) (fun z => hg ⟨(by rw [← b2]; exact z.1), z.2.1, z.2.2⟩), mset_eq, fun z => absurd z (by decide), b4 2⟩
theorem kA_strikeTogether (h : mm 0 10 = 0) : Ct G M_X9_strikeTogether [.ref 0, .int x1, .int x2] (SH, mm, lm) false (.inr ISE) (SH, mm, lm) false 1 6 :=
  CJ (bX9_strikeTogether_0 (Or.inr ⟨_, c_rtx h, rfl, rfl, Nat.le_refl _, Nat.le_refl _⟩))
theorem kC_strikeTogether (h : ¬ mm 0 10 = 0) (g1 : inR 0 (mm 4 9 - 1) x1) (g2 : inR 0 (mm 4 9 - 1) x2) {o : Ou} {z : Wd} (hj : J G M_X9_strikeTogether 14 [(0, .ref 0), (1, .int x1), (2, .int x2)] [] (SH, mm, lm) false o z false 1 6) : Ct G M_X9_strikeTogether [.ref 0, .int x1, .int x2] (SH, mm, lm) false o z false 1 6 :=
  CJ (bX9_strikeTogether_0 (Or.inl ⟨c_rt h, Or.inl ⟨c_rb g1, Or.inl ⟨c_rb g2, hj⟩⟩⟩))
theorem kB_strikeTogether (h : ¬ mm 0 10 = 0) (hb : ¬ ((inR 0 (mm 4 9 - 1) x1) ∧ (inR 0 (mm 4 9 - 1) x2))) : Ct G M_X9_strikeTogether [.ref 0, .int x1, .int x2] (SH, mm, lm) false (.inr IAE) (SH, mm, lm) false 1 6 := by
  by_cases g1 : inR 0 (mm 4 9 - 1) x1
  · by_cases g2 : inR 0 (mm 4 9 - 1) x2
    · exact absurd (⟨g1, g2⟩) hb
    · exact CJ (bX9_strikeTogether_0 (Or.inl ⟨c_rt h, Or.inl ⟨c_rb g1, Or.inr ⟨_, c_rbx g2, rfl, rfl, Nat.le_refl _, Nat.le_refl _⟩⟩⟩))
  · exact CJ (bX9_strikeTogether_0 (Or.inl ⟨c_rt h, Or.inr ⟨_, c_rbx g1, rfl, rfl, Nat.le_refl _, Nat.le_refl _⟩⟩))
theorem mA_strikeTogether (h : mm 63 3 = 0) : Ct G M_X10_strikeTogether [.ref 63, .int x1, .int x2] (SH, mm, lm) false (.inl (some (.int 0))) (SH, mset mm 63 4 1, lm) false 0 0 :=
  CJ (bX10_strikeTogether_0 (⟨_, cm_isBell x1, fun z => ⟨_, _, wA h _, fun z => absurd z (by decide), fun _ => ⟨rfl, rfl⟩⟩, fun z => ⟨_, cm_isBell x2, fun z => ⟨_, _, wA h _, fun z => absurd z (by decide), fun _ => ⟨rfl, rfl⟩⟩, fun z => ⟨_, _, wA h _, fun z => absurd z (by decide), fun _ => ⟨rfl, rfl⟩⟩⟩⟩))
theorem mC_strikeTogether (h : ¬ mm 63 3 = 0) (g1 : inR 0 (mm 63 8 - 1) x1) (g2 : inR 0 (mm 63 8 - 1) x2) {o : Ou} {z : Wd} (hj : J G M_X10_strikeTogether 30 [(0, .ref 63), (1, .int x1), (2, .int x2)] [] (SH, mset mm 63 4 0, lm) false o z false 0 0) : Ct G M_X10_strikeTogether [.ref 63, .int x1, .int x2] (SH, mm, lm) false o z false 0 0 :=
  CJ (bX10_strikeTogether_0 (⟨_, cm_isBell x1, fun z => absurd g1 (bI_0.mp z), fun z => ⟨_, cm_isBell x2, fun z => absurd g2 (bI_0.mp z), fun z => ⟨_, _, wC h (by decide), fun _ => hj, fun z => absurd rfl z⟩⟩⟩))
theorem mB_strikeTogether (h : ¬ mm 63 3 = 0) (hb : ¬ ((inR 0 (mm 63 8 - 1) x1) ∧ (inR 0 (mm 63 8 - 1) x2))) : Ct G M_X10_strikeTogether [.ref 63, .int x1, .int x2] (SH, mm, lm) false (.inl (some (.int 0))) (SH, mset mm 63 4 2, lm) false 0 0 := by
  by_cases g1 : inR 0 (mm 63 8 - 1) x1
  · by_cases g2 : inR 0 (mm 63 8 - 1) x2
    · exact absurd (⟨g1, g2⟩) hb
    · exact CJ (bX10_strikeTogether_0 (⟨_, cm_isBell x1, fun z => absurd g1 (bI_0.mp z), fun z => ⟨_, cm_isBell x2, fun z => ⟨_, _, wB h, fun z => absurd z (by decide), fun _ => ⟨rfl, rfl⟩⟩, fun z => absurd (bI_1.mp z) g2⟩⟩))
  · exact CJ (bX10_strikeTogether_0 (⟨_, cm_isBell x1, fun z => ⟨_, _, wB h, fun z => absurd z (by decide), fun _ => ⟨rfl, rfl⟩⟩, fun z => absurd (bI_1.mp z) g1⟩))
theorem as_strikeTogether (hB : Bas I) (core : ∀ mm lm, I mm → ¬ mm 0 10 = 0 → inR 0 (mm 4 9 - 1) x1 → inR 0 (mm 4 9 - 1) x2 → CoreI G I M_X9_strikeTogether M_X10_strikeTogether 14 30 [(0, .ref 0), (1, .int x1), (2, .int x2)] [(0, .ref 63), (1, .int x1), (2, .int x2)] mm lm) : OpW G I M_L_strikeTogether M_X10_strikeTogether [.int x1, .int x2] cmpI := by
  intro mm lm hI
  obtain ⟨b1, b2, b3, b4⟩ := hB mm hI
  by_cases h : mm 0 10 = 0
  · exact ⟨1, mm, lm, 0, _, w1_strikeTogether (kA_strikeTogether h), mA_strikeTogether (b1.mpr h), mset_eq, fun z => absurd z (by decide), b4 1⟩
  · by_cases hg : (inR 0 (mm 4 9 - 1) x1) ∧ (inR 0 (mm 4 9 - 1) x2)
    · obtain ⟨g1, g2⟩ := hg
      obtain ⟨v, mm1, q1, q2, q6⟩ := core mm lm hI h g1 g2
      obtain ⟨mm2, q3, q4, q5⟩ := q6 (vp_updL lm 0 v.toInt64)
      exact ⟨0, mm1, _, v, mm2, w_strikeTogether (kC_strikeTogether h g1 g2 q1), mC_strikeTogether (fun z => h (b1.mp (q2.1 ▸ z))) (by rw [q2.2.2, b2]; exact g1) (by rw [q2.2.2, b2]; exact g2) q3, q4, fun _ => rfl, q5⟩
    · exact ⟨2, mm, lm, 0, _, w2_strikeTogether (kB_strikeTogether h hg), mB_strikeTogether (fun z => h (b1.mp z)) (fun z => hg ⟨(by rw [← b2]; exact z.1), (by rw [← b2]; exact z.2)⟩), mset_eq, fun z => absurd z (by decide), b4 2⟩
theorem kA_setChime (h : mm 0 10 = 0) : Ct G M_X9_setChime [.ref 0, .int x1, .int x2, .int x3] (SH, mm, lm) false (.inr ISE) (SH, mm, lm) false 1 6 :=
  CJ (bX9_setChime_0 (Or.inr ⟨_, c_rtx h, rfl, rfl, Nat.le_refl _, Nat.le_refl _⟩))
theorem kC_setChime (h : ¬ mm 0 10 = 0) (g1 : inR 0 (mm 4 9 - 1) x1) (g2 : inR 0 1439 x2) (g3 : inR 1 1440 x3) {o : Ou} {z : Wd} (hj : J G M_X9_setChime 25 [(0, .ref 0), (1, .int x1), (2, .int x2), (3, .int x3)] [] (SH, mm, lm) false o z false 1 6) : Ct G M_X9_setChime [.ref 0, .int x1, .int x2, .int x3] (SH, mm, lm) false o z false 1 6 :=
  CJ (bX9_setChime_0 (Or.inl ⟨c_rt h, Or.inl ⟨c_rb g1, Or.inl ⟨c_rr g2, Or.inl ⟨c_rr g3, hj⟩⟩⟩⟩))
theorem kB_setChime (h : ¬ mm 0 10 = 0) (hb : ¬ ((inR 0 (mm 4 9 - 1) x1) ∧ (inR 0 1439 x2) ∧ (inR 1 1440 x3))) : Ct G M_X9_setChime [.ref 0, .int x1, .int x2, .int x3] (SH, mm, lm) false (.inr IAE) (SH, mm, lm) false 1 6 := by
  by_cases g1 : inR 0 (mm 4 9 - 1) x1
  · by_cases g2 : inR 0 1439 x2
    · by_cases g3 : inR 1 1440 x3
      · exact absurd (⟨g1, g2, g3⟩) hb
      · exact CJ (bX9_setChime_0 (Or.inl ⟨c_rt h, Or.inl ⟨c_rb g1, Or.inl ⟨c_rr g2, Or.inr ⟨_, c_rrx g3, rfl, rfl, Nat.le_refl _, Nat.le_refl _⟩⟩⟩⟩))
    · exact CJ (bX9_setChime_0 (Or.inl ⟨c_rt h, Or.inl ⟨c_rb g1, Or.inr ⟨_, c_rrx g2, rfl, rfl, Nat.le_refl _, Nat.le_refl _⟩⟩⟩))
  · exact CJ (bX9_setChime_0 (Or.inl ⟨c_rt h, Or.inr ⟨_, c_rbx g1, rfl, rfl, Nat.le_refl _, Nat.le_refl _⟩⟩))
theorem mA_setChime (h : mm 63 3 = 0) : Ct G M_X10_setChime [.ref 63, .int x1, .int x2, .int x3] (SH, mm, lm) false (.inl (some (.int 0))) (SH, mset mm 63 4 1, lm) false 0 0 :=
  CJ (bX10_setChime_0 (⟨_, cm_isBell x1, fun z => ⟨_, _, wA h _, fun z => absurd z (by decide), fun _ => ⟨rfl, rfl⟩⟩, fun z => ⟨_, cm_in (x := x2) (l := 0) (g := 1439) rfl rfl, fun z => ⟨_, _, wA h _, fun z => absurd z (by decide), fun _ => ⟨rfl, rfl⟩⟩, fun z => ⟨_, cm_in (x := x3) (l := 1) (g := 1440) rfl rfl, fun z => ⟨_, _, wA h _, fun z => absurd z (by decide), fun _ => ⟨rfl, rfl⟩⟩, fun z => ⟨_, _, wA h _, fun z => absurd z (by decide), fun _ => ⟨rfl, rfl⟩⟩⟩⟩⟩))
theorem mC_setChime (h : ¬ mm 63 3 = 0) (g1 : inR 0 (mm 63 8 - 1) x1) (g2 : inR 0 1439 x2) (g3 : inR 1 1440 x3) {o : Ou} {z : Wd} (hj : J G M_X10_setChime 46 [(0, .ref 63), (1, .int x1), (2, .int x2), (3, .int x3)] [] (SH, mset mm 63 4 0, lm) false o z false 0 0) : Ct G M_X10_setChime [.ref 63, .int x1, .int x2, .int x3] (SH, mm, lm) false o z false 0 0 :=
  CJ (bX10_setChime_0 (⟨_, cm_isBell x1, fun z => absurd g1 (bI_0.mp z), fun z => ⟨_, cm_in (x := x2) (l := 0) (g := 1439) rfl rfl, fun z => absurd g2 (bI_0.mp z), fun z => ⟨_, cm_in (x := x3) (l := 1) (g := 1440) rfl rfl, fun z => absurd g3 (bI_0.mp z), fun z => ⟨_, _, wC h (by decide), fun _ => hj, fun z => absurd rfl z⟩⟩⟩⟩))
theorem mB_setChime (h : ¬ mm 63 3 = 0) (hb : ¬ ((inR 0 (mm 63 8 - 1) x1) ∧ (inR 0 1439 x2) ∧ (inR 1 1440 x3))) : Ct G M_X10_setChime [.ref 63, .int x1, .int x2, .int x3] (SH, mm, lm) false (.inl (some (.int 0))) (SH, mset mm 63 4 2, lm) false 0 0 := by
  by_cases g1 : inR 0 (mm 63 8 - 1) x1
  · by_cases g2 : inR 0 1439 x2
    · by_cases g3 : inR 1 1440 x3
      · exact absurd (⟨g1, g2, g3⟩) hb
      · exact CJ (bX10_setChime_0 (⟨_, cm_isBell x1, fun z => absurd g1 (bI_0.mp z), fun z => ⟨_, cm_in (x := x2) (l := 0) (g := 1439) rfl rfl, fun z => absurd g2 (bI_0.mp z), fun z => ⟨_, cm_in (x := x3) (l := 1) (g := 1440) rfl rfl, fun z => ⟨_, _, wB h, fun z => absurd z (by decide), fun _ => ⟨rfl, rfl⟩⟩, fun z => absurd (bI_1.mp z) g3⟩⟩⟩))
    · exact CJ (bX10_setChime_0 (⟨_, cm_isBell x1, fun z => absurd g1 (bI_0.mp z), fun z => ⟨_, cm_in (x := x2) (l := 0) (g := 1439) rfl rfl, fun z => ⟨_, _, wB h, fun z => absurd z (by decide), fun _ => ⟨rfl, rfl⟩⟩, fun z => absurd (bI_1.mp z) g2⟩⟩))
  · exact CJ (bX10_setChime_0 (⟨_, cm_isBell x1, fun z => ⟨_, _, wB h, fun z => absurd z (by decide), fun _ => ⟨rfl, rfl⟩⟩, fun z => absurd (bI_1.mp z) g1⟩))
theorem as_setChime (hB : Bas I) (core : ∀ mm lm, I mm → ¬ mm 0 10 = 0 → inR 0 (mm 4 9 - 1) x1 → inR 0 1439 x2 → inR 1 1440 x3 → CoreI G I M_X9_setChime M_X10_setChime 25 46 [(0, .ref 0), (1, .int x1), (2, .int x2), (3, .int x3)] [(0, .ref 63), (1, .int x1), (2, .int x2), (3, .int x3)] mm lm) : OpW G I M_L_setChime M_X10_setChime [.int x1, .int x2, .int x3] cmpI := by
  intro mm lm hI
  obtain ⟨b1, b2, b3, b4⟩ := hB mm hI
  by_cases h : mm 0 10 = 0
  · exact ⟨1, mm, lm, 0, _, w1_setChime (kA_setChime h), mA_setChime (b1.mpr h), mset_eq, fun z => absurd z (by decide), b4 1⟩
  · by_cases hg : (inR 0 (mm 4 9 - 1) x1) ∧ (inR 0 1439 x2) ∧ (inR 1 1440 x3)
    · obtain ⟨g1, g2, g3⟩ := hg
      obtain ⟨v, mm1, q1, q2, q6⟩ := core mm lm hI h g1 g2 g3
      obtain ⟨mm2, q3, q4, q5⟩ := q6 (vp_updL lm 0 v.toInt64)
      exact ⟨0, mm1, _, v, mm2, w_setChime (kC_setChime h g1 g2 g3 q1), mC_setChime (fun z => h (b1.mp (q2.1 ▸ z))) (by rw [q2.2.2, b2]; exact g1) g2 g3 q3, q4, fun _ => rfl, q5⟩
    · exact ⟨2, mm, lm, 0, _, w2_setChime (kB_setChime h hg), mB_setChime (fun z => h (b1.mp z)) (fun z => hg ⟨(by rw [← b2]; exact z.1), z.2.1, z.2.2⟩), mset_eq, fun z => absurd z (by decide), b4 2⟩
theorem kA_clearChime (h : mm 0 10 = 0) : Ct G M_X9_clearChime [.ref 0, .int x1] (SH, mm, lm) false (.inr ISE) (SH, mm, lm) false 1 6 :=
  CJ (bX9_clearChime_0 (Or.inr ⟨_, c_rtx h, rfl, rfl, Nat.le_refl _, Nat.le_refl _⟩))
theorem kC_clearChime (h : ¬ mm 0 10 = 0) (g1 : inR 0 (mm 4 9 - 1) x1) {o : Ou} {z : Wd} (hj : J G M_X9_clearChime 9 [(0, .ref 0), (1, .int x1)] [] (SH, mm, lm) false o z false 1 6) : Ct G M_X9_clearChime [.ref 0, .int x1] (SH, mm, lm) false o z false 1 6 :=
  CJ (bX9_clearChime_0 (Or.inl ⟨c_rt h, Or.inl ⟨c_rb g1, hj⟩⟩))
theorem kB_clearChime (h : ¬ mm 0 10 = 0) (hb : ¬ ((inR 0 (mm 4 9 - 1) x1))) : Ct G M_X9_clearChime [.ref 0, .int x1] (SH, mm, lm) false (.inr IAE) (SH, mm, lm) false 1 6 := by
  by_cases g1 : inR 0 (mm 4 9 - 1) x1
  · exact absurd (g1) hb
  · exact CJ (bX9_clearChime_0 (Or.inl ⟨c_rt h, Or.inr ⟨_, c_rbx g1, rfl, rfl, Nat.le_refl _, Nat.le_refl _⟩⟩))
theorem mA_clearChime (h : mm 63 3 = 0) : Ct G M_X10_clearChime [.ref 63, .int x1] (SH, mm, lm) false (.inl (some (.int 0))) (SH, mset mm 63 4 1, lm) false 0 0 :=
  CJ (bX10_clearChime_0 (⟨_, cm_isBell x1, ⟨_, _, wA h _, fun z => absurd z (by decide), fun _ => ⟨rfl, rfl⟩⟩⟩))
theorem mC_clearChime (h : ¬ mm 63 3 = 0) (g1 : inR 0 (mm 63 8 - 1) x1) {o : Ou} {z : Wd} (hj : J G M_X10_clearChime 14 [(0, .ref 63), (1, .int x1)] [] (SH, mset mm 63 4 0, lm) false o z false 0 0) : Ct G M_X10_clearChime [.ref 63, .int x1] (SH, mm, lm) false o z false 0 0 :=
  CJ (bX10_clearChime_0 (⟨_, cm_isBell x1, ⟨_, _, wC h (bI_1.mpr g1), fun _ => hj, fun z => absurd rfl z⟩⟩))
theorem mB_clearChime (h : ¬ mm 63 3 = 0) (hb : ¬ ((inR 0 (mm 63 8 - 1) x1))) : Ct G M_X10_clearChime [.ref 63, .int x1] (SH, mm, lm) false (.inl (some (.int 0))) (SH, mset mm 63 4 2, lm) false 0 0 := by
  by_cases g1 : inR 0 (mm 63 8 - 1) x1
  · exact absurd (g1) hb
  · exact CJ (bX10_clearChime_0 (⟨0, (bI_f g1) ▸ cm_isBell x1, ⟨_, _, wB h, fun z => absurd z (by decide), fun _ => ⟨rfl, rfl⟩⟩⟩))
theorem as_clearChime (hB : Bas I) (core : ∀ mm lm, I mm → ¬ mm 0 10 = 0 → inR 0 (mm 4 9 - 1) x1 → CoreI G I M_X9_clearChime M_X10_clearChime 9 14 [(0, .ref 0), (1, .int x1)] [(0, .ref 63), (1, .int x1)] mm lm) : OpW G I M_L_clearChime M_X10_clearChime [.int x1] cmpI := by
  intro mm lm hI
  obtain ⟨b1, b2, b3, b4⟩ := hB mm hI
  by_cases h : mm 0 10 = 0
  · exact ⟨1, mm, lm, 0, _, w1_clearChime (kA_clearChime h), mA_clearChime (b1.mpr h), mset_eq, fun z => absurd z (by decide), b4 1⟩
  · by_cases hg : (inR 0 (mm 4 9 - 1) x1)
    · have g1 := hg
      obtain ⟨v, mm1, q1, q2, q6⟩ := core mm lm hI h g1
      obtain ⟨mm2, q3, q4, q5⟩ := q6 (vp_updL lm 0 v.toInt64)
      exact ⟨0, mm1, _, v, mm2, w_clearChime (kC_clearChime h g1 q1), mC_clearChime (fun z => h (b1.mp (q2.1 ▸ z))) (by rw [q2.2.2, b2]; exact g1) q3, q4, fun _ => rfl, q5⟩
    · exact ⟨2, mm, lm, 0, _, w2_clearChime (kB_clearChime h hg), mB_clearChime (fun z => h (b1.mp z)) (fun z => hg (by rw [← b2]; exact z)), mset_eq, fun z => absurd z (by decide), b4 2⟩
theorem kA_isQuiet (h : mm 0 10 = 0) : Ct G M_X9_isQuiet [.ref 0, .int x1] (SH, mm, lm) false (.inr ISE) (SH, mm, lm) false 1 6 :=
  CJ (bX9_isQuiet_0 (Or.inr ⟨_, c_rtx h, rfl, rfl, Nat.le_refl _, Nat.le_refl _⟩))
theorem kC_isQuiet (h : ¬ mm 0 10 = 0) (g1 : inR 0 1439 x1) {o : Ou} {z : Wd} (hj : J G M_X9_isQuiet 12 [(0, .ref 0), (1, .int x1)] [] (SH, mm, lm) false o z false 1 6) : Ct G M_X9_isQuiet [.ref 0, .int x1] (SH, mm, lm) false o z false 1 6 :=
  CJ (bX9_isQuiet_0 (Or.inl ⟨c_rt h, Or.inl ⟨c_rr g1, hj⟩⟩))
theorem kB_isQuiet (h : ¬ mm 0 10 = 0) (hb : ¬ ((inR 0 1439 x1))) : Ct G M_X9_isQuiet [.ref 0, .int x1] (SH, mm, lm) false (.inr IAE) (SH, mm, lm) false 1 6 := by
  by_cases g1 : inR 0 1439 x1
  · exact absurd (g1) hb
  · exact CJ (bX9_isQuiet_0 (Or.inl ⟨c_rt h, Or.inr ⟨_, c_rrx g1, rfl, rfl, Nat.le_refl _, Nat.le_refl _⟩⟩))
theorem mA_isQuiet (h : mm 63 3 = 0) : Ct G M_X10_isQuiet [.ref 63, .int x1] (SH, mm, lm) false (.inl (some (.int 0))) (SH, mset mm 63 4 1, lm) false 0 0 :=
  CJ (bX10_isQuiet_0 (⟨_, cm_in (x := x1) (l := 0) (g := 1439) rfl rfl, ⟨_, _, wA h _, fun _ => ⟨rfl, rfl⟩, fun z => absurd z (by decide)⟩⟩))
theorem mC_isQuiet (h : ¬ mm 63 3 = 0) (g1 : inR 0 1439 x1) {o : Ou} {z : Wd} (hj : J G M_X10_isQuiet 16 [(0, .ref 63), (1, .int x1)] [] (SH, mset mm 63 4 0, lm) false o z false 0 0) : Ct G M_X10_isQuiet [.ref 63, .int x1] (SH, mm, lm) false o z false 0 0 :=
  CJ (bX10_isQuiet_0 (⟨_, cm_in (x := x1) (l := 0) (g := 1439) rfl rfl, ⟨_, _, wC h (bI_1.mpr g1), fun z => absurd rfl z, fun _ => hj⟩⟩))
theorem mB_isQuiet (h : ¬ mm 63 3 = 0) (hb : ¬ ((inR 0 1439 x1))) : Ct G M_X10_isQuiet [.ref 63, .int x1] (SH, mm, lm) false (.inl (some (.int 0))) (SH, mset mm 63 4 2, lm) false 0 0 := by
  by_cases g1 : inR 0 1439 x1
  · exact absurd (g1) hb
  · exact CJ (bX10_isQuiet_0 (⟨0, (bI_f g1) ▸ cm_in (x := x1) (l := 0) (g := 1439) rfl rfl, ⟨_, _, wB h, fun _ => ⟨rfl, rfl⟩, fun z => absurd z (by decide)⟩⟩))
theorem kA_quietMinutes (h : mm 0 10 = 0) : Ct G M_X9_quietMinutes [.ref 0] (SH, mm, lm) false (.inr ISE) (SH, mm, lm) false 1 6 :=
  CJ (bX9_quietMinutes_0 (Or.inr ⟨_, c_rtx h, rfl, rfl, Nat.le_refl _, Nat.le_refl _⟩))
theorem kC_quietMinutes (h : ¬ mm 0 10 = 0)  {o : Ou} {z : Wd} (hj : J G M_X9_quietMinutes 4 [(0, .ref 0)] [] (SH, mm, lm) false o z false 1 6) : Ct G M_X9_quietMinutes [.ref 0] (SH, mm, lm) false o z false 1 6 :=
  CJ (bX9_quietMinutes_0 (Or.inl ⟨c_rt h, hj⟩))
theorem mA_quietMinutes (h : mm 63 3 = 0) : Ct G M_X10_quietMinutes [.ref 63] (SH, mm, lm) false (.inl (some (.int 0))) (SH, mset mm 63 4 1, lm) false 0 0 :=
  CJ (bX10_quietMinutes_0 (⟨_, _, wA h _, fun z => absurd z (by decide), fun _ => ⟨rfl, rfl⟩⟩))
theorem mC_quietMinutes (h : ¬ mm 63 3 = 0)  {o : Ou} {z : Wd} (hj : J G M_X10_quietMinutes 10 [(0, .ref 63)] [] (SH, mset mm 63 4 0, lm) false o z false 0 0) : Ct G M_X10_quietMinutes [.ref 63] (SH, mm, lm) false o z false 0 0 :=
  CJ (bX10_quietMinutes_0 (⟨_, _, wC h (by decide), fun _ => hj, fun z => absurd rfl z⟩))
theorem as_quietMinutes (hB : Bas I) (core : ∀ mm lm, I mm → ¬ mm 0 10 = 0 → CoreI G I M_X9_quietMinutes M_X10_quietMinutes 4 10 [(0, .ref 0)] [(0, .ref 63)] mm lm) : OpW G I M_L_quietMinutes M_X10_quietMinutes [] cmpI := by
  intro mm lm hI
  obtain ⟨b1, b2, b3, b4⟩ := hB mm hI
  by_cases h : mm 0 10 = 0
  · exact ⟨1, mm, lm, 0, _, w1_quietMinutes (kA_quietMinutes h), mA_quietMinutes (b1.mpr h), mset_eq, fun z => absurd z (by decide), b4 1⟩
  · obtain ⟨v, mm1, q1, q2, q6⟩ := core mm lm hI h 
    obtain ⟨mm2, q3, q4, q5⟩ := q6 (vp_updL lm 0 v.toInt64)
    exact ⟨0, mm1, _, v, mm2, w_quietMinutes (kC_quietMinutes h  q1), mC_quietMinutes (fun z => h (b1.mp (q2.1 ▸ z)))  q3, q4, fun _ => rfl, q5⟩
theorem kA_longestLoud (h : mm 0 10 = 0) : Ct G M_X9_longestLoud [.ref 0] (SH, mm, lm) false (.inr ISE) (SH, mm, lm) false 1 6 :=
  CJ (bX9_longestLoud_0 (Or.inr ⟨_, c_rtx h, rfl, rfl, Nat.le_refl _, Nat.le_refl _⟩))
theorem kC_longestLoud (h : ¬ mm 0 10 = 0)  {o : Ou} {z : Wd} (hj : J G M_X9_longestLoud 4 [(0, .ref 0)] [] (SH, mm, lm) false o z false 1 6) : Ct G M_X9_longestLoud [.ref 0] (SH, mm, lm) false o z false 1 6 :=
  CJ (bX9_longestLoud_0 (Or.inl ⟨c_rt h, hj⟩))
theorem mA_longestLoud (h : mm 63 3 = 0) : Ct G M_X10_longestLoud [.ref 63] (SH, mm, lm) false (.inl (some (.int 0))) (SH, mset mm 63 4 1, lm) false 0 0 :=
  CJ (bX10_longestLoud_0 (⟨_, _, wA h _, fun z => absurd z (by decide), fun _ => ⟨rfl, rfl⟩⟩))
theorem mC_longestLoud (h : ¬ mm 63 3 = 0)  {o : Ou} {z : Wd} (hj : J G M_X10_longestLoud 10 [(0, .ref 63)] [] (SH, mset mm 63 4 0, lm) false o z false 0 0) : Ct G M_X10_longestLoud [.ref 63] (SH, mm, lm) false o z false 0 0 :=
  CJ (bX10_longestLoud_0 (⟨_, _, wC h (by decide), fun _ => hj, fun z => absurd rfl z⟩))
theorem as_longestLoud (hB : Bas I) (core : ∀ mm lm, I mm → ¬ mm 0 10 = 0 → CoreI G I M_X9_longestLoud M_X10_longestLoud 4 10 [(0, .ref 0)] [(0, .ref 63)] mm lm) : OpW G I M_L_longestLoud M_X10_longestLoud [] cmpI := by
  intro mm lm hI
  obtain ⟨b1, b2, b3, b4⟩ := hB mm hI
  by_cases h : mm 0 10 = 0
  · exact ⟨1, mm, lm, 0, _, w1_longestLoud (kA_longestLoud h), mA_longestLoud (b1.mpr h), mset_eq, fun z => absurd z (by decide), b4 1⟩
  · obtain ⟨v, mm1, q1, q2, q6⟩ := core mm lm hI h 
    obtain ⟨mm2, q3, q4, q5⟩ := q6 (vp_updL lm 0 v.toInt64)
    exact ⟨0, mm1, _, v, mm2, w_longestLoud (kC_longestLoud h  q1), mC_longestLoud (fun z => h (b1.mp (q2.1 ▸ z)))  q3, q4, fun _ => rfl, q5⟩
theorem kA_soundsAt (h : mm 0 10 = 0) : Ct G M_X9_soundsAt [.ref 0, .int x1] (SH, mm, lm) false (.inr ISE) (SH, mm, lm) false 1 6 :=
  CJ (bX9_soundsAt_0 (Or.inr ⟨_, c_rtx h, rfl, rfl, Nat.le_refl _, Nat.le_refl _⟩))
theorem kC_soundsAt (h : ¬ mm 0 10 = 0) (g1 : inR 0 1439 x1) {o : Ou} {z : Wd} (hj : J G M_X9_soundsAt 12 [(0, .ref 0), (1, .int x1)] [] (SH, mm, lm) false o z false 1 6) : Ct G M_X9_soundsAt [.ref 0, .int x1] (SH, mm, lm) false o z false 1 6 :=
  CJ (bX9_soundsAt_0 (Or.inl ⟨c_rt h, Or.inl ⟨c_rr g1, hj⟩⟩))
theorem kB_soundsAt (h : ¬ mm 0 10 = 0) (hb : ¬ ((inR 0 1439 x1))) : Ct G M_X9_soundsAt [.ref 0, .int x1] (SH, mm, lm) false (.inr IAE) (SH, mm, lm) false 1 6 := by
  by_cases g1 : inR 0 1439 x1
  · exact absurd (g1) hb
  · exact CJ (bX9_soundsAt_0 (Or.inl ⟨c_rt h, Or.inr ⟨_, c_rrx g1, rfl, rfl, Nat.le_refl _, Nat.le_refl _⟩⟩))
theorem mA_soundsAt (h : mm 63 3 = 0) : Ct G M_X10_soundsAt [.ref 63, .int x1] (SH, mm, lm) false (.inl (some (.int 0))) (SH, mset mm 63 4 1, lm) false 0 0 :=
  CJ (bX10_soundsAt_0 (⟨_, cm_in (x := x1) (l := 0) (g := 1439) rfl rfl, ⟨_, _, wA h _, fun z => absurd z (by decide), fun _ => ⟨rfl, rfl⟩⟩⟩))
theorem mC_soundsAt (h : ¬ mm 63 3 = 0) (g1 : inR 0 1439 x1) {o : Ou} {z : Wd} (hj : J G M_X10_soundsAt 20 [(0, .ref 63), (1, .int x1)] [] (SH, mset mm 63 4 0, lm) false o z false 0 0) : Ct G M_X10_soundsAt [.ref 63, .int x1] (SH, mm, lm) false o z false 0 0 :=
  CJ (bX10_soundsAt_0 (⟨_, cm_in (x := x1) (l := 0) (g := 1439) rfl rfl, ⟨_, _, wC h (bI_1.mpr g1), fun _ => hj, fun z => absurd rfl z⟩⟩))
theorem mB_soundsAt (h : ¬ mm 63 3 = 0) (hb : ¬ ((inR 0 1439 x1))) : Ct G M_X10_soundsAt [.ref 63, .int x1] (SH, mm, lm) false (.inl (some (.int 0))) (SH, mset mm 63 4 2, lm) false 0 0 := by
  by_cases g1 : inR 0 1439 x1
  · exact absurd (g1) hb
  · exact CJ (bX10_soundsAt_0 (⟨0, (bI_f g1) ▸ cm_in (x := x1) (l := 0) (g := 1439) rfl rfl, ⟨_, _, wB h, fun z => absurd z (by decide), fun _ => ⟨rfl, rfl⟩⟩⟩))
theorem as_soundsAt (hB : Bas I) (core : ∀ mm lm, I mm → ¬ mm 0 10 = 0 → inR 0 1439 x1 → CoreI G I M_X9_soundsAt M_X10_soundsAt 12 20 [(0, .ref 0), (1, .int x1)] [(0, .ref 63), (1, .int x1)] mm lm) : OpW G I M_L_soundsAt M_X10_soundsAt [.int x1] cmpI := by
  intro mm lm hI
  obtain ⟨b1, b2, b3, b4⟩ := hB mm hI
  by_cases h : mm 0 10 = 0
  · exact ⟨1, mm, lm, 0, _, w1_soundsAt (kA_soundsAt h), mA_soundsAt (b1.mpr h), mset_eq, fun z => absurd z (by decide), b4 1⟩
  · by_cases hg : (inR 0 1439 x1)
    · have g1 := hg
      obtain ⟨v, mm1, q1, q2, q6⟩ := core mm lm hI h g1
      obtain ⟨mm2, q3, q4, q5⟩ := q6 (vp_updL lm 0 v.toInt64)
      exact ⟨0, mm1, _, v, mm2, w_soundsAt (kC_soundsAt h g1 q1), mC_soundsAt (fun z => h (b1.mp (q2.1 ▸ z))) g1 q3, q4, fun _ => rfl, q5⟩
    · exact ⟨2, mm, lm, 0, _, w2_soundsAt (kB_soundsAt h hg), mB_soundsAt (fun z => h (b1.mp z)) (hg), mset_eq, fun z => absurd z (by decide), b4 2⟩
theorem kA_soundsPerDay (h : mm 0 10 = 0) : Ct G M_X9_soundsPerDay [.ref 0, .int x1] (SH, mm, lm) false (.inr ISE) (SH, mm, lm) false 1 6 :=
  CJ (bX9_soundsPerDay_0 (Or.inr ⟨_, c_rtx h, rfl, rfl, Nat.le_refl _, Nat.le_refl _⟩))
theorem kC_soundsPerDay (h : ¬ mm 0 10 = 0) (g1 : inR 0 (mm 4 9 - 1) x1) {o : Ou} {z : Wd} (hj : J G M_X9_soundsPerDay 9 [(0, .ref 0), (1, .int x1)] [] (SH, mm, lm) false o z false 1 6) : Ct G M_X9_soundsPerDay [.ref 0, .int x1] (SH, mm, lm) false o z false 1 6 :=
  CJ (bX9_soundsPerDay_0 (Or.inl ⟨c_rt h, Or.inl ⟨c_rb g1, hj⟩⟩))
theorem kB_soundsPerDay (h : ¬ mm 0 10 = 0) (hb : ¬ ((inR 0 (mm 4 9 - 1) x1))) : Ct G M_X9_soundsPerDay [.ref 0, .int x1] (SH, mm, lm) false (.inr IAE) (SH, mm, lm) false 1 6 := by
  by_cases g1 : inR 0 (mm 4 9 - 1) x1
  · exact absurd (g1) hb
  · exact CJ (bX9_soundsPerDay_0 (Or.inl ⟨c_rt h, Or.inr ⟨_, c_rbx g1, rfl, rfl, Nat.le_refl _, Nat.le_refl _⟩⟩))
theorem mA_soundsPerDay (h : mm 63 3 = 0) : Ct G M_X10_soundsPerDay [.ref 63, .int x1] (SH, mm, lm) false (.inl (some (.int 0))) (SH, mset mm 63 4 1, lm) false 0 0 :=
  CJ (bX10_soundsPerDay_0 (⟨_, cm_isBell x1, ⟨_, _, wA h _, fun z => absurd z (by decide), fun _ => ⟨rfl, rfl⟩⟩⟩))
theorem mC_soundsPerDay (h : ¬ mm 63 3 = 0) (g1 : inR 0 (mm 63 8 - 1) x1) {o : Ou} {z : Wd} (hj : J G M_X10_soundsPerDay 14 [(0, .ref 63), (1, .int x1)] [] (SH, mset mm 63 4 0, lm) false o z false 0 0) : Ct G M_X10_soundsPerDay [.ref 63, .int x1] (SH, mm, lm) false o z false 0 0 :=
  CJ (bX10_soundsPerDay_0 (⟨_, cm_isBell x1, ⟨_, _, wC h (bI_1.mpr g1), fun _ => hj, fun z => absurd rfl z⟩⟩))
theorem mB_soundsPerDay (h : ¬ mm 63 3 = 0) (hb : ¬ ((inR 0 (mm 63 8 - 1) x1))) : Ct G M_X10_soundsPerDay [.ref 63, .int x1] (SH, mm, lm) false (.inl (some (.int 0))) (SH, mset mm 63 4 2, lm) false 0 0 := by
  by_cases g1 : inR 0 (mm 63 8 - 1) x1
  · exact absurd (g1) hb
  · exact CJ (bX10_soundsPerDay_0 (⟨0, (bI_f g1) ▸ cm_isBell x1, ⟨_, _, wB h, fun z => absurd z (by decide), fun _ => ⟨rfl, rfl⟩⟩⟩))
theorem as_soundsPerDay (hB : Bas I) (core : ∀ mm lm, I mm → ¬ mm 0 10 = 0 → inR 0 (mm 4 9 - 1) x1 → CoreI G I M_X9_soundsPerDay M_X10_soundsPerDay 9 14 [(0, .ref 0), (1, .int x1)] [(0, .ref 63), (1, .int x1)] mm lm) : OpW G I M_L_soundsPerDay M_X10_soundsPerDay [.int x1] cmpI := by
  intro mm lm hI
  obtain ⟨b1, b2, b3, b4⟩ := hB mm hI
  by_cases h : mm 0 10 = 0
  · exact ⟨1, mm, lm, 0, _, w1_soundsPerDay (kA_soundsPerDay h), mA_soundsPerDay (b1.mpr h), mset_eq, fun z => absurd z (by decide), b4 1⟩
  · by_cases hg : (inR 0 (mm 4 9 - 1) x1)
    · have g1 := hg
      obtain ⟨v, mm1, q1, q2, q6⟩ := core mm lm hI h g1
      obtain ⟨mm2, q3, q4, q5⟩ := q6 (vp_updL lm 0 v.toInt64)
      exact ⟨0, mm1, _, v, mm2, w_soundsPerDay (kC_soundsPerDay h g1 q1), mC_soundsPerDay (fun z => h (b1.mp (q2.1 ▸ z))) (by rw [q2.2.2, b2]; exact g1) q3, q4, fun _ => rfl, q5⟩
    · exact ⟨2, mm, lm, 0, _, w2_soundsPerDay (kB_soundsPerDay h hg), mB_soundsPerDay (fun z => h (b1.mp z)) (fun z => hg (by rw [← b2]; exact z)), mset_eq, fun z => absurd z (by decide), b4 2⟩
theorem kA_nextSound (h : mm 0 10 = 0) : Ct G M_X9_nextSound [.ref 0, .int x1] (SH, mm, lm) false (.inr ISE) (SH, mm, lm) false 1 6 :=
  CJ (bX9_nextSound_0 (Or.inr ⟨_, c_rtx h, rfl, rfl, Nat.le_refl _, Nat.le_refl _⟩))
theorem kC_nextSound (h : ¬ mm 0 10 = 0) (g1 : inR 0 1439 x1) {o : Ou} {z : Wd} (hj : J G M_X9_nextSound 12 [(0, .ref 0), (1, .int x1)] [] (SH, mm, lm) false o z false 1 6) : Ct G M_X9_nextSound [.ref 0, .int x1] (SH, mm, lm) false o z false 1 6 :=
  CJ (bX9_nextSound_0 (Or.inl ⟨c_rt h, Or.inl ⟨c_rr g1, hj⟩⟩))
theorem kB_nextSound (h : ¬ mm 0 10 = 0) (hb : ¬ ((inR 0 1439 x1))) : Ct G M_X9_nextSound [.ref 0, .int x1] (SH, mm, lm) false (.inr IAE) (SH, mm, lm) false 1 6 := by
  by_cases g1 : inR 0 1439 x1
  · exact absurd (g1) hb
  · exact CJ (bX9_nextSound_0 (Or.inl ⟨c_rt h, Or.inr ⟨_, c_rrx g1, rfl, rfl, Nat.le_refl _, Nat.le_refl _⟩⟩))
theorem mA_nextSound (h : mm 63 3 = 0) : Ct G M_X10_nextSound [.ref 63, .int x1] (SH, mm, lm) false (.inl (some (.int 0))) (SH, mset mm 63 4 1, lm) false 0 0 :=
  CJ (bX10_nextSound_0 (⟨_, cm_in (x := x1) (l := 0) (g := 1439) rfl rfl, ⟨_, _, wA h _, fun z => absurd z (by decide), fun _ => ⟨rfl, rfl⟩⟩⟩))
theorem mC_nextSound (h : ¬ mm 63 3 = 0) (g1 : inR 0 1439 x1) {o : Ou} {z : Wd} (hj : J G M_X10_nextSound 18 [(0, .ref 63), (1, .int x1)] [] (SH, mset mm 63 4 0, lm) false o z false 0 0) : Ct G M_X10_nextSound [.ref 63, .int x1] (SH, mm, lm) false o z false 0 0 :=
  CJ (bX10_nextSound_0 (⟨_, cm_in (x := x1) (l := 0) (g := 1439) rfl rfl, ⟨_, _, wC h (bI_1.mpr g1), fun _ => hj, fun z => absurd rfl z⟩⟩))
theorem mB_nextSound (h : ¬ mm 63 3 = 0) (hb : ¬ ((inR 0 1439 x1))) : Ct G M_X10_nextSound [.ref 63, .int x1] (SH, mm, lm) false (.inl (some (.int 0))) (SH, mset mm 63 4 2, lm) false 0 0 := by
  by_cases g1 : inR 0 1439 x1
  · exact absurd (g1) hb
  · exact CJ (bX10_nextSound_0 (⟨0, (bI_f g1) ▸ cm_in (x := x1) (l := 0) (g := 1439) rfl rfl, ⟨_, _, wB h, fun z => absurd z (by decide), fun _ => ⟨rfl, rfl⟩⟩⟩))
theorem as_nextSound (hB : Bas I) (core : ∀ mm lm, I mm → ¬ mm 0 10 = 0 → inR 0 1439 x1 → CoreI G I M_X9_nextSound M_X10_nextSound 12 18 [(0, .ref 0), (1, .int x1)] [(0, .ref 63), (1, .int x1)] mm lm) : OpW G I M_L_nextSound M_X10_nextSound [.int x1] cmpI := by
  intro mm lm hI
  obtain ⟨b1, b2, b3, b4⟩ := hB mm hI
  by_cases h : mm 0 10 = 0
  · exact ⟨1, mm, lm, 0, _, w1_nextSound (kA_nextSound h), mA_nextSound (b1.mpr h), mset_eq, fun z => absurd z (by decide), b4 1⟩
  · by_cases hg : (inR 0 1439 x1)
    · have g1 := hg
      obtain ⟨v, mm1, q1, q2, q6⟩ := core mm lm hI h g1
      obtain ⟨mm2, q3, q4, q5⟩ := q6 (vp_updL lm 0 v.toInt64)
      exact ⟨0, mm1, _, v, mm2, w_nextSound (kC_nextSound h g1 q1), mC_nextSound (fun z => h (b1.mp (q2.1 ▸ z))) g1 q3, q4, fun _ => rfl, q5⟩
    · exact ⟨2, mm, lm, 0, _, w2_nextSound (kB_nextSound h hg), mB_nextSound (fun z => h (b1.mp z)) (hg), mset_eq, fun z => absurd z (by decide), b4 2⟩
theorem kA_busiestMinute (h : mm 0 10 = 0) : Ct G M_X9_busiestMinute [.ref 0] (SH, mm, lm) false (.inr ISE) (SH, mm, lm) false 1 6 :=
  CJ (bX9_busiestMinute_0 (Or.inr ⟨_, c_rtx h, rfl, rfl, Nat.le_refl _, Nat.le_refl _⟩))
theorem kC_busiestMinute (h : ¬ mm 0 10 = 0)  {o : Ou} {z : Wd} (hj : J G M_X9_busiestMinute 4 [(0, .ref 0)] [] (SH, mm, lm) false o z false 1 6) : Ct G M_X9_busiestMinute [.ref 0] (SH, mm, lm) false o z false 1 6 :=
  CJ (bX9_busiestMinute_0 (Or.inl ⟨c_rt h, hj⟩))
theorem mA_busiestMinute (h : mm 63 3 = 0) : Ct G M_X10_busiestMinute [.ref 63] (SH, mm, lm) false (.inl (some (.int 0))) (SH, mset mm 63 4 1, lm) false 0 0 :=
  CJ (bX10_busiestMinute_0 (⟨_, _, wA h _, fun z => absurd z (by decide), fun _ => ⟨rfl, rfl⟩⟩))
theorem mC_busiestMinute (h : ¬ mm 63 3 = 0)  {o : Ou} {z : Wd} (hj : J G M_X10_busiestMinute 10 [(0, .ref 63)] [] (SH, mset mm 63 4 0, lm) false o z false 0 0) : Ct G M_X10_busiestMinute [.ref 63] (SH, mm, lm) false o z false 0 0 :=
  CJ (bX10_busiestMinute_0 (⟨_, _, wC h (by decide), fun _ => hj, fun z => absurd rfl z⟩))
theorem as_busiestMinute (hB : Bas I) (core : ∀ mm lm, I mm → ¬ mm 0 10 = 0 → CoreI G I M_X9_busiestMinute M_X10_busiestMinute 4 10 [(0, .ref 0)] [(0, .ref 63)] mm lm) : OpW G I M_L_busiestMinute M_X10_busiestMinute [] cmpI := by
  intro mm lm hI
  obtain ⟨b1, b2, b3, b4⟩ := hB mm hI
  by_cases h : mm 0 10 = 0
  · exact ⟨1, mm, lm, 0, _, w1_busiestMinute (kA_busiestMinute h), mA_busiestMinute (b1.mpr h), mset_eq, fun z => absurd z (by decide), b4 1⟩
  · obtain ⟨v, mm1, q1, q2, q6⟩ := core mm lm hI h 
    obtain ⟨mm2, q3, q4, q5⟩ := q6 (vp_updL lm 0 v.toInt64)
    exact ⟨0, mm1, _, v, mm2, w_busiestMinute (kC_busiestMinute h  q1), mC_busiestMinute (fun z => h (b1.mp (q2.1 ▸ z)))  q3, q4, fun _ => rfl, q5⟩
theorem kA_soundTogether (h : mm 0 10 = 0) : Ct G M_X9_soundTogether [.ref 0, .int x1, .int x2] (SH, mm, lm) false (.inr ISE) (SH, mm, lm) false 1 6 :=
  CJ (bX9_soundTogether_0 (Or.inr ⟨_, c_rtx h, rfl, rfl, Nat.le_refl _, Nat.le_refl _⟩))
theorem kC_soundTogether (h : ¬ mm 0 10 = 0) (g1 : inR 0 (mm 4 9 - 1) x1) (g2 : inR 0 (mm 4 9 - 1) x2) {o : Ou} {z : Wd} (hj : J G M_X9_soundTogether 14 [(0, .ref 0), (1, .int x1), (2, .int x2)] [] (SH, mm, lm) false o z false 1 6) : Ct G M_X9_soundTogether [.ref 0, .int x1, .int x2] (SH, mm, lm) false o z false 1 6 :=
  CJ (bX9_soundTogether_0 (Or.inl ⟨c_rt h, Or.inl ⟨c_rb g1, Or.inl ⟨c_rb g2, hj⟩⟩⟩))
theorem kB_soundTogether (h : ¬ mm 0 10 = 0) (hb : ¬ ((inR 0 (mm 4 9 - 1) x1) ∧ (inR 0 (mm 4 9 - 1) x2))) : Ct G M_X9_soundTogether [.ref 0, .int x1, .int x2] (SH, mm, lm) false (.inr IAE) (SH, mm, lm) false 1 6 := by
  by_cases g1 : inR 0 (mm 4 9 - 1) x1
  · by_cases g2 : inR 0 (mm 4 9 - 1) x2
    · exact absurd (⟨g1, g2⟩) hb
    · exact CJ (bX9_soundTogether_0 (Or.inl ⟨c_rt h, Or.inl ⟨c_rb g1, Or.inr ⟨_, c_rbx g2, rfl, rfl, Nat.le_refl _, Nat.le_refl _⟩⟩⟩))
  · exact CJ (bX9_soundTogether_0 (Or.inl ⟨c_rt h, Or.inr ⟨_, c_rbx g1, rfl, rfl, Nat.le_refl _, Nat.le_refl _⟩⟩))
theorem mA_soundTogether (h : mm 63 3 = 0) : Ct G M_X10_soundTogether [.ref 63, .int x1, .int x2] (SH, mm, lm) false (.inl (some (.int 0))) (SH, mset mm 63 4 1, lm) false 0 0 :=
  CJ (bX10_soundTogether_0 (⟨_, cm_isBell x1, fun z => ⟨_, _, wA h _, fun z => absurd z (by decide), fun _ => ⟨rfl, rfl⟩⟩, fun z => ⟨_, cm_isBell x2, fun z => ⟨_, _, wA h _, fun z => absurd z (by decide), fun _ => ⟨rfl, rfl⟩⟩, fun z => ⟨_, _, wA h _, fun z => absurd z (by decide), fun _ => ⟨rfl, rfl⟩⟩⟩⟩))
theorem mC_soundTogether (h : ¬ mm 63 3 = 0) (g1 : inR 0 (mm 63 8 - 1) x1) (g2 : inR 0 (mm 63 8 - 1) x2) {o : Ou} {z : Wd} (hj : J G M_X10_soundTogether 30 [(0, .ref 63), (1, .int x1), (2, .int x2)] [] (SH, mset mm 63 4 0, lm) false o z false 0 0) : Ct G M_X10_soundTogether [.ref 63, .int x1, .int x2] (SH, mm, lm) false o z false 0 0 :=
  CJ (bX10_soundTogether_0 (⟨_, cm_isBell x1, fun z => absurd g1 (bI_0.mp z), fun z => ⟨_, cm_isBell x2, fun z => absurd g2 (bI_0.mp z), fun z => ⟨_, _, wC h (by decide), fun _ => hj, fun z => absurd rfl z⟩⟩⟩))
theorem mB_soundTogether (h : ¬ mm 63 3 = 0) (hb : ¬ ((inR 0 (mm 63 8 - 1) x1) ∧ (inR 0 (mm 63 8 - 1) x2))) : Ct G M_X10_soundTogether [.ref 63, .int x1, .int x2] (SH, mm, lm) false (.inl (some (.int 0))) (SH, mset mm 63 4 2, lm) false 0 0 := by
  by_cases g1 : inR 0 (mm 63 8 - 1) x1
  · by_cases g2 : inR 0 (mm 63 8 - 1) x2
    · exact absurd (⟨g1, g2⟩) hb
    · exact CJ (bX10_soundTogether_0 (⟨_, cm_isBell x1, fun z => absurd g1 (bI_0.mp z), fun z => ⟨_, cm_isBell x2, fun z => ⟨_, _, wB h, fun z => absurd z (by decide), fun _ => ⟨rfl, rfl⟩⟩, fun z => absurd (bI_1.mp z) g2⟩⟩))
  · exact CJ (bX10_soundTogether_0 (⟨_, cm_isBell x1, fun z => ⟨_, _, wB h, fun z => absurd z (by decide), fun _ => ⟨rfl, rfl⟩⟩, fun z => absurd (bI_1.mp z) g1⟩))
theorem as_soundTogether (hB : Bas I) (core : ∀ mm lm, I mm → ¬ mm 0 10 = 0 → inR 0 (mm 4 9 - 1) x1 → inR 0 (mm 4 9 - 1) x2 → CoreI G I M_X9_soundTogether M_X10_soundTogether 14 30 [(0, .ref 0), (1, .int x1), (2, .int x2)] [(0, .ref 63), (1, .int x1), (2, .int x2)] mm lm) : OpW G I M_L_soundTogether M_X10_soundTogether [.int x1, .int x2] cmpI := by
  intro mm lm hI
  obtain ⟨b1, b2, b3, b4⟩ := hB mm hI
  by_cases h : mm 0 10 = 0
  · exact ⟨1, mm, lm, 0, _, w1_soundTogether (kA_soundTogether h), mA_soundTogether (b1.mpr h), mset_eq, fun z => absurd z (by decide), b4 1⟩
  · by_cases hg : (inR 0 (mm 4 9 - 1) x1) ∧ (inR 0 (mm 4 9 - 1) x2)
    · obtain ⟨g1, g2⟩ := hg
      obtain ⟨v, mm1, q1, q2, q6⟩ := core mm lm hI h g1 g2
      obtain ⟨mm2, q3, q4, q5⟩ := q6 (vp_updL lm 0 v.toInt64)
      exact ⟨0, mm1, _, v, mm2, w_soundTogether (kC_soundTogether h g1 g2 q1), mC_soundTogether (fun z => h (b1.mp (q2.1 ▸ z))) (by rw [q2.2.2, b2]; exact g1) (by rw [q2.2.2, b2]; exact g2) q3, q4, fun _ => rfl, q5⟩
    · exact ⟨2, mm, lm, 0, _, w2_soundTogether (kB_soundTogether h hg), mB_soundTogether (fun z => h (b1.mp z)) (fun z => hg ⟨(by rw [← b2]; exact z.1), (by rw [← b2]; exact z.2)⟩), mset_eq, fun z => absurd z (by decide), b4 2⟩
theorem kA_leastDelay (h : mm 0 10 = 0) : Ct G M_X9_leastDelay [.ref 0, .int x1] (SH, mm, lm) false (.inr ISE) (SH, mm, lm) false 1 6 :=
  CJ (bX9_leastDelay_0 (Or.inr ⟨_, c_rtx h, rfl, rfl, Nat.le_refl _, Nat.le_refl _⟩))
theorem kC_leastDelay (h : ¬ mm 0 10 = 0) (g1 : inR 0 (mm 4 9 - 1) x1) {o : Ou} {z : Wd} (hj : J G M_X9_leastDelay 9 [(0, .ref 0), (1, .int x1)] [] (SH, mm, lm) false o z false 1 6) : Ct G M_X9_leastDelay [.ref 0, .int x1] (SH, mm, lm) false o z false 1 6 :=
  CJ (bX9_leastDelay_0 (Or.inl ⟨c_rt h, Or.inl ⟨c_rb g1, hj⟩⟩))
theorem kB_leastDelay (h : ¬ mm 0 10 = 0) (hb : ¬ ((inR 0 (mm 4 9 - 1) x1))) : Ct G M_X9_leastDelay [.ref 0, .int x1] (SH, mm, lm) false (.inr IAE) (SH, mm, lm) false 1 6 := by
  by_cases g1 : inR 0 (mm 4 9 - 1) x1
  · exact absurd (g1) hb
  · exact CJ (bX9_leastDelay_0 (Or.inl ⟨c_rt h, Or.inr ⟨_, c_rbx g1, rfl, rfl, Nat.le_refl _, Nat.le_refl _⟩⟩))
theorem mA_leastDelay (h : mm 63 3 = 0) : Ct G M_X10_leastDelay [.ref 63, .int x1] (SH, mm, lm) false (.inl (some (.int 0))) (SH, mset mm 63 4 1, lm) false 0 0 :=
  CJ (bX10_leastDelay_0 (⟨_, cm_isBell x1, ⟨_, _, wA h _, fun z => absurd z (by decide), fun _ => ⟨rfl, rfl⟩⟩⟩))
theorem mC_leastDelay (h : ¬ mm 63 3 = 0) (g1 : inR 0 (mm 63 8 - 1) x1) {o : Ou} {z : Wd} (hj : J G M_X10_leastDelay 14 [(0, .ref 63), (1, .int x1)] [] (SH, mset mm 63 4 0, lm) false o z false 0 0) : Ct G M_X10_leastDelay [.ref 63, .int x1] (SH, mm, lm) false o z false 0 0 :=
  CJ (bX10_leastDelay_0 (⟨_, cm_isBell x1, ⟨_, _, wC h (bI_1.mpr g1), fun _ => hj, fun z => absurd rfl z⟩⟩))
theorem mB_leastDelay (h : ¬ mm 63 3 = 0) (hb : ¬ ((inR 0 (mm 63 8 - 1) x1))) : Ct G M_X10_leastDelay [.ref 63, .int x1] (SH, mm, lm) false (.inl (some (.int 0))) (SH, mset mm 63 4 2, lm) false 0 0 := by
  by_cases g1 : inR 0 (mm 63 8 - 1) x1
  · exact absurd (g1) hb
  · exact CJ (bX10_leastDelay_0 (⟨0, (bI_f g1) ▸ cm_isBell x1, ⟨_, _, wB h, fun z => absurd z (by decide), fun _ => ⟨rfl, rfl⟩⟩⟩))
theorem as_leastDelay (hB : Bas I) (core : ∀ mm lm, I mm → ¬ mm 0 10 = 0 → inR 0 (mm 4 9 - 1) x1 → CoreI G I M_X9_leastDelay M_X10_leastDelay 9 14 [(0, .ref 0), (1, .int x1)] [(0, .ref 63), (1, .int x1)] mm lm) : OpW G I M_L_leastDelay M_X10_leastDelay [.int x1] cmpI := by
  intro mm lm hI
  obtain ⟨b1, b2, b3, b4⟩ := hB mm hI
  by_cases h : mm 0 10 = 0
  · exact ⟨1, mm, lm, 0, _, w1_leastDelay (kA_leastDelay h), mA_leastDelay (b1.mpr h), mset_eq, fun z => absurd z (by decide), b4 1⟩
  · by_cases hg : (inR 0 (mm 4 9 - 1) x1)
    · have g1 := hg
      obtain ⟨v, mm1, q1, q2, q6⟩ := core mm lm hI h g1
      obtain ⟨mm2, q3, q4, q5⟩ := q6 (vp_updL lm 0 v.toInt64)
      exact ⟨0, mm1, _, v, mm2, w_leastDelay (kC_leastDelay h g1 q1), mC_leastDelay (fun z => h (b1.mp (q2.1 ▸ z))) (by rw [q2.2.2, b2]; exact g1) q3, q4, fun _ => rfl, q5⟩
    · exact ⟨2, mm, lm, 0, _, w2_leastDelay (kB_leastDelay h hg), mB_leastDelay (fun z => h (b1.mp z)) (fun z => hg (by rw [← b2]; exact z)), mset_eq, fun z => absurd z (by decide), b4 2⟩
theorem kA_ropeLength (h : mm 0 10 = 0) : Ct G M_X9_ropeLength [.ref 0, .int x1] (SH, mm, lm) false (.inr ISE) (SH, mm, lm) false 1 6 :=
  CJ (bX9_ropeLength_0 (Or.inr ⟨_, c_rtx h, rfl, rfl, Nat.le_refl _, Nat.le_refl _⟩))
theorem kC_ropeLength (h : ¬ mm 0 10 = 0) (g1 : inR 0 (mm 4 9 - 1) x1) {o : Ou} {z : Wd} (hj : J G M_X9_ropeLength 9 [(0, .ref 0), (1, .int x1)] [] (SH, mm, lm) false o z false 1 6) : Ct G M_X9_ropeLength [.ref 0, .int x1] (SH, mm, lm) false o z false 1 6 :=
  CJ (bX9_ropeLength_0 (Or.inl ⟨c_rt h, Or.inl ⟨c_rb g1, hj⟩⟩))
theorem kB_ropeLength (h : ¬ mm 0 10 = 0) (hb : ¬ ((inR 0 (mm 4 9 - 1) x1))) : Ct G M_X9_ropeLength [.ref 0, .int x1] (SH, mm, lm) false (.inr IAE) (SH, mm, lm) false 1 6 := by
  by_cases g1 : inR 0 (mm 4 9 - 1) x1
  · exact absurd (g1) hb
  · exact CJ (bX9_ropeLength_0 (Or.inl ⟨c_rt h, Or.inr ⟨_, c_rbx g1, rfl, rfl, Nat.le_refl _, Nat.le_refl _⟩⟩))
theorem mA_ropeLength (h : mm 63 3 = 0) : Ct G M_X10_ropeLength [.ref 63, .int x1] (SH, mm, lm) false (.inl (some (.int 0))) (SH, mset mm 63 4 1, lm) false 0 0 :=
  CJ (bX10_ropeLength_0 (⟨_, cm_isBell x1, ⟨_, _, wA h _, fun z => absurd z (by decide), fun _ => ⟨rfl, rfl⟩⟩⟩))
theorem mC_ropeLength (h : ¬ mm 63 3 = 0) (g1 : inR 0 (mm 63 8 - 1) x1) {o : Ou} {z : Wd} (hj : J G M_X10_ropeLength 14 [(0, .ref 63), (1, .int x1)] [] (SH, mset mm 63 4 0, lm) false o z false 0 0) : Ct G M_X10_ropeLength [.ref 63, .int x1] (SH, mm, lm) false o z false 0 0 :=
  CJ (bX10_ropeLength_0 (⟨_, cm_isBell x1, ⟨_, _, wC h (bI_1.mpr g1), fun _ => hj, fun z => absurd rfl z⟩⟩))
theorem mB_ropeLength (h : ¬ mm 63 3 = 0) (hb : ¬ ((inR 0 (mm 63 8 - 1) x1))) : Ct G M_X10_ropeLength [.ref 63, .int x1] (SH, mm, lm) false (.inl (some (.int 0))) (SH, mset mm 63 4 2, lm) false 0 0 := by
  by_cases g1 : inR 0 (mm 63 8 - 1) x1
  · exact absurd (g1) hb
  · exact CJ (bX10_ropeLength_0 (⟨0, (bI_f g1) ▸ cm_isBell x1, ⟨_, _, wB h, fun z => absurd z (by decide), fun _ => ⟨rfl, rfl⟩⟩⟩))
theorem as_ropeLength (hB : Bas I) (core : ∀ mm lm, I mm → ¬ mm 0 10 = 0 → inR 0 (mm 4 9 - 1) x1 → CoreI G I M_X9_ropeLength M_X10_ropeLength 9 14 [(0, .ref 0), (1, .int x1)] [(0, .ref 63), (1, .int x1)] mm lm) : OpW G I M_L_ropeLength M_X10_ropeLength [.int x1] cmpI := by
  intro mm lm hI
  obtain ⟨b1, b2, b3, b4⟩ := hB mm hI
  by_cases h : mm 0 10 = 0
  · exact ⟨1, mm, lm, 0, _, w1_ropeLength (kA_ropeLength h), mA_ropeLength (b1.mpr h), mset_eq, fun z => absurd z (by decide), b4 1⟩
  · by_cases hg : (inR 0 (mm 4 9 - 1) x1)
    · have g1 := hg
      obtain ⟨v, mm1, q1, q2, q6⟩ := core mm lm hI h g1
      obtain ⟨mm2, q3, q4, q5⟩ := q6 (vp_updL lm 0 v.toInt64)
      exact ⟨0, mm1, _, v, mm2, w_ropeLength (kC_ropeLength h g1 q1), mC_ropeLength (fun z => h (b1.mp (q2.1 ▸ z))) (by rw [q2.2.2, b2]; exact g1) q3, q4, fun _ => rfl, q5⟩
    · exact ⟨2, mm, lm, 0, _, w2_ropeLength (kB_ropeLength h hg), mB_ropeLength (fun z => h (b1.mp z)) (fun z => hg (by rw [← b2]; exact z)), mset_eq, fun z => absurd z (by decide), b4 2⟩
theorem kA_fewestPieces (h : mm 0 10 = 0) : Ct G M_X9_fewestPieces [.ref 0] (SH, mm, lm) false (.inr ISE) (SH, mm, lm) false 1 6 :=
  CJ (bX9_fewestPieces_0 (Or.inr ⟨_, c_rtx h, rfl, rfl, Nat.le_refl _, Nat.le_refl _⟩))
theorem kC_fewestPieces (h : ¬ mm 0 10 = 0)  {o : Ou} {z : Wd} (hj : J G M_X9_fewestPieces 4 [(0, .ref 0)] [] (SH, mm, lm) false o z false 1 6) : Ct G M_X9_fewestPieces [.ref 0] (SH, mm, lm) false o z false 1 6 :=
  CJ (bX9_fewestPieces_0 (Or.inl ⟨c_rt h, hj⟩))
theorem mA_fewestPieces (h : mm 63 3 = 0) : Ct G M_X10_fewestPieces [.ref 63] (SH, mm, lm) false (.inl (some (.int 0))) (SH, mset mm 63 4 1, lm) false 0 0 :=
  CJ (bX10_fewestPieces_0 (⟨_, _, wA h _, fun z => absurd z (by decide), fun _ => ⟨rfl, rfl⟩⟩))
theorem mC_fewestPieces (h : ¬ mm 63 3 = 0)  {o : Ou} {z : Wd} (hj : J G M_X10_fewestPieces 10 [(0, .ref 63)] [] (SH, mset mm 63 4 0, lm) false o z false 0 0) : Ct G M_X10_fewestPieces [.ref 63] (SH, mm, lm) false o z false 0 0 :=
  CJ (bX10_fewestPieces_0 (⟨_, _, wC h (by decide), fun _ => hj, fun z => absurd rfl z⟩))
theorem as_fewestPieces (hB : Bas I) (core : ∀ mm lm, I mm → ¬ mm 0 10 = 0 → CoreI G I M_X9_fewestPieces M_X10_fewestPieces 4 10 [(0, .ref 0)] [(0, .ref 63)] mm lm) : OpW G I M_L_fewestPieces M_X10_fewestPieces [] cmpI := by
  intro mm lm hI
  obtain ⟨b1, b2, b3, b4⟩ := hB mm hI
  by_cases h : mm 0 10 = 0
  · exact ⟨1, mm, lm, 0, _, w1_fewestPieces (kA_fewestPieces h), mA_fewestPieces (b1.mpr h), mset_eq, fun z => absurd z (by decide), b4 1⟩
  · obtain ⟨v, mm1, q1, q2, q6⟩ := core mm lm hI h 
    obtain ⟨mm2, q3, q4, q5⟩ := q6 (vp_updL lm 0 v.toInt64)
    exact ⟨0, mm1, _, v, mm2, w_fewestPieces (kC_fewestPieces h  q1), mC_fewestPieces (fun z => h (b1.mp (q2.1 ▸ z)))  q3, q4, fun _ => rfl, q5⟩
theorem kA_pieceOf (h : mm 0 10 = 0) : Ct G M_X9_pieceOf [.ref 0, .int x1] (SH, mm, lm) false (.inr ISE) (SH, mm, lm) false 1 6 :=
  CJ (bX9_pieceOf_0 (Or.inr ⟨_, c_rtx h, rfl, rfl, Nat.le_refl _, Nat.le_refl _⟩))
theorem kC_pieceOf (h : ¬ mm 0 10 = 0) (g1 : inR 0 (mm 4 9 - 1) x1) {o : Ou} {z : Wd} (hj : J G M_X9_pieceOf 9 [(0, .ref 0), (1, .int x1)] [] (SH, mm, lm) false o z false 1 6) : Ct G M_X9_pieceOf [.ref 0, .int x1] (SH, mm, lm) false o z false 1 6 :=
  CJ (bX9_pieceOf_0 (Or.inl ⟨c_rt h, Or.inl ⟨c_rb g1, hj⟩⟩))
theorem kB_pieceOf (h : ¬ mm 0 10 = 0) (hb : ¬ ((inR 0 (mm 4 9 - 1) x1))) : Ct G M_X9_pieceOf [.ref 0, .int x1] (SH, mm, lm) false (.inr IAE) (SH, mm, lm) false 1 6 := by
  by_cases g1 : inR 0 (mm 4 9 - 1) x1
  · exact absurd (g1) hb
  · exact CJ (bX9_pieceOf_0 (Or.inl ⟨c_rt h, Or.inr ⟨_, c_rbx g1, rfl, rfl, Nat.le_refl _, Nat.le_refl _⟩⟩))
theorem mA_pieceOf (h : mm 63 3 = 0) : Ct G M_X10_pieceOf [.ref 63, .int x1] (SH, mm, lm) false (.inl (some (.int 0))) (SH, mset mm 63 4 1, lm) false 0 0 :=
  CJ (bX10_pieceOf_0 (⟨_, cm_isBell x1, ⟨_, _, wA h _, fun z => absurd z (by decide), fun _ => ⟨rfl, rfl⟩⟩⟩))
theorem mC_pieceOf (h : ¬ mm 63 3 = 0) (g1 : inR 0 (mm 63 8 - 1) x1) {o : Ou} {z : Wd} (hj : J G M_X10_pieceOf 14 [(0, .ref 63), (1, .int x1)] [] (SH, mset mm 63 4 0, lm) false o z false 0 0) : Ct G M_X10_pieceOf [.ref 63, .int x1] (SH, mm, lm) false o z false 0 0 :=
  CJ (bX10_pieceOf_0 (⟨_, cm_isBell x1, ⟨_, _, wC h (bI_1.mpr g1), fun _ => hj, fun z => absurd rfl z⟩⟩))
theorem mB_pieceOf (h : ¬ mm 63 3 = 0) (hb : ¬ ((inR 0 (mm 63 8 - 1) x1))) : Ct G M_X10_pieceOf [.ref 63, .int x1] (SH, mm, lm) false (.inl (some (.int 0))) (SH, mset mm 63 4 2, lm) false 0 0 := by
  by_cases g1 : inR 0 (mm 63 8 - 1) x1
  · exact absurd (g1) hb
  · exact CJ (bX10_pieceOf_0 (⟨0, (bI_f g1) ▸ cm_isBell x1, ⟨_, _, wB h, fun z => absurd z (by decide), fun _ => ⟨rfl, rfl⟩⟩⟩))
theorem as_pieceOf (hB : Bas I) (core : ∀ mm lm, I mm → ¬ mm 0 10 = 0 → inR 0 (mm 4 9 - 1) x1 → CoreI G I M_X9_pieceOf M_X10_pieceOf 9 14 [(0, .ref 0), (1, .int x1)] [(0, .ref 63), (1, .int x1)] mm lm) : OpW G I M_L_pieceOf M_X10_pieceOf [.int x1] cmpI := by
  intro mm lm hI
  obtain ⟨b1, b2, b3, b4⟩ := hB mm hI
  by_cases h : mm 0 10 = 0
  · exact ⟨1, mm, lm, 0, _, w1_pieceOf (kA_pieceOf h), mA_pieceOf (b1.mpr h), mset_eq, fun z => absurd z (by decide), b4 1⟩
  · by_cases hg : (inR 0 (mm 4 9 - 1) x1)
    · have g1 := hg
      obtain ⟨v, mm1, q1, q2, q6⟩ := core mm lm hI h g1
      obtain ⟨mm2, q3, q4, q5⟩ := q6 (vp_updL lm 0 v.toInt64)
      exact ⟨0, mm1, _, v, mm2, w_pieceOf (kC_pieceOf h g1 q1), mC_pieceOf (fun z => h (b1.mp (q2.1 ▸ z))) (by rw [q2.2.2, b2]; exact g1) q3, q4, fun _ => rfl, q5⟩
    · exact ⟨2, mm, lm, 0, _, w2_pieceOf (kB_pieceOf h hg), mB_pieceOf (fun z => h (b1.mp z)) (fun z => hg (by rw [← b2]; exact z)), mset_eq, fun z => absurd z (by decide), b4 2⟩
theorem kA_waste (h : mm 0 10 = 0) : Ct G M_X9_waste [.ref 0] (SH, mm, lm) false (.inr ISE) (SH, mm, lm) false 1 6 :=
  CJ (bX9_waste_0 (Or.inr ⟨_, c_rtx h, rfl, rfl, Nat.le_refl _, Nat.le_refl _⟩))
theorem kC_waste (h : ¬ mm 0 10 = 0)  {o : Ou} {z : Wd} (hj : J G M_X9_waste 4 [(0, .ref 0)] [] (SH, mm, lm) false o z false 1 6) : Ct G M_X9_waste [.ref 0] (SH, mm, lm) false o z false 1 6 :=
  CJ (bX9_waste_0 (Or.inl ⟨c_rt h, hj⟩))
theorem mA_waste (h : mm 63 3 = 0) : Ct G M_X10_waste [.ref 63] (SH, mm, lm) false (.inl (some (.int 0))) (SH, mset mm 63 4 1, lm) false 0 0 :=
  CJ (bX10_waste_0 (⟨_, _, wA h _, fun z => absurd z (by decide), fun _ => ⟨rfl, rfl⟩⟩))
theorem mC_waste (h : ¬ mm 63 3 = 0)  {o : Ou} {z : Wd} (hj : J G M_X10_waste 10 [(0, .ref 63)] [] (SH, mset mm 63 4 0, lm) false o z false 0 0) : Ct G M_X10_waste [.ref 63] (SH, mm, lm) false o z false 0 0 :=
  CJ (bX10_waste_0 (⟨_, _, wC h (by decide), fun _ => hj, fun z => absurd rfl z⟩))
theorem as_waste (hB : Bas I) (core : ∀ mm lm, I mm → ¬ mm 0 10 = 0 → CoreI G I M_X9_waste M_X10_waste 4 10 [(0, .ref 0)] [(0, .ref 63)] mm lm) : OpW G I M_L_waste M_X10_waste [] cmpI := by
  intro mm lm hI
  obtain ⟨b1, b2, b3, b4⟩ := hB mm hI
  by_cases h : mm 0 10 = 0
  · exact ⟨1, mm, lm, 0, _, w1_waste (kA_waste h), mA_waste (b1.mpr h), mset_eq, fun z => absurd z (by decide), b4 1⟩
  · obtain ⟨v, mm1, q1, q2, q6⟩ := core mm lm hI h 
    obtain ⟨mm2, q3, q4, q5⟩ := q6 (vp_updL lm 0 v.toInt64)
    exact ⟨0, mm1, _, v, mm2, w_waste (kC_waste h  q1), mC_waste (fun z => h (b1.mp (q2.1 ▸ z)))  q3, q4, fun _ => rfl, q5⟩
theorem kA_extraPiece (h : mm 0 10 = 0) : Ct G M_X9_extraPiece [.ref 0] (SH, mm, lm) false (.inr ISE) (SH, mm, lm) false 1 6 :=
  CJ (bX9_extraPiece_0 (Or.inr ⟨_, c_rtx h, rfl, rfl, Nat.le_refl _, Nat.le_refl _⟩))
theorem kC_extraPiece (h : ¬ mm 0 10 = 0)  {o : Ou} {z : Wd} (hj : J G M_X9_extraPiece 4 [(0, .ref 0)] [] (SH, mm, lm) false o z false 1 6) : Ct G M_X9_extraPiece [.ref 0] (SH, mm, lm) false o z false 1 6 :=
  CJ (bX9_extraPiece_0 (Or.inl ⟨c_rt h, hj⟩))
theorem mA_extraPiece (h : mm 63 3 = 0) : Ct G M_X10_extraPiece [.ref 63] (SH, mm, lm) false (.inl (some (.int 0))) (SH, mset mm 63 4 1, lm) false 0 0 :=
  CJ (bX10_extraPiece_0 (⟨_, _, wA h _, fun z => absurd z (by decide), fun _ => ⟨rfl, rfl⟩⟩))
theorem mC_extraPiece (h : ¬ mm 63 3 = 0)  {o : Ou} {z : Wd} (hj : J G M_X10_extraPiece 10 [(0, .ref 63)] [] (SH, mset mm 63 4 0, lm) false o z false 0 0) : Ct G M_X10_extraPiece [.ref 63] (SH, mm, lm) false o z false 0 0 :=
  CJ (bX10_extraPiece_0 (⟨_, _, wC h (by decide), fun _ => hj, fun z => absurd rfl z⟩))
theorem as_extraPiece (hB : Bas I) (core : ∀ mm lm, I mm → ¬ mm 0 10 = 0 → CoreI G I M_X9_extraPiece M_X10_extraPiece 4 10 [(0, .ref 0)] [(0, .ref 63)] mm lm) : OpW G I M_L_extraPiece M_X10_extraPiece [] cmpI := by
  intro mm lm hI
  obtain ⟨b1, b2, b3, b4⟩ := hB mm hI
  by_cases h : mm 0 10 = 0
  · exact ⟨1, mm, lm, 0, _, w1_extraPiece (kA_extraPiece h), mA_extraPiece (b1.mpr h), mset_eq, fun z => absurd z (by decide), b4 1⟩
  · obtain ⟨v, mm1, q1, q2, q6⟩ := core mm lm hI h 
    obtain ⟨mm2, q3, q4, q5⟩ := q6 (vp_updL lm 0 v.toInt64)
    exact ⟨0, mm1, _, v, mm2, w_extraPiece (kC_extraPiece h  q1), mC_extraPiece (fun z => h (b1.mp (q2.1 ▸ z)))  q3, q4, fun _ => rfl, q5⟩
theorem kA_undo (h : mm 0 10 = 0) : Ct G M_X9_undo [.ref 0] (SH, mm, lm) false (.inr ISE) (SH, mm, lm) false 1 6 :=
  CJ (bX9_undo_0 (Or.inr ⟨_, c_rtx h, rfl, rfl, Nat.le_refl _, Nat.le_refl _⟩))
theorem kC_undo (h : ¬ mm 0 10 = 0)  {o : Ou} {z : Wd} (hj : J G M_X9_undo 4 [(0, .ref 0)] [] (SH, mm, lm) false o z false 1 6) : Ct G M_X9_undo [.ref 0] (SH, mm, lm) false o z false 1 6 :=
  CJ (bX9_undo_0 (Or.inl ⟨c_rt h, hj⟩))
theorem mA_undo (h : mm 63 3 = 0) : Ct G M_X10_undo [.ref 63] (SH, mm, lm) false (.inl (some (.int 0))) (SH, mset mm 63 4 1, lm) false 0 0 :=
  CJ (bX10_undo_0 (⟨_, _, wA h _, fun z => absurd z (by decide), fun _ => ⟨rfl, rfl⟩⟩))
theorem mC_undo (h : ¬ mm 63 3 = 0)  {o : Ou} {z : Wd} (hj : J G M_X10_undo 10 [(0, .ref 63)] [] (SH, mset mm 63 4 0, lm) false o z false 0 0) : Ct G M_X10_undo [.ref 63] (SH, mm, lm) false o z false 0 0 :=
  CJ (bX10_undo_0 (⟨_, _, wC h (by decide), fun _ => hj, fun z => absurd rfl z⟩))
theorem as_undo (hB : Bas I) (core : ∀ mm lm, I mm → ¬ mm 0 10 = 0 → CoreI G I M_X9_undo M_X10_undo 4 10 [(0, .ref 0)] [(0, .ref 63)] mm lm) : OpW G I M_L_undo M_X10_undo [] cmpI := by
  intro mm lm hI
  obtain ⟨b1, b2, b3, b4⟩ := hB mm hI
  by_cases h : mm 0 10 = 0
  · exact ⟨1, mm, lm, 0, _, w1_undo (kA_undo h), mA_undo (b1.mpr h), mset_eq, fun z => absurd z (by decide), b4 1⟩
  · obtain ⟨v, mm1, q1, q2, q6⟩ := core mm lm hI h 
    obtain ⟨mm2, q3, q4, q5⟩ := q6 (vp_updL lm 0 v.toInt64)
    exact ⟨0, mm1, _, v, mm2, w_undo (kC_undo h  q1), mC_undo (fun z => h (b1.mp (q2.1 ▸ z)))  q3, q4, fun _ => rfl, q5⟩
end Check
