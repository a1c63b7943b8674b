/-! ===== both sides see the same: bridges; hanging, asked ===== -/
/-- the reference's own numbers are the same -/
def EqM (mm M : Nat → Nat → Int32) : Prop := ∀ c j, 63 ≤ c → rel c j = true → M c j = mm c j
theorem EqR.m {mm M : Nat → Nat → Int32} (e : EqR mm M) : EqM mm M := fun c j _ h => e c j h
theorem eqM_row {mm M : Nat → Nat → Int32} (e : EqM mm M) {c : Nat} (h63 : 63 ≤ c) (hc : ∀ j, rel c j = true) : M c = mm c := funext fun j => e c j h63 (hc j)
/-- the class's numbers mm, the reference's numbers M -/
def Fx (mm M : Nat → Nat → Int32) (nb nm nq np : Nat) : Prop := InvN mm nb nm nq np ∧ InvW mm nb nm nq np ∧ SR nb nm (mm 8) (mm 7) (mm 6) (cS mm) (mS mm) ∧ EqM mm M
theorem fx_of {mm : Nat → Nat → Int32} (h : Inv mm) : ∃ nb nm nq np, ∀ M, EqM mm M → Fx mm M nb nm nq np := by
  obtain ⟨-, nb, nm, nq, np, h2, h3, h4⟩ := h
  exact ⟨nb, nm, nq, np, fun M e => ⟨h2, h3, h4.1, e⟩⟩
section Br
variable {mm M : Nat → Nat → Int32} {nb nm nq np k j i : Nat}
theorem Fx.n (f : Fx mm M nb nm nq np) : mm 4 9 = nI nb := f.1.1.1
theorem Fx.n8 (f : Fx mm M nb nm nq np) : nb ≤ 8 := f.1.1.2.2
theorem Fx.N (f : Fx mm M nb nm nq np) : M 63 8 = nI nb := (f.2.2.2 63 8 (by decide) rfl).trans f.1.1.2.1
theorem Fx.m (f : Fx mm M nb nm nq np) : mm 4 8 = nI nm := f.1.2.1.1
theorem Fx.m4 (f : Fx mm M nb nm nq np) : nm ≤ 4 := f.1.2.1.2.2
theorem Fx.Em (f : Fx mm M nb nm nq np) : M 63 5 = nI nm := (f.2.2.2 63 5 (by decide) rfl).trans f.1.2.1.2.1
theorem Fx.q6 (f : Fx mm M nb nm nq np) : nq ≤ 6 := f.1.2.2.1.2.2
theorem Fx.Q (f : Fx mm M nb nm nq np) : M 63 12 = nI nq := (f.2.2.2 63 12 (by decide) rfl).trans f.1.2.2.1.2.1
theorem Fx.r (f : Fx mm M nb nm nq np) (hk : k < nb) : RB nm (cS mm k) (mS mm k) := f.2.2.1.1 k hk
theorem Fx.r64 (f : Fx mm M nb nm nq np) : M 64 = mm 64 := eqM_row f.2.2.2 (by decide) (fun _ => rfl)
theorem Fx.be (f : Fx mm M nb nm nq np) (hk : k < nb) : M 64 (10 * k + 0) = mm (23 + k) 0 := by
  rw [f.r64]; exact (f.r hk).1.1.symm
theorem Fx.bp (f : Fx mm M nb nm nq np) (hk : k < nb) : bmP (mm (23 + k) 0) ∧ bmP (mm (23 + k) 2) := by
  have h4 := f.m4
  refine ⟨?_, ?_⟩
  · rcases (f.r hk).1.2 with h | ⟨i, hi, h⟩
    · exact Or.inl h
    · exact Or.inr ⟨i, by omega, h⟩
  · rcases (f.r hk).2.2.1.2 with h | ⟨i, hi, h⟩
    · exact Or.inl h
    · exact Or.inr ⟨i, by omega, h⟩
theorem bmP_neg {x : Int32} (h : bmP x) : x < 0 ↔ x = -1 := by
  rcases h with rfl | ⟨i, hi, rfl⟩
  · exact ⟨fun _ => rfl, fun _ => by decide⟩
  · exact ⟨fun z => absurd z (nI_pos (by omega)), fun z => absurd z (nI_ne_neg (by omega))⟩
theorem Fx.hg (f : Fx mm M nb nm nq np) (hk : k < nb) : M 64 (10 * k + 0) < 0 ↔ mm (23 + k) 0 = -1 := by
  rw [f.be hk]; exact bmP_neg (f.bp hk).1
theorem Fx.po (f : Fx mm M nb nm nq np) (hk : k < nb) (h : ¬ mm (23 + k) 0 = -1) : M 64 (10 * k + 1) = mm (23 + k) 1 := by
  rw [f.r64]; exact ((f.r hk).2.1 h).1.symm
theorem Fx.w (f : Fx mm M nb nm nq np) (hk : k < nb) : M 68 k = mm 7 k := by
  rw [eqM_row f.2.2.2 (c := 68) (by decide) (fun _ => rfl)]; exact (f.2.1.2.1 k hk).1.1.symm
theorem Fx.ra (f : Fx mm M nb nm nq np) (hk : k < nb) : M 69 k = mm 8 k := by
  rw [eqM_row f.2.2.2 (c := 69) (by decide) (fun _ => rfl)]; exact (f.2.1.2.1 k hk).2.1.1.symm
theorem Fx.pe (f : Fx mm M nb nm nq np) (hk : k < nb) : M 70 k = mm 9 k := by
  rw [eqM_row f.2.2.2 (c := 70) (by decide) (fun _ => rfl)]; exact (f.2.1.2.1 k hk).2.2.1.symm
theorem Fx.pn (f : Fx mm M nb nm nq np) (hk : k < nb) : ∃ p, 4 ≤ p ∧ p ≤ 40 ∧ mm 9 k = nI p := (f.2.1.2.1 k hk).2.2.2
theorem Fx.p0 (f : Fx mm M nb nm nq np) (hk : k < nb) : ¬ M 70 k = 0 := by
  obtain ⟨p, h1, h2, h3⟩ := f.pn hk
  rw [f.pe hk, h3]; exact nI_ne0 (by omega) (by omega)
theorem Fx.li (f : Fx mm M nb nm nq np) (hi : i < nm) : M 67 i = mm 6 i := by
  rw [eqM_row f.2.2.2 (c := 67) (by decide) (fun _ => rfl)]; exact (f.2.1.1 i hi).2.1.symm
theorem Fx.h (f : Fx mm M nb nm nq np) (hi : i < nm) : M 66 i = mm 5 i := by
  rw [eqM_row f.2.2.2 (c := 66) (by decide) (fun _ => rfl)]; exact (f.2.1.1 i hi).1.1.symm
theorem Fx.bell (f : Fx mm M nb nm nq np) {x : Int32} (h : inR 0 (mm 4 9 - 1) x) : ∃ j, j < nb ∧ x = nI j := by
  rw [f.n] at h; exact inR_nI (by have := f.n8; omega) h
theorem Fx.beam (f : Fx mm M nb nm nq np) {x : Int32} (h : inR 0 (mm 4 8 - 1) x) : ∃ j, j < nm ∧ x = nI j := by
  rw [f.m] at h; exact inR_nI (by have := f.m4; omega) h
theorem Fx.mo (f : Fx mm M nb nm nq np) (ex : Nat → Bool) (i : Nat) (hi : i < 4) : mo nb (mBe M) (mPo M) (M 68) (nI i) ex = mo nb (cBe mm) (cPo mm) (mm 7) (nI i) ex := sumN_congr fun k hk => by
  have e := f.be hk
  by_cases h : ex k = false ∧ cBe mm k = nI i
  · rw [if_pos h, if_pos ⟨h.1, e.trans h.2⟩, f.w hk]
    exact congrArg _ (f.po hk (by have := h.2; rw [show mm (23 + k) 0 = cBe mm k from rfl, this]; exact nI_ne_neg (by omega)))
  · rw [if_neg h, if_neg (fun z => h ⟨z.1, e.symm.trans z.2⟩)]
theorem Fx.fit (f : Fx mm M nb nm nq np) (hj : j < nb) (i : Nat) (hi : i < 4) (x : Int32) : allN (fitB (mBe M) (mPo M) (M 69) j (nI i) x) nb = allN (fitB (cBe mm) (cPo mm) (mm 8) j (nI i) x) nb := allN_congr fun k hk => by
  have e := f.be hk
  simp only [fitB]
  rw [decide_eq_decide, show mBe M k = cBe mm k from e, f.ra hj, f.ra hk]
  by_cases h : cBe mm k = nI i
  · rw [show mPo M k = cPo mm k from f.po hk (by rw [show mm (23 + k) 0 = cBe mm k from rfl, h]; exact nI_ne_neg (by omega))]
  · exact ⟨fun _ => Or.inr (Or.inl h), fun _ => Or.inr (Or.inl h)⟩
theorem mo_none {n : Nat} {be po w : Nat → Int32} {b : Int32} (hn : n ≤ 8) : mo n be po w b (fun k => decide (nI k = -1)) = mo n be po w b (fun _ => false) := sumN_congr fun k hk => by
  have e : decide (nI k = -1) = false := decide_eq_false (nI_ne_neg (by omega))
  simp only [e]
/-- a bell that hangs elsewhere need not be left out -/
theorem mo_off {n : Nat} {be po w : Nat → Int32} {b : Int32} {j : Nat} (h : ¬ be j = b) : mo n be po w b (fun k => decide (k = j)) = mo n be po w b (fun _ => false) := sumN_congr fun k hk => by
  by_cases hkj : k = j
  · subst hkj
    rw [if_neg (fun z => h z.2), if_neg (fun z => h z.2)]
  · have e : decide (k = j) = false := decide_eq_false hkj
    simp only [e]
end Br
section Ops1
variable {G : Gx} {x1 x2 x3 : Int32}
abbrev th0 (mm : Nat → Nat → Int32) : Nat → Nat → Int32 := mset mm 63 4 0
theorem eqR_th {mm mm1 : Nat → Nat → Int32} (e : EqR mm mm1) (t : Int32) : EqR mm (mset mm1 63 4 t) := e.mset rfl
theorem core_torque : ∀ mm lm, Inv mm → ¬ mm 0 10 = 0 → inR 0 (mm 4 8 - 1) x1 → CoreI G Inv M_X9_torque M_X10_torque 9 16 [(0, .ref 0), (1, .int x1)] [(0, .ref 63), (1, .int x1)] mm lm := by
  intro mm lm hI _ g1
  obtain ⟨nb, nm, nq, np, fx⟩ := fx_of hI
  have e := eqR_th (mm := mm) EqR.refl 0
  have f := fx _ e.m
  have := f.m4
  obtain ⟨i, hi, rfl⟩ := f.beam g1
  refine ⟨mo nb (cBe mm) (cPo mm) (mm 7) (nI i) (fun _ => false), mm, bX9_torque_9 ⟨_, c_momentWithout f.n f.n8 _ _, ?_⟩, ⟨rfl, rfl, rfl⟩, fun l => ⟨_, bX10_torque_16 ⟨_, cm_pull f.N f.n8 _, ?_⟩, mset_eq, hI.congr e⟩⟩
  · rw [mo_none f.n8]; exact ⟨rfl, rfl⟩
  · rw [f.mo _ i (by omega)]; exact ⟨rfl, rfl⟩
theorem core_beamOf : ∀ mm lm, Inv mm → ¬ mm 0 10 = 0 → inR 0 (mm 4 9 - 1) x1 → CoreI G Inv M_X9_beamOf M_X10_beamOf 9 14 [(0, .ref 0), (1, .int x1)] [(0, .ref 63), (1, .int x1)] mm lm := by
  intro mm lm hI _ g1
  obtain ⟨nb, nm, nq, np, fx⟩ := fx_of hI
  have e := eqR_th (mm := mm) EqR.refl 0
  have f := fx _ e.m
  have := f.n8
  obtain ⟨j, hj, rfl⟩ := f.bell g1
  have hg := f.hg hj
  by_cases h : mm (23 + j) 0 = -1
  · refine ⟨-2, mm, bX9_beamOf_9 ⟨j, rfl, by omega, _, c_hangs (sh_b23 (by omega)), fun _ => ⟨rfl, rfl⟩, fun z => absurd h (bI_1.mp z)⟩, ⟨rfl, rfl, rfl⟩, fun l => ⟨_, bX10_beamOf_14 ⟨_, cm_hangs (by omega), fun _ => ⟨rfl, rfl⟩, fun z => absurd (hg.mpr h) (bI_1.mp z)⟩, mset_eq, hI.congr e⟩⟩
  · refine ⟨mm (23 + j) 0, mm, bX9_beamOf_9 ⟨j, rfl, by omega, _, c_hangs (sh_b23 (by omega)), fun z => absurd h (bI_0.mp z), fun _ => ⟨j, rfl, by omega, rfl, rfl⟩⟩, ⟨rfl, rfl, rfl⟩, fun l => ⟨_, bX10_beamOf_14 ⟨_, cm_hangs (by omega), fun z => absurd (mt hg.mp h) (bI_0.mp z), fun _ => ⟨_, cm_of (by omega) (a := 0) rfl (by decide), ?_⟩⟩, mset_eq, hI.congr e⟩⟩
    rw [f.be hj]; exact ⟨rfl, rfl⟩
theorem core_positionOf : ∀ mm lm, Inv mm → ¬ mm 0 10 = 0 → inR 0 (mm 4 9 - 1) x1 → (CoreI G Inv M_X9_positionOf M_X10_positionOf 9 14 [(0, .ref 0), (1, .int x1)] [(0, .ref 63), (1, .int x1)] mm lm ∨ CoreN G Inv M_X9_positionOf M_X10_positionOf 9 14 [(0, .ref 0), (1, .int x1)] [(0, .ref 63), (1, .int x1)] mm lm) := by
  intro mm lm hI _ g1
  obtain ⟨nb, nm, nq, np, fx⟩ := fx_of hI
  have e := eqR_th (mm := mm) EqR.refl 0
  have f := fx _ e.m
  have f2 := fx _ (eqR_th e 0).m
  have := f.n8
  obtain ⟨j, hj, rfl⟩ := f.bell g1
  have hg := f.hg hj
  by_cases h : mm (23 + j) 0 = -1
  · refine Or.inr ⟨bX9_positionOf_9 (Or.inr ⟨_, c_rhx (by omega) h, rfl, rfl, Nat.le_refl _, Nat.le_refl _⟩), fun l => ⟨0, _, bX10_positionOf_14 ⟨_, cm_hangs (by omega), fun _ => ⟨fun z => absurd z (by rw [mset_eq]; decide), fun _ => ⟨rfl, rfl⟩⟩, fun z => absurd (hg.mpr h) (bI_1.mp z)⟩, mset_eq, hI.congr (eqR_th e 3)⟩⟩
  · refine Or.inl ⟨mm (23 + j) 1, mm, bX9_positionOf_9 (Or.inl ⟨c_rh (by omega) h, j, rfl, by omega, rfl, rfl⟩), ⟨rfl, rfl, rfl⟩, fun l => ⟨_, bX10_positionOf_14 ⟨_, cm_hangs (by omega), fun z => absurd (mt hg.mp h) (bI_0.mp z), fun _ => ⟨fun _ => ⟨_, cm_of (by omega) (a := 1) rfl (by decide), ?_⟩, fun z => absurd (by rw [mset_eq]; exact Int32.le_refl _) z⟩⟩, mset_eq, hI.congr (eqR_th e 0)⟩⟩
    rw [f2.po hj h]; exact ⟨rfl, rfl⟩
theorem cm_bellAt {mm : Nat → Nat → Int32} {lm : Nat → Int64} {nb : Nat} (hnb : mm 63 8 = nI nb) (h8 : nb ≤ 8) (b pl : Int32) : J G M_X10_bellAt 28 [(0, .ref 63), (1, .int b), (2, .int pl), (3, .int 0)] [] (SH, mm, lm) false (.inl (some (.int (opI (nextN (fun k => decide (mBe mm k = b ∧ nI (cntN (fun o => decide (mBe mm o = b ∧ ¬ mPo mm k ≤ mPo mm o)) nb) = pl)) nb 0) (-2))))) (SH, mm, lm) false 0 0 := by
  generalize hP : (fun k => decide (mBe mm k = b ∧ nI (cntN (fun o => decide (mBe mm o = b ∧ ¬ mPo mm k ≤ mPo mm o)) nb) = pl)) = P
  have hPk : ∀ k, P k = decide (mBe mm k = b ∧ nI (cntN (fun o => decide (mBe mm o = b ∧ ¬ mPo mm k ≤ mPo mm o)) nb) = pl) := fun k => by rw [← hP]
  refine loop_up (n := nb) (P := fun k => J G M_X10_bellAt 28 [(0, .ref 63), (1, .int b), (2, .int pl), (3, .int (nI k))] [] (SH, mm, lm) false (.inl (some (.int (opI (nextN P (nb - k) k) (-2))))) (SH, mm, lm) false 0 0) ?_ ?_ 0 (Nat.zero_le _)
  · refine bX10_bellAt_28 ⟨fun _ => ?_, fun h => absurd (le_nI' hnb) h⟩
    rw [Nat.sub_self]; exact ⟨rfl, rfl⟩
  · intro k hk ih
    rw [show nb - k = (nb - (k + 1)) + 1 by omega]
    refine bX10_bellAt_28 ⟨fun h => absurd h (le_nI hnb hk (by omega)), fun _ => ⟨_, cm_of (by omega) (a := 0) rfl (by decide), fun h => ?_, fun h => ?_⟩⟩
    · refine loop_up (n := nb) (P := fun o => J G M_X10_bellAt 55 [(0, .ref 63), (1, .int b), (2, .int pl), (3, .int (nI k)), (4, .int (nI (cntN (fun o => decide (mBe mm o = b ∧ ¬ mPo mm k ≤ mPo mm o)) o))), (5, .int (nI o))] [] (SH, mm, lm) false (.inl (some (.int (opI (nextN P (nb - (k + 1) + 1) k) (-2))))) (SH, mm, lm) false 0 0) ?_ ?_ 0 (Nat.zero_le _)
      · refine bX10_bellAt_55 ⟨fun _ => ⟨fun h2 => ?_, fun h2 => ?_⟩, fun h => absurd (le_nI' hnb) h⟩
        · have e : P k = false := by rw [hPk]; exact decide_eq_false fun z => h2 z.2
          rw [nI_1]; simpa [nextN, e] using ih
        · have e : P k = true := by rw [hPk]; exact decide_eq_true ⟨h, h2⟩
          simp [nextN, e, opI]
      · intro o ho ih2
        refine bX10_bellAt_55 ⟨fun h => absurd h (le_nI hnb ho (by omega)), fun _ => ⟨_, cm_of (by omega) (a := 0) rfl (by decide), fun h3 => ?_, fun h3 => ⟨_, cm_of (by omega) (a := 1) rfl (by decide), _, cm_of (by omega) (a := 1) rfl (by decide), fun h4 => ?_, fun h4 => ?_⟩⟩⟩
        · have e : decide (mBe mm o = b ∧ ¬ mPo mm k ≤ mPo mm o) = false := decide_eq_false fun z => h3 z.1
          rw [cntN_f (p := fun o => decide (mBe mm o = b ∧ ¬ mPo mm k ≤ mPo mm o)) e] at ih2
          rw [nI_1, Int32.add_zero]; exact ih2
        · have e : decide (mBe mm o = b ∧ ¬ mPo mm k ≤ mPo mm o) = false := decide_eq_false fun z => z.2 h4
          rw [cntN_f (p := fun o => decide (mBe mm o = b ∧ ¬ mPo mm k ≤ mPo mm o)) e] at ih2
          rw [nI_1, Int32.add_zero]; exact ih2
        · have e : decide (mBe mm o = b ∧ ¬ mPo mm k ≤ mPo mm o) = true := decide_eq_true ⟨h3, h4⟩
          rw [cntN_t (p := fun o => decide (mBe mm o = b ∧ ¬ mPo mm k ≤ mPo mm o)) e] at ih2
          rw [nI_1, nI_1]; exact ih2
    · have e : P k = false := by rw [hPk]; exact decide_eq_false fun z => h z.1
      rw [nI_1]; simpa [nextN, e] using ih
theorem core_bellAt : ∀ mm lm, Inv mm → ¬ mm 0 10 = 0 → inR 0 (mm 4 8 - 1) x1 → inR 0 2147483647 x2 → CoreI G Inv M_X9_bellAt M_X10_bellAt 16 26 [(0, .ref 0), (1, .int x1), (2, .int x2)] [(0, .ref 63), (1, .int x1), (2, .int x2)] mm lm := by
  intro mm lm hI _ g1 _
  obtain ⟨nb, nm, nq, np, fx⟩ := fx_of hI
  have e := eqR_th (mm := mm) EqR.refl 0
  have f := fx _ e.m
  have h4 := f.m4
  obtain ⟨i, hi, rfl⟩ := f.beam g1
  refine ⟨opI (nextN (bipB (cBe mm) (cPo mm) nb (nI i) x2) nb 0) (-2), mm, bX9_bellAt_16 ⟨_, c_bellInPlace f.n f.n8 _ _, rfl, rfl⟩, ⟨rfl, rfl, rfl⟩, fun l => ⟨_, bX10_bellAt_26 ?_, mset_eq, hI.congr e⟩⟩
  have q := cm_bellAt (G := G) (lm := l) f.N f.n8 (nI i) x2
  have hne : ¬ nI i = -1 := nI_ne_neg (by omega)
  rw [nextN_congr (q := bipB (cBe mm) (cPo mm) nb (nI i) x2) (fun k _ hk => by
    simp only [bipB]
    rw [decide_eq_decide, show mBe (th0 mm) k = cBe mm k from f.be (by omega)]
    by_cases h : cBe mm k = nI i
    · have ec : cntN (fun o => decide (mBe (th0 mm) o = nI i ∧ ¬ mPo (th0 mm) k ≤ mPo (th0 mm) o)) nb = cntN (befB (cBe mm) (cPo mm) k) nb := cntN_congr fun o ho => by
        simp only [befB]
        rw [decide_eq_decide, show mBe (th0 mm) o = cBe mm o from f.be ho, show mPo (th0 mm) k = cPo mm k from f.po (by omega) (by rw [show mm (23 + k) 0 = cBe mm k from rfl, h]; exact hne), h]
        by_cases h2 : cBe mm o = nI i
        · rw [show mPo (th0 mm) o = cPo mm o from f.po ho (by rw [show mm (23 + o) 0 = cBe mm o from rfl, h2]; exact hne)]
          exact ⟨fun z => ⟨⟨by rw [h2]; exact hne, h2⟩, z.2⟩, fun z => ⟨h2, z.2⟩⟩
        · exact ⟨fun z => absurd z.1 h2, fun z => absurd z.1.2 h2⟩
      rw [ec]
    · exact ⟨fun z => absurd z.1 h, fun z => absurd z.1 h⟩)] at q
  exact q
/-- whether the bell j, that hangs nowhere, could hang there: both sides alike -/
theorem can_eq {mm M : Nat → Nat → Int32} {nb nm nq np j i : Nat} (f : Fx mm M nb nm nq np) (hj : j < nb) (hi : i < nm) (hn : mm (23 + j) 0 = -1) (x : Int32) : (allN (fitB (mBe M) (mPo M) (M 69) j (nI i) x) nb = true ∧ ¬ M 67 i < absI (puW nb (mBe M) (mPo M) (M 68) j (nI i) x)) ↔ eopF nb (cBe mm) (cPo mm) (mm 8) (mm 7) (mm 6) j i x = 0 := by
  have h4 := f.m4
  have hne : ¬ cBe mm j = nI i := fun z => nI_ne_neg (n := i) (by omega) (z.symm.trans hn)
  rw [f.fit hj i (by omega), f.li hi, puW, f.mo _ i (by omega), f.w hj, eopF, mWi, mo_off hne]
  by_cases h1 : allN (fitB (cBe mm) (cPo mm) (mm 8) j (nI i) x) nb = true
  · rw [if_pos h1]
    by_cases h2 : mm 6 i < absI (mo nb (cBe mm) (cPo mm) (mm 7) (nI i) (fun _ => false) + mm 7 j * x)
    · rw [if_pos h2]; exact ⟨fun z => absurd h2 z.2, fun z => absurd z (by decide)⟩
    · rw [if_neg h2]; exact ⟨fun _ => rfl, fun _ => ⟨h1, h2⟩⟩
  · rw [if_neg h1]; exact ⟨fun z => absurd z.1 h1, fun z => absurd z (by decide)⟩
theorem core_freePositions : ∀ mm lm, Inv mm → ¬ mm 0 10 = 0 → inR 0 (mm 4 9 - 1) x1 → inR 0 (mm 4 8 - 1) x2 → CoreI G Inv M_X9_freePositions M_X10_freePositions 14 30 [(0, .ref 0), (1, .int x1), (2, .int x2)] [(0, .ref 63), (1, .int x1), (2, .int x2)] mm lm := by
  intro mm lm hI _ g1 g2
  obtain ⟨nb, nm, nq, np, fx⟩ := fx_of hI
  have e := eqR_th (mm := mm) EqR.refl 0
  have f := fx _ e.m
  have h4 := f.m4
  have h8 := f.n8
  obtain ⟨j, hj, rfl⟩ := f.bell g1
  obtain ⟨i, hi, rfl⟩ := f.beam g2
  have hg := f.hg hj
  by_cases h : mm (23 + j) 0 = -1
  · refine ⟨nI (cntN (fun n => decide (eopF nb (cBe mm) (cPo mm) (mm 8) (mm 7) (mm 6) j i (nI n + (-15)) = 0)) 31), mm, bX9_freePositions_14 ⟨j, rfl, by omega, _, c_hangs (sh_b23 (by omega)), fun _ => ⟨_, c_countPlaces f.n h8 (by omega) (by omega), rfl, rfl⟩, fun z => absurd h (bI_1.mp z)⟩, ⟨rfl, rfl, rfl⟩, fun l => ⟨_, bX10_freePositions_30 ⟨_, cm_hangs (by omega), fun _ => ?_, fun z => absurd (hg.mpr h) (bI_1.mp z)⟩, mset_eq, hI.congr e⟩⟩
    refine loop_up (n := 31) (P := fun n => J G M_X10_freePositions 47 [(0, .ref 63), (1, .int (nI j)), (2, .int (nI i)), (3, .int (nI (cntN (fun n => decide (eopF nb (cBe mm) (cPo mm) (mm 8) (mm 7) (mm 6) j i (nI n + (-15)) = 0)) n))), (4, .int (nI n + (-15)))] [] (SH, th0 mm, l) false (.inl (some (.int (nI (cntN (fun n => decide (eopF nb (cBe mm) (cPo mm) (mm 8) (mm 7) (mm 6) j i (nI n + (-15)) = 0)) 31))))) (SH, th0 mm, l) false 0 0) ?_ ?_ 0 (Nat.zero_le _)
    · exact bX10_freePositions_47 ⟨fun _ => ⟨rfl, rfl⟩, fun h => absurd (by decide) h⟩
    · intro n hn ih
      refine bX10_freePositions_47 ⟨fun h => absurd h (p15 n hn), fun _ => ⟨_, cm_canHang f.N h8 (by omega) (by omega) _, fun h5 => ?_, fun h5 => ?_⟩⟩
      · have e1 : decide (eopF nb (cBe mm) (cPo mm) (mm 8) (mm 7) (mm 6) j i (nI n + (-15)) = 0) = false := decide_eq_false fun z => bI_0.mp h5 ((can_eq f hj hi h _).mpr z)
        rw [cntN_f (p := fun n => decide (eopF nb (cBe mm) (cPo mm) (mm 8) (mm 7) (mm 6) j i (nI n + (-15)) = 0)) (n := n) e1] at ih
        rw [p15s, Int32.add_zero]; exact ih
      · have e1 : decide (eopF nb (cBe mm) (cPo mm) (mm 8) (mm 7) (mm 6) j i (nI n + (-15)) = 0) = true := decide_eq_true ((can_eq f hj hi h _).mp (bI_1.mp h5))
        rw [cntN_t (p := fun n => decide (eopF nb (cBe mm) (cPo mm) (mm 8) (mm 7) (mm 6) j i (nI n + (-15)) = 0)) (n := n) e1] at ih
        rw [p15s, nI_1]; exact ih
  · exact ⟨-2, mm, bX9_freePositions_14 ⟨j, rfl, by omega, _, c_hangs (sh_b23 (by omega)), fun z => absurd h (bI_0.mp z), fun _ => ⟨rfl, rfl⟩⟩, ⟨rfl, rfl, rfl⟩, fun l => ⟨_, bX10_freePositions_30 ⟨_, cm_hangs (by omega), fun z => absurd (mt hg.mp h) (bI_0.mp z), fun _ => ⟨rfl, rfl⟩⟩, mset_eq, hI.congr e⟩⟩
end Ops1
