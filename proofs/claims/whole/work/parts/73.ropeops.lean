/-! ===== ropes: both sides answer alike ===== -/
section RoD
variable {G : Gx} {mm m : Nat → Nat → Int32} {lm : Nat → Int64} {nb nm nq np all : Nat} {len cap w : Nat → Nat} {x1 : Int32}
theorem Fx.len0 {M : Nat → Nat → Int32} (f : Fx mm M nb nm nq np) : ∀ b, b < 8 → (allH mm nb).testBit b = true → 0 < lnN mm nb b := fun b _ hs => by
  rw [mkM_bit, Bool.and_eq_true, decide_eq_true_eq] at hs
  rcases f.lenC b hs.1 with ⟨z, -⟩ | ⟨i, -, -, -, z, -⟩
  · exact absurd z (of_decide_eq_true hs.2)
  · exact z
/-- where the class finds a cutting, the reference finds the same -/
theorem rope_fin {m' : Nat → Nat → Int32} {best : Nat} (h8 : nb ≤ 8) (hall : all < 2 ^ nb) (hnp : np ≤ 8) (hlen : ∀ b, b < 8 → all.testBit b = true → 0 < len b) (gal : ∀ v, v < 1000000 → (best ≤ v ↔ ∃ a, VaC len cap np all a ∧ usA np all a ≤ v))
    (g4 : best < 1000000 → ∃ u a op, MbR m len cap u np all m' ∧ GdR len cap np all best nb u a op ∧ ∀ b, b < nb → all.testBit b = true → m' 83 b = nI (a b)) (hw : LcA len cap np w all) (hfin : w all < 2147483647) :
    best < 1000000 ∧ ∃ u a, MbR m len cap u np all m' ∧ (∀ r, r < 8 → u r = ldA len all a r) ∧ VaC len cap np all a ∧ usA np all a = best ∧ w all = cost np all a ∧ ∀ b, b < nb → all.testBit b = true → m' 83 b = nI (a b) := by
  obtain ⟨a0, v0, -⟩ := (hw (w all) hfin).mp (Nat.le_refl _)
  have u0 : usA np all a0 ≤ np := fb_ct_le _ np
  have hb : best < 1000000 := by
    have := (gal (usA np all a0) (by omega)).mpr ⟨a0, v0, Nat.le_refl _⟩
    omega
  obtain ⟨u, a, op, k1, k2, k3⟩ := g4 hb
  obtain ⟨q1, q2, q3, q4⟩ := gd_cost h8 hall hnp hlen k2 (fun a' va => by
    have u1 : usA np all a' ≤ np := fb_ct_le _ np
    exact (gal (usA np all a') (by omega)).mpr ⟨a', va, Nat.le_refl _⟩) hw
  exact ⟨hb, u, a, k1, q4, q1, q2, q3, k3⟩
theorem rope_inf {best : Nat} (hnp : np ≤ 8) (hb : best ≤ 1000000) (gal : ∀ v, v < 1000000 → (best ≤ v ↔ ∃ a, VaC len cap np all a ∧ usA np all a ≤ v)) (hw : LcA len cap np w all) (hinf : w all = 2147483647) : best = 1000000 := by
  refine Nat.le_antisymm hb (Nat.not_lt.mp fun z => ?_)
  obtain ⟨a, v, -⟩ := (gal best z).mp (Nat.le_refl _)
  have c := cost_le hnp v
  have := (hw (cost np all a) (by omega)).mpr ⟨a, v, Nat.le_refl _⟩
  omega
theorem core_ropeLength : ∀ mm lm, Inv mm → ¬ mm 0 10 = 0 → inR 0 (mm 4 9 - 1) x1 → CoreI G Inv M_X9_ropeLength M_X10_ropeLength 9 14 [(0, .ref 0), (1, .int x1)] [(0, .ref 63), (1, .int x1)] mm lm := by
  intro mm lm hI _ g1
  obtain ⟨nb, nm, nq, np, fx⟩ := fx_of hI
  have f0 := fx mm EqR.refl.m
  have e := eqR_th (mm := mm) EqR.refl 0
  have f := fx _ e.m
  have h8 := f.n8
  have h4 := f.m4
  obtain ⟨j, hj, rfl⟩ := f.bell g1
  rcases f.lenC j hj with ⟨h, -⟩ | ⟨i, hi, hn, hl, -, -⟩
  · exact ⟨-2, mm, bX9_ropeLength_9 ⟨j, rfl, by omega, _, c_hangs (sh_b23 (by omega)), fun _ => ⟨rfl, rfl⟩, fun z => absurd h (bI_1.mp z)⟩, ⟨rfl, rfl, rfl⟩, fun l => ⟨_, bX10_ropeLength_14 ⟨_, cm_hangs (by omega), fun _ => ⟨rfl, rfl⟩, fun z => absurd ((f.hg hj).mpr h) (bI_1.mp z)⟩, mset_eq, hI.congr e⟩⟩
  · have hne : ¬ mm (23 + j) 0 = -1 := by rw [hn]; exact nI_ne_neg (by omega)
    have cl := c_lengthFor (G := G) (mm := mm) (lm := lm) f.m h4 (show j < 8 by omega) hi hn
    rw [hl] at cl
    refine ⟨nI (lnN mm nb j), mm, bX9_ropeLength_9 ⟨j, rfl, by omega, _, c_hangs (sh_b23 (by omega)), fun z => absurd hne (bI_0.mp z), fun _ => ⟨_, cl, rfl, rfl⟩⟩, ⟨rfl, rfl, rfl⟩, fun l => ?_⟩
    have clm := cm_lengthOf (G := G) (mm := mset mm 63 4 0) (lm := l) (show j < 8 by omega) (show i < 4 by omega) ((f.be hj).trans hn)
    rw [f.h hi, f.po hj hne, hl] at clm
    exact ⟨_, bX10_ropeLength_14 ⟨_, cm_hangs (by omega), fun z => absurd (mt (f.hg hj).mp hne) (bI_0.mp z), fun _ => ⟨_, clm, rfl, rfl⟩⟩, mset_eq, hI.congr e⟩
theorem core_fewestPieces : ∀ mm lm, Inv mm → ¬ mm 0 10 = 0 → CoreI G Inv M_X9_fewestPieces M_X10_fewestPieces 4 10 [(0, .ref 0)] [(0, .ref 63)] mm lm := by
  intro mm lm hI _
  obtain ⟨nb, nm, nq, np, fx⟩ := fx_of hI
  have f0 := fx mm EqR.refl.m
  have h8 := f0.n8
  have h4 := f0.m4
  have hall : allH mm nb < 2 ^ nb := mkM_lt _ nb
  have hp8 : 2 ^ nb ≤ 2 ^ 8 := Nat.pow_le_pow_right (by omega) h8
  obtain ⟨mc, w, hC, ct⟩ := c_findCutting (G := G) (lm := lm) f0.n h8 f0.m h4 f0.lenC f0.len5 f0.capC
  have ec := hC.1
  have e := eqR_th ec 0
  have f := fx _ e.m
  obtain ⟨w1, w2, w3⟩ := hC.2.2.2 _ (sb_refl _)
  have model := fun l : Nat → Int64 => cm_cutting (G := G) (mm := mset mc 63 4 0) (lm := l) f.N h8 f.lenM f.R15 f.np8 f.cap73
  rw [f.allE] at model
  by_cases hinf : w (allH mm nb) = 2147483647
  · rw [bI_f (fun z => z hinf)] at ct
    refine ⟨-2, mc, bX9_fewestPieces_4 ⟨_, mc, ct, fun _ => ⟨rfl, rfl⟩, fun z => absurd rfl z⟩, ⟨ec 63 3 rfl, ec 63 5 rfl, ec 63 8 rfl⟩, fun l => ?_⟩
    obtain ⟨m', best, g1, g2, g3, g4, g5⟩ := model l
    rw [rope_inf f.np8 g2 g3 w3 hinf] at g5
    exact ⟨m', bX10_fewestPieces_10 ⟨_, m', g5, fun z => absurd z (show ¬ nI 1000000 < (1000000 : Int32) from by decide), fun _ => ⟨rfl, rfl⟩⟩, by rw [g1 63 (by omega)]; exact mset_eq, hI.congr (eqM_off ec g1 (by omega))⟩
  · rw [bI_t hinf] at ct
    have hlt := lc_le f.np8 w3 (by omega)
    refine ⟨nI (w (allH mm nb) / 16777216), mc, bX9_fewestPieces_4 ⟨_, mc, ct, fun z => absurd z (by decide), fun _ => ⟨_, c_countUsed hC (by omega) hlt, rfl, rfl⟩⟩, ⟨ec 63 3 rfl, ec 63 5 rfl, ec 63 8 rfl⟩, fun l => ?_⟩
    obtain ⟨m', best, g1, g2, g3, g4, g5⟩ := model l
    obtain ⟨b1, u, a, k1, k2, k3, k4, k5, k6⟩ := rope_fin h8 hall f.np8 f0.len0 g3 g4 w3 (by omega)
    have hco := co_le f.np8 (fun b hb hs => (k3 b hb hs).1)
    refine ⟨m', bX10_fewestPieces_10 ⟨_, m', g5, fun _ => ⟨?_, rfl⟩, fun z => absurd (nI_lt (b := 1000000) b1 (by omega)) z⟩, by rw [g1 63 (by omega)]; exact mset_eq, hI.congr (eqM_off ec g1 (by omega))⟩
    rw [k5]
    unfold cost
    rw [k4, show (16777216 * best + coA (allH mm nb) a) / 16777216 = best by omega]
theorem core_pieceOf : ∀ mm lm, Inv mm → ¬ mm 0 10 = 0 → inR 0 (mm 4 9 - 1) x1 → CoreI G Inv M_X9_pieceOf M_X10_pieceOf 9 14 [(0, .ref 0), (1, .int x1)] [(0, .ref 63), (1, .int x1)] mm lm := by
  intro mm lm hI _ gx
  obtain ⟨nb, nm, nq, np, fx⟩ := fx_of hI
  have f0 := fx mm EqR.refl.m
  have h8 := f0.n8
  have h4 := f0.m4
  obtain ⟨j, hj, rfl⟩ := f0.bell gx
  have hall : allH mm nb < 2 ^ nb := mkM_lt _ nb
  have hp8 : 2 ^ nb ≤ 2 ^ 8 := Nat.pow_le_pow_right (by omega) h8
  by_cases h : mm (23 + j) 0 = -1
  · have e := eqR_th (mm := mm) EqR.refl 0
    have f := fx _ e.m
    exact ⟨-2, mm, bX9_pieceOf_9 ⟨j, rfl, by omega, _, c_hangs (sh_b23 (by omega)), fun z => absurd h (bI_1.mp z), fun _ => ⟨rfl, rfl⟩⟩, ⟨rfl, rfl, rfl⟩, fun l => ⟨_, bX10_pieceOf_14 ⟨_, cm_hangs (by omega), fun z => absurd ((f.hg hj).mpr h) (bI_1.mp z), fun _ => ⟨rfl, rfl⟩⟩, mset_eq, hI.congr e⟩⟩
  obtain ⟨mc, w, hC, ct⟩ := c_findCutting (G := G) (lm := lm) f0.n h8 f0.m h4 f0.lenC f0.len5 f0.capC
  have ec := hC.1
  have e := eqR_th ec 0
  have f := fx _ e.m
  have hg := mt (f.hg hj).mp h
  obtain ⟨w1, w2, w3⟩ := hC.2.2.2 _ (sb_refl _)
  have model := fun l : Nat → Int64 => cm_cutting (G := G) (mm := mset mc 63 4 0) (lm := l) f.N h8 f.lenM f.R15 f.np8 f.cap73
  rw [f.allE] at model
  by_cases hinf : w (allH mm nb) = 2147483647
  · rw [bI_f (fun z => z hinf)] at ct
    refine ⟨-3, mc, bX9_pieceOf_9 ⟨j, rfl, by omega, _, c_hangs (sh_b23 (by omega)), fun _ => ⟨_, mc, ct, fun _ => ⟨rfl, rfl⟩, fun z => absurd rfl z⟩, fun z => absurd h (bI_0.mp z)⟩, ⟨ec 63 3 rfl, ec 63 5 rfl, ec 63 8 rfl⟩, fun l => ?_⟩
    obtain ⟨m', best, g1, g2, g3, g4, g5⟩ := model l
    rw [rope_inf f.np8 g2 g3 w3 hinf] at g5
    exact ⟨m', bX10_pieceOf_14 ⟨_, cm_hangs (by omega), fun _ => ⟨_, m', g5, fun z => absurd z (show ¬ nI 1000000 < (1000000 : Int32) from by decide), fun _ => ⟨rfl, rfl⟩⟩, fun z => absurd hg (bI_0.mp z)⟩, by rw [g1 63 (by omega)]; exact mset_eq, hI.congr (eqM_off ec g1 (by omega))⟩
  · rw [bI_t hinf] at ct
    have hlt := lc_le f.np8 w3 (by omega)
    refine ⟨nI (w (allH mm nb) / 8 ^ (7 - j) % 8), mc, bX9_pieceOf_9 ⟨j, rfl, by omega, _, c_hangs (sh_b23 (by omega)), fun _ => ⟨_, mc, ct, fun z => absurd z (by decide), fun _ => ⟨_, c_pieceFor hC (by omega) hlt (by omega), rfl, rfl⟩⟩, fun z => absurd h (bI_0.mp z)⟩, ⟨ec 63 3 rfl, ec 63 5 rfl, ec 63 8 rfl⟩, fun l => ?_⟩
    obtain ⟨m', best, g1, g2, g3, g4, g5⟩ := model l
    obtain ⟨b1, u, a, k1, k2, k3, k4, k5, k6⟩ := rope_fin h8 hall f.np8 f0.len0 g3 g4 w3 (by omega)
    have hjb : (allH mm nb).testBit j = true := by rw [mkM_bit, decide_eq_true hj, Bool.true_and]; exact decide_eq_true h
    have ha : ∀ b, b < 8 → (allH mm nb).testBit b = true → a b < 8 := fun b hb hs => by have := (k3 b hb hs).1; have := f.np8; omega
    refine ⟨m', bX10_pieceOf_14 ⟨_, cm_hangs (by omega), fun _ => ⟨_, m', g5, fun _ => ⟨j, rfl, by omega, ?_, rfl⟩, fun z => absurd (nI_lt (b := 1000000) b1 (by omega)) z⟩, fun z => absurd hg (bI_0.mp z)⟩, by rw [g1 63 (by omega)]; exact mset_eq, hI.congr (eqM_off ec g1 (by omega))⟩
    rw [k5, k6 j hj hjb]
    unfold cost
    rw [dig_of ha (by omega) hjb]
theorem core_waste : ∀ mm lm, Inv mm → ¬ mm 0 10 = 0 → CoreI G Inv M_X9_waste M_X10_waste 4 10 [(0, .ref 0)] [(0, .ref 63)] mm lm := by
  intro mm lm hI _
  obtain ⟨nb, nm, nq, np, fx⟩ := fx_of hI
  have f0 := fx mm EqR.refl.m
  have h8 := f0.n8
  have h4 := f0.m4
  have hall : allH mm nb < 2 ^ nb := mkM_lt _ nb
  have hp8 : 2 ^ nb ≤ 2 ^ 8 := Nat.pow_le_pow_right (by omega) h8
  obtain ⟨mc, w, hC, ct⟩ := c_findCutting (G := G) (lm := lm) f0.n h8 f0.m h4 f0.lenC f0.len5 f0.capC
  have ec := hC.1
  have e := eqR_th ec 0
  have f := fx _ e.m
  obtain ⟨w1, w2, w3⟩ := hC.2.2.2 _ (sb_refl _)
  have model := fun l : Nat → Int64 => cm_cutting (G := G) (mm := mset mc 63 4 0) (lm := l) f.N h8 f.lenM f.R15 f.np8 f.cap73
  rw [f.allE] at model
  by_cases hinf : w (allH mm nb) = 2147483647
  · rw [bI_f (fun z => z hinf)] at ct
    refine ⟨-2, mc, bX9_waste_4 ⟨_, mc, ct, fun _ => ⟨rfl, rfl⟩, fun z => absurd rfl z⟩, ⟨ec 63 3 rfl, ec 63 5 rfl, ec 63 8 rfl⟩, fun l => ?_⟩
    obtain ⟨m', best, g1, g2, g3, g4, g5⟩ := model l
    rw [rope_inf f.np8 g2 g3 w3 hinf] at g5
    exact ⟨m', bX10_waste_10 ⟨_, m', g5, fun z => absurd z (show ¬ nI 1000000 < (1000000 : Int32) from by decide), fun _ => ⟨rfl, rfl⟩⟩, by rw [g1 63 (by omega)]; exact mset_eq, hI.congr (eqM_off ec g1 (by omega))⟩
  · rw [bI_t hinf] at ct
    -- the cutting itself, as the class has it
    obtain ⟨a0, v0, c0⟩ := (w3 (w (allH mm nb)) (by omega)).mp (Nat.le_refl _)
    have cl := cost_le f.np8 v0
    have c1 := (w3 (cost np (allH mm nb) a0) (by omega)).mpr ⟨a0, v0, Nat.le_refl _⟩
    have ce : w (allH mm nb) = cost np (allH mm nb) a0 := by omega
    refine ⟨_, mc, bX9_waste_4 ⟨_, mc, ct, fun z => absurd z (by decide), fun _ => ⟨_, c_lengthLeft f0.n h8 f0.capC hC v0 ce, rfl, rfl⟩⟩, ⟨ec 63 3 rfl, ec 63 5 rfl, ec 63 8 rfl⟩, fun l => ?_⟩
    obtain ⟨m', best, g1, g2, g3, g4, g5⟩ := model l
    obtain ⟨b1, u, a, k1, k2, k3, k4, k5, k6⟩ := rope_fin h8 hall f.np8 f0.len0 g3 g4 w3 (by omega)
    have h0 : ∀ b, b < 8 → (allH mm nb).testBit b = true → a0 b < 8 := fun b hb hs => by have := (v0 b hb hs).1; have := f.np8; omega
    have ha : ∀ b, b < 8 → (allH mm nb).testBit b = true → a b < 8 := fun b hb hs => by have := (k3 b hb hs).1; have := f.np8; omega
    have same : ∀ b, b < 8 → (allH mm nb).testBit b = true → a0 b = a b := fun b hb hs => by
      have d1 := dig_of (us := usA np (allH mm nb) a0) h0 hb hs
      have d2 := dig_of (us := usA np (allH mm nb) a) ha hb hs
      rw [← d1, ← d2]
      have e1 : 16777216 * usA np (allH mm nb) a0 + coA (allH mm nb) a0 = w (allH mm nb) := ce.symm
      have e2 : 16777216 * usA np (allH mm nb) a + coA (allH mm nb) a = w (allH mm nb) := k5.symm
      rw [e1, e2]
    have fle : ∀ p, (flA (allH mm nb) a0 p = 0) = (flA (allH mm nb) a p = 0) := fun p => by
      rw [fl_0, fl_0]
      refine propext ⟨fun z b hb hs => by rw [← same b hb hs]; exact z b hb hs, fun z b hb hs => by rw [same b hb hs]; exact z b hb hs⟩
    have us : uSum (cpN mm) (allH mm nb) a0 np = uSum (cpN mm) (allH mm nb) a np := fb_sm_cong fun p _ => by
      by_cases z : flA (allH mm nb) a p = 0
      · rw [if_pos z, if_pos (by rw [fle]; exact z)]
      · rw [if_neg z, if_neg (by rw [fle]; exact z)]
    have cw := cm_waste (G := G) (lm := l) k1 k2 f0.len0 (fun b hb hs => (k3 b hb hs).1)
    rw [us]
    exact ⟨m', bX10_waste_10 ⟨_, m', g5, fun _ => cw, fun z => absurd (nI_lt (b := 1000000) b1 (by omega)) z⟩, by rw [g1 63 (by omega)]; exact mset_eq, hI.congr (eqM_off ec g1 (by omega))⟩
theorem c_leastMissing (h : CutC mm len cap nb np all m w) (hall : all < 2 ^ nb) (h8 : nb ≤ 8) (hl : ∀ b, b < 8 → len b ≤ 5200) : ∃ v1, v1 ≤ 41600 ∧ (∀ v, v1 ≤ v ↔ wsum all len ≤ v ∨ ∃ c, 0 < c ∧ Sb c all ∧ w (all ^^^ c) < 2147483647 ∧ wsum c len ≤ v) ∧ Ct G M_X5_leastMissingLength [.ref 44] (SH, m, lm) false (.inl (some (.int (nI v1)))) (SH, m, lm) false 0 0 := by
  have hp8 : 2 ^ nb ≤ 2 ^ 8 := Nat.pow_le_pow_right (by omega) h8
  obtain ⟨e, e44, eS, eW⟩ := h
  have key : ∀ cut, Sb cut all → ∀ v1, v1 ≤ 41600 → (∀ v, v1 ≤ v ↔ wsum all len ≤ v ∨ ∃ c, cut < c ∧ Sb c all ∧ w (all ^^^ c) < 2147483647 ∧ wsum c len ≤ v) → ∃ v2, v2 ≤ 41600 ∧ (∀ v, v2 ≤ v ↔ wsum all len ≤ v ∨ ∃ c, 0 < c ∧ Sb c all ∧ w (all ^^^ c) < 2147483647 ∧ wsum c len ≤ v) ∧ J G M_X5_leastMissingLength 15 [(0, .ref 44), (1, .int (nI v1)), (2, .int (nI cut))] [] (SH, m, lm) false (.inl (some (.int (nI v2)))) (SH, m, lm) false 0 0 := by
    intro cut
    induction cut using Nat.strongRecOn with
    | ind cut ih =>
      intro hcut v1 hv1 hg
      have hle := sb_le hcut
      by_cases c0 : cut = 0
      · subst c0
        exact ⟨v1, hv1, hg, bX5_leastMissingLength_15 ⟨fun _ => ⟨rfl, rfl⟩, fun z => absurd (by decide) z⟩⟩
      · have hnx : Sb ((cut - 1) &&& all) all := fun b hb => by
          rw [Nat.testBit_and, Bool.and_eq_true] at hb; exact hb.2
        have hlt : (cut - 1) &&& all < cut := by have := Nat.and_le_left (n := cut - 1) (m := all); omega
        have ec : (nI cut - 1) &&& m 44 5 = nI ((cut - 1) &&& all) := by
          rw [e44, show (1 : Int32) = nI 1 from rfl, pk_sub (by omega), fa_and]
        have eand : m 44 5 &&& (nI cut ^^^ (-1)) = nI (all ^^^ cut) := by rw [e44]; exact andn_nI hcut
        have hx := sb_xor hcut
        have hxl := sb_le hx
        obtain ⟨r1, r2, -⟩ := eW _ hx
        have hT := (eS cut (by omega)).1
        have hTle := ws_bd hl cut
        have parts : ∀ c, (((cut - 1) &&& all < c ∧ Sb c all) ↔ (cut < c ∨ c = cut) ∧ Sb c all) := fun c => by
          refine ⟨fun ⟨z1, z2⟩ => ⟨?_, z2⟩, fun ⟨z1, z2⟩ => ⟨by omega, z2⟩⟩
          rcases Nat.lt_trichotomy c cut with w | w | w
          · have := sb_next hcut (by omega) z2 w
            omega
          · exact Or.inr w
          · exact Or.inl w
        have pos : ¬ nI cut ≤ 0 := nI_ge (a := 0) (by omega) (by omega)
        by_cases hfin : w (all ^^^ cut) < 2147483647
        · have cm := c_min (G := G) (mm := m) (lm := lm) (nI v1) (nI (wsum cut len))
          have hv2 : (if nI (wsum cut len) < nI v1 then nI (wsum cut len) else nI v1) = nI (min v1 (wsum cut len)) := by
            by_cases z : wsum cut len < v1
            · rw [if_pos (nI_lt z (by omega)), Nat.min_eq_right (by omega)]
            · rw [if_neg (nI_nlt (by omega) (by omega)), Nat.min_eq_left (by omega)]
          rw [hv2] at cm
          obtain ⟨v2, q1, q2, q3⟩ := ih _ hlt hnx (min v1 (wsum cut len)) (by omega) (fun v => by
            have mi : min v1 (wsum cut len) ≤ v ↔ v1 ≤ v ∨ wsum cut len ≤ v := by omega
            rw [mi, hg v]
            constructor
            · rintro ((z | ⟨c, y1, y2, y3⟩) | z)
              · exact Or.inl z
              · exact Or.inr ⟨c, by omega, y2, y3⟩
              · exact Or.inr ⟨cut, hlt, hcut, hfin, z⟩
            · rintro (z | ⟨c, y1, y2, y3, y4⟩)
              · exact Or.inl (Or.inl z)
              · obtain ⟨w1, -⟩ := (parts c).mp ⟨y1, y2⟩
                rcases w1 with w1 | w1
                · exact Or.inl (Or.inr ⟨c, w1, y2, y3, y4⟩)
                · rw [w1] at y4; exact Or.inr y4)
          exact ⟨v2, q1, q2, bX5_leastMissingLength_15 ⟨fun z => absurd z pos, fun _ => ⟨all ^^^ cut, eand, by omega, fun z => absurd z (by rw [r1]; exact fun y => by have := (nI_eq (b := 2147483647) (by omega) (by omega)).mp y; omega), fun _ => ⟨cut, rfl, by omega, _, by rw [hT]; exact cm, by rw [ec]; exact q3⟩⟩⟩⟩
        · have heq : w (all ^^^ cut) = 2147483647 := by omega
          obtain ⟨v2, q1, q2, q3⟩ := ih _ hlt hnx v1 hv1 (fun v => by
            rw [hg v]
            refine ⟨fun z => z.elim Or.inl fun ⟨c, y1, y2, y3⟩ => Or.inr ⟨c, by omega, y2, y3⟩, fun z => z.elim Or.inl fun ⟨c, y1, y2, y3, y4⟩ => ?_⟩
            obtain ⟨w1, -⟩ := (parts c).mp ⟨y1, y2⟩
            rcases w1 with w1 | w1
            · exact Or.inr ⟨c, w1, y2, y3, y4⟩
            · rw [w1] at y3; exact absurd y3 hfin)
          exact ⟨v2, q1, q2, bX5_leastMissingLength_15 ⟨fun z => absurd z pos, fun _ => ⟨all ^^^ cut, eand, by omega, fun _ => by rw [ec]; exact q3, fun z => absurd (by rw [r1, heq]; rfl) z⟩⟩⟩
  obtain ⟨v2, q1, q2, q3⟩ := key all (sb_refl all) (wsum all len) (ws_bd hl all) (fun v => ⟨Or.inl, fun z => z.elim id fun ⟨c, c1, c2, _⟩ => by have := sb_le c2; omega⟩)
  exact ⟨v2, q1, q2, CJ (bX5_leastMissingLength_0 ⟨all, e44, by omega, by rw [(eS all hall).1, e44]; exact q3⟩)⟩
theorem cm_extraLoop {F : Nat → Nat} (hall : all < 256) (hF : ∀ s, s < 256 → m 81 s = nI (F s) ∧ F s ≤ 1000000) (hS : ∀ s, Sb s all → m 84 s = nI (wsum s len)) (hl : ∀ b, b < 8 → len b ≤ 5200) : ∃ v1, v1 ≤ 1000000 ∧ (∀ v, v1 ≤ v ↔ 1000000 ≤ v ∨ ∃ c, Sb c all ∧ F (all ^^^ c) < 1000000 ∧ wsum c len ≤ v) ∧ J G M_X10_extraPiece 50 [(0, .ref 63), (1, .int (nI all)), (2, .int 1000000), (3, .int (nI all))] [] (SH, m, lm) false (.inl (some (.int (nI v1)))) (SH, m, lm) false 0 0 := by
  have key : ∀ q, q ≤ 256 → ∀ v1, v1 ≤ 1000000 → (∀ v, v1 ≤ v ↔ 1000000 ≤ v ∨ ∃ c, q ≤ c ∧ Sb c all ∧ F (all ^^^ c) < 1000000 ∧ wsum c len ≤ v) → ∃ v2, v2 ≤ 1000000 ∧ (∀ v, v2 ≤ v ↔ 1000000 ≤ v ∨ ∃ c, Sb c all ∧ F (all ^^^ c) < 1000000 ∧ wsum c len ≤ v) ∧ J G M_X10_extraPiece 50 [(0, .ref 63), (1, .int (nI all)), (2, .int (nI v1)), (3, .int (nI q + (-1)))] [] (SH, m, lm) false (.inl (some (.int (nI v2)))) (SH, m, lm) false 0 0 := by
    intro q
    induction q with
    | zero =>
      intro _ v1 hv1 hg
      exact ⟨v1, hv1, fun v => by rw [hg v]; exact ⟨fun z => z.elim Or.inl fun ⟨c, _, y⟩ => Or.inr ⟨c, y⟩, fun z => z.elim Or.inl fun ⟨c, y⟩ => Or.inr ⟨c, Nat.zero_le _, y⟩⟩, bX10_extraPiece_50 ⟨fun _ => ⟨rfl, rfl⟩, fun z => absurd (by decide) z⟩⟩
    | succ s ih =>
      intro hs v1 hv1 hg
      rw [nI_dec]
      have hsd := sbs_dec (show s < 256 by omega) hall
      have skip : ¬ (Sb s all ∧ F (all ^^^ s) < 1000000 ∧ wsum s len < v1) → ∃ v2, v2 ≤ 1000000 ∧ (∀ v, v2 ≤ v ↔ 1000000 ≤ v ∨ ∃ c, Sb c all ∧ F (all ^^^ c) < 1000000 ∧ wsum c len ≤ v) ∧ J G M_X10_extraPiece 50 [(0, .ref 63), (1, .int (nI all)), (2, .int (nI v1)), (3, .int (nI s + (-1)))] [] (SH, m, lm) false (.inl (some (.int (nI v2)))) (SH, m, lm) false 0 0 := fun hno => by
        refine ih (by omega) v1 hv1 fun v => ?_
        rw [hg v]
        refine ⟨fun z => z.elim Or.inl fun ⟨c, y1, y2⟩ => Or.inr ⟨c, by omega, y2⟩, fun z => z.elim Or.inl fun ⟨c, y1, y2, y3, y4⟩ => ?_⟩
        by_cases ecs : c = s
        · rw [ecs] at y2 y3 y4
          have : v1 ≤ wsum s len := Nat.not_lt.mp fun w => hno ⟨y2, y3, w⟩
          exact (hg v).mp (by omega)
        · exact Or.inr ⟨c, by omega, y2, y3, y4⟩
      have pos : ¬ nI s < 0 := nI_pos (by omega)
      by_cases hsb : Sb s all
      · have hx : all ^^^ s < 256 := Nat.lt_of_le_of_lt (sb_le (sb_xor hsb)) hall
        obtain ⟨f1, f2⟩ := hF _ hx
        have ex : nI all ^^^ nI s = nI (all ^^^ s) := fb_xorI _ _
        have hT := hS s hsb
        have hTl := ws_bd hl s
        by_cases hf : F (all ^^^ s) < 1000000
        · by_cases hv : wsum s len < v1
          · obtain ⟨v2, q1, q2, q3⟩ := ih (by omega) (wsum s len) (by omega) (fun v => by
              constructor
              · intro z
                exact Or.inr ⟨s, Nat.le_refl _, hsb, hf, z⟩
              · rintro (z | ⟨c, y1, y2, y3, y4⟩)
                · omega
                · by_cases ecs : c = s
                  · rw [ecs] at y4; exact y4
                  · have := (hg v).mpr (Or.inr ⟨c, by omega, y2, y3, y4⟩)
                    omega)
            exact ⟨v2, q1, q2, bX10_extraPiece_50 ⟨fun z => absurd z pos, fun _ => ⟨fun z => absurd (hsd.mpr hsb) z, fun _ => ⟨all ^^^ s, ex, by omega, fun z => absurd z (by rw [f1]; exact nI_ge (b := 1000000) hf (by omega)), fun _ => ⟨s, rfl, by omega, fun z => absurd z (by rw [hT]; exact nI_ge hv (by omega)), fun _ => ⟨s, rfl, by omega, by rw [hT]; exact q3⟩⟩⟩⟩⟩⟩
          · obtain ⟨v2, q1, q2, q3⟩ := skip (fun z => hv z.2.2)
            exact ⟨v2, q1, q2, bX10_extraPiece_50 ⟨fun z => absurd z pos, fun _ => ⟨fun z => absurd (hsd.mpr hsb) z, fun _ => ⟨all ^^^ s, ex, by omega, fun z => absurd z (by rw [f1]; exact nI_ge (b := 1000000) hf (by omega)), fun _ => ⟨s, rfl, by omega, fun _ => q3, fun z => absurd (by rw [hT]; exact nI_le (by omega) (by omega)) z⟩⟩⟩⟩⟩
        · obtain ⟨v2, q1, q2, q3⟩ := skip (fun z => hf z.2.1)
          have hf9 : F (all ^^^ s) = 1000000 := by omega
          exact ⟨v2, q1, q2, bX10_extraPiece_50 ⟨fun z => absurd z pos, fun _ => ⟨fun z => absurd (hsd.mpr hsb) z, fun _ => ⟨all ^^^ s, ex, by omega, fun _ => q3, fun z => absurd (by rw [f1, hf9]; exact Int32.le_refl _) z⟩⟩⟩⟩
      · obtain ⟨v2, q1, q2, q3⟩ := skip (fun z => hsb z.1)
        exact ⟨v2, q1, q2, bX10_extraPiece_50 ⟨fun z => absurd z pos, fun _ => ⟨fun _ => q3, fun z => absurd (hsd.mp z) hsb⟩⟩⟩
  obtain ⟨v2, q1, q2, q3⟩ := key (all + 1) (by omega) 1000000 (Nat.le_refl _) (fun v => ⟨Or.inl, fun z => z.elim id fun ⟨c, y1, y2, _⟩ => by have := sb_le y2; omega⟩)
  rw [nI_dec] at q3
  exact ⟨v2, q1, q2, q3⟩
theorem core_extraPiece : ∀ mm lm, Inv mm → ¬ mm 0 10 = 0 → CoreI G Inv M_X9_extraPiece M_X10_extraPiece 4 10 [(0, .ref 0)] [(0, .ref 63)] mm lm := by
  intro mm lm hI _
  obtain ⟨nb, nm, nq, np, fx⟩ := fx_of hI
  have f0 := fx mm EqR.refl.m
  have h8 := f0.n8
  have h4 := f0.m4
  have hall : allH mm nb < 2 ^ nb := mkM_lt _ nb
  have hp8 : 2 ^ nb ≤ 2 ^ 8 := Nat.pow_le_pow_right (by omega) h8
  obtain ⟨mc, w, hC, ct⟩ := c_findCutting (G := G) (lm := lm) f0.n h8 f0.m h4 f0.lenC f0.len5 f0.capC
  have ec := hC.1
  have e := eqR_th ec 0
  have f := fx _ e.m
  have hW := hC.2.2.2
  -- the reference
  have model : ∀ l : Nat → Int64, ∃ m' F v1, (∀ c, c < 81 ∨ 84 < c → m' c = mset mc 63 4 0 c) ∧ (∀ s, Sb s (allH mm nb) → FwA (lnN mm nb) (cpN mm) (fun _ => 0) np 0 F s) ∧ (∀ s, s < 256 → F s ≤ 1000000) ∧ v1 ≤ 1000000 ∧ (∀ v, v1 ≤ v ↔ 1000000 ≤ v ∨ ∃ c, Sb c (allH mm nb) ∧ F (allH mm nb ^^^ c) < 1000000 ∧ wsum c (lnN mm nb) ≤ v) ∧ J G M_X10_extraPiece 10 [(0, .ref 63)] [] (SH, mset mc 63 4 0, l) false (.inl (some (.int (nI v1)))) (SH, m', l) false 0 0 := by
    intro l
    obtain ⟨m3, s1, s2, ct3⟩ := cm_laySums (G := G) (mm := mset mc 63 4 0) (lm := l) f.N h8 f.lenM
    rw [f.allE] at s2
    have zero := loop_up (n := 8) (P := fun p => ∀ m, (∀ c, c ≠ 82 → m c = m3 c) → (∀ r, r < p → m 82 r = 0) → ∃ m' F v1, (∀ c, c < 81 ∨ 84 < c → m' c = mset mc 63 4 0 c) ∧ (∀ s, Sb s (allH mm nb) → FwA (lnN mm nb) (cpN mm) (fun _ => 0) np 0 F s) ∧ (∀ s, s < 256 → F s ≤ 1000000) ∧ v1 ≤ 1000000 ∧ (∀ v, v1 ≤ v ↔ 1000000 ≤ v ∨ ∃ c, Sb c (allH mm nb) ∧ F (allH mm nb ^^^ c) < 1000000 ∧ wsum c (lnN mm nb) ≤ v) ∧ J G M_X10_extraPiece 16 [(0, .ref 63), (1, .int (nI p))] [] (SH, m, l) false (.inl (some (.int (nI v1)))) (SH, m', l) false 0 0) ?_ ?_ 0 (Nat.zero_le _) m3 (fun _ _ => rfl) (fun r hr => absurd hr (Nat.not_lt_zero r))
    · obtain ⟨m', F, v1, g1, g2, g3, g4, g5, g6⟩ := zero
      exact ⟨m', F, v1, g1, g2, g3, g4, g5, bX10_extraPiece_10 ⟨m3, ct3, g6⟩⟩
    · intro m hm h82
      have mcc : ∀ c, c < 81 ∨ 84 < c → m c = mset mc 63 4 0 c := fun c hc => by rw [hm c (by omega), s1 c (by omega)]
      have hM : MbR (mset mc 63 4 0) (lnN mm nb) (cpN mm) (fun _ => 0) np (allH mm nb) m := ⟨mcc, ⟨f.R15, f.np8⟩, f.cap73, fun r hr => ⟨h82 r hr, Nat.zero_le _⟩, fun s hs => by rw [hm 84 (by decide)]; exact s2 s hs, fun s => by
        by_cases h : Sb s (allH mm nb)
        · rw [sumM_in h]; have := ws_bd f.len5 s; omega
        · rw [sumM_out h]; exact Nat.le_refl _⟩
      obtain ⟨m6, F, f1, f2, f3, ct6⟩ := cm_layFewest (G := G) (lm := l) (show allH mm nb < 256 by omega) hM
      have m6c : ∀ c, c < 81 ∨ 84 < c → m6 c = mset mc 63 4 0 c := fun c hc => by rw [f1 c (by omega)]; exact mcc c hc
      have ch := cm_hanging (G := G) (mm := m6) (lm := l) (nb := nb) (by rw [m6c 63 (by omega)]; exact f.N) h8
      have ea : allM m6 nb = allH mm nb := by
        have e : hgM m6 = hgM (mset mc 63 4 0) := by unfold hgM; rw [m6c 64 (by omega)]
        rw [← f.allE]; unfold allM; rw [e]
      rw [ea] at ch
      obtain ⟨v1, q1, q2, q3⟩ := cm_extraLoop (G := G) (lm := l) (all := allH mm nb) (len := lnN mm nb) (m := m6) (show allH mm nb < 256 by omega) f2 (fun s hs => by
        have := sb_le hs
        rw [f1 84 (by decide), hm 84 (by decide), s2 s (by omega), sumM_in hs]) f.len5
      exact ⟨m6, F, v1, m6c, f3, fun s hs => (f2 s hs).2, q1, q2, bX10_extraPiece_16 ⟨fun _ => ⟨m6, ct6, _, ch, q3⟩, fun z => absurd (lit_le (n := 8) rfl) z⟩⟩
    · intro p hp ih m hm h82
      obtain ⟨m', F, v1, g1, g2, g3, g4, g5, g6⟩ := ih (mset m 82 p 0) (fun c hc => by rw [mset_ne hc]; exact hm c hc) (fun r hr => by
        by_cases e : r = p
        · subst e; exact mset_eq
        · rw [mset_ne2 (fun z => e z.2)]; exact h82 r (by omega))
      exact ⟨m', F, v1, g1, g2, g3, g4, g5, bX10_extraPiece_16 ⟨fun z => absurd z (lit_ge (n := 8) rfl hp (by omega)), fun _ => ⟨p, rfl, hp, by rw [nI_1]; exact g6⟩⟩⟩
  -- both say alike which sets can be cut
  have iff : ∀ (F : Nat → Nat), (∀ s, Sb s (allH mm nb) → FwA (lnN mm nb) (cpN mm) (fun _ => 0) np 0 F s) → (∀ s, s < 256 → F s ≤ 1000000) → ∀ s, Sb s (allH mm nb) → (F s < 1000000 ↔ w s < 2147483647) := fun F hF hle s hs => by
    have hsl := sb_le hs
    obtain ⟨-, r2, r3⟩ := hW s hs
    constructor
    · intro z
      obtain ⟨a, a1, -⟩ := (hF s hs (F s) z).mp (Nat.le_refl _)
      have a2 := vm0.mp a1
      have c := cost_le f.np8 a2
      have := (r3 (cost np s a) (by omega)).mpr ⟨a, a2, Nat.le_refl _⟩
      omega
    · intro z
      obtain ⟨a, a1, -⟩ := (r3 (w s) z).mp (Nat.le_refl _)
      have u1 : usA np s a ≤ np := fb_ct_le _ np
      have u2 := f.np8
      have := (hF s hs (usA np s a) (by omega)).mpr ⟨a, vm0.mpr a1, by rw [nw0]; exact Nat.le_refl _⟩
      omega
  by_cases hinf : w (allH mm nb) = 2147483647
  · rw [bI_f (fun z => z hinf)] at ct
    obtain ⟨v0, p1, p2, p3⟩ := c_leastMissing (G := G) (lm := lm) hC hall h8 f0.len5
    refine ⟨nI v0, mc, bX9_extraPiece_4 ⟨_, mc, ct, fun _ => ⟨_, p3, rfl, rfl⟩, fun z => absurd rfl z⟩, ⟨ec 63 3 rfl, ec 63 5 rfl, ec 63 8 rfl⟩, fun l => ?_⟩
    obtain ⟨m', F, v1, g1, g2, g3, g4, g5, g6⟩ := model l
    have hi := iff F g2 g3
    have hTa := ws_bd f0.len5 (allH mm nb)
    have eq : v1 = v0 := by
      have all0 : ∀ v, v1 ≤ v ↔ v0 ≤ v := fun v => by
        rw [g5 v, p2 v]
        constructor
        · rintro (z | ⟨c, y1, y2, y3⟩)
          · exact Or.inl (by omega)
          · have hw := (hi _ (sb_xor y1)).mp y2
            by_cases c0 : c = 0
            · rw [c0, Nat.xor_zero, hinf] at hw; omega
            · exact Or.inr ⟨c, by omega, y1, hw, y3⟩
        · rintro (z | ⟨c, y1, y2, y3, y4⟩)
          · refine Or.inr ⟨allH mm nb, sb_refl _, ?_, z⟩
            rw [Nat.xor_self]
            refine (hi 0 (sb_zero _)).mpr ?_
            have := ((hW 0 (sb_zero _)).2.2 0 (by omega)).mpr ⟨fun _ => 0, fun b hb hs => (by rw [Nat.zero_testBit] at hs; cases hs), ?_⟩
            · omega
            · unfold cost usA coA
              rw [ws_0, fb_ct_zero.mpr fun p _ => decide_eq_false fun y => y (fl_0.mpr fun b hb hs => (by rw [Nat.zero_testBit] at hs; cases hs))]
              exact Nat.le_refl _
          · exact Or.inr ⟨c, y2, (hi _ (sb_xor y2)).mpr y3, y4⟩
      exact Nat.le_antisymm ((all0 v0).mpr (Nat.le_refl _)) ((all0 v1).mp (Nat.le_refl _))
    rw [eq] at g6
    exact ⟨m', g6, by rw [g1 63 (by omega)]; exact mset_eq, hI.congr (eqM_off ec g1 (by omega))⟩
  · rw [bI_t hinf] at ct
    refine ⟨0, mc, bX9_extraPiece_4 ⟨_, mc, ct, fun z => absurd z (by decide), fun _ => ⟨rfl, rfl⟩⟩, ⟨ec 63 3 rfl, ec 63 5 rfl, ec 63 8 rfl⟩, fun l => ?_⟩
    obtain ⟨m', F, v1, g1, g2, g3, g4, g5, g6⟩ := model l
    have hi := iff F g2 g3
    have hfin : w (allH mm nb) < 2147483647 := by have := (hW _ (sb_refl (allH mm nb))).2.1; omega
    have eq : v1 = 0 := by
      have := (g5 0).mpr (Or.inr ⟨0, sb_zero _, by rw [Nat.xor_zero]; exact (hi _ (sb_refl _)).mpr hfin, by rw [ws_0]; exact Nat.le_refl _⟩)
      omega
    rw [eq] at g6
    exact ⟨m', g6, by rw [g1 63 (by omega)]; exact mset_eq, hI.congr (eqM_off ec g1 (by omega))⟩
end RoD
