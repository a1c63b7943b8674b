/-! ===== swings, asked ===== -/
theorem nat_rng {l g : Nat} {x : Int32} (h : inR (nI l) (nI g) x) (hg : g < 2 ^ 31) (hl : l < 2 ^ 31) : ∃ n, l ≤ n ∧ n ≤ g ∧ x = nI n := inR_nat h hg hl
theorem z_toI : (0 : Int32).toInt = 0 := rfl
theorem ofs_0 (p d : Int32) : ofs p d 0 = 0 := by
  unfold ofs
  simp only [Int32.zero_mul, Int32.zero_div, ite_self]
theorem ob_ofs {p a : Int32} (hp : 0 < p) {s T : Nat} (hs : s < 2 ^ 31) (hT : T < 2 ^ 31) : obM p (nI s) a (nI T) = ofs p (nI T - nI s) a := by
  have hd : (nI T - nI s).toInt = (T : Int) - s := by rw [fb_subI (by rw [nI_toInt hT, nI_toInt hs]; omega) (by rw [nI_toInt hT, nI_toInt hs]; omega), nI_toInt hT, nI_toInt hs]
  unfold obM ofs ofM
  by_cases h : s ≤ T
  · rw [if_pos (nI_le h hT), if_neg (show ¬ nI T - nI s < 0 by rw [fa_lt, hd, z_toI]; omega), if_pos hp]
  · rw [if_neg (show ¬ nI s ≤ nI T by rw [nI_leI hs hT]; exact h), if_pos (show nI T - nI s < 0 by rw [fa_lt, hd, z_toI]; omega)]
section SwB
variable {mm M : Nat → Nat → Int32} {nb nm nq np k j o : Nat}
theorem Fx.sw (f : Fx mm M nb nm nq np) (hk : k < nb) : (¬ M 64 (10 * k + 5) < 0) ↔ ¬ mm (23 + k) 5 ≤ 0 := by
  rw [f.r64]; exact rb_swing (f.r hk)
theorem Fx.pp (f : Fx mm M nb nm nq np) (hk : k < nb) : 0 < mm 9 k := by
  obtain ⟨p, h1, h2, h3⟩ := f.pn hk
  rw [h3]; exact nI_lt (a := 0) (by omega) (by omega)
theorem Fx.st (f : Fx mm M nb nm nq np) (hk : k < nb) : ∃ s, s < 1000 ∧ mm (23 + k) 4 = nI s := (f.r hk).2.2.2.2.1
theorem Fx.am (f : Fx mm M nb nm nq np) (hk : k < nb) : (mm (23 + k) 5 = 0 ∧ M 64 (10 * k + 5) = -1) ∨ ∃ a, 1 ≤ a ∧ a ≤ 15 ∧ mm (23 + k) 5 = nI a ∧ M 64 (10 * k + 5) = nI a ∧ mm (23 + k) 4 = M 64 (10 * k + 4) := by
  rw [f.r64]; exact (f.r hk).2.2.2.2.2.1
theorem Fx.off (f : Fx mm M nb nm nq np) (hk : k < nb) {T : Nat} (hT : T < 2 ^ 31) : oaM M k (nI T) = ofK mm k (nI T) := by
  unfold oaM ofK
  obtain ⟨s, hs, h4⟩ := f.st hk
  rcases f.am hk with ⟨h5, g5⟩ | ⟨a, ha1, ha2, h5, g5, e4⟩
  · rw [g5, if_pos (by decide), h5, ofs_0]
  · rw [g5, if_neg (nI_pos (by omega)), ← e4, h4, h5, f.pe hk]
    exact ob_ofs (f.pp hk) (by omega) hT
theorem Fx.ob (f : Fx mm M nb nm nq np) (hk : k < nb) {s T : Nat} (hs : s < 2 ^ 31) (hT : T < 2 ^ 31) (a : Int32) : obM (M 70 k) (nI s) a (nI T) = ofs (mm 9 k) (nI T - nI s) a := by
  rw [f.pe hk]; exact ob_ofs (f.pp hk) hs hT
theorem sub4 (a x b y : Int32) : a + x - b - y = (a + x) - (b + y) := by grind
theorem Fx.gp (f : Fx mm M nb nm nq np) (hj : j < nb) (ho : o < nb) (h1 : ¬ mm (23 + j) 0 = -1) (h2 : ¬ mm (23 + o) 0 = -1) {T : Nat} (hT : T < 2 ^ 31) : gaM M j (oaM M j (nI T)) o (oaM M o (nI T)) = gaS mm j o (spK mm j (nI T) - spK mm o (nI T)) := by
  unfold gaM gaS spK
  rw [f.off hj hT, f.off ho hT, f.po hj h1, f.po ho h2, f.ra hj, f.ra ho, sub4]
theorem Fx.tog (f : Fx mm M nb nm nq np) (hj : j < nb) (ho : o < nb) : togM M j o ↔ (¬ mm (23 + j) 0 = -1 ∧ mm (23 + j) 0 = mm (23 + o) 0) := by
  unfold togM
  rw [f.hg hj, f.be hj, f.be ho]
theorem Fx.col (f : Fx mm M nb nm nq np) {T : Nat} (hT : T < 2 ^ 31) (hj : j < nb) (ho : o < nb) : colM M (nI T) j o = colB mm (nI T) j o := by
  unfold colM colB
  rw [decide_eq_decide, f.tog hj ho]
  refine ⟨fun z => ⟨z.1, ?_⟩, fun z => ⟨z.1, ?_⟩⟩
  · have q := z.2
    rw [f.gp hj ho z.1.1 (fun e => z.1.1 (z.1.2.trans e)) hT] at q
    exact Int32.not_le.mp q
  · rw [f.gp hj ho z.1.1 (fun e => z.1.1 (z.1.2.trans e)) hT]
    exact Int32.not_le.mpr z.2
theorem Fx.str (f : Fx mm M nb nm nq np) (hk : k < nb) (hs : ¬ mm (23 + k) 5 ≤ 0) (t : Int32) : strM (M 70 k) (t - M 64 (10 * k + 4)) = strB (mm 9 k) (t - mm (23 + k) 4) := by
  rcases f.am hk with ⟨h5, g5⟩ | ⟨a, ha1, ha2, h5, g5, e4⟩
  · exact absurd (by rw [h5]; decide) hs
  · unfold strM strB
    rw [f.pe hk, ← e4, decide_eq_decide]
    exact ⟨fun z => ⟨z.1, f.pp hk, z.2⟩, fun z => ⟨z.1, z.2.2⟩⟩
/-- the class's first tick and pair, the reference's number of both -/
theorem colV_tick {p : Nat → Nat → Nat → Bool} {n : Nat} : ∀ {d t : Nat}, nextN (fun t => (pairF (p t) n n 0).isSome) d t = none → colV p n d t = -1
  | 0, _, _ => rfl
  | d + 1, t, h => by
    cases e : pairF (p t) n n 0 with
    | some q =>
      rw [nextN_t (p := fun t => (pairF (p t) n n 0).isSome) (k := t) (by show (pairF (p t) n n 0).isSome = true; rw [e]; rfl)] at h
      cases h
    | none =>
      rw [nextN_f (p := fun t => (pairF (p t) n n 0).isSome) (k := t) (by show (pairF (p t) n n 0).isSome = false; rw [e]; rfl)] at h
      simp only [colV, e]
      exact colV_tick h
theorem colV_at {p : Nat → Nat → Nat → Bool} {n : Nat} : ∀ {d t m : Nat}, nextN (fun t => (pairF (p t) n n 0).isSome) d t = some m → ∃ q, pairF (p m) n n 0 = some q ∧ colV p n d t = 64 * nI m + 8 * nI q.1 + nI q.2
  | 0, _, _, h => by cases h
  | d + 1, t, m, h => by
    cases e : pairF (p t) n n 0 with
    | some q =>
      rw [nextN_t (p := fun t => (pairF (p t) n n 0).isSome) (k := t) (by show (pairF (p t) n n 0).isSome = true; rw [e]; rfl)] at h
      cases h
      exact ⟨q, e, by simp only [colV, e]⟩
    | none =>
      rw [nextN_f (p := fun t => (pairF (p t) n n 0).isSome) (k := t) (by show (pairF (p t) n n 0).isSome = false; rw [e]; rfl)] at h
      simp only [colV, e]
      exact colV_at h
theorem col_val {m a b : Nat} (hm : m < 1000) (ha : a < 8) (hb : b < 8) : 64 * nI m + 8 * nI a + nI b = nI (64 * m + 8 * a + b) := by
  rw [show (64 : Int32) = nI 64 from rfl, show (8 : Int32) = nI 8 from rfl, nI_mul, nI_mul, nI_add, nI_add]
end SwB
section OpsS
variable {G : Gx} {x1 x2 x3 : Int32}
theorem core_offset : ∀ mm lm, Inv mm → ¬ mm 0 10 = 0 → inR 0 (mm 4 9 - 1) x1 → inR 0 9999 x2 → (CoreI G Inv M_X9_offset M_X10_offset 17 34 [(0, .ref 0), (1, .int x1), (2, .int x2)] [(0, .ref 63), (1, .int x1), (2, .int x2)] mm lm ∨ CoreN G Inv M_X9_offset M_X10_offset 17 34 [(0, .ref 0), (1, .int x1), (2, .int x2)] [(0, .ref 63), (1, .int x1), (2, .int x2)] mm lm) := by
  intro mm lm hI _ g1 g2
  obtain ⟨nb, nm, nq, np, fx⟩ := fx_of hI
  have e := eqR_th (mm := mm) EqR.refl 0
  have f := fx _ e.m
  have f2 := fx _ (eqR_th e 0).m
  have := f.n8
  obtain ⟨j, hj, rfl⟩ := f.bell g1
  obtain ⟨T, -, hT, rfl⟩ := inR_nat (l := 0) (g := 9999) g2 (by omega) (by omega)
  have hg := f.hg hj
  by_cases h : mm (23 + j) 0 = -1
  · exact Or.inr ⟨bX9_offset_17 (Or.inr ⟨_, c_rhx (by omega) h, rfl, rfl, Nat.le_refl _, Nat.le_refl _⟩), fun l => ⟨0, _, bX10_offset_34 ⟨_, cm_hangs (by omega), fun _ => ⟨fun z => absurd z (by rw [mset_eq]; decide), fun _ => ⟨rfl, rfl⟩⟩, fun z => absurd (hg.mpr h) (bI_1.mp z)⟩, mset_eq, hI.congr (eqR_th e 3)⟩⟩
  · refine Or.inl ⟨ofK mm j (nI T), mm, bX9_offset_17 (Or.inl ⟨c_rh (by omega) h, _, c_offsetOf (by omega) _, rfl, rfl⟩), ⟨rfl, rfl, rfl⟩, fun l => ⟨_, bX10_offset_34 ⟨_, cm_hangs (by omega), fun z => absurd (mt hg.mp h) (bI_0.mp z), fun _ => ⟨fun _ => ⟨_, cm_offsetAt (by omega) (f2.p0 hj) _, ?_⟩, fun z => absurd (by rw [mset_eq]; exact Int32.le_refl _) z⟩⟩, mset_eq, hI.congr (eqR_th e 0)⟩⟩
    rw [f2.off hj (by omega)]; exact ⟨rfl, rfl⟩
theorem op_gap : OpW G Inv M_L_gap M_X10_gap [.int x1, .int x2, .int x3] cmpI := by
  intro mm lm hI
  obtain ⟨b1, b2, b3, b4⟩ := inv_bas mm hI
  by_cases h : mm 0 10 = 0
  · exact ⟨1, mm, lm, 0, _, w1_gap (kA_gap h), mA_gap (b1.mpr h), mset_eq, fun z => absurd z (by decide), b4 1⟩
  by_cases hg : (inR 0 (mm 4 9 - 1) x1) ∧ (inR 0 (mm 4 9 - 1) x2) ∧ (inR 0 9999 x3)
  · obtain ⟨g1, g2, g3⟩ := hg
    by_cases hne : x1 = x2
    · exact ⟨2, mm, lm, 0, _, w2_gap (kC_gap h g1 g2 g3 (bX9_gap_22 ⟨fun z => absurd hne z, fun _ => ⟨rfl, rfl, Nat.le_refl _, Nat.le_refl _⟩⟩)), mB_gap (fun z => h (b1.mp z)) (fun z => z.2.2.1 hne), mset_eq, fun z => absurd z (by decide), b4 2⟩
    · obtain ⟨nb, nm, nq, np, fx⟩ := fx_of hI
      have e := eqR_th (mm := mm) EqR.refl 0
      have f := fx _ e.m
      have f2 := fx _ (eqR_th e 0).m
      have := f.n8
      have m1 : inR 0 (mm 63 8 - 1) x1 := by rw [b2]; exact g1
      have m2 : inR 0 (mm 63 8 - 1) x2 := by rw [b2]; exact g2
      obtain ⟨j, hj, rfl⟩ := f.bell g1
      obtain ⟨o, ho, rfl⟩ := f.bell g2
      obtain ⟨T, -, hT, rfl⟩ := inR_nat (l := 0) (g := 9999) g3 (by omega) (by omega)
      have ht := f.tog hj ho
      by_cases h2 : ¬ mm (23 + j) 0 = -1 ∧ mm (23 + j) 0 = mm (23 + o) 0
      · have eg := f2.gp hj ho h2.1 (fun z => h2.1 (h2.2.trans z)) (T := T) (by omega)
        refine ⟨0, mm, _, gaS mm j o (spK mm j (nI T) - spK mm o (nI T)), _, w_gap (kC_gap h g1 g2 g3 (bX9_gap_22 ⟨fun _ => ⟨j, rfl, by omega, o, rfl, by omega, _, c_shares (sh_b23 (by omega)) (sh_b23 (by omega)), fun _ => ⟨_, c_gapBetween (by omega) (by omega) _, rfl, rfl⟩, fun z => absurd h2 (bI_0.mp z)⟩, fun z => absurd z hne⟩)), mC_gap (fun z => h (b1.mp z)) m1 m2 hne g3 (bX10_gap_47 ⟨_, cm_areTogether (by omega) (by omega), fun z => absurd (ht.mpr h2) (bI_0.mp z), fun _ => ⟨fun _ => ⟨_, cm_offsetAt (by omega) (f2.p0 hj) _, _, cm_offsetAt (by omega) (f2.p0 ho) _, _, cm_gapBy (by omega) (by omega) _ _, ?_⟩, fun z => absurd (by rw [mset_eq]; exact Int32.le_refl _) z⟩⟩), mset_eq, fun _ => rfl, hI.congr (eqR_th e 0)⟩
        rw [eg]; exact ⟨rfl, rfl⟩
      · exact ⟨3, mm, lm, 0, _, w3_gap (kC_gap h g1 g2 g3 (bX9_gap_22 ⟨fun _ => ⟨j, rfl, by omega, o, rfl, by omega, _, c_shares (sh_b23 (by omega)) (sh_b23 (by omega)), fun z => absurd (bI_1.mp z) h2, fun _ => ⟨rfl, rfl, Nat.le_refl _, Nat.le_refl _⟩⟩, fun z => absurd z hne⟩)), mC_gap (fun z => h (b1.mp z)) m1 m2 hne g3 (bX10_gap_47 ⟨_, cm_areTogether (by omega) (by omega), fun _ => ⟨fun z => absurd z (by rw [mset_eq]; decide), fun _ => ⟨rfl, rfl⟩⟩, fun z => absurd (ht.mp (bI_1.mp z)) h2⟩), mset_eq, fun z => absurd z (by decide), hI.congr (eqR_th e 3)⟩
  · exact ⟨2, mm, lm, 0, _, w2_gap (kB_gap h hg), mB_gap (fun z => h (b1.mp z)) (fun z => hg ⟨(by rw [← b2]; exact z.1), (by rw [← b2]; exact z.2.1), z.2.2.2⟩), mset_eq, fun z => absurd z (by decide), b4 2⟩
theorem col_same {mm M : Nat → Nat → Int32} {nb nm nq np : Nat} (f : Fx mm M nb nm nq np) {t : Nat} (ht : t < 1000) : pairF (colM M (nI t)) nb nb 0 = pairF (colB mm (nI t)) nb nb 0 := pairF_congr (fun a b ha hb => f.col (by omega) ha hb) (by omega)
theorem tick_same {mm M : Nat → Nat → Int32} {nb nm nq np : Nat} (f : Fx mm M nb nm nq np) : nextN (fun t => (pairF (colM M (nI t)) nb nb 0).isSome) 1000 0 = nextN (tickB mm nb) 1000 0 := nextN_congr fun i _ hi => by
  show (pairF (colM M (nI i)) nb nb 0).isSome = (pairF (colB mm (nI i)) nb nb 0).isSome
  rw [col_same f (by omega)]
theorem core_firstCollision : ∀ mm lm, Inv mm → ¬ mm 0 10 = 0 → CoreI G Inv M_X9_firstCollision M_X10_firstCollision 4 10 [(0, .ref 0)] [(0, .ref 63)] mm lm := by
  intro mm lm hI _
  obtain ⟨nb, nm, nq, np, fx⟩ := fx_of hI
  have f0 := fx _ EqR.refl.m
  have h8 := f0.n8
  obtain ⟨mc, ec, ct⟩ := c_tickOfCollision (G := G) (lm := lm) f0.n h8
  have e := eqR_th ec 0
  have f := fx _ e.m
  have hts := tick_same f
  have hc := fun l => cm_collision (G := G) (mm := mset mc 63 4 0) (lm := l) f.N h8 (fun k hk => f.p0 hk)
  refine ⟨opI (nextN (tickB mm nb) 1000 0) (-2), mc, bX9_firstCollision_4 ⟨_, mc, ct, fun z => ?_, fun z => ?_⟩, ⟨ec 63 3 rfl, ec 63 5 rfl, ec 63 8 rfl⟩, fun l => ⟨_, bX10_firstCollision_10 ⟨_, hc l, fun z => ?_, fun z => ?_⟩, mset_eq, hI.congr e⟩⟩
  · cases hx : nextN (tickB mm nb) 1000 0 with
    | none => rw [hx] at z; exact absurd rfl z
    | some m => exact ⟨rfl, rfl⟩
  · cases hx : nextN (tickB mm nb) 1000 0 with
    | none => exact ⟨rfl, rfl⟩
    | some m =>
      rw [hx] at z
      have := (nextN_some hx).2.1
      exact absurd z (nI_ne_neg (by omega))
  · cases hx : nextN (tickB mm nb) 1000 0 with
    | none =>
      rw [hx] at hts
      rw [colV_tick hts] at z
      exact absurd z (by decide)
    | some m =>
      rw [hx] at hts
      obtain ⟨q, h1, h2⟩ := colV_at hts
      have hm := (nextN_some hx).2.1
      have hq := pairF_lt (Nat.le_of_eq (Nat.zero_add nb)) h1
      rw [h2, col_val (by omega) (by omega) (by omega), show (64 : Int32) = nI 64 from rfl, pk_div (by omega) (by omega) (by omega), show (64 * m + 8 * q.1 + q.2) / 64 = m by omega]
      exact ⟨rfl, rfl⟩
  · cases hx : nextN (tickB mm nb) 1000 0 with
    | none => exact ⟨rfl, rfl⟩
    | some m =>
      rw [hx] at hts
      obtain ⟨q, h1, h2⟩ := colV_at hts
      have hm := (nextN_some hx).2.1
      have hq := pairF_lt (Nat.le_of_eq (Nat.zero_add nb)) h1
      rw [h2, col_val (by omega) (by omega) (by omega)] at z
      exact absurd (nI_pos' (by omega)) z
theorem core_collidingBells : ∀ mm lm, Inv mm → ¬ mm 0 10 = 0 → CoreI G Inv M_X9_collidingBells M_X10_collidingBells 4 10 [(0, .ref 0)] [(0, .ref 63)] mm lm := by
  intro mm lm hI _
  obtain ⟨nb, nm, nq, np, fx⟩ := fx_of hI
  have f0 := fx _ EqR.refl.m
  have h8 := f0.n8
  obtain ⟨mc, ec, ct⟩ := c_tickOfCollision (G := G) (lm := lm) f0.n h8
  cases hx : nextN (tickB mm nb) 1000 0 with
  | none =>
    have e := eqR_th ec 0
    have f := fx _ e.m
    have hts := tick_same f
    rw [hx] at hts ct
    have hc := fun l => cm_collision (G := G) (mm := mset mc 63 4 0) (lm := l) f.N h8 (fun k hk => f.p0 hk)
    refine ⟨-2, mc, bX9_collidingBells_4 ⟨_, mc, ct, fun z => absurd rfl z, fun _ => ⟨rfl, rfl⟩⟩, ⟨ec 63 3 rfl, ec 63 5 rfl, ec 63 8 rfl⟩, fun l => ⟨_, bX10_collidingBells_10 ⟨_, hc l, fun z => ?_, fun _ => ⟨rfl, rfl⟩⟩, mset_eq, hI.congr e⟩⟩
    rw [colV_tick hts] at z
    exact absurd z (by decide)
  | some m =>
    have hm := (nextN_some hx).2.1
    rw [hx] at ct
    have fc := fx _ ec.m
    obtain ⟨mc2, ec2, ct2⟩ := c_pairCollidingAt (G := G) (mm := mc) (lm := lm) (nb := nb) ((ec 4 9 rfl).trans f0.n) h8 (nI m)
    have e := eqR_th (ec.trans ec2) 0
    have f := fx _ e.m
    have hts := tick_same f
    rw [hx] at hts
    obtain ⟨q, h1, h2⟩ := colV_at hts
    have hq := pairF_lt (Nat.le_of_eq (Nat.zero_add nb)) h1
    have ep : pairF (colB mc (nI m)) nb nb 0 = some q := by
      rw [pairF_congr (q := colB mm (nI m)) (fun a b ha hb => eqR_colB ec (by omega) (by omega) _) (by omega), ← col_same f (by omega)]
      exact h1
    rw [ep] at ct2
    have hc := fun l => cm_collision (G := G) (mm := mset mc2 63 4 0) (lm := l) f.N h8 (fun k hk => f.p0 hk)
    refine ⟨nI (8 * q.1 + q.2), mc2, bX9_collidingBells_4 ⟨_, mc, ct, fun _ => ⟨_, mc2, ct2, by rw [pairV_nI], rfl⟩, fun z => absurd z (nI_ne_neg (by omega))⟩, ⟨(ec.trans ec2) 63 3 rfl, (ec.trans ec2) 63 5 rfl, (ec.trans ec2) 63 8 rfl⟩, fun l => ⟨_, bX10_collidingBells_10 ⟨_, hc l, fun z => ?_, fun z => ?_⟩, mset_eq, hI.congr e⟩⟩
    · rw [h2, col_val (by omega) (by omega) (by omega), show (64 : Int32) = nI 64 from rfl, pk_rem (by omega) (by omega) (by omega), show (64 * m + 8 * q.1 + q.2) % 64 = 8 * q.1 + q.2 by omega]
      exact ⟨rfl, rfl⟩
    · rw [h2, col_val (by omega) (by omega) (by omega)] at z
      exact absurd (nI_pos' (by omega)) z
theorem core_strikes : ∀ mm lm, Inv mm → ¬ mm 0 10 = 0 → inR 0 (mm 4 9 - 1) x1 → inR 0 9999 x2 → inR x2 9999 x3 → CoreI G Inv M_X9_strikes M_X10_strikes 25 47 [(0, .ref 0), (1, .int x1), (2, .int x2), (3, .int x3)] [(0, .ref 63), (1, .int x1), (2, .int x2), (3, .int x3)] mm lm := by
  intro mm lm hI _ g1 g2 g3
  obtain ⟨nb, nm, nq, np, fx⟩ := fx_of hI
  have e := eqR_th (mm := mm) EqR.refl 0
  have f := fx _ e.m
  have h8 := f.n8
  obtain ⟨j, hj, rfl⟩ := f.bell g1
  obtain ⟨A, -, hA, rfl⟩ := inR_nat (l := 0) (g := 9999) g2 (by omega) (by omega)
  obtain ⟨E, hAE, hE, rfl⟩ := inR_nat (l := A) (g := 9999) g3 (by omega) (by omega)
  have hq := f.sw hj
  by_cases h : mm (23 + j) 5 ≤ 0
  · exact ⟨-2, mm, bX9_strikes_25 ⟨j, rfl, by omega, _, c_swings (sh_b23 (by omega)), fun _ => ⟨rfl, rfl⟩, fun z => absurd h (bI_1.mp z)⟩, ⟨rfl, rfl, rfl⟩, fun l => ⟨_, bX10_strikes_47 ⟨_, cm_swings (by omega), fun z => absurd h (hq.mp (bI_1.mp z)), fun _ => ⟨rfl, rfl⟩⟩, mset_eq, hI.congr e⟩⟩
  · obtain ⟨P, hP⟩ : ∃ P : Nat → Bool, P = fun t => strB (mm 9 j) (nI t - mm (23 + j) 4) := ⟨_, rfl⟩
    have ct := c_countStrikes (G := G) (mm := mm) (lm := lm) (j := j) (by omega) hAE hE
    rw [← hP] at ct
    refine ⟨nI (cntF P (E + 1 - A) A), mm, bX9_strikes_25 ⟨j, rfl, by omega, _, c_swings (sh_b23 (by omega)), fun z => absurd h (bI_0.mp z), fun _ => ⟨_, ct, rfl, rfl⟩⟩, ⟨rfl, rfl, rfl⟩, fun l => ⟨_, bX10_strikes_47 ⟨_, cm_swings (by omega), fun _ => ?_, fun z => absurd (hq.mpr h) (bI_0.mp z)⟩, mset_eq, hI.congr e⟩⟩
    have key := loop_up (n := E + 1) (P := fun t => A ≤ t → ∀ c, J G M_X10_strikes 64 [(0, .ref 63), (1, .int (nI j)), (3, .int (nI E)), (4, .int (nI c)), (5, .int (nI t))] [] (SH, mset mm 63 4 0, l) false (.inl (some (.int (nI (c + cntF P (E + 1 - t) t))))) (SH, mset mm 63 4 0, l) false 0 0) ?_ ?_ A (by omega) (Nat.le_refl _) 0
    · rw [Nat.zero_add] at key; exact key
    · intro _ c
      refine bX10_strikes_64 ⟨fun _ => ?_, fun z => absurd (nI_lt (Nat.lt_succ_self E) (by omega)) z⟩
      rw [Nat.sub_self]; exact ⟨rfl, rfl⟩
    · intro t ht ih hAt c
      have es := f.str hj h (nI t)
      rw [show E + 1 - t = (E + 1 - (t + 1)) + 1 by omega]
      simp only [cntF]
      refine bX10_strikes_64 ⟨fun z => absurd z (nI_nlt (by omega) (by omega)), fun _ => ⟨_, cm_strikesAt (by omega) (f.p0 hj) _, fun z => ?_, fun z => ?_⟩⟩
      · have e1 : P t = false := by rw [hP]; exact es.symm.trans (Bool.eq_false_iff.mpr (bI_0.mp z))
        rw [e1, nI_1, Int32.add_zero]
        have q := ih (by omega) c
        simpa using q
      · have e1 : P t = true := by rw [hP]; exact es.symm.trans (bI_1.mp z)
        rw [e1, nI_1, nI_1]
        have q := ih (by omega) (c + 1)
        rw [if_pos rfl, ← Nat.add_assoc]; exact q
theorem core_strikeTogether : ∀ mm lm, Inv mm → ¬ mm 0 10 = 0 → inR 0 (mm 4 9 - 1) x1 → inR 0 (mm 4 9 - 1) x2 → CoreI G Inv M_X9_strikeTogether M_X10_strikeTogether 14 30 [(0, .ref 0), (1, .int x1), (2, .int x2)] [(0, .ref 63), (1, .int x1), (2, .int x2)] mm lm := by
  intro mm lm hI _ g1 g2
  obtain ⟨nb, nm, nq, np, fx⟩ := fx_of hI
  have e := eqR_th (mm := mm) EqR.refl 0
  have f := fx _ e.m
  have h8 := f.n8
  obtain ⟨j, hj, rfl⟩ := f.bell g1
  obtain ⟨o, ho, rfl⟩ := f.bell g2
  have hq := f.sw hj
  have hq2 := f.sw ho
  by_cases h : mm (23 + j) 5 ≤ 0
  · exact ⟨-2, mm, bX9_strikeTogether_14 ⟨j, rfl, by omega, _, c_swings (sh_b23 (by omega)), fun _ => ⟨rfl, rfl⟩, fun z => absurd h (bI_1.mp z)⟩, ⟨rfl, rfl, rfl⟩, fun l => ⟨_, bX10_strikeTogether_30 ⟨_, cm_swings (by omega), fun _ => ⟨rfl, rfl⟩, fun z => absurd h (hq.mp (bI_1.mp z))⟩, mset_eq, hI.congr e⟩⟩
  by_cases h2 : mm (23 + o) 5 ≤ 0
  · exact ⟨-2, mm, bX9_strikeTogether_14 ⟨j, rfl, by omega, _, c_swings (sh_b23 (by omega)), fun _ => ⟨rfl, rfl⟩, fun _ => ⟨o, rfl, by omega, _, c_swings (sh_b23 (by omega)), fun z => absurd h2 (bI_1.mp z), fun _ => ⟨rfl, rfl⟩⟩⟩, ⟨rfl, rfl, rfl⟩, fun l => ⟨_, bX10_strikeTogether_30 ⟨_, cm_swings (by omega), fun _ => ⟨rfl, rfl⟩, fun _ => ⟨_, cm_swings (by omega), fun z => absurd h2 (hq2.mp (bI_1.mp z)), fun _ => ⟨rfl, rfl⟩⟩⟩, mset_eq, hI.congr e⟩⟩
  obtain ⟨P, hP⟩ : ∃ P : Nat → Bool, P = fun t => strB (mm 9 j) (nI t - mm (23 + j) 4) && strB (mm 9 o) (nI t - mm (23 + o) 4) := ⟨_, rfl⟩
  have ct := c_firstCommonStrike (G := G) (mm := mm) (lm := lm) (j := j) (o := o) (by omega) (by omega)
  rw [← hP] at ct
  refine ⟨opI (nextN P 10000 0) (-3), mm, bX9_strikeTogether_14 ⟨j, rfl, by omega, _, c_swings (sh_b23 (by omega)), fun z => absurd h (bI_0.mp z), fun _ => ⟨o, rfl, by omega, _, c_swings (sh_b23 (by omega)), fun _ => ⟨_, ct, rfl, rfl⟩, fun z => absurd h2 (bI_0.mp z)⟩⟩, ⟨rfl, rfl, rfl⟩, fun l => ⟨_, bX10_strikeTogether_30 ⟨_, cm_swings (by omega), fun z => absurd (hq.mpr h) (bI_0.mp z), fun _ => ⟨_, cm_swings (by omega), fun _ => ?_, fun z => absurd (hq2.mpr h2) (bI_0.mp z)⟩⟩, mset_eq, hI.congr e⟩⟩
  refine loop_up (n := 10000) (P := fun t => J G M_X10_strikeTogether 51 [(0, .ref 63), (1, .int (nI j)), (2, .int (nI o)), (3, .int (nI t))] [] (SH, mset mm 63 4 0, l) false (.inl (some (.int (opI (nextN P (10000 - t) t) (-3))))) (SH, mset mm 63 4 0, l) false 0 0) ?_ ?_ 0 (Nat.zero_le _)
  · exact bX10_strikeTogether_51 ⟨fun _ => ⟨rfl, rfl⟩, fun z => absurd (nI_lt (a := 9999) (b := 10000) (by omega) (by omega)) z⟩
  · intro t ht ih
    have es := f.str hj h (nI t)
    have es2 := f.str ho h2 (nI t)
    rw [show 10000 - t = (10000 - (t + 1)) + 1 by omega]
    refine bX10_strikeTogether_51 ⟨fun z => absurd z (nI_nlt (a := 9999) (b := t) (by omega) (by omega)), fun _ => ⟨_, cm_strikesAt (by omega) (f.p0 hj) _, fun z => ?_, fun z => ⟨_, cm_strikesAt (by omega) (f.p0 ho) _, fun z2 => ?_, fun z2 => ?_⟩⟩⟩
    · have e1 : strB (mm 9 j) (nI t - mm (23 + j) 4) = false := es.symm.trans (Bool.eq_false_iff.mpr (bI_0.mp z))
      have e2 : P t = false := by rw [hP]; simp only [e1, Bool.false_and]
      rw [nI_1, nextN_f e2]; exact ih
    · have e1 : strB (mm 9 o) (nI t - mm (23 + o) 4) = false := es2.symm.trans (Bool.eq_false_iff.mpr (bI_0.mp z2))
      have e2 : P t = false := by rw [hP]; simp only [e1, Bool.and_false]
      rw [nI_1, nextN_f e2]; exact ih
    · have e1 : strB (mm 9 j) (nI t - mm (23 + j) 4) = true := es.symm.trans (bI_1.mp z)
      have e3 : strB (mm 9 o) (nI t - mm (23 + o) 4) = true := es2.symm.trans (bI_1.mp z2)
      have e2 : P t = true := by rw [hP]; simp only [e1, e3, Bool.and_true]
      rw [nextN_t e2]; exact ⟨rfl, rfl⟩
end OpsS
