/-! ===== the reference: beams, bells, quiet times, ropes ===== -/
section MLoops
variable {G : Gx} {mm m m' m'' base : Nat → Nat → Int32} {lm : Nat → Int64} {n : Nat} {b : Nat → Nat} {D : Dr} {F : Nat × Nat × Dr}
theorem DR.l {k : Nat} (h : DR k m D) (g : FrL m m') : DR k m' D := ⟨fun j hj => by rw [g.2 (27 + j) (by omega)]; exact h.1 j hj, fun r hr j hj => by rw [g.1 75 (by decide)]; exact h.2 r hr j hj⟩
theorem go_skip {f k : Nat} {t : Tk} (h : stT b t ≠ k) : goT b n f k t D = goT b n f (k + 1) t D := by
  have e : wrT b k t D = wrT b (k + 1) t D := by
    unfold wrT
    refine decide_eq_decide.mpr ⟨fun z => ?_, fun z => ?_⟩
    · rcases z with z | z | z
      · exact Or.inl z
      · exact Or.inr (Or.inl (by omega))
      · exact Or.inr (Or.inr z)
    · rcases z with z | z | z
      · exact Or.inl z
      · exact Or.inr (Or.inl (by omega))
      · exact Or.inr (Or.inr z)
  match f with
  | 0 => rfl
  | f + 1 => rw [go_s, go_s, e]
theorem go_none {f k : Nat} {t : Tk} (h : stT b t ≠ k) (hk : k < 2) (hz : D.1 k = 0) (hj : k < 1 → D.1 1 = 0) : goT b n f k t D = (1, t.s, D) := by
  have h1 : D.1 1 = 0 := by
    by_cases e : k = 1
    · rw [← e]; exact hz
    · exact hj (by omega)
  match f with
  | 0 => rfl
  | f + 1 =>
    rw [go_s]
    by_cases h0 : t.k = 0
    · rw [if_pos h0, if_pos h1]
    · rw [if_neg h0, if_pos]
      refine decide_eq_true ?_
      by_cases h4 : stT b t < k
      · exact Or.inr (Or.inl h4)
      · refine Or.inr (Or.inr ?_)
        by_cases e : k = 1
        · exact Or.inr ⟨by omega, h1⟩
        · have e0 : k = 0 := by omega
          rw [e0] at hz
          exact Or.inl ⟨by omega, hz⟩
theorem go_body {f k : Nat} {t : Tk} (h : stT b t = k) (hk : k < 4) (hc : (1 ≤ k → ¬ D.1 0 = 0) ∧ (2 ≤ k → ¬ D.1 1 = 0)) (hf : D.1 k < moT k) : goT b n (f + 1) k t D = if ¬ (nums b n k (cnT k) 0 t.e (fun _ => 0)).1 = 0 then ((nums b n k (cnT k) 0 t.e (fun _ => 0)).1, (nums b n k (cnT k) 0 t.e (fun _ => 0)).2.1, D)
    else if ¬ (tk b n (nums b n k (cnT k) 0 t.e (fun _ => 0)).2.1).k = 3 then (1, (tk b n (nums b n k (cnT k) 0 t.e (fun _ => 0)).2.1).s, D)
    else goT b n f k (tk b n (tk b n (nums b n k (cnT k) 0 t.e (fun _ => 0)).2.1).e) (addD D k (nums b n k (cnT k) 0 t.e (fun _ => 0)).2.2) := by
  have h0 : ¬ t.k = 0 := fun z => by rw [stT_not (by omega)] at h; omega
  have hw : ¬ wrT b k t D = true := fun z => by
    rcases of_decide_eq_true z with y | y | y | y
    · omega
    · omega
    · exact hc.1 (by omega) y.2
    · exact hc.2 (by omega) y.2
  rw [go_s, if_neg h0, if_neg hw, h, if_neg (by omega)]
theorem go_full {f k : Nat} {t : Tk} (h : stT b t = k) (hk : k < 4) (hc : (1 ≤ k → ¬ D.1 0 = 0) ∧ (2 ≤ k → ¬ D.1 1 = 0)) (hf : ¬ D.1 k < moT k) : goT b n (f + 1) k t D = (4, t.s, D) := by
  have h0 : ¬ t.k = 0 := fun z => by rw [stT_not (by omega)] at h; omega
  have hw : ¬ wrT b k t D = true := fun z => by
    rcases of_decide_eq_true z with y | y | y | y
    · omega
    · omega
    · exact hc.1 (by omega) y.2
    · exact hc.2 (by omega) y.2
  rw [go_s, if_neg h0, if_neg hw, h, if_pos (by omega)]
theorem cm_beginsOk (hc : MB mm n b) (h0 : M0 mm) {t : Tk} (hk : MTk mm t) (ht : t.e ≤ n) {d mo : Nat} (hd : d < mo) (hm : mo < 10) : ∃ m', FrL mm m' ∧ M0 m' ∧ MTk m' (tk b n t.e) ∧ Ct G M_X10_begins [.ref 63, .int (nI d), .int (nI mo)] (SH, mm, lm) false (.inl (some (.int 1))) (SH, m', lm) false 0 0 := by
  obtain ⟨m', f1, f2, f3⟩ := cm_next (G := G) (lm := lm) hc ht hk.2.2.1 h0.1
  have cf := cm_isFine (G := G) (lm := lm) (mm := m')
  rw [bI_t (f1.m0 h0).1] at cf
  exact ⟨m', f1.l, f1.m0 h0, f2, CJ (bX10_begins_0 ⟨fun _ => ⟨m', f3, _, cf, rfl, rfl, rfl⟩, fun z => absurd ((nI_eq (by omega) (by omega)).mp z) (by omega)⟩)⟩
theorem cm_beginsFull (h0 : M0 mm) {t : Tk} (hk : MTk mm t) {d mo : Nat} (hd : d = mo) : ∃ m', FrL mm m' ∧ ME m' 4 t.s ∧ Ct G M_X10_begins [.ref 63, .int (nI d), .int (nI mo)] (SH, mm, lm) false (.inl (some (.int 0))) (SH, m', lm) false 0 0 := by
  obtain ⟨m', f1, f2, f3⟩ := cm_fail (G := G) (lm := lm) (c := 4) h0 hk.1 (by decide) (by decide)
  have cf := cm_isFine (G := G) (lm := lm) (mm := m')
  rw [bI_f f2.ne] at cf
  exact ⟨m', f1, f2, CJ (bX10_begins_0 ⟨fun z => absurd (by rw [hd]) z, fun _ => ⟨m', f3, m', cm_next0 f2.ne, _, cf, rfl, rfl, rfl⟩⟩)⟩
theorem rd_next {k f p0 : Nat} {t : Tk} {v : Nat → Nat} (hd : DR k base D) (hk : k < 4) (hf : D.1 k < moT k) (hcd : (1 ≤ k → ¬ D.1 0 = 0) ∧ (2 ≤ k → ¬ D.1 1 = 0)) (hn : n < t.s + (f + 1)) (ht : t.s < p0) (g : FrB k (dpb k + cnT k * D.1 k) base m)
    (alt : (∃ p', p0 < p' ∧ p' ≤ n ∧ M0 m ∧ MTk m (tk b n p') ∧ F = goT b n f k (tk b n p') (addD D k v) ∧ ∀ x, x < cnT k → m 75 (dpb k + cnT k * D.1 k + x) = nI (v x)) ∨ (¬ F.1 = 0 ∧ ME m F.1 F.2.1)) : LTS b n F f k (mset m 63 (27 + k) (m 63 (27 + k) + 1)) := by
  have e27 : m 63 (27 + k) + 1 = nI (D.1 k + 1) := by rw [g.2.1 (27 + k) (by omega), (hd.1 k hk).1 (Nat.le_refl _), nI_1]
  rw [e27]
  rcases alt with ⟨p', h1, h2, h3, h4, h5, h6⟩ | ⟨h1, h2⟩
  · have ht' := tk_in (b := b) h2
    refine Or.inl ⟨p', addD D k v, h2, by omega, ?_, ?_, hd.add hk hf g h6, ⟨fun z => ?_, fun z => ?_⟩, h5⟩
    · unfold M0; rw [mset_in (by omega), mset_in (by omega)]; exact h3
    · unfold MTk; rw [mset_in (by omega), mset_in (by omega), mset_in (by omega), mset_in (by omega)]; exact h4
    · show ¬ updT D.1 k (D.1 k + 1) 0 = 0
      unfold updT; split
      · omega
      · exact hcd.1 z
    · show ¬ updT D.1 k (D.1 k + 1) 1 = 0
      unfold updT; split
      · omega
      · exact hcd.2 z
  · refine Or.inr ⟨h1, ?_⟩
    unfold ME; rw [mset_in (by omega), mset_in (by omega)]; exact h2
theorem XS.next {k : Nat} (hk : k < 3) (h : XS b n F k mm) : ∃ f, LTS b n F f (k + 1) (mset mm 63 (27 + (k + 1)) 0) := by
  rcases h with ⟨f, p, D, h1, h2, h3, h4, h5, h6, h7⟩ | ⟨h1, h2⟩
  · refine ⟨f, Or.inl ⟨p, D, h1, h2, ?_, ?_, ⟨fun j hj => ⟨fun hjk => ?_, (h5.1 j hj).2.1, fun z => (h5.1 j hj).2.2 (by omega)⟩, fun r hr j hj => by rw [mset_ne (by decide)]; exact h5.2 r hr j hj⟩, h6, h7⟩⟩
    · unfold M0; rw [mset_in (by omega), mset_in (by omega)]; exact h3
    · unfold MTk; rw [mset_in (by omega), mset_in (by omega), mset_in (by omega), mset_in (by omega)]; exact h4
    · by_cases e : j = k + 1
      · rw [e, mset_eq, (h5.1 (k + 1) (by omega)).2.2 (by omega)]; rfl
      · rw [mset_in (by omega)]; exact (h5.1 j hj).1 (by omega)
  · refine ⟨0, Or.inr ⟨h1, ?_⟩⟩
    unfold ME; rw [mset_in (by omega), mset_in (by omega)]; exact h2
theorem j_beams (hc : MB base n b) : ∀ f mm, FrQ base mm → LTS b n F f 0 mm → ∃ m', FrQ base m' ∧ XS b n F 0 m' ∧ J G M_X10_readBeams 5 [(0, .ref 63)] [] (SH, mm, lm) false (.inl none) (SH, m', lm) false 0 0 := by
  intro f
  have err : ∀ mm, FrQ base mm → ¬ F.1 = 0 ∧ ME mm F.1 F.2.1 → ∃ m', FrQ base m' ∧ XS b n F 0 m' ∧ J G M_X10_readBeams 5 [(0, .ref 63)] [] (SH, mm, lm) false (.inl none) (SH, m', lm) false 0 0 := fun mm g he =>
    ⟨mm, g, Or.inr he, bX10_readBeams_5 ⟨_, cm_isKeyword0 he.2.ne (k := 0) (by decide), fun _ => ⟨fun _ => ⟨rfl, rfl⟩, fun _ => ⟨mm, cm_fail0 he.2.ne, rfl, rfl⟩⟩, fun z => absurd rfl z⟩⟩
  induction f with
  | zero =>
    intro mm g hl
    rcases hl with ⟨p, D, h1, h2, -⟩ | he
    · have := tk_in (b := b) h1; omega
    · exact err mm g he
  | succ f ih =>
    intro mm g hl
    rcases hl with ⟨p, D, h1, h2, h3, h4, h5, h6, h7⟩ | he
    · have hc0 := hc.q g
      have hn := hc.2.1
      have ht := tk_in (b := b) h1
      have htk := tk_k (b := b) (n := n) (p := p)
      have e27 : mm 63 27 = nI (D.1 0) := (h5.1 0 (by decide)).1 (by decide)
      have hb : D.1 0 ≤ 4 := (h5.1 0 (by decide)).2.1
      have xs : stT b (tk b n p) ≠ 0 → ¬ D.1 0 = 0 → XS b n F 0 mm := fun a c => Or.inl ⟨f + 1, p, D, h1, h2, h3, h4, h5, ⟨fun _ => c, fun z => absurd z (by decide)⟩, by rw [h7]; exact go_skip a⟩
      generalize tk b n p = t at h2 h4 h7 ht htk xs
      have ck := cm_isKeyword (G := G) (lm := lm) hc0 ht.2.2.1 ht.2.1 htk h4 h3.1 (k := 0) (by decide)
      by_cases hst : stT b t = 0
      · rw [bI_t hst] at ck
        by_cases hf : D.1 0 < 4
        · obtain ⟨m10, f1, f2, f3, f4⟩ := cm_beginsOk (G := G) (lm := lm) hc0 h3 h4 ht.2.2.1 hf (by decide)
          have hc1 := hc0.l f1
          have d10 := h5.l f1
          have e10 : m10 63 27 = nI (D.1 0) := by rw [f1.2 27 (by decide)]; exact e27
          have hF := h7.trans (go_body (f := f) hst (by decide) h6 hf)
          have r0 : RS b n 0 (dpb 0 + cnT 0 * D.1 0) t.e (nums b n 0 (cnT 0) 0 t.e (fun _ => 0)) 2 0 m10 := Or.inl ⟨t.e, fun _ => 0, Nat.le_refl _, ht.2.2.1, f2, f3, rfl, fun x hx => absurd hx (Nat.not_lt_zero x)⟩
          obtain ⟨m17, v16, g1, r1, c1⟩ := rd_in (G := G) (lm := lm) hc1 FrB.refl r0 (by decide) (by decide) (by decide)
          obtain ⟨m21, v20, g2, r2, c2⟩ := rd_in (G := G) (lm := lm) hc1 g1 r1 (by decide) (by decide) (by decide)
          obtain ⟨m25, g9, r9, c9⟩ := rd_semi (G := G) (lm := lm) hc1 g2 r2 hF
          have t27 : t.s < t.e := ht.2.2.2 (fun z => by rw [stT_not (by omega)] at hst; omega)
          obtain ⟨m', q1, q2, q3⟩ := ih (mset m25 63 27 (m25 63 27 + 1)) ((g.trans (f1.q.trans g9.q)).set (by decide)) (rd_next (k := 0) d10 (by decide) hf h6 h2 t27 g9 r9)
          refine ⟨m', q1, q2, bX10_readBeams_5 ⟨_, ck, fun z => absurd z (by decide), fun _ => ⟨1, m10, by rw [e27]; exact f4, fun z => absurd z (by decide), fun _ => ⟨v16, m17, c1, dpb 0 + cnT 0 * D.1 0 + 0, ?_, ?_, v20, m21, c2, dpb 0 + cnT 0 * D.1 0 + 1, ?_, ?_, m25, c9, q3⟩⟩⟩⟩
          · rw [e10, show (2 : Int32) = nI 2 from rfl, nI_mul]; exact congrArg nI (by show 2 * D.1 0 = 0 + 2 * D.1 0 + 0; omega)
          · show 0 + 2 * D.1 0 + 0 < 64; omega
          · rw [g1.2.1 27 (by decide), e10, show (2 : Int32) = nI 2 from rfl, nI_mul, nI_1]; exact congrArg nI (by show 2 * D.1 0 + 1 = 0 + 2 * D.1 0 + 1; omega)
          · show 0 + 2 * D.1 0 + 1 < 64; omega
        · obtain ⟨m10, f1, f2, f3⟩ := cm_beginsFull (G := G) (lm := lm) h3 h4 (d := D.1 0) (mo := 4) (by omega)
          have hF := h7.trans (go_full (f := f) hst (by decide) h6 hf)
          refine ⟨m10, g.trans f1.q, Or.inr (by rw [hF]; exact ⟨show ¬ (4 : Nat) = 0 by decide, f2⟩), bX10_readBeams_5 ⟨_, ck, fun z => absurd z (by decide), fun _ => ⟨0, m10, by rw [e27]; exact f3, fun _ => ⟨fun _ => ⟨rfl, rfl⟩, fun _ => ⟨m10, cm_fail0 f2.ne, rfl, rfl⟩⟩, fun z => absurd rfl z⟩⟩⟩
      · rw [bI_f hst] at ck
        by_cases hz : D.1 0 = 0
        · obtain ⟨m6, f1, f2, f3⟩ := cm_fail (G := G) (lm := lm) (c := 1) h3 h4.1 (by decide) (by decide)
          have hF := h7.trans (go_none (f := f + 1) hst (by decide) hz (fun _ => (h5.1 1 (by decide)).2.2 (by decide)))
          refine ⟨m6, g.trans f1.q, Or.inr (by rw [hF]; exact ⟨show ¬ (1 : Nat) = 0 by decide, f2⟩), bX10_readBeams_5 ⟨_, ck, fun _ => ⟨fun z => absurd (by rw [e27, hz]; rfl) z, fun _ => ⟨m6, f3, rfl, rfl⟩⟩, fun z => absurd rfl z⟩⟩
        · exact ⟨mm, g, xs hst hz, bX10_readBeams_5 ⟨_, ck, fun _ => ⟨fun _ => ⟨rfl, rfl⟩, fun z => absurd z (by rw [e27]; exact nI_ne0 (by omega) (by omega))⟩, fun z => absurd rfl z⟩⟩
    · exact err mm g he
theorem j_bells (hc : MB base n b) : ∀ f mm, FrQ base mm → LTS b n F f 1 mm → ∃ m', FrQ base m' ∧ XS b n F 1 m' ∧ J G M_X10_readBells 5 [(0, .ref 63)] [] (SH, mm, lm) false (.inl none) (SH, m', lm) false 0 0 := by
  intro f
  have err : ∀ mm, FrQ base mm → ¬ F.1 = 0 ∧ ME mm F.1 F.2.1 → ∃ m', FrQ base m' ∧ XS b n F 1 m' ∧ J G M_X10_readBells 5 [(0, .ref 63)] [] (SH, mm, lm) false (.inl none) (SH, m', lm) false 0 0 := fun mm g he =>
    ⟨mm, g, Or.inr he, bX10_readBells_5 ⟨_, cm_isKeyword0 he.2.ne (k := 1) (by decide), fun _ => ⟨fun _ => ⟨rfl, rfl⟩, fun _ => ⟨mm, cm_fail0 he.2.ne, rfl, rfl⟩⟩, fun z => absurd rfl z⟩⟩
  induction f with
  | zero =>
    intro mm g hl
    rcases hl with ⟨p, D, h1, h2, -⟩ | he
    · have := tk_in (b := b) h1; omega
    · exact err mm g he
  | succ f ih =>
    intro mm g hl
    rcases hl with ⟨p, D, h1, h2, h3, h4, h5, h6, h7⟩ | he
    · have hc0 := hc.q g
      have hn := hc.2.1
      have ht := tk_in (b := b) h1
      have htk := tk_k (b := b) (n := n) (p := p)
      have e27 : mm 63 28 = nI (D.1 1) := (h5.1 1 (by decide)).1 (by decide)
      have hb : D.1 1 ≤ 8 := (h5.1 1 (by decide)).2.1
      have xs : stT b (tk b n p) ≠ 1 → ¬ D.1 1 = 0 → XS b n F 1 mm := fun a c => Or.inl ⟨f + 1, p, D, h1, h2, h3, h4, h5, ⟨fun _ => h6.1 (by decide), fun _ => c⟩, by rw [h7]; exact go_skip a⟩
      generalize tk b n p = t at h2 h4 h7 ht htk xs
      have ck := cm_isKeyword (G := G) (lm := lm) hc0 ht.2.2.1 ht.2.1 htk h4 h3.1 (k := 1) (by decide)
      by_cases hst : stT b t = 1
      · rw [bI_t hst] at ck
        by_cases hf : D.1 1 < 8
        · obtain ⟨m10, f1, f2, f3, f4⟩ := cm_beginsOk (G := G) (lm := lm) hc0 h3 h4 ht.2.2.1 hf (by decide)
          have hc1 := hc0.l f1
          have d10 := h5.l f1
          have e10 : m10 63 28 = nI (D.1 1) := by rw [f1.2 28 (by decide)]; exact e27
          have hF := h7.trans (go_body (f := f) hst (by decide) h6 hf)
          have r0 : RS b n 1 (dpb 1 + cnT 1 * D.1 1) t.e (nums b n 1 (cnT 1) 0 t.e (fun _ => 0)) 3 0 m10 := Or.inl ⟨t.e, fun _ => 0, Nat.le_refl _, ht.2.2.1, f2, f3, rfl, fun x hx => absurd hx (Nat.not_lt_zero x)⟩
          obtain ⟨m17, v16, g1, r1, c1⟩ := rd_in (G := G) (lm := lm) hc1 FrB.refl r0 (by decide) (by decide) (by decide)
          obtain ⟨m21, v20, g2, r2, c2⟩ := rd_in (G := G) (lm := lm) hc1 g1 r1 (by decide) (by decide) (by decide)
          obtain ⟨m23, v22, g3, r3, c3⟩ := rd_in (G := G) (lm := lm) hc1 g2 r2 (by decide) (by decide) (by decide)
          obtain ⟨m25, g9, r9, c9⟩ := rd_semi (G := G) (lm := lm) hc1 g3 r3 hF
          have t27 : t.s < t.e := ht.2.2.2 (fun z => by rw [stT_not (by omega)] at hst; omega)
          obtain ⟨m', q1, q2, q3⟩ := ih (mset m25 63 28 (m25 63 28 + 1)) ((g.trans (f1.q.trans g9.q)).set (by decide)) (rd_next (k := 1) d10 (by decide) hf h6 h2 t27 g9 r9)
          refine ⟨m', q1, q2, bX10_readBells_5 ⟨_, ck, fun z => absurd z (by decide), fun _ => ⟨1, m10, by rw [e27]; exact f4, fun z => absurd z (by decide), fun _ => ⟨v16, m17, c1, dpb 1 + cnT 1 * D.1 1 + 0, ?_, ?_, v20, m21, c2, dpb 1 + cnT 1 * D.1 1 + 1, ?_, ?_, v22, m23, c3, dpb 1 + cnT 1 * D.1 1 + 2, ?_, ?_, m25, c9, q3⟩⟩⟩⟩
          · rw [e10, show (3 : Int32) = nI 3 from rfl, nI_mul, show (8 : Int32) = nI 8 from rfl, nI_add]; exact congrArg nI (by show 8 + 3 * D.1 1 = 8 + 3 * D.1 1 + 0; omega)
          · show 8 + 3 * D.1 1 + 0 < 64; omega
          · rw [g1.2.1 28 (by decide), e10, show (3 : Int32) = nI 3 from rfl, nI_mul, show (8 : Int32) = nI 8 from rfl, nI_add, nI_1]; exact congrArg nI (by show 8 + 3 * D.1 1 + 1 = 8 + 3 * D.1 1 + 1; omega)
          · show 8 + 3 * D.1 1 + 1 < 64; omega
          · rw [g2.2.1 28 (by decide), e10, show (3 : Int32) = nI 3 from rfl, nI_mul, show (8 : Int32) = nI 8 from rfl, nI_add, show (2 : Int32) = nI 2 from rfl, nI_add]; exact congrArg nI (by show 8 + 3 * D.1 1 + 2 = 8 + 3 * D.1 1 + 2; omega)
          · show 8 + 3 * D.1 1 + 2 < 64; omega
        · obtain ⟨m10, f1, f2, f3⟩ := cm_beginsFull (G := G) (lm := lm) h3 h4 (d := D.1 1) (mo := 8) (by omega)
          have hF := h7.trans (go_full (f := f) hst (by decide) h6 hf)
          refine ⟨m10, g.trans f1.q, Or.inr (by rw [hF]; exact ⟨show ¬ (4 : Nat) = 0 by decide, f2⟩), bX10_readBells_5 ⟨_, ck, fun z => absurd z (by decide), fun _ => ⟨0, m10, by rw [e27]; exact f3, fun _ => ⟨fun _ => ⟨rfl, rfl⟩, fun _ => ⟨m10, cm_fail0 f2.ne, rfl, rfl⟩⟩, fun z => absurd rfl z⟩⟩⟩
      · rw [bI_f hst] at ck
        by_cases hz : D.1 1 = 0
        · obtain ⟨m6, f1, f2, f3⟩ := cm_fail (G := G) (lm := lm) (c := 1) h3 h4.1 (by decide) (by decide)
          have hF := h7.trans (go_none (f := f + 1) hst (by decide) hz (fun z => absurd z (by decide)))
          refine ⟨m6, g.trans f1.q, Or.inr (by rw [hF]; exact ⟨show ¬ (1 : Nat) = 0 by decide, f2⟩), bX10_readBells_5 ⟨_, ck, fun _ => ⟨fun z => absurd (by rw [e27, hz]; rfl) z, fun _ => ⟨m6, f3, rfl, rfl⟩⟩, fun z => absurd rfl z⟩⟩
        · exact ⟨mm, g, xs hst hz, bX10_readBells_5 ⟨_, ck, fun _ => ⟨fun _ => ⟨rfl, rfl⟩, fun z => absurd z (by rw [e27]; exact nI_ne0 (by omega) (by omega))⟩, fun z => absurd rfl z⟩⟩
    · exact err mm g he
theorem j_quiets (hc : MB base n b) : ∀ f mm, FrQ base mm → LTS b n F f 2 mm → ∃ m', FrQ base m' ∧ XS b n F 2 m' ∧ J G M_X10_readQuiets 5 [(0, .ref 63)] [] (SH, mm, lm) false (.inl none) (SH, m', lm) false 0 0 := by
  intro f
  have err : ∀ mm, FrQ base mm → ¬ F.1 = 0 ∧ ME mm F.1 F.2.1 → ∃ m', FrQ base m' ∧ XS b n F 2 m' ∧ J G M_X10_readQuiets 5 [(0, .ref 63)] [] (SH, mm, lm) false (.inl none) (SH, m', lm) false 0 0 := fun mm g he =>
    ⟨mm, g, Or.inr he, bX10_readQuiets_5 ⟨_, cm_isKeyword0 he.2.ne (k := 2) (by decide), fun _ => ⟨rfl, rfl⟩, fun z => absurd rfl z⟩⟩
  induction f with
  | zero =>
    intro mm g hl
    rcases hl with ⟨p, D, h1, h2, -⟩ | he
    · have := tk_in (b := b) h1; omega
    · exact err mm g he
  | succ f ih =>
    intro mm g hl
    rcases hl with ⟨p, D, h1, h2, h3, h4, h5, h6, h7⟩ | he
    · have hc0 := hc.q g
      have hn := hc.2.1
      have ht := tk_in (b := b) h1
      have htk := tk_k (b := b) (n := n) (p := p)
      have e27 : mm 63 29 = nI (D.1 2) := (h5.1 2 (by decide)).1 (by decide)
      have hb : D.1 2 ≤ 6 := (h5.1 2 (by decide)).2.1
      have xs : stT b (tk b n p) ≠ 2 → XS b n F 2 mm := fun a => Or.inl ⟨f + 1, p, D, h1, h2, h3, h4, h5, ⟨fun _ => h6.1 (by decide), fun _ => h6.2 (by decide)⟩, by rw [h7]; exact go_skip a⟩
      generalize tk b n p = t at h2 h4 h7 ht htk xs
      have ck := cm_isKeyword (G := G) (lm := lm) hc0 ht.2.2.1 ht.2.1 htk h4 h3.1 (k := 2) (by decide)
      by_cases hst : stT b t = 2
      · rw [bI_t hst] at ck
        by_cases hf : D.1 2 < 6
        · obtain ⟨m10, f1, f2, f3, f4⟩ := cm_beginsOk (G := G) (lm := lm) hc0 h3 h4 ht.2.2.1 hf (by decide)
          have hc1 := hc0.l f1
          have d10 := h5.l f1
          have e10 : m10 63 29 = nI (D.1 2) := by rw [f1.2 29 (by decide)]; exact e27
          have hF := h7.trans (go_body (f := f) hst (by decide) h6 hf)
          have r0 : RS b n 2 (dpb 2 + cnT 2 * D.1 2) t.e (nums b n 2 (cnT 2) 0 t.e (fun _ => 0)) 2 0 m10 := Or.inl ⟨t.e, fun _ => 0, Nat.le_refl _, ht.2.2.1, f2, f3, rfl, fun x hx => absurd hx (Nat.not_lt_zero x)⟩
          obtain ⟨m17, v16, g1, r1, c1⟩ := rd_in (G := G) (lm := lm) hc1 FrB.refl r0 (by decide) (by decide) (by decide)
          obtain ⟨m21, v20, g2, r2, c2⟩ := rd_step (G := G) (lm := lm) hc1 g1 r1 (by decide) (by decide) (x3 := v16) (fun v hv y _ hy => by
            have q := hv 0 (by decide)
            have hy : y ≤ 1440 := hy
            rw [mset_eq] at q
            rw [q.1, nI_ltI (by omega) (by omega)]
            omega)
          obtain ⟨m25, g9, r9, c9⟩ := rd_semi (G := G) (lm := lm) hc1 g2 r2 hF
          have t27 : t.s < t.e := ht.2.2.2 (fun z => by rw [stT_not (by omega)] at hst; omega)
          obtain ⟨m', q1, q2, q3⟩ := ih (mset m25 63 29 (m25 63 29 + 1)) ((g.trans (f1.q.trans g9.q)).set (by decide)) (rd_next (k := 2) d10 (by decide) hf h6 h2 t27 g9 r9)
          refine ⟨m', q1, q2, bX10_readQuiets_5 ⟨_, ck, fun z => absurd z (by decide), fun _ => ⟨1, m10, by rw [e27]; exact f4, fun z => absurd z (by decide), fun _ => ⟨v16, m17, c1, dpb 2 + cnT 2 * D.1 2 + 0, ?_, ?_, v20, m21, c2, dpb 2 + cnT 2 * D.1 2 + 1, ?_, ?_, m25, c9, q3⟩⟩⟩⟩
          · rw [show m17 63 29 = m10 63 29 from by have q := g1.2.1 29 (by decide); rw [mset_ne (by decide)] at q; exact q, e10, show (2 : Int32) = nI 2 from rfl, nI_mul, show (32 : Int32) = nI 32 from rfl, nI_add]; exact congrArg nI (by show 32 + 2 * D.1 2 = 32 + 2 * D.1 2 + 0; omega)
          · show 32 + 2 * D.1 2 + 0 < 64; omega
          · rw [g1.2.1 29 (by decide), e10, show (2 : Int32) = nI 2 from rfl, nI_mul, show (32 : Int32) = nI 32 from rfl, nI_add, nI_1]; exact congrArg nI (by show 32 + 2 * D.1 2 + 1 = 32 + 2 * D.1 2 + 1; omega)
          · show 32 + 2 * D.1 2 + 1 < 64; omega
        · obtain ⟨m10, f1, f2, f3⟩ := cm_beginsFull (G := G) (lm := lm) h3 h4 (d := D.1 2) (mo := 6) (by omega)
          have hF := h7.trans (go_full (f := f) hst (by decide) h6 hf)
          refine ⟨m10, g.trans f1.q, Or.inr (by rw [hF]; exact ⟨show ¬ (4 : Nat) = 0 by decide, f2⟩), bX10_readQuiets_5 ⟨_, ck, fun z => absurd z (by decide), fun _ => ⟨0, m10, by rw [e27]; exact f3, fun _ => ⟨rfl, rfl⟩, fun z => absurd rfl z⟩⟩⟩
      · rw [bI_f hst] at ck
        exact ⟨mm, g, xs hst, bX10_readQuiets_5 ⟨_, ck, fun _ => ⟨rfl, rfl⟩, fun z => absurd rfl z⟩⟩
    · exact err mm g he
theorem j_ropes (hc : MB base n b) : ∀ f mm, FrQ base mm → LTS b n F f 3 mm → ∃ m', FrQ base m' ∧ XS b n F 3 m' ∧ J G M_X10_readRopes 5 [(0, .ref 63)] [] (SH, mm, lm) false (.inl none) (SH, m', lm) false 0 0 := by
  intro f
  have err : ∀ mm, FrQ base mm → ¬ F.1 = 0 ∧ ME mm F.1 F.2.1 → ∃ m', FrQ base m' ∧ XS b n F 3 m' ∧ J G M_X10_readRopes 5 [(0, .ref 63)] [] (SH, mm, lm) false (.inl none) (SH, m', lm) false 0 0 := fun mm g he =>
    ⟨mm, g, Or.inr he, bX10_readRopes_5 ⟨_, cm_isKeyword0 he.2.ne (k := 3) (by decide), fun _ => ⟨rfl, rfl⟩, fun z => absurd rfl z⟩⟩
  induction f with
  | zero =>
    intro mm g hl
    rcases hl with ⟨p, D, h1, h2, -⟩ | he
    · have := tk_in (b := b) h1; omega
    · exact err mm g he
  | succ f ih =>
    intro mm g hl
    rcases hl with ⟨p, D, h1, h2, h3, h4, h5, h6, h7⟩ | he
    · have hc0 := hc.q g
      have hn := hc.2.1
      have ht := tk_in (b := b) h1
      have htk := tk_k (b := b) (n := n) (p := p)
      have e27 : mm 63 30 = nI (D.1 3) := (h5.1 3 (by decide)).1 (by decide)
      have hb : D.1 3 ≤ 8 := (h5.1 3 (by decide)).2.1
      have xs : stT b (tk b n p) ≠ 3 → XS b n F 3 mm := fun a => Or.inl ⟨f + 1, p, D, h1, h2, h3, h4, h5, ⟨fun _ => h6.1 (by decide), fun _ => h6.2 (by decide)⟩, by rw [h7]; exact go_skip a⟩
      generalize tk b n p = t at h2 h4 h7 ht htk xs
      have ck := cm_isKeyword (G := G) (lm := lm) hc0 ht.2.2.1 ht.2.1 htk h4 h3.1 (k := 3) (by decide)
      by_cases hst : stT b t = 3
      · rw [bI_t hst] at ck
        by_cases hf : D.1 3 < 8
        · obtain ⟨m10, f1, f2, f3, f4⟩ := cm_beginsOk (G := G) (lm := lm) hc0 h3 h4 ht.2.2.1 hf (by decide)
          have hc1 := hc0.l f1
          have d10 := h5.l f1
          have e10 : m10 63 30 = nI (D.1 3) := by rw [f1.2 30 (by decide)]; exact e27
          have hF := h7.trans (go_body (f := f) hst (by decide) h6 hf)
          have r0 : RS b n 3 (dpb 3 + cnT 3 * D.1 3) t.e (nums b n 3 (cnT 3) 0 t.e (fun _ => 0)) 1 0 m10 := Or.inl ⟨t.e, fun _ => 0, Nat.le_refl _, ht.2.2.1, f2, f3, rfl, fun x hx => absurd hx (Nat.not_lt_zero x)⟩
          obtain ⟨m17, v16, g1, r1, c1⟩ := rd_in (G := G) (lm := lm) hc1 FrB.refl r0 (by decide) (by decide) (by decide)
          obtain ⟨m25, g9, r9, c9⟩ := rd_semi (G := G) (lm := lm) hc1 g1 r1 hF
          have t27 : t.s < t.e := ht.2.2.2 (fun z => by rw [stT_not (by omega)] at hst; omega)
          obtain ⟨m', q1, q2, q3⟩ := ih (mset m25 63 30 (m25 63 30 + 1)) ((g.trans (f1.q.trans g9.q)).set (by decide)) (rd_next (k := 3) d10 (by decide) hf h6 h2 t27 g9 r9)
          refine ⟨m', q1, q2, bX10_readRopes_5 ⟨_, ck, fun z => absurd z (by decide), fun _ => ⟨1, m10, by rw [e27]; exact f4, fun z => absurd z (by decide), fun _ => ⟨v16, m17, c1, dpb 3 + cnT 3 * D.1 3 + 0, ?_, ?_, m25, c9, q3⟩⟩⟩⟩
          · rw [e10, show (44 : Int32) = nI 44 from rfl, nI_add]; exact congrArg nI (by show 44 + D.1 3 = 44 + 1 * D.1 3 + 0; omega)
          · show 44 + 1 * D.1 3 + 0 < 64; omega
        · obtain ⟨m10, f1, f2, f3⟩ := cm_beginsFull (G := G) (lm := lm) h3 h4 (d := D.1 3) (mo := 8) (by omega)
          have hF := h7.trans (go_full (f := f) hst (by decide) h6 hf)
          refine ⟨m10, g.trans f1.q, Or.inr (by rw [hF]; exact ⟨show ¬ (4 : Nat) = 0 by decide, f2⟩), bX10_readRopes_5 ⟨_, ck, fun z => absurd z (by decide), fun _ => ⟨0, m10, by rw [e27]; exact f3, fun _ => ⟨rfl, rfl⟩, fun z => absurd rfl z⟩⟩⟩
      · rw [bI_f hst] at ck
        exact ⟨mm, g, xs hst, bX10_readRopes_5 ⟨_, ck, fun _ => ⟨rfl, rfl⟩, fun z => absurd rfl z⟩⟩
    · exact err mm g he
end MLoops
