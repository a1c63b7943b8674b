/-! ===== load, both sides ===== -/
section OpLoad
variable {G : Gx}
theorem op_load : OpD G Inv M_X9_load M_X10_load := by
  intro mm lm hI
  obtain ⟨tl, h1, h2, h3, h4, h5⟩ := hI.1
  obtain ⟨b, hb⟩ : ∃ b : Nat → Nat, ∀ i, i < tl → b i < 256 ∧ mm 74 i = nI (b i) ∧ mm 2 i = cb (b i) := ⟨fun i => (mm 74 i).toNatClampNeg, fun i hi => by
    obtain ⟨x, x1, x2, x3⟩ := h5 i hi
    have e : (mm 74 i).toNatClampNeg = x := by rw [x2]; exact nI_clamp (by omega)
    show (mm 74 i).toNatClampNeg < 256 ∧ mm 74 i = nI (mm 74 i).toNatClampNeg ∧ mm 2 i = cb (mm 74 i).toNatClampNeg
    rw [e]; exact ⟨x1, x2, x3⟩⟩
  have hc : CB mm tl b := ⟨h2, h1, fun i hi => ⟨(hb i hi).1, (hb i hi).2.2⟩⟩
  obtain ⟨m3, g3, p3, c3⟩ := c_parse (G := G) (lm := lm) hc
  obtain ⟨m4, hm4⟩ : ∃ m4, m4 = mset m3 1 2 0 := ⟨_, rfl⟩
  have m4c : ∀ c, c ≠ 1 → m4 c = m3 c := fun c hc => by rw [hm4, mset_ne hc]
  have m42 : m4 1 2 = 0 := by rw [hm4, mset_eq]
  have m43 : m4 1 3 = m3 1 3 := by rw [hm4, mset_in (by decide)]
  by_cases hq : (txT b tl).1 = 0
  · obtain ⟨z3, d3⟩ := p3.1 hq
    have ok := txT_ok hq
    have ref := fun (W : Nat → Nat → Int32) (w18 : W 63 18 = nI tl) (w74 : W 74 = mm 74) => (cm_load (G := G) (lm := lm) (W := W) w18 h1 (fun i hi => ⟨(hb i hi).1, by rw [w74]; exact (hb i hi).2.1⟩)).2 hq
    rw [hq] at c3
    generalize (txT b tl).2.2 = D at d3 ok ref
    have d4 : CDr m4 D := ⟨fun k hk => by rw [m4c 13 (by decide)]; exact d3.1 k hk, fun r hr j hj => by rw [m4c (14 + r) (by omega)]; exact d3.2 r hr j hj⟩
    obtain ⟨mC, f1, f2, f3, f4⟩ := c_copyTower (G := G) (lm := lm) d4
    obtain ⟨m1, r1, r2, r3⟩ := j_resets (G := G) (lm := lm) mC
    have b0 : D.1 0 ≤ 4 := (d3.1 0 (by decide)).2
    have b1 : D.1 1 ≤ 8 := (d3.1 1 (by decide)).2
    have b2 : D.1 2 ≤ 6 := (d3.1 2 (by decide)).2
    have b3 : D.1 3 ≤ 8 := (d3.1 3 (by decide)).2
    have v1 : ∀ r, r < 8 → ∀ j, j < D.1 (kd r) → m1 (5 + r) j = nI (D.2 r j) := fun r hr j hj => by rw [r1 (5 + r) (by omega)]; exact f3 r hr j hj
    have n10 : m1 4 10 = nI (D.1 2) := by rw [r1 4 (by decide)]; exact f2.2.2.1
    obtain ⟨mQ, k1, k2, k3⟩ := c_markQuietMinutes (G := G) (lm := lm) n10 b2 (fun i hi => ⟨D.2 5 i, Nat.lt_succ_of_le (ok 5 (by decide) i hi).2, v1 5 (by decide) i hi⟩) (fun i hi => ⟨D.2 6 i, (ok 6 (by decide) i hi).2, v1 6 (by decide) i hi⟩)
    obtain ⟨W, hW⟩ : ∃ W, W = mset (mset (mset mQ 48 2 0) 48 3 0) 0 10 1 := ⟨_, rfl⟩
    have Wc : ∀ c, c ≠ 0 → c ≠ 48 → W c = mQ c := fun c d1 d2 => by rw [hW, mset_ne d1, mset_ne d2, mset_ne d2]
    have W1 : ∀ c, c ≠ 0 → c ≠ 48 → c ≠ 43 → W c = m1 c := fun c d1 d2 d3 => by rw [Wc c d1 d2, k1 c d3]
    have W0 : ∀ c, c ≠ 0 → c ≠ 48 → c ≠ 43 → c < 4 ∨ 30 < c → W c = m4 c := fun c d1 d2 d3 d4 => by rw [W1 c d1 d2 d3, r1 c (by omega), f1 c (by omega)]
    have Wm : ∀ c, 48 < c → W c = mm c := fun c d => by rw [W0 c (by omega) (by omega) (by omega) (by omega), m4c c (by omega), g3.1 c (by omega) (by omega) (by omega)]
    have ct : Ct G M_X9_load [.ref 0] (SH, mm, lm) false (.inl (some (.int (nI (D.1 1))))) (SH, W, lm) false 0 0 := by
      refine CJ (bX9_load_0 ⟨_, m3, c3, fun _ => ⟨mC, by rw [← hm4]; exact f4, r3 _ _ (bX9_load_42 ⟨fun _ => ⟨mQ, k3, _, c_forgetAll, ?_, ?_⟩, fun z => absurd (Int32.le_refl _) z⟩)⟩, fun z => absurd rfl z⟩)
      · rw [← hW, W1 4 (by decide) (by decide) (by decide), r1 4 (by decide), f2.2.1]
      · rw [hW]
    obtain ⟨Z, q1, q18, q25, q2, q3, q4, q5⟩ := ref W (by rw [Wm 63 (by decide)]; exact h3) (Wm 74 (by decide))
    have Zc : ∀ c, c ≠ 63 → c ≠ 64 → c ≠ 75 → c < 66 ∨ 73 < c → Z c = W c := q1
    have ZW : ∀ c, c < 63 → Z c = W c := fun c hc => q1 c (by omega) (by omega) (by omega) (by omega)
    have Z1 : ∀ c, c < 63 → c ≠ 0 → c ≠ 48 → c ≠ 43 → Z c = m1 c := fun c hc d1 d2 d3 => by rw [ZW c hc, W1 c d1 d2 d3]
    have zr : ∀ r, r < 8 → ∀ j, j < D.1 (kd r) → Z (5 + r) j = nI (D.2 r j) := fun r hr j hj => by rw [Z1 (5 + r) (by omega) (by omega) (by omega) (by omega)]; exact v1 r hr j hj
    have row : ∀ r, r < 8 → ∀ j, j < D.1 (kd r) → Z (5 + r) j = Z (66 + r) j := fun r hr j hj => (zr r hr j hj).trans (q3 r hr j hj).symm
    have Z4 : Z 4 = mC 4 := by rw [Z1 4 (by decide) (by decide) (by decide) (by decide), r1 4 (by decide)]
    refine ⟨nI (D.1 1), W, Z, ct, q5, ⟨0, by decide, ?_, q18, ?_, fun i hi => absurd hi (Nat.not_lt_zero i)⟩, D.1 1, D.1 0, D.1 2, D.1 3, ⟨⟨by rw [Z4]; exact f2.2.1, q2.2.2.2.1, b1⟩, ⟨by rw [Z4]; exact f2.1, q2.2.2.1, b0⟩, ⟨by rw [Z4]; exact f2.2.2.1, q2.2.2.2.2.1, b2⟩, ⟨by rw [Z4]; exact f2.2.2.2, q2.2.2.2.2.2, b3⟩, ?_⟩,
      ⟨fun i hi => ⟨⟨row 0 (by decide) i hi, D.2 0 i, (ok 0 (by decide) i hi).1, (ok 0 (by decide) i hi).2, zr 0 (by decide) i hi⟩, row 1 (by decide) i hi, D.2 1 i, (ok 1 (by decide) i hi).2, zr 1 (by decide) i hi⟩,
       fun k hk => ⟨⟨row 2 (by decide) k hk, D.2 2 k, (ok 2 (by decide) k hk).1, (ok 2 (by decide) k hk).2, zr 2 (by decide) k hk⟩, ⟨row 3 (by decide) k hk, D.2 3 k, (ok 3 (by decide) k hk).1, (ok 3 (by decide) k hk).2, zr 3 (by decide) k hk⟩, row 4 (by decide) k hk, D.2 4 k, (ok 4 (by decide) k hk).1, (ok 4 (by decide) k hk).2, zr 4 (by decide) k hk⟩,
       fun i hi => ⟨⟨row 5 (by decide) i hi, D.2 5 i, Nat.lt_succ_of_le (ok 5 (by decide) i hi).2, zr 5 (by decide) i hi⟩, row 6 (by decide) i hi, D.2 6 i, (ok 6 (by decide) i hi).2, zr 6 (by decide) i hi⟩,
       fun i hi => ⟨row 7 (by decide) i hi, D.2 7 i, (ok 7 (by decide) i hi).1, (ok 7 (by decide) i hi).2, zr 7 (by decide) i hi⟩, fun m hm => ?_⟩, sr_fresh (fun k hk => ?_) (fun k s hk hs => q4 _ (by omega)) (fun x hx => ⟨D.2 1 x, (ok 1 (by decide) x hx).2, zr 1 (by decide) x hx⟩) b0, 0, 0, by decide, by decide, ?_, ?_, q2.1, fun j hj => absurd hj (Nat.not_lt_zero j)⟩
    · rw [ZW 1 (by decide), W0 1 (by decide) (by decide) (by decide) (by decide)]; exact m42
    · rw [ZW 1 (by decide), W0 1 (by decide) (by decide) (by decide) (by decide), m43, q25]; exact z3.2
    · rw [q2.2.1, ZW 0 (by decide), hW, mset_eq]
    · rw [ZW 43 (by decide), Wc 43 (by decide) (by decide), Z1 10 (by decide) (by decide) (by decide) (by decide), Z1 11 (by decide) (by decide) (by decide) (by decide)]; exact k2 m hm
    · show Fresh Z k
      unfold Fresh
      rw [Z1 (23 + k) (by omega) (by omega) (by omega) (by omega)]; exact r2 k (by omega)
    · rw [ZW 48 (by decide), hW, mset_ne (by decide), mset_in (by decide), mset_eq]; rfl
    · rw [ZW 48 (by decide), hW, mset_ne (by decide), mset_eq]; rfl
  · have ce := p3.2 hq
    have m4m : ∀ c, c ≠ 1 → c ≠ 3 → c < 13 ∨ 21 < c → m4 c = mm c := fun c d1 d2 d3 => by rw [m4c c d1, g3.1 c d1 d2 d3]
    obtain ⟨Z, q1, q18, q25, q5⟩ := (cm_load (G := G) (lm := lm) (W := m4) (b := b) (tl := tl) (by rw [m4m 63 (by decide) (by decide) (by decide)]; exact h3) h1 (fun i hi => ⟨(hb i hi).1, by rw [m4m 74 (by decide) (by decide) (by decide)]; exact (hb i hi).2.1⟩)).1 hq
    refine ⟨-10 - nI (txT b tl).1, m4, Z, CJ (bX9_load_0 ⟨_, m3, c3, fun z => absurd z (nI_ne0 (Nat.pos_of_ne_zero hq) (by have := ce.1.2; omega)), fun _ => ⟨rfl, by rw [hm4]⟩⟩), q5, hI.text2 ⟨0, by decide, ?_, q18, ?_, fun i hi => absurd hi (Nat.not_lt_zero i)⟩ ?_ (fun c hc => ?_) (fun j j1 j2 => ?_)⟩
    · rw [q1.1 1 (by decide) (by decide)]; exact m42
    · rw [q1.1 1 (by decide) (by decide), m43, q25]; exact ce.2.2
    · rw [q1.1 0 (by decide) (by decide), m4m 0 (by decide) (by decide) (by decide)]
    · rw [q1.1 c (by omega) (by omega), m4m c (by omega) (by omega) (by omega)]
    · rw [q1.2 j j1 j2, m4m 63 (by decide) (by decide) (by decide)]
end OpLoad
