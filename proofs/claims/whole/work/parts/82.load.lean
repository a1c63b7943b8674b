/-! ===== load ===== -/
/-- the text may change, and the reference's reading of it: all else is as it was -/
theorem Inv.text2 {mm mm' : Nat → Nat → Int32} (h : Inv mm) (hT : InvT mm') (e0 : mm' 0 10 = mm 0 10) (eb : ∀ c, (4 ≤ c ∧ c ≤ 12) ∨ (23 ≤ c ∧ c ≤ 30) ∨ c = 43 ∨ (48 ≤ c ∧ c ≤ 62) ∨ (64 ≤ c ∧ c ≤ 73) → mm' c = mm c) (e63 : ∀ j, j < 18 → j ≠ 4 → mm' 63 j = mm 63 j) : Inv mm' := by
  obtain ⟨-, nb, nm, nq, np, h2, h3, h4⟩ := h
  have h8 := h2.1.2.2
  have b4 := eb 4 (by omega)
  have b5 := eb 5 (by omega)
  have b6 := eb 6 (by omega)
  have b7 := eb 7 (by omega)
  have b8 := eb 8 (by omega)
  have b9 := eb 9 (by omega)
  have b10 := eb 10 (by omega)
  have b11 := eb 11 (by omega)
  have b12 := eb 12 (by omega)
  have b43 := eb 43 (by omega)
  have b48 := eb 48 (by omega)
  have b49 := eb 49 (by omega)
  have b64 := eb 64 (by omega)
  have b65 := eb 65 (by omega)
  refine ⟨hT, nb, nm, nq, np, ?_, ?_, ?_⟩
  · unfold InvN at h2 ⊢
    rw [b4, e0, e63 8 (by omega) (by omega), e63 5 (by omega) (by omega), e63 12 (by omega) (by omega), e63 15 (by omega) (by omega), e63 3 (by omega) (by omega)]
    exact h2
  · unfold InvW at h3 ⊢
    rw [b5, b6, b7, b8, b9, b10, b11, b12, b43, eb 66 (by omega), eb 67 (by omega), eb 68 (by omega), eb 69 (by omega), eb 70 (by omega), eb 71 (by omega), eb 72 (by omega), eb 73 (by omega)]
    exact h3
  · obtain ⟨h1, o0, n, ho, hn, q2, q3, q4, h5⟩ := h4
    refine ⟨h1.congr (fun k s hk _ => by show mm' (23 + k) s = mm (23 + k) s; rw [eb (23 + k) (by omega)]) (fun k s _ _ => by simp only [mS, b64]) (fun k _ => by rw [b8]) (fun k _ => by rw [b7]) (fun b _ => by rw [b6]), o0, n, ho, hn, by rw [b48]; exact q2, by rw [b48]; exact q3, by rw [e63 2 (by omega) (by omega)]; exact q4, fun j hj => ?_⟩
    obtain ⟨⟨b, hb2, hb3⟩, h6⟩ := h5 j hj
    refine ⟨⟨b, hb2, by rw [b49]; exact hb3⟩, h6.congr (fun k s hk _ => unC_congr b49 (fun i hi => eb _ (by omega)) (fun k s hk => by rw [eb (23 + k) (by omega)]) _ k s (by omega)) (fun k s _ _ => by rw [b65]) (fun k _ => by rw [b8]) (fun k _ => by rw [b7]) (fun b _ => by rw [b6])⟩
section LoadM
variable {G : Gx} {W : Nat → Nat → Int32} {lm : Nat → Int64} {b : Nat → Nat} {tl : Nat}
/-- the reference reads the whole text -/
theorem cm_readAll {M : Nat → Nat → Int32} {n : Nat} (hc : MB M n b) (h20 : M 63 20 = 0) (h0 : M0 M) : ∃ m3 m6 m9 m12 m15, FrQ M m15 ∧ XS b n (txT b n) 3 m15 ∧ Ct G M_X10_next [.ref 63] (SH, M, lm) false (.inl none) (SH, m3, lm) false 0 0 ∧ Ct G M_X10_readBeams [.ref 63] (SH, m3, lm) false (.inl none) (SH, m6, lm) false 0 0 ∧ Ct G M_X10_readBells [.ref 63] (SH, m6, lm) false (.inl none) (SH, m9, lm) false 0 0 ∧
    Ct G M_X10_readQuiets [.ref 63] (SH, m9, lm) false (.inl none) (SH, m12, lm) false 0 0 ∧ Ct G M_X10_readRopes [.ref 63] (SH, m12, lm) false (.inl none) (SH, m15, lm) false 0 0 := by
  have hn := hc.2.1
  obtain ⟨m3, f3, t3, c3⟩ := cm_next (G := G) (lm := lm) hc (p := 0) (Nat.zero_le _) (by rw [h20]; rfl) h0.1
  have z3 := f3.m0 h0
  have l0 : LTS b n (txT b n) 402 0 (mset m3 63 27 0) := by
    refine Or.inl ⟨0, D0, Nat.zero_le _, by omega, ?_, ?_, ⟨fun j hj => ⟨fun hj0 => ?_, Nat.zero_le _, fun _ => rfl⟩, fun r hr j hj => absurd hj (Nat.not_lt_zero j)⟩, ⟨fun z => absurd z (by decide), fun z => absurd z (by decide)⟩, rfl⟩
    · unfold M0; rw [mset_in (by decide), mset_in (by decide)]; exact z3
    · unfold MTk; rw [mset_in (by decide), mset_in (by decide), mset_in (by decide), mset_in (by decide)]; exact t3
    · have : j = 0 := by omega
      rw [this, mset_eq]; rfl
  obtain ⟨m6, g6, x6, j6⟩ := j_beams (G := G) (lm := lm) hc 402 _ (f3.l.q.set (by decide)) l0
  obtain ⟨f1, l1⟩ := x6.next (by decide)
  obtain ⟨m9, g9, x9, j9⟩ := j_bells (G := G) (lm := lm) hc f1 _ (g6.set (by decide)) l1
  obtain ⟨f2, l2⟩ := x9.next (by decide)
  obtain ⟨m12, g12, x12, j12⟩ := j_quiets (G := G) (lm := lm) hc f2 _ (g9.set (by decide)) l2
  obtain ⟨f3', l3⟩ := x12.next (by decide)
  obtain ⟨m15, g15, x15, j15⟩ := j_ropes (G := G) (lm := lm) hc f3' _ (g12.set (by decide)) l3
  exact ⟨m3, m6, m9, m12, m15, g15, x15, c3, CJ (bX10_readBeams_0 j6), CJ (bX10_readBells_0 j9), CJ (bX10_readQuiets_0 j12), CJ (bX10_readRopes_0 j15)⟩
def LdF (W m' : Nat → Nat → Int32) : Prop := (∀ c, c ≠ 63 → c ≠ 75 → m' c = W c) ∧ ∀ j, j < 18 → j ≠ 4 → m' 63 j = W 63 j
theorem cm_load (h18 : W 63 18 = nI tl) (hl : tl ≤ 400) (hb : ∀ i, i < tl → b i < 256 ∧ W 74 i = nI (b i)) :
    (¬ (txT b tl).1 = 0 → ∃ m', LdF W m' ∧ m' 63 18 = 0 ∧ m' 63 25 = nI (txT b tl).2.1 ∧ Ct G M_X10_load [.ref 63] (SH, W, lm) false (.inl (some (.int (-10 - nI (txT b tl).1)))) (SH, m', lm) false 0 0) ∧
    ((txT b tl).1 = 0 → ∃ m', (∀ c, c ≠ 63 → c ≠ 64 → c ≠ 75 → c < 66 ∨ 73 < c → m' c = W c) ∧ m' 63 18 = 0 ∧ m' 63 25 = -1 ∧ (m' 63 2 = 0 ∧ m' 63 3 = 1 ∧ m' 63 5 = nI ((txT b tl).2.2.1 0) ∧ m' 63 8 = nI ((txT b tl).2.2.1 1) ∧ m' 63 12 = nI ((txT b tl).2.2.1 2) ∧ m' 63 15 = nI ((txT b tl).2.2.1 3)) ∧
      (∀ r, r < 8 → ∀ j, j < (txT b tl).2.2.1 (kd r) → m' (66 + r) j = nI ((txT b tl).2.2.2 r j)) ∧ (∀ i, i < 80 → m' 64 i = -1) ∧ Ct G M_X10_load [.ref 63] (SH, W, lm) false (.inl (some (.int (nI ((txT b tl).2.2.1 1))))) (SH, m', lm) false 0 0) := by
  obtain ⟨M, hM⟩ : ∃ M, M = mset (mset (mset (mset (mset (mset W 63 4 0) 63 19 (mset W 63 4 0 63 18)) 63 18 0) 63 20 0) 63 24 0) 63 25 (-1) := ⟨_, rfl⟩
  have Mc : ∀ c, c ≠ 63 → M c = W c := fun c hc => by rw [hM, mset_ne hc, mset_ne hc, mset_ne hc, mset_ne hc, mset_ne hc, mset_ne hc]
  have Mj : ∀ j, j < 18 → j ≠ 4 → M 63 j = W 63 j := fun j h1 h2 => by rw [hM, mset_in (by omega), mset_in (by omega), mset_in (by omega), mset_in (by omega), mset_in (by omega), mset_in (by omega)]
  have M18 : M 63 18 = 0 := by rw [hM, mset_in (by decide), mset_in (by decide), mset_in (by decide), mset_eq]
  have M19 : M 63 19 = nI tl := by rw [hM, mset_in (by decide), mset_in (by decide), mset_in (by decide), mset_in (by decide), mset_eq, mset_in (by decide)]; exact h18
  have M20 : M 63 20 = 0 := by rw [hM, mset_in (by decide), mset_in (by decide), mset_eq]
  have M00 : M0 M := ⟨by rw [hM, mset_in (by decide), mset_eq], by rw [hM, mset_eq]⟩
  have hc : MB M tl b := ⟨M19, hl, fun i hi => by rw [Mc 74 (by decide)]; exact hb i hi⟩
  obtain ⟨m3, m6, m9, m12, m15, g, x, c3, c6, c9, c12, c15⟩ := cm_readAll (G := G) (lm := lm) hc M20 M00
  have fin : ∀ (o : Ou) (z : Wd), (((m15 63 22) = 0) → ∃ (v17 : Int32), Ct G M_X10_isFine [.ref 63] (SH, m15, lm) false (.inl (some (.int v17))) (SH, m15, lm) false 0 0 ∧ ((¬ v17 = 0) → ∃ (m21 : Nat → Nat → Int32), Ct G M_X10_takeOver [.ref 63] (SH, m15, lm) false (.inl none) (SH, m21, lm) false 0 0 ∧ o = .inl (some (.int (m21 63 8))) ∧ z = (SH, m21, lm)) ∧ ((v17 = 0) → o = .inl (some (.int ((-10) - (m15 63 24)))) ∧ z = (SH, m15, lm))) →
      ((¬ (m15 63 22) = 0) → ∃ (m25 : Nat → Nat → Int32), Ct G M_X10_fail [.ref 63, .int 1] (SH, m15, lm) false (.inl none) (SH, m25, lm) false 0 0 ∧ ∃ (v27 : Int32), Ct G M_X10_isFine [.ref 63] (SH, m25, lm) false (.inl (some (.int v27))) (SH, m25, lm) false 0 0 ∧ ((¬ v27 = 0) → ∃ (m31 : Nat → Nat → Int32), Ct G M_X10_takeOver [.ref 63] (SH, m25, lm) false (.inl none) (SH, m31, lm) false 0 0 ∧ o = .inl (some (.int (m31 63 8))) ∧ z = (SH, m31, lm)) ∧ ((v27 = 0) → o = .inl (some (.int ((-10) - (m25 63 24)))) ∧ z = (SH, m25, lm))) →
      Ct G M_X10_load [.ref 63] (SH, W, lm) false o z false 0 0 := fun o z h1 h2 => CJ (bX10_load_0 ⟨m3, by rw [← hM]; exact c3, m6, c6, m9, c9, m12, c12, m15, c15, h1, h2⟩)
  have ldf : ∀ m', FrL m15 m' → LdF W m' ∧ m' 63 18 = 0 := fun m' f => ⟨⟨fun c d1 d2 => by rw [f.1 c d1, g.1 c d1 d2, Mc c d1], fun j j1 j2 => by rw [f.2 j (by omega), g.2 j (by omega), Mj j j1 j2]⟩, by rw [f.2 18 (by decide), g.2 18 (by decide)]; exact M18⟩
  rcases x with ⟨f, p, D, h1, h2, h3, h4, h5, h6, h7⟩ | ⟨hne, he⟩
  · have ht := tk_in (b := b) h1
    have htk := tk_k (b := b) (n := tl) (p := p)
    obtain ⟨f, rfl⟩ : ∃ f', f = f' + 1 := ⟨f - 1, by omega⟩
    rw [go_s] at h7
    have e22 := h4.2.1
    by_cases hk0 : (tk b tl p).k = 0
    · have z22 : m15 63 22 = 0 := by rw [e22, hk0]; rfl
      rw [if_pos hk0, if_neg (h6.2 (by decide))] at h7
      rw [h7]
      refine ⟨fun z => absurd rfl z, fun _ => ?_⟩
      obtain ⟨m', t1, t2, t3, t4, t5, t6⟩ := cm_takeOver (G := G) (lm := lm) h5
      refine ⟨m', fun c d1 d2 d3 d4 => by rw [t1 c d1 d2 d4, g.1 c d1 d3, Mc c d1], ?_, ?_, t3, t4, t5, fin _ _ (fun _ => ⟨_, cm_isFine, fun _ => ⟨m', t6, ?_, rfl⟩, fun z => absurd h3.1 (bI_0.mp z)⟩) (fun z => absurd z22 z)⟩
      · rw [t2 18 (by decide) (by decide) (by decide) (by decide) (by decide) (by decide), g.2 18 (by decide)]; exact M18
      · rw [t2 25 (by decide) (by decide) (by decide) (by decide) (by decide) (by decide)]; exact h3.2
      · rw [t3.2.2.2.1]
    · have n22 : ¬ m15 63 22 = 0 := by
        rw [e22]
        refine nI_ne0 ?_ ?_
        · unfold mk; rw [if_neg hk0]; split <;> omega
        · unfold mk; rw [if_neg hk0]; split <;> omega
      have hw : wrT b 4 (tk b tl p) D = true := decide_eq_true (by
        have := stT_le (b := b) (t := tk b tl p)
        by_cases e : stT b (tk b tl p) = 4
        · exact Or.inl e
        · exact Or.inr (Or.inl (by omega)))
      rw [if_neg hk0, if_pos hw] at h7
      rw [h7]
      refine ⟨fun _ => ?_, fun z => absurd z (show ¬ (1 : Nat) = 0 by decide)⟩
      obtain ⟨m', f1, f2, f3⟩ := cm_fail (G := G) (lm := lm) (c := 1) h3 h4.1 (by decide) (by decide)
      obtain ⟨l1, l2⟩ := ldf m' f1
      refine ⟨m', l1, l2, f2.2.2, fin _ _ (fun z => absurd z n22) (fun _ => ⟨m', f3, _, cm_isFine, fun z => absurd (bI_1.mp z) f2.ne, fun _ => ⟨?_, rfl⟩⟩)⟩
      rw [f2.2.1]
  · refine ⟨fun _ => ?_, fun z => absurd z hne⟩
    obtain ⟨l1, l2⟩ := ldf m15 FrL.refl
    refine ⟨m15, l1, l2, he.2.2, fin _ _ (fun _ => ⟨_, cm_isFine, fun z => absurd (bI_1.mp z) he.ne, fun _ => ⟨?_, rfl⟩⟩) (fun _ => ⟨m15, cm_fail0 he.ne, _, cm_isFine, fun z => absurd (bI_1.mp z) he.ne, fun _ => ⟨?_, rfl⟩⟩)⟩
    · rw [he.2.1]
    · rw [he.2.1]
/-- bells as they stand before anything is done with them -/
def Fresh (m : Nat → Nat → Int32) (k : Nat) : Prop := m (23 + k) 0 = -1 ∧ m (23 + k) 2 = -1 ∧ m (23 + k) 4 = 0 ∧ m (23 + k) 5 = 0 ∧ m (23 + k) 7 = 0
theorem j_resets (m : Nat → Nat → Int32) : ∃ m1, (∀ c, c < 23 ∨ 30 < c → m1 c = m c) ∧ (∀ k, k < 8 → Fresh m1 k) ∧ ∀ o z, J G M_X9_load 42 [(0, .ref 0), (2, .int (nI 8))] [] (SH, m1, lm) false o z false 0 0 → J G M_X9_load 42 [(0, .ref 0), (2, .int (nI 0))] [] (SH, m, lm) false o z false 0 0 := by
  refine loop_up (n := 8) (P := fun i => ∀ m0, (∀ c, c < 23 ∨ 30 < c → m0 c = m c) → (∀ k, k < i → Fresh m0 k) → ∃ m1, (∀ c, c < 23 ∨ 30 < c → m1 c = m c) ∧ (∀ k, k < 8 → Fresh m1 k) ∧ ∀ o z, J G M_X9_load 42 [(0, .ref 0), (2, .int (nI 8))] [] (SH, m1, lm) false o z false 0 0 → J G M_X9_load 42 [(0, .ref 0), (2, .int (nI i))] [] (SH, m0, lm) false o z false 0 0) ?_ ?_ 0 (by decide) m (fun _ _ => rfl) (fun k hk => absurd hk (Nat.not_lt_zero k))
  · intro m0 h1 h2
    exact ⟨m0, h1, h2, fun o z h => h⟩
  · intro i hi ih m0 h1 h2
    obtain ⟨R, hR⟩ : ∃ R, R = mset (mset (mset (mset (mset (mset (mset (mset m0 (23 + i) 0 (-1)) (23 + i) 1 0) (23 + i) 2 (-1)) (23 + i) 3 0) (23 + i) 4 0) (23 + i) 5 0) (23 + i) 6 0) (23 + i) 7 0 := ⟨_, rfl⟩
    have Rc : ∀ c, c ≠ 23 + i → R c = m0 c := fun c hc => by rw [hR, mset_ne hc, mset_ne hc, mset_ne hc, mset_ne hc, mset_ne hc, mset_ne hc, mset_ne hc, mset_ne hc]
    obtain ⟨m1, q1, q2, q3⟩ := ih R (fun c hc => by rw [Rc c (by omega)]; exact h1 c hc) (fun k hk => by
      by_cases e : k = i
      · rw [e]
        refine ⟨?_, ?_, ?_, ?_, ?_⟩
        · rw [hR, mset_in (by decide), mset_in (by decide), mset_in (by decide), mset_in (by decide), mset_in (by decide), mset_in (by decide), mset_in (by decide), mset_eq]
        · rw [hR, mset_in (by decide), mset_in (by decide), mset_in (by decide), mset_in (by decide), mset_in (by decide), mset_eq]
        · rw [hR, mset_in (by decide), mset_in (by decide), mset_in (by decide), mset_eq]
        · rw [hR, mset_in (by decide), mset_in (by decide), mset_eq]
        · rw [hR, mset_eq]
      · unfold Fresh; rw [Rc (23 + k) (by omega)]; exact h2 k (by omega))
    exact ⟨m1, q1, q2, fun o z h => bX9_load_42 ⟨fun z => absurd z (lit_ge (n := 8) rfl hi (by decide)), fun _ => ⟨i, rfl, hi, R, CJ (bX0_reset_0 (sh_b23 hi) ⟨rfl, by rw [hR]⟩), by rw [nI_1]; exact q3 o z h⟩⟩⟩
theorem mo_zero {n : Nat} {be po w : Nat → Int32} {k : Nat} (hk : k < 2 ^ 31) (h : ∀ i, i < n → be i = -1) : mo n be po w (nI k) (fun _ => false) = 0 := by
  have e : ∀ n, (∀ i, i < n → be i = -1) → sumN (fun i => if (fun _ : Nat => false) i = false ∧ be i = nI k then w i * po i else 0) n = 0 := by
    intro n
    induction n with
    | zero => intro _; rfl
    | succ n ih =>
      intro h
      have ih := ih fun i hi => h i (by omega)
      simp only [sumN]
      simp only [] at ih
      rw [ih, if_neg (fun z => nI_ne_neg hk (by rw [← z.2]; exact h n (by omega)))]
      rfl
  exact e n h
theorem sr_fresh {nb nm : Nat} {rad w lim : Nat → Int32} {c m : Nat → Nat → Int32} (hc : ∀ k, k < nb → c k 0 = -1 ∧ c k 2 = -1 ∧ c k 4 = 0 ∧ c k 5 = 0 ∧ c k 7 = 0) (hm : ∀ k s, k < nb → s < 8 → m k s = -1) (hl : ∀ b, b < nm → ∃ l, l ≤ 50000 ∧ lim b = nI l) (hnm : nm ≤ 4) : SR nb nm rad w lim c m := by
  refine ⟨fun k hk => ?_, fun k o hk ho h => absurd (hc k hk).1 h, fun b hb => ?_⟩
  · obtain ⟨h0, h2, h4, h5, h7⟩ := hc k hk
    exact ⟨⟨by rw [h0, hm k 0 hk (by decide)], Or.inl h0⟩, fun z => absurd h0 z, ⟨by rw [h2, hm k 2 hk (by decide)], Or.inl h2⟩, fun z => absurd h2 z, ⟨0, by decide, h4⟩, Or.inl ⟨h5, hm k 5 hk (by decide)⟩, Or.inl ⟨h7, hm k 7 hk (by decide)⟩⟩
  · obtain ⟨l, l1, l2⟩ := hl b hb
    rw [mo_zero (by omega) fun i hi => (hc i hi).1, l2]
    exact nI_nlt (a := l) (b := 0) (by omega) (by omega)
end LoadM
