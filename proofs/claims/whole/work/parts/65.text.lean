/-! ===== the text buffer: append, truncate, errorPosition ===== -/
theorem byte_tab : ∀ b, b < 256 → (nI b).toInt8.toInt32 = if b < 128 then nI b else nI b - 256 := by decide +kernel
theorem byte_both (y : Int32) : ∃ b, b < 256 ∧ y &&& 255 = nI b ∧ y.toInt8.toInt32 = if b < 128 then nI b else nI b - 256 := by
  have h : (y &&& 255).toBitVec.toNat < 256 := by
    show (y.toBitVec &&& (255 : Int32).toBitVec).toNat < 256
    rw [BitVec.toNat_and]
    exact Nat.lt_of_le_of_lt Nat.and_le_right (by decide)
  have e : y &&& 255 = nI (y &&& 255).toBitVec.toNat := by
    rw [fa_eq, nI_toInt (by omega)]
    exact BitVec.toInt_eq_toNat_of_lt (by omega)
  generalize (y &&& 255).toBitVec.toNat = b at h e
  refine ⟨b, h, e, ?_⟩
  rw [← fa_byte_low, e]
  exact byte_tab b h
/-- byte k of a word, as the class keeps it and as the reference keeps it -/
abbrev wbC (x : Int32) (k : Nat) : Int32 := vp_nar .byte (Int8.toInt32 (Int32.toInt8 (x >>> ((24 - nI (8 * k)) &&& 31))))
abbrev wbM (x : Int32) (k : Nat) : Int32 := (x >>> ((24 - nI (8 * k)) &&& 31)) &&& 255
theorem wb_both (x : Int32) (k : Nat) : ∃ b, b < 256 ∧ wbM x k = nI b ∧ wbC x k = if b < 128 then nI b else nI b - 256 := by
  obtain ⟨b, h1, h2, h3⟩ := byte_both (x >>> ((24 - nI (8 * k)) &&& 31))
  exact ⟨b, h1, h2, by
    show (Int8.toInt32 (Int32.toInt8 (x >>> ((24 - nI (8 * k)) &&& 31)))).toInt8.toInt32 = _
    rw [fb_byte_twice]; exact h3⟩
theorem sh_next : ∀ k, k < 4 → (24 : Int32) - nI (8 * k) + (-8) = 24 - nI (8 * (k + 1)) := by decide +kernel
theorem sh_pos : ∀ k, k < 4 → ¬ (24 : Int32) - nI (8 * k) < 0 := by decide +kernel
section Word
variable {G : Gx} {m : Nat → Nat → Int32} {lm : Nat → Int64} {t : Nat}
theorem c_addWord (h : m 1 2 = nI t) (ht : t + 4 ≤ 400) (x : Int32) : ∃ m', (∀ c, c ≠ 1 → c ≠ 2 → m' c = m c) ∧ (∀ j, j ≠ 2 → m' 1 j = m 1 j) ∧ m' 1 2 = nI (t + 4) ∧ (∀ i, i < t → m' 2 i = m 2 i) ∧ (∀ k, k < 4 → m' 2 (t + k) = wbC x k) ∧
    Ct G M_X8_addWord [.ref 1, .int x] (SH, m, lm) false (.inl none) (SH, m', lm) false 0 0 := by
  have key := loop_up (n := 4) (P := fun k => ∀ m0, (∀ c, c ≠ 1 → c ≠ 2 → m0 c = m c) → (∀ j, j ≠ 2 → m0 1 j = m 1 j) → m0 1 2 = nI (t + k) → (∀ i, i < t → m0 2 i = m 2 i) → (∀ i, i < k → m0 2 (t + i) = wbC x i) →
    ∃ m', (∀ c, c ≠ 1 → c ≠ 2 → m' c = m c) ∧ (∀ j, j ≠ 2 → m' 1 j = m 1 j) ∧ m' 1 2 = nI (t + 4) ∧ (∀ i, i < t → m' 2 i = m 2 i) ∧ (∀ k, k < 4 → m' 2 (t + k) = wbC x k) ∧
    J G M_X8_addWord 3 [(0, .ref 1), (1, .int x), (2, .int (24 - nI (8 * k)))] [] (SH, m0, lm) false (.inl none) (SH, m', lm) false 0 0) ?_ ?_ 0 (by omega) m (fun _ _ _ => rfl) (fun _ _ => rfl) h (fun _ _ => rfl) (fun i hi => absurd hi (Nat.not_lt_zero i))
  · obtain ⟨m', q1, q2, q3, q4, q5, q6⟩ := key
    exact ⟨m', q1, q2, q3, q4, q5, CJ (bX8_addWord_0 q6)⟩
  · intro m0 h1 h2 h3 h4 h5
    exact ⟨m0, h1, h2, h3, h4, h5, bX8_addWord_3 ⟨fun _ => ⟨rfl, rfl⟩, fun z => absurd (by decide) z⟩⟩
  · intro k hk ih m0 h1 h2 h3 h4 h5
    obtain ⟨m9, hm9⟩ : ∃ m9, m9 = mset m0 2 (t + k) (wbC x k) := ⟨_, rfl⟩
    have e12 : m9 1 2 = nI (t + k) := by rw [hm9, mset_ne (by decide)]; exact h3
    obtain ⟨m', q1, q2, q3, q4, q5, q6⟩ := ih (mset m9 1 2 (m9 1 2 + 1)) (fun c c1 c2 => by rw [mset_ne c1, hm9, mset_ne c2]; exact h1 c c1 c2) (fun j hj => by rw [mset_ne2 (fun z => hj z.2), hm9, mset_ne (by decide)]; exact h2 j hj) (by rw [mset_eq, e12, nI_1]; rfl) (fun i hi => by rw [mset_ne (by decide), hm9, mset_ne2 (fun z => by omega)]; exact h4 i hi) (fun i hi => by
      rw [mset_ne (by decide), hm9]
      by_cases e : i = k
      · rw [e, mset_eq]
      · rw [mset_ne2 (fun z => by omega)]; exact h5 i (by omega))
    refine ⟨m', q1, q2, q3, q4, q5, bX8_addWord_3 ⟨fun z => absurd z (sh_pos k hk), fun _ => ⟨fun z => absurd z (by rw [h3]; exact lit_ge (n := 400) rfl (by omega) (by omega)), fun _ => ⟨t + k, h3, by omega, ?_⟩⟩⟩⟩
    rw [sh_next k hk, ← hm9]; exact q6
theorem cm_put (h : m 63 18 = nI t) (ht : t + 4 ≤ 400) (x : Int32) : ∃ m', (∀ c, c ≠ 63 → c ≠ 74 → m' c = m c) ∧ (∀ j, j ≠ 18 → m' 63 j = m 63 j) ∧ m' 63 18 = nI (t + 4) ∧ (∀ i, i < t → m' 74 i = m 74 i) ∧ (∀ k, k < 4 → m' 74 (t + k) = wbM x k) ∧
    Ct G M_X10_put [.ref 63, .int x] (SH, m, lm) false (.inl none) (SH, m', lm) false 0 0 := by
  have key := loop_up (n := 4) (P := fun k => ∀ m0, (∀ c, c ≠ 63 → c ≠ 74 → m0 c = m c) → (∀ j, j ≠ 18 → m0 63 j = m 63 j) → m0 63 18 = nI (t + k) → (∀ i, i < t → m0 74 i = m 74 i) → (∀ i, i < k → m0 74 (t + i) = wbM x i) →
    ∃ m', (∀ c, c ≠ 63 → c ≠ 74 → m' c = m c) ∧ (∀ j, j ≠ 18 → m' 63 j = m 63 j) ∧ m' 63 18 = nI (t + 4) ∧ (∀ i, i < t → m' 74 i = m 74 i) ∧ (∀ k, k < 4 → m' 74 (t + k) = wbM x k) ∧
    J G M_X10_put 3 [(0, .ref 63), (1, .int x), (2, .int (24 - nI (8 * k)))] [] (SH, m0, lm) false (.inl none) (SH, m', lm) false 0 0) ?_ ?_ 0 (by omega) m (fun _ _ _ => rfl) (fun _ _ => rfl) h (fun _ _ => rfl) (fun i hi => absurd hi (Nat.not_lt_zero i))
  · obtain ⟨m', q1, q2, q3, q4, q5, q6⟩ := key
    exact ⟨m', q1, q2, q3, q4, q5, CJ (bX10_put_0 q6)⟩
  · intro m0 h1 h2 h3 h4 h5
    exact ⟨m0, h1, h2, h3, h4, h5, bX10_put_3 ⟨fun _ => ⟨rfl, rfl⟩, fun z => absurd (by decide) z⟩⟩
  · intro k hk ih m0 h1 h2 h3 h4 h5
    obtain ⟨m9, hm9⟩ : ∃ m9, m9 = mset m0 74 (t + k) (wbM x k) := ⟨_, rfl⟩
    have e12 : m9 63 18 = nI (t + k) := by rw [hm9, mset_ne (by decide)]; exact h3
    obtain ⟨m', q1, q2, q3, q4, q5, q6⟩ := ih (mset m9 63 18 (m9 63 18 + 1)) (fun c c1 c2 => by rw [mset_ne c1, hm9, mset_ne c2]; exact h1 c c1 c2) (fun j hj => by rw [mset_ne2 (fun z => hj z.2), hm9, mset_ne (by decide)]; exact h2 j hj) (by rw [mset_eq, e12, nI_1]; rfl) (fun i hi => by rw [mset_ne (by decide), hm9, mset_ne2 (fun z => by omega)]; exact h4 i hi) (fun i hi => by
      rw [mset_ne (by decide), hm9]
      by_cases e : i = k
      · rw [e, mset_eq]
      · rw [mset_ne2 (fun z => by omega)]; exact h5 i (by omega))
    refine ⟨m', q1, q2, q3, q4, q5, bX10_put_3 ⟨fun z => absurd z (sh_pos k hk), fun _ => ⟨t + k, h3, by omega, ?_⟩⟩⟩
    rw [sh_next k hk, ← hm9]; exact q6
/-- five words -/
theorem five {f : Nat → Nat → Int32} {P : Nat → (Nat → Int32) → Prop} {m1 m2 m3 m4 m5 : Nat → Int32} {t : Nat} {x1 x2 x3 x4 x5 : Int32} {W : Int32 → Nat → Int32} {m0 : Nat → Int32}
    (a1 : ∀ i, i < t → m1 i = m0 i) (b1 : ∀ k, k < 4 → m1 (t + k) = W x1 k) (a2 : ∀ i, i < t + 4 → m2 i = m1 i) (b2 : ∀ k, k < 4 → m2 (t + 4 + k) = W x2 k)
    (a3 : ∀ i, i < t + 4 + 4 → m3 i = m2 i) (b3 : ∀ k, k < 4 → m3 (t + 4 + 4 + k) = W x3 k) (a4 : ∀ i, i < t + 4 + 4 + 4 → m4 i = m3 i) (b4 : ∀ k, k < 4 → m4 (t + 4 + 4 + 4 + k) = W x4 k)
    (a5 : ∀ i, i < t + 4 + 4 + 4 + 4 → m5 i = m4 i) (b5 : ∀ k, k < 4 → m5 (t + 4 + 4 + 4 + 4 + k) = W x5 k) :
    (∀ i, i < t → m5 i = m0 i) ∧ ∀ i, i < 20 → m5 (t + i) = W (if i / 4 = 0 then x1 else if i / 4 = 1 then x2 else if i / 4 = 2 then x3 else if i / 4 = 3 then x4 else x5) (i % 4) := by
  refine ⟨fun i hi => by rw [a5 i (by omega), a4 i (by omega), a3 i (by omega), a2 i (by omega), a1 i hi], fun i hi => ?_⟩
  have hm : i % 4 < 4 := Nat.mod_lt _ (by omega)
  by_cases h0 : i / 4 = 0
  · rw [if_pos h0, show t + i = t + i % 4 by omega, a5 _ (by omega), a4 _ (by omega), a3 _ (by omega), a2 _ (by omega), b1 _ hm]
  by_cases h1 : i / 4 = 1
  · rw [if_neg h0, if_pos h1, show t + i = t + 4 + i % 4 by omega, a5 _ (by omega), a4 _ (by omega), a3 _ (by omega), b2 _ hm]
  by_cases h2 : i / 4 = 2
  · rw [if_neg h0, if_neg h1, if_pos h2, show t + i = t + 4 + 4 + i % 4 by omega, a5 _ (by omega), a4 _ (by omega), b3 _ hm]
  by_cases h3 : i / 4 = 3
  · rw [if_neg h0, if_neg h1, if_neg h2, if_pos h3, show t + i = t + 4 + 4 + 4 + i % 4 by omega, a5 _ (by omega), b4 _ hm]
  · rw [if_neg h0, if_neg h1, if_neg h2, if_neg h3, show t + i = t + 4 + 4 + 4 + 4 + i % 4 by omega, b5 _ hm]
end Word
/-- the text may change: all else is as it was -/
theorem Inv.text {mm mm' : Nat → Nat → Int32} (h : Inv mm) (hT : InvT mm') (e0 : mm' 0 10 = mm 0 10) (eb : ∀ c, (4 ≤ c ∧ c ≤ 12) ∨ (23 ≤ c ∧ c ≤ 30) ∨ c = 43 ∨ (48 ≤ c ∧ c ≤ 62) ∨ (64 ≤ c ∧ c ≤ 73) → mm' c = mm c) (e63 : ∀ j, j ≠ 4 → j ≠ 18 → j ≠ 25 → mm' 63 j = mm 63 j) : Inv mm' := by
  obtain ⟨-, nb, nm, nq, np, h2, h3, h4⟩ := h
  have h8 := h2.1.2.2
  have b4 := eb 4 (by omega)
  have b5 := eb 5 (by omega)
  have b6 := eb 6 (by omega)
  have b7 := eb 7 (by omega)
  have b8 := eb 8 (by omega)
  have b9 := eb 9 (by omega)
  have b10 := eb 10 (by omega)
  have b11 := eb 11 (by omega)
  have b12 := eb 12 (by omega)
  have b43 := eb 43 (by omega)
  have b48 := eb 48 (by omega)
  have b49 := eb 49 (by omega)
  have b64 := eb 64 (by omega)
  have b65 := eb 65 (by omega)
  refine ⟨hT, nb, nm, nq, np, ?_, ?_, ?_⟩
  · unfold InvN at h2 ⊢
    rw [b4, e0, e63 8 (by omega) (by omega) (by omega), e63 5 (by omega) (by omega) (by omega), e63 12 (by omega) (by omega) (by omega), e63 15 (by omega) (by omega) (by omega), e63 3 (by omega) (by omega) (by omega)]
    exact h2
  · unfold InvW at h3 ⊢
    rw [b5, b6, b7, b8, b9, b10, b11, b12, b43, eb 66 (by omega), eb 67 (by omega), eb 68 (by omega), eb 69 (by omega), eb 70 (by omega), eb 71 (by omega), eb 72 (by omega), eb 73 (by omega)]
    exact h3
  · obtain ⟨h1, o0, n, ho, hn, q2, q3, q4, h5⟩ := h4
    refine ⟨h1.congr (fun k s hk _ => by show mm' (23 + k) s = mm (23 + k) s; rw [eb (23 + k) (by omega)]) (fun k s _ _ => by simp only [mS, b64]) (fun k _ => by rw [b8]) (fun k _ => by rw [b7]) (fun b _ => by rw [b6]), o0, n, ho, hn, by rw [b48]; exact q2, by rw [b48]; exact q3, by rw [e63 2 (by omega) (by omega) (by omega)]; exact q4, fun j hj => ?_⟩
    obtain ⟨⟨b, hb2, hb3⟩, h6⟩ := h5 j hj
    refine ⟨⟨b, hb2, by rw [b49]; exact hb3⟩, h6.congr (fun k s hk _ => unC_congr b49 (fun i hi => eb _ (by omega)) (fun k s hk => by rw [eb (23 + k) (by omega)]) _ k s (by omega)) (fun k s _ _ => by rw [b65]) (fun k _ => by rw [b8]) (fun k _ => by rw [b7]) (fun b _ => by rw [b6])⟩
section OpsX
variable {G : Gx} {x1 x2 x3 x4 x5 : Int32}
theorem op_errorPosition : OpD G Inv M_X9_errorPosition M_X10_errorPosition := by
  intro mm lm hI
  obtain ⟨tl, h1, h2, h3, h4, h5⟩ := hI.1
  refine ⟨mm 1 3, mm, _, CJ (bX9_errorPosition_0 ⟨rfl, rfl⟩), CJ (bX10_errorPosition_0 ⟨?_, rfl⟩), (inv_bas mm hI).2.2.2 0⟩
  rw [mset_ne2 (fun z => absurd z.2 (by decide)), h4]
theorem op_truncate : OpW G Inv M_L_truncate M_X10_truncate [.int x1] cmpI := by
  intro mm lm hI
  obtain ⟨b1, b2, b3, b4⟩ := inv_bas mm hI
  obtain ⟨tl, h1, h2, h3, h4, h5⟩ := hI.1
  have e18 : mm 63 18 = mm 1 2 := h3.trans h2.symm
  by_cases hg : inR 0 (mm 1 2) x1
  · have hg' : inR 0 (mm 63 18) x1 := by rw [e18]; exact hg
    have ct : Ct G M_X9_truncate [.ref 0, .int x1] (SH, mm, lm) false (.inl (some (.int x1))) (SH, mset mm 1 2 x1, lm) false 1 6 := CJ (bX9_truncate_0 (Or.inl ⟨c_rr hg, rfl, rfl⟩))
    obtain ⟨n, -, hn, rfl⟩ := inR_nat (l := 0) (g := tl) (by rw [← h2]; exact hg) (by omega) (by omega)
    have e18' : mset mm 1 2 (nI n) 63 18 = mm 63 18 := by rw [mset_ne (by decide)]
    refine ⟨0, _, _, nI n, mset (mset (mset mm 1 2 (nI n)) 63 4 0) 63 18 (nI n), w_truncate ct, CJ (bX10_truncate_0 ⟨_, cm_in (x := nI n) (l := 0) (g := mm 63 18) rfl (by rw [e18']), fun z => absurd hg' (bI_0.mp z), fun _ => ⟨fun _ => ⟨by rw [mset_eq], rfl⟩, fun z => absurd (by rw [mset_eq]; exact Int32.le_refl _) z⟩⟩), by rw [mset_ne2 (fun z => absurd z.2 (by decide)), mset_eq], fun _ => rfl, ?_⟩
    refine hI.text ⟨n, by omega, ?_, mset_eq, ?_, fun i hi => ?_⟩ ?_ (fun c hc => by rw [mset_ne (by omega), mset_ne (by omega), mset_ne (by omega)]) (fun j j1 j2 j3 => by rw [mset_ne2 (fun z => j2 z.2), mset_ne2 (fun z => j1 z.2), mset_ne (by decide)])
    · rw [mset_ne (by decide), mset_ne (by decide), mset_eq]
    · rw [mset_ne (by decide), mset_ne (by decide), mset_ne2 (fun z => absurd z.2 (by decide)), mset_ne2 (fun z => absurd z.2 (by decide)), mset_ne2 (fun z => absurd z.2 (by decide)), mset_ne (by decide)]; exact h4
    · rw [mset_ne (by decide), mset_ne (by decide), mset_ne (by decide), mset_ne (by decide), mset_ne (by decide), mset_ne (by decide)]; exact h5 i (by omega)
    · rw [mset_ne (by decide), mset_ne (by decide), mset_ne (by decide)]
  · have hg' : ¬ inR 0 (mm 63 18) x1 := by rw [e18]; exact hg
    exact ⟨1, mm, lm, 0, _, w2_truncate (CJ (bX9_truncate_0 (Or.inr ⟨_, c_rrx hg, rfl, rfl, Nat.le_refl _, Nat.le_refl _⟩))), CJ (bX10_truncate_0 ⟨_, cm_in (x := x1) (l := 0) (g := mm 63 18) rfl rfl, fun _ => ⟨fun z => absurd z (by rw [mset_eq]; decide), fun _ => ⟨rfl, rfl⟩⟩, fun z => absurd (bI_1.mp z) hg'⟩), mset_eq, fun z => absurd z (by decide), b4 1⟩
theorem op_append : OpW G Inv M_L_append M_X10_append [.int x1, .int x2, .int x3, .int x4, .int x5] cmpI := by
  intro mm lm hI
  obtain ⟨b1, b2, b3, b4⟩ := inv_bas mm hI
  obtain ⟨tl, h1, h2, h3, h4, h5⟩ := hI.1
  have lim : (mm 1 2 ≤ 380) ↔ tl ≤ 380 := by rw [h2, show (380 : Int32) = nI 380 from rfl]; exact nI_leI (by omega) (by omega)
  have lim2 : (mm 63 18 + 20 ≤ 400) ↔ tl ≤ 380 := by
    rw [h3, show (20 : Int32) = nI 20 from rfl, nI_add, show (400 : Int32) = nI 400 from rfl, nI_leI (by omega) (by omega)]; omega
  by_cases hl : tl ≤ 380
  · obtain ⟨a1, c11, c12, c13, c14, c15, ct1⟩ := c_addWord (G := G) (lm := lm) h2 (by omega) x1
    obtain ⟨a2, c21, c22, c23, c24, c25, ct2⟩ := c_addWord (G := G) (lm := lm) c13 (by omega) x2
    obtain ⟨a3, c31, c32, c33, c34, c35, ct3⟩ := c_addWord (G := G) (lm := lm) c23 (by omega) x3
    obtain ⟨a4, c41, c42, c43, c44, c45, ct4⟩ := c_addWord (G := G) (lm := lm) c33 (by omega) x4
    obtain ⟨a5, c51, c52, c53, c54, c55, ct5⟩ := c_addWord (G := G) (lm := lm) c43 (by omega) x5
    have cts : Ct G M_X9_append [.ref 0, .int x1, .int x2, .int x3, .int x4, .int x5] (SH, mm, lm) false (.inl (some (.int (nI (tl + 20))))) (SH, a5, lm) false 1 6 := CJ (bX9_append_0 ⟨fun _ => ⟨a1, ct1, a2, ct2, a3, ct3, a4, ct4, a5, ct5, by rw [c53], rfl⟩, fun z => absurd (lim.mpr hl) z⟩)
    have fr : ∀ c, c ≠ 1 → c ≠ 2 → a5 c = mm c := fun c g1 g2 => by rw [c51 c g1 g2, c41 c g1 g2, c31 c g1 g2, c21 c g1 g2, c11 c g1 g2]
    have fr1 : ∀ j, j ≠ 2 → a5 1 j = mm 1 j := fun j hj => by rw [c52 j hj, c42 j hj, c32 j hj, c22 j hj, c12 j hj]
    obtain ⟨cA, cB⟩ := five (f := mm) (P := fun _ _ => True) (W := wbC) c14 c15 c24 c25 c34 c35 c44 c45 c54 c55
    obtain ⟨l1, hl1⟩ : ∃ l1, l1 = vp_updL lm 0 (nI (tl + 20)).toInt64 := ⟨_, rfl⟩
    have z18 : mset a5 63 4 0 63 18 = nI tl := by rw [mset_ne2 (fun z => absurd z.2 (by decide)), fr 63 (by decide) (by decide)]; exact h3
    obtain ⟨d1, m11, m12, m13, m14, m15, mt1⟩ := cm_put (G := G) (lm := l1) z18 (by omega) x1
    obtain ⟨d2, m21, m22, m23, m24, m25, mt2⟩ := cm_put (G := G) (lm := l1) m13 (by omega) x2
    obtain ⟨d3, m31, m32, m33, m34, m35, mt3⟩ := cm_put (G := G) (lm := l1) m23 (by omega) x3
    obtain ⟨d4, m41, m42, m43, m44, m45, mt4⟩ := cm_put (G := G) (lm := l1) m33 (by omega) x4
    obtain ⟨d5, m51, m52, m53, m54, m55, mt5⟩ := cm_put (G := G) (lm := l1) m43 (by omega) x5
    have gr : ∀ c, c ≠ 63 → c ≠ 74 → d5 c = a5 c := fun c g1 g2 => by rw [m51 c g1 g2, m41 c g1 g2, m31 c g1 g2, m21 c g1 g2, m11 c g1 g2, mset_ne g1]
    have gr1 : ∀ j, j ≠ 18 → d5 63 j = mset a5 63 4 0 63 j := fun j hj => by rw [m52 j hj, m42 j hj, m32 j hj, m22 j hj, m12 j hj]
    obtain ⟨mA, mB⟩ := five (f := mm) (P := fun _ _ => True) (W := wbM) m14 m15 m24 m25 m34 m35 m44 m45 m54 m55
    have h20 : mset a5 63 4 0 63 18 + 20 ≤ 400 := by
      rw [z18, show (20 : Int32) = nI 20 from rfl, nI_add, show (400 : Int32) = nI 400 from rfl, nI_leI (by omega) (by omega)]; omega
    have h18 : a5 63 18 + 20 ≤ 400 := by rw [mset_ne2 (fun z => absurd z.2 (by decide))] at h20; exact h20
    refine ⟨0, a5, l1, nI (tl + 20), d5, by rw [hl1]; exact w_append cts, CJ (bX10_append_0 ⟨fun _ => ⟨fun _ => ⟨d1, mt1, d2, mt2, d3, mt3, d4, mt4, d5, mt5, by rw [m53], rfl⟩, fun z => absurd (by rw [mset_eq]; exact Int32.le_refl _) z⟩, fun z => absurd h18 z⟩), by rw [gr1 4 (by decide), mset_eq], fun _ => by rw [hl1]; rfl, ?_⟩
    refine hI.text ⟨tl + 20, by omega, by rw [gr 1 (by decide) (by decide)]; exact c53, m53, ?_, fun i hi => ?_⟩ (by rw [gr 0 (by decide) (by decide), fr 0 (by decide) (by decide)]) (fun c hc => by rw [gr c (by omega) (by omega), fr c (by omega) (by omega)]) (fun j j1 j2 j3 => by rw [gr1 j j2, mset_ne2 (fun z => j1 z.2), fr 63 (by decide) (by decide)])
    · rw [gr 1 (by decide) (by decide), fr1 3 (by decide), gr1 25 (by decide), mset_ne2 (fun z => absurd z.2 (by decide)), fr 63 (by decide) (by decide)]; exact h4
    · rw [gr 2 (by decide) (by decide)]
      by_cases hit : i < tl
      · rw [cA i hit, mA i hit, mset_ne (by decide), fr 74 (by decide) (by decide)]; exact h5 i hit
      · have q1 := cB (i - tl) (by omega)
        have q2 := mB (i - tl) (by omega)
        rw [show tl + (i - tl) = i by omega] at q1 q2
        rw [q1, q2]
        exact wb_both _ _
  · exact ⟨1, mm, lm, 0, _, w1_append (CJ (bX9_append_0 ⟨fun z => absurd (lim.mp z) hl, fun _ => ⟨rfl, rfl, Nat.le_refl _, Nat.le_refl _⟩⟩)), CJ (bX10_append_0 ⟨fun z => absurd (lim2.mp z) hl, fun _ => ⟨fun z => absurd z (by rw [mset_eq]; decide), fun _ => ⟨rfl, rfl⟩⟩⟩), mset_eq, fun z => absurd z (by decide), b4 1⟩
end OpsX
