/-! ===== the actions that change a bell ===== -/
theorem inR_nat {l g : Nat} {x : Int32} (h : inR (nI l) (nI g) x) (hg : g < 2 ^ 31) (hl : l < 2 ^ 31) : ∃ n, l ≤ n ∧ n ≤ g ∧ x = nI n := by
  obtain ⟨h1, h2⟩ := h
  rw [fa_lt, nI_toInt hl] at h1
  rw [fa_le, nI_toInt hg] at h2
  obtain ⟨n, hn, rfl⟩ := nI_of (x := x) (by rw [fa_lt, show (0 : Int32).toInt = 0 from rfl]; omega)
  rw [nI_toInt hn] at h1 h2
  exact ⟨n, by omega, by omega, rfl⟩
section Mut2
variable {G : Gx} {mm : Nat → Nat → Int32} {lm : Nat → Int64} {nb nm nq np j : Nat} {x1 x2 x3 : Int32}
theorem SR.move {c m c' m' : Nat → Nat → Int32} {rad w lim : Nat → Int32} (h : SR nb nm rad w lim c m) (hj : j < nb) (hk : ∀ k, k < nb → k ≠ j → c' k 0 = c k 0 ∧ c' k 1 = c k 1) (hr : ∀ k, k < nb → RB nm (c' k) (m' k)) (hc : ∀ k, k < nb → k ≠ j → c k 0 = c' j 0 → ¬ c' j 0 = -1 → ¬ absI (c' j 1 - c k 1) < rad j + rad k)
    (hb : ∀ b, b < nm → (c' j 0 = nI b ∨ c j 0 = nI b) → ¬ lim b < absI (mo nb (fun k => c k 0) (fun k => c k 1) w (nI b) (fun k => decide (k = j)) + (if c' j 0 = nI b then w j * c' j 1 else 0))) : SR nb nm rad w lim c' m' := by
  refine ⟨hr, fun k o hk2 ho h1 h2 => ?_, fun b hb2 => ?_⟩
  · by_cases hkj : k = j
    · subst hkj
      obtain ⟨e0, e1⟩ := hk o (by omega) (by omega)
      rw [e1]; rw [e0] at h2
      exact hc o (by omega) (by omega) h2.symm h1
    · obtain ⟨e0, e1⟩ := hk k hk2 hkj
      by_cases hoj : o = j
      · subst hoj
        rw [e1, absI_sub, Int32.add_comm]
        rw [e0] at h1 h2
        exact hc k hk2 hkj h2 (by rw [← h2]; exact h1)
      · obtain ⟨g0, g1⟩ := hk o (by omega) hoj
        rw [e1, g1]
        rw [e0] at h1 h2
        rw [g0] at h2
        exact h.2.1 k o hk2 ho h1 h2
  · by_cases hn : c' j 0 = nI b ∨ c j 0 = nI b
    · have q := hb b hb2 hn
      rw [mo_out hj, mo_ex (be := fun k => c k 0) (po := fun k => c k 1) (fun k hk2 hkj => ⟨(hk k hk2 hkj).1, (hk k hk2 hkj).2⟩)]
      exact q
    · have q := h.2.2 b hb2
      rw [mo_out hj] at q
      rw [mo_out hj, mo_ex (be := fun k => c k 0) (po := fun k => c k 1) (fun k hk2 hkj => ⟨(hk k hk2 hkj).1, (hk k hk2 hkj).2⟩)]
      rw [if_neg (fun z => hn (Or.inr z))] at q
      rw [if_neg (fun z => hn (Or.inl z))]
      exact q
/-- both sides remember, then change the bell j -/
theorem mut_all (hI : Inv mm) (f : Fx mm mm nb nm nq np) (hj : j < nb) : ∃ mc, Ct G M_X9_rememberBell [.ref 0, .int (nI j)] (SH, mm, lm) false (.inl none) (SH, mc, lm) false 0 0 ∧ (∀ c, c < 48 ∨ 63 ≤ c → mc c = mm c) ∧
    ∀ (mm1 : Nat → Nat → Int32), (∀ c, c ≠ 23 + j → mm1 c = mc c) → ∀ l : Nat → Int64, ∃ m', Ct G M_X10_remember [.ref 63] (SH, mset mm1 63 4 0, l) false (.inl none) (SH, m', l) false 0 0 ∧ m' 64 = mm 64 ∧ m' 63 8 = nI nb ∧
      ∀ mm2, (∀ c, c ≠ 64 → mm2 c = m' c) → SR nb nm (mm 8) (mm 7) (mm 6) (cS mm1) (mS mm2) → mm2 63 4 = 0 ∧ Inv mm2 := by
  obtain ⟨mc, ct, e1, act⟩ := act_ok (G := G) (lm := lm) hI f.1 f.2.1 f.2.2.1 hj
  have h8 := f.n8
  refine ⟨mc, ct, e1, fun mm1 h1 l => ?_⟩
  obtain ⟨m', ct2, a1, a2, a3, a4, a5⟩ := act mm1 h1 l
  refine ⟨m', ct2, a1, (a3 63 8 rfl).trans f.1.1.2.1, fun mm2 h2 hS => ⟨by rw [h2 63 (by decide)]; exact a2, a5 mm2 h2 (hS.congr (fun k s hk _ => ?_) (fun _ _ _ _ => rfl) (fun _ _ => rfl) (fun _ _ => rfl) (fun _ _ => rfl))⟩⟩
  show mm2 (23 + k) s = mm1 (23 + k) s
  rw [h2 (23 + k) (by omega), a4 (23 + k) (by omega)]
theorem rb_all (f : Fx mm mm nb nm nq np) {mm1 mm2 : Nat → Nat → Int32} (h1 : ∀ k, k < nb → k ≠ j → mm1 (23 + k) = mm (23 + k)) (h2 : ∀ i, i < 10 * j ∨ 10 * j + 10 ≤ i → mm2 64 i = mm 64 i) (h3 : RB nm (cS mm1 j) (mS mm2 j)) : ∀ k, k < nb → RB nm (cS mm1 k) (mS mm2 k) := fun k hk => by
  by_cases hkj : k = j
  · subst hkj; exact h3
  · refine (f.r hk).congr (fun s _ => by show mm1 (23 + k) s = mm (23 + k) s; rw [h1 k hk hkj]) (fun s hs => by show mm2 64 (10 * k + s) = mm 64 (10 * k + s); exact h2 _ (by omega))
theorem RB.hang {c m c' m' : Nat → Int32} {i : Nat} {x : Int32} (r : RB nm c m) (e0 : c' 0 = nI i) (g0 : m' 0 = nI i) (hi : i < nm) (e1 : c' 1 = x) (g1 : m' 1 = x) (hx : inR (-15) 15 x) (hc : ∀ s, 2 ≤ s → s < 8 → c' s = c s) (hm : ∀ s, 2 ≤ s → s < 8 → m' s = m s) : RB nm c' m' := by
  unfold RB at r ⊢
  rw [hc 2 (by decide) (by decide), hc 3 (by decide) (by decide), hc 4 (by decide) (by decide), hc 5 (by decide) (by decide), hc 6 (by decide) (by decide), hc 7 (by decide) (by decide), hm 2 (by decide) (by decide), hm 3 (by decide) (by decide), hm 4 (by decide) (by decide), hm 5 (by decide) (by decide), hm 6 (by decide) (by decide), hm 7 (by decide) (by decide), e0, g0, e1, g1]
  exact ⟨⟨rfl, Or.inr ⟨i, hi, rfl⟩⟩, fun _ => ⟨rfl, hx⟩, r.2.2⟩
theorem RB.down {c m c' m' : Nat → Int32} (r : RB nm c m) (e0 : c' 0 = -1) (g0 : m' 0 = -1) (e5 : c' 5 = 0) (g5 : m' 5 = -1) (hc : ∀ s, s < 8 → s ≠ 0 → s ≠ 5 → c' s = c s) (hm : ∀ s, s < 8 → s ≠ 0 → s ≠ 5 → m' s = m s) : RB nm c' m' := by
  unfold RB at r ⊢
  rw [hc 1 (by decide) (by decide) (by decide), hc 2 (by decide) (by decide) (by decide), hc 3 (by decide) (by decide) (by decide), hc 4 (by decide) (by decide) (by decide), hc 6 (by decide) (by decide) (by decide), hc 7 (by decide) (by decide) (by decide), hm 1 (by decide) (by decide) (by decide), hm 2 (by decide) (by decide) (by decide), hm 3 (by decide) (by decide) (by decide), hm 4 (by decide) (by decide) (by decide), hm 6 (by decide) (by decide) (by decide), hm 7 (by decide) (by decide) (by decide), e0, g0, e5, g5]
  exact ⟨⟨rfl, Or.inl rfl⟩, fun z => absurd rfl z, r.2.2.1, r.2.2.2.1, r.2.2.2.2.1, Or.inl ⟨rfl, rfl⟩, r.2.2.2.2.2.2⟩
theorem RB.shift {c m c' m' : Nat → Int32} {x : Int32} (r : RB nm c m) (e1 : c' 1 = x) (g1 : m' 1 = x) (hx : inR (-15) 15 x) (hc : ∀ s, s < 8 → s ≠ 1 → c' s = c s) (hm : ∀ s, s < 8 → s ≠ 1 → m' s = m s) : RB nm c' m' := by
  unfold RB at r ⊢
  rw [hc 0 (by decide) (by decide), hc 2 (by decide) (by decide), hc 3 (by decide) (by decide), hc 4 (by decide) (by decide), hc 5 (by decide) (by decide), hc 6 (by decide) (by decide), hc 7 (by decide) (by decide), hm 0 (by decide) (by decide), hm 2 (by decide) (by decide), hm 3 (by decide) (by decide), hm 4 (by decide) (by decide), hm 5 (by decide) (by decide), hm 6 (by decide) (by decide), hm 7 (by decide) (by decide), e1, g1]
  exact ⟨r.1, fun _ => ⟨rfl, hx⟩, r.2.2⟩
theorem RB.plan {c m c' m' : Nat → Int32} {i : Nat} {x : Int32} (r : RB nm c m) (e2 : c' 2 = nI i) (g2 : m' 2 = nI i) (hi : i < nm) (e3 : c' 3 = x) (g3 : m' 3 = x) (hx : inR (-15) 15 x) (hc : ∀ s, s < 8 → s ≠ 2 → s ≠ 3 → c' s = c s) (hm : ∀ s, s < 8 → s ≠ 2 → s ≠ 3 → m' s = m s) : RB nm c' m' := by
  unfold RB at r ⊢
  rw [hc 0 (by decide) (by decide) (by decide), hc 1 (by decide) (by decide) (by decide), hc 4 (by decide) (by decide) (by decide), hc 5 (by decide) (by decide) (by decide), hc 6 (by decide) (by decide) (by decide), hc 7 (by decide) (by decide) (by decide), hm 0 (by decide) (by decide) (by decide), hm 1 (by decide) (by decide) (by decide), hm 4 (by decide) (by decide) (by decide), hm 5 (by decide) (by decide) (by decide), hm 6 (by decide) (by decide) (by decide), hm 7 (by decide) (by decide) (by decide), e2, g2, e3, g3]
  exact ⟨r.1, r.2.1, ⟨rfl, Or.inr ⟨i, hi, rfl⟩⟩, fun _ => ⟨rfl, hx⟩, r.2.2.2.2⟩
theorem RB.unplan {c m c' m' : Nat → Int32} (r : RB nm c m) (e2 : c' 2 = -1) (g2 : m' 2 = -1) (hc : ∀ s, s < 8 → s ≠ 2 → c' s = c s) (hm : ∀ s, s < 8 → s ≠ 2 → m' s = m s) : RB nm c' m' := by
  unfold RB at r ⊢
  rw [hc 0 (by decide) (by decide), hc 1 (by decide) (by decide), hc 3 (by decide) (by decide), hc 4 (by decide) (by decide), hc 5 (by decide) (by decide), hc 6 (by decide) (by decide), hc 7 (by decide) (by decide), hm 0 (by decide) (by decide), hm 1 (by decide) (by decide), hm 3 (by decide) (by decide), hm 4 (by decide) (by decide), hm 5 (by decide) (by decide), hm 6 (by decide) (by decide), hm 7 (by decide) (by decide), e2, g2]
  exact ⟨r.1, r.2.1, ⟨rfl, Or.inl rfl⟩, fun z => absurd rfl z, r.2.2.2.2⟩
theorem RB.swing {c m c' m' : Nat → Int32} {s a : Nat} (r : RB nm c m) (e4 : c' 4 = nI s) (g4 : m' 4 = nI s) (hs : s < 1000) (e5 : c' 5 = nI a) (g5 : m' 5 = nI a) (ha : 1 ≤ a) (ha2 : a ≤ 15) (hc : ∀ s, s < 8 → s ≠ 4 → s ≠ 5 → c' s = c s) (hm : ∀ s, s < 8 → s ≠ 4 → s ≠ 5 → m' s = m s) : RB nm c' m' := by
  unfold RB at r ⊢
  rw [hc 0 (by decide) (by decide) (by decide), hc 1 (by decide) (by decide) (by decide), hc 2 (by decide) (by decide) (by decide), hc 3 (by decide) (by decide) (by decide), hc 6 (by decide) (by decide) (by decide), hc 7 (by decide) (by decide) (by decide), hm 0 (by decide) (by decide) (by decide), hm 1 (by decide) (by decide) (by decide), hm 2 (by decide) (by decide) (by decide), hm 3 (by decide) (by decide) (by decide), hm 6 (by decide) (by decide) (by decide), hm 7 (by decide) (by decide) (by decide), e4, g4, e5, g5]
  exact ⟨r.1, r.2.1, r.2.2.1, r.2.2.2.1, ⟨s, hs, rfl⟩, Or.inr ⟨a, ha, ha2, rfl, rfl, rfl⟩, r.2.2.2.2.2.2⟩
theorem RB.stop {c m c' m' : Nat → Int32} (r : RB nm c m) (e5 : c' 5 = 0) (g5 : m' 5 = -1) (hc : ∀ s, s < 8 → s ≠ 5 → c' s = c s) (hm : ∀ s, s < 8 → s ≠ 5 → m' s = m s) : RB nm c' m' := by
  unfold RB at r ⊢
  rw [hc 0 (by decide) (by decide), hc 1 (by decide) (by decide), hc 2 (by decide) (by decide), hc 3 (by decide) (by decide), hc 4 (by decide) (by decide), hc 6 (by decide) (by decide), hc 7 (by decide) (by decide), hm 0 (by decide) (by decide), hm 1 (by decide) (by decide), hm 2 (by decide) (by decide), hm 3 (by decide) (by decide), hm 4 (by decide) (by decide), hm 6 (by decide) (by decide), hm 7 (by decide) (by decide), e5, g5]
  exact ⟨r.1, r.2.1, r.2.2.1, r.2.2.2.1, r.2.2.2.2.1, Or.inl ⟨rfl, rfl⟩, r.2.2.2.2.2.2⟩
theorem RB.chime {c m c' m' : Nat → Int32} {f i : Nat} (r : RB nm c m) (e6 : c' 6 = nI f) (g6 : m' 6 = nI f) (hf : f < 1440) (e7 : c' 7 = nI i) (g7 : m' 7 = nI i) (hi : 1 ≤ i) (hi2 : i ≤ 1440) (hc : ∀ s, s < 6 → c' s = c s) (hm : ∀ s, s < 6 → m' s = m s) : RB nm c' m' := by
  unfold RB at r ⊢
  rw [hc 0 (by decide), hc 1 (by decide), hc 2 (by decide), hc 3 (by decide), hc 4 (by decide), hc 5 (by decide), hm 0 (by decide), hm 1 (by decide), hm 2 (by decide), hm 3 (by decide), hm 4 (by decide), hm 5 (by decide), e6, g6, e7, g7]
  exact ⟨r.1, r.2.1, r.2.2.1, r.2.2.2.1, r.2.2.2.2.1, r.2.2.2.2.2.1, Or.inr ⟨f, i, hf, hi, hi2, rfl, rfl, rfl, rfl⟩⟩
theorem RB.unchime {c m c' m' : Nat → Int32} (r : RB nm c m) (e7 : c' 7 = 0) (g7 : m' 7 = -1) (hc : ∀ s, s < 7 → c' s = c s) (hm : ∀ s, s < 7 → m' s = m s) : RB nm c' m' := by
  unfold RB at r ⊢
  rw [hc 0 (by decide), hc 1 (by decide), hc 2 (by decide), hc 3 (by decide), hc 4 (by decide), hc 5 (by decide), hc 6 (by decide), hm 0 (by decide), hm 1 (by decide), hm 2 (by decide), hm 3 (by decide), hm 4 (by decide), hm 5 (by decide), hm 6 (by decide), e7, g7]
  exact ⟨r.1, r.2.1, r.2.2.1, r.2.2.2.1, r.2.2.2.2.1, r.2.2.2.2.2.1, Or.inl ⟨rfl, rfl⟩⟩
/-- what either side counts is the same -/
theorem rb_plan {c m : Nat → Int32} (h4 : nm ≤ 4) (r : RB nm c m) : (¬ m 2 < 0) ↔ ¬ c 2 = -1 := by
  rcases r.2.2.1.2 with h | ⟨i, hi, h⟩
  · rw [← r.2.2.1.1, h]; exact ⟨fun z => absurd (by decide) z, fun z => absurd rfl z⟩
  · rw [← r.2.2.1.1, h]; exact ⟨fun _ => nI_ne_neg (by omega), fun _ => nI_pos (by omega)⟩
theorem rb_swing {c m : Nat → Int32} (r : RB nm c m) : (¬ m 5 < 0) ↔ ¬ c 5 ≤ 0 := by
  rcases r.2.2.2.2.2.1 with ⟨h, h2⟩ | ⟨a, h1, h2, h3, h5, -⟩
  · rw [h, h2]; exact ⟨fun z => absurd (by decide) z, fun z => absurd (by decide) z⟩
  · rw [h3, h5]; exact ⟨fun _ => nI_nle h1 (by omega), fun _ => nI_pos (by omega)⟩
theorem rb_chime {c m : Nat → Int32} (r : RB nm c m) : (¬ m 7 < 0) ↔ ¬ c 7 ≤ 0 := by
  rcases r.2.2.2.2.2.2 with ⟨h, h2⟩ | ⟨f, i, h0, h1, h2, -, -, h3, h5⟩
  · rw [h, h2]; exact ⟨fun z => absurd (by decide) z, fun z => absurd (by decide) z⟩
  · rw [h3, h5]; exact ⟨fun _ => nI_nle h1 (by omega), fun _ => nI_pos (by omega)⟩
theorem cnt_on {c m : Nat → Nat → Int32} (r : ∀ k, k < nb → RB nm (c k) (m k)) (b : Int32) : cntN (fun k => decide (m k 0 = b)) nb = cntN (fun k => decide (c k 0 = b)) nb := cntN_congr fun k hk => by rw [(r k hk).1.1]
theorem cnt_plan {c m : Nat → Nat → Int32} (h4 : nm ≤ 4) (r : ∀ k, k < nb → RB nm (c k) (m k)) : cntN (fun k => decide (¬ m k 2 < 0)) nb = cntN (fun k => decide (¬ c k 2 = -1)) nb := cntN_congr fun k hk => by rw [decide_eq_decide]; exact rb_plan h4 (r k hk)
theorem cnt_swing {c m : Nat → Nat → Int32} (r : ∀ k, k < nb → RB nm (c k) (m k)) : cntN (fun k => decide (¬ m k 5 < 0)) nb = cntN (fun k => decide (¬ c k 5 ≤ 0)) nb := cntN_congr fun k hk => by rw [decide_eq_decide]; exact rb_swing (r k hk)
theorem cnt_chime {c m : Nat → Nat → Int32} (r : ∀ k, k < nb → RB nm (c k) (m k)) : cntN (fun k => decide (¬ m k 7 < 0)) nb = cntN (fun k => decide (¬ c k 7 ≤ 0)) nb := cntN_congr fun k hk => by rw [decide_eq_decide]; exact rb_chime (r k hk)
theorem mset_in {m : Nat → Nat → Int32} {k a b : Nat} {v : Int32} (h : b ≠ a) : mset m k a v k b = m k b := mset_ne2 fun z => h z.2
theorem cm_chm {mm : Nat → Nat → Int32} {lm : Nat → Int64} {nb : Nat} (hnb : mm 63 8 = nI nb) (h8 : nb ≤ 8) : J G M_X10_clearChime 41 [(0, .ref 63), (2, .int 0), (3, .int 0)] [] (SH, mm, lm) false (.inl (some (.int (nI (cntN (fun k => decide (¬ mm 64 (10 * k + 7) < 0)) nb))))) (SH, mm, lm) false 0 0 := by
  refine loop_up (n := nb) (P := fun k => J G M_X10_clearChime 41 [(0, .ref 63), (2, .int (nI (cntN (fun k => decide (¬ mm 64 (10 * k + 7) < 0)) k))), (3, .int (nI k))] [] (SH, mm, lm) false _ _ false 0 0) ?_ ?_ 0 (Nat.zero_le _)
  · exact bX10_clearChime_41 ⟨fun _ => ⟨rfl, rfl⟩, fun h => absurd (le_nI' hnb) h⟩
  · intro k hk ih
    refine bX10_clearChime_41 ⟨fun h => absurd h (le_nI hnb hk (by omega)), fun _ => ⟨_, cm_chimes (by omega), fun h => ?_, fun h => ?_⟩⟩
    · have e : decide (¬ mm 64 (10 * k + 7) < 0) = false := decide_eq_false (bI_0.mp h)
      rw [cntN_f (p := fun k => decide (¬ mm 64 (10 * k + 7) < 0)) e] at ih
      rw [nI_1, Int32.add_zero]; exact ih
    · have e : decide (¬ mm 64 (10 * k + 7) < 0) = true := decide_eq_true (bI_1.mp h)
      rw [cntN_t (p := fun k => decide (¬ mm 64 (10 * k + 7) < 0)) e] at ih
      rw [nI_1, nI_1]; exact ih
theorem eop3 {n : Nat} {be po rad w lim : Nat → Int32} {j i : Nat} {x : Int32} (h : ¬ allN (fitB be po rad j (nI i) x) n = true) : eopF n be po rad w lim j i x = -3 := by rw [eopF, if_neg h]
theorem eop4 {n : Nat} {be po rad w lim : Nat → Int32} {j i : Nat} {x : Int32} (h : allN (fitB be po rad j (nI i) x) n = true) (h2 : lim i < absI (mWi n be po w j (nI i) x)) : eopF n be po rad w lim j i x = -4 := by rw [eopF, if_pos h, if_pos h2]
theorem eop0 {n : Nat} {be po rad w lim : Nat → Int32} {j i : Nat} {x : Int32} (h : allN (fitB be po rad j (nI i) x) n = true) (h2 : ¬ lim i < absI (mWi n be po w j (nI i) x)) : eopF n be po rad w lim j i x = 0 := by rw [eopF, if_pos h, if_neg h2]
theorem eop_0 {n : Nat} {be po rad w lim : Nat → Int32} {j i : Nat} {x : Int32} (h : eopF n be po rad w lim j i x = 0) : allN (fitB be po rad j (nI i) x) n = true ∧ ¬ lim i < absI (mWi n be po w j (nI i) x) := by
  by_cases h1 : allN (fitB be po rad j (nI i) x) n = true
  · by_cases h2 : lim i < absI (mWi n be po w j (nI i) x)
    · rw [eop4 h1 h2] at h; exact absurd h (by decide)
    · exact ⟨h1, h2⟩
  · rw [eop3 h1] at h; exact absurd h (by decide)
/-- the reference's isBalanced says what the class's limits say -/
theorem cm_bal {mm M : Nat → Nat → Int32} {lm : Nat → Int64} {nb nm nq np i : Nat} (f : Fx mm M nb nm nq np) (hi : i < nm) {x y : Int32} (h : x = y) : Ct G M_X10_isBalanced [.ref 63, .int (nI i), .int x] (SH, M, lm) false (.inl (some (.int (bI (¬ mm 6 i < absI y))))) (SH, M, lm) false 0 0 := by
  have h4 := f.m4
  have q := cm_isBalanced (G := G) (mm := M) (lm := lm) (i := i) (by omega) x
  rwa [bI_congr (q := ¬ mm 6 i < absI y) (by rw [f.li hi, h])] at q
theorem cm_clr {mm M : Nat → Nat → Int32} {lm : Nat → Int64} {nb nm nq np i j : Nat} (f : Fx mm M nb nm nq np) (hj : j < nb) (hi : i < nm) (x : Int32) : Ct G M_X10_isClear [.ref 63, .int (nI j), .int (nI i), .int x] (SH, M, lm) false (.inl (some (.int (bI (allN (fitB (cBe mm) (cPo mm) (mm 8) j (nI i) x) nb = true))))) (SH, M, lm) false 0 0 := by
  have h4 := f.m4
  have h8 := f.n8
  have q := cm_isClear (G := G) (mm := M) (lm := lm) f.N h8 (j := j) (by omega) (nI i) x
  rwa [f.fit hj i (by omega)] at q
theorem ofv {M : Nat → Nat → Int32} {lm : Nat → Int64} {k a : Nat} {y v : Int32} (hk : k < 8) (hy : y = nI a) (ha : a < 10) (hv : M 64 (10 * k + a) = v) : Ct G M_X10_of [.ref 63, .int (nI k), .int y] (SH, M, lm) false (.inl (some (.int v))) (SH, M, lm) false 0 0 := by
  subst hv; exact cm_of hk hy ha
theorem core_setPlan : ∀ mm lm, Inv mm → ¬ mm 0 10 = 0 → inR 0 (mm 4 9 - 1) x1 → inR 0 (mm 4 8 - 1) x2 → inR (-15) 15 x3 → CoreI G Inv M_X9_setPlan M_X10_setPlan 22 37 [(0, .ref 0), (1, .int x1), (2, .int x2), (3, .int x3)] [(0, .ref 63), (1, .int x1), (2, .int x2), (3, .int x3)] mm lm := by
  intro mm lm hI _ g1 g2 g3
  obtain ⟨nb, nm, nq, np, fx⟩ := fx_of hI
  have f := fx mm EqR.refl.m
  have f0 := fx _ (eqR_th (mm := mm) EqR.refl 0).m
  have h4 := f.m4
  have h8 := f.n8
  obtain ⟨j, hj, rfl⟩ := f.bell g1
  obtain ⟨i, hi, rfl⟩ := f.beam g2
  obtain ⟨mc, ct, e1, act⟩ := mut_all (G := G) (lm := lm) hI f hj
  obtain ⟨mm1, hmx⟩ : ∃ m, m = mset (mset mc (23 + j) 2 (nI i)) (23 + j) 3 x3 := ⟨_, rfl⟩
  have hA : ∀ c, c ≠ 23 + j → mm1 c = mc c := fun c hc => by rw [hmx, mset_ne hc, mset_ne hc]
  have hS2 : mm1 (23 + j) 2 = (nI i) := by rw [hmx, mset_in (by decide), mset_eq]
  have hS3 : mm1 (23 + j) 3 = x3 := by rw [hmx, mset_eq]
  have hD : ∀ s, s ≠ 2 → s ≠ 3 → mm1 (23 + j) s = mm (23 + j) s := fun s h2 h3 => by rw [hmx, mset_in h3, mset_in h2, e1 _ (by omega)]
  have hN : mm1 4 9 = nI nb := by rw [hA 4 (by omega), e1 4 (by omega)]; exact f.n
  refine ⟨nI (cntN (fun k => decide (¬ mm1 (23 + k) 2 = -1)) nb), mm1, bX9_setPlan_22 ⟨mc, ct, j, rfl, by omega, j, rfl, by omega, _, by rw [← hmx]; exact c_countPlanned hN h8, rfl, by rw [hmx]⟩, ?_, fun l => ?_⟩
  · rw [hA 63 (by omega), e1 63 (by omega)]; exact ⟨rfl, rfl, rfl⟩
  obtain ⟨m', ct2, a1, a2, a3⟩ := act mm1 hA l
  obtain ⟨mm2, hmy⟩ : ∃ m, m = mset (mset m' 64 (10 * j + 2) (nI i)) 64 (10 * j + 3) x3 := ⟨_, rfl⟩
  have gA : ∀ c, c ≠ 64 → mm2 c = m' c := fun c hc => by rw [hmy, mset_ne hc, mset_ne hc]
  have gS2 : mm2 64 (10 * j + 2) = (nI i) := by rw [hmy, mset_in (by omega), mset_eq]
  have gS3 : mm2 64 (10 * j + 3) = x3 := by rw [hmy, mset_eq]
  have gD : ∀ i, i ≠ 10 * j + 2 → i ≠ 10 * j + 3 → mm2 64 i = mm 64 i := fun i h2 h3 => by rw [hmy, mset_in h3, mset_in h2, a1]
  have gN : mm2 63 8 = nI nb := by rw [gA 63 (by decide)]; exact a2
  have hr : ∀ k, k < nb → RB nm (cS mm1 k) (mS mm2 k) := rb_all f (fun k hk hkj => by rw [hA _ (by omega), e1 _ (by omega)]) (fun i hi => gD i (by omega) (by omega)) ((f.r hj).plan hS2 gS2 hi hS3 gS3 g3 (fun s _ h2 h3 => hD s h2 h3) (fun s _ h2 h3 => gD _ (by omega) (by omega)))
  have hS := f.2.2.1.same (c' := cS mm1) (m' := mS mm2) (fun k hk => by
    by_cases hkj : k = j
    · subst hkj; exact ⟨hD 0 (by decide) (by decide), hD 1 (by decide) (by decide)⟩
    · show mm1 (23 + k) 0 = mm (23 + k) 0 ∧ mm1 (23 + k) 1 = mm (23 + k) 1
      rw [hA _ (by omega), e1 _ (by omega)]; exact ⟨rfl, rfl⟩) hr
  obtain ⟨b1, b2⟩ := a3 mm2 gA hS
  have eM : EqM mm (mset mm1 63 4 0) := fun c i hc hrl => by rw [mset_ne2 (fun z => by rw [z.1, z.2] at hrl; cases hrl), hA c (by omega), e1 c (Or.inr hc)]
  have fM := fx _ eM
  have cp := cm_plans (G := G) (lm := l) gN h8
  rw [cnt_plan h4 hr] at cp
  exact ⟨mm2, bX10_setPlan_37 ⟨m', ct2, _, cm_set (by omega) (a := 2) rfl (by decide), _, cm_set (by omega) (a := 3) rfl (by decide), _, by rw [← hmy]; exact cp, rfl, by rw [hmy]⟩, b1, b2⟩
theorem core_clearPlan : ∀ mm lm, Inv mm → ¬ mm 0 10 = 0 → inR 0 (mm 4 9 - 1) x1 → CoreI G Inv M_X9_clearPlan M_X10_clearPlan 9 14 [(0, .ref 0), (1, .int x1)] [(0, .ref 63), (1, .int x1)] mm lm := by
  intro mm lm hI _ g1
  obtain ⟨nb, nm, nq, np, fx⟩ := fx_of hI
  have f := fx mm EqR.refl.m
  have f0 := fx _ (eqR_th (mm := mm) EqR.refl 0).m
  have h4 := f.m4
  have h8 := f.n8
  obtain ⟨j, hj, rfl⟩ := f.bell g1
  have hq : (¬ mm 64 (10 * j + 2) < 0) ↔ ¬ mm (23 + j) 2 = -1 := rb_plan h4 (f.r hj)
  by_cases h : mm (23 + j) 2 = -1
  · exact ⟨-2, mm, bX9_clearPlan_9 ⟨j, rfl, by omega, _, c_hasPlan (sh_b23 (by omega)), fun z => absurd h (bI_1.mp z), fun _ => ⟨rfl, rfl⟩⟩, ⟨rfl, rfl, rfl⟩, fun l => ⟨_, bX10_clearPlan_14 ⟨_, ofv (by omega) (a := 2) rfl (by decide) (congrFun f0.r64 _), fun z => absurd h (hq.mp (Int32.not_lt.mpr z)), fun _ => ⟨rfl, rfl⟩⟩, mset_eq, hI.congr (eqR_th EqR.refl 0)⟩⟩

  obtain ⟨mc, ct, e1, act⟩ := mut_all (G := G) (lm := lm) hI f hj
  obtain ⟨mm1, hmx⟩ : ∃ m, m = mset mc (23 + j) 2 (-1) := ⟨_, rfl⟩
  have hA : ∀ c, c ≠ 23 + j → mm1 c = mc c := fun c hc => by rw [hmx, mset_ne hc]
  have hS2 : mm1 (23 + j) 2 = (-1) := by rw [hmx, mset_eq]
  have hD : ∀ s, s ≠ 2 → mm1 (23 + j) s = mm (23 + j) s := fun s h2 => by rw [hmx, mset_in h2, e1 _ (by omega)]
  have hN : mm1 4 9 = nI nb := by rw [hA 4 (by omega), e1 4 (by omega)]; exact f.n
  refine ⟨nI (cntN (fun k => decide (¬ mm1 (23 + k) 2 = -1)) nb), mm1, bX9_clearPlan_9 ⟨j, rfl, by omega, _, c_hasPlan (sh_b23 (by omega)), fun _ => ⟨mc, ct, j, rfl, by omega, _, by rw [← hmx]; exact c_countPlanned hN h8, rfl, by rw [hmx]⟩, fun z => absurd h (bI_0.mp z)⟩, ?_, fun l => ?_⟩
  · rw [hA 63 (by omega), e1 63 (by omega)]; exact ⟨rfl, rfl, rfl⟩
  obtain ⟨m', ct2, a1, a2, a3⟩ := act mm1 hA l
  obtain ⟨mm2, hmy⟩ : ∃ m, m = mset m' 64 (10 * j + 2) (-1) := ⟨_, rfl⟩
  have gA : ∀ c, c ≠ 64 → mm2 c = m' c := fun c hc => by rw [hmy, mset_ne hc]
  have gS2 : mm2 64 (10 * j + 2) = (-1) := by rw [hmy, mset_eq]
  have gD : ∀ i, i ≠ 10 * j + 2 → mm2 64 i = mm 64 i := fun i h2 => by rw [hmy, mset_in h2, a1]
  have gN : mm2 63 8 = nI nb := by rw [gA 63 (by decide)]; exact a2
  have hr : ∀ k, k < nb → RB nm (cS mm1 k) (mS mm2 k) := rb_all f (fun k hk hkj => by rw [hA _ (by omega), e1 _ (by omega)]) (fun i hi => gD i (by omega)) ((f.r hj).unplan hS2 gS2 (fun s _ h2 => hD s h2) (fun s _ h2 => gD _ (by omega)))
  have hS := f.2.2.1.same (c' := cS mm1) (m' := mS mm2) (fun k hk => by
    by_cases hkj : k = j
    · subst hkj; exact ⟨hD 0 (by decide), hD 1 (by decide)⟩
    · show mm1 (23 + k) 0 = mm (23 + k) 0 ∧ mm1 (23 + k) 1 = mm (23 + k) 1
      rw [hA _ (by omega), e1 _ (by omega)]; exact ⟨rfl, rfl⟩) hr
  obtain ⟨b1, b2⟩ := a3 mm2 gA hS
  have eM : EqM mm (mset mm1 63 4 0) := fun c i hc hrl => by rw [mset_ne2 (fun z => by rw [z.1, z.2] at hrl; cases hrl), hA c (by omega), e1 c (Or.inr hc)]
  have fM := fx _ eM
  have cp := cm_plans (G := G) (lm := l) gN h8
  rw [cnt_plan h4 hr] at cp
  exact ⟨mm2, bX10_clearPlan_14 ⟨_, ofv (by omega) (a := 2) rfl (by decide) (congrFun fM.r64 _), fun _ => ⟨m', ct2, _, cm_set (by omega) (a := 2) rfl (by decide), _, by rw [← hmy]; exact cp, rfl, by rw [hmy]⟩, fun z => absurd (Int32.not_lt.mp (hq.mpr h)) z⟩, b1, b2⟩
theorem core_startSwing : ∀ mm lm, Inv mm → ¬ mm 0 10 = 0 → inR 0 (mm 4 9 - 1) x1 → inR 0 999 x2 → inR 1 15 x3 → CoreI G Inv M_X9_startSwing M_X10_startSwing 24 46 [(0, .ref 0), (1, .int x1), (2, .int x2), (3, .int x3)] [(0, .ref 63), (1, .int x1), (2, .int x2), (3, .int x3)] mm lm := by
  intro mm lm hI _ g1 g2 g3
  obtain ⟨nb, nm, nq, np, fx⟩ := fx_of hI
  have f := fx mm EqR.refl.m
  have f0 := fx _ (eqR_th (mm := mm) EqR.refl 0).m
  have h4 := f.m4
  have h8 := f.n8
  obtain ⟨j, hj, rfl⟩ := f.bell g1
  obtain ⟨s, -, hs, rfl⟩ := inR_nat (l := 0) (g := 999) g2 (by omega) (by omega)
  obtain ⟨a, ha1, ha2, rfl⟩ := inR_nat (l := 1) (g := 15) g3 (by omega) (by omega)
  by_cases h : mm (23 + j) 0 = -1
  · exact ⟨-2, mm, bX9_startSwing_24 ⟨j, rfl, by omega, _, c_hangs (sh_b23 (by omega)), fun z => absurd h (bI_1.mp z), fun _ => ⟨rfl, rfl⟩⟩, ⟨rfl, rfl, rfl⟩, fun l => ⟨_, bX10_startSwing_46 ⟨_, cm_hangs (by omega), fun z => absurd ((f0.hg hj).mpr h) (bI_1.mp z), fun _ => ⟨rfl, rfl⟩⟩, mset_eq, hI.congr (eqR_th EqR.refl 0)⟩⟩

  obtain ⟨mc, ct, e1, act⟩ := mut_all (G := G) (lm := lm) hI f hj
  obtain ⟨mm1, hmx⟩ : ∃ m, m = mset (mset mc (23 + j) 4 (nI s)) (23 + j) 5 (nI a) := ⟨_, rfl⟩
  have hA : ∀ c, c ≠ 23 + j → mm1 c = mc c := fun c hc => by rw [hmx, mset_ne hc, mset_ne hc]
  have hS4 : mm1 (23 + j) 4 = (nI s) := by rw [hmx, mset_in (by decide), mset_eq]
  have hS5 : mm1 (23 + j) 5 = (nI a) := by rw [hmx, mset_eq]
  have hD : ∀ s, s ≠ 4 → s ≠ 5 → mm1 (23 + j) s = mm (23 + j) s := fun s h4 h5 => by rw [hmx, mset_in h5, mset_in h4, e1 _ (by omega)]
  have hN : mm1 4 9 = nI nb := by rw [hA 4 (by omega), e1 4 (by omega)]; exact f.n
  refine ⟨nI (cntN (fun k => decide (¬ mm1 (23 + k) 5 ≤ 0)) nb), mm1, bX9_startSwing_24 ⟨j, rfl, by omega, _, c_hangs (sh_b23 (by omega)), fun _ => ⟨mc, ct, j, rfl, by omega, j, rfl, by omega, _, by rw [← hmx]; exact c_countSwinging hN h8, rfl, by rw [hmx]⟩, fun z => absurd h (bI_0.mp z)⟩, ?_, fun l => ?_⟩
  · rw [hA 63 (by omega), e1 63 (by omega)]; exact ⟨rfl, rfl, rfl⟩
  obtain ⟨m', ct2, a1, a2, a3⟩ := act mm1 hA l
  obtain ⟨mm2, hmy⟩ : ∃ m, m = mset (mset m' 64 (10 * j + 4) (nI s)) 64 (10 * j + 5) (nI a) := ⟨_, rfl⟩
  have gA : ∀ c, c ≠ 64 → mm2 c = m' c := fun c hc => by rw [hmy, mset_ne hc, mset_ne hc]
  have gS4 : mm2 64 (10 * j + 4) = (nI s) := by rw [hmy, mset_in (by omega), mset_eq]
  have gS5 : mm2 64 (10 * j + 5) = (nI a) := by rw [hmy, mset_eq]
  have gD : ∀ i, i ≠ 10 * j + 4 → i ≠ 10 * j + 5 → mm2 64 i = mm 64 i := fun i h4 h5 => by rw [hmy, mset_in h5, mset_in h4, a1]
  have gN : mm2 63 8 = nI nb := by rw [gA 63 (by decide)]; exact a2
  have hr : ∀ k, k < nb → RB nm (cS mm1 k) (mS mm2 k) := rb_all f (fun k hk hkj => by rw [hA _ (by omega), e1 _ (by omega)]) (fun i hi => gD i (by omega) (by omega)) ((f.r hj).swing hS4 gS4 (by omega) hS5 gS5 ha1 ha2 (fun s _ h2 h3 => hD s h2 h3) (fun s _ h2 h3 => gD _ (by omega) (by omega)))
  have hS := f.2.2.1.same (c' := cS mm1) (m' := mS mm2) (fun k hk => by
    by_cases hkj : k = j
    · subst hkj; exact ⟨hD 0 (by decide) (by decide), hD 1 (by decide) (by decide)⟩
    · show mm1 (23 + k) 0 = mm (23 + k) 0 ∧ mm1 (23 + k) 1 = mm (23 + k) 1
      rw [hA _ (by omega), e1 _ (by omega)]; exact ⟨rfl, rfl⟩) hr
  obtain ⟨b1, b2⟩ := a3 mm2 gA hS
  have eM : EqM mm (mset mm1 63 4 0) := fun c i hc hrl => by rw [mset_ne2 (fun z => by rw [z.1, z.2] at hrl; cases hrl), hA c (by omega), e1 c (Or.inr hc)]
  have fM := fx _ eM
  have cp := cm_swinging (G := G) (lm := l) gN h8
  rw [cnt_swing hr] at cp
  exact ⟨mm2, bX10_startSwing_46 ⟨_, cm_hangs (by omega), fun _ => ⟨m', ct2, _, cm_set (by omega) (a := 4) rfl (by decide), _, cm_set (by omega) (a := 5) rfl (by decide), _, by rw [← hmy]; exact cp, rfl, by rw [hmy]⟩, fun z => absurd (mt (fM.hg hj).mp h) (bI_0.mp z)⟩, b1, b2⟩
theorem core_stopSwing : ∀ mm lm, Inv mm → ¬ mm 0 10 = 0 → inR 0 (mm 4 9 - 1) x1 → CoreI G Inv M_X9_stopSwing M_X10_stopSwing 9 14 [(0, .ref 0), (1, .int x1)] [(0, .ref 63), (1, .int x1)] mm lm := by
  intro mm lm hI _ g1
  obtain ⟨nb, nm, nq, np, fx⟩ := fx_of hI
  have f := fx mm EqR.refl.m
  have f0 := fx _ (eqR_th (mm := mm) EqR.refl 0).m
  have h4 := f.m4
  have h8 := f.n8
  obtain ⟨j, hj, rfl⟩ := f.bell g1
  have hq : (¬ mm 64 (10 * j + 5) < 0) ↔ ¬ mm (23 + j) 5 ≤ 0 := rb_swing (f.r hj)
  by_cases h : mm (23 + j) 5 ≤ 0
  · exact ⟨-2, mm, bX9_stopSwing_9 ⟨j, rfl, by omega, _, c_swings (sh_b23 (by omega)), fun z => absurd h (bI_1.mp z), fun _ => ⟨rfl, rfl⟩⟩, ⟨rfl, rfl, rfl⟩, fun l => ⟨_, bX10_stopSwing_14 ⟨_, by have cs := cm_swings (G := G) (mm := mset mm 63 4 0) (lm := l) (k := j) (by omega); rw [f0.r64] at cs; exact cs, fun z => absurd h (hq.mp (bI_1.mp z)), fun _ => ⟨rfl, rfl⟩⟩, mset_eq, hI.congr (eqR_th EqR.refl 0)⟩⟩

  obtain ⟨mc, ct, e1, act⟩ := mut_all (G := G) (lm := lm) hI f hj
  obtain ⟨mm1, hmx⟩ : ∃ m, m = mset mc (23 + j) 5 0 := ⟨_, rfl⟩
  have hA : ∀ c, c ≠ 23 + j → mm1 c = mc c := fun c hc => by rw [hmx, mset_ne hc]
  have hS5 : mm1 (23 + j) 5 = 0 := by rw [hmx, mset_eq]
  have hD : ∀ s, s ≠ 5 → mm1 (23 + j) s = mm (23 + j) s := fun s h5 => by rw [hmx, mset_in h5, e1 _ (by omega)]
  have hN : mm1 4 9 = nI nb := by rw [hA 4 (by omega), e1 4 (by omega)]; exact f.n
  refine ⟨nI (cntN (fun k => decide (¬ mm1 (23 + k) 5 ≤ 0)) nb), mm1, bX9_stopSwing_9 ⟨j, rfl, by omega, _, c_swings (sh_b23 (by omega)), fun _ => ⟨mc, ct, j, rfl, by omega, _, by rw [← hmx]; exact c_countSwinging hN h8, rfl, by rw [hmx]⟩, fun z => absurd h (bI_0.mp z)⟩, ?_, fun l => ?_⟩
  · rw [hA 63 (by omega), e1 63 (by omega)]; exact ⟨rfl, rfl, rfl⟩
  obtain ⟨m', ct2, a1, a2, a3⟩ := act mm1 hA l
  obtain ⟨mm2, hmy⟩ : ∃ m, m = mset m' 64 (10 * j + 5) (-1) := ⟨_, rfl⟩
  have gA : ∀ c, c ≠ 64 → mm2 c = m' c := fun c hc => by rw [hmy, mset_ne hc]
  have gS5 : mm2 64 (10 * j + 5) = (-1) := by rw [hmy, mset_eq]
  have gD : ∀ i, i ≠ 10 * j + 5 → mm2 64 i = mm 64 i := fun i h5 => by rw [hmy, mset_in h5, a1]
  have gN : mm2 63 8 = nI nb := by rw [gA 63 (by decide)]; exact a2
  have hr : ∀ k, k < nb → RB nm (cS mm1 k) (mS mm2 k) := rb_all f (fun k hk hkj => by rw [hA _ (by omega), e1 _ (by omega)]) (fun i hi => gD i (by omega)) ((f.r hj).stop hS5 gS5 (fun s _ h2 => hD s h2) (fun s _ h2 => gD _ (by omega)))
  have hS := f.2.2.1.same (c' := cS mm1) (m' := mS mm2) (fun k hk => by
    by_cases hkj : k = j
    · subst hkj; exact ⟨hD 0 (by decide), hD 1 (by decide)⟩
    · show mm1 (23 + k) 0 = mm (23 + k) 0 ∧ mm1 (23 + k) 1 = mm (23 + k) 1
      rw [hA _ (by omega), e1 _ (by omega)]; exact ⟨rfl, rfl⟩) hr
  obtain ⟨b1, b2⟩ := a3 mm2 gA hS
  have eM : EqM mm (mset mm1 63 4 0) := fun c i hc hrl => by rw [mset_ne2 (fun z => by rw [z.1, z.2] at hrl; cases hrl), hA c (by omega), e1 c (Or.inr hc)]
  have fM := fx _ eM
  have cp := cm_swinging (G := G) (lm := l) gN h8
  rw [cnt_swing hr] at cp
  have cs := cm_swings (G := G) (mm := mset mm1 63 4 0) (lm := l) (k := j) (by omega)
  rw [fM.r64] at cs
  exact ⟨mm2, bX10_stopSwing_14 ⟨_, cs, fun _ => ⟨m', ct2, _, cm_set (by omega) (a := 5) rfl (by decide), _, by rw [← hmy]; exact cp, rfl, by rw [hmy]⟩, fun z => absurd (hq.mpr h) (bI_0.mp z)⟩, b1, b2⟩
theorem core_setChime : ∀ mm lm, Inv mm → ¬ mm 0 10 = 0 → inR 0 (mm 4 9 - 1) x1 → inR 0 1439 x2 → inR 1 1440 x3 → CoreI G Inv M_X9_setChime M_X10_setChime 25 46 [(0, .ref 0), (1, .int x1), (2, .int x2), (3, .int x3)] [(0, .ref 63), (1, .int x1), (2, .int x2), (3, .int x3)] mm lm := by
  intro mm lm hI _ g1 g2 g3
  obtain ⟨nb, nm, nq, np, fx⟩ := fx_of hI
  have f := fx mm EqR.refl.m
  have f0 := fx _ (eqR_th (mm := mm) EqR.refl 0).m
  have h4 := f.m4
  have h8 := f.n8
  obtain ⟨j, hj, rfl⟩ := f.bell g1
  obtain ⟨s, -, hs, rfl⟩ := inR_nat (l := 0) (g := 1439) g2 (by omega) (by omega)
  obtain ⟨a, ha1, ha2, rfl⟩ := inR_nat (l := 1) (g := 1440) g3 (by omega) (by omega)
  obtain ⟨mc, ct, e1, act⟩ := mut_all (G := G) (lm := lm) hI f hj
  obtain ⟨mm1, hmx⟩ : ∃ m, m = mset (mset mc (23 + j) 6 (nI s)) (23 + j) 7 (nI a) := ⟨_, rfl⟩
  have hA : ∀ c, c ≠ 23 + j → mm1 c = mc c := fun c hc => by rw [hmx, mset_ne hc, mset_ne hc]
  have hS6 : mm1 (23 + j) 6 = (nI s) := by rw [hmx, mset_in (by decide), mset_eq]
  have hS7 : mm1 (23 + j) 7 = (nI a) := by rw [hmx, mset_eq]
  have hD : ∀ s, s ≠ 6 → s ≠ 7 → mm1 (23 + j) s = mm (23 + j) s := fun s h6 h7 => by rw [hmx, mset_in h7, mset_in h6, e1 _ (by omega)]
  have hN : mm1 4 9 = nI nb := by rw [hA 4 (by omega), e1 4 (by omega)]; exact f.n
  refine ⟨1 + (1439 - nI s) / nI a, mm1, bX9_setChime_25 ⟨mc, ct, j, rfl, by omega, j, rfl, by omega, nI_ne0 ha1 (by omega), rfl, by rw [hmx]⟩, ?_, fun l => ?_⟩
  · rw [hA 63 (by omega), e1 63 (by omega)]; exact ⟨rfl, rfl, rfl⟩
  obtain ⟨m', ct2, a1, a2, a3⟩ := act mm1 hA l
  obtain ⟨mm2, hmy⟩ : ∃ m, m = mset (mset m' 64 (10 * j + 6) (nI s)) 64 (10 * j + 7) (nI a) := ⟨_, rfl⟩
  have gA : ∀ c, c ≠ 64 → mm2 c = m' c := fun c hc => by rw [hmy, mset_ne hc, mset_ne hc]
  have gS6 : mm2 64 (10 * j + 6) = (nI s) := by rw [hmy, mset_in (by omega), mset_eq]
  have gS7 : mm2 64 (10 * j + 7) = (nI a) := by rw [hmy, mset_eq]
  have gD : ∀ i, i ≠ 10 * j + 6 → i ≠ 10 * j + 7 → mm2 64 i = mm 64 i := fun i h6 h7 => by rw [hmy, mset_in h7, mset_in h6, a1]
  have gN : mm2 63 8 = nI nb := by rw [gA 63 (by decide)]; exact a2
  have hr : ∀ k, k < nb → RB nm (cS mm1 k) (mS mm2 k) := rb_all f (fun k hk hkj => by rw [hA _ (by omega), e1 _ (by omega)]) (fun i hi => gD i (by omega) (by omega)) ((f.r hj).chime hS6 gS6 (by omega) hS7 gS7 ha1 ha2 (fun s h => hD s (by omega) (by omega)) (fun s h => gD _ (by omega) (by omega)))
  have hS := f.2.2.1.same (c' := cS mm1) (m' := mS mm2) (fun k hk => by
    by_cases hkj : k = j
    · subst hkj; exact ⟨hD 0 (by decide) (by decide), hD 1 (by decide) (by decide)⟩
    · show mm1 (23 + k) 0 = mm (23 + k) 0 ∧ mm1 (23 + k) 1 = mm (23 + k) 1
      rw [hA _ (by omega), e1 _ (by omega)]; exact ⟨rfl, rfl⟩) hr
  obtain ⟨b1, b2⟩ := a3 mm2 gA hS
  have eM : EqM mm (mset mm1 63 4 0) := fun c i hc hrl => by rw [mset_ne2 (fun z => by rw [z.1, z.2] at hrl; cases hrl), hA c (by omega), e1 c (Or.inr hc)]
  have fM := fx _ eM
  exact ⟨mm2, bX10_setChime_46 ⟨m', ct2, _, cm_set (by omega) (a := 6) rfl (by decide), _, cm_set (by omega) (a := 7) rfl (by decide), nI_ne0 ha1 (by omega), rfl, by rw [hmy]⟩, b1, b2⟩
theorem core_clearChime : ∀ mm lm, Inv mm → ¬ mm 0 10 = 0 → inR 0 (mm 4 9 - 1) x1 → CoreI G Inv M_X9_clearChime M_X10_clearChime 9 14 [(0, .ref 0), (1, .int x1)] [(0, .ref 63), (1, .int x1)] mm lm := by
  intro mm lm hI _ g1
  obtain ⟨nb, nm, nq, np, fx⟩ := fx_of hI
  have f := fx mm EqR.refl.m
  have f0 := fx _ (eqR_th (mm := mm) EqR.refl 0).m
  have h4 := f.m4
  have h8 := f.n8
  obtain ⟨j, hj, rfl⟩ := f.bell g1
  have hq : (¬ mm 64 (10 * j + 7) < 0) ↔ ¬ mm (23 + j) 7 ≤ 0 := rb_chime (f.r hj)
  by_cases h : mm (23 + j) 7 ≤ 0
  · exact ⟨-2, mm, bX9_clearChime_9 ⟨j, rfl, by omega, _, c_hasChime (sh_b23 (by omega)), fun z => absurd h (bI_1.mp z), fun _ => ⟨rfl, rfl⟩⟩, ⟨rfl, rfl, rfl⟩, fun l => ⟨_, bX10_clearChime_14 ⟨_, by have cs := cm_chimes (G := G) (mm := mset mm 63 4 0) (lm := l) (k := j) (by omega); rw [f0.r64] at cs; exact cs, fun z => absurd h (hq.mp (bI_1.mp z)), fun _ => ⟨rfl, rfl⟩⟩, mset_eq, hI.congr (eqR_th EqR.refl 0)⟩⟩

  obtain ⟨mc, ct, e1, act⟩ := mut_all (G := G) (lm := lm) hI f hj
  obtain ⟨mm1, hmx⟩ : ∃ m, m = mset mc (23 + j) 7 0 := ⟨_, rfl⟩
  have hA : ∀ c, c ≠ 23 + j → mm1 c = mc c := fun c hc => by rw [hmx, mset_ne hc]
  have hS7 : mm1 (23 + j) 7 = 0 := by rw [hmx, mset_eq]
  have hD : ∀ s, s ≠ 7 → mm1 (23 + j) s = mm (23 + j) s := fun s h7 => by rw [hmx, mset_in h7, e1 _ (by omega)]
  have hN : mm1 4 9 = nI nb := by rw [hA 4 (by omega), e1 4 (by omega)]; exact f.n
  refine ⟨nI (cntN (fun k => decide (¬ mm1 (23 + k) 7 ≤ 0)) nb), mm1, bX9_clearChime_9 ⟨j, rfl, by omega, _, c_hasChime (sh_b23 (by omega)), fun _ => ⟨mc, ct, j, rfl, by omega, _, by rw [← hmx]; exact c_countChiming hN h8, rfl, by rw [hmx]⟩, fun z => absurd h (bI_0.mp z)⟩, ?_, fun l => ?_⟩
  · rw [hA 63 (by omega), e1 63 (by omega)]; exact ⟨rfl, rfl, rfl⟩
  obtain ⟨m', ct2, a1, a2, a3⟩ := act mm1 hA l
  obtain ⟨mm2, hmy⟩ : ∃ m, m = mset m' 64 (10 * j + 7) (-1) := ⟨_, rfl⟩
  have gA : ∀ c, c ≠ 64 → mm2 c = m' c := fun c hc => by rw [hmy, mset_ne hc]
  have gS7 : mm2 64 (10 * j + 7) = (-1) := by rw [hmy, mset_eq]
  have gD : ∀ i, i ≠ 10 * j + 7 → mm2 64 i = mm 64 i := fun i h7 => by rw [hmy, mset_in h7, a1]
  have gN : mm2 63 8 = nI nb := by rw [gA 63 (by decide)]; exact a2
  have hr : ∀ k, k < nb → RB nm (cS mm1 k) (mS mm2 k) := rb_all f (fun k hk hkj => by rw [hA _ (by omega), e1 _ (by omega)]) (fun i hi => gD i (by omega)) ((f.r hj).unchime hS7 gS7 (fun s h2 => hD s (by omega)) (fun s h2 => gD _ (by omega)))
  have hS := f.2.2.1.same (c' := cS mm1) (m' := mS mm2) (fun k hk => by
    by_cases hkj : k = j
    · subst hkj; exact ⟨hD 0 (by decide), hD 1 (by decide)⟩
    · show mm1 (23 + k) 0 = mm (23 + k) 0 ∧ mm1 (23 + k) 1 = mm (23 + k) 1
      rw [hA _ (by omega), e1 _ (by omega)]; exact ⟨rfl, rfl⟩) hr
  obtain ⟨b1, b2⟩ := a3 mm2 gA hS
  have eM : EqM mm (mset mm1 63 4 0) := fun c i hc hrl => by rw [mset_ne2 (fun z => by rw [z.1, z.2] at hrl; cases hrl), hA c (by omega), e1 c (Or.inr hc)]
  have fM := fx _ eM
  have cp := cm_chm (G := G) (lm := l) gN h8
  rw [cnt_chime hr] at cp
  have cs := cm_chimes (G := G) (mm := mset mm1 63 4 0) (lm := l) (k := j) (by omega)
  rw [fM.r64] at cs
  exact ⟨mm2, bX10_clearChime_14 ⟨_, cs, fun _ => ⟨m', ct2, _, cm_set (by omega) (a := 7) rfl (by decide), by rw [← hmy]; exact cp⟩, fun z => absurd (hq.mpr h) (bI_0.mp z)⟩, b1, b2⟩
theorem core_hang : ∀ mm lm, Inv mm → ¬ mm 0 10 = 0 → inR 0 (mm 4 9 - 1) x1 → inR 0 (mm 4 8 - 1) x2 → inR (-15) 15 x3 → CoreI G Inv M_X9_hang M_X10_hang 22 37 [(0, .ref 0), (1, .int x1), (2, .int x2), (3, .int x3)] [(0, .ref 63), (1, .int x1), (2, .int x2), (3, .int x3)] mm lm := by
  intro mm lm hI _ g1 g2 g3
  obtain ⟨nb, nm, nq, np, fx⟩ := fx_of hI
  have f := fx mm EqR.refl.m
  have f0 := fx _ (eqR_th (mm := mm) EqR.refl 0).m
  have h4 := f.m4
  have h8 := f.n8
  obtain ⟨j, hj, rfl⟩ := f.bell g1
  obtain ⟨i, hi, rfl⟩ := f.beam g2
  by_cases h0 : ¬ mm (23 + j) 0 = -1
  · exact ⟨-2, mm, bX9_hang_22 ⟨j, rfl, by omega, _, c_hangs (sh_b23 (by omega)), fun z => absurd h0 (bI_0.mp z), fun _ => ⟨rfl, rfl⟩⟩, ⟨rfl, rfl, rfl⟩, fun l => ⟨_, bX10_hang_37 ⟨_, cm_hangs (by omega), fun z => absurd (mt (f0.hg hj).mp h0) (bI_0.mp z), fun _ => ⟨rfl, rfl⟩⟩, mset_eq, hI.congr (eqR_th EqR.refl 0)⟩⟩
  have h := Decidable.not_not.mp h0
  have hne : ¬ cBe mm j = nI i := fun z => nI_ne_neg (n := i) (by omega) (z.symm.trans h)
  by_cases h5 : ¬ eopF nb (cBe mm) (cPo mm) (mm 8) (mm 7) (mm 6) j i x3 = 0
  · exact ⟨eopF nb (cBe mm) (cPo mm) (mm 8) (mm 7) (mm 6) j i x3, mm, bX9_hang_22 ⟨j, rfl, by omega, _, c_hangs (sh_b23 (by omega)), fun _ => ⟨_, c_errorOfPlace f.n h8 (by omega) (by omega) _, fun z => absurd z h5, fun _ => ⟨rfl, rfl⟩⟩, fun z => absurd h (bI_1.mp z)⟩, ⟨rfl, rfl, rfl⟩, fun l => ⟨_, bX10_hang_37 ⟨_, cm_hangs (by omega), fun _ => ⟨_, cm_clr f0 hj hi x3, fun z => ⟨_, cm_pull f0.N h8 _, j, rfl, by omega, _, cm_bal f0 hi (y := mWi nb (cBe mm) (cPo mm) (mm 7) j (nI i) x3) (by rw [f0.mo _ i (by omega), f0.w hj, mWi, mo_off hne]), fun z2 => absurd (eop0 (bI_1.mp z) (bI_1.mp z2)) h5, fun z2 => ⟨by rw [eop4 (bI_1.mp z) (Decidable.not_not.mp (bI_0.mp z2))], rfl⟩⟩, fun z => ⟨by rw [eop3 (bI_0.mp z)], rfl⟩⟩, fun z => absurd ((f0.hg hj).mpr h) (bI_1.mp z)⟩, mset_eq, hI.congr (eqR_th EqR.refl 0)⟩⟩
  obtain ⟨hfit, hbal⟩ := eop_0 (Decidable.not_not.mp h5)
  obtain ⟨mc, ct, e1, act⟩ := mut_all (G := G) (lm := lm) hI f hj
  obtain ⟨mm1, hmx⟩ : ∃ m, m = mset (mset mc (23 + j) 0 (nI i)) (23 + j) 1 x3 := ⟨_, rfl⟩
  have hA : ∀ c, c ≠ 23 + j → mm1 c = mc c := fun c hc => by rw [hmx, mset_ne hc, mset_ne hc]
  have hS0 : mm1 (23 + j) 0 = (nI i) := by rw [hmx, mset_in (by decide), mset_eq]
  have hS1 : mm1 (23 + j) 1 = x3 := by rw [hmx, mset_eq]
  have hD : ∀ s, s ≠ 0 → s ≠ 1 → mm1 (23 + j) s = mm (23 + j) s := fun s h0 h1 => by rw [hmx, mset_in h1, mset_in h0, e1 _ (by omega)]
  have hN : mm1 4 9 = nI nb := by rw [hA 4 (by omega), e1 4 (by omega)]; exact f.n
  refine ⟨nI (cntN (fun k => decide (cBe mm1 k = nI i)) nb), mm1, bX9_hang_22 ⟨j, rfl, by omega, _, c_hangs (sh_b23 (by omega)), fun _ => ⟨_, c_errorOfPlace f.n h8 (by omega) (by omega) _, fun _ => ⟨mc, ct, j, rfl, by omega, j, rfl, by omega, _, by rw [← hmx]; exact c_countOn hN h8 _, rfl, by rw [hmx]⟩, fun z => absurd z h5⟩, fun z => absurd h (bI_1.mp z)⟩, ?_, fun l => ?_⟩
  · rw [hA 63 (by omega), e1 63 (by omega)]; exact ⟨rfl, rfl, rfl⟩
  obtain ⟨m', ct2, a1, a2, a3⟩ := act mm1 hA l
  obtain ⟨mm2, hmy⟩ : ∃ m, m = mset (mset m' 64 (10 * j + 0) (nI i)) 64 (10 * j + 1) x3 := ⟨_, rfl⟩
  have gA : ∀ c, c ≠ 64 → mm2 c = m' c := fun c hc => by rw [hmy, mset_ne hc, mset_ne hc]
  have gS0 : mm2 64 (10 * j + 0) = (nI i) := by rw [hmy, mset_in (by omega), mset_eq]
  have gS1 : mm2 64 (10 * j + 1) = x3 := by rw [hmy, mset_eq]
  have gD : ∀ i, i ≠ 10 * j + 0 → i ≠ 10 * j + 1 → mm2 64 i = mm 64 i := fun i h0 h1 => by rw [hmy, mset_in h1, mset_in h0, a1]
  have gN : mm2 63 8 = nI nb := by rw [gA 63 (by decide)]; exact a2
  have hr : ∀ k, k < nb → RB nm (cS mm1 k) (mS mm2 k) := rb_all f (fun k hk hkj => by rw [hA _ (by omega), e1 _ (by omega)]) (fun i hi => gD i (by omega) (by omega)) ((f.r hj).hang hS0 gS0 hi hS1 gS1 g3 (fun s h2 _ => hD s (by omega) (by omega)) (fun s h2 _ => gD _ (by omega) (by omega)))
  have hS := f.2.2.1.move (c' := cS mm1) (m' := mS mm2) hj (fun k hk hkj => by show mm1 (23 + k) 0 = mm (23 + k) 0 ∧ mm1 (23 + k) 1 = mm (23 + k) 1; rw [hA _ (by omega), e1 _ (by omega)]; exact ⟨rfl, rfl⟩) hr (fun k hk hkj h1 _ => by
    show ¬ absI (mm1 (23 + j) 1 - mm (23 + k) 1) < mm 8 j + mm 8 k
    rw [hS1]
    rcases of_decide_eq_true (allN_iff.mp hfit k hk) with z | z | z
    · exact absurd z hkj
    · exact absurd (h1.trans hS0) z
    · exact z) (fun b hb2 hor => by
    rcases hor with z | z
    · have eb : i = b := (nI_eq (by omega) (by omega)).mp (hS0.symm.trans z)
      subst eb
      rw [if_pos z]
      show ¬ mm 6 i < absI (mo nb (cBe mm) (cPo mm) (mm 7) (nI i) (fun k => decide (k = j)) + mm 7 j * mm1 (23 + j) 1)
      rw [hS1]; exact hbal
    · exact absurd (z.symm.trans h) (nI_ne_neg (by omega)))
  obtain ⟨b1, b2⟩ := a3 mm2 gA hS
  have eM : EqM mm (mset mm1 63 4 0) := fun c i hc hrl => by rw [mset_ne2 (fun z => by rw [z.1, z.2] at hrl; cases hrl), hA c (by omega), e1 c (Or.inr hc)]
  have fM := fx _ eM
  have cp := cm_bellsOn (G := G) (lm := l) gN h8 (nI i)
  rw [show cntN (fun k => decide (mBe mm2 k = nI i)) nb = cntN (fun k => decide (cBe mm1 k = nI i)) nb from cnt_on hr (nI i)] at cp
  exact ⟨mm2, bX10_hang_37 ⟨_, cm_hangs (by omega), fun _ => ⟨_, cm_clr fM hj hi x3, fun z => ⟨_, cm_pull fM.N h8 _, j, rfl, by omega, _, cm_bal fM hi (y := mWi nb (cBe mm) (cPo mm) (mm 7) j (nI i) x3) (by rw [fM.mo _ i (by omega), fM.w hj, mWi, mo_off hne]), fun z2 => ⟨m', ct2, _, cm_set (by omega) (a := 0) rfl (by decide), _, cm_set (by omega) (a := 1) rfl (by decide), _, by rw [← hmy]; exact cp, rfl, by rw [hmy]⟩, fun z2 => absurd hbal (bI_0.mp z2)⟩, fun z => absurd hfit (bI_0.mp z)⟩, fun z => absurd ((fM.hg hj).mpr h) (bI_1.mp z)⟩, b1, b2⟩
theorem core_takeDown : ∀ mm lm, Inv mm → ¬ mm 0 10 = 0 → inR 0 (mm 4 9 - 1) x1 → CoreI G Inv M_X9_takeDown M_X10_takeDown 9 14 [(0, .ref 0), (1, .int x1)] [(0, .ref 63), (1, .int x1)] mm lm := by
  intro mm lm hI _ g1
  obtain ⟨nb, nm, nq, np, fx⟩ := fx_of hI
  have f := fx mm EqR.refl.m
  have f0 := fx _ (eqR_th (mm := mm) EqR.refl 0).m
  have h4 := f.m4
  have h8 := f.n8
  obtain ⟨j, hj, rfl⟩ := f.bell g1
  rcases (f.r hj).1.2 with h | ⟨i, hi, hb⟩
  · exact ⟨-2, mm, bX9_takeDown_9 ⟨j, rfl, by omega, _, c_hangs (sh_b23 (by omega)), fun z => absurd h (bI_1.mp z), fun _ => ⟨rfl, rfl⟩⟩, ⟨rfl, rfl, rfl⟩, fun l => ⟨_, bX10_takeDown_14 ⟨_, cm_hangs (by omega), fun z => absurd ((f0.hg hj).mpr h) (bI_1.mp z), fun _ => ⟨rfl, rfl⟩⟩, mset_eq, hI.congr (eqR_th EqR.refl 0)⟩⟩
  have hb : mm (23 + j) 0 = nI i := hb
  have h : ¬ mm (23 + j) 0 = -1 := by rw [hb]; exact nI_ne_neg (by omega)
  have cbr : Ct G M_X7_bears [.ref 4, .int (mm (23 + j) 0), .int (mo nb (cBe mm) (cPo mm) (mm 7) (mm (23 + j) 0) (fun k => decide (nI k = nI j)))] (SH, mm, lm) false (.inl (some (.int (bI (¬ mm 6 i < absI (mo nb (cBe mm) (cPo mm) (mm 7) (nI i) (fun k => decide (k = j)))))))) (SH, mm, lm) false 0 0 := by
    have q := c_bears (G := G) (mm := mm) (lm := lm) (j := i) (by omega) (mo nb (cBe mm) (cPo mm) (mm 7) (mm (23 + j) 0) (fun k => decide (nI k = nI j)))
    rw [bI_congr (q := ¬ mm 6 i < absI (mo nb (cBe mm) (cPo mm) (mm 7) (nI i) (fun k => decide (k = j)))) (by rw [hb, mo_nI h8 (by omega)])] at q
    rw [show (Value.int (nI i)) = .int (mm (23 + j) 0) by rw [hb]] at q
    exact q
  by_cases hbal : mm 6 i < absI (mo nb (cBe mm) (cPo mm) (mm 7) (nI i) (fun k => decide (k = j)))
  · exact ⟨-4, mm, bX9_takeDown_9 ⟨j, rfl, by omega, _, c_hangs (sh_b23 (by omega)), fun _ => ⟨j, rfl, by omega, _, c_momentWithout f.n h8 _ _, _, cbr, fun z => absurd hbal (bI_1.mp z), fun _ => ⟨rfl, rfl⟩⟩, fun z => absurd h (bI_0.mp z)⟩, ⟨rfl, rfl, rfl⟩, fun l => ⟨_, bX10_takeDown_14 ⟨_, cm_hangs (by omega), fun _ => ⟨_, ofv (by omega) (a := 0) rfl (by decide) ((f0.be hj).trans hb), _, cm_pull f0.N h8 _, j, rfl, by omega, _, ofv (by omega) (a := 1) rfl (by decide) (f0.po hj h), _, cm_bal f0 hi (y := mo nb (cBe mm) (cPo mm) (mm 7) (nI i) (fun k => decide (k = j))) (by rw [f0.mo _ i (by omega), f0.w hj, mo_out hj, if_pos hb, Int32.add_sub_cancel]), fun z2 => absurd hbal (bI_1.mp z2), fun z2 => ⟨rfl, rfl⟩⟩, fun z => absurd (mt (f0.hg hj).mp h) (bI_0.mp z)⟩, mset_eq, hI.congr (eqR_th EqR.refl 0)⟩⟩
  obtain ⟨mc, ct, e1, act⟩ := mut_all (G := G) (lm := lm) hI f hj
  obtain ⟨mm1, hmx⟩ : ∃ m, m = mset (mset mc (23 + j) 0 (-1)) (23 + j) 5 0 := ⟨_, rfl⟩
  have hA : ∀ c, c ≠ 23 + j → mm1 c = mc c := fun c hc => by rw [hmx, mset_ne hc, mset_ne hc]
  have hS0 : mm1 (23 + j) 0 = (-1) := by rw [hmx, mset_in (by decide), mset_eq]
  have hS5 : mm1 (23 + j) 5 = 0 := by rw [hmx, mset_eq]
  have hD : ∀ s, s ≠ 0 → s ≠ 5 → mm1 (23 + j) s = mm (23 + j) s := fun s h0 h5 => by rw [hmx, mset_in h5, mset_in h0, e1 _ (by omega)]
  have hN : mm1 4 9 = nI nb := by rw [hA 4 (by omega), e1 4 (by omega)]; exact f.n
  refine ⟨nI (cntN (fun k => decide (cBe mm1 k = nI i)) nb), mm1, bX9_takeDown_9 ⟨j, rfl, by omega, _, c_hangs (sh_b23 (by omega)), fun _ => ⟨j, rfl, by omega, _, c_momentWithout f.n h8 _ _, _, cbr, fun _ => ⟨mc, ct, j, rfl, by omega, j, rfl, by omega, _, by rw [← hmx, hb]; exact c_countOn hN h8 _, rfl, by rw [hmx]⟩, fun z => absurd hbal (bI_0.mp z)⟩, fun z => absurd h (bI_0.mp z)⟩, ?_, fun l => ?_⟩
  · rw [hA 63 (by omega), e1 63 (by omega)]; exact ⟨rfl, rfl, rfl⟩
  obtain ⟨m', ct2, a1, a2, a3⟩ := act mm1 hA l
  obtain ⟨mm2, hmy⟩ : ∃ m, m = mset (mset m' 64 (10 * j + 0) (-1)) 64 (10 * j + 5) (-1) := ⟨_, rfl⟩
  have gA : ∀ c, c ≠ 64 → mm2 c = m' c := fun c hc => by rw [hmy, mset_ne hc, mset_ne hc]
  have gS0 : mm2 64 (10 * j + 0) = (-1) := by rw [hmy, mset_in (by omega), mset_eq]
  have gS5 : mm2 64 (10 * j + 5) = (-1) := by rw [hmy, mset_eq]
  have gD : ∀ i, i ≠ 10 * j + 0 → i ≠ 10 * j + 5 → mm2 64 i = mm 64 i := fun i h0 h5 => by rw [hmy, mset_in h5, mset_in h0, a1]
  have gN : mm2 63 8 = nI nb := by rw [gA 63 (by decide)]; exact a2
  have hr : ∀ k, k < nb → RB nm (cS mm1 k) (mS mm2 k) := rb_all f (fun k hk hkj => by rw [hA _ (by omega), e1 _ (by omega)]) (fun i hi => gD i (by omega) (by omega)) ((f.r hj).down hS0 gS0 hS5 gS5 (fun s _ h2 h3 => hD s h2 h3) (fun s _ h2 h3 => gD _ (by omega) (by omega)))
  have hS := f.2.2.1.move (c' := cS mm1) (m' := mS mm2) hj (fun k hk hkj => by show mm1 (23 + k) 0 = mm (23 + k) 0 ∧ mm1 (23 + k) 1 = mm (23 + k) 1; rw [hA _ (by omega), e1 _ (by omega)]; exact ⟨rfl, rfl⟩) hr (fun k hk hkj h1 h2 => absurd hS0 h2) (fun b hb2 hor => by
    have hn : ¬ cS mm1 j 0 = nI b := by show ¬ mm1 (23 + j) 0 = nI b; rw [hS0]; exact fun z => nI_ne_neg (n := b) (by omega) z.symm
    rcases hor with z | z
    · exact absurd z hn
    · have eb : i = b := (nI_eq (by omega) (by omega)).mp (hb.symm.trans z)
      subst eb
      rw [if_neg hn, Int32.add_zero]; exact hbal)
  obtain ⟨b1, b2⟩ := a3 mm2 gA hS
  have eM : EqM mm (mset mm1 63 4 0) := fun c i hc hrl => by rw [mset_ne2 (fun z => by rw [z.1, z.2] at hrl; cases hrl), hA c (by omega), e1 c (Or.inr hc)]
  have fM := fx _ eM
  have cp := cm_bellsOn (G := G) (lm := l) gN h8 (nI i)
  rw [show cntN (fun k => decide (mBe mm2 k = nI i)) nb = cntN (fun k => decide (cBe mm1 k = nI i)) nb from cnt_on hr (nI i)] at cp
  exact ⟨mm2, bX10_takeDown_14 ⟨_, cm_hangs (by omega), fun _ => ⟨_, ofv (by omega) (a := 0) rfl (by decide) ((fM.be hj).trans hb), _, cm_pull fM.N h8 _, j, rfl, by omega, _, ofv (by omega) (a := 1) rfl (by decide) (fM.po hj h), _, cm_bal fM hi (y := mo nb (cBe mm) (cPo mm) (mm 7) (nI i) (fun k => decide (k = j))) (by rw [fM.mo _ i (by omega), fM.w hj, mo_out hj, if_pos hb, Int32.add_sub_cancel]), fun z2 => ⟨m', ct2, _, cm_set (by omega) (a := 0) rfl (by decide), _, cm_set (by omega) (a := 5) rfl (by decide), _, by rw [← hmy]; exact cp, rfl, by rw [hmy]⟩, fun z2 => absurd hbal (bI_0.mp z2)⟩, fun z => absurd (mt (fM.hg hj).mp h) (bI_0.mp z)⟩, b1, b2⟩
theorem sh_ring (a w p x : Int32) : a + w * p + w * (x - p) = a + w * x := by grind
theorem core_shift : ∀ mm lm, Inv mm → ¬ mm 0 10 = 0 → inR 0 (mm 4 9 - 1) x1 → inR (-15) 15 x2 → CoreI G Inv M_X9_shift M_X10_shift 17 29 [(0, .ref 0), (1, .int x1), (2, .int x2)] [(0, .ref 63), (1, .int x1), (2, .int x2)] mm lm := by
  intro mm lm hI _ g1 g2
  obtain ⟨nb, nm, nq, np, fx⟩ := fx_of hI
  have f := fx mm EqR.refl.m
  have f0 := fx _ (eqR_th (mm := mm) EqR.refl 0).m
  have h4 := f.m4
  have h8 := f.n8
  obtain ⟨j, hj, rfl⟩ := f.bell g1
  rcases (f.r hj).1.2 with h | ⟨i, hi, hb⟩
  · exact ⟨-2, mm, bX9_shift_17 ⟨j, rfl, by omega, _, c_hangs (sh_b23 (by omega)), fun z => absurd h (bI_1.mp z), fun _ => ⟨rfl, rfl⟩⟩, ⟨rfl, rfl, rfl⟩, fun l => ⟨_, bX10_shift_29 ⟨_, cm_hangs (by omega), fun z => absurd ((f0.hg hj).mpr h) (bI_1.mp z), fun _ => ⟨rfl, rfl⟩⟩, mset_eq, hI.congr (eqR_th EqR.refl 0)⟩⟩
  have hb : mm (23 + j) 0 = nI i := hb
  have h : ¬ mm (23 + j) 0 = -1 := by rw [hb]; exact nI_ne_neg (by omega)
  have cep : Ct G M_X2_errorOfPlace [.ref 31, .int (nI j), .int (mm (23 + j) 0), .int x2] (SH, mm, lm) false (.inl (some (.int (eopF nb (cBe mm) (cPo mm) (mm 8) (mm 7) (mm 6) j i x2)))) (SH, mm, lm) false 0 0 := by
    rw [hb]; exact c_errorOfPlace f.n h8 (by omega) (by omega) x2
  by_cases h5 : ¬ eopF nb (cBe mm) (cPo mm) (mm 8) (mm 7) (mm 6) j i x2 = 0
  · exact ⟨eopF nb (cBe mm) (cPo mm) (mm 8) (mm 7) (mm 6) j i x2, mm, bX9_shift_17 ⟨j, rfl, by omega, _, c_hangs (sh_b23 (by omega)), fun _ => ⟨j, rfl, by omega, _, cep, fun z => absurd z h5, fun _ => ⟨rfl, rfl⟩⟩, fun z => absurd h (bI_0.mp z)⟩, ⟨rfl, rfl, rfl⟩, fun l => ⟨_, bX10_shift_29 ⟨_, cm_hangs (by omega), fun _ => ⟨_, ofv (by omega) (a := 0) rfl (by decide) ((f0.be hj).trans hb), _, ofv (by omega) (a := 1) rfl (by decide) (f0.po hj h), _, cm_clr f0 hj hi x2, fun z => ⟨_, cm_pull f0.N h8 _, j, rfl, by omega, _, cm_bal f0 hi (y := mWi nb (cBe mm) (cPo mm) (mm 7) j (nI i) x2) (by rw [f0.mo _ i (by omega), f0.w hj, mo_out hj, if_pos hb, mWi]; exact sh_ring _ _ _ _), fun z2 => absurd (eop0 (bI_1.mp z) (bI_1.mp z2)) h5, fun z2 => ⟨by rw [eop4 (bI_1.mp z) (Decidable.not_not.mp (bI_0.mp z2))], rfl⟩⟩, fun z => ⟨by rw [eop3 (bI_0.mp z)], rfl⟩⟩, fun z => absurd (mt (f0.hg hj).mp h) (bI_0.mp z)⟩, mset_eq, hI.congr (eqR_th EqR.refl 0)⟩⟩
  obtain ⟨hfit, hbal⟩ := eop_0 (Decidable.not_not.mp h5)
  obtain ⟨mc, ct, e1, act⟩ := mut_all (G := G) (lm := lm) hI f hj
  obtain ⟨mm1, hmx⟩ : ∃ m, m = mset mc (23 + j) 1 x2 := ⟨_, rfl⟩
  have hA : ∀ c, c ≠ 23 + j → mm1 c = mc c := fun c hc => by rw [hmx, mset_ne hc]
  have hS1 : mm1 (23 + j) 1 = x2 := by rw [hmx, mset_eq]
  have hD : ∀ s, s ≠ 1 → mm1 (23 + j) s = mm (23 + j) s := fun s h1 => by rw [hmx, mset_in h1, e1 _ (by omega)]
  have hN : mm1 4 9 = nI nb := by rw [hA 4 (by omega), e1 4 (by omega)]; exact f.n
  refine ⟨100 + mm (23 + j) 1, mm1, bX9_shift_17 ⟨j, rfl, by omega, _, c_hangs (sh_b23 (by omega)), fun _ => ⟨j, rfl, by omega, _, cep, fun _ => ⟨j, rfl, by omega, mc, ct, j, rfl, by omega, rfl, by rw [hmx]⟩, fun z => absurd z h5⟩, fun z => absurd h (bI_0.mp z)⟩, ?_, fun l => ?_⟩
  · rw [hA 63 (by omega), e1 63 (by omega)]; exact ⟨rfl, rfl, rfl⟩
  obtain ⟨m', ct2, a1, a2, a3⟩ := act mm1 hA l
  obtain ⟨mm2, hmy⟩ : ∃ m, m = mset m' 64 (10 * j + 1) x2 := ⟨_, rfl⟩
  have gA : ∀ c, c ≠ 64 → mm2 c = m' c := fun c hc => by rw [hmy, mset_ne hc]
  have gS1 : mm2 64 (10 * j + 1) = x2 := by rw [hmy, mset_eq]
  have gD : ∀ i, i ≠ 10 * j + 1 → mm2 64 i = mm 64 i := fun i h1 => by rw [hmy, mset_in h1, a1]
  have gN : mm2 63 8 = nI nb := by rw [gA 63 (by decide)]; exact a2
  have hr : ∀ k, k < nb → RB nm (cS mm1 k) (mS mm2 k) := rb_all f (fun k hk hkj => by rw [hA _ (by omega), e1 _ (by omega)]) (fun i hi => gD i (by omega)) ((f.r hj).shift hS1 gS1 g2 (fun s _ h2 => hD s h2) (fun s _ h2 => gD _ (by omega)))
  have hS0 : mm1 (23 + j) 0 = nI i := (hD 0 (by decide)).trans hb
  have hS := f.2.2.1.move (c' := cS mm1) (m' := mS mm2) hj (fun k hk hkj => by show mm1 (23 + k) 0 = mm (23 + k) 0 ∧ mm1 (23 + k) 1 = mm (23 + k) 1; rw [hA _ (by omega), e1 _ (by omega)]; exact ⟨rfl, rfl⟩) hr (fun k hk hkj h1 _ => by
    show ¬ absI (mm1 (23 + j) 1 - mm (23 + k) 1) < mm 8 j + mm 8 k
    rw [hS1]
    rcases of_decide_eq_true (allN_iff.mp hfit k hk) with z | z | z
    · exact absurd z hkj
    · exact absurd (h1.trans hS0) z
    · exact z) (fun b hb2 hor => by
    have z : cS mm1 j 0 = nI b := hor.elim id (fun z => hS0.trans (hb.symm.trans z))
    have eb : i = b := (nI_eq (by omega) (by omega)).mp (hS0.symm.trans z)
    subst eb
    rw [if_pos z]
    show ¬ mm 6 i < absI (mo nb (cBe mm) (cPo mm) (mm 7) (nI i) (fun k => decide (k = j)) + mm 7 j * mm1 (23 + j) 1)
    rw [hS1]; exact hbal)
  obtain ⟨b1, b2⟩ := a3 mm2 gA hS
  have eM : EqM mm (mset mm1 63 4 0) := fun c i hc hrl => by rw [mset_ne2 (fun z => by rw [z.1, z.2] at hrl; cases hrl), hA c (by omega), e1 c (Or.inr hc)]
  have fM := fx _ eM
  exact ⟨mm2, bX10_shift_29 ⟨_, cm_hangs (by omega), fun _ => ⟨_, ofv (by omega) (a := 0) rfl (by decide) ((fM.be hj).trans hb), _, ofv (by omega) (a := 1) rfl (by decide) (fM.po hj h), _, cm_clr fM hj hi x2, fun z => ⟨_, cm_pull fM.N h8 _, j, rfl, by omega, _, cm_bal fM hi (y := mWi nb (cBe mm) (cPo mm) (mm 7) j (nI i) x2) (by rw [fM.mo _ i (by omega), fM.w hj, mo_out hj, if_pos hb, mWi]; exact sh_ring _ _ _ _), fun z2 => ⟨m', ct2, _, cm_set (by omega) (a := 1) rfl (by decide), rfl, by rw [hmy]⟩, fun z2 => absurd hbal (bI_0.mp z2)⟩, fun z => absurd hfit (bI_0.mp z)⟩, fun z => absurd (mt (fM.hg hj).mp h) (bI_0.mp z)⟩, b1, b2⟩
end Mut2
