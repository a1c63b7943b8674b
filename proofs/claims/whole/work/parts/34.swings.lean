/-! ===== contracts: swings ===== -/
theorem cntN_t {p : Nat → Bool} {n : Nat} (h : p n = true) : cntN p (n + 1) = cntN p n + 1 := by simp only [cntN, h, if_true]
theorem cntN_f {p : Nat → Bool} {n : Nat} (h : p n = false) : cntN p (n + 1) = cntN p n := by simp [cntN, h]
theorem itN_s {S : Type} (f : Nat → S → S) (s : S) (n : Nat) : itN f s (n + 1) = f n (itN f s n) := rfl
theorem nextN_t {p : Nat → Bool} {d k : Nat} (h : p k = true) : nextN p (d + 1) k = some k := by simp only [nextN, h, if_true]
theorem nextN_f {p : Nat → Bool} {d k : Nat} (h : p k = false) : nextN p (d + 1) k = nextN p d (k + 1) := by simp [nextN, h]
/-- how far off: period p, d ticks since the start, amplitude a -/
def ofs (p d a : Int32) : Int32 :=
  if d < 0 then 0 else if 0 < p then (if p < 4 * (d - d / p * p) then (if 3 * p < 4 * (d - d / p * p) then a * (4 * (d - d / p * p) - 4 * p) / p else a * (2 * p - 4 * (d - d / p * p)) / p) else a * (4 * (d - d / p * p)) / p) else 0
section Swings
variable {G : Gx} {mm : Nat → Nat → Int32} {lm : Nat → Int64} {nb : Nat}
theorem c_countSwinging (hnb : mm 4 9 = nI nb) (h8 : nb ≤ 8) : Ct G M_X6_countSwinging [.ref 38] (SH, mm, lm) false (.inl (some (.int (nI (cntN (fun k => decide (¬ mm (23 + k) 5 ≤ 0)) nb))))) (SH, mm, lm) false 0 0 := by
  refine CJ (bX6_countSwinging_0 ?_)
  refine loop_up (n := nb) (P := fun k => J G M_X6_countSwinging 4 [(0, .ref 38), (1, .int (nI (cntN (fun k => decide (¬ mm (23 + k) 5 ≤ 0)) k))), (2, .int (nI k))] [] (SH, mm, lm) false _ _ false 0 0) ?_ ?_ 0 (Nat.zero_le _)
  · exact bX6_countSwinging_4 ⟨fun _ => ⟨rfl, rfl⟩, fun h => absurd (le_nI' hnb) h⟩
  · intro k hk ih
    refine bX6_countSwinging_4 ⟨fun h => absurd h (le_nI hnb hk (by omega)), fun _ => ⟨k, rfl, by omega, _, c_swings (sh_b23 (by omega)), fun h => ?_, fun h => ?_⟩⟩
    · have e : decide (¬ mm (23 + k) 5 ≤ 0) = false := decide_eq_false (bI_0.mp h)
      rw [cntN_f (p := fun k => decide (¬ mm (23 + k) 5 ≤ 0)) e] at ih
      rw [nI_1]; exact ih
    · have e : decide (¬ mm (23 + k) 5 ≤ 0) = true := decide_eq_true (bI_1.mp h)
      rw [cntN_t (p := fun k => decide (¬ mm (23 + k) 5 ≤ 0)) e] at ih
      rw [nI_1, nI_1]; exact ih
theorem c_offsetOfSwing (p d a : Int32) : Ct G M_X6_offsetOfSwing [.int p, .int d, .int a] (SH, mm, lm) false (.inl (some (.int (ofs p d a)))) (SH, mm, lm) false 0 0 := by
  have nz : 0 < p → ¬ p = 0 := fun h e => by rw [e] at h; exact absurd h (by decide)
  refine CJ (bX6_offsetOfSwing_0 ⟨fun h => ?_, fun h => ⟨fun h2 => ⟨nz h2, fun h3 => ⟨fun h4 => ⟨nz h2, ?_⟩, fun h4 => ⟨nz h2, ?_⟩⟩, fun h3 => ⟨nz h2, ?_⟩⟩, fun h2 => ?_⟩⟩)
  · rw [ofs, if_pos h]; exact ⟨rfl, rfl⟩
  · rw [ofs, if_neg h, if_pos h2, if_pos h3, if_pos h4]; exact ⟨rfl, rfl⟩
  · rw [ofs, if_neg h, if_pos h2, if_pos h3, if_neg h4]; exact ⟨rfl, rfl⟩
  · rw [ofs, if_neg h, if_pos h2, if_neg h3]; exact ⟨rfl, rfl⟩
  · rw [ofs, if_neg h, if_neg h2]; exact ⟨rfl, rfl⟩
/-- the offset of bell k at the tick t -/
def ofK (mm : Nat → Nat → Int32) (k : Nat) (t : Int32) : Int32 := ofs (mm 9 k) (t - mm (23 + k) 4) (mm (23 + k) 5)
theorem c_offsetOf {k : Nat} (hk : k < 8) (t : Int32) : Ct G M_X6_offsetOf [.ref 38, .int (nI k), .int t] (SH, mm, lm) false (.inl (some (.int (ofK mm k t)))) (SH, mm, lm) false 0 0 :=
  CJ (bX6_offsetOf_0 ⟨k, rfl, hk, k, rfl, hk, _, c_offsetOfSwing _ _ _, rfl, rfl⟩)
def spK (mm : Nat → Nat → Int32) (k : Nat) (t : Int32) : Int32 := mm (23 + k) 1 + ofK mm k t
theorem c_spotOf {k : Nat} (hk : k < 8) (t : Int32) : Ct G M_X6_spotOf [.ref 38, .int (nI k), .int t] (SH, mm, lm) false (.inl (some (.int (spK mm k t)))) (SH, mm, lm) false 0 0 :=
  CJ (bX6_spotOf_0 ⟨k, rfl, hk, _, c_offsetOf hk t, rfl, rfl⟩)
/-- the gap of the bells k and o, d apart -/
def gaS (mm : Nat → Nat → Int32) (k o : Nat) (d : Int32) : Int32 := if mm (23 + k) 1 ≤ mm (23 + o) 1 then -d - mm 8 k - mm 8 o else d - mm 8 k - mm 8 o
theorem c_gapOfSpots {k o : Nat} (hk : k < 8) (ho : o < 8) (d : Int32) : Ct G M_X6_gapOfSpots [.ref 38, .int (nI k), .int (nI o), .int d] (SH, mm, lm) false (.inl (some (.int (gaS mm k o d)))) (SH, mm, lm) false 0 0 := by
  refine CJ (bX6_gapOfSpots_0 ⟨k, rfl, hk, o, rfl, ho, fun h => ⟨k, rfl, hk, o, rfl, ho, ?_⟩, fun h => ⟨k, rfl, hk, o, rfl, ho, ?_⟩⟩)
  · rw [gaS, if_pos h]; exact ⟨rfl, rfl⟩
  · rw [gaS, if_neg h]; exact ⟨rfl, rfl⟩
theorem c_gapBetween {k o : Nat} (hk : k < 8) (ho : o < 8) (t : Int32) : Ct G M_X6_gapBetween [.ref 38, .int (nI k), .int (nI o), .int t] (SH, mm, lm) false (.inl (some (.int (gaS mm k o (spK mm k t - spK mm o t))))) (SH, mm, lm) false 0 0 :=
  CJ (bX6_gapBetween_0 ⟨_, c_spotOf hk t, _, c_spotOf ho t, _, c_gapOfSpots hk ho _, rfl, rfl⟩)
/-- the bells k and o collide at t -/
def colB (mm : Nat → Nat → Int32) (t : Int32) (k o : Nat) : Bool := decide ((¬ mm (23 + k) 0 = -1 ∧ mm (23 + k) 0 = mm (23 + o) 0) ∧ gaS mm k o (spK mm k t - spK mm o t) < 0)
theorem eqR_ofK {mm mm' : Nat → Nat → Int32} (h : EqR mm mm') {k : Nat} (hk : k < 8) (t : Int32) : ofK mm' k t = ofK mm k t := by
  simp only [ofK, h _ _ (rel_b hk), h 9 k rfl]
theorem eqR_spK {mm mm' : Nat → Nat → Int32} (h : EqR mm mm') {k : Nat} (hk : k < 8) (t : Int32) : spK mm' k t = spK mm k t := by
  simp only [spK, eqR_ofK h hk, h _ _ (rel_b hk)]
theorem eqR_gaS {mm mm' : Nat → Nat → Int32} (h : EqR mm mm') {k o : Nat} (hk : k < 8) (ho : o < 8) (d : Int32) : gaS mm' k o d = gaS mm k o d := by
  simp only [gaS, h _ _ (rel_b hk), h _ _ (rel_b ho), h 8 k rfl, h 8 o rfl]
theorem c_pairCollidingAt (hnb : mm 4 9 = nI nb) (h8 : nb ≤ 8) (t : Int32) : ∃ mm', EqR mm mm' ∧ Ct G M_X6_pairCollidingAt [.ref 38, .int t] (SH, mm, lm) false (.inl (some (.int (pairV (pairF (colB mm t) nb nb 0))))) (SH, mm', lm) false 0 0 := by
  have key := loop_up (n := nb) (P := fun k => ∀ m, EqR mm m → (∀ i, i < k → m 41 i = spK mm i t) → ∃ mm', EqR mm mm' ∧ J G M_X6_pairCollidingAt 2 [(0, .ref 38), (1, .int t), (2, .int (nI k))] [] (SH, m, lm) false (.inl (some (.int (pairV (pairF (colB mm t) nb nb 0))))) (SH, mm', lm) false 0 0) ?_ ?_ 0 (Nat.zero_le _) mm EqR.refl (fun i hi => absurd hi (Nat.not_lt_zero i))
  · obtain ⟨mm', h1, h2⟩ := key
    exact ⟨mm', h1, CJ (bX6_pairCollidingAt_0 h2)⟩
  · intro m hm hs
    have hnb' : m 4 9 = nI nb := (hm 4 9 rfl).trans hnb
    refine ⟨m, hm, bX6_pairCollidingAt_2 ⟨fun _ => ?_, fun h => absurd (le_nI' hnb') h⟩⟩
    have key := loop_up (n := nb) (P := fun l => J G M_X6_pairCollidingAt 33 [(0, .ref 38), (2, .int (nI l))] [] (SH, m, lm) false (.inl (some (.int (pairV (pairF (colB mm t) nb (nb - l) l))))) (SH, m, lm) false 0 0) ?_ ?_ 0 (Nat.zero_le _)
    · exact key
    · refine bX6_pairCollidingAt_33 ⟨fun _ => ?_, fun h => absurd (le_nI' hnb') h⟩
      rw [Nat.sub_self]; exact ⟨rfl, rfl⟩
    · intro l hl ih
      refine bX6_pairCollidingAt_33 ⟨fun h => absurd h (le_nI hnb' hl (by omega)), fun _ => ?_⟩
      rw [nI_1]
      have inner := loop_up (n := nb) (P := fun x => l + 1 ≤ x → J G M_X6_pairCollidingAt 48 [(0, .ref 38), (2, .int (nI l)), (3, .int (nI x))] [] (SH, m, lm) false (.inl (some (.int (match nextN (colB mm t l) (nb - x) x with
          | some h => 8 * nI l + nI h
          | none => pairV (pairF (colB mm t) nb (nb - (l + 1)) (l + 1)))))) (SH, m, lm) false 0 0) ?_ ?_ (l + 1) hl (Nat.le_refl _)
      · have e : pairV (pairF (colB mm t) nb (nb - l) l) = (match nextN (colB mm t l) (nb - (l + 1)) (l + 1) with
          | some h => 8 * nI l + nI h
          | none => pairV (pairF (colB mm t) nb (nb - (l + 1)) (l + 1))) := by
          rw [show nb - l = (nb - (l + 1)) + 1 by omega]
          simp only [pairF]
          cases nextN (colB mm t l) (nb - (l + 1)) (l + 1) <;> rfl
        rw [e]; exact inner
      · intro _
        refine bX6_pairCollidingAt_48 ⟨fun _ => ?_, fun h => absurd (le_nI' hnb') h⟩
        rw [Nat.sub_self, nI_1]; exact ih
      · intro x hx ih2 hlx
        have hg := c_gapOfSpots (G := G) (mm := m) (lm := lm) (k := l) (o := x) (by omega) (by omega) (m 41 l - m 41 x)
        rw [hs l hl, hs x hx, eqR_gaS hm (by omega) (by omega)] at hg
        rw [show nb - x = (nb - (x + 1)) + 1 by omega]
        refine bX6_pairCollidingAt_48 ⟨fun h => absurd h (le_nI hnb' hx (by omega)), fun _ => ⟨l, rfl, by omega, x, rfl, by omega, _, c_shares (sh_b23 (by omega)) (sh_b23 (by omega)), fun h => ?_, fun h => ⟨l, rfl, by omega, x, rfl, by omega, gaS mm l x (spK mm l t - spK mm x t), by rw [hs l hl, hs x hx]; exact hg, fun h2 => ?_, fun h2 => ?_⟩⟩⟩
        · have e : colB mm t l x = false := decide_eq_false fun z => bI_0.mp h (by rw [hm _ _ (rel_b (by omega)), hm _ _ (rel_b (by omega))]; exact z.1)
          rw [nI_1]; simpa [nextN, e] using ih2 (by omega)
        · have e : colB mm t l x = false := decide_eq_false fun z => absurd h2 (Int32.not_le.mpr z.2)
          rw [nI_1]; simpa [nextN, e] using ih2 (by omega)
        · have hh := bI_1.mp h
          rw [hm _ _ (rel_b (by omega)), hm _ _ (rel_b (by omega))] at hh
          have e : colB mm t l x = true := decide_eq_true ⟨hh, Int32.not_le.mp h2⟩
          simp [nextN, e]
  · intro k hk ih m hm hs
    have hnb' : m 4 9 = nI nb := (hm 4 9 rfl).trans hnb
    obtain ⟨mm', h1, h2⟩ := ih (mset m 41 k (spK mm k t)) (hm.mset rfl) (fun i hi => by
      by_cases hik : i = k
      · subst hik; exact mset_eq
      · rw [mset_ne2 (fun z => hik z.2)]; exact hs i (by omega))
    refine ⟨mm', h1, bX6_pairCollidingAt_2 ⟨fun h => absurd h (le_nI hnb' hk (by omega)), fun _ => ⟨_, c_spotOf (by omega) t, k, rfl, by omega, ?_⟩⟩⟩
    rw [eqR_spK hm (by omega), nI_1]
    exact h2
theorem eqR_colB {mm mm' : Nat → Nat → Int32} (h : EqR mm mm') {k o : Nat} (hk : k < 8) (ho : o < 8) (t : Int32) : colB mm' t k o = colB mm t k o := by
  simp only [colB, h _ _ (rel_b hk), h _ _ (rel_b ho), eqR_spK h hk, eqR_spK h ho, eqR_gaS h hk ho]
/-- the first tick at which a pair collides -/
def tickB (mm : Nat → Nat → Int32) (nb t : Nat) : Bool := (pairF (colB mm (nI t)) nb nb 0).isSome
theorem c_tickOfCollision (hnb : mm 4 9 = nI nb) (h8 : nb ≤ 8) : ∃ mm', EqR mm mm' ∧ Ct G M_X6_tickOfCollision [.ref 38] (SH, mm, lm) false (.inl (some (.int (opI (nextN (tickB mm nb) 1000 0) (-1))))) (SH, mm', lm) false 0 0 := by
  have key := loop_up (n := 1000) (P := fun k => ∀ m, EqR mm m → ∃ mm', EqR mm mm' ∧ J G M_X6_tickOfCollision 2 [(0, .ref 38), (1, .int (nI k))] [] (SH, m, lm) false (.inl (some (.int (opI (nextN (tickB mm nb) (1000 - k) k) (-1))))) (SH, mm', lm) false 0 0) ?_ ?_ 0 (Nat.zero_le _) mm EqR.refl
  · obtain ⟨mm', h1, h2⟩ := key
    exact ⟨mm', h1, CJ (bX6_tickOfCollision_0 h2)⟩
  · intro m hm
    exact ⟨m, hm, bX6_tickOfCollision_2 ⟨fun _ => ⟨rfl, rfl⟩, fun h => absurd (lit_le (n := 1000) rfl) h⟩⟩
  · intro k hk ih m hm
    obtain ⟨m1, e1, ct⟩ := c_pairCollidingAt (G := G) (lm := lm) ((hm 4 9 rfl).trans hnb) h8 (nI k)
    rw [pairF_congr (fun a b ha hb => eqR_colB hm (by omega) (by omega) (nI k)) (by omega)] at ct
    rw [show 1000 - k = (1000 - (k + 1)) + 1 by omega]
    cases hp : pairF (colB mm (nI k)) nb nb 0 with
    | none =>
      obtain ⟨mm', h1, h2⟩ := ih m1 (hm.trans e1)
      have e : tickB mm nb k = false := by simp [tickB, hp]
      rw [hp] at ct
      refine ⟨mm', h1, bX6_tickOfCollision_2 ⟨fun h => absurd h (lit_ge (n := 1000) rfl hk (by omega)), fun _ => ⟨_, m1, ct, fun _ => ?_, fun h => absurd rfl h⟩⟩⟩
      rw [nI_1]; simpa [nextN, e] using h2
    | some q =>
      obtain ⟨a, b⟩ := q
      obtain ⟨ha, hb⟩ := pairF_lt (by omega) hp
      have e : tickB mm nb k = true := by simp [tickB, hp]
      rw [hp, pairV_nI] at ct
      refine ⟨m1, hm.trans e1, bX6_tickOfCollision_2 ⟨fun h => absurd h (lit_ge (n := 1000) rfl hk (by omega)), fun _ => ⟨_, m1, ct, fun h => absurd h (nI_ne_neg (by omega)), fun _ => ?_⟩⟩⟩
      simp [nextN, e, opI]
/-- the swing p, s, a leaves the bell j clear of the bell o at t: from its place, within what is left -/
def okO (mm : Nat → Nat → Int32) (j o : Nat) (t x : Int32) : Prop := if mm (23 + j) 1 ≤ mm (23 + o) 1 then x ≤ (spK mm o t - mm (23 + j) 1) - (mm 8 j + mm 8 o) else (spK mm o t - mm (23 + j) 1) + (mm 8 j + mm 8 o) ≤ x
theorem eqR_okO {mm mm' : Nat → Nat → Int32} (h : EqR mm mm') {j o : Nat} (hj : j < 8) (ho : o < 8) (t x : Int32) : okO mm' j o t x ↔ okO mm j o t x := by
  simp only [okO, h _ _ (rel_b hj), h _ _ (rel_b ho), eqR_spK h ho, h 8 j rfl, h 8 o rfl]
theorem max_le {a b x : Int32} : (if a < b then b else a) ≤ x ↔ a ≤ x ∧ b ≤ x := by
  by_cases h : a < b
  · rw [if_pos h]; exact ⟨fun q => ⟨Int32.le_trans (Int32.le_of_lt h) q, q⟩, fun q => q.2⟩
  · rw [if_neg h]; exact ⟨fun q => ⟨q, Int32.le_trans (Int32.not_lt.mp h) q⟩, fun q => q.1⟩
theorem le_min {a b x : Int32} : x ≤ (if b < a then b else a) ↔ x ≤ a ∧ x ≤ b := by
  by_cases h : b < a
  · rw [if_pos h]; exact ⟨fun q => ⟨Int32.le_trans q (Int32.le_of_lt h), q⟩, fun q => q.2⟩
  · rw [if_neg h]; exact ⟨fun q => ⟨q, Int32.le_trans q (Int32.not_lt.mp h)⟩, fun q => q.1⟩
theorem c_narrowRoom {j o : Nat} (hj : j < 8) (ho : o < 8) : ∃ mm', EqR mm mm' ∧ (∀ t, t < 1000 → ∀ x, (mm' 39 t ≤ x ∧ x ≤ mm' 40 t) ↔ ((mm 39 t ≤ x ∧ x ≤ mm 40 t) ∧ okO mm j o (nI t) x)) ∧ Ct G M_X6_narrowRoom [.ref 38, .int (nI j), .int (nI o)] (SH, mm, lm) false (.inl none) (SH, mm', lm) false 0 0 := by
  have key : ∀ below : Int32, (below = 0 ↔ mm (23 + j) 1 ≤ mm (23 + o) 1) → ∃ mm', EqR mm mm' ∧ (∀ t, t < 1000 → ∀ x, (mm' 39 t ≤ x ∧ x ≤ mm' 40 t) ↔ ((mm 39 t ≤ x ∧ x ≤ mm 40 t) ∧ okO mm j o (nI t) x)) ∧ J G M_X6_narrowRoom 54 [(0, .ref 38), (2, .int (nI o)), (3, .int (mm (23 + j) 1)), (4, .int (mm 8 j + mm 8 o)), (5, .int below), (6, .int 0)] [] (SH, mm, lm) false (.inl none) (SH, mm', lm) false 0 0 := by
    intro below hb
    refine loop_up (n := 1000) (P := fun k => ∀ m, EqR mm m → (∀ t, t < k → ∀ x, (m 39 t ≤ x ∧ x ≤ m 40 t) ↔ ((mm 39 t ≤ x ∧ x ≤ mm 40 t) ∧ okO mm j o (nI t) x)) → (∀ t, k ≤ t → m 39 t = mm 39 t ∧ m 40 t = mm 40 t) → ∃ mm', EqR mm mm' ∧ (∀ t, t < 1000 → ∀ x, (mm' 39 t ≤ x ∧ x ≤ mm' 40 t) ↔ ((mm 39 t ≤ x ∧ x ≤ mm 40 t) ∧ okO mm j o (nI t) x)) ∧ J G M_X6_narrowRoom 54 [(0, .ref 38), (2, .int (nI o)), (3, .int (mm (23 + j) 1)), (4, .int (mm 8 j + mm 8 o)), (5, .int below), (6, .int (nI k))] [] (SH, m, lm) false (.inl none) (SH, mm', lm) false 0 0) ?_ ?_ 0 (Nat.zero_le _) mm EqR.refl (fun t ht => absurd ht (Nat.not_lt_zero t)) (fun _ _ => ⟨rfl, rfl⟩)
    · intro m hm h1 _
      exact ⟨m, hm, h1, bX6_narrowRoom_54 ⟨fun _ => ⟨rfl, rfl⟩, fun h => absurd (lit_le (n := 1000) rfl) h⟩⟩
    · intro k hk ih m hm h1 h2
      have hsp := c_spotOf (G := G) (mm := m) (lm := lm) ho (nI k)
      rw [eqR_spK hm ho] at hsp
      by_cases hz : below = 0
      · have hle := hb.mp hz
        obtain ⟨mm', q1, q2, q3⟩ := ih (mset m 40 k (if (spK mm o (nI k) - mm (23 + j) 1) - (mm 8 j + mm 8 o) < m 40 k then (spK mm o (nI k) - mm (23 + j) 1) - (mm 8 j + mm 8 o) else m 40 k)) (hm.mset rfl) (fun t ht x => by
          by_cases htk : t = k
          · subst htk
            rw [mset_eq, mset_ne (by decide), le_min, (h2 t (Nat.le_refl _)).1, (h2 t (Nat.le_refl _)).2]
            simp only [okO, if_pos hle, and_assoc]
          · rw [mset_ne (show (39 : Nat) ≠ 40 by decide), mset_ne2 (fun z => htk z.2)]; exact h1 t (by omega) x) (fun t ht => by
          rw [mset_ne (show (39 : Nat) ≠ 40 by decide), mset_ne2 (fun z => by omega)]; exact h2 t (by omega))
        refine ⟨mm', q1, q2, bX6_narrowRoom_54 ⟨fun h => absurd h (lit_ge (n := 1000) rfl hk (by omega)), fun _ => ⟨_, hsp, fun _ => ⟨k, rfl, hk, _, c_min _ _, k, rfl, hk, ?_⟩, fun h => absurd hz h⟩⟩⟩
        rw [nI_1]; exact q3
      · have hle : ¬ mm (23 + j) 1 ≤ mm (23 + o) 1 := fun z => hz (hb.mpr z)
        obtain ⟨mm', q1, q2, q3⟩ := ih (mset m 39 k (if m 39 k < (spK mm o (nI k) - mm (23 + j) 1) + (mm 8 j + mm 8 o) then (spK mm o (nI k) - mm (23 + j) 1) + (mm 8 j + mm 8 o) else m 39 k)) (hm.mset rfl) (fun t ht x => by
          by_cases htk : t = k
          · subst htk
            rw [mset_eq, mset_ne (show (40 : Nat) ≠ 39 by decide), max_le, (h2 t (Nat.le_refl _)).1, (h2 t (Nat.le_refl _)).2]
            simp only [okO, if_neg hle]
            exact ⟨fun q => ⟨⟨q.1.1, q.2⟩, q.1.2⟩, fun q => ⟨⟨q.1.1, q.2⟩, q.1.2⟩⟩
          · rw [mset_ne2 (fun z => htk z.2), mset_ne (show (40 : Nat) ≠ 39 by decide)]; exact h1 t (by omega) x) (fun t ht => by
          rw [mset_ne2 (fun z => by omega), mset_ne (show (40 : Nat) ≠ 39 by decide)]; exact h2 t (by omega))
        refine ⟨mm', q1, q2, bX6_narrowRoom_54 ⟨fun h => absurd h (lit_ge (n := 1000) rfl hk (by omega)), fun _ => ⟨_, hsp, fun h => absurd h hz, fun _ => ⟨k, rfl, hk, _, c_max _ _, k, rfl, hk, ?_⟩⟩⟩⟩
        rw [nI_1]; exact q3
  by_cases hle : mm (23 + j) 1 ≤ mm (23 + o) 1
  · obtain ⟨mm', h1, h2, h3⟩ := key 0 ⟨fun _ => hle, fun _ => rfl⟩
    exact ⟨mm', h1, h2, CJ (bX6_narrowRoom_0 ⟨j, rfl, hj, j, rfl, hj, o, rfl, ho, o, rfl, ho, fun _ => h3, fun h => absurd hle h⟩)⟩
  · obtain ⟨mm', h1, h2, h3⟩ := key 1 ⟨fun h => absurd h (by decide), fun h => absurd h hle⟩
    exact ⟨mm', h1, h2, CJ (bX6_narrowRoom_0 ⟨j, rfl, hj, j, rfl, hj, o, rfl, ho, o, rfl, ho, fun h => absurd h hle, fun _ => h3⟩)⟩
/-- the bell o hangs beside the bell j -/
abbrev besP (mm : Nat → Nat → Int32) (j o : Nat) : Prop := ¬ o = j ∧ ¬ mm (23 + o) 0 = -1 ∧ mm (23 + o) 0 = mm (23 + j) 0
theorem c_findRoom (hnb : mm 4 9 = nI nb) (h8 : nb ≤ 8) {j : Nat} (hj : j < 8) : ∃ mm', EqR mm mm' ∧ (∀ t, t < 1000 → ∀ x, (mm' 39 t ≤ x ∧ x ≤ mm' 40 t) ↔ ((-1000 ≤ x ∧ x ≤ 1000) ∧ ∀ o, o < nb → besP mm j o → okO mm j o (nI t) x)) ∧ Ct G M_X6_findRoom [.ref 38, .int (nI j)] (SH, mm, lm) false (.inl none) (SH, mm', lm) false 0 0 := by
  have key := loop_up (n := 1000) (P := fun k => ∀ m, EqR mm m → (∀ t, t < k → m 39 t = -1000 ∧ m 40 t = 1000) → ∃ mm', EqR mm mm' ∧ (∀ t, t < 1000 → ∀ x, (mm' 39 t ≤ x ∧ x ≤ mm' 40 t) ↔ ((-1000 ≤ x ∧ x ≤ 1000) ∧ ∀ o, o < nb → besP mm j o → okO mm j o (nI t) x)) ∧ J G M_X6_findRoom 2 [(0, .ref 38), (1, .int (nI j)), (2, .int (nI k))] [] (SH, m, lm) false (.inl none) (SH, mm', lm) false 0 0) ?_ ?_ 0 (Nat.zero_le _) mm EqR.refl (fun t ht => absurd ht (Nat.not_lt_zero t))
  · obtain ⟨mm', h1, h2, h3⟩ := key
    exact ⟨mm', h1, h2, CJ (bX6_findRoom_0 h3)⟩
  · intro m hm h1
    have key2 := loop_up (n := nb) (P := fun k => ∀ m, EqR mm m → (∀ t, t < 1000 → ∀ x, (m 39 t ≤ x ∧ x ≤ m 40 t) ↔ ((-1000 ≤ x ∧ x ≤ 1000) ∧ ∀ o, o < k → besP mm j o → okO mm j o (nI t) x)) → ∃ mm', EqR mm mm' ∧ (∀ t, t < 1000 → ∀ x, (mm' 39 t ≤ x ∧ x ≤ mm' 40 t) ↔ ((-1000 ≤ x ∧ x ≤ 1000) ∧ ∀ o, o < nb → besP mm j o → okO mm j o (nI t) x)) ∧ J G M_X6_findRoom 35 [(0, .ref 38), (1, .int (nI j)), (2, .int (nI k))] [] (SH, m, lm) false (.inl none) (SH, mm', lm) false 0 0) ?_ ?_ 0 (Nat.zero_le _) m hm (fun t ht x => by
      rw [(h1 t ht).1, (h1 t ht).2]
      exact ⟨fun q => ⟨q, fun o ho => absurd ho (Nat.not_lt_zero o)⟩, fun q => q.1⟩)
    · obtain ⟨mm', q1, q2, q3⟩ := key2
      exact ⟨mm', q1, q2, bX6_findRoom_2 ⟨fun _ => q3, fun h => absurd (lit_le (n := 1000) rfl) h⟩⟩
    · intro m hm h2
      exact ⟨m, hm, h2, bX6_findRoom_35 ⟨fun _ => ⟨rfl, rfl⟩, fun h => absurd (le_nI' ((hm 4 9 rfl).trans hnb)) h⟩⟩
    · intro k hk ih m hm h2
      have hnb' : m 4 9 = nI nb := (hm 4 9 rfl).trans hnb
      have skip : ¬ besP mm j k → ∀ t, t < 1000 → ∀ x, (m 39 t ≤ x ∧ x ≤ m 40 t) ↔ ((-1000 ≤ x ∧ x ≤ 1000) ∧ ∀ o, o < k + 1 → besP mm j o → okO mm j o (nI t) x) := fun hn t ht x => by
        rw [h2 t ht x]
        refine ⟨fun q => ⟨q.1, fun o ho hb => ?_⟩, fun q => ⟨q.1, fun o ho hb => q.2 o (by omega) hb⟩⟩
        by_cases hok : o = k
        · rw [hok] at hb; exact absurd hb hn
        · exact q.2 o (by omega) hb
      by_cases hkj : k = j
      · obtain ⟨mm', q1, q2, q3⟩ := ih m hm (skip fun z => z.1 hkj)
        refine ⟨mm', q1, q2, bX6_findRoom_35 ⟨fun h => absurd h (le_nI hnb' hk (by omega)), fun _ => ⟨fun _ => ?_, fun h => absurd (by rw [hkj]) h⟩⟩⟩
        rw [nI_1]; exact q3
      · have hkj' : ¬ nI k = nI j := fun e => hkj ((nI_inj8 (by omega) (by omega)).mp e)
        have hsh := c_shares (G := G) (mm := m) (lm := lm) (sh_b23 (j := k) (by omega)) (sh_b23 hj)
        by_cases hb : besP mm j k
        · obtain ⟨m1, e1, r1, ct⟩ := c_narrowRoom (G := G) (mm := m) (lm := lm) hj (o := k) (by omega)
          obtain ⟨mm', q1, q2, q3⟩ := ih m1 (hm.trans e1) (fun t ht x => by
            rw [r1 t ht x, h2 t ht x, eqR_okO hm hj (by omega)]
            refine ⟨fun q => ⟨q.1.1, fun o ho hb2 => ?_⟩, fun q => ⟨⟨q.1, fun o ho hb2 => q.2 o (by omega) hb2⟩, q.2 k (by omega) hb⟩⟩
            by_cases hok : o = k
            · rw [hok]; exact q.2
            · exact q.1.2 o (by omega) hb2)
          refine ⟨mm', q1, q2, bX6_findRoom_35 ⟨fun h => absurd h (le_nI hnb' hk (by omega)), fun _ => ⟨fun h => absurd h hkj', fun _ => ⟨k, rfl, by omega, j, rfl, hj, _, hsh, fun h => absurd (by rw [hm _ _ (rel_b (by omega)), hm _ _ (rel_b hj)]; exact hb.2) (bI_0.mp h), fun _ => ⟨m1, ct, ?_⟩⟩⟩⟩⟩
          rw [nI_1]; exact q3
        · obtain ⟨mm', q1, q2, q3⟩ := ih m hm (skip hb)
          refine ⟨mm', q1, q2, bX6_findRoom_35 ⟨fun h => absurd h (le_nI hnb' hk (by omega)), fun _ => ⟨fun h => absurd h hkj', fun _ => ⟨k, rfl, by omega, j, rfl, hj, _, hsh, fun _ => ?_, fun h => absurd ⟨hkj, by have z := bI_1.mp h; rw [hm _ _ (rel_b (by omega)), hm _ _ (rel_b hj)] at z; exact z⟩ hb⟩⟩⟩⟩
          rw [nI_1]; exact q3
  · intro k hk ih m hm h1
    obtain ⟨mm', q1, q2, q3⟩ := ih (mset (mset m 39 k (-1000)) 40 k 1000) ((hm.mset rfl).mset rfl) (fun t ht => by
      by_cases htk : t = k
      · subst htk
        exact ⟨by rw [mset_ne (show (39 : Nat) ≠ 40 by decide), mset_eq], mset_eq⟩
      · rw [mset_ne (show (39 : Nat) ≠ 40 by decide), mset_ne2 (fun z => htk z.2), mset_ne2 (fun z => htk z.2), mset_ne (show (40 : Nat) ≠ 39 by decide)]
        exact h1 t (by omega))
    refine ⟨mm', q1, q2, bX6_findRoom_2 ⟨fun h => absurd h (lit_ge (n := 1000) rfl hk (by omega)), fun _ => ⟨k, rfl, hk, k, rfl, hk, ?_⟩⟩⟩
    rw [nI_1]; exact q3
/-- within what is left, at every tick -/
def stayB (mm : Nat → Nat → Int32) (j : Nat) (st am : Int32) (t : Nat) : Bool := decide (mm 39 t ≤ ofs (mm 9 j) (nI t - st) am ∧ ofs (mm 9 j) (nI t - st) am ≤ mm 40 t)
theorem c_staysInRoom {j : Nat} (hj : j < 8) (st am : Int32) : Ct G M_X6_staysInRoom [.ref 38, .int (nI j), .int st, .int am] (SH, mm, lm) false (.inl (some (.int (bI (allN (stayB mm j st am) 1000 = true))))) (SH, mm, lm) false 0 0 := by
  refine CJ (bX6_staysInRoom_0 ⟨j, rfl, hj, ?_⟩)
  refine loop_up (n := 1000) (P := fun k => allN (stayB mm j st am) k = true → J G M_X6_staysInRoom 14 [(0, .ref 38), (2, .int st), (3, .int am), (4, .int (mm 9 j)), (5, .int (nI k))] [] (SH, mm, lm) false _ _ false 0 0) ?_ ?_ 0 (Nat.zero_le _) rfl
  · exact fun hf => bX6_staysInRoom_14 ⟨fun _ => by rw [bI_t hf]; exact ⟨rfl, rfl⟩, fun h => absurd (lit_le (n := 1000) rfl) h⟩
  · intro k hk ih hf
    refine bX6_staysInRoom_14 ⟨fun h => absurd h (lit_ge (n := 1000) rfl hk (by omega)), fun _ => ⟨_, c_offsetOfSwing _ _ _, k, rfl, hk, fun h => ?_, fun h => ⟨k, rfl, hk, fun h2 => ?_, fun h2 => ?_⟩⟩⟩
    · rw [bI_f (allN_f hk (decide_eq_false fun z => absurd h (Int32.not_lt.mpr z.1)))]; exact ⟨rfl, rfl⟩
    · rw [nI_1]; exact ih (allN_s hf (decide_eq_true ⟨Int32.not_lt.mp h, h2⟩))
    · rw [bI_f (allN_f hk (decide_eq_false fun z => h2 z.2))]; exact ⟨rfl, rfl⟩
theorem c_leastSafeStart (hnb : mm 4 9 = nI nb) (h8 : nb ≤ 8) {j : Nat} (hj : j < 8) (am : Int32) : ∃ mr, EqR mm mr ∧ (∀ t, t < 1000 → ∀ x, (mr 39 t ≤ x ∧ x ≤ mr 40 t) ↔ ((-1000 ≤ x ∧ x ≤ 1000) ∧ ∀ o, o < nb → besP mm j o → okO mm j o (nI t) x)) ∧ Ct G M_X6_leastSafeStart [.ref 38, .int (nI j), .int am] (SH, mm, lm) false (.inl (some (.int (opI (nextN (fun s => allN (stayB mr j (nI s) am) 1000) 200 0) (-3))))) (SH, mr, lm) false 0 0 := by
  obtain ⟨mr, h1, h2, h3⟩ := c_findRoom (G := G) (lm := lm) hnb h8 hj
  refine ⟨mr, h1, h2, CJ (bX6_leastSafeStart_0 ⟨mr, h3, ?_⟩)⟩
  refine loop_up (n := 200) (P := fun s => J G M_X6_leastSafeStart 7 [(0, .ref 38), (1, .int (nI j)), (2, .int am), (3, .int (nI s))] [] (SH, mr, lm) false (.inl (some (.int (opI (nextN (fun s => allN (stayB mr j (nI s) am) 1000) (200 - s) s) (-3))))) (SH, mr, lm) false 0 0) ?_ ?_ 0 (Nat.zero_le _)
  · exact bX6_leastSafeStart_7 ⟨fun _ => ⟨rfl, rfl⟩, fun h => absurd (lit_le (n := 200) rfl) h⟩
  · intro s hs ih
    rw [show 200 - s = (200 - (s + 1)) + 1 by omega]
    refine bX6_leastSafeStart_7 ⟨fun h => absurd h (lit_ge (n := 200) rfl hs (by omega)), fun _ => ⟨_, c_staysInRoom hj _ _, fun h => ?_, fun h => ?_⟩⟩
    · have e : allN (stayB mr j (nI s) am) 1000 = false := Bool.eq_false_iff.mpr (bI_0.mp h)
      rw [nextN_f (p := fun s => allN (stayB mr j (nI s) am) 1000) e, nI_1]; exact ih
    · have e := bI_1.mp h
      rw [nextN_t (p := fun s => allN (stayB mr j (nI s) am) 1000) e]; exact ⟨rfl, rfl⟩
/-- down from amplitude a: the first that fits -/
def downF (p : Nat → Bool) : Nat → Int32
  | 0 => if p 0 then 0 else -3
  | a + 1 => if p (a + 1) then nI (a + 1) else downF p a
theorem downF_z {p : Nat → Bool} (h : p 0 = false) : downF p 0 = -3 := by simp [downF, h]
theorem downF_t {p : Nat → Bool} {a : Nat} (h : p a = true) : downF p a = nI a := by
  cases a <;> simp only [downF, h, if_true]
  rfl
theorem downF_s {p : Nat → Bool} {a : Nat} (h : p (a + 1) = false) : downF p (a + 1) = downF p a := by simp [downF, h]
theorem nI_dec (a : Nat) : nI (a + 1) + (-1) = nI a := by
  rw [← nI_pred a, Int32.sub_eq_add_neg]
theorem c_greatestSafeAmplitude (hnb : mm 4 9 = nI nb) (h8 : nb ≤ 8) {j : Nat} (hj : j < 8) : ∃ mr, EqR mm mr ∧ (∀ t, t < 1000 → ∀ x, (mr 39 t ≤ x ∧ x ≤ mr 40 t) ↔ ((-1000 ≤ x ∧ x ≤ 1000) ∧ ∀ o, o < nb → besP mm j o → okO mm j o (nI t) x)) ∧ Ct G M_X6_greatestSafeAmplitude [.ref 38, .int (nI j)] (SH, mm, lm) false (.inl (some (.int (downF (fun a => allN (stayB mr j (mm (23 + j) 4) (nI a)) 1000) 15)))) (SH, mr, lm) false 0 0 := by
  obtain ⟨mr, h1, h2, h3⟩ := c_findRoom (G := G) (lm := lm) hnb h8 hj
  refine ⟨mr, h1, h2, CJ (bX6_greatestSafeAmplitude_0 ⟨mr, h3, ?_⟩)⟩
  have e0 : mr (23 + j) 4 = mm (23 + j) 4 := h1 _ _ (rel_b hj)
  have key : ∀ a, a ≤ 15 → J G M_X6_greatestSafeAmplitude 8 [(0, .ref 38), (1, .int (nI j)), (2, .int (nI a))] [] (SH, mr, lm) false (.inl (some (.int (downF (fun a => allN (stayB mr j (mm (23 + j) 4) (nI a)) 1000) a)))) (SH, mr, lm) false 0 0 := by
    intro a
    induction a with
    | zero =>
      intro _
      refine bX6_greatestSafeAmplitude_8 ⟨fun h => absurd h (by decide), fun _ => ⟨j, rfl, hj, _, c_staysInRoom hj _ _, fun h => ?_, fun h => ?_⟩⟩
      · have e : allN (stayB mr j (mm (23 + j) 4) (nI 0)) 1000 = false := by rw [← e0]; exact Bool.eq_false_iff.mpr (bI_0.mp h)
        refine bX6_greatestSafeAmplitude_8 ⟨fun _ => ?_, fun h => absurd (by decide) h⟩
        rw [downF_z (p := fun a => allN (stayB mr j (mm (23 + j) 4) (nI a)) 1000) e]; exact ⟨rfl, rfl⟩
      · have e : allN (stayB mr j (mm (23 + j) 4) (nI 0)) 1000 = true := by rw [← e0]; exact bI_1.mp h
        rw [downF_t (p := fun a => allN (stayB mr j (mm (23 + j) 4) (nI a)) 1000) e]; exact ⟨rfl, rfl⟩
    | succ a ih =>
      intro ha
      refine bX6_greatestSafeAmplitude_8 ⟨fun h => absurd h (nI_pos (by omega)), fun _ => ⟨j, rfl, hj, _, c_staysInRoom hj _ _, fun h => ?_, fun h => ?_⟩⟩
      · have e : allN (stayB mr j (mm (23 + j) 4) (nI (a + 1))) 1000 = false := by rw [← e0]; exact Bool.eq_false_iff.mpr (bI_0.mp h)
        rw [nI_dec, downF_s (p := fun a => allN (stayB mr j (mm (23 + j) 4) (nI a)) 1000) e]; exact ih (by omega)
      · have e : allN (stayB mr j (mm (23 + j) 4) (nI (a + 1))) 1000 = true := by rw [← e0]; exact bI_1.mp h
        rw [downF_t (p := fun a => allN (stayB mr j (mm (23 + j) 4) (nI a)) 1000) e]; exact ⟨rfl, rfl⟩
  exact key 15 (Nat.le_refl _)
/-- strikes: period p, d ticks since the start -/
def strB (p d : Int32) : Bool := decide (¬ d < 0 ∧ 0 < p ∧ (d - d / p * p = p / 4 ∨ d - d / p * p = 3 * p / 4))
theorem c_strikesAt {j : Nat} (hj : j < 8) (t : Int32) : Ct G M_X6_strikesAt [.ref 38, .int (nI j), .int t] (SH, mm, lm) false (.inl (some (.int (bI (strB (mm 9 j) (t - mm (23 + j) 4) = true))))) (SH, mm, lm) false 0 0 := by
  have nz : 0 < mm 9 j → ¬ mm 9 j = 0 := fun h e => by rw [e] at h; exact absurd h (by decide)
  refine CJ (bX6_strikesAt_0 ⟨j, rfl, hj, j, rfl, hj, fun h => ?_, fun h => ⟨fun h2 => ⟨nz h2, fun h3 => ?_, fun h3 => ⟨fun h4 => ?_, fun h4 => ?_⟩⟩, fun h2 => ?_⟩⟩)
  · have e : strB (mm 9 j) (t - mm (23 + j) 4) = false := decide_eq_false fun z => z.1 h
    rw [bI_f (Bool.eq_false_iff.mp e)]; exact ⟨rfl, rfl⟩
  · have e : strB (mm 9 j) (t - mm (23 + j) 4) = true := decide_eq_true ⟨h, h2, Or.inl h3⟩
    rw [bI_t e]; exact ⟨rfl, rfl⟩
  · have e : strB (mm 9 j) (t - mm (23 + j) 4) = false := decide_eq_false fun z => z.2.2.elim h3 h4
    rw [bI_f (Bool.eq_false_iff.mp e)]; exact ⟨rfl, rfl⟩
  · have e : strB (mm 9 j) (t - mm (23 + j) 4) = true := decide_eq_true ⟨h, h2, Or.inr h4⟩
    rw [bI_t e]; exact ⟨rfl, rfl⟩
  · have e : strB (mm 9 j) (t - mm (23 + j) 4) = false := decide_eq_false fun z => h2 z.2.1
    rw [bI_f (Bool.eq_false_iff.mp e)]; exact ⟨rfl, rfl⟩
/-- counted from f, d of them -/
def cntF (p : Nat → Bool) : Nat → Nat → Nat
  | 0, _ => 0
  | d + 1, f => (if p f then 1 else 0) + cntF p d (f + 1)
theorem c_countStrikes {j : Nat} (hj : j < 8) {f e : Nat} (hfe : f ≤ e) (he : e ≤ 9999) : Ct G M_X6_countStrikes [.ref 38, .int (nI j), .int (nI f), .int (nI e)] (SH, mm, lm) false (.inl (some (.int (nI (cntF (fun t => strB (mm 9 j) (nI t - mm (23 + j) 4)) (e + 1 - f) f))))) (SH, mm, lm) false 0 0 := by
  refine CJ (bX6_countStrikes_0 ?_)
  have key := loop_up (n := e + 1) (P := fun t => ∀ c : Nat, J G M_X6_countStrikes 6 [(0, .ref 38), (1, .int (nI j)), (3, .int (nI e)), (4, .int (nI c)), (5, .int (nI t))] [] (SH, mm, lm) false (.inl (some (.int (nI (c + cntF (fun t => strB (mm 9 j) (nI t - mm (23 + j) 4)) (e + 1 - t) t))))) (SH, mm, lm) false 0 0) ?_ ?_ f (by omega) 0
  · rw [Nat.zero_add] at key; exact key
  · intro c
    refine bX6_countStrikes_6 ⟨fun _ => ?_, fun h => absurd (nI_lt (Nat.lt_succ_self e) (by omega)) h⟩
    rw [Nat.sub_self]; exact ⟨rfl, rfl⟩
  · intro t ht ih c
    rw [show e + 1 - t = (e + 1 - (t + 1)) + 1 by omega]
    refine bX6_countStrikes_6 ⟨fun h => absurd h (nI_nlt (by omega) (by omega)), fun _ => ⟨fun h => absurd h (by rw [show (9999 : Int32) = nI 9999 from rfl]; exact nI_nlt (by omega) (by omega)), fun _ => ⟨_, c_strikesAt hj _, fun h => ?_, fun h => ?_⟩⟩⟩
    · have e1 : strB (mm 9 j) (nI t - mm (23 + j) 4) = false := Bool.eq_false_iff.mpr (bI_0.mp h)
      have q := ih c
      rw [nI_1]; simpa [cntF, e1] using q
    · have e1 := bI_1.mp h
      have q := ih (c + 1)
      rw [nI_1, nI_1]; simpa [cntF, e1, Nat.add_assoc] using q
theorem c_firstCommonStrike {j o : Nat} (hj : j < 8) (ho : o < 8) : Ct G M_X6_firstCommonStrike [.ref 38, .int (nI j), .int (nI o)] (SH, mm, lm) false (.inl (some (.int (opI (nextN (fun t => strB (mm 9 j) (nI t - mm (23 + j) 4) && strB (mm 9 o) (nI t - mm (23 + o) 4)) 10000 0) (-3))))) (SH, mm, lm) false 0 0 := by
  refine CJ (bX6_firstCommonStrike_0 ?_)
  refine loop_up (n := 10000) (P := fun t => J G M_X6_firstCommonStrike 2 [(0, .ref 38), (1, .int (nI j)), (2, .int (nI o)), (3, .int (nI t))] [] (SH, mm, lm) false (.inl (some (.int (opI (nextN (fun t => strB (mm 9 j) (nI t - mm (23 + j) 4) && strB (mm 9 o) (nI t - mm (23 + o) 4)) (10000 - t) t) (-3))))) (SH, mm, lm) false 0 0) ?_ ?_ 0 (Nat.zero_le _)
  · exact bX6_firstCommonStrike_2 ⟨fun _ => ⟨rfl, rfl⟩, fun h => absurd (by decide) h⟩
  · intro t ht ih
    rw [show 10000 - t = (10000 - (t + 1)) + 1 by omega]
    refine bX6_firstCommonStrike_2 ⟨fun h => absurd h (by rw [show (9999 : Int32) = nI 9999 from rfl]; exact nI_nlt (by omega) (by omega)), fun _ => ⟨_, c_strikesAt hj _, fun h => ?_, fun h => ⟨_, c_strikesAt ho _, fun h2 => ?_, fun h2 => ?_⟩⟩⟩
    · have e : strB (mm 9 j) (nI t - mm (23 + j) 4) = false := Bool.eq_false_iff.mpr (bI_0.mp h)
      rw [nI_1]; simpa [nextN, e] using ih
    · have e : strB (mm 9 o) (nI t - mm (23 + o) 4) = false := Bool.eq_false_iff.mpr (bI_0.mp h2)
      rw [nI_1]; simpa [nextN, e] using ih
    · have e1 := bI_1.mp h
      have e2 := bI_1.mp h2
      simp [nextN, e1, e2, opI]
end Swings
