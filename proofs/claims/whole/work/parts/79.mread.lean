/-! ===== the reference reads the text ===== -/
def dpb : Nat → Nat
  | 0 => 0
  | 1 => 8
  | 2 => 32
  | _ => 44
/-- where the draft keeps number r of statement j -/
def dp (r j : Nat) : Nat := dpb (kd r) + cnT (kd r) * j + (r - bsT (kd r))
theorem dp_apart : ∀ k, k < 4 → ∀ d, d < moT k → ∀ r, r < 8 → ∀ j, j < (if kd r = k then d else moT (kd r)) → dp r j < dpb k + cnT k * d ∨ dpb k + cnT k * d + cnT k ≤ dp r j := by decide +kernel
theorem dp_lt : ∀ k, k < 4 → ∀ d, d < moT k → dpb k + cnT k * d + cnT k ≤ 64 := by decide +kernel
def M0 (m : Nat → Nat → Int32) : Prop := m 63 24 = 0 ∧ m 63 25 = -1
def ME (m : Nat → Nat → Int32) (c s : Nat) : Prop := (¬ c = 0 ∧ c < 5) ∧ m 63 24 = nI c ∧ m 63 25 = nI s
def FrL (m m' : Nat → Nat → Int32) : Prop := (∀ c, c ≠ 63 → m' c = m c) ∧ ∀ j, j < 20 ∨ 25 < j → m' 63 j = m 63 j
def FrB (k po : Nat) (m m' : Nat → Nat → Int32) : Prop := (∀ c, c ≠ 63 → c ≠ 75 → m' c = m c) ∧ (∀ j, j < 20 ∨ 25 < j → m' 63 j = m 63 j) ∧ ∀ j, j < po ∨ po + cnT k ≤ j → m' 75 j = m 75 j
def FrQ (m m' : Nat → Nat → Int32) : Prop := (∀ c, c ≠ 63 → c ≠ 75 → m' c = m c) ∧ ∀ j, j < 20 → m' 63 j = m 63 j
def DR (k : Nat) (m : Nat → Nat → Int32) (D : Dr) : Prop := (∀ j, j < 4 → (j ≤ k → m 63 (27 + j) = nI (D.1 j)) ∧ D.1 j ≤ moT j ∧ (k < j → D.1 j = 0)) ∧ ∀ r, r < 8 → ∀ j, j < D.1 (kd r) → m 75 (dp r j) = nI (D.2 r j)
/-- numbers of a statement of kind k are being read: m are left, i are read; Q is what comes out -/
def RS (b : Nat → Nat) (n k po p0 : Nat) (Q : Nat × Nat × (Nat → Nat)) (m i : Nat) (mm : Nat → Nat → Int32) : Prop :=
  (∃ p v, p0 ≤ p ∧ p ≤ n ∧ M0 mm ∧ MTk mm (tk b n p) ∧ Q = nums b n k m i p v ∧ ∀ x, x < i → mm 75 (po + x) = nI (v x) ∧ v x < 100000) ∨ (¬ Q.1 = 0 ∧ ME mm Q.1 Q.2.1)
/-- a statement of kind k may follow; F is what comes out of the whole text -/
def LTS (b : Nat → Nat) (n : Nat) (F : Nat × Nat × Dr) (f k : Nat) (mm : Nat → Nat → Int32) : Prop :=
  (∃ p D, p ≤ n ∧ n < (tk b n p).s + f ∧ M0 mm ∧ MTk mm (tk b n p) ∧ DR k mm D ∧ ((1 ≤ k → ¬ D.1 0 = 0) ∧ (2 ≤ k → ¬ D.1 1 = 0)) ∧ F = goT b n f k (tk b n p) D) ∨ (¬ F.1 = 0 ∧ ME mm F.1 F.2.1)
/-- no statement of kind k follows -/
def XS (b : Nat → Nat) (n : Nat) (F : Nat × Nat × Dr) (k : Nat) (mm : Nat → Nat → Int32) : Prop :=
  (∃ f p D, p ≤ n ∧ n < (tk b n p).s + f ∧ M0 mm ∧ MTk mm (tk b n p) ∧ DR k mm D ∧ ((1 ≤ k + 1 → ¬ D.1 0 = 0) ∧ (2 ≤ k + 1 → ¬ D.1 1 = 0)) ∧ F = goT b n f (k + 1) (tk b n p) D) ∨ (¬ F.1 = 0 ∧ ME mm F.1 F.2.1)
section MRead
variable {G : Gx} {mm m m' m'' base : Nat → Nat → Int32} {lm : Nat → Int64} {n : Nat} {b : Nat → Nat} {D : Dr} {F : Nat × Nat × Dr}
theorem ME.ne {c s : Nat} (h : ME m c s) : ¬ m 63 24 = 0 := by rw [h.2.1]; exact nI_ne0 (Nat.pos_of_ne_zero h.1.1) (by have := h.1.2; omega)
theorem FrM.l (h : FrM m m') : FrL m m' := ⟨h.1, fun j hj => h.2 j (by omega) (by omega) (by omega) (by omega)⟩
theorem FrM.m0 (h : FrM m m') (g : M0 m) : M0 m' := ⟨(h.2 24 (by decide) (by decide) (by decide) (by decide)).trans g.1, (h.2 25 (by decide) (by decide) (by decide) (by decide)).trans g.2⟩
theorem FrL.refl : FrL m m := ⟨fun _ _ => rfl, fun _ _ => rfl⟩
theorem FrL.trans (h : FrL m m') (g : FrL m' m'') : FrL m m'' := ⟨fun c hc => (g.1 c hc).trans (h.1 c hc), fun j hj => (g.2 j hj).trans (h.2 j hj)⟩
theorem FrB.refl {k po : Nat} : FrB k po m m := ⟨fun _ _ _ => rfl, fun _ _ => rfl, fun _ _ => rfl⟩
theorem FrB.l {k po : Nat} (h : FrB k po m m') (g : FrL m' m'') : FrB k po m m'' := ⟨fun c h1 h2 => (g.1 c h1).trans (h.1 c h1 h2), fun j hj => (g.2 j hj).trans (h.2.1 j hj), fun j hj => by rw [g.1 75 (by decide)]; exact h.2.2 j hj⟩
theorem FrB.st {k po i : Nat} {w : Int32} (h : FrB k po m m') (hi : i < cnT k) : FrB k po m (mset m' 75 (po + i) w) := ⟨fun c h1 h2 => by rw [mset_ne h2]; exact h.1 c h1 h2, fun j hj => by rw [mset_ne (by decide)]; exact h.2.1 j hj, fun j hj => by rw [mset_in (by omega)]; exact h.2.2 j hj⟩
theorem FrQ.refl : FrQ m m := ⟨fun _ _ _ => rfl, fun _ _ => rfl⟩
theorem FrQ.trans (h : FrQ m m') (g : FrQ m' m'') : FrQ m m'' := ⟨fun c h1 h2 => (g.1 c h1 h2).trans (h.1 c h1 h2), fun j hj => (g.2 j hj).trans (h.2 j hj)⟩
theorem FrL.q (h : FrL m m') : FrQ m m' := ⟨fun c h1 _ => h.1 c h1, fun j hj => h.2 j (Or.inl hj)⟩
theorem FrB.q {k po : Nat} (h : FrB k po m m') : FrQ m m' := ⟨h.1, fun j hj => h.2.1 j (Or.inl hj)⟩
theorem FrQ.set {j : Nat} {v : Int32} (h : FrQ m m') (hj : 20 ≤ j) : FrQ m (mset m' 63 j v) := ⟨fun c h1 h2 => by rw [mset_ne h1]; exact h.1 c h1 h2, fun i hi => by rw [mset_in (by omega)]; exact h.2 i hi⟩
theorem MB.l (h : MB m n b) (g : FrL m m') : MB m' n b := h.of (g.2 19 (by decide)) (g.1 74 (by decide))
theorem MB.toB {k po : Nat} (h : MB m n b) (g : FrB k po m m') : MB m' n b := h.of (g.2.1 19 (by decide)) (g.1 74 (by decide) (by decide))
theorem MB.q (h : MB m n b) (g : FrQ m m') : MB m' n b := h.of (g.2 19 (by decide)) (g.1 74 (by decide) (by decide))
theorem cm_fail {c s : Nat} (h0 : M0 mm) (h6 : mm 63 21 = nI s) (hc : ¬ c = 0) (h5 : c < 5) : ∃ m', FrL mm m' ∧ ME m' c s ∧ Ct G M_X10_fail [.ref 63, .int (nI c)] (SH, mm, lm) false (.inl none) (SH, m', lm) false 0 0 := by
  refine ⟨mset (mset mm 63 24 (nI c)) 63 25 (nI s), ⟨fun d d1 => by rw [mset_ne d1, mset_ne d1], fun j hj => by rw [mset_in (by omega), mset_in (by omega)]⟩, ⟨⟨hc, h5⟩, by rw [mset_in (by decide), mset_eq], mset_eq⟩, CJ (bX10_fail_0 ⟨_, cm_isFine, fun z => absurd h0.1 (bI_0.mp z), fun _ => ⟨rfl, ?_⟩⟩)⟩
  rw [mset_in (by decide), h6]
theorem cm_fail0 {x : Int32} (he : ¬ mm 63 24 = 0) : Ct G M_X10_fail [.ref 63, .int x] (SH, mm, lm) false (.inl none) (SH, mm, lm) false 0 0 :=
  CJ (bX10_fail_0 ⟨_, cm_isFine, fun _ => ⟨rfl, rfl⟩, fun z => absurd (bI_1.mp z) he⟩)
theorem rd_err {x1 x2 x3 : Int32} (he : ¬ mm 63 24 = 0) : Ct G M_X10_readAbove [.ref 63, .int x1, .int x2, .int x3] (SH, mm, lm) false (.inl (some (.int (mm 63 23)))) (SH, mm, lm) false 0 0 :=
  CJ (bX10_readAbove_0 ⟨fun _ => ⟨_, cm_in (x := mm 63 23) (l := x1) (g := x2) rfl rfl, fun _ => ⟨fun _ => ⟨mm, cm_next0 he, rfl, rfl⟩, fun _ => ⟨mm, cm_fail0 he, mm, cm_next0 he, rfl, rfl⟩⟩, fun _ => ⟨mm, cm_fail0 he, mm, cm_next0 he, rfl, rfl⟩⟩, fun _ => ⟨mm, cm_fail0 he, mm, cm_next0 he, rfl, rfl⟩⟩)
theorem rd_above (hc : MB mm n b) {k i p : Nat} (hp : p ≤ n) (h0 : M0 mm) (hk : MTk mm (tk b n p)) (hr : bsT k + i < 8) {v : Nat → Nat} {x3 : Int32} (hx : ∀ y, loT (bsT k + i) ≤ y → y ≤ hiT (bsT k + i) → (x3 < nI y ↔ ¬ (k = 2 ∧ i = 1 ∧ y ≤ v 0))) :
    ∃ m' w, FrL mm m' ∧ ((badT k i v (tk b n p) = 0 ∧ w = nI (tk b n p).v ∧ (tk b n p).v < 100000 ∧ M0 m' ∧ MTk m' (tk b n (tk b n p).e)) ∨ (¬ badT k i v (tk b n p) = 0 ∧ ME m' (badT k i v (tk b n p)) (tk b n p).s)) ∧
    Ct G M_X10_readAbove [.ref 63, .int (nI (loT (bsT k + i))), .int (nI (hiT (bsT k + i))), .int x3] (SH, mm, lm) false (.inl (some (.int w))) (SH, m', lm) false 0 0 := by
  have ht := tk_in (b := b) hp
  have htv := tk_v (b := b) hp
  have htk := tk_k (b := b) (n := n) (p := p)
  generalize tk b n p = t at hk ht htv htk ⊢
  have tab := lo_tab _ hr
  obtain ⟨k21, k22, k20, k23⟩ := hk
  have bl := badT_lt (k := k) (i := i) (v := v) (t := t)
  by_cases h2 : t.k = 2
  · have e3 : mm 63 22 = 3 := by rw [k22, h2]; rfl
    have ev := k23 h2
    have hvb := htv h2
    have inr : inR (nI (loT (bsT k + i))) (nI (hiT (bsT k + i))) (mm 63 23) ↔ loT (bsT k + i) ≤ t.v ∧ t.v ≤ hiT (bsT k + i) := by
      rw [ev]
      unfold inR
      rw [nI_ltI (by omega) (by omega), nI_leI (by omega) (by omega)]; omega
    by_cases hin : loT (bsT k + i) ≤ t.v ∧ t.v ≤ hiT (bsT k + i)
    · have hb0 : badT k i v t = if k = 2 ∧ i = 1 ∧ t.v ≤ v 0 then 3 else 0 := by
        unfold badT; rw [if_neg (fun z => z h2), if_neg (by omega)]
      have hx' := hx t.v hin.1 hin.2
      by_cases h3 : k = 2 ∧ i = 1 ∧ t.v ≤ v 0
      · obtain ⟨m', f1, f2, f3⟩ := cm_fail (G := G) (lm := lm) (c := 3) h0 k21 (by decide) (by decide)
        refine ⟨m', m' 63 23, f1, Or.inr ?_, CJ (bX10_readAbove_0 ⟨fun _ => ⟨_, cm_in (x := mm 63 23) rfl rfl, fun _ => ⟨fun z => absurd (by rw [← ev]; exact z) (fun y => (hx'.mp y) h3), fun _ => ⟨m', f3, m', cm_next0 f2.ne, rfl, rfl⟩⟩, fun z => absurd (inr.mpr hin) (bI_0.mp z)⟩, fun z => absurd e3 z⟩)⟩
        rw [hb0, if_pos h3]; exact ⟨by decide, f2⟩
      · obtain ⟨m', f1, f2, f3⟩ := cm_next (G := G) (lm := lm) hc ht.2.2.1 k20 h0.1
        refine ⟨m', mm 63 23, f1.l, Or.inl ⟨by rw [hb0, if_neg h3], ev, hvb, f1.m0 h0, f2⟩, CJ (bX10_readAbove_0 ⟨fun _ => ⟨_, cm_in (x := mm 63 23) rfl rfl, fun _ => ⟨fun _ => ⟨m', f3, rfl, rfl⟩, fun z => absurd (by rw [ev]; exact hx'.mpr h3) z⟩, fun z => absurd (inr.mpr hin) (bI_0.mp z)⟩, fun z => absurd e3 z⟩)⟩
    · obtain ⟨m', f1, f2, f3⟩ := cm_fail (G := G) (lm := lm) (c := 2) h0 k21 (by decide) (by decide)
      refine ⟨m', m' 63 23, f1, Or.inr ?_, CJ (bX10_readAbove_0 ⟨fun _ => ⟨_, cm_in (x := mm 63 23) rfl rfl, fun z => absurd (inr.mp (bI_1.mp z)) hin, fun _ => ⟨m', f3, m', cm_next0 f2.ne, rfl, rfl⟩⟩, fun z => absurd e3 z⟩)⟩
      have e : badT k i v t = 2 := by unfold badT; rw [if_neg (fun z => z h2), if_pos (by omega)]
      rw [e]; exact ⟨by decide, f2⟩
  · have e3 : ¬ mm 63 22 = 3 := by
      rw [k22]
      intro z
      have z2 := (nI_eq (a := mk t.k) (b := 3) (by unfold mk; split <;> (try split) <;> omega) (by decide)).mp z
      unfold mk at z2
      split at z2
      · omega
      · split at z2 <;> omega
    obtain ⟨m', f1, f2, f3⟩ := cm_fail (G := G) (lm := lm) (c := 1) h0 k21 (by decide) (by decide)
    refine ⟨m', m' 63 23, f1, Or.inr ?_, CJ (bX10_readAbove_0 ⟨fun z => absurd z e3, fun _ => ⟨m', f3, m', cm_next0 f2.ne, rfl, rfl⟩⟩)⟩
    have e : badT k i v t = 1 := by unfold badT; rw [if_pos h2]
    rw [e]; exact ⟨by decide, f2⟩
theorem nums_s {k m i p : Nat} {v : Nat → Nat} : nums b n k (m + 1) i p v = if ¬ badT k i v (tk b n p) = 0 then (badT k i v (tk b n p), (tk b n p).s, v) else nums b n k m (i + 1) (tk b n p).e (updT v i (tk b n p).v) := rfl
theorem rd_step {k po p0 m i : Nat} {Q : Nat × Nat × (Nat → Nat)} (hc : MB base n b) (g : FrB k po base mm) (hs : RS b n k po p0 Q (m + 1) i mm) (hk : k < 4) (hi : i < cnT k) {x3 : Int32}
    (hx : ∀ v : Nat → Nat, (∀ x, x < i → mm 75 (po + x) = nI (v x) ∧ v x < 100000) → ∀ y, loT (bsT k + i) ≤ y → y ≤ hiT (bsT k + i) → (x3 < nI y ↔ ¬ (k = 2 ∧ i = 1 ∧ y ≤ v 0))) :
    ∃ m' w, FrB k po base (mset m' 75 (po + i) w) ∧ RS b n k po p0 Q m (i + 1) (mset m' 75 (po + i) w) ∧
    Ct G M_X10_readAbove [.ref 63, .int (nI (loT (bsT k + i))), .int (nI (hiT (bsT k + i))), .int x3] (SH, mm, lm) false (.inl (some (.int w))) (SH, m', lm) false 0 0 := by
  have hbc := bs_cn k hk
  rcases hs with ⟨p, v, hp0, hp, h0, hkk, hQ, hv⟩ | ⟨hq, he⟩
  · obtain ⟨m', w, f1, f2, f3⟩ := rd_above (G := G) (lm := lm) (hc.toB g) hp h0 hkk (by omega) (hx v hv)
    have ht := tk_in (b := b) hp
    refine ⟨m', w, (g.l f1).st hi, ?_, f3⟩
    rw [nums_s] at hQ
    have e63 : mset m' 75 (po + i) w 63 = m' 63 := mset_ne (by decide)
    rcases f2 with ⟨q1, q2, q5, q3, q4⟩ | ⟨q1, q2⟩
    · rw [if_neg (fun z => z q1)] at hQ
      refine Or.inl ⟨(tk b n p).e, updT v i (tk b n p).v, by omega, ht.2.2.1, ?_, ?_, hQ, fun x hx => ?_⟩
      · unfold M0; rw [e63]; exact q3
      · unfold MTk; rw [e63]; exact q4
      · unfold updT
        by_cases e : x = i
        · rw [if_pos e, e, mset_eq]; exact ⟨q2, q5⟩
        · rw [if_neg e, mset_in (by omega), f1.1 75 (by decide)]; exact hv x (by omega)
    · rw [if_pos q1] at hQ
      refine Or.inr ⟨by rw [hQ]; exact q1, ?_⟩
      unfold ME; rw [e63, hQ]; exact q2
  · refine ⟨mm, mm 63 23, g.st hi, Or.inr ⟨hq, ?_⟩, rd_err he.ne⟩
    unfold ME; rw [mset_ne (by decide)]; exact he
theorem rd_in {k po p0 m i : Nat} {Q : Nat × Nat × (Nat → Nat)} (hc : MB base n b) (g : FrB k po base mm) (hs : RS b n k po p0 Q (m + 1) i mm) (hk : k < 4) (hi : i < cnT k) (hki : ¬ (k = 2 ∧ i = 1)) :
    ∃ m' w, FrB k po base (mset m' 75 (po + i) w) ∧ RS b n k po p0 Q m (i + 1) (mset m' 75 (po + i) w) ∧
    Ct G M_X10_readIn [.ref 63, .int (nI (loT (bsT k + i))), .int (nI (hiT (bsT k + i)))] (SH, mm, lm) false (.inl (some (.int w))) (SH, m', lm) false 0 0 := by
  have hbc := bs_cn k hk
  have tab := lo_tab (bsT k + i) (by omega)
  obtain ⟨m', w, f1, f2, f3⟩ := rd_step (G := G) (lm := lm) hc g hs hk hi (x3 := nI (loT (bsT k + i)) - 1) fun v _ y hy1 hy2 => by
    refine ⟨fun _ z => hki ⟨z.1, z.2.1⟩, fun _ => ?_⟩
    generalize loT (bsT k + i) = l at hy1 tab ⊢
    match l, hy1 with
    | 0, _ => exact fa_trans (b := 0) (by decide) (nI_le (a := 0) (b := y) (by omega) (by omega))
    | l + 1, hy1 => rw [nI_pred]; exact nI_lt (by omega) (by omega)
  exact ⟨m', w, f1, f2, CJ (bX10_readIn_0 ⟨w, m', f3, rfl, rfl⟩)⟩
theorem rd_semi {k po p0 f : Nat} {Q : Nat × Nat × (Nat → Nat)} (hc : MB base n b) (g : FrB k po base mm) (hs : RS b n k po p0 Q 0 (cnT k) mm) (hF : F = if ¬ Q.1 = 0 then (Q.1, Q.2.1, D) else if ¬ (tk b n Q.2.1).k = 3 then (1, (tk b n Q.2.1).s, D) else goT b n f k (tk b n (tk b n Q.2.1).e) (addD D k Q.2.2)) :
    ∃ m', FrB k po base m' ∧ ((∃ p', p0 < p' ∧ p' ≤ n ∧ M0 m' ∧ MTk m' (tk b n p') ∧ F = goT b n f k (tk b n p') (addD D k Q.2.2) ∧ ∀ x, x < cnT k → m' 75 (po + x) = nI (Q.2.2 x)) ∨ (¬ F.1 = 0 ∧ ME m' F.1 F.2.1)) ∧
    Ct G M_X10_expectSemicolon [.ref 63] (SH, mm, lm) false (.inl none) (SH, m', lm) false 0 0 := by
  rcases hs with ⟨p, v, hp0, hp, h0, hkk, hQ, hv⟩ | ⟨hq, he⟩
  · have hQ : Q = (0, p, v) := hQ
    rw [hQ] at hF
    have hF : F = if ¬ (tk b n p).k = 3 then (1, (tk b n p).s, D) else goT b n f k (tk b n (tk b n p).e) (addD D k v) := by rw [hF, if_neg (fun z => z rfl)]
    have ht := tk_in (b := b) hp
    have htk := tk_k (b := b) (n := n) (p := p)
    obtain ⟨k21, k22, k20, k23⟩ := hkk
    by_cases h3 : (tk b n p).k = 3
    · obtain ⟨m', f1, f2, f3⟩ := cm_next (G := G) (lm := lm) (hc.toB g) ht.2.2.1 k20 h0.1
      refine ⟨m', g.l f1.l, Or.inl ⟨(tk b n p).e, ?_, ht.2.2.1, f1.m0 h0, f2, ?_, fun x hx => ?_⟩, CJ (bX10_expectSemicolon_0 ⟨fun _ => ⟨m', f3, rfl, rfl⟩, fun z => absurd (by rw [k22, h3]; rfl) z⟩)⟩
      · have := ht.2.2.2 (by omega); omega
      · rw [hF, if_neg (fun z => z h3), hQ]
      · rw [f1.1 75 (by decide), hQ]; exact (hv x hx).1
    · have e4 : ¬ mm 63 22 = 4 := by
        rw [k22]
        intro z
        have z2 := (nI_eq (a := mk (tk b n p).k) (b := 4) (by unfold mk; split <;> (try split) <;> omega) (by decide)).mp z
        unfold mk at z2
        split at z2
        · omega
        · split at z2 <;> omega
      obtain ⟨m', f1, f2, f3⟩ := cm_fail (G := G) (lm := lm) (c := 1) h0 k21 (by decide) (by decide)
      refine ⟨m', g.l f1, Or.inr ?_, CJ (bX10_expectSemicolon_0 ⟨fun z => absurd z e4, fun _ => ⟨m', f3, m', cm_next0 f2.ne, rfl, rfl⟩⟩)⟩
      rw [hF, if_pos h3]; exact ⟨show ¬ (1 : Nat) = 0 by decide, f2⟩
  · refine ⟨mm, g, Or.inr ?_, CJ (bX10_expectSemicolon_0 ⟨fun _ => ⟨mm, cm_next0 he.ne, rfl, rfl⟩, fun _ => ⟨mm, cm_fail0 he.ne, mm, cm_next0 he.ne, rfl, rfl⟩⟩)⟩
    rw [hF, if_pos hq]; exact ⟨hq, he⟩
/-- a statement was read: the draft holds it -/
theorem DR.add {k : Nat} {v : Nat → Nat} (h : DR k base D) (hk : k < 4) (hf : D.1 k < moT k) (g : FrB k (dpb k + cnT k * D.1 k) base m) (hv : ∀ x, x < cnT k → m 75 (dpb k + cnT k * D.1 k + x) = nI (v x)) : DR k (mset m 63 (27 + k) (nI (D.1 k + 1))) (addD D k v) := by
  refine ⟨fun j hj => ?_, fun r hr j hj => ?_⟩
  · obtain ⟨h1, h2, h3⟩ := h.1 j hj
    show (j ≤ k → mset m 63 (27 + k) (nI (D.1 k + 1)) 63 (27 + j) = nI (updT D.1 k (D.1 k + 1) j)) ∧ updT D.1 k (D.1 k + 1) j ≤ moT j ∧ (k < j → updT D.1 k (D.1 k + 1) j = 0)
    unfold updT
    by_cases e : j = k
    · rw [if_pos e, e]; exact ⟨fun _ => mset_eq, hf, fun z => absurd z (Nat.lt_irrefl _)⟩
    · rw [if_neg e, mset_in (by omega), g.2.1 (27 + j) (by omega)]; exact ⟨h1, h2, h3⟩
  · have hj' : j < updT D.1 k (D.1 k + 1) (kd r) := hj
    show mset m 63 (27 + k) (nI (D.1 k + 1)) 75 (dp r j) = nI (if kd r = k ∧ j = D.1 k then v (r - bsT k) else D.2 r j)
    rw [mset_ne (by decide)]
    unfold updT at hj'
    have old : j < D.1 (kd r) → m 75 (dp r j) = nI (D.2 r j) := fun hjo => by
      have hm := (h.1 (kd r) (kd_lt r)).2.1
      rw [g.2.2 _ (dp_apart k hk (D.1 k) hf r hr j (by split; · rename_i e; rw [e] at hjo; exact hjo
                                                       · omega))]
      exact h.2 r hr j hjo
    by_cases e : kd r = k
    · rw [if_pos e] at hj'
      by_cases ej : j = D.1 k
      · have q := kd_inv r hr k hk e
        rw [if_pos ⟨e, ej⟩, ← hv (r - bsT k) (by omega)]
        unfold dp; rw [e, ej]
      · rw [if_neg (fun z => ej z.2)]; exact old (by rw [e]; omega)
    · rw [if_neg e] at hj'
      rw [if_neg (fun z => e z.1)]; exact old hj'
end MRead
