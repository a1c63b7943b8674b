/-! ===== the reference's search ===== -/
def afV (x c : Nat) : Int32 := match aftM x c with
  | none => -1
  | some y => nI y
theorem ring_af {x P v d s : Int32} (h : s + P * d = x + P * v) : x + P * (v - d) = s := by grind
/-- at the goal, as the reference sees it -/
def atG (mm : Nat → Nat → Int32) (po be dg : Nat → Int32) (k : Nat) : Bool := if mm 64 (10 * k + 2) < 0 then decide (dg k = if mm 64 (10 * k + 0) < 0 then 0 else 1) else decide (be k = mm 64 (10 * k + 2) ∧ po k = mm 64 (10 * k + 3))
abbrev canA (mm : Nat → Nat → Int32) (nb nm x : Nat) : Bool := canB (fun k => nI (dig x k)) (bmM mm x) (psM mm x) (mm 69) (mm 68) (mm 67) nb nm
abbrev goA (mm : Nat → Nat → Int32) (nb x : Nat) : Bool := allN (atG mm (psM mm x) (bmM mm x) (fun k => nI (dig x k))) nb
/-- the reference's search: queue q with levels lv, at the code cc of its number looked -/
def MbQ (nb : Nat) (can go : Nat → Bool) (D Q : Nat → Int32) (many looked cc : Nat) (q lv : Nat → Nat) : Prop :=
  many ≤ 3 ^ nb ∧
  (∀ i, i < many → Q i = nI (q i) ∧ q i < 3 ^ nb ∧ can (q i) = true ∧ D (q i) = nI (lv i) ∧ lv i ≤ i) ∧
  (∀ i j, i < j → j < many → q i ≠ q j) ∧
  (∀ y, y < 3 ^ nb → (∀ i, i < many → q i ≠ y) → D y = if can y = true then 1000000 else -1) ∧
  (∀ y, y < 3 ^ nb → can y = true → go y = true → ∃ i, i < many ∧ q i = y ∧ lv i = 0) ∧
  (∀ i, i < many → lv i = 0 → go (q i) = true) ∧
  (∀ i, i < many → 0 < lv i → ∃ j c, j < many ∧ c < 3 * nb ∧ lv i = lv j + 1 ∧ aftM (q j) c = some (q i)) ∧
  (∀ i j, i ≤ j → j < many → lv i ≤ lv j) ∧
  (∀ i, i < many → looked < many → lv i ≤ lv looked + 1) ∧
  (∀ i c y, (i < looked ∨ (i = looked ∧ c < cc)) → i < many → c < 3 * nb → aftM (q i) c = some y → can y = true → ∃ j, j < many ∧ q j = y ∧ lv j ≤ lv i + 1)
section Mb
variable {nb many looked cc x y : Nat} {can go : Nat → Bool} {D Q : Nat → Int32} {q lv : Nat → Nat}
theorem mb_skip (h : MbQ nb can go D Q many looked cc q lv) (hl : looked < many) (hn : aftM (q looked) cc = none) : MbQ nb can go D Q many looked (cc + 1) q lv := by
  obtain ⟨h1, h2, h3, h4, h5, h6, h7, h8, h9, h10⟩ := h
  refine ⟨h1, h2, h3, h4, h5, h6, h7, h8, h9, fun i c y hi him hc ha hcan => ?_⟩
  by_cases e : i = looked ∧ c = cc
  · rw [e.1, e.2, hn] at ha; cases ha
  · exact h10 i c y (by omega) him hc ha hcan
theorem mb_seen (h : MbQ nb can go D Q many looked cc q lv) (hl : looked < many) (hn : aftM (q looked) cc = some y) (hy : y < 3 ^ nb) (hD : ¬ D y = 1000000) : MbQ nb can go D Q many looked (cc + 1) q lv := by
  obtain ⟨h1, h2, h3, h4, h5, h6, h7, h8, h9, h10⟩ := h
  refine ⟨h1, h2, h3, h4, h5, h6, h7, h8, h9, fun i c y' hi him hc ha hcan => ?_⟩
  by_cases e : i = looked ∧ c = cc
  · rw [e.1, e.2, hn] at ha
    have ey := Option.some.inj ha
    subst ey
    have hin : ∃ j, j < many ∧ q j = y := by
      refine Classical.byContradiction fun z => ?_
      have := h4 y hy (fun i hi e2 => z ⟨i, hi, e2⟩)
      rw [if_pos hcan] at this
      exact hD this
    obtain ⟨j, hj, e2⟩ := hin
    exact ⟨j, hj, e2, by rw [e.1]; exact h9 j hj hl⟩
  · exact h10 i c y' (by omega) him hc ha hcan
theorem mb_new (h8 : nb ≤ 8) (h : MbQ nb can go D Q many looked cc q lv) (hl : looked < many) (hcc : cc < 3 * nb) (hn : aftM (q looked) cc = some y) (hy : y < 3 ^ nb) (hD : D y = 1000000) :
    many < 3 ^ nb ∧ can y = true ∧ MbQ nb can go (upd D y (nI (lv looked + 1))) (upd Q many (nI y)) (many + 1) looked (cc + 1) (fun i => if i = many then y else q i) (fun i => if i = many then lv looked + 1 else lv i) := by
  obtain ⟨h1, h2, h3, h4, h5, h6, h7, h8', h9, h10⟩ := h
  have hp8 := pow_le8 h8
  have hu : ∀ i, i < many → q i ≠ y := fun i hi e => by
    obtain ⟨-, -, -, a4, a5⟩ := h2 i hi
    rw [e, hD] at a4
    have := (nI_eq (a := 1000000) (b := lv i) (by omega) (by omega)).mp a4
    omega
  have hcan : can y = true := by
    have := h4 y hy hu
    rw [hD] at this
    by_cases e : can y = true
    · exact e
    · rw [if_neg e] at this; exact absurd this (by decide)
  have hlt : many < 3 ^ nb := by
    refine fb_holes (3 ^ nb) (many + 1) (fun i => if i = many then y else q i) (fun i hi => ?_) (fun i j hij hj => ?_)
    · show (if i = many then y else q i) < 3 ^ nb
      by_cases e : i = many
      · rw [if_pos e]; exact hy
      · rw [if_neg e]; exact (h2 i (by omega)).2.1
    · show (if i = many then y else q i) ≠ (if j = many then y else q j)
      rw [if_neg (by omega : ¬ i = many)]
      by_cases e : j = many
      · rw [if_pos e]; exact hu i (by omega)
      · rw [if_neg e]; exact h3 i j hij (by omega)
  have q1 : ∀ i, i < many → (fun i => if i = many then y else q i) i = q i := fun i hi => if_neg (by omega)
  have l1 : ∀ i, i < many → (fun i => if i = many then lv looked + 1 else lv i) i = lv i := fun i hi => if_neg (by omega)
  have qn : (fun i => if i = many then y else q i) many = y := if_pos rfl
  have ln : (fun i => if i = many then lv looked + 1 else lv i) many = lv looked + 1 := if_pos rfl
  generalize (fun i => if i = many then y else q i) = q2 at q1 qn ⊢
  generalize (fun i => if i = many then lv looked + 1 else lv i) = l2 at l1 ln ⊢
  refine ⟨hlt, hcan, by omega, fun i hi => ?_, fun i j hij hj => ?_, fun y' hy' hny => ?_, fun y' hy' hc' hg' => ?_, fun i hi h0 => ?_, fun i hi h0 => ?_, fun i j hij hj => ?_, fun i hi _ => ?_, fun i c y' hi him hc ha hcan' => ?_⟩
  · by_cases e : i = many
    · subst e
      rw [qn, ln]
      have := (h2 looked hl).2.2.2.2
      exact ⟨if_pos rfl, hy, hcan, if_pos rfl, by omega⟩
    · obtain ⟨a1, a2, a3, a4, a5⟩ := h2 i (by omega)
      rw [q1 i (by omega), l1 i (by omega)]
      have e1 : upd Q many (nI y) i = Q i := if_neg e
      have e2 : upd D y (nI (lv looked + 1)) (q i) = D (q i) := if_neg (hu i (by omega))
      rw [e1, e2]
      exact ⟨a1, a2, a3, a4, a5⟩
  · rw [q1 i (by omega)]
    by_cases e : j = many
    · subst e; rw [qn]; exact hu i hij
    · rw [q1 j (by omega)]; exact h3 i j hij (by omega)
  · have e : ¬ y' = y := fun e => by
      have := hny many (by omega)
      rw [qn] at this
      exact this e.symm
    have e2 : upd D y (nI (lv looked + 1)) y' = D y' := if_neg e
    rw [e2]
    exact h4 y' hy' fun i hi => by
      have := hny i (by omega)
      rwa [q1 i hi] at this
  · obtain ⟨i, g1, g2, g3⟩ := h5 y' hy' hc' hg'
    exact ⟨i, by omega, by rw [q1 i g1]; exact g2, by rw [l1 i g1]; exact g3⟩
  · by_cases e : i = many
    · subst e; rw [ln] at h0; omega
    · rw [q1 i (by omega)]
      rw [l1 i (by omega)] at h0
      exact h6 i (by omega) h0
  · by_cases e : i = many
    · subst e
      exact ⟨looked, cc, by omega, hcc, by rw [ln, l1 looked hl], by rw [q1 looked hl, qn]; exact hn⟩
    · rw [l1 i (by omega)] at h0
      obtain ⟨j, c, g1, g2, g3, g4⟩ := h7 i (by omega) h0
      exact ⟨j, c, by omega, g2, by rw [l1 i (by omega), l1 j g1]; exact g3, by rw [q1 i (by omega), q1 j g1]; exact g4⟩
  · by_cases e : j = many
    · subst e
      by_cases e2 : i = j
      · rw [e2]; exact Nat.le_refl _
      · rw [ln, l1 i (by omega)]; exact h9 i (by omega) hl
    · rw [l1 i (by omega), l1 j (by omega)]; exact h8' i j hij (by omega)
  · rw [l1 looked hl]
    by_cases e : i = many
    · subst e; rw [ln]; exact Nat.le_refl _
    · rw [l1 i (by omega)]; exact h9 i (by omega) hl
  · have him' : i < many := by omega
    rw [q1 i him'] at ha
    rw [l1 i him']
    by_cases e : i = looked ∧ c = cc
    · rw [e.1, e.2, hn] at ha
      have ey := Option.some.inj ha
      subst ey
      exact ⟨many, by omega, qn, by rw [ln, e.1]; exact Nat.le_refl _⟩
    · obtain ⟨j, g1, g2, g3⟩ := h10 i c y' (by omega) him' hc ha hcan'
      exact ⟨j, by omega, by rw [q1 j g1]; exact g2, by rw [l1 j g1]; exact g3⟩
theorem mb_next (h : MbQ nb can go D Q many looked (3 * nb) q lv) : MbQ nb can go D Q many (looked + 1) 0 q lv := by
  obtain ⟨h1, h2, h3, h4, h5, h6, h7, h8, h9, h10⟩ := h
  refine ⟨h1, h2, h3, h4, h5, h6, h7, h8, fun i hi hl => ?_, fun i c y hi him hc ha hcan => ?_⟩
  · have a := h9 i hi (by omega)
    have b := h8 looked (looked + 1) (by omega) hl
    omega
  · by_cases e : i = looked
    · exact h10 i c y (Or.inr ⟨e, hc⟩) him hc ha hcan
    · exact h10 i c y (Or.inl (by omega)) him hc ha hcan
/-- the distances that the reference has found -/
def dmN (q lv : Nat → Nat) (many y : Nat) : Option Nat := (nextN (fun i => decide (q i = y)) many 0).map lv
theorem dmN_some (h3 : ∀ i j, i < j → j < many → q i ≠ q j) {t : Nat} : dmN q lv many y = some t ↔ ∃ i, i < many ∧ q i = y ∧ lv i = t := by
  unfold dmN
  cases hx : nextN (fun i => decide (q i = y)) many 0 with
  | none =>
    refine ⟨fun z => (by cases z), fun ⟨i, h1, h2, _⟩ => ?_⟩
    have := nextN_none hx i (Nat.zero_le _) (by omega)
    rw [decide_eq_true h2] at this; cases this
  | some j =>
    obtain ⟨-, j2, j3, -⟩ := nextN_some hx
    have j4 := of_decide_eq_true j3
    refine ⟨fun z => ⟨j, by omega, j4, Option.some.inj z⟩, fun ⟨i, h1, h2, h4⟩ => ?_⟩
    have e : i = j := by
      rcases Nat.lt_trichotomy i j with w | w | w
      · exact absurd (h2.trans j4.symm) (h3 i j w (by omega))
      · exact w
      · exact absurd (j4.trans h2.symm) (h3 j i w h1)
    rw [← e]; exact congrArg some h4
theorem mb_ds (h : MbQ nb can go D Q many looked 0 q lv) (hl : many ≤ looked) : Ds nb can go (dmN q lv many) := by
  obtain ⟨h1, h2, h3, h4, h5, h6, h7, h8, h9, h10⟩ := h
  refine ⟨fun y hy => ?_, fun y t hy hd => ?_, fun x c y t hx hc hd ha hcan => ?_, fun y t hy hd => ?_⟩
  · rw [dmN_some h3]
    refine ⟨fun ⟨i, g1, g2, g3⟩ => ?_, fun ⟨g1, g2⟩ => h5 y hy g1 g2⟩
    rw [← g2]; exact ⟨(h2 i g1).2.2.1, h6 i g1 g3⟩
  · obtain ⟨i, g1, g2, g3⟩ := (dmN_some h3).mp hd
    obtain ⟨j, c, j1, j2, j3, j4⟩ := h7 i g1 (by omega)
    obtain ⟨c', c1, c2⟩ := aftM_back j4 (h2 j j1).2.1 j2
    rw [g2] at c2
    exact ⟨c', q j, c1, c2, (dmN_some h3).mpr ⟨j, j1, rfl, by omega⟩⟩
  · obtain ⟨i, g1, g2, g3⟩ := (dmN_some h3).mp hd
    rw [← g2] at ha
    obtain ⟨j, j1, j2, j3⟩ := h10 i c y (Or.inl (by omega)) g1 hc ha hcan
    exact ⟨lv j, (dmN_some h3).mpr ⟨j, j1, j2, rfl⟩, by omega⟩
  · obtain ⟨i, g1, g2, g3⟩ := (dmN_some h3).mp hd
    rw [← g2]; exact (h2 i g1).2.2.1
theorem mb_val (h8 : nb ≤ 8) (h : MbQ nb can go D Q many looked cc q lv) (hy : y < 3 ^ nb) : (∀ t, dmN q lv many y = some t → D y = nI t ∧ t < 6561) ∧ (dmN q lv many y = none → D y = if can y = true then 1000000 else -1) := by
  obtain ⟨h1, h2, h3, h4, h5, h6, h7, h8', h9, h10⟩ := h
  have hp8 := pow_le8 h8
  refine ⟨fun t hd => ?_, fun hd => h4 y hy fun i hi e => ?_⟩
  · obtain ⟨i, g1, g2, g3⟩ := (dmN_some h3).mp hd
    obtain ⟨a1, a2, a3, a4, a5⟩ := h2 i g1
    rw [g2, g3] at a4
    exact ⟨a4, by omega⟩
  · have := (dmN_some (lv := lv) h3).mpr ⟨i, hi, e, rfl⟩
    rw [hd] at this; cases this
end Mb
section MWay
variable {G : Gx} {mm : Nat → Nat → Int32} {lm : Nat → Int64} {nb nm : Nat}
theorem cm_digitOf {x b : Nat} (hx : x < 6561) (hb : b ≤ 8) : Ct G M_X10_digitOf [.int (nI x), .int (nI (3 ^ b))] (SH, mm, lm) false (.inl (some (.int (nI (dig x b))))) (SH, mm, lm) false 0 0 := by
  have h3 : 0 < 3 ^ b := Nat.pow_pos (by omega)
  have h4 : 3 ^ b ≤ 3 ^ 8 := Nat.pow_le_pow_right (by omega) (by omega)
  refine CJ (bX10_digitOf_0 ⟨nI_ne0 h3 (by omega), ?_⟩)
  rw [pk_div (by omega) h3 (by omega), show (3 : Int32) = nI 3 from rfl, pk_rem (Nat.lt_of_le_of_lt (Nat.div_le_self _ _) (by omega)) (by omega) (by omega)]
  exact ⟨rfl, rfl⟩
theorem cm_after (h8 : nb ≤ 8) {x c : Nat} (hx : x < 3 ^ nb) (hc : c < 3 * nb) : Ct G M_X10_after [.ref 63, .int (nI x), .int (nI c)] (SH, mm, lm) false (.inl (some (.int (afV x c)))) (SH, mm, lm) false 0 0 := by
  have hp8 := pow_le8 h8
  have hd := dig_lt x (c / 3)
  have eq3 : nI c / 3 = nI (c / 3) := by rw [show (3 : Int32) = nI 3 from rfl, pk_div (by omega) (by omega) (by omega)]
  have er3 : nI c - nI (c / 3) * 3 = nI (c % 3) := by rw [← eq3, show (3 : Int32) = nI 3 from rfl, pk_rem (by omega) (by omega) (by omega)]
  have hv := setd_val x (c / 3) (c % 3)
  have val : nI x + nI (3 ^ (c / 3)) * (nI (c % 3) - nI (dig x (c / 3))) = nI (setd x (c / 3) (c % 3)) := ring_af (by rw [nI_mul, nI_add, nI_mul, nI_add, hv])
  refine CJ (bX10_after_0 ?_)
  rw [eq3, er3]
  refine ⟨_, cm_powerOf (by omega), _, cm_digitOf (by omega) (by omega), fun z => ⟨fun z2 => ?_, fun z2 => ?_⟩, fun z => ⟨fun z2 => ?_, fun z2 => ?_⟩⟩
  · have e : aftM x c = none := if_pos ⟨fun w => absurd (by rw [w]; rfl) z, fun w => absurd (by rw [w]; rfl) z2⟩
    have ev : afV x c = -1 := by simp only [afV, e]
    rw [ev]; exact ⟨rfl, rfl⟩
  · have e : aftM x c = some (setd x (c / 3) (c % 3)) := if_neg fun w => z (by rw [w.mpr ((nI_eq (b := 0) (by omega) (by omega)).mp z2)]; rfl)
    have ev : afV x c = nI (setd x (c / 3) (c % 3)) := by simp only [afV, e]
    rw [ev, val]; exact ⟨rfl, rfl⟩
  · have e : aftM x c = some (setd x (c / 3) (c % 3)) := if_neg fun w => z2 (by rw [w.mp ((nI_eq (b := 0) (by omega) (by omega)).mp z)]; rfl)
    have ev : afV x c = nI (setd x (c / 3) (c % 3)) := by simp only [afV, e]
    rw [ev, val]; exact ⟨rfl, rfl⟩
  · have e : aftM x c = none := if_pos ⟨fun _ => (nI_eq (b := 0) (by omega) (by omega)).mp z2, fun _ => (nI_eq (b := 0) (by omega) (by omega)).mp z⟩
    have ev : afV x c = -1 := by simp only [afV, e]
    rw [ev]; exact ⟨rfl, rfl⟩
theorem cm_isAtGoal {k : Nat} (hk : k < 8) : Ct G M_X10_isAtGoal [.ref 63, .int (nI k)] (SH, mm, lm) false (.inl (some (.int (bI (atG mm (mm 76) (mm 77) (mm 78) k = true))))) (SH, mm, lm) false 0 0 := by
  have p2 := cm_of (G := G) (mm := mm) (lm := lm) (k := k) (a := 2) (y := 2) hk rfl (by decide)
  have p3 := cm_of (G := G) (mm := mm) (lm := lm) (k := k) (a := 3) (y := 3) hk rfl (by decide)
  refine CJ (bX10_isAtGoal_0 ⟨_, p2, fun z => ⟨k, rfl, hk, _, p2, fun z2 => ?_, fun z2 => ⟨k, rfl, hk, _, p3, fun z3 => ?_, fun z3 => ?_⟩⟩, fun z => ⟨k, rfl, hk, _, cm_hangs hk, fun z2 => ⟨fun z3 => ?_, fun z3 => ?_⟩, fun z2 => ⟨fun z3 => ?_, fun z3 => ?_⟩⟩⟩)
  · have e : ¬ atG mm (mm 76) (mm 77) (mm 78) k = true := by
      rw [atG, if_neg (Int32.not_lt.mpr z)]; exact fun w => z2 (of_decide_eq_true w).1
    rw [bI_f e]; exact ⟨rfl, rfl⟩
  · have e : ¬ atG mm (mm 76) (mm 77) (mm 78) k = true := by
      rw [atG, if_neg (Int32.not_lt.mpr z)]; exact fun w => z3 (of_decide_eq_true w).2
    rw [bI_f e]; exact ⟨rfl, rfl⟩
  · have e : atG mm (mm 76) (mm 77) (mm 78) k = true := by
      rw [atG, if_neg (Int32.not_lt.mpr z)]; exact decide_eq_true ⟨z2, z3⟩
    rw [bI_t e]; exact ⟨rfl, rfl⟩
  · have e : ¬ atG mm (mm 76) (mm 77) (mm 78) k = true := by
      rw [atG, if_pos (Int32.not_le.mp z), if_pos (Decidable.not_not.mp (bI_0.mp z2))]; exact fun w => z3 (of_decide_eq_true w)
    rw [bI_f e]; exact ⟨rfl, rfl⟩
  · have e : atG mm (mm 76) (mm 77) (mm 78) k = true := by
      rw [atG, if_pos (Int32.not_le.mp z), if_pos (Decidable.not_not.mp (bI_0.mp z2))]; exact decide_eq_true z3
    rw [bI_t e]; exact ⟨rfl, rfl⟩
  · have e : ¬ atG mm (mm 76) (mm 77) (mm 78) k = true := by
      rw [atG, if_pos (Int32.not_le.mp z), if_neg (bI_1.mp z2)]; exact fun w => z3 (of_decide_eq_true w)
    rw [bI_f e]; exact ⟨rfl, rfl⟩
  · have e : atG mm (mm 76) (mm 77) (mm 78) k = true := by
      rw [atG, if_pos (Int32.not_le.mp z), if_neg (bI_1.mp z2)]; exact decide_eq_true z3
    rw [bI_t e]; exact ⟨rfl, rfl⟩
theorem bmM_same {m M : Nat → Nat → Int32} (h : m 64 = M 64) (A : Nat) : bmM m A = bmM M A ∧ psM m A = psM M A := by
  refine ⟨funext fun k => ?_, funext fun k => ?_⟩
  · unfold bmM; rw [h]
  · unfold psM; rw [h]
/-- the goals found so far -/
def Mg1 (can go : Nat → Bool) (D Q : Nat → Int32) (many x : Nat) (q : Nat → Nat) : Prop :=
  many ≤ x ∧ (∀ i, i < many → Q i = nI (q i) ∧ q i < x ∧ can (q i) = true ∧ go (q i) = true ∧ D (q i) = 0) ∧ (∀ i j, i < j → j < many → q i ≠ q j) ∧
  (∀ y, y < x → (∀ i, i < many → q i ≠ y) → D y = (if can y = true then 1000000 else -1) ∧ ¬ (can y = true ∧ go y = true))
theorem cm_findWays (hnb : mm 63 8 = nI nb) (h8 : nb ≤ 8) (hnm : mm 63 5 = nI nm) (h4 : nm ≤ 4) : ∃ mm' DM, (∀ c, c < 76 ∨ 80 < c → mm' c = mm c) ∧ Ds nb (canA mm nb nm) (goA mm nb) DM ∧
    (∀ y, y < 3 ^ nb → (∀ t, DM y = some t → mm' 79 y = nI t ∧ t < 6561) ∧ (DM y = none → mm' 79 y = if canA mm nb nm y = true then 1000000 else -1)) ∧ Ct G M_X10_findWays [.ref 63] (SH, mm, lm) false (.inl none) (SH, mm', lm) false 0 0 := by
  have hp8 := pow_le8 h8
  obtain ⟨can, hcan⟩ : ∃ can, can = canA mm nb nm := ⟨_, rfl⟩
  obtain ⟨go, hgo⟩ : ∃ go, go = goA mm nb := ⟨_, rfl⟩
  rw [← hcan, ← hgo]
  -- the second part
  have two : ∀ looked, looked ≤ 3 ^ nb → ∀ m many q lv, (∀ c, c < 76 ∨ 80 < c → m c = mm c) → MbQ nb can go (m 79) (m 80) many looked 0 q lv → ∃ mm' DM, (∀ c, c < 76 ∨ 80 < c → mm' c = mm c) ∧ Ds nb can go DM ∧
      (∀ y, y < 3 ^ nb → (∀ t, DM y = some t → mm' 79 y = nI t ∧ t < 6561) ∧ (DM y = none → mm' 79 y = if can y = true then 1000000 else -1)) ∧ J G M_X10_findWays 127 [(0, .ref 63), (2, .int (nI many)), (3, .int (nI looked))] [] (SH, m, lm) false (.inl none) (SH, mm', lm) false 0 0 := by
    refine loop_up (n := 3 ^ nb) ?_ ?_
    · intro m many q lv hm hB
      have hmany := hB.1
      exact ⟨m, dmN q lv many, hm, mb_ds hB hmany, fun y hy => mb_val h8 hB hy, bX10_findWays_127 ⟨fun _ => ⟨rfl, rfl⟩, fun z => absurd (nI_le hmany (by omega)) z⟩⟩
    · intro looked hlk ih m many q lv hm hB
      have hmany := hB.1
      by_cases hl : many ≤ looked
      · exact ⟨m, dmN q lv many, hm, mb_ds hB hl, fun y hy => mb_val h8 hB hy, bX10_findWays_127 ⟨fun _ => ⟨rfl, rfl⟩, fun z => absurd (nI_le hl (by omega)) z⟩⟩
      · obtain ⟨a1, a2, -⟩ := hB.2.1 looked (by omega)
        have inner := loop_up (n := 3 * nb) (P := fun c => ∀ m many q2 lv, looked < many → q2 looked = q looked → (∀ c, c < 76 ∨ 80 < c → m c = mm c) → MbQ nb can go (m 79) (m 80) many looked c q2 lv → ∃ mm' DM, (∀ c, c < 76 ∨ 80 < c → mm' c = mm c) ∧ Ds nb can go DM ∧
          (∀ y, y < 3 ^ nb → (∀ t, DM y = some t → mm' 79 y = nI t ∧ t < 6561) ∧ (DM y = none → mm' 79 y = if can y = true then 1000000 else -1)) ∧ J G M_X10_findWays 143 [(0, .ref 63), (2, .int (nI many)), (3, .int (nI looked)), (4, .int (nI (q looked))), (5, .int (nI c))] [] (SH, m, lm) false (.inl none) (SH, mm', lm) false 0 0) ?_ ?_ 0 (Nat.zero_le _) m many q lv (by omega) rfl hm hB
        · obtain ⟨mm', DM, g1, g2, g3, g4⟩ := inner
          exact ⟨mm', DM, g1, g2, g3, bX10_findWays_127 ⟨fun z => absurd z (nI_ge (by omega) (by omega)), fun _ => ⟨looked, rfl, by omega, by rw [a1]; exact g4⟩⟩⟩
        · intro m many q2 lv hlm eq hm hB
          obtain ⟨mm', DM, g1, g2, g3, g4⟩ := ih m many q2 lv hm (mb_next hB)
          refine ⟨mm', DM, g1, g2, g3, bX10_findWays_143 ⟨fun _ => by rw [nI_1]; exact g4, fun z => absurd ?_ z⟩⟩
          rw [hm 63 (by omega), hnb, show (3 : Int32) = nI 3 from rfl, nI_mul]; exact Int32.le_refl _
        · intro c hc ih2 m many q2 lv hlm eq hm hB
          have hmany2 := hB.1
          have lim : ¬ 3 * m 63 8 ≤ nI c := by rw [hm 63 (by omega), hnb, show (3 : Int32) = nI 3 from rfl, nI_mul]; exact nI_ge hc (by omega)
          have ca := cm_after (G := G) (mm := m) (lm := lm) h8 (x := q looked) (c := c) a2 hc
          cases hx : aftM (q looked) c with
          | none =>
            simp only [afV, hx] at ca
            obtain ⟨mm', DM, g1, g2, g3, g4⟩ := ih2 m many q2 lv hlm eq hm (mb_skip hB hlm (by rw [eq]; exact hx))
            exact ⟨mm', DM, g1, g2, g3, bX10_findWays_143 ⟨fun z => absurd z lim, fun _ => ⟨_, ca, fun _ => by rw [nI_1]; exact g4, fun z => absurd (by decide) z⟩⟩⟩
          | some y =>
            simp only [afV, hx] at ca
            have hy := aftM_lt hx a2 hc
            by_cases hD : m 79 y = 1000000
            · obtain ⟨n1, n2, hB2⟩ := mb_new h8 hB hlm hc (by rw [eq]; exact hx) hy hD
              have dl : m 79 (q looked) = nI (lv looked) := by rw [← eq]; exact (hB.2.1 looked hlm).2.2.2.1
              obtain ⟨mm', DM, g1, g2, g3, g4⟩ := ih2 (mset (mset m 79 y (m 79 (q looked) + 1)) 80 many (nI y)) (many + 1) (fun i => if i = many then y else q2 i) (fun i => if i = many then lv looked + 1 else lv i) (by omega) (by
                show (if looked = many then y else q2 looked) = q looked
                rw [if_neg (by omega)]; exact eq) (fun c hc => by rw [mset_ne (by omega), mset_ne (by omega)]; exact hm c hc) (by
                have w79 : mset (mset m 79 y (m 79 (q looked) + 1)) 80 many (nI y) 79 = upd (m 79) y (nI (lv looked + 1)) := by rw [mset_ne (by decide), mset_at, dl, nI_1]
                have w80 : mset (mset m 79 y (m 79 (q looked) + 1)) 80 many (nI y) 80 = upd (m 80) many (nI y) := by rw [mset_at, mset_ne (by decide)]
                rw [w79, w80]; exact hB2)
              refine ⟨mm', DM, g1, g2, g3, bX10_findWays_143 ⟨fun z => absurd z lim, fun _ => ⟨_, ca, fun z => absurd z (nI_pos (by omega)), fun _ => ⟨y, rfl, by omega, fun z => absurd hD z, fun _ => ⟨q looked, rfl, by omega, y, rfl, by omega, many, rfl, by omega, ?_⟩⟩⟩⟩⟩
              rw [nI_1, nI_1]; exact g4
            · obtain ⟨mm', DM, g1, g2, g3, g4⟩ := ih2 m many q2 lv hlm eq hm (mb_seen hB hlm (by rw [eq]; exact hx) hy hD)
              exact ⟨mm', DM, g1, g2, g3, bX10_findWays_143 ⟨fun z => absurd z lim, fun _ => ⟨_, ca, fun z => absurd z (nI_pos (by omega)), fun _ => ⟨y, rfl, by omega, fun _ => by rw [nI_1]; exact g4, fun z => absurd z hD⟩⟩⟩⟩
  -- the first part
  have one := loop_up (n := 3 ^ nb) (P := fun x => ∀ m many q, (∀ c, c < 76 ∨ 80 < c → m c = mm c) → Mg1 can go (m 79) (m 80) many x q → ∃ mm' DM, (∀ c, c < 76 ∨ 80 < c → mm' c = mm c) ∧ Ds nb can go DM ∧
      (∀ y, y < 3 ^ nb → (∀ t, DM y = some t → mm' 79 y = nI t ∧ t < 6561) ∧ (DM y = none → mm' 79 y = if can y = true then 1000000 else -1)) ∧ J G M_X10_findWays 13 [(0, .ref 63), (1, .int (nI (3 ^ nb))), (2, .int (nI many)), (3, .int (nI x))] [] (SH, m, lm) false (.inl none) (SH, mm', lm) false 0 0) ?_ ?_ 0 (Nat.zero_le _) mm 0 (fun _ => 0) (fun _ _ => rfl) ⟨Nat.le_refl _, fun i hi => by omega, fun i j h1 h2 => by omega, fun y hy => by omega⟩
  · obtain ⟨mm', DM, g1, g2, g3, g4⟩ := one
    exact ⟨mm', DM, g1, g2, g3, CJ (bX10_findWays_0 ⟨_, by rw [hnb]; exact cm_powerOf h8, g4⟩)⟩
  · intro m many q hm hM
    obtain ⟨h1, h2, h3, h5⟩ := hM
    obtain ⟨mm', DM, g1, g2, g3, g4⟩ := two 0 (Nat.zero_le _) m many q (fun _ => 0) hm ⟨h1, fun i hi => ⟨(h2 i hi).1, (h2 i hi).2.1, (h2 i hi).2.2.1, (h2 i hi).2.2.2.2, Nat.zero_le _⟩, h3, fun y hy hny => (h5 y hy hny).1, fun y hy hc hg => Classical.byContradiction fun z => (h5 y hy (fun i hi e => z ⟨i, hi, e, rfl⟩)).2 ⟨hc, hg⟩, fun i hi _ => (h2 i hi).2.2.2.1, fun i hi h => absurd h (Nat.lt_irrefl 0), fun _ _ _ _ => Nat.le_refl _, fun _ _ _ => Nat.zero_le _, fun i c y hi => by omega⟩
    exact ⟨mm', DM, g1, g2, g3, bX10_findWays_13 ⟨fun _ => g4, fun z => absurd (Int32.le_refl _) z⟩⟩
  · intro x hx ih m many q hm hM
    obtain ⟨h1, h2, h3, h5⟩ := hM
    obtain ⟨m3, f3, r3, ct⟩ := cm_canBe (G := G) (mm := m) (lm := lm) (nb := nb) (nm := nm) (A := x) ((congrFun (hm 63 (by omega)) 8).trans hnb) h8 ((congrFun (hm 63 (by omega)) 5).trans hnm) h4 (by omega)
    have r64 : m 64 = mm 64 := hm 64 (by omega)
    rw [(bmM_same r64 x).1, (bmM_same r64 x).2, hm 69 (by omega), hm 68 (by omega), hm 67 (by omega)] at ct
    have ecan : canB (fun k => nI (dig x k)) (bmM mm x) (psM mm x) (mm 69) (mm 68) (mm 67) nb nm = can x := by rw [hcan]
    rw [ecan] at ct
    obtain ⟨v, hv⟩ : ∃ v : Int32, v = if can x = true then 1000000 else -1 := ⟨_, rfl⟩
    obtain ⟨m4, hm4⟩ : ∃ m4, m4 = mset m3 79 x v := ⟨_, rfl⟩
    have f4 : ∀ c, c < 76 ∨ 80 < c → m4 c = mm c := fun c hc => by rw [hm4, mset_ne (by omega), f3 c (by omega)]; exact hm c hc
    have f80 : m4 80 = m 80 := by rw [hm4, mset_ne (by decide), f3 80 (by omega)]
    have f79 : m4 79 = upd (m 79) x v := by rw [hm4, mset_at, f3 79 (by omega)]
    have q79 : m4 79 x = v := by rw [hm4, mset_eq]
    have rows : ∀ k, k < nb → m4 78 k = nI (dig x k) ∧ m4 77 k = bmM mm x k ∧ m4 76 k = psM mm x k := fun k hk => by
      rw [hm4, mset_ne (by decide), mset_ne (by decide), mset_ne (by decide), (r3 k hk).1, (r3 k hk).2.1, (r3 k hk).2.2, (bmM_same r64 x).1, (bmM_same r64 x).2]
      exact ⟨rfl, rfl, rfl⟩
    have flags := loop_up (n := nb) (P := fun k => ∃ mm' DM, (∀ c, c < 76 ∨ 80 < c → mm' c = mm c) ∧ Ds nb can go DM ∧
      (∀ y, y < 3 ^ nb → (∀ t, DM y = some t → mm' 79 y = nI t ∧ t < 6561) ∧ (DM y = none → mm' 79 y = if can y = true then 1000000 else -1)) ∧ J G M_X10_findWays 61 [(0, .ref 63), (1, .int (nI (3 ^ nb))), (2, .int (nI many)), (3, .int (nI x)), (4, .int (bI (can x = true ∧ allN (atG mm (psM mm x) (bmM mm x) (fun k => nI (dig x k))) k = true))), (5, .int (nI k))] [] (SH, m4, lm) false (.inl none) (SH, mm', lm) false 0 0) ?_ ?_ 0 (Nat.zero_le _)
    · obtain ⟨mm', DM, g1, g2, g3, g4⟩ := flags
      refine ⟨mm', DM, g1, g2, g3, bX10_findWays_13 ⟨fun z => absurd z (nI_ge hx (by omega)), fun _ => ⟨_, m3, ct, fun z => ?_, fun z => ?_⟩⟩⟩
      · have hc := bI_0.mp z
        rw [if_neg hc] at hv
        rw [bI_f (fun w => hc w.1)] at g4
        rw [hv] at hm4
        refine ⟨x, rfl, by omega, x, rfl, by omega, fun _ => by rw [← hm4]; exact g4, fun w => absurd w (by rw [mset_eq]; decide)⟩
      · have hc := bI_1.mp z
        rw [if_pos hc] at hv
        rw [bI_t ⟨hc, rfl⟩] at g4
        rw [hv] at hm4
        refine ⟨x, rfl, by omega, x, rfl, by omega, fun w => absurd mset_eq w, fun _ => by rw [← hm4]; exact g4⟩
    · by_cases hcg : can x = true ∧ allN (atG mm (psM mm x) (bmM mm x) (fun k => nI (dig x k))) nb = true
      · have hg : go x = true := by rw [hgo]; exact hcg.2
        have hne : ∀ i, i < many → q i ≠ x := fun i hi e => by have := (h2 i hi).2.1; omega
        obtain ⟨mm', DM, g1, g2, g3, g4⟩ := ih (mset (mset m4 79 x 0) 80 many (nI x)) (many + 1) (fun i => if i = many then x else q i) (fun c hc => by rw [mset_ne (by omega), mset_ne (by omega)]; exact f4 c hc) (by
          have w79 : ∀ y, y ≠ x → mset (mset m4 79 x 0) 80 many (nI x) 79 y = m 79 y := fun y hy => by
            rw [mset_ne (by decide), mset_ne2 (fun z => hy z.2), f79]; exact if_neg hy
          have w79x : mset (mset m4 79 x 0) 80 many (nI x) 79 x = 0 := by rw [mset_ne (by decide), mset_eq]
          have w80 : ∀ i, i ≠ many → mset (mset m4 79 x 0) 80 many (nI x) 80 i = m 80 i := fun i hi => by rw [mset_ne2 (fun z => hi z.2), mset_ne (by decide), f80]
          have w80x : mset (mset m4 79 x 0) 80 many (nI x) 80 many = nI x := mset_eq
          refine ⟨by omega, fun i hi => ?_, fun i j hij hj => ?_, fun y hy hny => ?_⟩
          · by_cases e : i = many
            · subst e
              simp only [if_true]
              exact ⟨w80x, by omega, hcg.1, hg, w79x⟩
            · obtain ⟨a1, a2, a3, a4, a5⟩ := h2 i (by omega)
              simp only [if_neg e]
              exact ⟨(w80 i e).trans a1, by omega, a3, a4, (w79 _ (hne i (by omega))).trans a5⟩
          · show (if i = many then x else q i) ≠ (if j = many then x else q j)
            rw [if_neg (by omega : ¬ i = many)]
            by_cases e : j = many
            · rw [if_pos e]; exact hne i (by omega)
            · rw [if_neg e]; exact h3 i j hij (by omega)
          · have e : y ≠ x := fun e => by
              have h9 : (if many = many then x else q many) ≠ y := hny many (by omega)
              rw [if_pos rfl] at h9
              exact h9 e.symm
            rw [w79 y e]
            exact h5 y (by omega) fun i hi => by
              have h9 : (if i = many then x else q i) ≠ y := hny i (by omega)
              rw [if_neg (by omega)] at h9
              exact h9)
        refine ⟨mm', DM, g1, g2, g3, bX10_findWays_61 ⟨fun _ => ⟨fun z => absurd hcg (bI_0.mp z), fun _ => ⟨x, rfl, by omega, many, rfl, by omega, by rw [nI_1, nI_1]; exact g4⟩⟩, fun z => absurd (by rw [f4 63 (by omega), hnb]; exact Int32.le_refl _) z⟩⟩
      · obtain ⟨mm', DM, g1, g2, g3, g4⟩ := ih m4 many q f4 (by
          refine ⟨by omega, fun i hi => ?_, h3, fun y hy hny => ?_⟩
          · obtain ⟨a1, a2, a3, a4, a5⟩ := h2 i hi
            rw [f80, f79]
            have e : upd (m 79) x v (q i) = m 79 (q i) := if_neg (by omega)
            exact ⟨a1, by omega, a3, a4, e.trans a5⟩
          · rw [f79]
            by_cases e : y = x
            · subst e
              have e2 : upd (m 79) y v y = v := if_pos rfl
              rw [e2, hv]
              exact ⟨rfl, fun w => hcg ⟨w.1, by have := w.2; rw [hgo] at this; exact this⟩⟩
            · have e2 : upd (m 79) x v y = m 79 y := if_neg e
              rw [e2]; exact h5 y (by omega) hny)
        exact ⟨mm', DM, g1, g2, g3, bX10_findWays_61 ⟨fun _ => ⟨fun _ => by rw [nI_1]; exact g4, fun z => absurd (bI_1.mp z) hcg⟩, fun z => absurd (by rw [f4 63 (by omega), hnb]; exact Int32.le_refl _) z⟩⟩
    · intro k hk ihk
      obtain ⟨mm', DM, g1, g2, g3, g4⟩ := ihk
      have lim : ¬ m4 63 8 ≤ nI k := by rw [f4 63 (by omega), hnb]; exact nI_ge hk (by omega)
      have ag := cm_isAtGoal (G := G) (mm := m4) (lm := lm) (k := k) (by omega)
      have eag : atG m4 (m4 76) (m4 77) (m4 78) k = atG mm (psM mm x) (bmM mm x) (fun k => nI (dig x k)) k := by
        unfold atG
        rw [f4 64 (by omega), (rows k hk).1, (rows k hk).2.1, (rows k hk).2.2]
      rw [eag] at ag
      refine ⟨mm', DM, g1, g2, g3, bX10_findWays_61 ⟨fun z => absurd z lim, fun _ => ⟨fun z => ?_, fun z => ⟨_, ag, fun z2 => ?_, fun z2 => ?_⟩⟩⟩⟩
      · have h0 := bI_0.mp z
        have e : ¬ (can x = true ∧ allN (atG mm (psM mm x) (bmM mm x) (fun k => nI (dig x k))) (k + 1) = true) := fun w => h0 ⟨w.1, by have := w.2; simp only [allN, Bool.and_eq_true] at this; exact this.1⟩
        rw [bI_f e] at g4
        rw [nI_1]; exact g4
      · have e : ¬ (can x = true ∧ allN (atG mm (psM mm x) (bmM mm x) (fun k => nI (dig x k))) (k + 1) = true) := fun w => bI_0.mp z2 (by have := w.2; simp only [allN, Bool.and_eq_true] at this; exact this.2)
        rw [bI_f e] at g4
        rw [nI_1]; exact g4
      · have e : can x = true ∧ allN (atG mm (psM mm x) (bmM mm x) (fun k => nI (dig x k))) (k + 1) = true := ⟨(bI_1.mp z).1, allN_s (bI_1.mp z).2 (bI_1.mp z2)⟩
        rw [bI_t e] at g4
        rw [nI_1]; exact g4
end MWay
