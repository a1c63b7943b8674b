/-! ===== the class's search for the way ===== -/
/-- allowed, as the class sees it -/
def alB (mm : Nat → Nat → Int32) (nb nm A : Nat) : Bool := decide (orN (fun b => decide (mm 6 b < absI (moA (bmF mm A) (psF mm A) (mm 7) nb b))) nm = 0) && decide (cntP (conB (bmF mm A) (psF mm A) (mm 8)) nb = 0)
def hgB (mm : Nat → Nat → Int32) (k : Nat) : Bool := decide (¬ mm (23 + k) 0 = -1)
def plB (mm : Nat → Nat → Int32) (k : Nat) : Bool := decide (¬ mm (23 + k) 2 = -1 ∧ ¬ (mm (23 + k) 2 = mm (23 + k) 0 ∧ mm (23 + k) 3 = mm (23 + k) 1))
abbrev nxB (mm : Nat → Nat → Int32) (nb : Nat) : Nat → Nat → Option Nat := nxC nb (hgB mm) (plB mm)
abbrev orgN (mm : Nat → Nat → Int32) (nb : Nat) : Nat := arrN (preD mm) nb
abbrev goaN (mm : Nat → Nat → Int32) (nb : Nat) : Nat := arrN (goaD mm) nb
theorem eqR_bm {mm m : Nat → Nat → Int32} (e : EqR mm m) {k : Nat} (hk : k < 8) (A : Nat) : bmF m A k = bmF mm A k ∧ psF m A k = psF mm A k := by
  unfold bmF psF
  rw [e (23 + k) 0 (rel_b hk), e (23 + k) 1 (rel_b hk), e (23 + k) 2 (rel_b hk), e (23 + k) 3 (rel_b hk)]
  exact ⟨rfl, rfl⟩
theorem eqR_al {mm m : Nat → Nat → Int32} (e : EqR mm m) {nb : Nat} (h8 : nb ≤ 8) (nm A : Nat) : alB m nb nm A = alB mm nb nm A := by
  have e6 : m 6 = mm 6 := eqR_row e (fun _ => rfl)
  have e7 : m 7 = mm 7 := eqR_row e (fun _ => rfl)
  have e8 : m 8 = mm 8 := eqR_row e (fun _ => rfl)
  unfold alB
  rw [e6, e7, e8]
  have h1 : orN (fun b => decide (mm 6 b < absI (moA (bmF m A) (psF m A) (mm 7) nb b))) nm = orN (fun b => decide (mm 6 b < absI (moA (bmF mm A) (psF mm A) (mm 7) nb b))) nm := orN_congr fun b _ => by
    have : moA (bmF m A) (psF m A) (mm 7) nb b = moA (bmF mm A) (psF mm A) (mm 7) nb b := sumN_congr fun k hk => by
      rw [(eqR_bm e (by omega) A).1, (eqR_bm e (by omega) A).2]
    rw [this]
  have h2 : cntP (conB (bmF m A) (psF m A) (mm 8)) nb = cntP (conB (bmF mm A) (psF mm A) (mm 8)) nb := cntP_congr fun k o hk ho => by
    unfold conB
    rw [(eqR_bm e (by omega) A).1, (eqR_bm e (by omega) A).2, (eqR_bm e (k := o) (by omega) A).1, (eqR_bm e (k := o) (by omega) A).2]
  rw [h1, h2]
theorem eqR_nx {mm m : Nat → Nat → Int32} (e : EqR mm m) {k : Nat} (hk : k < 8) : hgB m k = hgB mm k ∧ plB m k = plB mm k := by
  unfold hgB plB
  rw [e (23 + k) 0 (rel_b hk), e (23 + k) 1 (rel_b hk), e (23 + k) 2 (rel_b hk), e (23 + k) 3 (rel_b hk)]
  exact ⟨rfl, rfl⟩
theorem nxC_at {nb : Nat} {hg pl : Nat → Bool} {x b v : Nat} (hb : b < nb) (hv : v < 3) : nxC nb hg pl x (3 * b + v) = if (v = 1 → hg b = true) ∧ (v = 2 → pl b = true) ∧ ¬ (dig x b = 0 ↔ v = 0) then some (setd x b v) else none := by
  have e1 : (3 * b + v) / 3 = b := by omega
  have e2 : (3 * b + v) % 3 = v := by omega
  unfold nxC aftM
  rw [e1, e2]
  by_cases h1 : (v = 1 → hg b = true) ∧ (v = 2 → pl b = true)
  · rw [if_pos ⟨hb, h1.1, h1.2⟩]
    by_cases h2 : (dig x b = 0 ↔ v = 0)
    · rw [if_pos h2, if_neg fun z => z.2.2 h2]
    · rw [if_neg h2, if_pos ⟨h1.1, h1.2, h2⟩]
  · rw [if_neg fun z => h1 ⟨z.2.1, z.2.2⟩, if_neg fun z => h1 ⟨z.1, z.2.1⟩]
theorem nxC_none {nb : Nat} {hg pl : Nat → Bool} {x c : Nat} (h : 3 * nb ≤ c) : nxC nb hg pl x c = none := if_neg fun z => by omega
theorem nxB_no {mm : Nat → Nat → Int32} {nb x b v : Nat} (hb : b < nb) (hv : v < 3) (h : ¬ ((v = 1 → hgB mm b = true) ∧ (v = 2 → plB mm b = true) ∧ ¬ (dig x b = 0 ↔ v = 0))) : nxB mm nb x (3 * b + v) = none := by
  show nxC nb (hgB mm) (plB mm) x (3 * b + v) = none
  rw [nxC_at hb hv, if_neg h]
theorem nxB_yes {mm : Nat → Nat → Int32} {nb x b v : Nat} (hb : b < nb) (hv : v < 3) (h : (v = 1 → hgB mm b = true) ∧ (v = 2 → plB mm b = true) ∧ ¬ (dig x b = 0 ↔ v = 0)) : nxB mm nb x (3 * b + v) = some (setd x b v) := by
  show nxC nb (hgB mm) (plB mm) x (3 * b + v) = some (setd x b v)
  rw [nxC_at hb hv, if_pos h]
section Way
variable {G : Gx} {mm : Nat → Nat → Int32} {lm : Nat → Int64} {nb nm : Nat}
theorem c_allowed (hnb : mm 4 9 = nI nb) (h8 : nb ≤ 8) (hnm : mm 4 8 = nI nm) (h4 : nm ≤ 4) {A : Nat} (hA : A < 6561) (hb : ∀ k, k < nb → bmP (mm (23 + k) 0) ∧ bmP (mm (23 + k) 2)) : ∃ mm', EqR mm mm' ∧ (∀ c, c < 35 ∨ 37 < c → mm' c = mm c) ∧ Ct G M_X4_allowed [.ref 32, .int (nI A)] (SH, mm, lm) false (.inl (some (.int (bI (alB mm nb nm A = true))))) (SH, mm', lm) false 0 0 := by
  obtain ⟨m1, e1, e2, e3, e4, ct⟩ := c_arrange (G := G) (lm := lm) hnb h8 hA hb
  have hu := c_unbalancedThere (G := G) (mm := m1) (lm := lm) ((e1 4 8 rfl).trans hnm) h4
  have hc := c_conflictsThere (G := G) (mm := m1) (lm := lm) ((e1 4 9 rfl).trans hnb) h8
  rw [orN_congr (p := fun b => decide (m1 6 b < absI (m1 37 b))) (q := fun b => decide (mm 6 b < absI (moA (bmF mm A) (psF mm A) (mm 7) nb b))) (fun b hb2 => by simp only [e1 6 b rfl, e4 b (by omega)])] at hu
  rw [cntP_congr (p := conB (m1 35) (m1 36) (m1 8)) (q := conB (bmF mm A) (psF mm A) (mm 8)) (fun k o hk ho => by
    unfold conB
    rw [(e3 k hk).1, (e3 k hk).2, (e3 o (by omega)).1, (e3 o (by omega)).2, eqR_row e1 (c := 8) (fun _ => rfl)])] at hc
  have hle := cntP_le (conB (bmF mm A) (psF mm A) (mm 8)) nb
  have hle2 : nb * nb ≤ 8 * 8 := Nat.mul_le_mul h8 h8
  refine ⟨m1, e1, e2, CJ (bX4_allowed_0 ⟨m1, ct, _, hu, fun z => ?_, fun z => ⟨_, hc, fun z2 => ?_, fun z2 => ?_⟩⟩)⟩
  · have e : ¬ alB mm nb nm A = true := fun y => by
      simp only [alB, Bool.and_eq_true, decide_eq_true_eq] at y
      exact z y.1
    rw [bI_f e]; exact ⟨rfl, rfl⟩
  · have e : ¬ alB mm nb nm A = true := fun y => by
      simp only [alB, Bool.and_eq_true, decide_eq_true_eq] at y
      exact z2 (by rw [y.2]; rfl)
    rw [bI_f e]; exact ⟨rfl, rfl⟩
  · have e : alB mm nb nm A = true := by
      simp only [alB, Bool.and_eq_true, decide_eq_true_eq]
      exact ⟨z, (nI_eq (b := 0) (by omega) (by omega)).mp z2⟩
    rw [bI_t e]; exact ⟨rfl, rfl⟩
/-- the search under way, at the code cc of the queue's number cur, that is x -/
def PSt (mm : Nat → Nat → Int32) (nb nm cur x : Nat) (m : Nat → Nat → Int32) (n cc : Nat) : Prop :=
  EqR mm m ∧ m 32 8 = nI (goaN mm nb) ∧ m 32 7 = nI n ∧ cur < n ∧ m 34 cur = nI x ∧ BfI (alB mm nb nm) (nxB mm nb) (m 33) (m 34) n (orgN mm nb) cur cc
theorem ps_skip {cur x n cc : Nat} {m : Nat → Nat → Int32} (h : PSt mm nb nm cur x m n cc) (hx : x < 6561) (hn : nxB mm nb x cc = none) : PSt mm nb nm cur x m n (cc + 1) :=
  ⟨h.1, h.2.1, h.2.2.1, h.2.2.2.1, h.2.2.2.2.1, bf_skip h.2.2.2.2.2 h.2.2.2.2.1 hx h.2.2.2.1 hn⟩
theorem c_reach (hnb : mm 4 9 = nI nb) (h8 : nb ≤ 8) (hnm : mm 4 8 = nI nm) (h4 : nm ≤ 4) (hb : ∀ k, k < nb → bmP (mm (23 + k) 0) ∧ bmP (mm (23 + k) 2)) {cur x n cc y : Nat} {m : Nat → Nat → Int32} (h : PSt mm nb nm cur x m n cc) (hx : x < 6561) (hcc : cc < 32) (hn : nxB mm nb x cc = some y) (hy : y < 6561) :
    ∃ m' n', PSt mm nb nm cur x m' n' (cc + 1) ∧ Ct G M_X4_reach [.ref 32, .int (nI y), .int (nI x), .int (nI cc)] (SH, m, lm) false (.inl none) (SH, m', lm) false 0 0 := by
  obtain ⟨e, hg, h7, hcn, hq, hB⟩ := h
  obtain ⟨s1, s2, s3⟩ := bf_step hB hq hx hcn hcc hn hy
  by_cases hr : m 33 y = -1
  · obtain ⟨m4, e4, f4, ct⟩ := c_allowed (G := G) (mm := m) (lm := lm) (nb := nb) (nm := nm) ((e 4 9 rfl).trans hnb) h8 ((e 4 8 rfl).trans hnm) h4 hy (fun k hk => by rw [e (23 + k) 0 (rel_b (by omega)), e (23 + k) 2 (rel_b (by omega))]; exact hb k hk)
    rw [eqR_al e h8] at ct
    have r33 : m4 33 = m 33 := f4 33 (by omega)
    have r34 : m4 34 = m 34 := f4 34 (by omega)
    have r32 : m4 32 = m 32 := f4 32 (by omega)
    by_cases ha : alB mm nb nm y = true
    · obtain ⟨hlt, hB'⟩ := s3 hr ha
      obtain ⟨m5, hm5⟩ : ∃ m5, m5 = mset (mset m4 33 y (nI x * 32 + nI cc)) 34 n (nI y) := ⟨_, rfl⟩
      have g7 : mset m4 33 y (nI x * 32 + nI cc) 32 7 = nI n := by rw [mset_ne (by decide), r32]; exact h7
      have g7' : m5 32 7 = nI n := by rw [hm5, mset_ne (by decide)]; exact g7
      have ev : nI x * 32 + nI cc = nI (32 * x + cc) := by rw [show (32 : Int32) = nI 32 from rfl, nI_mul, nI_add, Nat.mul_comm]
      refine ⟨mset m5 32 7 (m5 32 7 + 1), n + 1, ⟨?_, ?_, ?_, by omega, ?_, ?_⟩, CJ (bX4_reach_0 ⟨fun z => absurd z (nI_pos (by omega)), fun _ => ⟨fun z => absurd z (lit_ge (n := 6561) rfl hy (by omega)), fun _ => ⟨y, rfl, hy, fun _ => ⟨_, m4, ct, fun _ => ⟨fun z => absurd z ?_, fun _ => ⟨y, rfl, hy, n, g7, hlt, rfl, by rw [hm5]⟩⟩, fun z => absurd ha (bI_0.mp z)⟩, fun z => absurd hr z⟩⟩⟩)⟩
      · rw [hm5]; exact (((e.trans e4).mset rfl).mset rfl).mset rfl
      · rw [mset_ne2 (fun z => absurd z.2 (by decide)), hm5, mset_ne (by decide), mset_ne (by decide), r32]; exact hg
      · rw [mset_eq, g7', nI_1]
      · rw [mset_ne (by decide), hm5, mset_ne2 (fun z => by omega), mset_ne (by decide), r34]; exact hq
      · have w33 : mset m5 32 7 (m5 32 7 + 1) 33 = upd (m 33) y (nI (32 * x + cc)) := by rw [mset_ne (by decide), hm5, mset_ne (by decide), mset_at, r33, ev]
        have w34 : mset m5 32 7 (m5 32 7 + 1) 34 = upd (m 34) n (nI y) := by rw [mset_ne (by decide), hm5, mset_at, mset_ne (by decide), r34]
        rw [w33, w34]; exact hB'
      · rw [r32, h7]; exact lit_ge (n := 6561) rfl hlt (by omega)
    · have ha' : alB mm nb nm y = false := Bool.eq_false_iff.mpr ha
      refine ⟨mset m4 33 y (-2), n, ⟨(e.trans e4).mset rfl, by rw [mset_ne (by decide), r32]; exact hg, by rw [mset_ne (by decide), r32]; exact h7, hcn, by rw [mset_ne (by decide), r34]; exact hq, ?_⟩, CJ (bX4_reach_0 ⟨fun z => absurd z (nI_pos (by omega)), fun _ => ⟨fun z => absurd z (lit_ge (n := 6561) rfl hy (by omega)), fun _ => ⟨y, rfl, hy, fun _ => ⟨_, m4, ct, fun z => absurd (bI_1.mp z) ha, fun _ => ⟨y, rfl, hy, rfl, rfl⟩⟩, fun z => absurd hr z⟩⟩⟩)⟩
      have w33 : mset m4 33 y (-2) 33 = upd (m 33) y (-2) := by rw [mset_at, r33]
      have w34 : mset m4 33 y (-2) 34 = m 34 := by rw [mset_ne (by decide), r34]
      rw [w33, w34]; exact s2 hr ha'
  · exact ⟨m, n, ⟨e, hg, h7, hcn, hq, s1 hr⟩, CJ (bX4_reach_0 ⟨fun z => absurd z (nI_pos (by omega)), fun _ => ⟨fun z => absurd z (lit_ge (n := 6561) rfl hy (by omega)), fun _ => ⟨y, rfl, hy, fun z => absurd z hr, fun _ => ⟨rfl, rfl⟩⟩⟩⟩)⟩
theorem c_stepFrom (hnb : mm 4 9 = nI nb) (h8 : nb ≤ 8) (hnm : mm 4 8 = nI nm) (h4 : nm ≤ 4) (hb : ∀ k, k < nb → bmP (mm (23 + k) 0) ∧ bmP (mm (23 + k) 2)) {cur x n : Nat} {m : Nat → Nat → Int32} (h : PSt mm nb nm cur x m n 0) (hx : x < 3 ^ nb) :
    ∃ m' n', PSt mm nb nm cur x m' n' (3 * nb) ∧ Ct G M_X4_stepFrom [.ref 32, .int (nI x)] (SH, m, lm) false (.inl none) (SH, m', lm) false 0 0 := by
  have hx6 : x < 6561 := Nat.lt_of_lt_of_le hx (pow_le8 h8)
  have key := loop_up (n := nb) (P := fun b => ∀ m n, PSt mm nb nm cur x m n (3 * b) → ∃ m' n', PSt mm nb nm cur x m' n' (3 * nb) ∧ J G M_X4_stepFrom 2 [(0, .ref 32), (1, .int (nI x)), (2, .int (nI b))] [] (SH, m, lm) false (.inl none) (SH, m', lm) false 0 0) ?_ ?_ 0 (Nat.zero_le _) m n h
  · obtain ⟨m', n', h1, h2⟩ := key
    exact ⟨m', n', h1, CJ (bX4_stepFrom_0 h2)⟩
  · intro m n h
    exact ⟨m, n, h, bX4_stepFrom_2 ⟨fun _ => ⟨rfl, rfl⟩, fun z => absurd (le_nI' ((h.1 4 9 rfl).trans hnb)) z⟩⟩
  · intro b hbn ih m n h
    have hnb' : m 4 9 = nI nb := (h.1 4 9 rfl).trans hnb
    have hb8 : b < 8 := by omega
    have hd := dig_lt x b
    have P3 : 0 < 3 ^ b := Nat.pow_pos (by omega)
    have P8 : 3 ^ b ≤ 3 ^ 8 := Nat.pow_le_pow_right (by omega) (by omega)
    have v0 := setd_val x b 0
    have v1 := setd_val x b 1
    have v2 := setd_val x b 2
    rw [Nat.mul_zero, Nat.add_zero] at v0
    have edp : nI x - nI (dig x b) * tl_1001.getD b 0 = nI (setd x b 0) := by
      rw [pw_nI b (by omega), nI_mul, Nat.mul_comm, pk_sub (by omega)]; congr 1; omega
    have s0 := setd_lt hx hbn (show 0 < 3 by omega)
    have s1 := setd_lt hx hbn (show 1 < 3 by omega)
    have s2 := setd_lt hx hbn (show 2 < 3 by omega)
    have hp8 := pow_le8 h8
    have sI := c_stateIn (G := G) (mm := m) (lm := lm) hx6 hb8
    have c0 : (3 : Int32) * nI b = nI (3 * b) := by rw [show (3 : Int32) = nI 3 from rfl, nI_mul]
    have c1 : (3 : Int32) * nI b + 1 = nI (3 * b + 1) := by rw [c0, nI_1]
    have c2 : (3 : Int32) * nI b + 2 = nI (3 * b + 2) := by rw [c0, show (2 : Int32) = nI 2 from rfl, nI_add]
    by_cases h0 : dig x b = 0
    · have ex0 : setd x b 0 = x := by rw [h0, Nat.mul_zero, Nat.add_zero] at v0; exact v0
      have cond : nI x - nI (dig x b) * tl_1001.getD b 0 = nI x := by rw [edp, ex0]
      have e1 : (nI x - nI (dig x b) * tl_1001.getD b 0) + 1 * tl_1001.getD b 0 = nI (setd x b 1) := by
        rw [cond, pw_nI b (by omega), show (1 : Int32) = nI 1 from rfl, nI_mul, nI_add]; congr 1; rw [h0] at v1; omega
      have e2 : (nI x - nI (dig x b) * tl_1001.getD b 0) + 2 * tl_1001.getD b 0 = nI (setd x b 2) := by
        rw [cond, pw_nI b (by omega), show (2 : Int32) = nI 2 from rfl, nI_mul, nI_add]; congr 1; rw [h0] at v2; omega
      have hA := ps_skip h hx6 (nxB_no (b := b) (v := 0) hbn (by omega) fun z => z.2.2 (by rw [h0]))
      -- the planned place, from a world m2 on
      have plan : ∀ m2 n2, PSt mm nb nm cur x m2 n2 (3 * b + 2) → plB mm b = true → ∃ m3 n3, PSt mm nb nm cur x m3 n3 (3 * (b + 1)) ∧ Ct G M_X4_reach [.ref 32, .int (nI (setd x b 2)), .int (nI x), .int (nI (3 * b + 2))] (SH, m2, lm) false (.inl none) (SH, m3, lm) false 0 0 := fun m2 n2 h2 hpl =>
        c_reach hnb h8 hnm h4 hb h2 hx6 (show 3 * b + 2 < 32 by omega) (nxB_yes hbn (by omega) ⟨fun z => absurd z (by decide), fun _ => hpl, fun z => absurd (z.mp h0) (by decide)⟩) (by omega)
      have noplan : ∀ m2 n2, PSt mm nb nm cur x m2 n2 (3 * b + 2) → ¬ plB mm b = true → PSt mm nb nm cur x m2 n2 (3 * (b + 1)) := fun m2 n2 h2 hpl =>
        ps_skip h2 hx6 (nxB_no hbn (by omega) fun z => hpl (z.2.1 rfl))
      have hasP : ∀ m2 n2, PSt mm nb nm cur x m2 n2 (3 * b + 2) → (¬ m2 (23 + b) 2 = -1 ↔ ¬ mm (23 + b) 2 = -1) ∧ ((¬ m2 (23 + b) 2 = -1 ∧ m2 (23 + b) 2 = m2 (23 + b) 0 ∧ m2 (23 + b) 3 = m2 (23 + b) 1) ↔ (¬ mm (23 + b) 2 = -1 ∧ mm (23 + b) 2 = mm (23 + b) 0 ∧ mm (23 + b) 3 = mm (23 + b) 1)) := fun m2 n2 h2 => by
        rw [h2.1 (23 + b) 0 (rel_b hb8), h2.1 (23 + b) 1 (rel_b hb8), h2.1 (23 + b) 2 (rel_b hb8), h2.1 (23 + b) 3 (rel_b hb8)]
        exact ⟨Iff.rfl, Iff.rfl⟩
      by_cases hh : mm (23 + b) 0 = -1
      · have hB := ps_skip hA hx6 (nxB_no hbn (by omega) fun z => (of_decide_eq_true (z.1 rfl) : ¬ mm (23 + b) 0 = -1) hh)
        have hP := hasP m n hB
        have hh' : m (23 + b) 0 = -1 := (h.1 (23 + b) 0 (rel_b hb8)).trans hh
        by_cases hpl : plB mm b = true
        · obtain ⟨m3, n3, h3, ct3⟩ := plan m n hB hpl
          obtain ⟨m', n', g1, g2⟩ := ih m3 n3 h3
          have q := of_decide_eq_true hpl
          refine ⟨m', n', g1, bX4_stepFrom_2 ⟨fun z => absurd z (le_nI hnb' hbn (by omega)), fun _ => ⟨_, sI, b, rfl, by omega, fun _ => ⟨b, rfl, hb8, _, c_hangs (sh_b23 hb8), fun _ => ⟨b, rfl, hb8, _, c_hasPlan (sh_b23 hb8), fun z => absurd (hP.1.mpr q.1) (bI_0.mp z), fun _ => ⟨b, rfl, hb8, _, c_pwih (sh_b23 hb8), fun z => absurd ((hP.2.mp (bI_1.mp z)).2) q.2, fun _ => ⟨b, rfl, by omega, m3, by rw [e2, c2]; exact ct3, by rw [nI_1]; exact g2⟩⟩⟩, fun z => absurd hh' (bI_1.mp z)⟩, fun z => absurd cond z⟩⟩⟩
        · obtain ⟨m', n', g1, g2⟩ := ih m n (noplan m n hB hpl)
          refine ⟨m', n', g1, bX4_stepFrom_2 ⟨fun z => absurd z (le_nI hnb' hbn (by omega)), fun _ => ⟨_, sI, b, rfl, by omega, fun _ => ⟨b, rfl, hb8, _, c_hangs (sh_b23 hb8), fun _ => ⟨b, rfl, hb8, _, c_hasPlan (sh_b23 hb8), fun _ => by rw [nI_1]; exact g2, fun z => ⟨b, rfl, hb8, _, c_pwih (sh_b23 hb8), fun _ => by rw [nI_1]; exact g2, fun z2 => absurd (decide_eq_true ⟨hP.1.mp (bI_1.mp z), fun w => bI_0.mp z2 (hP.2.mpr ⟨hP.1.mp (bI_1.mp z), w⟩)⟩) hpl⟩⟩, fun z => absurd hh' (bI_1.mp z)⟩, fun z => absurd cond z⟩⟩⟩
      · obtain ⟨m2, n2, h2, ct2⟩ := c_reach (G := G) (lm := lm) hnb h8 hnm h4 hb hA hx6 (show 3 * b + 1 < 32 by omega) (y := setd x b 1) (nxB_yes hbn (by omega) ⟨fun _ => decide_eq_true hh, fun z => absurd z (by decide), fun z => absurd (z.mp h0) (by decide)⟩) (by omega)
        have hP := hasP m2 n2 h2
        have hh' : ¬ m (23 + b) 0 = -1 := by rw [h.1 (23 + b) 0 (rel_b hb8)]; exact hh
        by_cases hpl : plB mm b = true
        · obtain ⟨m3, n3, h3, ct3⟩ := plan m2 n2 h2 hpl
          obtain ⟨m', n', g1, g2⟩ := ih m3 n3 h3
          have q := of_decide_eq_true hpl
          refine ⟨m', n', g1, bX4_stepFrom_2 ⟨fun z => absurd z (le_nI hnb' hbn (by omega)), fun _ => ⟨_, sI, b, rfl, by omega, fun _ => ⟨b, rfl, hb8, _, c_hangs (sh_b23 hb8), fun z => absurd hh' (bI_0.mp z), fun _ => ⟨b, rfl, by omega, m2, by rw [e1, c1]; exact ct2, b, rfl, hb8, _, c_hasPlan (sh_b23 hb8), fun z => absurd (hP.1.mpr q.1) (bI_0.mp z), fun _ => ⟨b, rfl, hb8, _, c_pwih (sh_b23 hb8), fun z => absurd ((hP.2.mp (bI_1.mp z)).2) q.2, fun _ => ⟨b, rfl, by omega, m3, by rw [e2, c2]; exact ct3, by rw [nI_1]; exact g2⟩⟩⟩⟩, fun z => absurd cond z⟩⟩⟩
        · obtain ⟨m', n', g1, g2⟩ := ih m2 n2 (noplan m2 n2 h2 hpl)
          refine ⟨m', n', g1, bX4_stepFrom_2 ⟨fun z => absurd z (le_nI hnb' hbn (by omega)), fun _ => ⟨_, sI, b, rfl, by omega, fun _ => ⟨b, rfl, hb8, _, c_hangs (sh_b23 hb8), fun z => absurd hh' (bI_0.mp z), fun _ => ⟨b, rfl, by omega, m2, by rw [e1, c1]; exact ct2, b, rfl, hb8, _, c_hasPlan (sh_b23 hb8), fun _ => by rw [nI_1]; exact g2, fun z => ⟨b, rfl, hb8, _, c_pwih (sh_b23 hb8), fun _ => by rw [nI_1]; exact g2, fun z2 => absurd (decide_eq_true ⟨hP.1.mp (bI_1.mp z), fun w => bI_0.mp z2 (hP.2.mpr ⟨hP.1.mp (bI_1.mp z), w⟩)⟩) hpl⟩⟩⟩, fun z => absurd cond z⟩⟩⟩
    · have hPd : 0 < 3 ^ b * dig x b := Nat.mul_pos P3 (by omega)
      have cond : ¬ nI x - nI (dig x b) * tl_1001.getD b 0 = nI x := by
        rw [edp]; exact fun z => by have := (nI_eq (by omega) (by omega)).mp z; omega
      obtain ⟨m2, n2, h2, ct2⟩ := c_reach (G := G) (lm := lm) hnb h8 hnm h4 hb h hx6 (show 3 * b < 32 by omega) (y := setd x b 0) (nxB_yes (v := 0) hbn (by omega) ⟨fun z => absurd z (by decide), fun z => absurd z (by decide), fun z => h0 (z.mpr rfl)⟩) (by omega)
      have h3 := ps_skip h2 hx6 (nxB_no (v := 1) hbn (by omega) fun z => z.2.2 ⟨fun w => absurd w h0, fun w => absurd w (by decide)⟩)
      have h5 : PSt mm nb nm cur x m2 n2 (3 * (b + 1)) := ps_skip h3 hx6 (nxB_no (v := 2) hbn (by omega) fun z => z.2.2 ⟨fun w => absurd w h0, fun w => absurd w (by decide)⟩)
      obtain ⟨m', n', g1, g2⟩ := ih m2 n2 h5
      exact ⟨m', n', g1, bX4_stepFrom_2 ⟨fun z => absurd z (le_nI hnb' hbn (by omega)), fun _ => ⟨_, sI, b, rfl, by omega, fun z => absurd z cond, fun _ => ⟨m2, by rw [edp, c0]; exact ct2, by rw [nI_1]; exact g2⟩⟩⟩⟩
theorem c_isReached {y : Nat} (hy : y < 6561) : Ct G M_X4_isReached [.ref 32, .int (nI y)] (SH, mm, lm) false (.inl (some (.int (bI (0 ≤ mm 33 y ∨ mm 33 y = -3))))) (SH, mm, lm) false 0 0 := by
  refine CJ (bX4_isReached_0 ⟨y, rfl, hy, fun z => ?_, fun z => ⟨y, rfl, hy, fun z2 => ?_, fun z2 => ?_⟩⟩)
  · rw [bI_t (Or.inl z)]; exact ⟨rfl, rfl⟩
  · rw [bI_f (fun w => w.elim z z2)]; exact ⟨rfl, rfl⟩
  · rw [bI_t (Or.inr z2)]; exact ⟨rfl, rfl⟩
theorem bq_reached {al : Nat → Bool} {nx : Nat → Nat → Option Nat} {R Q : Nat → Int32} {n org cur cc : Nat} {q p c : Nat → Nat} (B : BfQ al nx R Q n org cur cc q p c) {y : Nat} (hy : y < 6561) : (0 ≤ R y ∨ R y = -3) ↔ ∃ i, i < n ∧ q i = y := by
  constructor
  · intro h
    refine Classical.byContradiction fun z => ?_
    rcases B.2.2.2.2.2.1 y hy (fun i hi e => z ⟨i, hi, e⟩) with r | ⟨r, -⟩
    · rw [r] at h; exact absurd h (by decide)
    · rw [r] at h; exact absurd h (by decide)
  · rintro ⟨i, hi, e⟩
    by_cases h0 : i = 0
    · rw [h0, B.1.2.1] at e
      rw [← e]; exact Or.inr B.1.2.2
    · obtain ⟨a1, a2, a3, -⟩ := B.2.2.2.1 i (by omega) hi
      have a4 := (B.2.1 (p i) (by omega)).2
      rw [← e, a1]; exact Or.inl (nI_pos' (by omega))
/-- how the class's search ends -/
def FwR (mm : Nat → Nat → Int32) (nb nm : Nat) (m : Nat → Nat → Int32) (v : Int32) : Prop :=
  EqR mm m ∧ ((v = 0 ∧ alB mm nb nm (goaN mm nb) = false) ∨ ∃ n cur q p c, n ≤ 6561 ∧ BfQ (alB mm nb nm) (nxB mm nb) (m 33) (m 34) n (orgN mm nb) cur 0 q p c ∧ m 32 8 = nI (goaN mm nb) ∧
    ((v = 0 ∧ n ≤ cur ∧ ∀ i, i < n → q i ≠ goaN mm nb) ∨ (v = 1 ∧ ∃ i0, i0 < n ∧ q i0 = goaN mm nb)))
theorem c_findWay (hnb : mm 4 9 = nI nb) (h8 : nb ≤ 8) (hnm : mm 4 8 = nI nm) (h4 : nm ≤ 4) (hb : ∀ k, k < nb → bmP (mm (23 + k) 0) ∧ bmP (mm (23 + k) 2)) (hcn : ∀ (R Q : Nat → Int32) (n cur : Nat) (q p c : Nat → Nat), BfQ (alB mm nb nm) (nxB mm nb) R Q n (orgN mm nb) cur 0 q p c → ∀ i, i < n → q i < 3 ^ nb) :
    ∃ m' v, FwR mm nb nm m' v ∧ Ct G M_X4_findWay [.ref 32] (SH, mm, lm) false (.inl (some (.int v))) (SH, m', lm) false 0 0 := by
  have hp8 := pow_le8 h8
  have hg6 : goaN mm nb < 6561 := Nat.lt_of_lt_of_le (arrN_lt (goaD_lt mm) nb) hp8
  have ho6 : orgN mm nb < 6561 := Nat.lt_of_lt_of_le (arrN_lt (preD_lt mm) nb) hp8
  have loop := loop_up (n := 6561) (P := fun i => ∀ m n, EqR mm m → m 32 8 = nI (goaN mm nb) → m 32 7 = nI n → i ≤ n → BfI (alB mm nb nm) (nxB mm nb) (m 33) (m 34) n (orgN mm nb) i 0 → ∃ m' v, FwR mm nb nm m' v ∧ J G M_X4_findWay 70 [(0, .ref 32), (2, .int (nI i))] [] (SH, m, lm) false (.inl (some (.int v))) (SH, m', lm) false 0 0) ?_ ?_
  · obtain ⟨m0, hm0⟩ : ∃ m0, m0 = mset mm 32 8 (nI (goaN mm nb)) := ⟨_, rfl⟩
    have e0 : EqR mm m0 := by rw [hm0]; exact EqR.refl.mset rfl
    have fill := loop_up (n := 6561) (P := fun t => ∀ m, (∀ c, c ≠ 33 → m c = m0 c) → (∀ i, i < t → m 33 i = -1) → ∃ m' v, FwR mm nb nm m' v ∧ J G M_X4_findWay 15 [(0, .ref 32), (1, .int (nI (orgN mm nb))), (2, .int (nI t))] [] (SH, m, lm) false (.inl (some (.int v))) (SH, m', lm) false 0 0) ?_ ?_ 0 (Nat.zero_le _) m0 (fun _ _ => rfl) (fun i hi => absurd hi (Nat.not_lt_zero i))
    · obtain ⟨m', v, h1, h2⟩ := fill
      refine ⟨m', v, h1, CJ (bX4_findWay_0 ⟨_, c_presentArrangement hnb h8, _, c_goalArrangement hnb h8, ?_⟩)⟩
      rw [← hm0]; exact h2
    · intro m hm hR
      obtain ⟨m1, hm1⟩ : ∃ m1, m1 = mset (mset (mset m 33 (orgN mm nb) (-3)) 34 0 (nI (orgN mm nb))) 32 7 1 := ⟨_, rfl⟩
      have em : EqR mm m := fun c j hc => by
        by_cases h33 : c = 33
        · subst h33; cases hc
        · rw [hm c h33]; exact e0 c j hc
      have e1 : EqR mm m1 := by rw [hm1]; exact ((em.mset rfl).mset rfl).mset rfl
      have g8 : m1 32 8 = nI (goaN mm nb) := by rw [hm1, mset_ne2 (fun z => absurd z.2 (by decide)), mset_ne (by decide), mset_ne (by decide), hm 32 (by decide), hm0, mset_eq]
      obtain ⟨m5, e5, f5, ct⟩ := c_allowed (G := G) (mm := m1) (lm := lm) (nb := nb) (nm := nm) ((e1 4 9 rfl).trans hnb) h8 ((e1 4 8 rfl).trans hnm) h4 hg6 (fun k hk => by rw [e1 (23 + k) 0 (rel_b (by omega)), e1 (23 + k) 2 (rel_b (by omega))]; exact hb k hk)
      rw [eqR_al e1 h8] at ct
      have start : BfI (alB mm nb nm) (nxB mm nb) (m5 33) (m5 34) 1 (orgN mm nb) 0 0 := by
        rw [f5 33 (by omega), f5 34 (by omega)]
        refine bf_start ho6 (fun y hy hne => ?_) ?_ ?_
        · rw [hm1, mset_ne (by decide), mset_ne (by decide), mset_ne2 (fun z => hne z.2)]; exact hR y hy
        · rw [hm1, mset_ne (by decide), mset_ne (by decide), mset_eq]
        · rw [hm1, mset_ne (by decide), mset_eq]
      by_cases ha : alB mm nb nm (goaN mm nb) = true
      · obtain ⟨m', v, q1, q2⟩ := loop 0 (Nat.zero_le _) m5 1 (e1.trans e5) (by rw [f5 32 (by omega)]; exact g8) (by rw [f5 32 (by omega), hm1, mset_eq]; rfl) (by omega) start
        refine ⟨m', v, q1, bX4_findWay_15 ⟨fun _ => ⟨orgN mm nb, rfl, ho6, 0, rfl, by omega, _, m5, ?_, fun _ => q2, fun z => absurd ha (bI_0.mp z)⟩, fun z => absurd (lit_le (n := 6561) rfl) z⟩⟩
        rw [← hm1, g8]; exact ct
      · refine ⟨m5, 0, ⟨e1.trans e5, Or.inl ⟨rfl, Bool.eq_false_iff.mpr ha⟩⟩, bX4_findWay_15 ⟨fun _ => ⟨orgN mm nb, rfl, ho6, 0, rfl, by omega, _, m5, ?_, fun z => absurd (bI_1.mp z) ha, fun _ => ⟨rfl, rfl⟩⟩, fun z => absurd (lit_le (n := 6561) rfl) z⟩⟩
        rw [← hm1, g8]; exact ct
    · intro t ht ih m hm hR
      obtain ⟨m', v, q1, q2⟩ := ih (mset m 33 t (-1)) (fun c hc => by rw [mset_ne hc]; exact hm c hc) (fun i hi => by
        by_cases hit : i = t
        · rw [hit]; exact mset_eq
        · rw [mset_ne2 (fun z => hit z.2)]; exact hR i (by omega))
      refine ⟨m', v, q1, bX4_findWay_15 ⟨fun z => absurd z (lit_ge (n := 6561) rfl ht (by omega)), fun _ => ⟨t, rfl, ht, ?_⟩⟩⟩
      rw [nI_1]; exact q2
  · intro m n e g8 g7 hin hB
    obtain ⟨hn9, q, p, c, B⟩ := hB
    have hni : n = 6561 := by omega
    have iR := c_isReached (G := G) (mm := m) (lm := lm) hg6
    have key : ∃ v, FwR mm nb nm m v ∧ v = bI (0 ≤ m 33 (goaN mm nb) ∨ m 33 (goaN mm nb) = -3) := by
      by_cases hr : 0 ≤ m 33 (goaN mm nb) ∨ m 33 (goaN mm nb) = -3
      · exact ⟨1, ⟨e, Or.inr ⟨n, 6561, q, p, c, hn9, B, g8, Or.inr ⟨rfl, (bq_reached B hg6).mp hr⟩⟩⟩, (bI_t hr).symm⟩
      · exact ⟨0, ⟨e, Or.inr ⟨n, 6561, q, p, c, hn9, B, g8, Or.inl ⟨rfl, by omega, fun i hi z => hr ((bq_reached B hg6).mpr ⟨i, hi, z⟩)⟩⟩⟩, (bI_f hr).symm⟩
    obtain ⟨v, h1, h2⟩ := key
    refine ⟨m, v, h1, bX4_findWay_70 ⟨fun _ => ⟨_, by rw [g8]; exact iR, bI_b, by rw [h2]; exact ⟨rfl, rfl⟩⟩, fun z => absurd (by rw [g7, hni]; exact Int32.le_refl _) z⟩⟩
  · intro i hi ih m n e g8 g7 hin hB
    have hB0 := hB
    obtain ⟨hn9, q, p, c, B⟩ := hB
    have iR := c_isReached (G := G) (mm := m) (lm := lm) hg6
    by_cases hr : 0 ≤ m 33 (goaN mm nb) ∨ m 33 (goaN mm nb) = -3
    · rw [bI_t hr] at iR
      refine ⟨m, 1, ⟨e, Or.inr ⟨n, i, q, p, c, hn9, B, g8, Or.inr ⟨rfl, (bq_reached B hg6).mp hr⟩⟩⟩, bX4_findWay_70 ⟨fun _ => ⟨_, by rw [g8]; exact iR, rfl, rfl, rfl⟩, fun _ => ⟨fun z => absurd z (lit_ge (n := 6561) rfl hi (by omega)), fun _ => ⟨_, by rw [g8]; exact iR, fun _ => ⟨_, by rw [g8]; exact iR, rfl, rfl, rfl⟩, fun z => absurd z (by decide)⟩⟩⟩⟩
    · rw [bI_f hr] at iR
      by_cases hni : n ≤ i
      · exact ⟨m, 0, ⟨e, Or.inr ⟨n, i, q, p, c, hn9, B, g8, Or.inl ⟨rfl, hni, fun i hi z => hr ((bq_reached B hg6).mpr ⟨i, hi, z⟩)⟩⟩⟩, bX4_findWay_70 ⟨fun _ => ⟨_, by rw [g8]; exact iR, rfl, rfl, rfl⟩, fun z => absurd (by rw [g7]; exact nI_le hni (by omega)) z⟩⟩
      · obtain ⟨a1, a2⟩ := B.2.1 i (by omega)
        have hx3 := hcn _ _ _ _ _ _ _ B i (by omega)
        obtain ⟨m2, n2, h2, ct⟩ := c_stepFrom (G := G) (lm := lm) hnb h8 hnm h4 hb (cur := i) (x := q i) (m := m) (n := n) ⟨e, g8, g7, by omega, a1, hB0⟩ hx3
        obtain ⟨b1, b2, b3, b4, b5, b6⟩ := h2
        obtain ⟨m', v, q1, q2⟩ := ih m2 n2 b1 b2 b3 (by omega) (bf_next b6 b5 a2 b4 (fun c' hc' => nxC_none hc'))
        refine ⟨m', v, q1, bX4_findWay_70 ⟨fun z => absurd z (by rw [g7]; exact nI_ge (by omega) (by omega)), fun _ => ⟨fun z => absurd z (lit_ge (n := 6561) rfl hi (by omega)), fun _ => ⟨_, by rw [g8]; exact iR, fun z => absurd rfl z, fun _ => ⟨i, rfl, hi, m2, by rw [a1]; exact ct, by rw [nI_1]; exact q2⟩⟩⟩⟩⟩
end Way
section Chain
variable {G : Gx} {m : Nat → Nat → Int32} {lm : Nat → Int64} {nb n cur org g i0 k : Nat} {al : Nat → Bool} {nx : Nat → Nat → Option Nat} {q p c : Nat → Nat}
theorem c_countSteps (B : BfQ al nx (m 33) (m 34) n org cur 0 q p c) (hn : n ≤ 6561) (hg : m 32 8 = nI g) (C : Chn g n q p i0 k) (hk : k ≤ i0) (hch : ∀ t, t ≤ k → pit p t i0 < n) : Ct G M_X4_countSteps [.ref 32] (SH, m, lm) false (.inl (some (.int (nI k)))) (SH, m, lm) false 0 0 := by
  refine CJ (bX4_countSteps_0 ?_)
  have hi := C.1
  have key := loop_up (n := k) (P := fun t => J G M_X4_countSteps 7 [(0, .ref 32), (1, .int (nI t)), (2, .int (nI (q (pit p t i0))))] [] (SH, m, lm) false (.inl (some (.int (nI k)))) (SH, m, lm) false 0 0) ?_ ?_ 0 (Nat.zero_le _)
  · rw [hg, ← C.2.1]; exact key
  · have e := C.2.2.1
    have ho : org < 6561 := by have := (B.2.1 0 B.1.1).2; rw [B.1.2.1] at this; exact this
    rw [e, B.1.2.1]
    exact bX4_countSteps_7 ⟨fun z => absurd z (lit_ge (n := 6561) rfl (by omega) (by omega)), fun _ => ⟨org, rfl, ho, fun _ => ⟨rfl, rfl⟩, fun z => absurd (by rw [B.1.2.2]; decide) z⟩⟩
  · intro t ht ih
    have h1 := C.2.2.2 t ht
    have h2 := hch t (by omega)
    obtain ⟨a1, a2, a3, -⟩ := B.2.2.2.1 (pit p t i0) h1 h2
    have a4 := (B.2.1 _ h2).2
    have a5 := (B.2.1 (p (pit p t i0)) (by omega)).2
    refine bX4_countSteps_7 ⟨fun z => absurd z (lit_ge (n := 6561) rfl (by omega) (by omega)), fun _ => ⟨q (pit p t i0), rfl, a4, fun z => absurd z (by rw [a1]; exact nI_pos (by omega)), fun _ => ⟨q (pit p t i0), rfl, a4, ?_⟩⟩⟩
    rw [a1, show (32 : Int32) = nI 32 from rfl, pk_div (by omega) (by omega) (by omega), nI_1, show (32 * q (p (pit p t i0)) + c (pit p t i0)) / 32 = q (p (pit p t i0)) by omega]
    exact ih
theorem c_stepOfWay (B : BfQ al nx (m 33) (m 34) n org cur 0 q p c) (hn : n ≤ 6561) (hg : m 32 8 = nI g) (C : Chn g n q p i0 k) (hk : k ≤ i0) (hch : ∀ t, t ≤ k → pit p t i0 < n) {X : Nat} (hX : X < 2 ^ 31) : Ct G M_X4_stepOfWay [.ref 32, .int (nI X)] (SH, m, lm) false (.inl (some (.int (if X < k then nI (c (pit p (k - 1 - X) i0)) else -3)))) (SH, m, lm) false 0 0 := by
  have hi := C.1
  have t1 : (nI k - 1).toInt = (k : Int) - 1 := by rw [fb_subI (by rw [nI_toInt (by omega), show (1 : Int32).toInt = 1 from rfl]; omega) (by rw [nI_toInt (by omega), show (1 : Int32).toInt = 1 from rfl]; omega), nI_toInt (by omega)]; rfl
  have t2 : (nI k - 1 - nI X).toInt = (k : Int) - 1 - X := by rw [fb_subI (by rw [t1, nI_toInt hX]; omega) (by rw [t1, nI_toInt hX]; omega), t1, nI_toInt hX]
  by_cases hXk : X < k
  · rw [if_pos hXk]
    have e1 : nI k - 1 - nI X = nI (k - 1 - X) := by rw [fa_eq, t2, nI_toInt (by omega)]; omega
    refine CJ (bX4_stepOfWay_0 ⟨_, c_countSteps B hn hg C hk hch, fun _ => ?_, fun z => absurd (by rw [e1]; exact nI_pos' (by omega)) z⟩)
    rw [e1, hg, ← C.2.1]
    refine loop_up (n := k - 1 - X) (P := fun t => J G M_X4_stepOfWay 24 [(0, .ref 32), (2, .int (nI (k - 1 - X))), (3, .int (nI (q (pit p t i0)))), (4, .int (nI t))] [] (SH, m, lm) false (.inl (some (.int (nI (c (pit p (k - 1 - X) i0)))))) (SH, m, lm) false 0 0) ?_ ?_ 0 (Nat.zero_le _)
    · have h1 := C.2.2.2 (k - 1 - X) (by omega)
      have h2 := hch (k - 1 - X) (by omega)
      obtain ⟨a1, a2, a3, -⟩ := B.2.2.2.1 _ h1 h2
      have a4 := (B.2.1 _ h2).2
      have a5 := (B.2.1 (p (pit p (k - 1 - X) i0)) (by omega)).2
      refine bX4_stepOfWay_24 ⟨fun _ => ⟨_, rfl, a4, ?_⟩, fun z => absurd (Int32.le_refl _) z⟩
      rw [a1, show (32 : Int32) = nI 32 from rfl, pk_rem (by omega) (by omega) (by omega), show (32 * q (p (pit p (k - 1 - X) i0)) + c (pit p (k - 1 - X) i0)) % 32 = c (pit p (k - 1 - X) i0) by omega]
      exact ⟨rfl, rfl⟩
    · intro t ht ih
      have h1 := C.2.2.2 t (by omega)
      have h2 := hch t (by omega)
      obtain ⟨a1, a2, a3, -⟩ := B.2.2.2.1 _ h1 h2
      have a4 := (B.2.1 _ h2).2
      have a5 := (B.2.1 (p (pit p t i0)) (by omega)).2
      refine bX4_stepOfWay_24 ⟨fun z => absurd z (nI_ge ht (by omega)), fun _ => ⟨_, rfl, a4, fun z => absurd z (by rw [a1]; exact nI_pos (by omega)), fun _ => ⟨_, rfl, a4, ?_⟩⟩⟩
      rw [a1, show (32 : Int32) = nI 32 from rfl, pk_div (by omega) (by omega) (by omega), nI_1, show (32 * q (p (pit p t i0)) + c (pit p t i0)) / 32 = q (p (pit p t i0)) by omega]
      exact ih
  · rw [if_neg hXk]
    exact CJ (bX4_stepOfWay_0 ⟨_, c_countSteps B hn hg C hk hch, fun z => absurd z (by rw [fa_le, t2, z_toI]; omega), fun _ => ⟨rfl, rfl⟩⟩)
end Chain
