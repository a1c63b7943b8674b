/-! ===== reading tokens: the class's and the reference's ===== -/
theorem nI_subN {a b : Nat} (h : b ≤ a) : nI a - nI b = nI (a - b) := by
  have e : nI a = nI (a - b) + nI b := by rw [nI_add]; exact congrArg nI (by omega)
  rw [e, Int32.add_sub_cancel]
def isBl (x : Nat) : Bool := decide (x = 32 ∨ x = 10)
def isLe (x : Nat) : Bool := decide (97 ≤ x ∧ x ≤ 122)
def isDi (x : Nat) : Bool := decide (48 ≤ x ∧ x ≤ 57)
/-- the first place from p on, below n, whose byte f refuses; n if there is none -/
def runG (f : Nat → Bool) (b : Nat → Nat) : Nat → Nat → Nat
  | 0, p => p
  | k + 1, p => if f (b p) = true then runG f b k (p + 1) else p
def runT (f : Nat → Bool) (b : Nat → Nat) (n p : Nat) : Nat := runG f b (n - p) p
section Run
variable {f : Nat → Bool} {b : Nat → Nat} {n : Nat}
theorem run_end {p : Nat} (h : n ≤ p) : runT f b n p = p := by unfold runT; rw [show n - p = 0 by omega]; rfl
theorem run_go {p : Nat} (h : p < n) (hf : f (b p) = true) : runT f b n p = runT f b n (p + 1) := by
  unfold runT; rw [show n - p = (n - (p + 1)) + 1 by omega]; show (if _ then _ else _) = _; rw [if_pos hf]
theorem run_stop {p : Nat} (hf : ¬ f (b p) = true) : runT f b n p = p := by
  by_cases h : p < n
  · unfold runT; rw [show n - p = (n - (p + 1)) + 1 by omega]; show (if _ then _ else _) = _; rw [if_neg hf]
  · exact run_end (by omega)
theorem run_in : ∀ p, p ≤ n → p ≤ runT f b n p ∧ runT f b n p ≤ n := loop_up (by rw [run_end (Nat.le_refl _)]; omega) fun p hp ih => by
  by_cases hf : f (b p) = true
  · rw [run_go hp hf]; omega
  · rw [run_stop hf]; omega
end Run
def vlT (b : Nat → Nat) (s : Nat) : Nat → Nat
  | 0 => 0
  | k + 1 => 10 * vlT b s k + (b (s + k) - 48)
/-- a token: where it starts, where it ends, its kind (0 the end of the text, 1 letters, 2 a number, 3 a semicolon, 4 none), its value -/
abbrev Tk : Type := Nat × Nat × Nat × Nat
abbrev Tk.s (t : Tk) : Nat := t.1
abbrev Tk.e (t : Tk) : Nat := t.2.1
abbrev Tk.k (t : Tk) : Nat := t.2.2.1
abbrev Tk.v (t : Tk) : Nat := t.2.2.2
def tkS (b : Nat → Nat) (n s : Nat) : Tk :=
  if n ≤ s then ⟨s, s, 0, 0⟩
  else if isLe (b s) = true then ⟨s, runT isLe b n s, 1, 0⟩
  else if isDi (b s) = true then (if 5 < runT isDi b n s - s then ⟨s, runT isDi b n s, 4, 0⟩ else ⟨s, runT isDi b n s, 2, vlT b s (runT isDi b n s - s)⟩)
  else if b s = 59 then ⟨s, s + 1, 3, 0⟩ else ⟨s, s + 1, 4, 0⟩
def tk (b : Nat → Nat) (n p : Nat) : Tk := tkS b n (runT isBl b n p)
def cb (x : Nat) : Int32 := if x < 128 then nI x else nI x - 256
/-- the text, as the class and as the reference hold it -/
def CB (mm : Nat → Nat → Int32) (n : Nat) (b : Nat → Nat) : Prop := mm 1 2 = nI n ∧ n ≤ 400 ∧ ∀ i, i < n → b i < 256 ∧ mm 2 i = cb (b i)
def MB (mm : Nat → Nat → Int32) (n : Nat) (b : Nat → Nat) : Prop := mm 63 19 = nI n ∧ n ≤ 400 ∧ ∀ i, i < n → b i < 256 ∧ mm 74 i = nI (b i)
def cV (n : Nat) (b : Nat → Nat) (p : Nat) : Int32 := if p < n then cb (b p) else -1
def mV (n : Nat) (b : Nat → Nat) (p : Nat) : Int32 := if p < n then nI (b p) else -1
theorem tb_le : ∀ y, y < 256 → (inR 97 122 (cb y) ↔ isLe y = true) ∧ (inR 97 122 (nI y) ↔ isLe y = true) := by decide +kernel
theorem tb_di : ∀ y, y < 256 → (inR 48 57 (cb y) ↔ isDi y = true) ∧ (inR 48 57 (nI y) ↔ isDi y = true) ∧ (isDi y = true → cb y = nI y ∧ 48 ≤ y) := by decide +kernel
theorem tb_bl : ∀ y, y < 256 → (cb y = 32 ∨ cb y = 10 ↔ isBl y = true) ∧ (nI y = 32 ∨ nI y = 10 ↔ isBl y = true) ∧ (cb y = 59 ↔ y = 59) ∧ (nI y = 59 ↔ y = 59) := by decide +kernel
def FrC (m m' : Nat → Nat → Int32) : Prop := (∀ c, c ≠ 1 → m' c = m c) ∧ ∀ j, j ≠ 5 → j ≠ 6 → j ≠ 7 → j ≠ 8 → m' 1 j = m 1 j
def FrM (m m' : Nat → Nat → Int32) : Prop := (∀ c, c ≠ 63 → m' c = m c) ∧ ∀ j, j ≠ 20 → j ≠ 21 → j ≠ 22 → j ≠ 23 → m' 63 j = m 63 j
def CTk (m : Nat → Nat → Int32) (t : Tk) : Prop := m 1 6 = nI t.s ∧ m 1 7 = nI t.k ∧ (¬ t.k = 4 → m 1 5 = nI t.e) ∧ (t.k = 2 → m 1 8 = nI t.v)
def mk (k : Nat) : Nat := if k = 0 then 0 else if k = 4 then 1 else k + 1
def MTk (m : Nat → Nat → Int32) (t : Tk) : Prop := m 63 21 = nI t.s ∧ m 63 22 = nI (mk t.k) ∧ m 63 20 = nI t.e ∧ (t.k = 2 → m 63 23 = nI t.v)
section Frames
variable {m m' m'' : Nat → Nat → Int32} {n : Nat} {b : Nat → Nat}
theorem FrC.refl : FrC m m := ⟨fun _ _ => rfl, fun _ _ _ _ _ => rfl⟩
theorem FrC.trans (h : FrC m m') (g : FrC m' m'') : FrC m m'' := ⟨fun c hc => (g.1 c hc).trans (h.1 c hc), fun j a1 a2 a3 a4 => (g.2 j a1 a2 a3 a4).trans (h.2 j a1 a2 a3 a4)⟩
theorem FrC.set {j : Nat} {v : Int32} (h : FrC m m') (hj : j = 5 ∨ j = 6 ∨ j = 7 ∨ j = 8) : FrC m (mset m' 1 j v) :=
  ⟨fun c hc => by rw [mset_ne hc]; exact h.1 c hc, fun i a1 a2 a3 a4 => by rw [mset_in (by omega)]; exact h.2 i a1 a2 a3 a4⟩
theorem FrM.refl : FrM m m := ⟨fun _ _ => rfl, fun _ _ _ _ _ => rfl⟩
theorem FrM.trans (h : FrM m m') (g : FrM m' m'') : FrM m m'' := ⟨fun c hc => (g.1 c hc).trans (h.1 c hc), fun j a1 a2 a3 a4 => (g.2 j a1 a2 a3 a4).trans (h.2 j a1 a2 a3 a4)⟩
theorem FrM.set {j : Nat} {v : Int32} (h : FrM m m') (hj : j = 20 ∨ j = 21 ∨ j = 22 ∨ j = 23) : FrM m (mset m' 63 j v) :=
  ⟨fun c hc => by rw [mset_ne hc]; exact h.1 c hc, fun i a1 a2 a3 a4 => by rw [mset_in (by omega)]; exact h.2 i a1 a2 a3 a4⟩
theorem CB.of (h : CB m n b) (h1 : m' 1 2 = m 1 2) (h2 : m' 2 = m 2) : CB m' n b := ⟨h1.trans h.1, h.2.1, fun i hi => by rw [h2]; exact h.2.2 i hi⟩
theorem MB.of (h : MB m n b) (h1 : m' 63 19 = m 63 19) (h2 : m' 74 = m 74) : MB m' n b := ⟨h1.trans h.1, h.2.1, fun i hi => by rw [h2]; exact h.2.2 i hi⟩
theorem CB.fr (h : CB m n b) (g : FrC m m') : CB m' n b := h.of (g.2 2 (by decide) (by decide) (by decide) (by decide)) (g.1 2 (by decide))
theorem MB.fr (h : MB m n b) (g : FrM m m') : MB m' n b := h.of (g.2 19 (by decide) (by decide) (by decide) (by decide)) (g.1 74 (by decide))
end Frames
section Lex
variable {G : Gx} {mm : Nat → Nat → Int32} {lm : Nat → Int64} {n : Nat} {b : Nat → Nat}
theorem c_byteAt (h : CB mm n b) {p : Nat} (hp : p ≤ 1000) : Ct G M_X8_byteAt [.ref 1, .int (nI p)] (SH, mm, lm) false (.inl (some (.int (cV n b p)))) (SH, mm, lm) false 0 0 := by
  obtain ⟨h1, h2, h3⟩ := h
  refine CJ (bX8_byteAt_0 ⟨fun z => absurd z (nI_pos (by omega)), fun _ => ?_⟩)
  rw [h1]
  by_cases hn : p < n
  · refine ⟨fun z => absurd z (nI_ge hn (by omega)), fun _ => ⟨fun z => absurd z (lit_ge (n := 400) rfl (by omega) (by omega)), fun _ => ⟨p, rfl, by omega, ?_, rfl⟩⟩⟩
    rw [(h3 p hn).2, cV, if_pos hn]
  · exact ⟨fun _ => ⟨by rw [cV, if_neg hn], rfl⟩, fun z => absurd (nI_le (by omega) (by omega)) z⟩
theorem cm_byteAt (h : MB mm n b) {p : Nat} (hp : p ≤ 1000) : Ct G M_X10_byteAt [.ref 63, .int (nI p)] (SH, mm, lm) false (.inl (some (.int (mV n b p)))) (SH, mm, lm) false 0 0 := by
  obtain ⟨h1, h2, h3⟩ := h
  refine CJ (bX10_byteAt_0 ?_)
  rw [h1]
  by_cases hn : p < n
  · refine ⟨fun z => absurd z (nI_ge hn (by omega)), fun _ => ⟨p, rfl, by omega, ?_, rfl⟩⟩
    rw [(h3 p hn).2, mV, if_pos hn]
  · exact ⟨fun _ => ⟨by rw [mV, if_neg hn], rfl⟩, fun z => absurd (nI_le (by omega) (by omega)) z⟩
theorem c_isLetter {x : Int32} : Ct G M_X8_isLetter [.int x] (SH, mm, lm) false (.inl (some (.int (bI (inR 97 122 x))))) (SH, mm, lm) false 0 0 :=
  CJ (bX8_isLetter_0 ⟨fun z => ⟨by rw [bI_f (fun y => y.1 z)], rfl⟩, fun z => ⟨fun y => ⟨by rw [bI_f (fun u => (fa_of_lt y).2.1 u.2)], rfl⟩, fun y => ⟨by rw [bI_t ⟨z, fa_of_nlt y⟩], rfl⟩⟩⟩)
theorem c_isDigit {x : Int32} : Ct G M_X8_isDigit [.int x] (SH, mm, lm) false (.inl (some (.int (bI (inR 48 57 x))))) (SH, mm, lm) false 0 0 :=
  CJ (bX8_isDigit_0 ⟨fun z => ⟨by rw [bI_f (fun y => y.1 z)], rfl⟩, fun z => ⟨fun y => ⟨by rw [bI_f (fun u => (fa_of_lt y).2.1 u.2)], rfl⟩, fun y => ⟨by rw [bI_t ⟨z, fa_of_nlt y⟩], rfl⟩⟩⟩)
theorem cm_isLetterAt (h : MB mm n b) {p : Nat} (hp : p ≤ 1000) : Ct G M_X10_isLetterAt [.ref 63, .int (nI p)] (SH, mm, lm) false (.inl (some (.int (bI (inR 97 122 (mV n b p)))))) (SH, mm, lm) false 0 0 :=
  CJ (bX10_isLetterAt_0 ⟨_, cm_byteAt h hp, _, cm_in rfl rfl, bI_b, rfl, rfl⟩)
theorem cm_isDigitAt (h : MB mm n b) {p : Nat} (hp : p ≤ 1000) : Ct G M_X10_isDigitAt [.ref 63, .int (nI p)] (SH, mm, lm) false (.inl (some (.int (bI (inR 48 57 (mV n b p)))))) (SH, mm, lm) false 0 0 :=
  CJ (bX10_isDigitAt_0 ⟨_, cm_byteAt h hp, _, cm_in rfl rfl, bI_b, rfl, rfl⟩)
theorem cV_le (h : ∀ i, i < n → b i < 256) {p : Nat} : inR 97 122 (cV n b p) ↔ p < n ∧ isLe (b p) = true := by
  by_cases hp : p < n
  · rw [cV, if_pos hp, (tb_le _ (h p hp)).1]; exact ⟨fun z => ⟨hp, z⟩, fun z => z.2⟩
  · rw [cV, if_neg hp]; exact ⟨fun z => absurd z (by decide), fun z => absurd z.1 hp⟩
theorem mV_le (h : ∀ i, i < n → b i < 256) {p : Nat} : inR 97 122 (mV n b p) ↔ p < n ∧ isLe (b p) = true := by
  by_cases hp : p < n
  · rw [mV, if_pos hp, (tb_le _ (h p hp)).2]; exact ⟨fun z => ⟨hp, z⟩, fun z => z.2⟩
  · rw [mV, if_neg hp]; exact ⟨fun z => absurd z (by decide), fun z => absurd z.1 hp⟩
theorem cV_di (h : ∀ i, i < n → b i < 256) {p : Nat} : inR 48 57 (cV n b p) ↔ p < n ∧ isDi (b p) = true := by
  by_cases hp : p < n
  · rw [cV, if_pos hp, (tb_di _ (h p hp)).1]; exact ⟨fun z => ⟨hp, z⟩, fun z => z.2⟩
  · rw [cV, if_neg hp]; exact ⟨fun z => absurd z (by decide), fun z => absurd z.1 hp⟩
theorem mV_di (h : ∀ i, i < n → b i < 256) {p : Nat} : inR 48 57 (mV n b p) ↔ p < n ∧ isDi (b p) = true := by
  by_cases hp : p < n
  · rw [mV, if_pos hp, (tb_di _ (h p hp)).2.1]; exact ⟨fun z => ⟨hp, z⟩, fun z => z.2⟩
  · rw [mV, if_neg hp]; exact ⟨fun z => absurd z (by decide), fun z => absurd z.1 hp⟩
theorem c_skipBlanks (hc : CB mm n b) {p : Nat} (hp : p ≤ n) (h5 : mm 1 5 = nI p) : ∃ m', FrC mm m' ∧ m' 1 5 = nI (runT isBl b n p) ∧ Ct G M_X8_skipBlanks [.ref 1] (SH, mm, lm) false (.inl none) (SH, m', lm) false 0 0 := by
  have hb : ∀ i, i < n → b i < 256 := fun i hi => (hc.2.2 i hi).1
  have hn := hc.2.1
  have key := loop_up (n := n) (P := fun p => ∀ m0, FrC mm m0 → m0 1 5 = nI p → ∃ m', FrC mm m' ∧ m' 1 5 = nI (runT isBl b n p) ∧ J G M_X8_skipBlanks 0 [(0, .ref 1)] [] (SH, m0, lm) false (.inl none) (SH, m', lm) false 0 0) ?_ ?_ p hp mm FrC.refl h5
  · obtain ⟨m', q1, q2, q3⟩ := key
    exact ⟨m', q1, q2, CJ q3⟩
  · intro m0 g h
    refine ⟨m0, g, by rw [run_end (Nat.le_refl _)]; exact h, bX8_skipBlanks_0 ⟨fun _ => ⟨rfl, rfl⟩, fun z => absurd (by rw [h, (hc.fr g).1]; exact Int32.le_refl _) z⟩⟩
  · intro p hp ih m0 g h
    have hc0 := hc.fr g
    have ct := c_byteAt (G := G) (lm := lm) hc0 (p := p) (by omega)
    have hv : cV n b p = cb (b p) := by rw [cV, if_pos hp]
    rw [hv] at ct
    have ht := (tb_bl _ (hb p hp)).1
    by_cases hf : isBl (b p) = true
    · obtain ⟨m', q1, q2, q3⟩ := ih (mset m0 1 5 (m0 1 5 + 1)) (g.set (by decide)) (by rw [mset_eq, h, nI_1])
      refine ⟨m', q1, by rw [run_go hp hf]; exact q2, bX8_skipBlanks_0 ⟨fun z => absurd z (by rw [h, hc0.1]; exact nI_ge hp (by omega)), fun _ => ⟨_, by rw [h]; exact ct, fun _ => q3, fun z => ⟨_, by rw [h]; exact ct, fun y => ?_, fun _ => q3⟩⟩⟩⟩
      exact absurd (ht.mpr hf) (fun u => u.elim z y)
    · refine ⟨m0, g, by rw [run_stop hf]; exact h, bX8_skipBlanks_0 ⟨fun z => absurd z (by rw [h, hc0.1]; exact nI_ge hp (by omega)), fun _ => ⟨_, by rw [h]; exact ct, fun z => absurd (ht.mp (Or.inl z)) hf, fun z => ⟨_, by rw [h]; exact ct, fun y => ⟨rfl, rfl⟩, fun y => absurd (ht.mp (Or.inr y)) hf⟩⟩⟩⟩
theorem c_skipLetters (hc : CB mm n b) {p : Nat} (hp : p ≤ n) (h5 : mm 1 5 = nI p) : ∃ m', (FrC mm m' ∧ m' 1 6 = mm 1 6 ∧ m' 1 7 = mm 1 7) ∧ m' 1 5 = nI (runT isLe b n p) ∧ Ct G M_X8_skipLetters [.ref 1] (SH, mm, lm) false (.inl none) (SH, m', lm) false 0 0 := by
  have hb : ∀ i, i < n → b i < 256 := fun i hi => (hc.2.2 i hi).1
  have hn := hc.2.1
  have key := loop_up (n := n) (P := fun p => ∀ m0, (FrC mm m0 ∧ m0 1 6 = mm 1 6 ∧ m0 1 7 = mm 1 7) → m0 1 5 = nI p → ∃ m', (FrC mm m' ∧ m' 1 6 = mm 1 6 ∧ m' 1 7 = mm 1 7) ∧ m' 1 5 = nI (runT isLe b n p) ∧ J G M_X8_skipLetters 0 [(0, .ref 1)] [] (SH, m0, lm) false (.inl none) (SH, m', lm) false 0 0) ?_ ?_ p hp mm ⟨FrC.refl, rfl, rfl⟩ h5
  · obtain ⟨m', q1, q2, q3⟩ := key
    exact ⟨m', q1, q2, CJ q3⟩
  · intro m0 g h
    refine ⟨m0, g, by rw [run_end (Nat.le_refl _)]; exact h, bX8_skipLetters_0 ⟨fun _ => ⟨rfl, rfl⟩, fun z => absurd (by rw [h, (hc.fr g.1).1]; exact Int32.le_refl _) z⟩⟩
  · intro p hp ih m0 g h
    have hc0 := hc.fr g.1
    have ct := c_byteAt (G := G) (lm := lm) hc0 (p := p) (by omega)
    by_cases hf : isLe (b p) = true
    · obtain ⟨m', q1, q2, q3⟩ := ih (mset m0 1 5 (m0 1 5 + 1)) ⟨g.1.set (by decide), by rw [mset_in (by decide)]; exact g.2.1, by rw [mset_in (by decide)]; exact g.2.2⟩ (by rw [mset_eq, h, nI_1])
      exact ⟨m', q1, by rw [run_go hp hf]; exact q2, bX8_skipLetters_0 ⟨fun z => absurd z (by rw [h, hc0.1]; exact nI_ge hp (by omega)), fun _ => ⟨_, by rw [h]; exact ct, _, c_isLetter, fun z => absurd ((cV_le hb).mpr ⟨hp, hf⟩) (bI_0.mp z), fun _ => q3⟩⟩⟩
    · exact ⟨m0, g, by rw [run_stop hf]; exact h, bX8_skipLetters_0 ⟨fun z => absurd z (by rw [h, hc0.1]; exact nI_ge hp (by omega)), fun _ => ⟨_, by rw [h]; exact ct, _, c_isLetter, fun _ => ⟨rfl, rfl⟩, fun z => absurd ((cV_le hb).mp (bI_1.mp z)).2 hf⟩⟩⟩
theorem vl_step {b : Nat → Nat} {s p : Nat} (hs : s ≤ p) (h48 : 48 ≤ b p) : 10 * nI (vlT b s (p - s)) + nI (b p) - 48 = nI (vlT b s (p + 1 - s)) := by
  rw [show p + 1 - s = (p - s) + 1 by omega, show (10 : Int32) = nI 10 from rfl, show (48 : Int32) = nI 48 from rfl, nI_mul, nI_add, nI_subN (by omega)]
  refine congrArg nI ?_
  show _ = 10 * vlT b s (p - s) + (b (s + (p - s)) - 48)
  rw [show s + (p - s) = p by omega]; omega
theorem c_readNumber (hc : CB mm n b) {s : Nat} (hs : s ≤ n) (h5 : mm 1 5 = nI s) (h6 : mm 1 6 = nI s) (h8 : mm 1 8 = 0) : ∃ m', (FrC mm m' ∧ m' 1 6 = nI s) ∧ (if 5 < runT isDi b n s - s then m' 1 7 = 4 else m' 1 7 = 2 ∧ m' 1 5 = nI (runT isDi b n s) ∧ m' 1 8 = nI (vlT b s (runT isDi b n s - s))) ∧ Ct G M_X8_readNumber [.ref 1] (SH, mm, lm) false (.inl none) (SH, m', lm) false 0 0 := by
  have hb : ∀ i, i < n → b i < 256 := fun i hi => (hc.2.2 i hi).1
  have hn := hc.2.1
  have key := loop_up (n := n) (P := fun p => s ≤ p → p ≤ s + 5 → ∀ m0, (FrC mm m0 ∧ m0 1 6 = nI s) → m0 1 5 = nI p → m0 1 8 = nI (vlT b s (p - s)) → ∃ m', (FrC mm m' ∧ m' 1 6 = nI s) ∧ (if 5 < runT isDi b n p - s then m' 1 7 = 4 else m' 1 7 = 2 ∧ m' 1 5 = nI (runT isDi b n p) ∧ m' 1 8 = nI (vlT b s (runT isDi b n p - s))) ∧ J G M_X8_readNumber 0 [(0, .ref 1)] [] (SH, m0, lm) false (.inl none) (SH, m', lm) false 0 0) ?_ ?_ s hs (Nat.le_refl _) (by omega) mm ⟨FrC.refl, h6⟩ h5 (by rw [Nat.sub_self]; exact h8)
  · obtain ⟨m', q1, q2, q3⟩ := key
    exact ⟨m', q1, q2, CJ q3⟩
  · intro hs1 hs2 m0 g h h8
    have hc0 := hc.fr g.1
    have ct := c_byteAt (G := G) (lm := lm) hc0 (p := n) (by omega)
    refine ⟨mset m0 1 7 2, ⟨g.1.set (by decide), by rw [mset_in (by decide)]; exact g.2⟩, ?_, bX8_readNumber_0 ⟨fun _ => ⟨_, by rw [h]; exact ct, _, c_isDigit, fun _ => ⟨rfl, rfl⟩, fun z => absurd ((cV_di hb).mp (bI_1.mp z)).1 (Nat.lt_irrefl _)⟩, fun z => absurd (by rw [h, hc0.1]; exact Int32.le_refl _) z⟩⟩
    rw [run_end (Nat.le_refl _), if_neg (by omega)]
    exact ⟨mset_eq, by rw [mset_in (by decide)]; exact h, by rw [mset_in (by decide)]; exact h8⟩
  · intro p hp ih hs1 hs2 m0 g h h8
    have hc0 := hc.fr g.1
    have ct := c_byteAt (G := G) (lm := lm) hc0 (p := p) (by omega)
    have hlt : ¬ m0 1 2 ≤ m0 1 5 := by rw [h, hc0.1]; exact nI_ge hp (by omega)
    have hd : m0 1 5 - m0 1 6 = nI (p - s) := by rw [h, g.2, nI_subN hs1]
    by_cases h5 : p = s + 5
    · have hge : 5 ≤ m0 1 5 - m0 1 6 := by rw [hd, show (5 : Int32) = nI 5 from rfl]; exact nI_le (by omega) (by omega)
      by_cases hf : isDi (b p) = true
      · refine ⟨mset m0 1 7 4, ⟨g.1.set (by decide), by rw [mset_in (by decide)]; exact g.2⟩, ?_, bX8_readNumber_0 ⟨fun z => absurd z hlt, fun _ => ⟨fun _ => ⟨_, by rw [h]; exact ct, _, c_isDigit, fun z => absurd ((cV_di hb).mpr ⟨hp, hf⟩) (bI_0.mp z), fun _ => ⟨rfl, rfl⟩⟩, fun z => absurd hge z⟩⟩⟩
        have := (run_in (f := isDi) (b := b) (n := n) (p + 1) (by omega)).1
        rw [run_go hp hf, if_pos (by omega)]; exact mset_eq
      · refine ⟨mset m0 1 7 2, ⟨g.1.set (by decide), by rw [mset_in (by decide)]; exact g.2⟩, ?_, bX8_readNumber_0 ⟨fun z => absurd z hlt, fun _ => ⟨fun _ => ⟨_, by rw [h]; exact ct, _, c_isDigit, fun _ => ⟨rfl, rfl⟩, fun z => absurd ((cV_di hb).mp (bI_1.mp z)).2 hf⟩, fun z => absurd hge z⟩⟩⟩
        rw [run_stop hf, if_neg (by omega)]
        exact ⟨mset_eq, by rw [mset_in (by decide)]; exact h, by rw [mset_in (by decide)]; exact h8⟩
    · have hnge : ¬ 5 ≤ m0 1 5 - m0 1 6 := by rw [hd]; exact lit_ge (n := 5) rfl (by omega) (by omega)
      by_cases hf : isDi (b p) = true
      · have hcd := (tb_di _ (hb p hp)).2.2 hf
        have hv : cV n b p = nI (b p) := by rw [cV, if_pos hp]; exact hcd.1
        obtain ⟨m', q1, q2, q3⟩ := ih (by omega) (by omega) (mset (mset m0 1 8 (10 * m0 1 8 + cV n b p - 48)) 1 5 (mset m0 1 8 (10 * m0 1 8 + cV n b p - 48) 1 5 + 1)) ⟨(g.1.set (by decide)).set (by decide), by rw [mset_in (by decide), mset_in (by decide)]; exact g.2⟩ (by rw [mset_eq, mset_in (by decide), h, nI_1]) (by rw [mset_in (by decide), mset_eq, h8, hv]; exact vl_step hs1 hcd.2)
        exact ⟨m', q1, by rw [run_go hp hf]; exact q2, bX8_readNumber_0 ⟨fun z => absurd z hlt, fun _ => ⟨fun z => absurd z hnge, fun _ => ⟨_, by rw [h]; exact ct, _, c_isDigit, fun z => absurd ((cV_di hb).mpr ⟨hp, hf⟩) (bI_0.mp z), fun _ => ⟨_, by rw [h]; exact ct, q3⟩⟩⟩⟩⟩
      · refine ⟨mset m0 1 7 2, ⟨g.1.set (by decide), by rw [mset_in (by decide)]; exact g.2⟩, ?_, bX8_readNumber_0 ⟨fun z => absurd z hlt, fun _ => ⟨fun z => absurd z hnge, fun _ => ⟨_, by rw [h]; exact ct, _, c_isDigit, fun _ => ⟨_, by rw [h]; exact ct, _, c_isDigit, fun _ => ⟨rfl, rfl⟩, fun z => absurd ((cV_di hb).mp (bI_1.mp z)).2 hf⟩, fun z => absurd ((cV_di hb).mp (bI_1.mp z)).2 hf⟩⟩⟩⟩
        rw [run_stop hf, if_neg (by omega)]
        exact ⟨mset_eq, by rw [mset_in (by decide)]; exact h, by rw [mset_in (by decide)]; exact h8⟩
theorem c_readToken (hc : CB mm n b) {p : Nat} (hp : p ≤ n) (h5 : mm 1 5 = nI p) : ∃ m', FrC mm m' ∧ CTk m' (tk b n p) ∧ Ct G M_X8_readToken [.ref 1] (SH, mm, lm) false (.inl none) (SH, m', lm) false 0 0 := by
  have hb : ∀ i, i < n → b i < 256 := fun i hi => (hc.2.2 i hi).1
  have hn := hc.2.1
  obtain ⟨m3, g3, e3, ct3⟩ := c_skipBlanks (G := G) (lm := lm) hc hp h5
  have hsn := (run_in (f := isBl) (b := b) (n := n) p hp).2
  unfold tk
  generalize runT isBl b n p = s at e3 hsn ⊢
  obtain ⟨m4, hm4⟩ : ∃ m4, m4 = mset (mset m3 1 6 (m3 1 5)) 1 8 0 := ⟨_, rfl⟩
  have g4 : FrC mm m4 := by rw [hm4]; exact (g3.set (by decide)).set (by decide)
  have c4 := hc.fr g4
  have e5 : m4 1 5 = nI s := by rw [hm4, mset_in (by decide), mset_in (by decide)]; exact e3
  have e6 : m4 1 6 = nI s := by rw [hm4, mset_in (by decide), mset_eq]; exact e3
  have e8 : m4 1 8 = 0 := by rw [hm4, mset_eq]
  have ct := c_byteAt (G := G) (lm := lm) c4 (p := s) (by omega)
  have start : ∀ m', (J G M_X8_readToken 0 [(0, .ref 1)] [] (SH, mm, lm) false (.inl none) (SH, m', lm) false 0 0) → Ct G M_X8_readToken [.ref 1] (SH, mm, lm) false (.inl none) (SH, m', lm) false 0 0 := fun m' h => CJ h
  unfold tkS
  by_cases hs : n ≤ s
  · rw [if_pos hs]
    refine ⟨mset m4 1 7 0, g4.set (by decide), ⟨by rw [mset_in (by decide)]; exact e6, mset_eq, fun _ => by rw [mset_in (by decide)]; exact e5, fun z => absurd z (show ¬ (0 : Nat) = 2 by decide)⟩, CJ (bX8_readToken_0 ⟨m3, ct3, ?_⟩)⟩
    rw [← hm4, e5, c4.1]
    exact ⟨fun z => absurd z (nI_nlt hs (by omega)), fun _ => ⟨rfl, rfl⟩⟩
  rw [if_neg hs]
  have hs' : s < n := by omega
  by_cases hl : isLe (b s) = true
  · rw [if_pos hl]
    obtain ⟨m', q1, q2, q3⟩ := c_skipLetters (G := G) (lm := lm) (mm := mset m4 1 7 1) (c4.fr (FrC.refl.set (by decide))) hsn (by rw [mset_in (by decide)]; exact e5)
    refine ⟨m', (g4.set (by decide)).trans q1.1, ⟨by rw [q1.2.1, mset_in (by decide)]; exact e6, by rw [q1.2.2]; exact mset_eq, fun _ => q2, fun z => absurd z (show ¬ (1 : Nat) = 2 by decide)⟩, CJ (bX8_readToken_0 ⟨m3, ct3, ?_⟩)⟩
    rw [← hm4, e5, c4.1]
    exact ⟨fun _ => ⟨_, ct, _, c_isLetter, fun z => absurd ((cV_le hb).mpr ⟨hs', hl⟩) (bI_0.mp z), fun _ => ⟨m', q3, rfl, rfl⟩⟩, fun z => absurd (nI_lt hs' (by omega)) z⟩
  rw [if_neg hl]
  have hl' : ¬ inR 97 122 (cV n b s) := fun z => hl ((cV_le hb).mp z).2
  by_cases hd : isDi (b s) = true
  · rw [if_pos hd]
    obtain ⟨m', q1, q2, q3⟩ := c_readNumber (G := G) (lm := lm) c4 hsn e5 e6 e8
    have ck : CTk m' (if 5 < runT isDi b n s - s then ⟨s, runT isDi b n s, 4, 0⟩ else ⟨s, runT isDi b n s, 2, vlT b s (runT isDi b n s - s)⟩) := by
      by_cases h5 : 5 < runT isDi b n s - s
      · rw [if_pos h5] at q2 ⊢
        exact ⟨q1.2, q2, fun z => absurd rfl z, fun z => absurd z (show ¬ (4 : Nat) = 2 by decide)⟩
      · rw [if_neg h5] at q2 ⊢
        exact ⟨q1.2, q2.1, fun _ => q2.2.1, fun _ => q2.2.2⟩
    refine ⟨m', g4.trans q1.1, ck, CJ (bX8_readToken_0 ⟨m3, ct3, ?_⟩)⟩
    rw [← hm4, e5, c4.1]
    exact ⟨fun _ => ⟨_, ct, _, c_isLetter, fun _ => ⟨_, ct, _, c_isDigit, fun z => absurd ((cV_di hb).mpr ⟨hs', hd⟩) (bI_0.mp z), fun _ => ⟨m', q3, rfl, rfl⟩⟩, fun z => absurd (bI_1.mp z) hl'⟩, fun z => absurd (nI_lt hs' (by omega)) z⟩
  rw [if_neg hd]
  have hd' : ¬ inR 48 57 (cV n b s) := fun z => hd ((cV_di hb).mp z).2
  have hv : cV n b s = cb (b s) := by rw [cV, if_pos hs']
  have h59 := (tb_bl _ (hb s hs')).2.2.1
  by_cases hq : b s = 59
  · rw [if_pos hq]
    refine ⟨mset (mset m4 1 7 3) 1 5 (nI (s + 1)), (g4.set (by decide)).set (by decide), ⟨by rw [mset_in (by decide), mset_in (by decide)]; exact e6, by rw [mset_in (by decide), mset_eq]; rfl, fun _ => mset_eq, fun z => absurd z (show ¬ (3 : Nat) = 2 by decide)⟩, CJ (bX8_readToken_0 ⟨m3, ct3, ?_⟩)⟩
    rw [← hm4, e5, c4.1]
    refine ⟨fun _ => ⟨_, ct, _, c_isLetter, fun _ => ⟨_, ct, _, c_isDigit, fun _ => ⟨_, ct, fun z => absurd (by rw [hv]; exact h59.mpr hq) z, fun _ => ⟨rfl, ?_⟩⟩, fun z => absurd (bI_1.mp z) hd'⟩, fun z => absurd (bI_1.mp z) hl'⟩, fun z => absurd (nI_lt hs' (by omega)) z⟩
    rw [mset_in (by decide), e5, nI_1]
  · rw [if_neg hq]
    refine ⟨mset m4 1 7 4, g4.set (by decide), ⟨by rw [mset_in (by decide)]; exact e6, mset_eq, fun z => absurd rfl z, fun z => absurd z (show ¬ (4 : Nat) = 2 by decide)⟩, CJ (bX8_readToken_0 ⟨m3, ct3, ?_⟩)⟩
    rw [← hm4, e5, c4.1]
    exact ⟨fun _ => ⟨_, ct, _, c_isLetter, fun _ => ⟨_, ct, _, c_isDigit, fun _ => ⟨_, ct, fun _ => ⟨rfl, rfl⟩, fun z => absurd (h59.mp (by rw [← hv]; exact z)) hq⟩, fun z => absurd (bI_1.mp z) hd'⟩, fun z => absurd (bI_1.mp z) hl'⟩, fun z => absurd (nI_lt hs' (by omega)) z⟩
end Lex
