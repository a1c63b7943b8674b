/-! ===== contracts: plans, but for the way ===== -/
theorem pw_nI : ∀ k, k < 9 → tl_1001.getD k 0 = nI (3 ^ k) := by decide +kernel
/-- the digit of the bell k -/
def dig (A k : Nat) : Nat := A / 3 ^ k % 3
theorem dig_lt (A k : Nat) : dig A k < 3 := Nat.mod_lt _ (by omega)
/-- beam and position of the bell k in the arrangement A -/
def bmF (mm : Nat → Nat → Int32) (A k : Nat) : Int32 := if dig A k = 1 then mm (23 + k) 0 else if dig A k = 2 then mm (23 + k) 2 else -1
def psF (mm : Nat → Nat → Int32) (A k : Nat) : Int32 := if dig A k = 2 then mm (23 + k) 3 else mm (23 + k) 1
/-- pairs o < k < n with p -/
def cntP (p : Nat → Nat → Bool) : Nat → Nat
  | 0 => 0
  | n + 1 => cntP p n + cntN (p n) n
theorem cntP_congr {p q : Nat → Nat → Bool} : ∀ {n : Nat}, (∀ k o, k < n → o < k → p k o = q k o) → cntP p n = cntP q n
  | 0, _ => rfl
  | n + 1, h => by
    simp only [cntP]
    rw [cntP_congr (fun k o hk ho => h k o (by omega) ho), cntN_congr (fun o ho => h n o (by omega) ho)]
theorem cntP_le (p : Nat → Nat → Bool) : ∀ n, cntP p n ≤ n * n
  | 0 => Nat.le_refl _
  | n + 1 => by
    have h1 := cntP_le p n
    have h2 := cntN_le (p n) n
    have h3 : (n + 1) * (n + 1) = n * n + n + (n + 1) := by rw [Nat.succ_mul, Nat.mul_succ]
    simp only [cntP]; omega
/-- the bells k and o touch -/
def conB (be po rad : Nat → Int32) (k o : Nat) : Bool := decide (¬ be k = -1 ∧ be k = be o ∧ absI (po k - po o) < rad k + rad o)
/-- the torque of the beam b -/
def moA (be po w : Nat → Int32) (n b : Nat) : Int32 := sumN (fun k => if be k = nI b then w k * po k else 0) n
section Plans
variable {G : Gx} {mm : Nat → Nat → Int32} {lm : Nat → Int64} {nb : Nat}
theorem c_countPlanned (hnb : mm 4 9 = nI nb) (h8 : nb ≤ 8) : Ct G M_X4_countPlanned [.ref 32] (SH, mm, lm) false (.inl (some (.int (nI (cntN (fun k => decide (¬ mm (23 + k) 2 = -1)) nb))))) (SH, mm, lm) false 0 0 := by
  refine CJ (bX4_countPlanned_0 ?_)
  refine loop_up (n := nb) (P := fun k => J G M_X4_countPlanned 4 [(0, .ref 32), (1, .int (nI (cntN (fun k => decide (¬ mm (23 + k) 2 = -1)) k))), (2, .int (nI k))] [] (SH, mm, lm) false _ _ false 0 0) ?_ ?_ 0 (Nat.zero_le _)
  · exact bX4_countPlanned_4 ⟨fun _ => ⟨rfl, rfl⟩, fun h => absurd (le_nI' hnb) h⟩
  · intro k hk ih
    refine bX4_countPlanned_4 ⟨fun h => absurd h (le_nI hnb hk (by omega)), fun _ => ⟨k, rfl, by omega, _, c_hasPlan (sh_b23 (by omega)), fun h => ?_, fun h => ?_⟩⟩
    · have e : decide (¬ mm (23 + k) 2 = -1) = false := decide_eq_false (bI_0.mp h)
      rw [nI_1]; simpa [cntN, e] using ih
    · have e : decide (¬ mm (23 + k) 2 = -1) = true := decide_eq_true (bI_1.mp h)
      rw [nI_1, nI_1]; simpa [cntN, e] using ih
theorem c_stateIn {A k : Nat} (hA : A < 6561) (hk : k < 8) : Ct G M_X4_stateIn [.int (nI A), .int (nI k)] (SH, mm, lm) false (.inl (some (.int (nI (dig A k))))) (SH, mm, lm) false 0 0 := by
  have h3 : 0 < 3 ^ k := Nat.pow_pos (by omega)
  have h4 : 3 ^ k ≤ 3 ^ 8 := Nat.pow_le_pow_right (by omega) (by omega)
  refine CJ (bX4_stateIn_0 ⟨k, rfl, by omega, ?_, ?_⟩)
  · rw [pw_nI k (by omega)]; exact nI_ne0 h3 (by omega)
  · rw [pw_nI k (by omega), pk_div (by omega) h3 (by omega), show (3 : Int32) = nI 3 from rfl, pk_rem (Nat.lt_of_le_of_lt (Nat.div_le_self _ _) (by omega)) (by omega) (by omega)]
    exact ⟨rfl, rfl⟩
theorem c_beamIn {A k : Nat} (hk : k < 8) : Ct G M_X4_beamIn [.int (nI (dig A k)), .ref (23 + k)] (SH, mm, lm) false (.inl (some (.int (bmF mm A k)))) (SH, mm, lm) false 0 0 := by
  have hd := dig_lt A k
  refine CJ (bX4_beamIn_0 (sh_b23 hk) ⟨fun h => ?_, fun h => ?_, fun h1 h2 => ?_⟩)
  · have e : dig A k = 1 := (nI_eq (b := 1) (by omega) (by omega)).mp h
    rw [bmF, if_pos e]; exact ⟨rfl, rfl⟩
  · have e : dig A k = 2 := (nI_eq (b := 2) (by omega) (by omega)).mp h
    rw [bmF, if_neg (by omega), if_pos e]; exact ⟨rfl, rfl⟩
  · have e1 : ¬ dig A k = 1 := fun z => h1 (by rw [z]; rfl)
    have e2 : ¬ dig A k = 2 := fun z => h2 (by rw [z]; rfl)
    rw [bmF, if_neg e1, if_neg e2]; exact ⟨rfl, rfl⟩
/-- what beams can be -/
abbrev bmP (x : Int32) : Prop := x = -1 ∨ ∃ i, i < 4 ∧ x = nI i
theorem c_arrange (hnb : mm 4 9 = nI nb) (h8 : nb ≤ 8) {A : Nat} (hA : A < 6561) (hb : ∀ k, k < nb → bmP (mm (23 + k) 0) ∧ bmP (mm (23 + k) 2)) : ∃ mm', EqR mm mm' ∧ (∀ c, c < 35 ∨ 37 < c → mm' c = mm c) ∧ (∀ k, k < nb → mm' 35 k = bmF mm A k ∧ mm' 36 k = psF mm A k) ∧ (∀ b, b < 4 → mm' 37 b = moA (bmF mm A) (psF mm A) (mm 7) nb b) ∧ Ct G M_X4_arrange [.ref 32, .int (nI A)] (SH, mm, lm) false (.inl none) (SH, mm', lm) false 0 0 := by
  have key := loop_up (n := 4) (P := fun k => ∀ m, EqR mm m → (∀ c, c < 35 ∨ 37 < c → m c = mm c) → (∀ b, b < k → m 37 b = 0) → ∃ mm', EqR mm mm' ∧ (∀ c, c < 35 ∨ 37 < c → mm' c = mm c) ∧ (∀ k, k < nb → mm' 35 k = bmF mm A k ∧ mm' 36 k = psF mm A k) ∧ (∀ b, b < 4 → mm' 37 b = moA (bmF mm A) (psF mm A) (mm 7) nb b) ∧ J G M_X4_arrange 2 [(0, .ref 32), (1, .int (nI A)), (2, .int (nI k))] [] (SH, m, lm) false (.inl none) (SH, mm', lm) false 0 0) ?_ ?_ 0 (Nat.zero_le _) mm EqR.refl (fun _ _ => rfl) (fun b hb => absurd hb (Nat.not_lt_zero b))
  · obtain ⟨mm', h1, h2, h3, h4, h5⟩ := key
    exact ⟨mm', h1, h2, h3, h4, CJ (bX4_arrange_0 h5)⟩
  · intro m hm hc h0
    have key2 := loop_up (n := nb) (P := fun k => ∀ m, EqR mm m → (∀ c, c < 35 ∨ 37 < c → m c = mm c) → (∀ i, i < k → m 35 i = bmF mm A i ∧ m 36 i = psF mm A i) → (∀ b, b < 4 → m 37 b = moA (bmF mm A) (psF mm A) (mm 7) k b) → ∃ mm', EqR mm mm' ∧ (∀ c, c < 35 ∨ 37 < c → mm' c = mm c) ∧ (∀ k, k < nb → mm' 35 k = bmF mm A k ∧ mm' 36 k = psF mm A k) ∧ (∀ b, b < 4 → mm' 37 b = moA (bmF mm A) (psF mm A) (mm 7) nb b) ∧ J G M_X4_arrange 22 [(0, .ref 32), (1, .int (nI A)), (2, .int (nI k))] [] (SH, m, lm) false (.inl none) (SH, mm', lm) false 0 0) ?_ ?_ 0 (Nat.zero_le _) m hm hc (fun i hi => absurd hi (Nat.not_lt_zero i)) (fun b hb => by rw [h0 b hb]; rfl)
    · obtain ⟨mm', q1, q2, q3, q4, q5⟩ := key2
      exact ⟨mm', q1, q2, q3, q4, bX4_arrange_2 ⟨fun _ => q5, fun h => absurd (lit_le (n := 4) rfl) h⟩⟩
    · intro m hm hc h1 h2
      exact ⟨m, hm, hc, h1, h2, bX4_arrange_22 ⟨fun _ => ⟨rfl, rfl⟩, fun h => absurd (le_nI' ((hm 4 9 rfl).trans hnb)) h⟩⟩
    · intro k hk ih m hm hc h1 h2
      have hnb' : m 4 9 = nI nb := (hm 4 9 rfl).trans hnb
      have eb : bmF m A k = bmF mm A k := by simp only [bmF, hm _ _ (rel_b (show k < 8 by omega))]
      have hbk : bmP (bmF mm A k) := by
        rw [bmF]
        split
        · exact (hb k hk).1
        · split
          · exact (hb k hk).2
          · exact Or.inl rfl
      have ct := c_beamIn (G := G) (mm := m) (lm := lm) (A := A) (k := k) (by omega)
      rw [eb] at ct
      -- the position that is written
      have hp : ∀ x, x = psF mm A k → (¬ nI (dig A k) = 2 → m (23 + k) 1 = x) ∧ (nI (dig A k) = 2 → m (23 + k) 3 = x) := by
        intro x hx
        subst hx
        have hd := dig_lt A k
        refine ⟨fun h => ?_, fun h => ?_⟩
        · rw [psF, if_neg (fun z => h (by rw [z]; rfl)), hm _ _ (rel_b (by omega))]
        · rw [psF, if_pos ((nI_eq (b := 2) (by omega) (by omega)).mp h), hm _ _ (rel_b (by omega))]
      obtain ⟨hp1, hp2⟩ := hp _ rfl
      -- the world behind the turn
      have fin : ∀ m', (∀ c, c < 35 ∨ 37 < c → m' c = m c) → (∀ i, m' 35 i = if i = k then bmF mm A k else m 35 i) → (∀ i, m' 36 i = if i = k then psF mm A k else m 36 i) → (∀ b, b < 4 → m' 37 b = if bmF mm A k = nI b then m 37 b + mm 7 k * psF mm A k else m 37 b) → EqR m m' → ∃ mm', EqR mm mm' ∧ (∀ c, c < 35 ∨ 37 < c → mm' c = mm c) ∧ (∀ k, k < nb → mm' 35 k = bmF mm A k ∧ mm' 36 k = psF mm A k) ∧ (∀ b, b < 4 → mm' 37 b = moA (bmF mm A) (psF mm A) (mm 7) nb b) ∧ J G M_X4_arrange 22 [(0, .ref 32), (1, .int (nI A)), (2, .int (nI k + 1))] [] (SH, m', lm) false (.inl none) (SH, mm', lm) false 0 0 := by
        intro m' e1 e2 e3 e4 e5
        rw [nI_1]
        refine ih m' (hm.trans e5) (fun c hc2 => (e1 c hc2).trans (hc c hc2)) (fun i hi => ?_) (fun b hb2 => ?_)
        · rw [e2, e3]
          by_cases hik : i = k
          · rw [if_pos hik, if_pos hik, hik]; exact ⟨rfl, rfl⟩
          · rw [if_neg hik, if_neg hik]; exact h1 i (by omega)
        · rw [e4 b hb2, h2 b hb2]
          simp only [moA, sumN]
          split
          · rfl
          · rw [Int32.add_zero]
      rcases hbk with hn | ⟨i, hi, hbi⟩
      · obtain ⟨mm', q1, q2, q3, q4, q5⟩ := fin (mset (mset m 35 k (bmF mm A k)) 36 k (psF mm A k)) (fun c hc2 => by rw [mset_ne (by omega), mset_ne (by omega)]) (fun i => by rw [mset_ne (by decide)]; simp [mset]) (fun i => by by_cases h : i = k <;> simp [mset, h]) (fun b hb2 => by rw [mset_ne (by decide), mset_ne (by decide), if_neg (by rw [hn]; exact fun z => nI_ne_neg (by omega) z.symm)]) ((EqR.refl.mset rfl).mset rfl)
        refine ⟨mm', q1, q2, q3, q4, bX4_arrange_22 ⟨fun h => absurd h (le_nI hnb' hk (by omega)), fun _ => ⟨_, c_stateIn hA (by omega), k, rfl, by omega, _, ct, fun h => ⟨k, rfl, by omega, k, rfl, by omega, k, rfl, by omega, fun _ => ?_, fun h3 => absurd (by rw [hn]; decide) h3⟩, fun h => ⟨k, rfl, by omega, k, rfl, by omega, k, rfl, by omega, fun _ => ?_, fun h3 => absurd (by rw [hn]; decide) h3⟩⟩⟩⟩
        · rw [hp1 h]; exact q5
        · rw [hp2 h]; exact q5
      · obtain ⟨mm', q1, q2, q3, q4, q5⟩ := fin (mset (mset (mset m 35 k (bmF mm A k)) 36 k (psF mm A k)) 37 i (m 37 i + mm 7 k * psF mm A k)) (fun c hc2 => by rw [mset_ne (by omega), mset_ne (by omega), mset_ne (by omega)]) (fun i => by rw [mset_ne (by decide), mset_ne (by decide)]; simp [mset]) (fun i => by rw [mset_ne (by decide)]; by_cases h : i = k <;> simp [mset, h]) (fun b hb2 => by
          by_cases hib : b = i
          · rw [hib, mset_eq, if_pos hbi]
          · rw [mset_ne2 (fun z => hib z.2), mset_ne (by decide), mset_ne (by decide), if_neg (by rw [hbi]; exact fun z => hib ((nI_eq (by omega) (by omega)).mp z).symm)]) (((EqR.refl.mset rfl).mset rfl).mset rfl)
        have e37 : ∀ x, mset (mset m 35 k (bmF mm A k)) 36 k x 37 i = m 37 i := fun x => by rw [mset_ne (by decide), mset_ne (by decide)]
        have e7 : ∀ x, mset (mset m 35 k (bmF mm A k)) 36 k x 7 k = mm 7 k := fun x => by rw [mset_ne (by decide), mset_ne (by decide), hm 7 k rfl]
        refine ⟨mm', q1, q2, q3, q4, bX4_arrange_22 ⟨fun h => absurd h (le_nI hnb' hk (by omega)), fun _ => ⟨_, c_stateIn hA (by omega), k, rfl, by omega, _, ct, fun h => ⟨k, rfl, by omega, k, rfl, by omega, k, rfl, by omega, fun h3 => absurd h3 (by rw [hbi]; exact nI_pos (by omega)), fun _ => ⟨fun h4 => absurd h4 (by rw [hbi]; exact nI_ge (a := i) (b := 4) hi (by omega)), fun _ => ⟨i, hbi, hi, k, rfl, by omega, i, hbi, hi, ?_⟩⟩⟩, fun h => ⟨k, rfl, by omega, k, rfl, by omega, k, rfl, by omega, fun h3 => absurd h3 (by rw [hbi]; exact nI_pos (by omega)), fun _ => ⟨fun h4 => absurd h4 (by rw [hbi]; exact nI_ge (a := i) (b := 4) hi (by omega)), fun _ => ⟨i, hbi, hi, k, rfl, by omega, i, hbi, hi, ?_⟩⟩⟩⟩⟩⟩
        · rw [hp1 h, e37, e7]; exact q5
        · rw [hp2 h, e37, e7]; exact q5
  · intro k hk ih m hm hc h0
    obtain ⟨mm', q1, q2, q3, q4, q5⟩ := ih (mset m 37 k 0) (hm.mset rfl) (fun c hc2 => by rw [mset_ne (by omega)]; exact hc c hc2) (fun b hb2 => by
      by_cases hbk : b = k
      · rw [hbk]; exact mset_eq
      · rw [mset_ne2 (fun z => hbk z.2)]; exact h0 b (by omega))
    refine ⟨mm', q1, q2, q3, q4, bX4_arrange_2 ⟨fun h => absurd h (lit_ge (n := 4) rfl hk (by omega)), fun _ => ⟨k, rfl, hk, ?_⟩⟩⟩
    rw [nI_1]; exact q5
theorem c_unbalancedThere {nm : Nat} (hnm : mm 4 8 = nI nm) (h4 : nm ≤ 4) : Ct G M_X4_unbalancedThere [.ref 32] (SH, mm, lm) false (.inl (some (.int (orN (fun b => decide (mm 6 b < absI (mm 37 b))) nm)))) (SH, mm, lm) false 0 0 := by
  refine CJ (bX4_unbalancedThere_0 ?_)
  refine loop_up (n := nm) (P := fun k => J G M_X4_unbalancedThere 4 [(0, .ref 32), (1, .int (orN (fun b => decide (mm 6 b < absI (mm 37 b))) k)), (2, .int (nI k))] [] (SH, mm, lm) false _ _ false 0 0) ?_ ?_ 0 (Nat.zero_le _)
  · exact bX4_unbalancedThere_4 ⟨fun _ => ⟨rfl, rfl⟩, fun h => absurd (le_nI' hnm) h⟩
  · intro k hk ih
    refine bX4_unbalancedThere_4 ⟨fun h => absurd h (le_nI hnm hk (by omega)), fun _ => ⟨k, rfl, by omega, _, c_bears (by omega) _, fun h => ?_, fun h => ?_⟩⟩
    · have e : decide (mm 6 k < absI (mm 37 k)) = false := decide_eq_false (bI_1.mp h)
      rw [nI_1]; simpa [orN, e] using ih
    · have e : decide (mm 6 k < absI (mm 37 k)) = true := decide_eq_true (Decidable.not_not.mp (bI_0.mp h))
      rw [nI_1]; simpa [orN, e] using ih
theorem c_conflictsThere (hnb : mm 4 9 = nI nb) (h8 : nb ≤ 8) : Ct G M_X4_conflictsThere [.ref 32] (SH, mm, lm) false (.inl (some (.int (nI (cntP (conB (mm 35) (mm 36) (mm 8)) nb))))) (SH, mm, lm) false 0 0 := by
  refine CJ (bX4_conflictsThere_0 ?_)
  refine loop_up (n := nb) (P := fun k => J G M_X4_conflictsThere 4 [(0, .ref 32), (1, .int (nI (cntP (conB (mm 35) (mm 36) (mm 8)) k))), (2, .int (nI k))] [] (SH, mm, lm) false _ _ false 0 0) ?_ ?_ 0 (Nat.zero_le _)
  · exact bX4_conflictsThere_4 ⟨fun _ => ⟨rfl, rfl⟩, fun h => absurd (le_nI' hnb) h⟩
  · intro k hk ih
    refine bX4_conflictsThere_4 ⟨fun h => absurd h (le_nI hnb hk (by omega)), fun _ => ?_⟩
    refine loop_up (n := k) (P := fun o => J G M_X4_conflictsThere 17 [(0, .ref 32), (1, .int (nI (cntP (conB (mm 35) (mm 36) (mm 8)) k + cntN (conB (mm 35) (mm 36) (mm 8) k) o))), (2, .int (nI k)), (3, .int (nI o))] [] (SH, mm, lm) false _ _ false 0 0) ?_ ?_ 0 (Nat.zero_le _)
    · refine bX4_conflictsThere_17 ⟨fun _ => ?_, fun h => absurd (Int32.le_refl _) h⟩
      rw [nI_1]; exact ih
    · intro o ho ih2
      refine bX4_conflictsThere_17 ⟨fun h => absurd h (nI_ge ho (by omega)), fun _ => ⟨k, rfl, by omega, o, rfl, by omega, k, rfl, by omega, fun h => ?_, fun h => ⟨k, rfl, by omega, o, rfl, by omega, fun h2 => ?_, fun h2 => ⟨_, c_keepsClear (by omega) (by omega) _, fun h3 => ?_, fun h3 => ?_⟩⟩⟩⟩
      · have e : conB (mm 35) (mm 36) (mm 8) k o = false := decide_eq_false fun z => z.1 h
        rw [nI_1]; simpa [cntN, e] using ih2
      · have e : conB (mm 35) (mm 36) (mm 8) k o = false := decide_eq_false fun z => h2 z.2.1
        rw [nI_1]; simpa [cntN, e] using ih2
      · have e : conB (mm 35) (mm 36) (mm 8) k o = false := decide_eq_false fun z => bI_1.mp h3 z.2.2
        rw [nI_1]; simpa [cntN, e] using ih2
      · have e : conB (mm 35) (mm 36) (mm 8) k o = true := decide_eq_true ⟨h, h2, Decidable.not_not.mp (bI_0.mp h3)⟩
        rw [nI_1, nI_1]; simpa [cntN, e, Nat.add_assoc] using ih2
/-- the arrangement in which each bell k below n has the digit d k -/
def arrN (d : Nat → Nat) : Nat → Nat
  | 0 => 0
  | n + 1 => arrN d n + d n * 3 ^ n
theorem arrN_lt {d : Nat → Nat} (h : ∀ k, d k < 3) : ∀ n, arrN d n < 3 ^ n
  | 0 => by simp [arrN]
  | n + 1 => by
    have h1 := arrN_lt h n
    have h2 := Nat.mul_le_mul_right (3 ^ n) (show d n ≤ 2 by have := h n; omega)
    simp only [arrN, Nat.pow_succ]; omega
theorem arrN_congr {d e : Nat → Nat} : ∀ {n : Nat}, (∀ k, k < n → d k = e k) → arrN d n = arrN e n
  | 0, _ => rfl
  | n + 1, h => by simp only [arrN]; rw [arrN_congr (fun k hk => h k (by omega)), h n (by omega)]
/-- present digits; the goal's -/
def preD (mm : Nat → Nat → Int32) (k : Nat) : Nat := if mm (23 + k) 0 = -1 then 0 else 1
def goaD (mm : Nat → Nat → Int32) (k : Nat) : Nat := if ¬ mm (23 + k) 2 = -1 ∧ ¬ (mm (23 + k) 2 = mm (23 + k) 0 ∧ mm (23 + k) 3 = mm (23 + k) 1) then 2 else preD mm k
theorem preD_lt (mm : Nat → Nat → Int32) (k : Nat) : preD mm k < 3 := by unfold preD; split <;> omega
theorem goaD_lt (mm : Nat → Nat → Int32) (k : Nat) : goaD mm k < 3 := by unfold goaD; split; omega; exact preD_lt mm k
theorem c_presentArrangement (hnb : mm 4 9 = nI nb) (h8 : nb ≤ 8) : Ct G M_X4_presentArrangement [.ref 32] (SH, mm, lm) false (.inl (some (.int (nI (arrN (preD mm) nb))))) (SH, mm, lm) false 0 0 := by
  refine CJ (bX4_presentArrangement_0 ?_)
  refine loop_up (n := nb) (P := fun k => J G M_X4_presentArrangement 4 [(0, .ref 32), (1, .int (nI (arrN (preD mm) k))), (2, .int (nI k))] [] (SH, mm, lm) false _ _ false 0 0) ?_ ?_ 0 (Nat.zero_le _)
  · exact bX4_presentArrangement_4 ⟨fun _ => ⟨rfl, rfl⟩, fun h => absurd (le_nI' hnb) h⟩
  · intro k hk ih
    refine bX4_presentArrangement_4 ⟨fun h => absurd h (le_nI hnb hk (by omega)), fun _ => ⟨k, rfl, by omega, _, c_hangs (sh_b23 (by omega)), fun h => ?_, fun h => ⟨k, rfl, by omega, ?_⟩⟩⟩
    · have e : preD mm k = 0 := if_pos (Decidable.not_not.mp (bI_0.mp h))
      rw [nI_1]; simpa only [arrN, e, Nat.zero_mul, Nat.add_zero] using ih
    · have e : preD mm k = 1 := if_neg (bI_1.mp h)
      rw [nI_1, pw_nI k (by omega), show (1 : Int32) = nI 1 from rfl, nI_mul, nI_add]; simpa only [arrN, e] using ih
theorem c_goalArrangement (hnb : mm 4 9 = nI nb) (h8 : nb ≤ 8) : Ct G M_X4_goalArrangement [.ref 32] (SH, mm, lm) false (.inl (some (.int (nI (arrN (goaD mm) nb))))) (SH, mm, lm) false 0 0 := by
  refine CJ (bX4_goalArrangement_0 ?_)
  refine loop_up (n := nb) (P := fun k => J G M_X4_goalArrangement 4 [(0, .ref 32), (1, .int (nI (arrN (goaD mm) k))), (2, .int (nI k))] [] (SH, mm, lm) false _ _ false 0 0) ?_ ?_ 0 (Nat.zero_le _)
  · exact bX4_goalArrangement_4 ⟨fun _ => ⟨rfl, rfl⟩, fun h => absurd (le_nI' hnb) h⟩
  · intro k hk ih
    have s0 : goaD mm k = 0 → J G M_X4_goalArrangement 4 [(0, .ref 32), (1, .int (nI (arrN (goaD mm) k))), (2, .int (nI k + 1))] [] (SH, mm, lm) false (.inl (some (.int (nI (arrN (goaD mm) nb))))) (SH, mm, lm) false 0 0 := fun e => by
      rw [nI_1]; simpa only [arrN, e, Nat.zero_mul, Nat.add_zero] using ih
    have s1 : goaD mm k = 1 → J G M_X4_goalArrangement 4 [(0, .ref 32), (1, .int (nI (arrN (goaD mm) k) + 1 * tl_1001.getD k 0)), (2, .int (nI k + 1))] [] (SH, mm, lm) false (.inl (some (.int (nI (arrN (goaD mm) nb))))) (SH, mm, lm) false 0 0 := fun e => by
      rw [nI_1, pw_nI k (by omega), show (1 : Int32) = nI 1 from rfl, nI_mul, nI_add]; simpa only [arrN, e] using ih
    have s2 : goaD mm k = 2 → J G M_X4_goalArrangement 4 [(0, .ref 32), (1, .int (nI (arrN (goaD mm) k) + 2 * tl_1001.getD k 0)), (2, .int (nI k + 1))] [] (SH, mm, lm) false (.inl (some (.int (nI (arrN (goaD mm) nb))))) (SH, mm, lm) false 0 0 := fun e => by
      rw [nI_1, pw_nI k (by omega), show (2 : Int32) = nI 2 from rfl, nI_mul, nI_add]; simpa only [arrN, e] using ih
    refine bX4_goalArrangement_4 ⟨fun h => absurd h (le_nI hnb hk (by omega)), fun _ => ⟨k, rfl, by omega, _, c_hasPlan (sh_b23 (by omega)), fun h => ⟨k, rfl, by omega, _, c_hangs (sh_b23 (by omega)), fun h2 => s0 ?_, fun h2 => ⟨k, rfl, by omega, s1 ?_⟩⟩, fun h => ⟨k, rfl, by omega, _, c_pwih (sh_b23 (by omega)), fun h2 => ⟨k, rfl, by omega, _, c_hangs (sh_b23 (by omega)), fun h3 => s0 ?_, fun h3 => ⟨k, rfl, by omega, s1 ?_⟩⟩, fun h2 => ⟨k, rfl, by omega, s2 ?_⟩⟩⟩⟩
    · rw [goaD, if_neg (fun z => bI_0.mp h z.1), preD, if_pos (Decidable.not_not.mp (bI_0.mp h2))]
    · rw [goaD, if_neg (fun z => bI_0.mp h z.1), preD, if_neg (bI_1.mp h2)]
    · rw [goaD, if_neg (fun z => z.2 (bI_1.mp h2).2), preD, if_pos (Decidable.not_not.mp (bI_0.mp h3))]
    · rw [goaD, if_neg (fun z => z.2 (bI_1.mp h2).2), preD, if_neg (bI_1.mp h3)]
    · rw [goaD, if_pos ⟨bI_1.mp h, fun z => bI_0.mp h2 ⟨bI_1.mp h, z⟩⟩]
theorem pow_le8 {nb : Nat} (h8 : nb ≤ 8) : 3 ^ nb ≤ 6561 := Nat.pow_le_pow_right (n := 3) (by omega) h8
theorem c_countConflicts (hnb : mm 4 9 = nI nb) (h8 : nb ≤ 8) (hb : ∀ k, k < nb → bmP (mm (23 + k) 0) ∧ bmP (mm (23 + k) 2)) : ∃ mm', EqR mm mm' ∧ Ct G M_X4_countConflicts [.ref 32] (SH, mm, lm) false (.inl (some (.int (nI (cntP (conB (bmF mm (arrN (goaD mm) nb)) (psF mm (arrN (goaD mm) nb)) (mm 8)) nb))))) (SH, mm', lm) false 0 0 := by
  have hA : arrN (goaD mm) nb < 6561 := Nat.lt_of_lt_of_le (arrN_lt (goaD_lt mm) nb) (pow_le8 h8)
  obtain ⟨m1, e1, -, e3, -, ct⟩ := c_arrange (G := G) (lm := lm) hnb h8 hA hb
  refine ⟨m1, e1, CJ (bX4_countConflicts_0 ⟨_, c_goalArrangement hnb h8, m1, ct, _, c_conflictsThere ((e1 4 9 rfl).trans hnb) h8, ?_⟩)⟩
  rw [cntP_congr (p := conB (m1 35) (m1 36) (m1 8)) (q := conB (bmF mm (arrN (goaD mm) nb)) (psF mm (arrN (goaD mm) nb)) (mm 8)) (fun k o hk ho => by simp only [conB, (e3 k hk).1, (e3 k hk).2, (e3 o (by omega)).1, (e3 o (by omega)).2, e1 8 k rfl, e1 8 o rfl])]
  exact ⟨rfl, rfl⟩
theorem c_unbalancedBeams (hnb : mm 4 9 = nI nb) (h8 : nb ≤ 8) {nm : Nat} (hnm : mm 4 8 = nI nm) (h4 : nm ≤ 4) (hb : ∀ k, k < nb → bmP (mm (23 + k) 0) ∧ bmP (mm (23 + k) 2)) : ∃ mm', EqR mm mm' ∧ Ct G M_X4_unbalancedBeams [.ref 32] (SH, mm, lm) false (.inl (some (.int (orN (fun b => decide (mm 6 b < absI (moA (bmF mm (arrN (goaD mm) nb)) (psF mm (arrN (goaD mm) nb)) (mm 7) nb b))) nm)))) (SH, mm', lm) false 0 0 := by
  have hA : arrN (goaD mm) nb < 6561 := Nat.lt_of_lt_of_le (arrN_lt (goaD_lt mm) nb) (pow_le8 h8)
  obtain ⟨m1, e1, -, -, e4, ct⟩ := c_arrange (G := G) (lm := lm) hnb h8 hA hb
  refine ⟨m1, e1, CJ (bX4_unbalancedBeams_0 ⟨_, c_goalArrangement hnb h8, m1, ct, _, c_unbalancedThere ((e1 4 8 rfl).trans hnm) h4, ?_⟩)⟩
  rw [orN_congr (p := fun b => decide (m1 6 b < absI (m1 37 b))) (q := fun b => decide (mm 6 b < absI (moA (bmF mm (arrN (goaD mm) nb)) (psF mm (arrN (goaD mm) nb)) (mm 7) nb b))) (fun b hb2 => by simp only [e1 6 b rfl, e4 b (by omega)])]
  exact ⟨rfl, rfl⟩
end Plans
