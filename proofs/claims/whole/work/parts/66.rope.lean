/-! ===== ropes: sets of bells, cuttings, costs ===== -/
/-- part of a set -/
def Sb (c s : Nat) : Prop := ∀ b, c.testBit b = true → s.testBit b = true
theorem sb_and {c s : Nat} : Sb c s ↔ c &&& s = c := by
  constructor
  · intro h
    apply Nat.eq_of_testBit_eq
    intro i
    rw [Nat.testBit_and]
    cases hc : c.testBit i with
    | false => rfl
    | true => rw [h i hc]; rfl
  · intro h b hb
    rw [← h, Nat.testBit_and] at hb
    cases hs : s.testBit b with
    | true => rfl
    | false => rw [hs, Bool.and_false] at hb; cases hb
theorem sb_refl (s : Nat) : Sb s s := fun _ h => h
theorem sb_trans {a b c : Nat} (h : Sb a b) (h2 : Sb b c) : Sb a c := fun i hi => h2 i (h i hi)
theorem sb_le {c s : Nat} (h : Sb c s) : c ≤ s := by rw [← sb_and.mp h]; exact Nat.and_le_right
theorem sb_zero (s : Nat) : Sb 0 s := fun b h => by rw [Nat.zero_testBit] at h; cases h
theorem xor_bit {c s : Nat} (h : Sb c s) (b : Nat) : (s ^^^ c).testBit b = (s.testBit b && !c.testBit b) := by
  rw [Nat.testBit_xor]
  cases hc : c.testBit b with
  | false => cases s.testBit b <;> rfl
  | true => rw [h b hc]; rfl
theorem sb_xor {c s : Nat} (h : Sb c s) : Sb (s ^^^ c) s := fun b hb => by
  rw [xor_bit h] at hb
  cases hs : s.testBit b with
  | true => rfl
  | false => rw [hs] at hb; cases hb
theorem low_bit : ∀ c, 0 < c → ∃ h i, c = 2 ^ (i + 1) * h + 2 ^ i := by
  intro c
  induction c using Nat.strongRecOn with
  | ind c ih =>
    intro hc
    by_cases ho : c % 2 = 1
    · exact ⟨c / 2, 0, by rw [Nat.pow_zero, Nat.pow_one]; omega⟩
    · obtain ⟨h, i, e⟩ := ih (c / 2) (by omega) (by omega)
      refine ⟨h, i + 1, ?_⟩
      have e2 : c = 2 * (c / 2) := by omega
      rw [e2, e, Nat.pow_succ 2 (i + 1), Nat.pow_succ 2 i]
      generalize 2 ^ i = K
      rw [Nat.mul_add, ← Nat.mul_assoc, Nat.mul_comm 2 (K * 2), Nat.mul_comm 2 K]
/-- the next part below -/
theorem sb_next {c s t : Nat} (hc : Sb c s) (hc0 : 0 < c) (ht : Sb t s) (hlt : t < c) : t ≤ (c - 1) &&& s := by
  obtain ⟨h, i, e⟩ := low_bit c hc0
  have hK : 0 < 2 ^ i := Nat.two_pow_pos i
  have e1 : 2 ^ (i + 1) = 2 ^ i + 2 ^ i := by rw [Nat.pow_succ]; omega
  have hK1 : 0 < 2 ^ (i + 1) := Nat.two_pow_pos _
  have c1 : c - 1 = 2 ^ (i + 1) * h + (2 ^ i - 1) := by omega
  have cd : c / 2 ^ (i + 1) = h := by rw [e, Nat.mul_add_div hK1, Nat.div_eq_of_lt (by omega), Nat.add_zero]
  have c1d : (c - 1) / 2 ^ (i + 1) = h := by rw [c1, Nat.mul_add_div hK1, Nat.div_eq_of_lt (by omega), Nat.add_zero]
  have c1m : (c - 1) % 2 ^ (i + 1) = 2 ^ i - 1 := by rw [c1, Nat.mul_add_mod, Nat.mod_eq_of_lt (by omega)]
  have hs : h &&& (s / 2 ^ (i + 1)) = h := by
    have := sb_and.mp hc
    have q := congrArg (· / 2 ^ (i + 1)) this
    simp only [Nat.and_div_two_pow, cd] at q
    exact q
  have ud : ((c - 1) &&& s) / 2 ^ (i + 1) = h := by rw [Nat.and_div_two_pow, c1d, hs]
  have um : ((c - 1) &&& s) % 2 ^ (i + 1) = s % 2 ^ i := by
    rw [Nat.and_mod_two_pow, c1m, Nat.and_comm, Nat.and_two_pow_sub_one_eq_mod]
    exact Nat.mod_mod_of_dvd s ⟨2, by rw [Nat.pow_succ]⟩
  have us := Nat.div_add_mod ((c - 1) &&& s) (2 ^ (i + 1))
  have ts := Nat.div_add_mod t (2 ^ (i + 1))
  rw [ud, um] at us
  have td : t / 2 ^ (i + 1) ≤ h := by rw [← cd]; exact Nat.div_le_div_right (by omega)
  rcases Nat.lt_or_eq_of_le td with w | w
  · have := Nat.mul_le_mul_left (2 ^ (i + 1)) (Nat.succ_le_of_lt w)
    rw [Nat.mul_succ] at this
    have hm := Nat.mod_lt t hK1
    omega
  · rw [w] at ts
    have hm : t % 2 ^ (i + 1) < 2 ^ i := by omega
    have e2 : t % 2 ^ (i + 1) = t % 2 ^ i := by
      rw [← Nat.mod_eq_of_lt hm]
      exact Nat.mod_mod_of_dvd t ⟨2, by rw [Nat.pow_succ]⟩
    have e3 : t % 2 ^ i ≤ s % 2 ^ i := by
      rw [← sb_and.mp ht, Nat.and_mod_two_pow]; exact Nat.and_le_right
    omega
/-- the set of the bells below n that have q -/
def mkM (q : Nat → Bool) : Nat → Nat
  | 0 => 0
  | n + 1 => (if q n = true then 2 ^ n else 0) + mkM q n
theorem mkM_lt (q : Nat → Bool) : ∀ n, mkM q n < 2 ^ n
  | 0 => by show 0 < 2 ^ 0; decide
  | n + 1 => by
    have := mkM_lt q n
    simp only [mkM, Nat.pow_succ]
    split <;> omega
theorem mkM_bit (q : Nat → Bool) : ∀ n b, (mkM q n).testBit b = (decide (b < n) && q b)
  | 0, b => by simp [mkM, Nat.zero_testBit]
  | n + 1, b => by
    have hlt := mkM_lt q n
    simp only [mkM]
    rcases Nat.lt_trichotomy b n with h | h | h
    · have e1 : decide (b < n + 1) = true := decide_eq_true (by omega)
      have e2 : decide (b < n) = true := decide_eq_true h
      have ih := mkM_bit q n b
      rw [e2] at ih
      rw [e1]
      by_cases hq : q n = true
      · rw [if_pos hq, Nat.testBit_two_pow_add_gt h, ih]
      · rw [if_neg hq, Nat.zero_add, ih]
    · subst h
      have e1 : decide (b < b + 1) = true := decide_eq_true (by omega)
      rw [e1, Bool.true_and]
      by_cases hq : q b = true
      · rw [if_pos hq, Nat.testBit_two_pow_add_eq, Nat.testBit_lt_two_pow hlt, hq]; rfl
      · rw [if_neg hq, Nat.zero_add, Nat.testBit_lt_two_pow hlt, Bool.eq_false_iff.mpr hq]
    · have e1 : decide (b < n + 1) = false := decide_eq_false (by omega)
      rw [e1, Bool.false_and]
      refine Nat.testBit_lt_two_pow (Nat.lt_of_lt_of_le (?_ : _ < 2 ^ (n + 1)) (Nat.pow_le_pow_right (by omega) h))
      rw [Nat.pow_succ]
      split <;> omega
/-- a sum over the bells of a set -/
def wsum (s : Nat) (f : Nat → Nat) : Nat := fb_sm (fun b => if s.testBit b = true then f b else 0) 8
theorem ws_congr {s s' : Nat} {f f' : Nat → Nat} (h : ∀ b, b < 8 → (if s.testBit b = true then f b else 0) = if s'.testBit b = true then f' b else 0) : wsum s f = wsum s' f' := fb_sm_cong h
theorem ws_split {c s : Nat} (h : Sb c s) (f : Nat → Nat) : wsum s f = wsum (s ^^^ c) f + wsum c f := by
  unfold wsum
  rw [← fb_sm_add]
  refine fb_sm_cong fun b _ => ?_
  rw [xor_bit h]
  cases hc : c.testBit b with
  | false => cases hs : s.testBit b <;> simp
  | true => rw [h b hc]; simp
theorem ws_part {s b : Nat} (hb : b < 8) (hs : s.testBit b = true) (f : Nat → Nat) : f b ≤ wsum s f := by
  have := fb_sm_part (fun b => if s.testBit b = true then f b else 0) hb
  rw [if_pos hs] at this
  unfold wsum
  omega
theorem ws_0 (f : Nat → Nat) : wsum 0 f = 0 := by
  unfold wsum
  rw [fb_sm_cong (g := fun _ => 0) (fun b _ => by rw [Nat.zero_testBit]; rfl), fb_sm_const]
theorem ws_mul (s k : Nat) (f : Nat → Nat) : wsum s (fun b => k * f b) = k * wsum s f := by
  simp only [wsum, fb_sm]
  have e : ∀ b, (if s.testBit b = true then k * f b else 0) = k * (if s.testBit b = true then f b else 0) := fun b => by split <;> simp
  simp only [e, ← Nat.mul_add, Nat.mul_zero, Nat.zero_add]
/-- a cutting a: the bells of s on the piece p; the load; the pieces used; the digits -/
def flA (s : Nat) (a : Nat → Nat) (p : Nat) : Nat := mkM (fun b => s.testBit b && decide (a b = p)) 8
def ldA (len : Nat → Nat) (s : Nat) (a : Nat → Nat) (p : Nat) : Nat := wsum s (fun b => if a b = p then len b else 0)
def usA (P s : Nat) (a : Nat → Nat) : Nat := fb_ct (fun p => decide (¬ flA s a p = 0)) P
def coA (s : Nat) (a : Nat → Nat) : Nat := wsum s (fun b => a b * 8 ^ (7 - b))
def cost (P s : Nat) (a : Nat → Nat) : Nat := 16777216 * usA P s a + coA s a
def onesA (s : Nat) : Nat := wsum s (fun b => 8 ^ (7 - b))
def VaC (len cap : Nat → Nat) (P s : Nat) (a : Nat → Nat) : Prop := ∀ b, b < 8 → s.testBit b = true → a b < P ∧ ldA len s a (a b) ≤ cap (a b)
theorem fl_bit {s p b : Nat} {a : Nat → Nat} (hb : b < 8) : (flA s a p).testBit b = (s.testBit b && decide (a b = p)) := by
  unfold flA
  rw [mkM_bit, decide_eq_true hb, Bool.true_and]
theorem fl_lt (s p : Nat) (a : Nat → Nat) : flA s a p < 256 := mkM_lt _ 8
theorem bit8 {s b : Nat} (h : s < 256) (hb : s.testBit b = true) : b < 8 := by
  refine Nat.not_le.mp fun z => ?_
  rw [Nat.testBit_lt_two_pow (Nat.lt_of_lt_of_le h (Nat.pow_le_pow_right (n := 2) (by omega) z : 2 ^ 8 ≤ 2 ^ b))] at hb
  cases hb
theorem fl_sb {s p : Nat} {a : Nat → Nat} : Sb (flA s a p) s := fun b h => by
  have hb := bit8 (fl_lt s p a) h
  rw [fl_bit hb] at h
  cases hs : s.testBit b with
  | true => rfl
  | false => rw [hs] at h; cases h
theorem fl_0 {s p : Nat} {a : Nat → Nat} : flA s a p = 0 ↔ ∀ b, b < 8 → s.testBit b = true → ¬ a b = p := by
  constructor
  · intro h b hb hs e
    have := fl_bit (s := s) (p := p) (a := a) hb
    rw [h, Nat.zero_testBit, hs, decide_eq_true e] at this
    cases this
  · intro h
    apply Nat.eq_of_testBit_eq
    intro b
    rw [Nat.zero_testBit]
    cases hx : (flA s a p).testBit b with
    | false => rfl
    | true =>
      have hb := bit8 (fl_lt s p a) hx
      rw [fl_bit hb, Bool.and_eq_true, decide_eq_true_eq] at hx
      exact absurd hx.2 (h b hb hx.1)
theorem ex_bit {c : Nat} (h : c < 256) (h0 : 0 < c) : ∃ b, b < 8 ∧ c.testBit b = true := by
  obtain ⟨b, hb⟩ := Nat.exists_testBit_of_ne_zero (by omega : c ≠ 0)
  exact ⟨b, bit8 h hb, hb⟩
/-- without the bells on P, the others lie as they lay -/
theorem fl_xor {s P p : Nat} {a : Nat → Nat} (h : p ≠ P) : flA (s ^^^ flA s a P) a p = flA s a p := by
  apply Nat.eq_of_testBit_eq
  intro b
  cases hx : (flA s a p).testBit b with
  | true =>
    have hb := bit8 (fl_lt s p a) hx
    have hx2 := hx
    rw [fl_bit hb, Bool.and_eq_true, decide_eq_true_eq] at hx
    rw [fl_bit hb, xor_bit fl_sb, fl_bit hb, hx.1, decide_eq_true hx.2, decide_eq_false (by rw [hx.2]; exact h)]; rfl
  | false =>
    cases hy : (flA (s ^^^ flA s a P) a p).testBit b with
    | false => rfl
    | true =>
      have hb := bit8 (fl_lt _ p a) hy
      rw [fl_bit hb, Bool.and_eq_true] at hy
      have h1 := sb_xor (fl_sb (s := s) (p := P) (a := a)) b hy.1
      rw [fl_bit hb, h1, hy.2] at hx
      cases hx
theorem ld_xor {len : Nat → Nat} {s P p : Nat} {a : Nat → Nat} (h : p ≠ P) : ldA len (s ^^^ flA s a P) a p = ldA len s a p := ws_congr fun b hb => by
  rw [xor_bit fl_sb, fl_bit hb]
  cases hs : s.testBit b with
  | false => rfl
  | true =>
    by_cases e : a b = P
    · rw [decide_eq_true e, if_neg (by simp), if_pos rfl, if_neg (by rw [e]; exact fun z => h z.symm)]
    · rw [decide_eq_false e]; simp
theorem ld_fl {len : Nat → Nat} {s P : Nat} {a : Nat → Nat} : wsum (flA s a P) len = ldA len s a P := ws_congr fun b hb => by
  rw [fl_bit hb]
  cases hs : s.testBit b with
  | false => rfl
  | true =>
    by_cases e : a b = P
    · rw [decide_eq_true e, if_pos e]; rfl
    · rw [decide_eq_false e, if_neg e]; rfl
theorem co_fl {s P : Nat} {a : Nat → Nat} : coA (flA s a P) a = P * onesA (flA s a P) := by
  unfold coA onesA
  rw [← ws_mul]
  refine ws_congr fun b hb => ?_
  rw [fl_bit hb]
  cases hs : s.testBit b with
  | false => rfl
  | true =>
    by_cases e : a b = P
    · rw [decide_eq_true e, e]
    · rw [decide_eq_false e]; rfl
section LcS
variable {len cap : Nat → Nat} {P s c : Nat} {a : Nat → Nat}
theorem vc_zero (h : flA s a P = 0) : (VaC len cap (P + 1) s a ↔ VaC len cap P s a) ∧ cost (P + 1) s a = cost P s a := by
  have h0 := fl_0.mp h
  refine ⟨⟨fun v b hb hs => ⟨?_, (v b hb hs).2⟩, fun v b hb hs => ⟨by have := (v b hb hs).1; omega, (v b hb hs).2⟩⟩, ?_⟩
  · have := (v b hb hs).1
    have := h0 b hb hs
    omega
  · unfold cost usA
    rw [fb_ct_succ, if_neg (by rw [decide_eq_true_eq, h]; simp), Nat.add_zero]
theorem vc_pos (h : ¬ flA s a P = 0) : cost (P + 1) s a = cost P (s ^^^ flA s a P) a + 16777216 + P * onesA (flA s a P) := by
  unfold cost usA
  have e : coA s a = coA (s ^^^ flA s a P) a + coA (flA s a P) a := ws_split fl_sb _
  rw [fb_ct_succ, if_pos (decide_eq_true h), e, co_fl, fb_ct_cong (q := fun p => decide (¬ flA s a p = 0)) (p := fun p => decide (¬ flA (s ^^^ flA s a P) a p = 0)) (fun k hk => by rw [fl_xor (by omega)])]
  omega
theorem vc_down (h : VaC len cap (P + 1) s a) : VaC len cap P (s ^^^ flA s a P) a := fun b hb hx => by
  have hs := sb_xor (fl_sb (s := s) (p := P) (a := a)) b hx
  rw [xor_bit fl_sb, fl_bit hb, hs, Bool.true_and] at hx
  have hne : ¬ a b = P := fun e => by rw [decide_eq_true e] at hx; cases hx
  obtain ⟨h1, h2⟩ := h b hb hs
  rw [ld_xor hne]
  exact ⟨by omega, h2⟩
theorem vc_up (hs8 : s < 256) (hc : Sb c s) (hT : wsum c len ≤ cap P) (h : VaC len cap P (s ^^^ c) a) : VaC len cap (P + 1) s (fun b => if c.testBit b = true then P else a b) ∧ flA s (fun b => if c.testBit b = true then P else a b) P = c ∧ cost P (s ^^^ c) (fun b => if c.testBit b = true then P else a b) = cost P (s ^^^ c) a := by
  have same : ∀ b, (s ^^^ c).testBit b = true → (if c.testBit b = true then P else a b) = a b := fun b hb => by
    rw [xor_bit hc, Bool.and_eq_true, Bool.not_eq_true'] at hb
    rw [if_neg (by rw [hb.2]; simp)]
  have hfl : flA s (fun b => if c.testBit b = true then P else a b) P = c := by
    apply Nat.eq_of_testBit_eq
    intro b
    by_cases hb : b < 8
    · rw [fl_bit hb]
      cases hcb : c.testBit b with
      | true => rw [hc b hcb]; simp
      | false =>
        cases hsb : s.testBit b with
        | false => rfl
        | true =>
          have hx : (s ^^^ c).testBit b = true := by rw [xor_bit hc, hsb, hcb]; rfl
          have := (h b hb hx).1
          simp
          omega
    · have e1 : (flA s (fun b => if c.testBit b = true then P else a b) P).testBit b = false := by
        cases hx : (flA s (fun b => if c.testBit b = true then P else a b) P).testBit b with
        | false => rfl
        | true => exact absurd (bit8 (fl_lt _ _ _) hx) hb
      have e2 : c.testBit b = false := by
        cases hx : c.testBit b with
        | false => rfl
        | true => exact absurd (bit8 hs8 (hc b hx)) hb
      rw [e1, e2]
  have hx256 : s ^^^ c < 256 := Nat.lt_of_le_of_lt (sb_le (sb_xor hc)) hs8
  have lds : ∀ p, ldA len (s ^^^ c) (fun b => if c.testBit b = true then P else a b) p = ldA len (s ^^^ c) a p := fun p => ws_congr fun b hb => by
    cases hx : (s ^^^ c).testBit b with
    | false => rfl
    | true => simp only [same b hx]
  have fls : ∀ p, flA (s ^^^ c) (fun b => if c.testBit b = true then P else a b) p = flA (s ^^^ c) a p := fun p => by
    apply Nat.eq_of_testBit_eq
    intro b
    unfold flA
    rw [mkM_bit, mkM_bit]
    cases hx : (s ^^^ c).testBit b with
    | false => rfl
    | true => simp only [same b hx]
  refine ⟨fun b hb hs => ?_, hfl, ?_⟩
  · cases hcb : c.testBit b with
    | true =>
      show (if c.testBit b = true then P else a b) < P + 1 ∧ ldA len s (fun b => if c.testBit b = true then P else a b) (if c.testBit b = true then P else a b) ≤ cap (if c.testBit b = true then P else a b)
      rw [if_pos hcb, ← ld_fl, hfl]
      exact ⟨by omega, hT⟩
    | false =>
      have hx : (s ^^^ c).testBit b = true := by rw [xor_bit hc, hs, hcb]; rfl
      have hab := h b hb hx
      have e : (if c.testBit b = true then P else a b) = a b := if_neg (by rw [hcb]; simp)
      show (if c.testBit b = true then P else a b) < P + 1 ∧ ldA len s (fun b => if c.testBit b = true then P else a b) (if c.testBit b = true then P else a b) ≤ cap (if c.testBit b = true then P else a b)
      rw [e]
      have e2 := ld_xor (len := len) (s := s) (P := P) (p := a b) (a := fun b => if c.testBit b = true then P else a b) (by omega)
      rw [hfl, lds] at e2
      rw [← e2]
      exact ⟨by omega, hab.2⟩
  · unfold cost usA
    rw [fb_ct_cong (q := fun p => decide (¬ flA (s ^^^ c) a p = 0)) (fun p _ => by rw [fls])]
    have e : coA (s ^^^ c) (fun b => if c.testBit b = true then P else a b) = coA (s ^^^ c) a := ws_congr fun b hb => by
      cases hx : (s ^^^ c).testBit b with
      | false => rfl
      | true => simp only [same b hx]
    rw [e]
/-- the class's costs, for the first P pieces -/
def LcA (len cap : Nat → Nat) (P : Nat) (w : Nat → Nat) (s : Nat) : Prop := ∀ v, v < 2147483647 → (w s ≤ v ↔ ∃ a, VaC len cap P s a ∧ cost P s a ≤ v)
theorem lc_start {w : Nat → Nat} (hs8 : s < 256) (h : w s = if s = 0 then 0 else 2147483647) : LcA len cap 0 w s := by
  intro v hv
  rw [h]
  by_cases h0 : s = 0
  · rw [if_pos h0, h0]
    refine ⟨fun _ => ⟨fun _ => 0, fun b hb hs => (by rw [Nat.zero_testBit] at hs; cases hs), ?_⟩, fun _ => Nat.zero_le _⟩
    unfold cost usA coA
    rw [ws_0]
    exact Nat.zero_le _
  · rw [if_neg h0]
    refine ⟨fun z => by omega, fun ⟨a, h1, _⟩ => ?_⟩
    obtain ⟨b, hb, hs⟩ := ex_bit hs8 (by omega)
    have := (h1 b hb hs).1
    omega
theorem lc_step {w0 : Nat → Nat} {w1 : Nat} (hs8 : s < 256) (h0 : ∀ s', Sb s' s → LcA len cap P w0 s') (h1 : ∀ v, v < 2147483647 → (w1 ≤ v ↔ w0 s ≤ v ∨ ∃ c, 0 < c ∧ Sb c s ∧ wsum c len ≤ cap P ∧ w0 (s ^^^ c) < 2147483647 ∧ w0 (s ^^^ c) + 16777216 + P * onesA c ≤ v)) : ∀ v, v < 2147483647 → (w1 ≤ v ↔ ∃ a, VaC len cap (P + 1) s a ∧ cost (P + 1) s a ≤ v) := by
  intro v hv
  rw [h1 v hv]
  constructor
  · rintro (z | ⟨c, c0, c1, c2, c3, c4⟩)
    · obtain ⟨a, a1, a2⟩ := (h0 s (sb_refl s) v hv).mp z
      have hf : flA s a P = 0 := fl_0.mpr fun b hb hs => by have := (a1 b hb hs).1; omega
      obtain ⟨e1, e2⟩ := vc_zero (len := len) (cap := cap) hf
      exact ⟨a, e1.mpr a1, by rw [e2]; exact a2⟩
    · obtain ⟨a, a1, a2⟩ := (h0 _ (sb_xor c1) (w0 (s ^^^ c)) c3).mp (Nat.le_refl _)
      obtain ⟨e1, e2, e3⟩ := vc_up hs8 c1 c2 a1
      have e4 := vc_pos (s := s) (P := P) (a := fun b => if c.testBit b = true then P else a b) (by rw [e2]; omega)
      rw [e2, e3] at e4
      exact ⟨_, e1, by rw [e4]; omega⟩
  · rintro ⟨a, a1, a2⟩
    by_cases hf : flA s a P = 0
    · obtain ⟨e1, e2⟩ := vc_zero (len := len) (cap := cap) hf
      exact Or.inl ((h0 s (sb_refl s) v hv).mpr ⟨a, e1.mp a1, by rw [← e2]; exact a2⟩)
    · have e4 := vc_pos hf
      have hc : 0 < flA s a P := by omega
      have hx := (h0 _ (sb_xor fl_sb) (cost P (s ^^^ flA s a P) a) (by omega)).mpr ⟨a, vc_down a1, Nat.le_refl _⟩
      refine Or.inr ⟨flA s a P, hc, fl_sb, ?_, by omega, by omega⟩
      obtain ⟨b, hb, hbb⟩ := ex_bit (fl_lt s P a) hc
      rw [fl_bit hb, Bool.and_eq_true, decide_eq_true_eq] at hbb
      have := (a1 b hb hbb.1).2
      rw [hbb.2] at this
      rw [ld_fl]; exact this
end LcS
section FwS
variable {len cap u : Nat → Nat} {R p s c : Nat} {a : Nat → Nat}
/-- the reference's cuttings: loads u so far, the pieces from p on -/
def VaM (len cap u : Nat → Nat) (R p s : Nat) (a : Nat → Nat) : Prop := ∀ b, b < 8 → s.testBit b = true → (p ≤ a b ∧ a b < R) ∧ u (a b) + ldA len s a (a b) ≤ cap (a b)
def nwA (u : Nat → Nat) (R p s : Nat) (a : Nat → Nat) : Nat := fb_ct (fun r => decide (p ≤ r ∧ u r = 0 ∧ ¬ flA s a r = 0)) R
def FwA (len cap u : Nat → Nat) (R p : Nat) (w : Nat → Nat) (s : Nat) : Prop := ∀ v, v < 1000000 → (w s ≤ v ↔ ∃ a, VaM len cap u R p s a ∧ nwA u R p s a ≤ v)
theorem vm_zero (h : flA s a p = 0) : (VaM len cap u R p s a ↔ VaM len cap u R (p + 1) s a) ∧ nwA u R p s a = nwA u R (p + 1) s a := by
  have h0 := fl_0.mp h
  refine ⟨⟨fun v b hb hs => ?_, fun v b hb hs => ?_⟩, fb_ct_cong fun r hr => ?_⟩
  · obtain ⟨⟨h1, h2⟩, h3⟩ := v b hb hs
    have := h0 b hb hs
    exact ⟨⟨by omega, h2⟩, h3⟩
  · obtain ⟨⟨h1, h2⟩, h3⟩ := v b hb hs
    exact ⟨⟨by omega, h2⟩, h3⟩
  · rw [decide_eq_decide]
    refine ⟨fun z => ⟨?_, z.2⟩, fun z => ⟨by omega, z.2⟩⟩
    rcases Nat.lt_or_eq_of_le z.1 with w | w
    · exact w
    · exact absurd (by rw [← w]; exact h) z.2.2
theorem vm_pos (hp : p < R) (h : ¬ flA s a p = 0) : nwA u R p s a = nwA u R (p + 1) (s ^^^ flA s a p) a + if u p = 0 then 1 else 0 := by
  unfold nwA
  have e := fb_ct_upd (fun r => decide (p + 1 ≤ r ∧ u r = 0 ∧ ¬ flA (s ^^^ flA s a p) a r = 0)) (decide (u p = 0)) hp
  rw [if_neg (by rw [decide_eq_true_eq]; omega), Nat.add_zero] at e
  have e2 : (if decide (u p = 0) = true then 1 else 0) = if u p = 0 then 1 else 0 := by by_cases z : u p = 0 <;> simp [z]
  rw [e2] at e
  rw [← e]
  refine fb_ct_cong fun r hr => ?_
  by_cases hrp : r = p
  · subst hrp
    rw [if_pos rfl, decide_eq_decide]
    exact ⟨fun z => z.2.1, fun z => ⟨Nat.le_refl _, z, h⟩⟩
  · rw [if_neg hrp, decide_eq_decide, fl_xor hrp]
    exact ⟨fun z => ⟨by omega, z.2⟩, fun z => ⟨by omega, z.2⟩⟩
theorem vm_down (h : VaM len cap u R p s a) : VaM len cap u R (p + 1) (s ^^^ flA s a p) a := fun b hb hx => by
  have hs := sb_xor (fl_sb (s := s) (p := p) (a := a)) b hx
  rw [xor_bit fl_sb, fl_bit hb, hs, Bool.true_and] at hx
  have hne : ¬ a b = p := fun e => by rw [decide_eq_true e] at hx; cases hx
  obtain ⟨⟨h1, h3⟩, h2⟩ := h b hb hs
  rw [ld_xor hne]
  exact ⟨⟨by omega, h3⟩, h2⟩
theorem vm_up (hs8 : s < 256) (hp : p < R) (hc : Sb c s) (hT : u p + wsum c len ≤ cap p) (h : VaM len cap u R (p + 1) (s ^^^ c) a) : VaM len cap u R p s (fun b => if c.testBit b = true then p else a b) ∧ flA s (fun b => if c.testBit b = true then p else a b) p = c ∧ nwA u R (p + 1) (s ^^^ c) (fun b => if c.testBit b = true then p else a b) = nwA u R (p + 1) (s ^^^ c) a := by
  have same : ∀ b, (s ^^^ c).testBit b = true → (if c.testBit b = true then p else a b) = a b := fun b hb => by
    rw [xor_bit hc, Bool.and_eq_true, Bool.not_eq_true'] at hb
    rw [if_neg (by rw [hb.2]; simp)]
  have hfl : flA s (fun b => if c.testBit b = true then p else a b) p = c := by
    apply Nat.eq_of_testBit_eq
    intro b
    by_cases hb : b < 8
    · rw [fl_bit hb]
      cases hcb : c.testBit b with
      | true => rw [hc b hcb]; simp
      | false =>
        cases hsb : s.testBit b with
        | false => rfl
        | true =>
          have hx : (s ^^^ c).testBit b = true := by rw [xor_bit hc, hsb, hcb]; rfl
          have := (h b hb hx).1.1
          simp
          omega
    · have e1 : (flA s (fun b => if c.testBit b = true then p else a b) p).testBit b = false := by
        cases hx : (flA s (fun b => if c.testBit b = true then p else a b) p).testBit b with
        | false => rfl
        | true => exact absurd (bit8 (fl_lt _ _ _) hx) hb
      have e2 : c.testBit b = false := by
        cases hx : c.testBit b with
        | false => rfl
        | true => exact absurd (bit8 hs8 (hc b hx)) hb
      rw [e1, e2]
  have lds : ∀ r, ldA len (s ^^^ c) (fun b => if c.testBit b = true then p else a b) r = ldA len (s ^^^ c) a r := fun r => ws_congr fun b hb => by
    cases hx : (s ^^^ c).testBit b with
    | false => rfl
    | true => simp only [same b hx]
  have fls : ∀ r, flA (s ^^^ c) (fun b => if c.testBit b = true then p else a b) r = flA (s ^^^ c) a r := fun r => by
    apply Nat.eq_of_testBit_eq
    intro b
    unfold flA
    rw [mkM_bit, mkM_bit]
    cases hx : (s ^^^ c).testBit b with
    | false => rfl
    | true => simp only [same b hx]
  refine ⟨fun b hb hs => ?_, hfl, fb_ct_cong fun r _ => by rw [fls]⟩
  cases hcb : c.testBit b with
  | true =>
    show (p ≤ (if c.testBit b = true then p else a b) ∧ (if c.testBit b = true then p else a b) < R) ∧ u (if c.testBit b = true then p else a b) + ldA len s (fun b => if c.testBit b = true then p else a b) (if c.testBit b = true then p else a b) ≤ cap (if c.testBit b = true then p else a b)
    rw [if_pos hcb, ← ld_fl, hfl]
    exact ⟨⟨Nat.le_refl _, hp⟩, hT⟩
  | false =>
    have hx : (s ^^^ c).testBit b = true := by rw [xor_bit hc, hs, hcb]; rfl
    have hab := h b hb hx
    have e : (if c.testBit b = true then p else a b) = a b := if_neg (by rw [hcb]; simp)
    show (p ≤ (if c.testBit b = true then p else a b) ∧ (if c.testBit b = true then p else a b) < R) ∧ u (if c.testBit b = true then p else a b) + ldA len s (fun b => if c.testBit b = true then p else a b) (if c.testBit b = true then p else a b) ≤ cap (if c.testBit b = true then p else a b)
    rw [e]
    have e2 := ld_xor (len := len) (s := s) (P := p) (p := a b) (a := fun b => if c.testBit b = true then p else a b) (by omega)
    rw [hfl, lds] at e2
    rw [← e2]
    exact ⟨⟨by omega, hab.1.2⟩, hab.2⟩
theorem fw_start {w : Nat → Nat} (hs8 : s < 256) (h : w s = if s = 0 then 0 else 1000000) : FwA len cap u R R w s := by
  intro v hv
  rw [h]
  by_cases h0 : s = 0
  · rw [if_pos h0, h0]
    refine ⟨fun _ => ⟨fun _ => 0, fun b hb hs => (by rw [Nat.zero_testBit] at hs; cases hs), ?_⟩, fun _ => Nat.zero_le _⟩
    unfold nwA
    rw [fb_ct_zero.mpr fun r hr => decide_eq_false fun z => by omega]
    exact Nat.zero_le _
  · rw [if_neg h0]
    refine ⟨fun z => by omega, fun ⟨a, h1, _⟩ => ?_⟩
    obtain ⟨b, hb, hs⟩ := ex_bit hs8 (by omega)
    have := (h1 b hb hs).1
    omega
theorem fw_step {w0 : Nat → Nat} {w1 : Nat} (hs8 : s < 256) (hp : p < R) (h0 : ∀ s', Sb s' s → FwA len cap u R (p + 1) w0 s') (h1 : ∀ v, v < 1000000 → (w1 ≤ v ↔ w0 s ≤ v ∨ ∃ c, 0 < c ∧ Sb c s ∧ u p + wsum c len ≤ cap p ∧ w0 (s ^^^ c) + (if u p = 0 then 1 else 0) ≤ v)) : ∀ v, v < 1000000 → (w1 ≤ v ↔ ∃ a, VaM len cap u R p s a ∧ nwA u R p s a ≤ v) := by
  intro v hv
  rw [h1 v hv]
  constructor
  · rintro (z | ⟨c, c0, c1, c2, c4⟩)
    · obtain ⟨a, a1, a2⟩ := (h0 s (sb_refl s) v hv).mp z
      have hf : flA s a p = 0 := fl_0.mpr fun b hb hs => by have := (a1 b hb hs).1.1; omega
      obtain ⟨e1, e2⟩ := vm_zero (len := len) (cap := cap) (u := u) (R := R) hf
      exact ⟨a, e1.mpr a1, by rw [e2]; exact a2⟩
    · obtain ⟨a, a1, a2⟩ := (h0 _ (sb_xor c1) (w0 (s ^^^ c)) (by omega)).mp (Nat.le_refl _)
      obtain ⟨e1, e2, e3⟩ := vm_up hs8 hp c1 c2 a1
      have e4 := vm_pos (u := u) (s := s) (a := fun b => if c.testBit b = true then p else a b) hp (by rw [e2]; omega)
      rw [e2, e3] at e4
      exact ⟨_, e1, by rw [e4]; omega⟩
  · rintro ⟨a, a1, a2⟩
    by_cases hf : flA s a p = 0
    · obtain ⟨e1, e2⟩ := vm_zero (len := len) (cap := cap) (u := u) (R := R) hf
      exact Or.inl ((h0 s (sb_refl s) v hv).mpr ⟨a, e1.mp a1, by rw [← e2]; exact a2⟩)
    · have e4 := vm_pos (u := u) hp hf
      have hc : 0 < flA s a p := by omega
      have hx := (h0 _ (sb_xor fl_sb) (nwA u R (p + 1) (s ^^^ flA s a p) a) (by omega)).mpr ⟨a, vm_down a1, Nat.le_refl _⟩
      refine Or.inr ⟨flA s a p, hc, fl_sb, ?_, by omega⟩
      obtain ⟨b, hb, hbb⟩ := ex_bit (fl_lt s p a) hc
      rw [fl_bit hb, Bool.and_eq_true, decide_eq_true_eq] at hbb
      have := (a1 b hb hbb.1).2
      rw [hbb.2] at this
      rw [ld_fl]; exact this
end FwS
