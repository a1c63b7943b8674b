/-! ===== ropes, asked ===== -/
theorem absI_nat {x : Int32} (h : inR (-15) 15 x) : ∃ a, a ≤ 15 ∧ absI x = nI a := by
  obtain ⟨h1, h2⟩ := h
  have z1 : (-15 : Int32).toInt = -15 := rfl
  have z2 : (15 : Int32).toInt = 15 := rfl
  rw [fa_lt] at h1
  rw [fa_le, z2] at h2
  have h1' : ¬ x.toInt < -15 := h1
  unfold absI
  by_cases h0 : 0 ≤ x
  · rw [if_pos h0]
    obtain ⟨a, ha, e⟩ := nI_of (Int32.not_lt.mpr h0)
    rw [e, nI_toInt ha] at h2
    exact ⟨a, by omega, e⟩
  · rw [if_neg h0]
    have hn : (-x).toInt = -x.toInt := fb_negI (by omega)
    have h3 : ¬ -x < 0 := by
      rw [fa_le, z_toI] at h0
      rw [fa_lt, hn, z_toI]; omega
    obtain ⟨a, ha, e⟩ := nI_of h3
    rw [e, nI_toInt ha] at hn
    exact ⟨a, by omega, e⟩
def lnN (mm : Nat → Nat → Int32) (nb k : Nat) : Nat := if k < nb ∧ ¬ mm (23 + k) 0 = -1 then ((mm 5 (mm (23 + k) 0).toInt.toNat + 10 * absI (mm (23 + k) 1)) + 50).toInt.toNat else 0
def cpN (mm : Nat → Nat → Int32) (p : Nat) : Nat := (mm 12 p).toInt.toNat
section RoB
variable {mm M : Nat → Nat → Int32} {nb nm nq np k : Nat}
theorem Fx.lenC (f : Fx mm M nb nm nq np) : LenC mm nb nm (lnN mm nb) := fun k hk => by
  have h4 := f.m4
  by_cases h : mm (23 + k) 0 = -1
  · exact Or.inl ⟨h, if_neg fun z => z.2 h⟩
  · rcases (f.r hk).1.2 with z | ⟨i, hi, hb⟩
    · exact absurd z h
    have hb' : mm (23 + k) 0 = nI i := hb
    obtain ⟨hh, h1, h2, h3⟩ := (f.2.1.1 i hi).1.2
    obtain ⟨a, ha, ea⟩ := absI_nat ((f.r hk).2.1 h).2
    have ea' : absI (mm (23 + k) 1) = nI a := ea
    have val : (mm 5 i + 10 * absI (mm (23 + k) 1)) + 50 = nI (hh + 10 * a + 50) := by
      rw [h3, ea', show (10 : Int32) = nI 10 from rfl, show (50 : Int32) = nI 50 from rfl, nI_mul, nI_add, nI_add]
    have hi2 : (mm (23 + k) 0).toInt.toNat = i := by rw [hb', nI_toInt (by omega)]; rfl
    have el : lnN mm nb k = hh + 10 * a + 50 := by
      unfold lnN
      rw [if_pos ⟨hk, h⟩, hi2, val, nI_toInt (by omega)]; rfl
    refine Or.inr ⟨i, hi, hb', ?_, by omega, by omega⟩
    rw [el]; exact val
theorem Fx.len5 (f : Fx mm M nb nm nq np) : ∀ b, b < 8 → lnN mm nb b ≤ 5200 := fun b _ => by
  by_cases hb : b < nb
  · rcases f.lenC b hb with ⟨-, z⟩ | ⟨i, -, -, -, -, z⟩
    · omega
    · exact z
  · unfold lnN; rw [if_neg fun z => hb z.1]; omega
theorem Fx.capC (f : Fx mm M nb nm nq np) : CapC mm np (cpN mm) := ⟨f.1.2.2.2.1.1, f.1.2.2.2.1.2.2, fun p hp => by
  obtain ⟨l, h1, h2, h3⟩ := (f.2.1.2.2.2.1 p hp).2
  unfold cpN
  rw [h3, nI_toInt (by omega)]
  exact ⟨rfl, by show l ≤ 9999; exact h2⟩⟩
theorem Fx.R15 (f : Fx mm M nb nm nq np) : M 63 15 = nI np := (f.2.2.2 63 15 (by decide) rfl).trans f.1.2.2.2.1.2.1
theorem Fx.np8 (f : Fx mm M nb nm nq np) : np ≤ 8 := f.1.2.2.2.1.2.2
theorem Fx.cap73 (f : Fx mm M nb nm nq np) : ∀ p, p < np → M 73 p = nI (cpN mm p) ∧ cpN mm p ≤ 9999 := fun p hp => by
  have e : M 73 p = mm 12 p := by
    rw [eqM_row f.2.2.2 (c := 73) (by decide) (fun _ => rfl)]; exact (f.2.1.2.2.2.1 p hp).1.symm
  rw [e]; exact f.capC.2.2 p hp
theorem Fx.lenM (f : Fx mm M nb nm nq np) : LenM M nb (lnN mm nb) := fun k hk => by
  have h4 := f.m4
  rcases f.lenC k hk with ⟨h1, h2⟩ | ⟨i, hi, h1, h2, h3, h5⟩
  · exact Or.inl ⟨(f.hg hk).mpr h1, h2⟩
  · have hne : ¬ mm (23 + k) 0 = -1 := by rw [h1]; exact nI_ne_neg (by omega)
    refine Or.inr ⟨fun z => hne ((f.hg hk).mp z), i, by omega, (f.be hk).trans h1, ?_, h3, h5⟩
    rw [f.h hi, f.po hk hne]; exact h2
theorem Fx.allE (f : Fx mm M nb nm nq np) : allM M nb = allH mm nb := by
  refine Nat.eq_of_testBit_eq fun b => ?_
  rw [mkM_bit, mkM_bit]
  by_cases hb : b < nb
  · unfold hgM hgB
    rw [decide_eq_true hb, Bool.true_and, Bool.true_and, decide_eq_decide, f.hg hb]
  · rw [decide_eq_false hb]; rfl
end RoB
theorem nw_us {len cap u : Nat → Nat} {R s : Nat} {a : Nat → Nat} (h : VaC len cap R s a) : usA R s a ≤ R := fb_ct_le _ R
/-- digits of the least cost -/
theorem dig_of {a : Nat → Nat} {all b us : Nat} (ha : ∀ b, b < 8 → all.testBit b = true → a b < 8) (hb : b < 8) (hs : all.testBit b = true) : (16777216 * us + coA all a) / 8 ^ (7 - b) % 8 = a b := by
  have eq : coA all a = fb_sm (fun b => (if all.testBit b = true then a b else 0) * 8 ^ (7 - b)) 8 := fb_sm_cong fun b _ => by
    by_cases hs : all.testBit b = true
    · rw [if_pos hs, if_pos hs]
    · rw [if_neg hs, if_neg hs, Nat.zero_mul]
  have key : ∀ d : Nat → Nat, (∀ b, b < 8 → d b < 8) → (16777216 * us + fb_sm (fun b => d b * 8 ^ (7 - b)) 8) / 8 ^ (7 - b) % 8 = d b := by
    intro d hd
    have k0 := hd 0 (by omega)
    have k1 := hd 1 (by omega)
    have k2 := hd 2 (by omega)
    have k3 := hd 3 (by omega)
    have k4 := hd 4 (by omega)
    have k5 := hd 5 (by omega)
    have k6 := hd 6 (by omega)
    have k7 := hd 7 (by omega)
    simp only [fb_sm]
    rcases (by omega : b = 0 ∨ b = 1 ∨ b = 2 ∨ b = 3 ∨ b = 4 ∨ b = 5 ∨ b = 6 ∨ b = 7) with r | r | r | r | r | r | r | r <;> subst r <;> omega
  have q := key (fun b => if all.testBit b = true then a b else 0) (fun b hb => by
    by_cases hs : all.testBit b = true
    · show (if all.testBit b = true then a b else 0) < 8
      rw [if_pos hs]; exact ha b hb hs
    · show (if all.testBit b = true then a b else 0) < 8
      rw [if_neg hs]; omega)
  rw [if_pos hs] at q
  rw [eq]; exact q
theorem sh8 : ∀ b, b < 8 → (((3 * (7 - nI b)) &&& 31 : Int32).toBitVec.smod 32).toNat = 3 * (7 - b) := by decide +kernel
theorem pow38 : ∀ b, b < 8 → 2 ^ (3 * (7 - b)) = 8 ^ (7 - b) := by decide
section RoC
variable {G : Gx} {mm m : Nat → Nat → Int32} {lm : Nat → Int64} {nb nm np all : Nat} {len cap w a : Nat → Nat}
theorem c_pieceFor (h : CutC mm len cap nb np all m w) (hall : all < 256) (hw : w all < 150994944) {b : Nat} (hb : b < 8) : Ct G M_X5_pieceFor [.ref 44, .int (nI b)] (SH, m, lm) false (.inl (some (.int (nI (w all / 8 ^ (7 - b) % 8))))) (SH, m, lm) false 0 0 := by
  obtain ⟨e, e44, eS, eW⟩ := h
  refine CJ (bX5_pieceFor_0 ⟨all, e44, hall, _, c_digitPlace _, ?_⟩)
  rw [(eW all (sb_refl _)).1, pk_shrN (by omega) _ (3 * (7 - b)) (sh8 b hb), pow38 b hb, show (7 : Int32) = nI (2 ^ 3 - 1) from rfl, fa_mask]
  exact ⟨rfl, rfl⟩
theorem c_countUsed (h : CutC mm len cap nb np all m w) (hall : all < 256) (hw : w all < 150994944) : Ct G M_X5_countUsedPieces [.ref 44] (SH, m, lm) false (.inl (some (.int (nI (w all / 16777216))))) (SH, m, lm) false 0 0 := by
  obtain ⟨e, e44, eS, eW⟩ := h
  refine CJ (bX5_countUsedPieces_0 ⟨all, e44, hall, ?_⟩)
  rw [(eW all (sb_refl _)).1, show (16777216 : Int32) = nI 16777216 from rfl, pk_div (by omega) (by omega) (by omega)]
  exact ⟨rfl, rfl⟩
/-- the pieces that the bells below k are cut from -/
def umk (all : Nat) (a : Nat → Nat) : Nat → Nat
  | 0 => 0
  | k + 1 => if all.testBit k = true then umk all a k ||| 2 ^ a k else umk all a k
theorem umk_bit {r : Nat} : ∀ k, (umk all a k).testBit r = true ↔ ∃ b, b < k ∧ all.testBit b = true ∧ a b = r
  | 0 => ⟨fun h => (by unfold umk at h; rw [Nat.zero_testBit] at h; cases h), fun ⟨b, hb, _⟩ => absurd hb (Nat.not_lt_zero b)⟩
  | k + 1 => by
    simp only [umk]
    have ih := umk_bit (r := r) k
    by_cases hs : all.testBit k = true
    · rw [if_pos hs, Nat.testBit_or, Bool.or_eq_true, ih, Nat.testBit_two_pow, decide_eq_true_eq]
      constructor
      · rintro (⟨b, h1, h2, h3⟩ | h)
        · exact ⟨b, by omega, h2, h3⟩
        · exact ⟨k, by omega, hs, h⟩
      · rintro ⟨b, h1, h2, h3⟩
        by_cases e : b = k
        · subst e; exact Or.inr h3
        · exact Or.inl ⟨b, by omega, h2, h3⟩
    · rw [if_neg hs, ih]
      refine ⟨fun ⟨b, h1, h2, h3⟩ => ⟨b, by omega, h2, h3⟩, fun ⟨b, h1, h2, h3⟩ => ⟨b, ?_, h2, h3⟩⟩
      rcases Nat.lt_succ_iff_lt_or_eq.mp h1 with z | z
      · exact z
      · rw [z] at h2; exact absurd h2 hs
theorem umk_lt (ha : ∀ b, b < 8 → all.testBit b = true → a b < 8) : ∀ k, k ≤ 8 → umk all a k < 256
  | 0, _ => by show 0 < 256; omega
  | k + 1, hk => by
    simp only [umk]
    by_cases hs : all.testBit k = true
    · rw [if_pos hs]
      exact Nat.or_lt_two_pow (n := 8) (umk_lt ha k (by omega)) (Nat.pow_lt_pow_right (by omega) (ha k (by omega) hs))
    · rw [if_neg hs]; exact umk_lt ha k (by omega)
/-- the lengths of the pieces used -/
def uSum (cap : Nat → Nat) (all : Nat) (a : Nat → Nat) (n : Nat) : Nat := fb_sm (fun p => if flA all a p = 0 then 0 else cap p) n
theorem c_lengthLeft (hnb : mm 4 9 = nI nb) (h8 : nb ≤ 8) (hc : CapC mm np cap) (h : CutC mm len cap nb np (allH mm nb) m w) (hva : VaC len cap np (allH mm nb) a) (hwa : w (allH mm nb) = cost np (allH mm nb) a) : Ct G M_X5_lengthLeft [.ref 44] (SH, m, lm) false (.inl (some (.int (nI (uSum cap (allH mm nb) a np) - nI (wsum (allH mm nb) len))))) (SH, m, lm) false 0 0 := by
  obtain ⟨hnp, hnp8, hcap⟩ := hc
  have hw := cost_le hnp8 hva
  have hp8 : 2 ^ nb ≤ 2 ^ 8 := Nat.pow_le_pow_right (by omega) h8
  have hall : allH mm nb < 2 ^ nb := mkM_lt _ nb
  have ha : ∀ b, b < 8 → (allH mm nb).testBit b = true → a b < 8 := fun b hb hs => by have := (hva b hb hs).1; omega
  have h0 := h
  obtain ⟨e, e44, eS, eW⟩ := h
  have e9 : m 4 9 = nI nb := (e 4 9 rfl).trans hnb
  have e11 : m 4 11 = nI np := (e 4 11 rfl).trans hnp
  refine CJ (bX5_lengthLeft_0 ?_)
  have second : J G M_X5_lengthLeft 56 [(0, .ref 44), (1, .int (nI (umk (allH mm nb) a nb))), (2, .int (-(nI (wsum (allH mm nb) len)))), (3, .int 0)] [] (SH, m, lm) false (.inl (some (.int (nI (uSum cap (allH mm nb) a np) - nI (wsum (allH mm nb) len))))) (SH, m, lm) false 0 0 := by
    have hu := umk_lt ha nb h8
    have key := loop_up (n := np) (P := fun p => J G M_X5_lengthLeft 56 [(0, .ref 44), (1, .int (nI (umk (allH mm nb) a nb))), (2, .int (-(nI (wsum (allH mm nb) len)) + nI (uSum cap (allH mm nb) a p))), (3, .int (nI p))] [] (SH, m, lm) false (.inl (some (.int (nI (uSum cap (allH mm nb) a np) - nI (wsum (allH mm nb) len))))) (SH, m, lm) false 0 0) ?_ ?_ 0 (Nat.zero_le _)
    · have z : (-(nI (wsum (allH mm nb) len)) + nI (uSum cap (allH mm nb) a 0) : Int32) = -(nI (wsum (allH mm nb) len)) := Int32.add_zero _
      rw [z] at key; exact key
    · refine bX5_lengthLeft_56 ⟨fun _ => ?_, fun z => absurd (le_nI' e11) z⟩
      rw [Int32.add_comm, ← Int32.sub_eq_add_neg]; exact ⟨rfl, rfl⟩
    · intro p hp ih
      have hbit := has_bit _ hu p (by omega)
      have hfl : (umk (allH mm nb) a nb).testBit p = true ↔ ¬ flA (allH mm nb) a p = 0 := by
        rw [umk_bit, fl_0]
        constructor
        · rintro ⟨b, b1, b2, b3⟩ z
          exact z b (by omega) b2 b3
        · intro z
          refine Classical.byContradiction fun y => z fun b hb hs eb => y ⟨b, ?_, hs, eb⟩
          rw [mkM_bit, Bool.and_eq_true, decide_eq_true_eq] at hs; exact hs.1
      have e12 : m 12 p = nI (cap p) := by rw [eqR_row e (c := 12) (fun _ => rfl)]; exact (hcap p hp).1
      refine bX5_lengthLeft_56 ⟨fun z => absurd z (le_nI e11 hp (by omega)), fun _ => ⟨p, rfl, by omega, ?_⟩⟩
      have es : uSum cap (allH mm nb) a (p + 1) = uSum cap (allH mm nb) a p + if flA (allH mm nb) a p = 0 then 0 else cap p := fb_sm_succ _ p
      rw [es] at ih
      rw [nI_1, e12]
      by_cases hf : flA (allH mm nb) a p = 0
      · rw [if_pos hf, Nat.add_zero] at ih
        have hb0 : (nI (umk (allH mm nb) a nb) >>> (nI p &&& 31)) &&& 1 = 0 := (and1 _).resolve_right fun z => hfl.mp (hbit.mp z) hf
        rw [hb0, Int32.zero_mul, Int32.add_zero]; exact ih
      · rw [if_neg hf] at ih
        rw [hbit.mpr (hfl.mpr hf), Int32.one_mul, Int32.add_assoc, nI_add]; exact ih
  refine loop_up (n := nb) (P := fun k => J G M_X5_lengthLeft 4 [(0, .ref 44), (1, .int (nI (umk (allH mm nb) a k))), (2, .int (nI k))] [] (SH, m, lm) false (.inl (some (.int (nI (uSum cap (allH mm nb) a np) - nI (wsum (allH mm nb) len))))) (SH, m, lm) false 0 0) ?_ ?_ 0 (Nat.zero_le _)
  · exact bX5_lengthLeft_4 ⟨fun _ => ⟨_, e44, by omega, by rw [(eS _ hall).1]; exact second⟩, fun z => absurd (le_nI' e9) z⟩
  · intro k hk ih
    have hk8 : k < 8 := by omega
    have hbk : (allH mm nb).testBit k = hgB mm k := by rw [mkM_bit, decide_eq_true hk, Bool.true_and]
    have ek : m (23 + k) 0 = mm (23 + k) 0 := e (23 + k) 0 (rel_b hk8)
    refine bX5_lengthLeft_4 ⟨fun z => absurd z (le_nI e9 hk (by omega)), fun _ => ⟨k, rfl, hk8, _, c_hangs (sh_b23 hk8), fun z => ?_, fun z => ?_⟩⟩
    · have hx : ¬ (allH mm nb).testBit k = true := by rw [hbk]; exact fun y => bI_0.mp z (by rw [ek]; exact of_decide_eq_true y)
      simp only [umk] at ih
      rw [if_neg hx] at ih
      rw [nI_1]; exact ih
    · have hx : (allH mm nb).testBit k = true := by rw [hbk]; exact decide_eq_true (by rw [← ek]; exact bI_1.mp z)
      have pf := c_pieceFor (G := G) (lm := lm) h0 (by omega) (by omega) hk8
      rw [hwa] at pf
      unfold cost at pf
      rw [dig_of ha hk8 hx] at pf
      simp only [umk] at ih
      rw [if_pos hx] at ih
      exact ⟨_, pf, by rw [nI_1, nI_shl _ (ha k hk8 hx), fa_or]; exact ih⟩
/-- loads of all pieces together -/
theorem ld_total {R : Nat} (ha : ∀ b, b < 8 → all.testBit b = true → a b < R) : fb_sm (fun p => ldA len all a p) R = wsum all len := by
  have key : ∀ n, n ≤ 8 → fb_sm (fun p => fb_sm (fun b => if all.testBit b = true then (if a b = p then len b else 0) else 0) n) R = fb_sm (fun b => if all.testBit b = true then len b else 0) n := by
    intro n
    induction n with
    | zero => intro _; simp only [fb_sm]; rw [fb_sm_const, Nat.mul_zero]
    | succ n ih =>
      intro hn
      rw [fb_sm_succ, ← ih (by omega)]
      have e1 : fb_sm (fun p => fb_sm (fun b => if all.testBit b = true then (if a b = p then len b else 0) else 0) (n + 1)) R = fb_sm (fun p => fb_sm (fun b => if all.testBit b = true then (if a b = p then len b else 0) else 0) n + (if all.testBit n = true then (if a n = p then len n else 0) else 0)) R := fb_sm_cong fun p _ => fb_sm_succ _ n
      rw [e1, fb_sm_add]
      congr 1
      by_cases hs : all.testBit n = true
      · have q := fb_sm_upd (fun _ => 0) (len n) (ha n (by omega) hs)
        rw [fb_sm_const, Nat.add_zero, Nat.mul_zero, Nat.zero_add] at q
        rw [if_pos hs]
        refine Eq.trans (fb_sm_cong fun p _ => ?_) q
        rw [if_pos hs]
        by_cases e : a n = p
        · rw [if_pos e, if_pos e.symm]
        · rw [if_neg e, if_neg fun z => e z.symm]
      · rw [if_neg hs, fb_sm_cong (g := fun _ => 0) (fun p _ => by rw [if_neg hs]), fb_sm_const, Nat.mul_zero]
  exact key 8 (Nat.le_refl _)
theorem ring_ws (a b c d : Int32) : (a - b) + (c - d) = (a + c) - (b + d) := by grind
theorem ld_0 (hlen : ∀ b, b < 8 → all.testBit b = true → 0 < len b) {r : Nat} : ldA len all a r = 0 ↔ flA all a r = 0 := by
  constructor
  · intro w2
    refine fl_0.mpr fun b hb hs e => ?_
    have g := ws_part hb hs (fun b => if a b = r then len b else 0)
    unfold ldA at w2
    rw [if_pos e] at g
    have := hlen b hb hs
    omega
  · intro w2
    unfold ldA
    rw [ws_congr (f' := fun _ => 0) (s' := all) (fun b hb => ?_)]
    · have := ws_mul all 0 (fun _ => 0)
      simpa using this
    · cases hxx : all.testBit b with
      | false => rfl
      | true => rw [if_pos rfl, if_pos rfl, if_neg (fl_0.mp w2 b hb hxx)]
theorem cm_waste {u : Nat → Nat} (hM : MbR mm len cap u np all m) (hu : ∀ r, r < 8 → u r = ldA len all a r) (hlen : ∀ b, b < 8 → all.testBit b = true → 0 < len b) (ha : ∀ b, b < 8 → all.testBit b = true → a b < np) : J G M_X10_waste 27 [(0, .ref 63), (1, .int 0), (2, .int 0)] [] (SH, m, lm) false (.inl (some (.int (nI (uSum cap all a np) - nI (wsum all len))))) (SH, m, lm) false 0 0 := by
  obtain ⟨hm, ⟨hR, hR8⟩, hcap, h82, hsum, hsle⟩ := hM
  have e15 : m 63 15 = nI np := by rw [hm 63 (by omega)]; exact hR
  have key := loop_up (n := np) (P := fun p => J G M_X10_waste 27 [(0, .ref 63), (1, .int (nI (uSum cap all a p) - nI (fb_sm (fun p => ldA len all a p) p))), (2, .int (nI p))] [] (SH, m, lm) false (.inl (some (.int (nI (uSum cap all a np) - nI (wsum all len))))) (SH, m, lm) false 0 0) ?_ ?_ 0 (Nat.zero_le _)
  · have z : nI (uSum cap all a 0) - nI (fb_sm (fun p => ldA len all a p) 0) = 0 := by
      show nI 0 - nI 0 = 0
      rfl
    rw [z] at key
    exact key
  · refine bX10_waste_27 ⟨fun _ => ?_, fun z => absurd (le_nI' e15) z⟩
    rw [ld_total ha]; exact ⟨rfl, rfl⟩
  · intro p hp ih
    obtain ⟨u1, u2⟩ := h82 p (by omega)
    have e73 : m 73 p = nI (cap p) := by rw [hm 73 (by omega)]; exact (hcap p hp).1
    have es : uSum cap all a (p + 1) = uSum cap all a p + if flA all a p = 0 then 0 else cap p := fb_sm_succ _ p
    rw [es, fb_sm_succ, ← hu p (by omega)] at ih
    have z0 := ld_0 (a := a) hlen (r := p)
    rw [← hu p (by omega)] at z0
    refine bX10_waste_27 ⟨fun z => absurd z (le_nI e15 hp (by omega)), fun _ => ⟨p, rfl, by omega, fun z => ?_, fun z => ⟨p, rfl, by omega, p, rfl, by omega, ?_⟩⟩⟩
    · rw [u1] at z
      have hz : u p = 0 := by
        have := (nI_leI (b := 0) (by omega) (by omega)).mp z
        omega
      rw [if_pos (z0.mp hz), hz, Nat.add_zero, Nat.add_zero] at ih
      rw [nI_1, Int32.add_zero]; exact ih
    · rw [u1] at z
      have hz : ¬ u p = 0 := fun y => z (by rw [y]; exact Int32.le_refl _)
      rw [if_neg fun y => hz (z0.mpr y)] at ih
      rw [nI_1, e73, u1, ring_ws, nI_add, nI_add]; exact ih
end RoC
