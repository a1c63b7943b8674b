/-! ===== the class's cuttings ===== -/
theorem andn {x y : Int32} (h : y &&& x = y) : x &&& (y ^^^ (-1)) = x ^^^ y := by
  apply Int32.toBitVec_inj.mp
  apply BitVec.eq_of_getLsbD_eq
  intro i hi
  have q := congrArg (fun z : Int32 => z.toBitVec.getLsbD i) h
  have e1 : (-1 : Int32).toBitVec = BitVec.allOnes 32 := by decide
  simp only [Int32.toBitVec_and, BitVec.getLsbD_and] at q
  simp only [Int32.toBitVec_and, Int32.toBitVec_xor, BitVec.getLsbD_and, BitVec.getLsbD_xor, e1, BitVec.getLsbD_allOnes, hi, decide_true, Bool.xor_true]
  cases hx : x.toBitVec.getLsbD i <;> cases hy : y.toBitVec.getLsbD i <;> rw [hx, hy] at q <;> simp_all
theorem andn_nI {s c : Nat} (h : Sb c s) : nI s &&& (nI c ^^^ (-1)) = nI (s ^^^ c) := by
  rw [andn (by rw [fa_and, sb_and.mp h]), fb_xorI]
theorem ws_top {k r : Nat} (hk : k < 8) (hr : r < 2 ^ k) (f : Nat → Nat) : wsum (2 ^ k + r) f = wsum r f + f k := by
  have h := fb_sm_upd (fun b => if r.testBit b = true then f b else 0) (f k) hk
  rw [if_neg (by rw [Nat.testBit_lt_two_pow hr]; simp), Nat.add_zero] at h
  unfold wsum
  rw [← h]
  refine fb_sm_cong fun b hb => ?_
  rcases Nat.lt_trichotomy b k with w | w | w
  · rw [if_neg (by omega : ¬ b = k), Nat.testBit_two_pow_add_gt w]
  · subst w
    rw [if_pos rfl, Nat.testBit_two_pow_add_eq, Nat.testBit_lt_two_pow hr]; rfl
  · have hp : 2 ^ (k + 1) ≤ 2 ^ b := Nat.pow_le_pow_right (by omega) w
    have hp2 : 2 ^ (k + 1) = 2 ^ k + 2 ^ k := by rw [Nat.pow_succ]; omega
    rw [if_neg (by omega : ¬ b = k), Nat.testBit_lt_two_pow (show 2 ^ k + r < 2 ^ b by omega), Nat.testBit_lt_two_pow (show r < 2 ^ b by omega)]
theorem dig_one : ∀ k, k < 8 → (1 : Int32) <<< ((3 * (7 - nI k)) &&& 31) = nI (8 ^ (7 - k)) := by decide +kernel
theorem co_le {s P : Nat} {a : Nat → Nat} (hP : P ≤ 8) (h : ∀ b, b < 8 → s.testBit b = true → a b < P) : coA s a < 16777216 := by
  have h1 : coA s a ≤ fb_sm (fun b => 7 * 8 ^ (7 - b)) 8 := fb_sm_le fun b hb => by
    by_cases hs : s.testBit b = true
    · rw [if_pos hs]
      exact Nat.mul_le_mul_right _ (by have := h b hb hs; omega)
    · rw [if_neg hs]; exact Nat.zero_le _
  have h2 : fb_sm (fun b => 7 * 8 ^ (7 - b)) 8 = 16777215 := by decide
  omega
theorem ones_le (s : Nat) : onesA s ≤ 2396745 := by
  have h1 : onesA s ≤ fb_sm (fun b => 8 ^ (7 - b)) 8 := fb_sm_le fun b hb => by
    by_cases hs : s.testBit b = true
    · rw [if_pos hs]; exact Nat.le_refl _
    · rw [if_neg hs]; exact Nat.zero_le _
  have h2 : fb_sm (fun b => 8 ^ (7 - b)) 8 = 2396745 := by decide
  omega
theorem cost_le {len cap : Nat → Nat} {s P : Nat} {a : Nat → Nat} (hP : P ≤ 8) (h : VaC len cap P s a) : cost P s a < 150994944 := by
  have h1 := co_le hP (fun b hb hs => (h b hb hs).1)
  have h2 : usA P s a ≤ P := fb_ct_le _ P
  unfold cost
  omega
theorem lc_le {len cap w : Nat → Nat} {s P : Nat} (hP : P ≤ 8) (h : LcA len cap P w s) (hw : w s < 2147483647) : w s < 150994944 := by
  obtain ⟨a, a1, a2⟩ := (h (w s) hw).mp (Nat.le_refl _)
  have h3 := cost_le hP a1
  have h4 := (h (cost P s a) (by omega)).mpr ⟨a, a1, Nat.le_refl _⟩
  omega
/-- the new least cost of the set t, after the piece p was offered; parts greater than cut only -/
def NewV (len cap w0 : Nat → Nat) (p t cut : Nat) (x : Int32) : Prop := ∃ v1 : Nat, x = nI v1 ∧ v1 ≤ 2147483647 ∧ ∀ v, v < 2147483647 → (v1 ≤ v ↔ w0 t ≤ v ∨ ∃ c, cut < c ∧ Sb c t ∧ wsum c len ≤ cap p ∧ w0 (t ^^^ c) < 2147483647 ∧ w0 (t ^^^ c) + 16777216 + p * onesA c ≤ v)
section CRope
variable {G : Gx} {mm : Nat → Nat → Int32} {lm : Nat → Int64} {nb nm np : Nat} {len cap : Nat → Nat}
abbrev allH (mm : Nat → Nat → Int32) (nb : Nat) : Nat := mkM (hgB mm) nb
/-- lengths of ropes as the class's numbers have them -/
def LenC (mm : Nat → Nat → Int32) (nb nm : Nat) (len : Nat → Nat) : Prop := ∀ k, k < nb → (mm (23 + k) 0 = -1 ∧ len k = 0) ∨ ∃ i, i < nm ∧ mm (23 + k) 0 = nI i ∧ (mm 5 i + 10 * absI (mm (23 + k) 1)) + 50 = nI (len k) ∧ 0 < len k ∧ len k ≤ 5200
theorem LenC.congr {m : Nat → Nat → Int32} (h : LenC mm nb nm len) (h8 : nb ≤ 8) (e : EqR mm m) : LenC m nb nm len := fun k hk => by
  rw [e (23 + k) 0 (rel_b (by omega)), e (23 + k) 1 (rel_b (by omega)), eqR_row e (c := 5) (fun _ => rfl)]
  exact h k hk
theorem c_lengthFor (hnm : mm 4 8 = nI nm) (h4 : nm ≤ 4) {k i : Nat} (hk : k < 8) (hi : i < nm) (hb : mm (23 + k) 0 = nI i) : Ct G M_X5_lengthFor [.ref 44, .int (nI k)] (SH, mm, lm) false (.inl (some (.int ((mm 5 i + 10 * absI (mm (23 + k) 1)) + 50)))) (SH, mm, lm) false 0 0 :=
  CJ (bX5_lengthFor_0 ⟨k, rfl, hk, fun z => absurd z (by rw [hb]; exact nI_pos (by omega)), fun _ => ⟨fun _ => ⟨i, hb, by omega, k, rfl, hk, _, c_abs _, rfl, rfl⟩, fun z => absurd (by rw [hb, hnm]; exact nI_lt hi (by omega)) z⟩⟩)
theorem c_digitPlace (x : Int32) : Ct G M_X5_digitPlace [.int x] (SH, mm, lm) false (.inl (some (.int (3 * (7 - x))))) (SH, mm, lm) false 0 0 := CJ (bX5_digitPlace_0 ⟨rfl, rfl⟩)
/-- the sums of all sets below n -/
def SumC (mm : Nat → Nat → Int32) (len : Nat → Nat) (m : Nat → Nat → Int32) (h n : Nat) : Prop := EqR mm m ∧ m 47 = mm 47 ∧ m 44 5 = nI h ∧ ∀ s, s < n → m 45 s = nI (wsum s len) ∧ m 46 s = nI (onesA s)
theorem c_measureSets (hnb : mm 4 9 = nI nb) (h8 : nb ≤ 8) (hnm : mm 4 8 = nI nm) (h4 : nm ≤ 4) (hl : LenC mm nb nm len) : ∃ m', SumC mm len m' (allH mm nb) (2 ^ nb) ∧ Ct G M_X5_measureSets [.ref 44] (SH, mm, lm) false (.inl none) (SH, m', lm) false 0 0 := by
  have key := loop_up (n := nb) (P := fun k => ∀ m, SumC mm len m (mkM (hgB mm) k) (2 ^ k) → ∃ m', SumC mm len m' (allH mm nb) (2 ^ nb) ∧ J G M_X5_measureSets 21 [(0, .ref 44), (1, .int (nI k))] [] (SH, m, lm) false (.inl none) (SH, m', lm) false 0 0) ?_ ?_ 0 (Nat.zero_le _) (mset (mset (mset mm 44 5 0) 45 0 0) 46 0 0) ⟨((EqR.refl.mset rfl).mset rfl).mset rfl, by rw [mset_ne (by decide), mset_ne (by decide), mset_ne (by decide)], by rw [mset_ne (by decide), mset_ne (by decide), mset_eq]; rfl, fun s hs => by
    have h0 : s = 0 := by rw [Nat.pow_zero] at hs; omega
    subst h0
    unfold onesA
    rw [ws_0, ws_0, mset_ne (by decide), mset_eq, mset_eq]; exact ⟨rfl, rfl⟩⟩
  · obtain ⟨m', q1, q2⟩ := key
    exact ⟨m', q1, CJ (bX5_measureSets_0 ⟨0, rfl, by decide, 0, rfl, by decide, q2⟩)⟩
  · intro m h
    exact ⟨m, h, bX5_measureSets_21 ⟨fun _ => ⟨rfl, rfl⟩, fun z => absurd (le_nI' ((h.1 4 9 rfl).trans hnb)) z⟩⟩
  · intro k hk ih m h
    obtain ⟨e, e47, e44, eS⟩ := h
    have hk8 : k < 8 := by omega
    have P8 : 2 ^ k ≤ 2 ^ 7 := Nat.pow_le_pow_right (by omega) (by omega)
    have P2 : 2 ^ (k + 1) = 2 ^ k + 2 ^ k := by rw [Nat.pow_succ]; omega
    have P0 : 0 < 2 ^ k := Nat.two_pow_pos k
    have hlt := mkM_lt (hgB mm) k
    -- the inner loop
    have inner : ∀ m, SumC mm len m (mkM (hgB mm) (k + 1)) (2 ^ k) → ∃ m', SumC mm len m' (allH mm nb) (2 ^ nb) ∧ J G M_X5_measureSets 95 [(0, .ref 44), (1, .int (nI k)), (2, .int (nI (2 ^ k))), (3, .int (nI (len k))), (4, .int (nI (8 ^ (7 - k)))), (5, .int (nI (2 ^ k)))] [] (SH, m, lm) false (.inl none) (SH, m', lm) false 0 0 := by
      refine loop_up (n := 2 ^ (k + 1)) (P := fun s => 2 ^ k ≤ s → ∀ m, SumC mm len m (mkM (hgB mm) (k + 1)) s → ∃ m', SumC mm len m' (allH mm nb) (2 ^ nb) ∧ J G M_X5_measureSets 95 [(0, .ref 44), (1, .int (nI k)), (2, .int (nI (2 ^ k))), (3, .int (nI (len k))), (4, .int (nI (8 ^ (7 - k)))), (5, .int (nI s))] [] (SH, m, lm) false (.inl none) (SH, m', lm) false 0 0) ?_ ?_ (2 ^ k) (by omega) (Nat.le_refl _)
      · intro _ m h
        obtain ⟨m', q1, q2⟩ := ih m h
        refine ⟨m', q1, bX5_measureSets_95 ⟨fun _ => by rw [nI_1]; exact q2, fun z => absurd ?_ z⟩⟩
        rw [show (2 : Int32) = nI 2 from rfl, nI_mul, P2, show 2 * 2 ^ k = 2 ^ k + 2 ^ k by omega]; exact Int32.le_refl _
      · intro s hs ih2 hks m h
        obtain ⟨e, e47, e44, eS⟩ := h
        obtain ⟨a1, a2⟩ := eS (s - 2 ^ k) (by omega)
        have t1 := ws_top hk8 (show s - 2 ^ k < 2 ^ k by omega) len
        have t2 := ws_top hk8 (show s - 2 ^ k < 2 ^ k by omega) (fun b => 8 ^ (7 - b))
        rw [show 2 ^ k + (s - 2 ^ k) = s by omega] at t1 t2
        obtain ⟨m9, hm9⟩ : ∃ m9, m9 = mset m 45 s (m 45 (s - 2 ^ k) + nI (len k)) := ⟨_, rfl⟩
        obtain ⟨m', q1, q2⟩ := ih2 (by omega) (mset m9 46 s (m9 46 (s - 2 ^ k) + nI (8 ^ (7 - k)))) ⟨by rw [hm9]; exact (e.mset rfl).mset rfl, by rw [mset_ne (by decide), hm9, mset_ne (by decide)]; exact e47, by rw [mset_ne (by decide), hm9, mset_ne (by decide)]; exact e44, fun t ht => by
          by_cases hts : t = s
          · subst hts
            rw [mset_ne (by decide), mset_eq, hm9, mset_eq, mset_ne (by decide), a1, a2, nI_add, nI_add, t1]
            exact ⟨rfl, by unfold onesA; rw [t2]⟩
          · rw [mset_ne (by decide), mset_ne2 (fun z => hts z.2), hm9, mset_ne2 (fun z => hts z.2), mset_ne (by decide)]
            exact eS t (by omega)⟩
        have es : nI s - nI (2 ^ k) = nI (s - 2 ^ k) := pk_sub hks
        refine ⟨m', q1, bX5_measureSets_95 ⟨fun z => absurd z ?_, fun _ => ⟨fun z => absurd z (lit_ge (n := 256) rfl (by omega) (by omega)), fun _ => ⟨s - 2 ^ k, es, by omega, s, rfl, by omega, s - 2 ^ k, es, by omega, s, rfl, by omega, ?_⟩⟩⟩⟩
        · rw [show (2 : Int32) = nI 2 from rfl, nI_mul]; exact nI_ge (by omega) (by omega)
        · rw [nI_1, ← hm9]; exact q2
    have own : (1 : Int32) <<< (nI k &&& 31) = nI (2 ^ k) := nI_shl k hk8
    have dp := c_digitPlace (G := G) (mm := m) (lm := lm) (nI k)
    have hb : m (23 + k) 0 = mm (23 + k) 0 := e (23 + k) 0 (rel_b hk8)
    have lim : ¬ m 4 9 ≤ nI k := le_nI ((e 4 9 rfl).trans hnb) hk (by omega)
    rcases hl k hk with ⟨hn, l0⟩ | ⟨i, hi, hn, hlen, -⟩
    · have hh : hgB mm k = false := decide_eq_false (fun z => z hn)
      have hn' : m (23 + k) 0 = -1 := hb.trans hn
      have em : mkM (hgB mm) (k + 1) = mkM (hgB mm) k := by simp only [mkM, hh]; simp
      obtain ⟨m', q1, q2⟩ := inner (mset m 44 5 (m 44 5 ||| 0)) ⟨e.mset rfl, by rw [mset_ne (by decide)]; exact e47, by rw [mset_eq, e44, Int32.or_zero, em], fun s hs => by rw [mset_ne (by decide), mset_ne (by decide)]; exact eS s hs⟩
      rw [l0] at q2
      refine ⟨m', q1, bX5_measureSets_21 ⟨fun z => absurd z lim, fun _ => ⟨k, rfl, hk8, _, c_hangs (sh_b23 hk8), fun _ => ⟨_, dp, k, rfl, hk8, _, c_hangs (sh_b23 hk8), fun _ => ?_, fun z => absurd hn' (bI_1.mp z)⟩, fun z => absurd hn' (bI_1.mp z)⟩⟩⟩
      rw [own, dig_one k hk8]; exact q2
    · have hne : ¬ mm (23 + k) 0 = -1 := by rw [hn]; exact nI_ne_neg (by omega)
      have hh : hgB mm k = true := decide_eq_true hne
      have hn' : ¬ m (23 + k) 0 = -1 := by rw [hb]; exact hne
      have em : mkM (hgB mm) (k + 1) = 2 ^ k + mkM (hgB mm) k := by simp only [mkM, hh]; simp
      have eor : nI (mkM (hgB mm) k) ||| nI (2 ^ k) = nI (2 ^ k + mkM (hgB mm) k) := by
        have := fa_or_sum (a := mkM (hgB mm) k) (k := k) 1 hlt
        rw [Nat.mul_one] at this
        rw [Int32.or_comm]; exact this
      obtain ⟨m', q1, q2⟩ := inner (mset m 44 5 (m 44 5 ||| (1 <<< (nI k &&& 31)))) ⟨e.mset rfl, by rw [mset_ne (by decide)]; exact e47, by rw [mset_eq, e44, own, eor, em], fun s hs => by rw [mset_ne (by decide), mset_ne (by decide)]; exact eS s hs⟩
      have cl := c_lengthFor (G := G) (mm := m) (lm := lm) ((e 4 8 rfl).trans hnm) h4 hk8 hi (hb.trans hn)
      rw [eqR_row e (c := 5) (fun _ => rfl), e (23 + k) 1 (rel_b hk8), hlen] at cl
      refine ⟨m', q1, bX5_measureSets_21 ⟨fun z => absurd z lim, fun _ => ⟨k, rfl, hk8, _, c_hangs (sh_b23 hk8), fun z => absurd hn' (bI_0.mp z), fun _ => ⟨_, cl, _, dp, k, rfl, hk8, _, c_hangs (sh_b23 hk8), fun z => absurd hn' (bI_0.mp z), fun _ => ?_⟩⟩⟩⟩
      rw [own, dig_one k hk8] at *
      exact q2
end CRope
