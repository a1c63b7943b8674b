/-! ===== contracts of the reference: chimes ===== -/
section MChime
variable {G : Gx} {mm : Nat → Nat → Int32} {lm : Nat → Int64} {nb nq : Nat}
theorem qtB_s {f t : Nat → Int32} {n m : Nat} : qtB f t (n + 1) m = (qtB f t n m || decide (f n ≤ nI m ∧ nI m < t n)) := by
  simp only [qtB, allN]
  by_cases hP : f n ≤ nI m ∧ nI m < t n
  · rw [decide_eq_true hP, decide_eq_false (not_not_intro hP), Bool.and_false, Bool.or_true]; rfl
  · rw [decide_eq_false hP, decide_eq_true hP, Bool.and_true, Bool.or_false]
theorem cm_isSilent (hnq : mm 63 12 = nI nq) (h6 : nq ≤ 6) (m : Nat) : Ct G M_X10_isSilent [.ref 63, .int (nI m)] (SH, mm, lm) false (.inl (some (.int (bI (qtB (mm 71) (mm 72) nq m = true))))) (SH, mm, lm) false 0 0 := by
  refine CJ (bX10_isSilent_0 ?_)
  refine loop_up (n := nq) (P := fun k => allN (fun i => decide (¬ (mm 71 i ≤ nI m ∧ nI m < mm 72 i))) k = true → J G M_X10_isSilent 2 [(0, .ref 63), (1, .int (nI m)), (2, .int (nI k))] [] (SH, mm, lm) false (.inl (some (.int (bI (qtB (mm 71) (mm 72) nq m = true))))) (SH, mm, lm) false 0 0) ?_ ?_ 0 (Nat.zero_le _) rfl
  · intro hf
    refine bX10_isSilent_2 ⟨fun _ => ?_, fun h => absurd (le_nI' hnq) h⟩
    have e : qtB (mm 71) (mm 72) nq m = false := by rw [qtB, hf]; rfl
    rw [bI_f (Bool.eq_false_iff.mp e)]; exact ⟨rfl, rfl⟩
  · intro k hk ih hf
    refine bX10_isSilent_2 ⟨fun h => absurd h (le_nI hnq hk (by omega)), fun _ => ⟨k, rfl, by omega, fun h => ?_, fun h => ⟨k, rfl, by omega, fun h2 => ?_, fun h2 => ?_⟩⟩⟩
    · rw [nI_1]; exact ih (allN_s hf (decide_eq_true fun z => absurd h (Int32.not_lt.mpr z.1)))
    · rw [nI_1]; exact ih (allN_s hf (decide_eq_true fun z => absurd z.2 (Int32.not_lt.mpr h2)))
    · have e : allN (fun i => decide (¬ (mm 71 i ≤ nI m ∧ nI m < mm 72 i))) nq = false := Bool.eq_false_iff.mpr (allN_f hk (decide_eq_false (not_not_intro ⟨Int32.not_lt.mp h, Int32.not_le.mp h2⟩)))
      have e2 : qtB (mm 71) (mm 72) nq m = true := by rw [qtB, e]; rfl
      rw [bI_t e2]; exact ⟨rfl, rfl⟩
abbrev sndP (mm : Nat → Nat → Int32) (nq k t : Nat) : Prop := ¬ mm 64 (10 * k + 7) < 0 ∧ ¬ mm 64 (10 * k + 0) < 0 ∧ ¬ nI t - mm 64 (10 * k + 6) < 0 ∧ (nI t - mm 64 (10 * k + 6)) - (nI t - mm 64 (10 * k + 6)) / mm 64 (10 * k + 7) * mm 64 (10 * k + 7) = 0 ∧ ¬ qtB (mm 71) (mm 72) nq t = true
theorem cm_sounds (hnq : mm 63 12 = nI nq) (h6 : nq ≤ 6) {k : Nat} (hk : k < 8) (hi : ¬ mm 64 (10 * k + 7) = 0) (t : Nat) : Ct G M_X10_sounds [.ref 63, .int (nI k), .int (nI t)] (SH, mm, lm) false (.inl (some (.int (bI (sndP mm nq k t))))) (SH, mm, lm) false 0 0 := by
  refine CJ (bX10_sounds_0 ⟨_, cm_of hk (a := 6) rfl (by decide), _, cm_chimes hk, fun h => ?_, fun h => ⟨_, cm_hangs hk, fun h2 => ?_, fun h2 => ⟨fun h3 => ?_, fun h3 => ⟨_, cm_of hk (a := 7) rfl (by decide), hi, fun h4 => ?_, fun h4 => ⟨_, cm_isSilent hnq h6 t, fun h5 => ?_, fun h5 => ?_⟩⟩⟩⟩⟩)
  · rw [bI_f (fun z => bI_0.mp h z.1)]; exact ⟨rfl, rfl⟩
  · rw [bI_f (fun z => bI_0.mp h2 z.2.1)]; exact ⟨rfl, rfl⟩
  · rw [bI_f (fun z => z.2.2.1 h3)]; exact ⟨rfl, rfl⟩
  · rw [bI_f (fun z => h4 z.2.2.2.1)]; exact ⟨rfl, rfl⟩
  · rw [bI_f (fun z => z.2.2.2.2 (bI_1.mp h5))]; exact ⟨rfl, rfl⟩
  · rw [bI_t ⟨bI_1.mp h, bI_1.mp h2, h3, h4, bI_0.mp h5⟩]; exact ⟨rfl, rfl⟩
def sndB (mm : Nat → Nat → Int32) (nq t k : Nat) : Bool := decide (sndP mm nq k t)
theorem cm_soundingAt (hnb : mm 63 8 = nI nb) (h8 : nb ≤ 8) (hnq : mm 63 12 = nI nq) (h6 : nq ≤ 6) (hi : ∀ k, k < nb → ¬ mm 64 (10 * k + 7) = 0) (t : Nat) : Ct G M_X10_soundingAt [.ref 63, .int (nI t)] (SH, mm, lm) false (.inl (some (.int (orN (sndB mm nq t) nb)))) (SH, mm, lm) false 0 0 := by
  refine CJ (bX10_soundingAt_0 ?_)
  refine loop_up (n := nb) (P := fun k => J G M_X10_soundingAt 4 [(0, .ref 63), (1, .int (nI t)), (2, .int (orN (sndB mm nq t) k)), (3, .int (nI k))] [] (SH, mm, lm) false (.inl (some (.int (orN (sndB mm nq t) nb)))) (SH, mm, lm) false 0 0) ?_ ?_ 0 (Nat.zero_le _)
  · exact bX10_soundingAt_4 ⟨fun _ => ⟨rfl, rfl⟩, fun h => absurd (le_nI' hnb) h⟩
  · intro k hk ih
    refine bX10_soundingAt_4 ⟨fun h => absurd h (le_nI hnb hk (by omega)), fun _ => ⟨_, cm_sounds hnq h6 (by omega) (hi k hk) t, fun h => ?_, fun h => ?_⟩⟩
    · have e : sndB mm nq t k = false := decide_eq_false (bI_0.mp h)
      rw [nI_1]; simpa [orN, e] using ih
    · have e : sndB mm nq t k = true := decide_eq_true (bI_1.mp h)
      rw [nI_1]; simpa [orN, e] using ih
/-- loud from t on, by steps of i -/
def ldB (q : Nat → Bool) (i : Nat) : Nat → Nat → Bool
  | 0, _ => true
  | d + 1, t => if 1440 ≤ t then true else if q t then false else ldB q i d (t + i)
theorem cm_isLoudFrom (hnq : mm 63 12 = nI nq) (h6 : nq ≤ 6) {i f : Nat} (hi : 0 < i) (hi2 : i ≤ 1440) (hf : f < 1440) : Ct G M_X10_isLoudFrom [.ref 63, .int (nI f), .int (nI i)] (SH, mm, lm) false (.inl (some (.int (bI (ldB (qtB (mm 71) (mm 72) nq) i 1441 f = true))))) (SH, mm, lm) false 0 0 := by
  refine CJ (bX10_isLoudFrom_0 ?_)
  have key : ∀ d t, t ≤ 2880 → 1440 < t + d * i → J G M_X10_isLoudFrom 2 [(0, .ref 63), (2, .int (nI i)), (3, .int (nI t))] [] (SH, mm, lm) false (.inl (some (.int (bI (ldB (qtB (mm 71) (mm 72) nq) i d t = true))))) (SH, mm, lm) false 0 0 := by
    intro d
    induction d with
    | zero =>
      intro t ht h
      refine bX10_isLoudFrom_2 ⟨fun _ => ?_, fun h2 => absurd (show (1440 : Int32) ≤ nI t from nI_le (a := 1440) (by omega) (by omega)) h2⟩
      have e : ldB (qtB (mm 71) (mm 72) nq) i 0 t = true := rfl
      rw [bI_t e]; exact ⟨rfl, rfl⟩
    | succ d ih =>
      intro t ht h
      by_cases h1 : 1440 ≤ t
      · refine bX10_isLoudFrom_2 ⟨fun _ => ?_, fun h2 => absurd (show (1440 : Int32) ≤ nI t from nI_le (a := 1440) (by omega) (by omega)) h2⟩
        have e : ldB (qtB (mm 71) (mm 72) nq) i (d + 1) t = true := by rw [ldB, if_pos h1]
        rw [bI_t e]; exact ⟨rfl, rfl⟩
      · have e : t + (d + 1) * i = (t + i) + d * i := by rw [Nat.succ_mul]; omega
        refine bX10_isLoudFrom_2 ⟨fun h2 => absurd h2 (lit_ge (n := 1440) rfl (by omega) (by omega)), fun _ => ⟨_, cm_isSilent hnq h6 t, fun h3 => ?_, fun h3 => ?_⟩⟩
        · rw [nI_add]
          have := ih (t + i) (by omega) (by omega)
          rwa [bI_congr (q := ldB (qtB (mm 71) (mm 72) nq) i (d + 1) t = true) (by rw [ldB, if_neg h1, if_neg (bI_0.mp h3)])] at this
        · have e : ldB (qtB (mm 71) (mm 72) nq) i (d + 1) t = false := by rw [ldB, if_neg h1, if_pos (bI_1.mp h3)]
          rw [bI_f (Bool.eq_false_iff.mp e)]; exact ⟨rfl, rfl⟩
  refine key 1441 f (by omega) ?_
  have := Nat.mul_le_mul_left 1441 hi
  omega
end MChime
