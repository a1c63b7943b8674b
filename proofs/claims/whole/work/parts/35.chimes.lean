/-! ===== contracts: chimes ===== -/
section Chimes
variable {G : Gx} {mm : Nat → Nat → Int32} {lm : Nat → Int64} {nb : Nat}
theorem c_countChiming (hnb : mm 4 9 = nI nb) (h8 : nb ≤ 8) : Ct G M_X1_countChiming [.ref 42] (SH, mm, lm) false (.inl (some (.int (nI (cntN (fun k => decide (¬ mm (23 + k) 7 ≤ 0)) nb))))) (SH, mm, lm) false 0 0 := by
  refine CJ (bX1_countChiming_0 ?_)
  refine loop_up (n := nb) (P := fun k => J G M_X1_countChiming 4 [(0, .ref 42), (1, .int (nI (cntN (fun k => decide (¬ mm (23 + k) 7 ≤ 0)) k))), (2, .int (nI k))] [] (SH, mm, lm) false _ _ false 0 0) ?_ ?_ 0 (Nat.zero_le _)
  · exact bX1_countChiming_4 ⟨fun _ => ⟨rfl, rfl⟩, fun h => absurd (le_nI' hnb) h⟩
  · intro k hk ih
    refine bX1_countChiming_4 ⟨fun h => absurd h (le_nI hnb hk (by omega)), fun _ => ⟨k, rfl, by omega, _, c_hasChime (sh_b23 (by omega)), fun h => ?_, fun h => ?_⟩⟩
    · have e : decide (¬ mm (23 + k) 7 ≤ 0) = false := decide_eq_false (bI_0.mp h)
      rw [cntN_f (p := fun k => decide (¬ mm (23 + k) 7 ≤ 0)) e] at ih
      rw [nI_1]; exact ih
    · have e : decide (¬ mm (23 + k) 7 ≤ 0) = true := decide_eq_true (bI_1.mp h)
      rw [cntN_t (p := fun k => decide (¬ mm (23 + k) 7 ≤ 0)) e] at ih
      rw [nI_1, nI_1]; exact ih
theorem c_countQuiet : Ct G M_X1_countQuiet [.ref 42] (SH, mm, lm) false (.inl (some (.int (nI (cntN (fun t => decide (¬ mm 43 t = 0)) 1440))))) (SH, mm, lm) false 0 0 := by
  refine CJ (bX1_countQuiet_0 ?_)
  refine loop_up (n := 1440) (P := fun k => J G M_X1_countQuiet 4 [(0, .ref 42), (1, .int (nI (cntN (fun t => decide (¬ mm 43 t = 0)) k))), (2, .int (nI k))] [] (SH, mm, lm) false _ _ false 0 0) ?_ ?_ 0 (Nat.zero_le _)
  · exact bX1_countQuiet_4 ⟨fun _ => ⟨rfl, rfl⟩, fun h => absurd (lit_le (n := 1440) rfl) h⟩
  · intro k hk ih
    refine bX1_countQuiet_4 ⟨fun h => absurd h (lit_ge (n := 1440) rfl hk (by omega)), fun _ => ⟨k, rfl, hk, fun h => ?_, fun h => ?_⟩⟩
    · rw [cntN_f (p := fun t => decide (¬ mm 43 t = 0)) (decide_eq_false (not_not_intro h))] at ih
      rw [nI_1]; exact ih
    · rw [cntN_t (p := fun t => decide (¬ mm 43 t = 0)) (decide_eq_true h)] at ih
      rw [nI_1, nI_1]; exact ih
/-- the longest loud run so far, the run that stands -/
def loudS (q : Nat → Bool) (t : Nat) (s : Int32 × Int32) : Int32 × Int32 := if q t = true then (if s.1 < 0 then 0 else s.1, 0) else (if s.1 < s.2 + 1 then s.2 + 1 else s.1, s.2 + 1)
theorem c_longestLoudRun : Ct G M_X1_longestLoudRun [.ref 42] (SH, mm, lm) false (.inl (some (.int (itN (loudS (fun t => decide (¬ mm 43 t = 0))) (0, 0) 1440).1))) (SH, mm, lm) false 0 0 := by
  refine CJ (bX1_longestLoudRun_0 ?_)
  generalize hF : loudS (fun t => decide (¬ mm 43 t = 0)) = F
  refine loop_up (n := 1440) (P := fun k => J G M_X1_longestLoudRun 6 [(0, .ref 42), (1, .int (itN F (0, 0) k).1), (2, .int (itN F (0, 0) k).2), (3, .int (nI k))] [] (SH, mm, lm) false (.inl (some (.int (itN F (0, 0) 1440).1))) (SH, mm, lm) false 0 0) ?_ ?_ 0 (Nat.zero_le _)
  · exact bX1_longestLoudRun_6 ⟨fun _ => ⟨rfl, rfl⟩, fun h => absurd (lit_le (n := 1440) rfl) h⟩
  · intro k hk ih
    have hs : F k (itN F (0, 0) k) = loudS (fun t => decide (¬ mm 43 t = 0)) k (itN F (0, 0) k) := by rw [hF]
    rw [itN_s F _ k, hs] at ih
    refine bX1_longestLoudRun_6 ⟨fun h => absurd h (lit_ge (n := 1440) rfl hk (by omega)), fun _ => ⟨k, rfl, hk, fun h => ⟨_, c_max _ _, ?_⟩, fun h => ⟨_, c_max _ _, ?_⟩⟩⟩
    · rw [loudS, if_neg (by simp [h])] at ih
      rw [nI_1]; exact ih
    · rw [loudS, if_pos (by simp [h])] at ih
      rw [nI_1]; exact ih
/-- bell k is heard at the minute t -/
abbrev hrdP (mm : Nat → Nat → Int32) (k t : Nat) : Prop := ¬ mm (23 + k) 0 = -1 ∧ rngP (mm (23 + k) 6) (mm (23 + k) 7) (nI t) ∧ mm 43 t = 0
theorem c_isHeard {k t : Nat} (hk : k < 8) (ht : t < 1440) : Ct G M_X1_isHeard [.ref 42, .int (nI k), .int (nI t)] (SH, mm, lm) false (.inl (some (.int (bI (hrdP mm k t))))) (SH, mm, lm) false 0 0 := by
  refine CJ (bX1_isHeard_0 ⟨k, rfl, hk, _, c_hangs (sh_b23 hk), fun h => ?_, fun h => ⟨k, rfl, hk, _, c_chimesAt (sh_b23 hk) _, fun h2 => ?_, fun h2 => ⟨t, rfl, ht, fun h3 => ?_, fun h3 => ?_⟩⟩⟩)
  · rw [bI_f (fun z => bI_0.mp h z.1)]; exact ⟨rfl, rfl⟩
  · rw [bI_f (fun z => bI_0.mp h2 z.2.1)]; exact ⟨rfl, rfl⟩
  · rw [bI_f (fun z => h3 z.2.2)]; exact ⟨rfl, rfl⟩
  · rw [bI_t ⟨bI_1.mp h, bI_1.mp h2, h3⟩]; exact ⟨rfl, rfl⟩
def hrdB (mm : Nat → Nat → Int32) (t k : Nat) : Bool := decide (hrdP mm k t)
theorem c_soundingSet (hnb : mm 4 9 = nI nb) (h8 : nb ≤ 8) {t : Nat} (ht : t < 1440) : Ct G M_X1_soundingSet [.ref 42, .int (nI t)] (SH, mm, lm) false (.inl (some (.int (orN (hrdB mm t) nb)))) (SH, mm, lm) false 0 0 := by
  refine CJ (bX1_soundingSet_0 ?_)
  refine loop_up (n := nb) (P := fun k => J G M_X1_soundingSet 4 [(0, .ref 42), (1, .int (nI t)), (2, .int (orN (hrdB mm t) k)), (3, .int (nI k))] [] (SH, mm, lm) false _ _ false 0 0) ?_ ?_ 0 (Nat.zero_le _)
  · exact bX1_soundingSet_4 ⟨fun _ => ⟨rfl, rfl⟩, fun h => absurd (le_nI' hnb) h⟩
  · intro k hk ih
    refine bX1_soundingSet_4 ⟨fun h => absurd h (le_nI hnb hk (by omega)), fun _ => ⟨_, c_isHeard (by omega) ht, fun h => ?_, fun h => ?_⟩⟩
    · have e : hrdB mm t k = false := decide_eq_false (bI_0.mp h)
      rw [nI_1]; simpa [orN, e] using ih
    · have e : hrdB mm t k = true := decide_eq_true (bI_1.mp h)
      rw [nI_1]; simpa [orN, e] using ih
theorem c_firstSoundFrom (hnb : mm 4 9 = nI nb) (h8 : nb ≤ 8) {f : Nat} (hf : f < 1440) : Ct G M_X1_firstSoundFrom [.ref 42, .int (nI f)] (SH, mm, lm) false (.inl (some (.int (opI (nextN (fun t => decide (¬ orN (hrdB mm t) nb = 0)) (1440 - f) f) (-2))))) (SH, mm, lm) false 0 0 := by
  refine CJ (bX1_firstSoundFrom_0 ?_)
  refine loop_up (n := 1440) (P := fun t => J G M_X1_firstSoundFrom 2 [(0, .ref 42), (2, .int (nI t))] [] (SH, mm, lm) false (.inl (some (.int (opI (nextN (fun t => decide (¬ orN (hrdB mm t) nb = 0)) (1440 - t) t) (-2))))) (SH, mm, lm) false 0 0) ?_ ?_ f (by omega)
  · refine bX1_firstSoundFrom_2 ⟨fun _ => ?_, fun h => absurd (lit_le (n := 1440) rfl) h⟩
    rw [Nat.sub_self]; exact ⟨rfl, rfl⟩
  · intro t ht ih
    rw [show 1440 - t = (1440 - (t + 1)) + 1 by omega]
    refine bX1_firstSoundFrom_2 ⟨fun h => absurd h (lit_ge (n := 1440) rfl ht (by omega)), fun _ => ⟨_, c_soundingSet hnb h8 ht, fun h => ?_, fun h => ?_⟩⟩
    · rw [nI_1]; simpa [nextN, h] using ih
    · simp [nextN, h, opI]
/-- the busiest minute so far, how many sound there -/
def busyS (s : Nat → Int32) (c : Int32 → Int32) (t : Nat) (x : Int32 × Int32) : Int32 × Int32 := if x.2 < c (s t) then (nI t, c (s t)) else x
theorem c_minuteOfMostSounds (hnb : mm 4 9 = nI nb) (h8 : nb ≤ 8) : Ct G M_X1_minuteOfMostSounds [.ref 42] (SH, mm, lm) false (.inl (some (.int (itN (busyS (fun t => orN (hrdB mm t) nb) bcF) (-2, 0) 1440).1))) (SH, mm, lm) false 0 0 := by
  refine CJ (bX1_minuteOfMostSounds_0 ?_)
  generalize hF : busyS (fun t => orN (hrdB mm t) nb) bcF = F
  refine loop_up (n := 1440) (P := fun k => J G M_X1_minuteOfMostSounds 7 [(0, .ref 42), (1, .int (itN F (-2, 0) k).1), (2, .int (itN F (-2, 0) k).2), (3, .int (nI k))] [] (SH, mm, lm) false (.inl (some (.int (itN F (-2, 0) 1440).1))) (SH, mm, lm) false 0 0) ?_ ?_ 0 (Nat.zero_le _)
  · exact bX1_minuteOfMostSounds_7 ⟨fun _ => ⟨rfl, rfl⟩, fun h => absurd (lit_le (n := 1440) rfl) h⟩
  · intro k hk ih
    have hs : F k (itN F (-2, 0) k) = busyS (fun t => orN (hrdB mm t) nb) bcF k (itN F (-2, 0) k) := by rw [hF]
    rw [itN_s F _ k, hs] at ih
    refine bX1_minuteOfMostSounds_7 ⟨fun h => absurd h (lit_ge (n := 1440) rfl hk (by omega)), fun _ => ⟨_, c_soundingSet hnb h8 hk, _, c_bitCount _, fun h => ?_, fun h => ?_⟩⟩
    · rw [busyS, if_neg (Int32.not_lt.mpr h)] at ih
      rw [nI_1]; exact ih
    · rw [busyS, if_pos (Int32.not_le.mp h)] at ih
      rw [nI_1]; exact ih
theorem c_countCommonSounds {j o : Nat} (hj : j < 8) (ho : o < 8) : Ct G M_X1_countCommonSounds [.ref 42, .int (nI j), .int (nI o)] (SH, mm, lm) false (.inl (some (.int (nI (cntN (fun t => hrdB mm t j && hrdB mm t o) 1440))))) (SH, mm, lm) false 0 0 := by
  refine CJ (bX1_countCommonSounds_0 ?_)
  refine loop_up (n := 1440) (P := fun k => J G M_X1_countCommonSounds 5 [(0, .ref 42), (1, .int (nI j)), (2, .int (nI o)), (3, .int (nI (cntN (fun t => hrdB mm t j && hrdB mm t o) k))), (4, .int (nI k))] [] (SH, mm, lm) false _ _ false 0 0) ?_ ?_ 0 (Nat.zero_le _)
  · exact bX1_countCommonSounds_5 ⟨fun _ => ⟨rfl, rfl⟩, fun h => absurd (lit_le (n := 1440) rfl) h⟩
  · intro k hk ih
    refine bX1_countCommonSounds_5 ⟨fun h => absurd h (lit_ge (n := 1440) rfl hk (by omega)), fun _ => ⟨_, c_isHeard hj hk, fun h => ?_, fun h => ⟨_, c_isHeard ho hk, fun h2 => ?_, fun h2 => ?_⟩⟩⟩
    · have e : hrdB mm k j = false := decide_eq_false (bI_0.mp h)
      rw [cntN_f (p := fun t => hrdB mm t j && hrdB mm t o) (by simp [e])] at ih
      rw [nI_1]; exact ih
    · have e : hrdB mm k o = false := decide_eq_false (bI_0.mp h2)
      rw [cntN_f (p := fun t => hrdB mm t j && hrdB mm t o) (by simp [e])] at ih
      rw [nI_1]; exact ih
    · have e : hrdB mm k j = true := decide_eq_true (bI_1.mp h)
      have e2 : hrdB mm k o = true := decide_eq_true (bI_1.mp h2)
      rw [cntN_t (p := fun t => hrdB mm t j && hrdB mm t o) (by simp [e, e2])] at ih
      rw [nI_1, nI_1]; exact ih
/-- of the minutes t, t + i, .. the latest that is quiet, and i more; x if none is -/
def lcF (q : Nat → Bool) (i : Nat) : Nat → Nat → Nat → Nat
  | 0, _, x => x
  | d + 1, t, x => if 1440 ≤ t then x else lcF q i d (t + i) (if q t then t + i else x)
theorem c_firstLoudChime {i : Nat} (hi : 0 < i) (hi2 : i ≤ 1440) {s : Nat} (hs : s < 1440) : Ct G M_X1_firstLoudChime [.ref 42, .int (nI s), .int (nI i)] (SH, mm, lm) false (.inl (some (.int (nI (lcF (fun t => decide (¬ mm 43 t = 0)) i 1441 s s))))) (SH, mm, lm) false 0 0 := by
  refine CJ (bX1_firstLoudChime_0 ?_)
  have key : ∀ d t x, t ≤ 2880 → 1440 < t + d * i → J G M_X1_firstLoudChime 5 [(0, .ref 42), (2, .int (nI i)), (3, .int (nI x)), (4, .int (nI t))] [] (SH, mm, lm) false (.inl (some (.int (nI (lcF (fun t => decide (¬ mm 43 t = 0)) i d t x))))) (SH, mm, lm) false 0 0 := by
    intro d
    induction d with
    | zero =>
      intro t x ht h
      refine bX1_firstLoudChime_5 ⟨fun _ => ⟨rfl, rfl⟩, fun h2 => absurd (show (1440 : Int32) ≤ nI t from nI_le (a := 1440) (by omega) (by omega)) h2⟩
    | succ d ih =>
      intro t x ht h
      by_cases h1 : 1440 ≤ t
      · refine bX1_firstLoudChime_5 ⟨fun _ => ?_, fun h2 => absurd (show (1440 : Int32) ≤ nI t from nI_le (a := 1440) (by omega) (by omega)) h2⟩
        rw [lcF, if_pos h1]; exact ⟨rfl, rfl⟩
      · have e : t + (d + 1) * i = (t + i) + d * i := by rw [Nat.succ_mul]; omega
        refine bX1_firstLoudChime_5 ⟨fun h2 => absurd h2 (lit_ge (n := 1440) rfl (by omega) (by omega)), fun _ => ⟨fun h2 => absurd h2 (nI_nle hi (by omega)), fun _ => ⟨t, rfl, by omega, fun h3 => ?_, fun h3 => ?_⟩⟩⟩
        · rw [lcF, if_neg h1, nI_add, if_neg (by simp [h3])]
          exact ih (t + i) x (by omega) (by omega)
        · rw [lcF, if_neg h1, nI_add, if_pos (by simp [h3])]
          exact ih (t + i) (t + i) (by omega) (by omega)
  refine key 1441 s s (by omega) ?_
  have := Nat.mul_le_mul_left 1441 hi
  omega
/-- the least of them from first chimes t on, d of them, x at most -/
def dlF (q : Nat → Bool) (i : Nat) : Nat → Nat → Nat → Nat
  | 0, _, x => x
  | d + 1, t, x => if 1440 ≤ t then x else dlF q i d (t + 1) (min x (lcF q i 1441 t t))
theorem c_delayToLoudMinutes {j f i : Nat} (hj : j < 8) (hf : mm (23 + j) 6 = nI f) (hi : mm (23 + j) 7 = nI i) (hf2 : f < 1440) (hi1 : 0 < i) (hi2 : i ≤ 1440) : Ct G M_X1_delayToLoudMinutes [.ref 42, .int (nI j)] (SH, mm, lm) false (.inl (some (.int (if 1440 ≤ dlF (fun t => decide (¬ mm 43 t = 0)) i i f 1440 then -3 else nI (dlF (fun t => decide (¬ mm 43 t = 0)) i i f 1440 - f))))) (SH, mm, lm) false 0 0 := by
  have hlc : ∀ d t x, x ≤ lcF (fun t => decide (¬ mm 43 t = 0)) i d t x ∨ t ≤ lcF (fun t => decide (¬ mm 43 t = 0)) i d t x := by
    intro d
    induction d with
    | zero => intro t x; exact Or.inl (Nat.le_refl _)
    | succ d ih =>
      intro t x
      rw [lcF]
      by_cases h1 : 1440 ≤ t
      · rw [if_pos h1]; exact Or.inl (Nat.le_refl _)
      · rw [if_neg h1]
        by_cases h2 : decide (¬ mm 43 t = 0) = true
        · rw [if_pos h2]
          rcases ih (t + i) (t + i) with h | h <;> exact Or.inr (by omega)
        · rw [if_neg h2]
          rcases ih (t + i) x with h | h
          · exact Or.inl h
          · exact Or.inr (by omega)
  have hge : ∀ t, t ≤ lcF (fun t => decide (¬ mm 43 t = 0)) i 1441 t t := fun t => by rcases hlc 1441 t t with h | h <;> exact h
  have hub : ∀ d t x, x ≤ 4000 → t ≤ 1440 → lcF (fun t => decide (¬ mm 43 t = 0)) i d t x ≤ 4000 := by
    intro d
    induction d with
    | zero => intro t x hx _; exact hx
    | succ d ih =>
      intro t x hx ht
      rw [lcF]
      by_cases h1 : 1440 ≤ t
      · rw [if_pos h1]; exact hx
      · rw [if_neg h1]
        by_cases h3 : t + i ≤ 1440
        · split
          · exact ih _ _ (by omega) h3
          · exact ih _ _ hx h3
        · cases d with
          | zero => simp only [lcF]; split <;> omega
          | succ d => simp only [lcF, if_pos (show 1440 ≤ t + i by omega)]; split <;> omega
  have key : ∀ d t x, t + d = f + i → f ≤ t → f ≤ x → x ≤ 1440 → J G M_X1_delayToLoudMinutes 28 [(0, .ref 42), (2, .int (nI f)), (3, .int (nI i)), (4, .int (nI x)), (5, .int (nI t))] [] (SH, mm, lm) false (.inl (some (.int (if 1440 ≤ dlF (fun t => decide (¬ mm 43 t = 0)) i d t x then -3 else nI (dlF (fun t => decide (¬ mm 43 t = 0)) i d t x - f))))) (SH, mm, lm) false 0 0 := by
    have sub : ∀ x, f ≤ x → x ≤ 1440 → nI x - nI f = nI (x - f) := fun x h1 h2 => by
      have e : nI (x - f) + nI f = nI x := by rw [nI_add]; congr 1; omega
      rw [← e, Int32.add_sub_cancel]
    intro d
    induction d with
    | zero =>
      intro t x h1 h2 h3 h4
      refine bX1_delayToLoudMinutes_28 ⟨fun _ => ⟨fun h => ?_, fun h => ?_⟩, fun h => absurd (by rw [nI_add]; exact nI_le (by omega) (by omega)) h⟩
      · have : 1440 ≤ x := (nI_leI (a := 1440) (by omega) (by omega)).mp h
        rw [dlF, if_pos this]; exact ⟨rfl, rfl⟩
      · have : ¬ 1440 ≤ x := fun z => h ((nI_leI (a := 1440) (by omega) (by omega)).mpr z)
        rw [dlF, if_neg this, sub x h3 h4]; exact ⟨rfl, rfl⟩
    | succ d ih =>
      intro t x h1 h2 h3 h4
      refine bX1_delayToLoudMinutes_28 ⟨fun h => absurd h (by rw [nI_add]; exact nI_ge (by omega) (by omega)), fun _ => ⟨fun ht => ⟨fun h => ?_, fun h => ?_⟩, fun ht => ?_⟩⟩
      · have h5 : 1440 ≤ t := (nI_leI (a := 1440) (by omega) (by omega)).mp ht
        have : 1440 ≤ x := (nI_leI (a := 1440) (by omega) (by omega)).mp h
        rw [dlF, if_pos h5, if_pos this]; exact ⟨rfl, rfl⟩
      · have h5 : 1440 ≤ t := (nI_leI (a := 1440) (by omega) (by omega)).mp ht
        have : ¬ 1440 ≤ x := fun z => h ((nI_leI (a := 1440) (by omega) (by omega)).mpr z)
        rw [dlF, if_pos h5, if_neg this, sub x h3 h4]; exact ⟨rfl, rfl⟩
      · have h5 : ¬ 1440 ≤ t := fun z => ht ((nI_leI (a := 1440) (by omega) (by omega)).mpr z)
        have hu := hub 1441 t t (by omega) (by omega)
        have hl := hge t
        refine ⟨_, c_firstLoudChime hi1 hi2 (by omega), _, c_min _ _, ?_⟩
        have e : (if nI (lcF (fun t => decide (¬ mm 43 t = 0)) i 1441 t t) < nI x then nI (lcF (fun t => decide (¬ mm 43 t = 0)) i 1441 t t) else nI x) = nI (min x (lcF (fun t => decide (¬ mm 43 t = 0)) i 1441 t t)) := by
          by_cases h6 : lcF (fun t => decide (¬ mm 43 t = 0)) i 1441 t t < x
          · rw [if_pos (nI_lt h6 (by omega))]; congr 1; omega
          · rw [if_neg (nI_nlt (by omega) (by omega))]; congr 1; omega
        rw [e, nI_1, dlF, if_neg h5]
        exact ih (t + 1) _ (by omega) (by omega) (by omega) (by omega)
  refine CJ (bX1_delayToLoudMinutes_0 ⟨j, rfl, hj, j, rfl, hj, ?_⟩)
  rw [hf, hi]
  exact key i f 1440 (by omega) (Nat.le_refl _) (by omega) (Nat.le_refl _)
/-- quiet because of one of the first n intervals -/
def qtB (f t : Nat → Int32) (n m : Nat) : Bool := !(allN (fun i => decide (¬ (f i ≤ nI m ∧ nI m < t i))) n)
theorem c_markQuietMinutes {nq : Nat} (hnq : mm 4 10 = nI nq) (h6 : nq ≤ 6) (hf : ∀ i, i < nq → ∃ a, a < 1440 ∧ mm 10 i = nI a) (ht : ∀ i, i < nq → ∃ a, a ≤ 1440 ∧ mm 11 i = nI a) : ∃ mm', (∀ c, c ≠ 43 → mm' c = mm c) ∧ (∀ m, m < 1440 → mm' 43 m = if qtB (mm 10) (mm 11) nq m = true then 1 else 0) ∧ Ct G M_X1_markQuietMinutes [.ref 42] (SH, mm, lm) false (.inl none) (SH, mm', lm) false 0 0 := by
  have qs : ∀ n m, qtB (mm 10) (mm 11) (n + 1) m = (qtB (mm 10) (mm 11) n m || decide (mm 10 n ≤ nI m ∧ nI m < mm 11 n)) := fun n m => by
    simp only [qtB, allN]
    by_cases hP : mm 10 n ≤ nI m ∧ nI m < mm 11 n
    · rw [decide_eq_true hP, decide_eq_false (not_not_intro hP), Bool.and_false, Bool.or_true]; rfl
    · rw [decide_eq_false hP, decide_eq_true hP, Bool.and_true, Bool.or_false]
  have key := loop_up (n := 1440) (P := fun k => ∀ m, (∀ c, c ≠ 43 → m c = mm c) → (∀ x, x < k → m 43 x = 0) → ∃ mm', (∀ c, c ≠ 43 → mm' c = mm c) ∧ (∀ m, m < 1440 → mm' 43 m = if qtB (mm 10) (mm 11) nq m = true then 1 else 0) ∧ J G M_X1_markQuietMinutes 2 [(0, .ref 42), (1, .int (nI k))] [] (SH, m, lm) false (.inl none) (SH, mm', lm) false 0 0) ?_ ?_ 0 (Nat.zero_le _) mm (fun _ _ => rfl) (fun x hx => absurd hx (Nat.not_lt_zero x))
  · obtain ⟨mm', h1, h2, h3⟩ := key
    exact ⟨mm', h1, h2, CJ (bX1_markQuietMinutes_0 h3)⟩
  · intro m hm h0
    have key2 := loop_up (n := nq) (P := fun i => ∀ m, (∀ c, c ≠ 43 → m c = mm c) → (∀ x, x < 1440 → m 43 x = if qtB (mm 10) (mm 11) i x = true then 1 else 0) → ∃ mm', (∀ c, c ≠ 43 → mm' c = mm c) ∧ (∀ m, m < 1440 → mm' 43 m = if qtB (mm 10) (mm 11) nq m = true then 1 else 0) ∧ J G M_X1_markQuietMinutes 24 [(0, .ref 42), (1, .int (nI i))] [] (SH, m, lm) false (.inl none) (SH, mm', lm) false 0 0) ?_ ?_ 0 (Nat.zero_le _) m hm (fun x hx => by rw [h0 x hx]; rfl)
    · obtain ⟨mm', q1, q2, q3⟩ := key2
      exact ⟨mm', q1, q2, bX1_markQuietMinutes_2 ⟨fun _ => q3, fun h => absurd (lit_le (n := 1440) rfl) h⟩⟩
    · intro m hm h1
      exact ⟨m, hm, h1, bX1_markQuietMinutes_24 ⟨fun _ => ⟨rfl, rfl⟩, fun h => absurd (le_nI' ((congrFun (hm 4 (by decide)) 10).trans hnq)) h⟩⟩
    · intro i hi ih m hm h1
      obtain ⟨a, ha, ea⟩ := hf i hi
      obtain ⟨b, hb, eb⟩ := ht i hi
      have ea' : m 10 i = nI a := by rw [hm 10 (by decide)]; exact ea
      have eb' : m 11 i = nI b := by rw [hm 11 (by decide)]; exact eb
      -- the inner loop, from a to b
      have inner : ∀ d x m, x + d = max a b → a ≤ x → (∀ c, c ≠ 43 → m c = mm c) → (∀ y, y < 1440 → m 43 y = if qtB (mm 10) (mm 11) i y = true ∨ (a ≤ y ∧ y < x ∧ y < b) then 1 else 0) → ∃ mm', (∀ c, c ≠ 43 → mm' c = mm c) ∧ (∀ m, m < 1440 → mm' 43 m = if qtB (mm 10) (mm 11) nq m = true then 1 else 0) ∧ J G M_X1_markQuietMinutes 65 [(0, .ref 42), (1, .int (nI i)), (2, .int (nI b)), (3, .int (nI x))] [] (SH, m, lm) false (.inl none) (SH, mm', lm) false 0 0 := by
        have fin : ∀ x m, max a b ≤ x → (∀ c, c ≠ 43 → m c = mm c) → (∀ y, y < 1440 → m 43 y = if qtB (mm 10) (mm 11) i y = true ∨ (a ≤ y ∧ y < x ∧ y < b) then 1 else 0) → ∃ mm', (∀ c, c ≠ 43 → mm' c = mm c) ∧ (∀ m, m < 1440 → mm' 43 m = if qtB (mm 10) (mm 11) nq m = true then 1 else 0) ∧ J G M_X1_markQuietMinutes 24 [(0, .ref 42), (1, .int (nI (i + 1)))] [] (SH, m, lm) false (.inl none) (SH, mm', lm) false 0 0 := fun x m hx hm hy => ih m hm (fun y hy2 => by
          rw [hy y hy2, qs, ea, eb]
          have e : (a ≤ y ∧ y < x ∧ y < b) ↔ (nI a ≤ nI y ∧ nI y < nI b) := by
            rw [nI_leI (by omega) (by omega), nI_ltI (by omega) (by omega)]; omega
          simp only [e, Bool.or_eq_true, decide_eq_true_eq])
        intro d
        induction d with
        | zero =>
          intro x m h1 h2 hm hy
          obtain ⟨mm', q1, q2, q3⟩ := fin x m (by omega) hm hy
          refine ⟨mm', q1, q2, bX1_markQuietMinutes_65 ⟨fun _ => ?_, fun h => absurd (nI_le (by omega) (by omega)) h⟩⟩
          rw [nI_1]; exact q3
        | succ d ihd =>
          intro x m h1 h2 hm hy
          by_cases hxb : b ≤ x
          · obtain ⟨mm', q1, q2, q3⟩ := fin x m (by omega) hm hy
            refine ⟨mm', q1, q2, bX1_markQuietMinutes_65 ⟨fun _ => ?_, fun h => absurd (nI_le hxb (by omega)) h⟩⟩
            rw [nI_1]; exact q3
          · obtain ⟨mm', q1, q2, q3⟩ := ihd (x + 1) (mset m 43 x (vp_nar .boolean 1)) (by omega) (by omega) (fun c hc => by rw [mset_ne hc]; exact hm c hc) (fun y hy2 => by
              by_cases hyx : y = x
              · subst hyx
                rw [mset_eq, if_pos (Or.inr ⟨h2, by omega, by omega⟩)]; rfl
              · rw [mset_ne2 (fun z => hyx z.2), hy y hy2]
                have e : (a ≤ y ∧ y < x ∧ y < b) ↔ (a ≤ y ∧ y < x + 1 ∧ y < b) := by omega
                simp only [e])
            refine ⟨mm', q1, q2, bX1_markQuietMinutes_65 ⟨fun h => absurd h (nI_ge (by omega) (by omega)), fun _ => ⟨x, rfl, by omega, ?_⟩⟩⟩
            rw [nI_1]; exact q3
      obtain ⟨mm', q1, q2, q3⟩ := inner (max a b - a) a m (by omega) (Nat.le_refl _) hm (fun y hy => by
        rw [h1 y hy]
        have e : (qtB (mm 10) (mm 11) i y = true ∨ (a ≤ y ∧ y < a ∧ y < b)) ↔ qtB (mm 10) (mm 11) i y = true := ⟨fun z => z.elim id (fun w => by omega), Or.inl⟩
        simp only [e])
      refine ⟨mm', q1, q2, bX1_markQuietMinutes_24 ⟨fun h => absurd h (le_nI ((congrFun (hm 4 (by decide)) 10).trans hnq) hi (by omega)), fun _ => ⟨i, rfl, by omega, nI b, ?_, i, rfl, by omega, nI a, ?_, q3⟩⟩⟩
      · have := c_min (G := G) (mm := m) (lm := lm) (m 11 i) 1440
        rw [eb', if_neg (by rw [show (1440 : Int32) = nI 1440 from rfl]; exact nI_nlt hb (by omega))] at this
        rw [eb']; exact this
      · have := c_max (G := G) (mm := m) (lm := lm) (m 10 i) 0
        rw [ea', if_neg (by rw [show (0 : Int32) = nI 0 from rfl]; exact nI_nlt (by omega) (by omega))] at this
        rw [ea']; exact this
  · intro k hk ih m hm h0
    obtain ⟨mm', q1, q2, q3⟩ := ih (mset m 43 k (vp_nar .boolean 0)) (fun c hc => by rw [mset_ne hc]; exact hm c hc) (fun x hx => by
      by_cases hxk : x = k
      · subst hxk; rw [mset_eq]; rfl
      · rw [mset_ne2 (fun z => hxk z.2)]; exact h0 x (by omega))
    refine ⟨mm', q1, q2, bX1_markQuietMinutes_2 ⟨fun h => absurd h (lit_ge (n := 1440) rfl hk (by omega)), fun _ => ⟨k, rfl, hk, ?_⟩⟩⟩
    rw [nI_1]; exact q3
end Chimes
