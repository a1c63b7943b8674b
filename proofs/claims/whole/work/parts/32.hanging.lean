/-! ===== contracts: hanging ===== -/
/-- the torque of the beam b, of the bells k below n that ex does not leave out -/
def mo (n : Nat) (be po w : Nat → Int32) (b : Int32) (ex : Nat → Bool) : Int32 := sumN (fun k => if ex k = false ∧ be k = b then w k * po k else 0) n
/-- clear of the bell k -/
def fitB (be po rad : Nat → Int32) (j : Nat) (b x : Int32) (k : Nat) : Bool := decide (k = j ∨ ¬ be k = b ∨ ¬ absI (x - po k) < rad j + rad k)
def mWi (n : Nat) (be po w : Nat → Int32) (j : Nat) (b x : Int32) : Int32 := mo n be po w b (fun k => decide (k = j)) + w j * x
section Hanging
variable {G : Gx} {mm : Nat → Nat → Int32} {lm : Nat → Int64} {nb : Nat}
abbrev cBe (mm : Nat → Nat → Int32) : Nat → Int32 := fun k => mm (23 + k) 0
abbrev cPo (mm : Nat → Nat → Int32) : Nat → Int32 := fun k => mm (23 + k) 1
theorem c_countOn (hnb : mm 4 9 = nI nb) (h8 : nb ≤ 8) (b : Int32) : Ct G M_X2_countOn [.ref 31, .int b] (SH, mm, lm) false (.inl (some (.int (nI (cntN (fun k => decide (cBe mm k = b)) nb))))) (SH, mm, lm) false 0 0 := by
  refine CJ (bX2_countOn_0 ?_)
  refine loop_up (n := nb) (P := fun k => J G M_X2_countOn 4 [(0, .ref 31), (1, .int b), (2, .int (nI (cntN (fun k => decide (cBe mm k = b)) k))), (3, .int (nI k))] [] (SH, mm, lm) false _ _ false 0 0) ?_ ?_ 0 (Nat.zero_le _)
  · exact bX2_countOn_4 ⟨fun _ => ⟨rfl, rfl⟩, fun h => absurd (le_nI' hnb) h⟩
  · intro k hk ih
    refine bX2_countOn_4 ⟨fun h => absurd h (le_nI hnb hk (by omega)), fun _ => ⟨k, rfl, by omega, fun h => ?_, fun h => ?_⟩⟩
    · rw [nI_1]; simpa [cntN, h] using ih
    · rw [nI_1, nI_1]; simpa [cntN, h] using ih
theorem c_momentWithout (hnb : mm 4 9 = nI nb) (h8 : nb ≤ 8) (b lo : Int32) : Ct G M_X2_momentWithout [.ref 31, .int b, .int lo] (SH, mm, lm) false (.inl (some (.int (mo nb (cBe mm) (cPo mm) (mm 7) b (fun k => decide (nI k = lo)))))) (SH, mm, lm) false 0 0 := by
  refine CJ (bX2_momentWithout_0 ?_)
  refine loop_up (n := nb) (P := fun k => J G M_X2_momentWithout 5 [(0, .ref 31), (1, .int b), (2, .int lo), (3, .int (mo k (cBe mm) (cPo mm) (mm 7) b (fun k => decide (nI k = lo)))), (4, .int (nI k))] [] (SH, mm, lm) false _ _ false 0 0) ?_ ?_ 0 (Nat.zero_le _)
  · exact bX2_momentWithout_5 ⟨fun _ => ⟨rfl, rfl⟩, fun h => absurd (le_nI' hnb) h⟩
  · intro k hk ih
    refine bX2_momentWithout_5 ⟨fun h => absurd h (le_nI hnb hk (by omega)), fun _ => ⟨fun h => ?_, fun h => ⟨k, rfl, by omega, fun h2 => ?_, fun h2 => ⟨k, rfl, by omega, k, rfl, by omega, ?_⟩⟩⟩⟩
    · rw [nI_1]; simpa [mo, sumN, h] using ih
    · rw [nI_1]; simpa [mo, sumN, h2] using ih
    · rw [nI_1]; simpa [mo, sumN, h, h2] using ih
theorem mo_nI {n : Nat} {be po w : Nat → Int32} {b : Int32} {j : Nat} (hn : n ≤ 8) (hj : j < 8) : mo n be po w b (fun k => decide (nI k = nI j)) = mo n be po w b (fun k => decide (k = j)) := by
  refine sumN_congr fun k hk => ?_
  have e : decide (nI k = nI j) = decide (k = j) := by rw [decide_eq_decide]; exact nI_inj8 (by omega) (by omega)
  simp only [e]
theorem c_momentWith (hnb : mm 4 9 = nI nb) (h8 : nb ≤ 8) {j : Nat} (hj : j < 8) (b x : Int32) : Ct G M_X2_momentWith [.ref 31, .int (nI j), .int b, .int x] (SH, mm, lm) false (.inl (some (.int (mWi nb (cBe mm) (cPo mm) (mm 7) j b x)))) (SH, mm, lm) false 0 0 := by
  refine CJ (bX2_momentWith_0 ⟨_, c_momentWithout hnb h8 b (nI j), j, rfl, hj, ?_⟩)
  rw [mo_nI h8 hj]
  exact ⟨rfl, rfl⟩
theorem c_fits (hnb : mm 4 9 = nI nb) (h8 : nb ≤ 8) {j : Nat} (hj : j < 8) (b x : Int32) : Ct G M_X2_fits [.ref 31, .int (nI j), .int b, .int x] (SH, mm, lm) false (.inl (some (.int (bI (allN (fitB (cBe mm) (cPo mm) (mm 8) j b x) nb = true))))) (SH, mm, lm) false 0 0 := by
  refine CJ (bX2_fits_0 ?_)
  refine loop_up (n := nb) (P := fun k => allN (fitB (cBe mm) (cPo mm) (mm 8) j b x) k = true → J G M_X2_fits 3 [(0, .ref 31), (1, .int (nI j)), (2, .int b), (3, .int x), (4, .int (nI k))] [] (SH, mm, lm) false _ _ false 0 0) ?_ ?_ 0 (Nat.zero_le _) rfl
  · exact fun hf => bX2_fits_3 ⟨fun _ => by rw [bI_t hf]; exact ⟨rfl, rfl⟩, fun h => absurd (le_nI' hnb) h⟩
  · intro k hk ih hf
    refine bX2_fits_3 ⟨fun h => absurd h (le_nI hnb hk (by omega)), fun _ => ⟨fun h => ?_, fun h => ⟨k, rfl, by omega, fun h2 => ?_, fun h2 => ⟨k, rfl, by omega, _, c_keepsClear hj (by omega) _, fun h3 => ?_, fun h3 => ?_⟩⟩⟩⟩
    · rw [nI_1]; exact ih (allN_s hf (decide_eq_true (Or.inl ((nI_inj8 (by omega) (by omega)).mp h))))
    · rw [nI_1]; exact ih (allN_s hf (decide_eq_true (Or.inr (Or.inl h2))))
    · rw [nI_1]; exact ih (allN_s hf (decide_eq_true (Or.inr (Or.inr (bI_1.mp h3)))))
    · have e : fitB (cBe mm) (cPo mm) (mm 8) j b x k = false := by
        refine decide_eq_false ?_
        rintro (z | z | z)
        · exact h (by rw [z])
        · exact z h2
        · exact bI_0.mp h3 z
      rw [bI_f (allN_f hk e)]; exact ⟨rfl, rfl⟩
/-- -3 or -4, 0 if the bell could hang there -/
def eopF (n : Nat) (be po rad w lim : Nat → Int32) (j i : Nat) (x : Int32) : Int32 :=
  if allN (fitB be po rad j (nI i) x) n = true then (if lim i < absI (mWi n be po w j (nI i) x) then -4 else 0) else -3
theorem c_errorOfPlace (hnb : mm 4 9 = nI nb) (h8 : nb ≤ 8) {j i : Nat} (hj : j < 8) (hi : i < 4) (x : Int32) : Ct G M_X2_errorOfPlace [.ref 31, .int (nI j), .int (nI i), .int x] (SH, mm, lm) false (.inl (some (.int (eopF nb (cBe mm) (cPo mm) (mm 8) (mm 7) (mm 6) j i x)))) (SH, mm, lm) false 0 0 := by
  refine CJ (bX2_errorOfPlace_0 ⟨_, c_fits hnb h8 hj (nI i) x, fun h => ⟨_, c_momentWith hnb h8 hj (nI i) x, _, c_bears hi _, fun h2 => ?_, fun h2 => ?_⟩, fun h => ?_⟩)
  · rw [eopF, if_pos (bI_1.mp h), if_pos (Decidable.not_not.mp (bI_0.mp h2))]; exact ⟨rfl, rfl⟩
  · rw [eopF, if_pos (bI_1.mp h), if_neg (bI_1.mp h2)]; exact ⟨rfl, rfl⟩
  · rw [eopF, if_neg (bI_0.mp h)]; exact ⟨rfl, rfl⟩
theorem p15 : ∀ n, n < 31 → ¬ (15 : Int32) < nI n + (-15) := by decide +kernel
theorem p15s (n : Nat) : nI n + (-15) + 1 = nI (n + 1) + (-15) := by rw [← nI_1, Int32.add_assoc, Int32.add_comm (-15) 1, ← Int32.add_assoc]
theorem c_countPlaces (hnb : mm 4 9 = nI nb) (h8 : nb ≤ 8) {j i : Nat} (hj : j < 8) (hi : i < 4) : Ct G M_X2_countPlaces [.ref 31, .int (nI j), .int (nI i)] (SH, mm, lm) false (.inl (some (.int (nI (cntN (fun n => decide (eopF nb (cBe mm) (cPo mm) (mm 8) (mm 7) (mm 6) j i (nI n + (-15)) = 0)) 31))))) (SH, mm, lm) false 0 0 := by
  refine CJ (bX2_countPlaces_0 ?_)
  refine loop_up (n := 31) (P := fun n => J G M_X2_countPlaces 6 [(0, .ref 31), (1, .int (nI j)), (2, .int (nI i)), (3, .int (nI (cntN (fun n => decide (eopF nb (cBe mm) (cPo mm) (mm 8) (mm 7) (mm 6) j i (nI n + (-15)) = 0)) n))), (4, .int (nI n + (-15)))] [] (SH, mm, lm) false _ _ false 0 0) ?_ ?_ 0 (Nat.zero_le _)
  · exact bX2_countPlaces_6 ⟨fun _ => ⟨rfl, rfl⟩, fun h => absurd (by decide) h⟩
  · intro n hn ih
    refine bX2_countPlaces_6 ⟨fun h => absurd h (p15 n hn), fun _ => ⟨_, c_errorOfPlace hnb h8 hj hi _, fun h => ?_, fun h => ?_⟩⟩
    · rw [p15s]; simpa [cntN, h] using ih
    · rw [p15s, nI_1]; simpa [cntN, h] using ih
/-- the calmest place among the first n: what is answered, its torque -/
def calmS (e m : Int32 → Int32) (n : Nat) (s : Int32 × Int32) : Int32 × Int32 := if absI (m (nI n + (-15))) < s.2 ∧ e (nI n + (-15)) = 0 then (100 + (nI n + (-15)), absI (m (nI n + (-15)))) else s
theorem c_calmestPlace (hnb : mm 4 9 = nI nb) (h8 : nb ≤ 8) {j i : Nat} (hj : j < 8) (hi : i < 4) : Ct G M_X2_calmestPlace [.ref 31, .int (nI j), .int (nI i)] (SH, mm, lm) false (.inl (some (.int (itN (calmS (eopF nb (cBe mm) (cPo mm) (mm 8) (mm 7) (mm 6) j i) (mWi nb (cBe mm) (cPo mm) (mm 7) j (nI i))) (-3, 2147483647) 31).1))) (SH, mm, lm) false 0 0 := by
  refine CJ (bX2_calmestPlace_0 ?_)
  generalize hF : calmS (eopF nb (cBe mm) (cPo mm) (mm 8) (mm 7) (mm 6) j i) (mWi nb (cBe mm) (cPo mm) (mm 7) j (nI i)) = F
  have hs : ∀ n s, F n s = if absI (mWi nb (cBe mm) (cPo mm) (mm 7) j (nI i) (nI n + (-15))) < s.2 ∧ eopF nb (cBe mm) (cPo mm) (mm 8) (mm 7) (mm 6) j i (nI n + (-15)) = 0 then (100 + (nI n + (-15)), absI (mWi nb (cBe mm) (cPo mm) (mm 7) j (nI i) (nI n + (-15)))) else s := by
    intro n s; rw [← hF]; rfl
  refine loop_up (n := 31) (P := fun n => J G M_X2_calmestPlace 11 [(0, .ref 31), (1, .int (nI j)), (2, .int (nI i)), (3, .int (itN F (-3, 2147483647) n).1), (4, .int (itN F (-3, 2147483647) n).2), (5, .int (nI n + (-15)))] [] (SH, mm, lm) false (.inl (some (.int (itN F (-3, 2147483647) 31).1))) (SH, mm, lm) false 0 0) ?_ ?_ 0 (Nat.zero_le _)
  · exact bX2_calmestPlace_11 ⟨fun _ => ⟨rfl, rfl⟩, fun h => absurd (by decide) h⟩
  · intro n hn ih
    have hsn := hs n (itN F (-3, 2147483647) n)
    have hit : itN F (-3, 2147483647) (n + 1) = F n (itN F (-3, 2147483647) n) := rfl
    generalize itN F (-3, 2147483647) 31 = R at ih ⊢
    simp only [hit] at ih
    refine bX2_calmestPlace_11 ⟨fun h => absurd h (p15 n hn), fun _ => ⟨_, c_momentWith hnb h8 hj _ _, _, c_abs _, fun h => ?_, fun h => ⟨_, c_errorOfPlace hnb h8 hj hi _, fun h2 => ?_, fun h2 => ?_⟩⟩⟩
    · rw [if_neg (fun z => absurd h (Int32.not_le.mpr z.1))] at hsn
      rw [hsn] at ih
      rw [p15s]; exact ih
    · rw [if_neg (fun z => h2 z.2)] at hsn
      rw [hsn] at ih
      rw [p15s]; exact ih
    · rw [if_pos ⟨Int32.not_le.mp h, h2⟩] at hsn
      rw [hsn] at ih
      dsimp only at ih
      rw [p15s]; exact ih
/-- how many bells of the beam of k hang before it -/
def befB (be po : Nat → Int32) (j k : Nat) : Bool := decide ((¬ be k = -1 ∧ be k = be j) ∧ ¬ po j ≤ po k)
theorem c_countBefore (hnb : mm 4 9 = nI nb) (h8 : nb ≤ 8) {j : Nat} (hj : j < 8) : Ct G M_X2_countBefore [.ref 31, .int (nI j)] (SH, mm, lm) false (.inl (some (.int (nI (cntN (befB (cBe mm) (cPo mm) j) nb))))) (SH, mm, lm) false 0 0 := by
  refine CJ (bX2_countBefore_0 ?_)
  refine loop_up (n := nb) (P := fun k => J G M_X2_countBefore 4 [(0, .ref 31), (1, .int (nI j)), (2, .int (nI (cntN (befB (cBe mm) (cPo mm) j) k))), (3, .int (nI k))] [] (SH, mm, lm) false _ _ false 0 0) ?_ ?_ 0 (Nat.zero_le _)
  · exact bX2_countBefore_4 ⟨fun _ => ⟨rfl, rfl⟩, fun h => absurd (le_nI' hnb) h⟩
  · intro k hk ih
    refine bX2_countBefore_4 ⟨fun h => absurd h (le_nI hnb hk (by omega)), fun _ => ⟨k, rfl, by omega, j, rfl, hj, _, c_shares (sh_b23 (by omega)) (sh_b23 hj), fun h => ?_, fun h => ⟨k, rfl, by omega, j, rfl, hj, fun h2 => ?_, fun h2 => ?_⟩⟩⟩
    · have e : befB (cBe mm) (cPo mm) j k = false := decide_eq_false fun z => bI_0.mp h z.1
      rw [nI_1]; simpa [cntN, e] using ih
    · have e : befB (cBe mm) (cPo mm) j k = false := decide_eq_false fun z => z.2 h2
      rw [nI_1]; simpa [cntN, e] using ih
    · have e : befB (cBe mm) (cPo mm) j k = true := decide_eq_true ⟨bI_1.mp h, h2⟩
      rw [nI_1, nI_1]; simpa [cntN, e] using ih
def bipB (be po : Nat → Int32) (n : Nat) (b pl : Int32) (k : Nat) : Bool := decide (be k = b ∧ nI (cntN (befB be po k) n) = pl)
theorem c_bellInPlace (hnb : mm 4 9 = nI nb) (h8 : nb ≤ 8) (b pl : Int32) : Ct G M_X2_bellInPlace [.ref 31, .int b, .int pl] (SH, mm, lm) false (.inl (some (.int (opI (nextN (bipB (cBe mm) (cPo mm) nb b pl) nb 0) (-2))))) (SH, mm, lm) false 0 0 := by
  refine CJ (bX2_bellInPlace_0 ?_)
  refine loop_up (n := nb) (P := fun k => J G M_X2_bellInPlace 2 [(0, .ref 31), (1, .int b), (2, .int pl), (3, .int (nI k))] [] (SH, mm, lm) false (.inl (some (.int (opI (nextN (bipB (cBe mm) (cPo mm) nb b pl) (nb - k) k) (-2))))) (SH, mm, lm) false 0 0) ?_ ?_ 0 (Nat.zero_le _)
  · refine bX2_bellInPlace_2 ⟨fun _ => ?_, fun h => absurd (le_nI' hnb) h⟩
    rw [Nat.sub_self]; exact ⟨rfl, rfl⟩
  · intro k hk ih
    rw [show nb - k = (nb - (k + 1)) + 1 by omega]
    refine bX2_bellInPlace_2 ⟨fun h => absurd h (le_nI hnb hk (by omega)), fun _ => ⟨k, rfl, by omega, fun h => ?_, fun h => ⟨_, c_countBefore hnb h8 (by omega), fun h2 => ?_, fun h2 => ?_⟩⟩⟩
    · have e : bipB (cBe mm) (cPo mm) nb b pl k = false := decide_eq_false fun z => h z.1
      rw [nI_1]; simpa [nextN, e] using ih
    · have e : bipB (cBe mm) (cPo mm) nb b pl k = false := decide_eq_false fun z => h2 z.2
      rw [nI_1]; simpa [nextN, e] using ih
    · have e : bipB (cBe mm) (cPo mm) nb b pl k = true := decide_eq_true ⟨h, h2⟩
      simp [nextN, e, opI]
theorem c_bellsOn (hnb : mm 4 9 = nI nb) (h8 : nb ≤ 8) (b : Int32) : Ct G M_X2_bellsOn [.ref 31, .int b] (SH, mm, lm) false (.inl (some (.int (orN (fun k => decide (cBe mm k = b)) nb)))) (SH, mm, lm) false 0 0 := by
  refine CJ (bX2_bellsOn_0 ?_)
  refine loop_up (n := nb) (P := fun k => J G M_X2_bellsOn 4 [(0, .ref 31), (1, .int b), (2, .int (orN (fun k => decide (cBe mm k = b)) k)), (3, .int (nI k))] [] (SH, mm, lm) false _ _ false 0 0) ?_ ?_ 0 (Nat.zero_le _)
  · exact bX2_bellsOn_4 ⟨fun _ => ⟨rfl, rfl⟩, fun h => absurd (le_nI' hnb) h⟩
  · intro k hk ih
    refine bX2_bellsOn_4 ⟨fun h => absurd h (le_nI hnb hk (by omega)), fun _ => ⟨k, rfl, by omega, fun h => ?_, fun h => ?_⟩⟩
    · rw [nI_1]; simpa [orN, h] using ih
    · rw [nI_1]; simpa [orN, h] using ih
/-- where the bell is, the set s mirrored -/
def pmF (po : Nat → Int32) (s : Int32) (k : Nat) : Int32 := if (s >>> (nI k &&& 31)) &&& 1 = 0 then po k else -(po k)
theorem c_positionMirrored {j : Nat} (hj : j < 8) (s : Int32) : Ct G M_X2_positionMirrored [.ref 31, .int (nI j), .int s] (SH, mm, lm) false (.inl (some (.int (pmF (cPo mm) s j)))) (SH, mm, lm) false 0 0 := by
  refine CJ (bX2_positionMirrored_0 ⟨fun h => ⟨j, rfl, hj, ?_⟩, fun h => ⟨j, rfl, hj, ?_⟩⟩)
  · rw [pmF, if_pos h]; exact ⟨rfl, rfl⟩
  · rw [pmF, if_neg h]; exact ⟨rfl, rfl⟩
def moM (n : Nat) (be po w : Nat → Int32) (b s : Int32) : Int32 := sumN (fun k => if be k = b then w k * pmF po s k else 0) n
theorem c_momentMirrored (hnb : mm 4 9 = nI nb) (h8 : nb ≤ 8) (b s : Int32) : Ct G M_X2_momentMirrored [.ref 31, .int b, .int s] (SH, mm, lm) false (.inl (some (.int (moM nb (cBe mm) (cPo mm) (mm 7) b s)))) (SH, mm, lm) false 0 0 := by
  refine CJ (bX2_momentMirrored_0 ?_)
  refine loop_up (n := nb) (P := fun k => J G M_X2_momentMirrored 5 [(0, .ref 31), (1, .int b), (2, .int s), (3, .int (moM k (cBe mm) (cPo mm) (mm 7) b s)), (4, .int (nI k))] [] (SH, mm, lm) false _ _ false 0 0) ?_ ?_ 0 (Nat.zero_le _)
  · exact bX2_momentMirrored_5 ⟨fun _ => ⟨rfl, rfl⟩, fun h => absurd (le_nI' hnb) h⟩
  · intro k hk ih
    refine bX2_momentMirrored_5 ⟨fun h => absurd h (le_nI hnb hk (by omega)), fun _ => ⟨k, rfl, by omega, fun h => ?_, fun h => ⟨k, rfl, by omega, _, c_positionMirrored (by omega) s, ?_⟩⟩⟩
    · rw [nI_1]; simpa [moM, sumN, h] using ih
    · rw [nI_1]; simpa [moM, sumN, h] using ih
/-- the bells k and o of the beam are clear, the set s mirrored -/
def cmB (be po rad : Nat → Int32) (b s : Int32) (k o : Nat) : Bool := decide (¬ be k = b ∨ ¬ be o = b ∨ ¬ absI (pmF po s k - pmF po s o) < rad k + rad o)
theorem c_clearMirrored (hnb : mm 4 9 = nI nb) (h8 : nb ≤ 8) (b s : Int32) : Ct G M_X2_clearMirrored [.ref 31, .int b, .int s] (SH, mm, lm) false (.inl (some (.int (bI (allN (fun k => allN (cmB (cBe mm) (cPo mm) (mm 8) b s k) k) nb = true))))) (SH, mm, lm) false 0 0 := by
  refine CJ (bX2_clearMirrored_0 ?_)
  refine loop_up (n := nb) (P := fun k => allN (fun k => allN (cmB (cBe mm) (cPo mm) (mm 8) b s k) k) k = true → J G M_X2_clearMirrored 2 [(0, .ref 31), (1, .int b), (2, .int s), (3, .int (nI k))] [] (SH, mm, lm) false _ _ false 0 0) ?_ ?_ 0 (Nat.zero_le _) rfl
  · exact fun hf => bX2_clearMirrored_2 ⟨fun _ => by rw [bI_t hf]; exact ⟨rfl, rfl⟩, fun h => absurd (le_nI' hnb) h⟩
  · intro k hk ih hf
    refine bX2_clearMirrored_2 ⟨fun h => absurd h (le_nI hnb hk (by omega)), fun _ => ?_⟩
    refine loop_up (n := k) (P := fun o => allN (cmB (cBe mm) (cPo mm) (mm 8) b s k) o = true → J G M_X2_clearMirrored 16 [(0, .ref 31), (1, .int b), (2, .int s), (3, .int (nI k)), (4, .int (nI o))] [] (SH, mm, lm) false _ _ false 0 0) ?_ ?_ 0 (Nat.zero_le _) rfl
    · intro hg
      refine bX2_clearMirrored_16 ⟨fun _ => ?_, fun h => absurd (Int32.le_refl _) h⟩
      rw [nI_1]; exact ih (allN_s hf hg)
    · intro o ho ih2 hg
      refine bX2_clearMirrored_16 ⟨fun h => absurd h (nI_ge ho (by omega)), fun _ => ⟨_, c_positionMirrored (by omega) s, _, c_positionMirrored (by omega) s, k, rfl, by omega, fun h => ?_, fun h => ⟨o, rfl, by omega, fun h2 => ?_, fun h2 => ⟨_, c_keepsClear (by omega) (by omega) _, fun h3 => ?_, fun h3 => ?_⟩⟩⟩⟩
      · rw [nI_1]; exact ih2 (allN_s hg (decide_eq_true (Or.inl h)))
      · rw [nI_1]; exact ih2 (allN_s hg (decide_eq_true (Or.inr (Or.inl h2))))
      · rw [nI_1]; exact ih2 (allN_s hg (decide_eq_true (Or.inr (Or.inr (bI_1.mp h3)))))
      · rw [bI_f (allN_f hk ?_)]
        · exact ⟨rfl, rfl⟩
        · have e : ¬ allN (cmB (cBe mm) (cPo mm) (mm 8) b s k) k = true := allN_f ho (decide_eq_false fun z => by
            rcases z with z | z | z
            · exact z h
            · exact z h2
            · exact bI_0.mp h3 z)
          simpa using e
end Hanging
