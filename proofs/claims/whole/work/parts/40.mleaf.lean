/-! ===== contracts of the reference: leaves, hanging ===== -/
theorem absI_neg (x : Int32) : absI (-x) = absI x := by
  have h1 := fb_rng x
  by_cases hm : x.toInt = -2147483648
  · have : x = -2147483648 := Int32.toInt_inj.mp (by rw [hm]; rfl)
    rw [this]; rfl
  · have hn := fb_negI hm
    unfold absI
    simp only [fa_le, hn, show (0 : Int32).toInt = 0 from rfl]
    rcases (show x.toInt < 0 ∨ x.toInt = 0 ∨ 0 < x.toInt by omega) with h | h | h
    · rw [if_pos (by omega), if_neg (by omega)]
    · have : x = 0 := Int32.toInt_inj.mp (by rw [h]; rfl)
      rw [this]; rfl
    · rw [if_neg (by omega), if_pos (by omega), Int32.neg_neg]
theorem absI_sub (x y : Int32) : absI (x - y) = absI (y - x) := by rw [← absI_neg (y - x), Int32.neg_sub]
/-- which exception: none, no tower, a wrong argument -/
def thrV (ld v : Int32) : Int32 := if ld = 0 then 1 else if v = 0 then 2 else 0
theorem of_ix (k a : Nat) : 10 * nI k + nI a = nI (10 * k + a) := by
  rw [show (10 : Int32) = nI 10 from rfl, nI_mul, nI_add]
section MLeaf
variable {G : Gx} {mm : Nat → Nat → Int32} {lm : Nat → Int64} {nb nw : Nat}
theorem cm_thrown : Ct G M_X10_thrown [.ref 63] (SH, mm, lm) false (.inl (some (.int (mm 63 4)))) (SH, mm, lm) false 0 0 :=
  CJ (bX10_thrown_0 ⟨rfl, rfl⟩)
theorem cm_size (x : Int32) : Ct G M_X10_size [.int x] (SH, mm, lm) false (.inl (some (.int (absI x)))) (SH, mm, lm) false 0 0 := by
  refine CJ (bX10_size_0 ⟨fun h => ?_, fun h => ?_⟩) <;> simp [absI, h]
theorem cm_isIn (x l h : Int64) : Ct G M_X10_isIn [.long x, .long l, .long h] (SH, mm, lm) false (.inl (some (.int (bI (l ≤ x ∧ x ≤ h))))) (SH, mm, lm) false 0 0 := by
  refine CJ (bX10_isIn_0 ⟨fun q => ?_, fun q => ⟨fun q2 => ?_, fun q2 => ?_⟩⟩)
  · rw [bI_f (fun z => absurd ((lg_cmp_lt _ _).mp q) (Int64.not_lt.mpr z.1))]; exact ⟨rfl, rfl⟩
  · rw [bI_f (fun z => absurd ((lg_cmp_gt _ _).mp q2) (Int64.not_lt.mpr z.2))]; exact ⟨rfl, rfl⟩
  · rw [bI_t ⟨Int64.not_lt.mp (fun z => q ((lg_cmp_lt _ _).mpr z)), Int64.not_lt.mp (fun z => q2 ((lg_cmp_gt _ _).mpr z))⟩]; exact ⟨rfl, rfl⟩
theorem cm_in {x l g : Int32} {l' g' : Int64} (hl : l' = l.toInt64) (hg : g' = g.toInt64) : Ct G M_X10_isIn [.long x.toInt64, .long l', .long g'] (SH, mm, lm) false (.inl (some (.int (bI (inR l g x))))) (SH, mm, lm) false 0 0 := by
  have e := cm_isIn (G := G) (mm := mm) (lm := lm) x.toInt64 l' g'
  rwa [bI_congr (q := inR l g x) (by rw [hl, hg, fa_wide_le, fa_wide_le]; exact ⟨fun z => ⟨Int32.not_lt.mpr z.1, z.2⟩, fun z => ⟨Int32.not_lt.mp z.1, z.2⟩⟩)] at e
theorem cm_has (s k : Int32) : Ct G M_X10_has [.int s, .int k] (SH, mm, lm) false (.inl (some (.int (bI ((s >>> (k &&& 31)) &&& 1 = 1))))) (SH, mm, lm) false 0 0 := by
  refine CJ (bX10_has_0 ⟨fun h => ?_, fun h => ?_⟩)
  · rw [bI_f h]; exact ⟨rfl, rfl⟩
  · rw [bI_t h]; exact ⟨rfl, rfl⟩
theorem cm_isWrong (v : Int32) : Ct G M_X10_isWrong [.ref 63, .int v] (SH, mm, lm) false (.inl (some (.int (bI (0 < thrV (mm 63 3) v))))) (SH, mset mm 63 4 (thrV (mm 63 3) v), lm) false 0 0 := by
  refine CJ (bX10_isWrong_0 ⟨fun h => ⟨fun h2 => ?_, fun h2 => ?_⟩, fun h => ?_⟩)
  · rw [thrV, if_neg h, if_pos h2]
    exact ⟨fun q => absurd q (by rw [mset_eq]; decide), fun _ => ⟨rfl, rfl⟩⟩
  · rw [thrV, if_neg h, if_neg h2]
    exact ⟨fun _ => ⟨rfl, rfl⟩, fun q => absurd (by rw [mset_eq]; exact Int32.le_refl _) q⟩
  · rw [thrV, if_pos h]
    exact ⟨fun q => absurd q (by rw [mset_eq]; decide), fun _ => ⟨rfl, rfl⟩⟩
theorem cm_of {k a : Nat} {y : Int32} (hk : k < 8) (hy : y = nI a) (ha : a < 10) : Ct G M_X10_of [.ref 63, .int (nI k), .int y] (SH, mm, lm) false (.inl (some (.int (mm 64 (10 * k + a))))) (SH, mm, lm) false 0 0 := by
  subst hy
  exact CJ (bX10_of_0 ⟨10 * k + a, of_ix k a, by omega, rfl, rfl⟩)
theorem cm_set {k a : Nat} {y v : Int32} (hk : k < 8) (hy : y = nI a) (ha : a < 10) : Ct G M_X10_set [.ref 63, .int (nI k), .int y, .int v] (SH, mm, lm) false (.inl none) (SH, mset mm 64 (10 * k + a) v, lm) false 0 0 := by
  subst hy
  exact CJ (bX10_set_0 ⟨10 * k + a, of_ix k a, by omega, rfl, rfl⟩)
theorem cm_isBell (x : Int32) : Ct G M_X10_isBell [.ref 63, .int x] (SH, mm, lm) false (.inl (some (.int (bI (inR 0 (mm 63 8 - 1) x))))) (SH, mm, lm) false 0 0 :=
  CJ (bX10_isBell_0 ⟨_, cm_in rfl rfl, bI_b, rfl, rfl⟩)
theorem cm_isBeam (x : Int32) : Ct G M_X10_isBeam [.ref 63, .int x] (SH, mm, lm) false (.inl (some (.int (bI (inR 0 (mm 63 5 - 1) x))))) (SH, mm, lm) false 0 0 :=
  CJ (bX10_isBeam_0 ⟨_, cm_in rfl rfl, bI_b, rfl, rfl⟩)
theorem cm_isPosition (x : Int32) : Ct G M_X10_isPosition [.int x] (SH, mm, lm) false (.inl (some (.int (bI (inR (-15) 15 x))))) (SH, mm, lm) false 0 0 :=
  CJ (bX10_isPosition_0 ⟨_, cm_in rfl rfl, bI_b, rfl, rfl⟩)
theorem cm_hangs {k : Nat} (hk : k < 8) : Ct G M_X10_hangs [.ref 63, .int (nI k)] (SH, mm, lm) false (.inl (some (.int (bI (¬ mm 64 (10 * k + 0) < 0))))) (SH, mm, lm) false 0 0 := by
  refine CJ (bX10_hangs_0 ⟨_, cm_of hk (a := 0) rfl (by decide), fun h => ?_, fun h => ?_⟩)
  · rw [bI_f (not_not_intro h)]; exact ⟨rfl, rfl⟩
  · rw [bI_t h]; exact ⟨rfl, rfl⟩
theorem cm_swings {k : Nat} (hk : k < 8) : Ct G M_X10_swings [.ref 63, .int (nI k)] (SH, mm, lm) false (.inl (some (.int (bI (¬ mm 64 (10 * k + 5) < 0))))) (SH, mm, lm) false 0 0 := by
  refine CJ (bX10_swings_0 ⟨_, cm_of hk (a := 5) rfl (by decide), fun h => ?_, fun h => ?_⟩)
  · rw [bI_f (not_not_intro h)]; exact ⟨rfl, rfl⟩
  · rw [bI_t h]; exact ⟨rfl, rfl⟩
theorem cm_chimes {k : Nat} (hk : k < 8) : Ct G M_X10_chimes [.ref 63, .int (nI k)] (SH, mm, lm) false (.inl (some (.int (bI (¬ mm 64 (10 * k + 7) < 0))))) (SH, mm, lm) false 0 0 := by
  refine CJ (bX10_chimes_0 ⟨_, cm_of hk (a := 7) rfl (by decide), fun h => ?_, fun h => ?_⟩)
  · rw [bI_f (not_not_intro h)]; exact ⟨rfl, rfl⟩
  · rw [bI_t h]; exact ⟨rfl, rfl⟩
abbrev mBe (mm : Nat → Nat → Int32) : Nat → Int32 := fun k => mm 64 (10 * k + 0)
abbrev mPo (mm : Nat → Nat → Int32) : Nat → Int32 := fun k => mm 64 (10 * k + 1)
theorem cm_bellsOn (hnb : mm 63 8 = nI nb) (h8 : nb ≤ 8) (b : Int32) : Ct G M_X10_bellsOn [.ref 63, .int b] (SH, mm, lm) false (.inl (some (.int (nI (cntN (fun k => decide (mBe mm k = b)) nb))))) (SH, mm, lm) false 0 0 := by
  refine CJ (bX10_bellsOn_0 ?_)
  refine loop_up (n := nb) (P := fun k => J G M_X10_bellsOn 4 [(0, .ref 63), (1, .int b), (2, .int (nI (cntN (fun k => decide (mBe mm k = b)) k))), (3, .int (nI k))] [] (SH, mm, lm) false _ _ false 0 0) ?_ ?_ 0 (Nat.zero_le _)
  · exact bX10_bellsOn_4 ⟨fun _ => ⟨rfl, rfl⟩, fun h => absurd (le_nI' hnb) h⟩
  · intro k hk ih
    refine bX10_bellsOn_4 ⟨fun h => absurd h (le_nI hnb hk (by omega)), fun _ => ⟨_, cm_of (by omega) (a := 0) rfl (by decide), fun h => ?_, fun h => ?_⟩⟩
    · rw [nI_1, Int32.add_zero]; simpa [cntN, h] using ih
    · rw [nI_1, nI_1]; simpa [cntN, h] using ih
theorem cm_pull (hnb : mm 63 8 = nI nb) (h8 : nb ≤ 8) (b : Int32) : Ct G M_X10_pull [.ref 63, .int b] (SH, mm, lm) false (.inl (some (.int (mo nb (mBe mm) (mPo mm) (mm 68) b (fun _ => false))))) (SH, mm, lm) false 0 0 := by
  refine CJ (bX10_pull_0 ?_)
  refine loop_up (n := nb) (P := fun k => J G M_X10_pull 4 [(0, .ref 63), (1, .int b), (2, .int (mo k (mBe mm) (mPo mm) (mm 68) b (fun _ => false))), (3, .int (nI k))] [] (SH, mm, lm) false _ _ false 0 0) ?_ ?_ 0 (Nat.zero_le _)
  · exact bX10_pull_4 ⟨fun _ => ⟨rfl, rfl⟩, fun h => absurd (le_nI' hnb) h⟩
  · intro k hk ih
    refine bX10_pull_4 ⟨fun h => absurd h (le_nI hnb hk (by omega)), fun _ => ⟨_, cm_of (by omega) (a := 0) rfl (by decide), fun h => ?_, fun h => ⟨k, rfl, by omega, _, cm_of (by omega) (a := 1) rfl (by decide), ?_⟩⟩⟩
    · rw [nI_1]; simpa [mo, sumN, h] using ih
    · rw [nI_1]; simpa [mo, sumN, h] using ih
theorem cm_isClear (hnb : mm 63 8 = nI nb) (h8 : nb ≤ 8) {j : Nat} (hj : j < 8) (b x : Int32) : Ct G M_X10_isClear [.ref 63, .int (nI j), .int b, .int x] (SH, mm, lm) false (.inl (some (.int (bI (allN (fitB (mBe mm) (mPo mm) (mm 69) j b x) nb = true))))) (SH, mm, lm) false 0 0 := by
  refine CJ (bX10_isClear_0 ?_)
  refine loop_up (n := nb) (P := fun k => allN (fitB (mBe mm) (mPo mm) (mm 69) j b x) k = true → J G M_X10_isClear 3 [(0, .ref 63), (1, .int (nI j)), (2, .int b), (3, .int x), (4, .int (nI k))] [] (SH, mm, lm) false _ _ false 0 0) ?_ ?_ 0 (Nat.zero_le _) rfl
  · exact fun hf => bX10_isClear_3 ⟨fun _ => by rw [bI_t hf]; exact ⟨rfl, rfl⟩, fun h => absurd (le_nI' hnb) h⟩
  · intro k hk ih hf
    have hs : absI (mPo mm k - x) = absI (x - mPo mm k) := absI_sub _ _
    refine bX10_isClear_3 ⟨fun h => absurd h (le_nI hnb hk (by omega)), fun _ => ⟨fun h => ?_, fun h => ⟨_, cm_of (by omega) (a := 0) rfl (by decide), fun h2 => ?_, fun h2 => ⟨_, cm_of (by omega) (a := 1) rfl (by decide), _, cm_size _, k, rfl, by omega, j, rfl, hj, fun h3 => ?_, fun h3 => ?_⟩⟩⟩⟩
    · rw [nI_1]; exact ih (allN_s hf (decide_eq_true (Or.inl ((nI_inj8 (by omega) (by omega)).mp h))))
    · rw [nI_1]; exact ih (allN_s hf (decide_eq_true (Or.inr (Or.inl h2))))
    · rw [nI_1]; exact ih (allN_s hf (decide_eq_true (Or.inr (Or.inr (by rw [← hs, Int32.add_comm]; exact Int32.not_lt.mpr h3)))))
    · have e : fitB (mBe mm) (mPo mm) (mm 69) j b x k = false := by
        refine decide_eq_false ?_
        rintro (z | z | z)
        · exact h (by rw [z])
        · exact z h2
        · rw [← hs, Int32.add_comm] at z
          exact h3 (Int32.not_lt.mp z)
      rw [bI_f (allN_f hk e)]; exact ⟨rfl, rfl⟩
theorem cm_isBalanced {i : Nat} (hi : i < 4) (x : Int32) : Ct G M_X10_isBalanced [.ref 63, .int (nI i), .int x] (SH, mm, lm) false (.inl (some (.int (bI (¬ mm 67 i < absI x))))) (SH, mm, lm) false 0 0 := by
  refine CJ (bX10_isBalanced_0 ⟨_, cm_size x, i, rfl, hi, fun h => ?_, fun h => ?_⟩)
  · rw [bI_f (not_not_intro h)]; exact ⟨rfl, rfl⟩
  · rw [bI_t h]; exact ⟨rfl, rfl⟩
/-- the torque with the bell j, that hangs nowhere, at x -/
abbrev puW (n : Nat) (be po w : Nat → Int32) (j : Nat) (b x : Int32) : Int32 := mo n be po w b (fun _ => false) + w j * x
theorem cm_canHang (hnb : mm 63 8 = nI nb) (h8 : nb ≤ 8) {j i : Nat} (hj : j < 8) (hi : i < 4) (x : Int32) : Ct G M_X10_canHang [.ref 63, .int (nI j), .int (nI i), .int x] (SH, mm, lm) false (.inl (some (.int (bI (allN (fitB (mBe mm) (mPo mm) (mm 69) j (nI i) x) nb = true ∧ ¬ mm 67 i < absI (puW nb (mBe mm) (mPo mm) (mm 68) j (nI i) x)))))) (SH, mm, lm) false 0 0 := by
  refine CJ (bX10_canHang_0 ⟨_, cm_isClear hnb h8 hj _ x, fun h => ?_, fun h => ⟨_, cm_pull hnb h8 _, j, rfl, hj, _, cm_isBalanced hi _, fun h2 => ?_, fun h2 => ?_⟩⟩)
  · rw [bI_f (fun z => bI_0.mp h z.1)]; exact ⟨rfl, rfl⟩
  · rw [bI_f (fun z => bI_0.mp h2 z.2)]; exact ⟨rfl, rfl⟩
  · rw [bI_t ⟨bI_1.mp h, bI_1.mp h2⟩]; exact ⟨rfl, rfl⟩
theorem cm_plans (hnb : mm 63 8 = nI nb) (h8 : nb ≤ 8) : Ct G M_X10_plans [.ref 63] (SH, mm, lm) false (.inl (some (.int (nI (cntN (fun k => decide (¬ mm 64 (10 * k + 2) < 0)) nb))))) (SH, mm, lm) false 0 0 := by
  refine CJ (bX10_plans_0 ?_)
  refine loop_up (n := nb) (P := fun k => J G M_X10_plans 4 [(0, .ref 63), (1, .int (nI (cntN (fun k => decide (¬ mm 64 (10 * k + 2) < 0)) k))), (2, .int (nI k))] [] (SH, mm, lm) false _ _ false 0 0) ?_ ?_ 0 (Nat.zero_le _)
  · exact bX10_plans_4 ⟨fun _ => ⟨rfl, rfl⟩, fun h => absurd (le_nI' hnb) h⟩
  · intro k hk ih
    refine bX10_plans_4 ⟨fun h => absurd h (le_nI hnb hk (by omega)), fun _ => ⟨_, cm_of (by omega) (a := 2) rfl (by decide), fun h => ?_, fun h => ?_⟩⟩
    · have e : decide (¬ mm 64 (10 * k + 2) < 0) = false := decide_eq_false (not_not_intro h)
      rw [cntN_f (p := fun k => decide (¬ mm 64 (10 * k + 2) < 0)) e] at ih
      rw [nI_1, Int32.add_zero]; exact ih
    · have e : decide (¬ mm 64 (10 * k + 2) < 0) = true := decide_eq_true h
      rw [cntN_t (p := fun k => decide (¬ mm 64 (10 * k + 2) < 0)) e] at ih
      rw [nI_1, nI_1]; exact ih
theorem cm_swinging (hnb : mm 63 8 = nI nb) (h8 : nb ≤ 8) : Ct G M_X10_swinging [.ref 63] (SH, mm, lm) false (.inl (some (.int (nI (cntN (fun k => decide (¬ mm 64 (10 * k + 5) < 0)) nb))))) (SH, mm, lm) false 0 0 := by
  refine CJ (bX10_swinging_0 ?_)
  refine loop_up (n := nb) (P := fun k => J G M_X10_swinging 4 [(0, .ref 63), (1, .int (nI (cntN (fun k => decide (¬ mm 64 (10 * k + 5) < 0)) k))), (2, .int (nI k))] [] (SH, mm, lm) false _ _ false 0 0) ?_ ?_ 0 (Nat.zero_le _)
  · exact bX10_swinging_4 ⟨fun _ => ⟨rfl, rfl⟩, fun h => absurd (le_nI' hnb) h⟩
  · intro k hk ih
    refine bX10_swinging_4 ⟨fun h => absurd h (le_nI hnb hk (by omega)), fun _ => ⟨_, cm_swings (by omega), fun h => ?_, fun h => ?_⟩⟩
    · have e : decide (¬ mm 64 (10 * k + 5) < 0) = false := decide_eq_false (bI_0.mp h)
      rw [cntN_f (p := fun k => decide (¬ mm 64 (10 * k + 5) < 0)) e] at ih
      rw [nI_1, Int32.add_zero]; exact ih
    · have e : decide (¬ mm 64 (10 * k + 5) < 0) = true := decide_eq_true (bI_1.mp h)
      rw [cntN_t (p := fun k => decide (¬ mm 64 (10 * k + 5) < 0)) e] at ih
      rw [nI_1, nI_1]; exact ih
/-- the bits of x are counted so often as it has them -/
def cbF : Nat → Int32 → Int32 → Int32
  | 0, _, n => n
  | d + 1, x, n => if x = 0 then n else cbF d (x &&& (x - 1)) (n + 1)
def cbZ : Nat → Int32 → Bool
  | 0, x => decide (x = 0)
  | d + 1, x => decide (x = 0) || cbZ d (x &&& (x - 1))
theorem cb_ok : ∀ n, n < 256 → cbZ 8 (nI n) = true ∧ cbF 8 (nI n) 0 = bcF (nI n) := by decide +kernel
theorem cm_count {n : Nat} (hn : n < 256) : Ct G M_X10_count [.int (nI n)] (SH, mm, lm) false (.inl (some (.int (bcF (nI n))))) (SH, mm, lm) false 0 0 := by
  have key : ∀ d x c, cbZ d x = true → J G M_X10_count 4 [(1, .int c), (2, .int x)] [] (SH, mm, lm) false (.inl (some (.int (cbF d x c)))) (SH, mm, lm) false 0 0 := by
    intro d
    induction d with
    | zero =>
      intro x c h
      exact bX10_count_4 ⟨fun _ => ⟨rfl, rfl⟩, fun h2 => absurd (of_decide_eq_true h) h2⟩
    | succ d ih =>
      intro x c h
      by_cases hx : x = 0
      · refine bX10_count_4 ⟨fun _ => ?_, fun h2 => absurd hx h2⟩
        rw [cbF, if_pos hx]; exact ⟨rfl, rfl⟩
      · refine bX10_count_4 ⟨fun h2 => absurd h2 hx, fun _ => ?_⟩
        rw [cbF, if_neg hx]
        exact ih _ _ (by simpa [cbZ, hx] using h)
  have h := cb_ok n hn
  have := key 8 (nI n) 0 h.1
  rw [h.2] at this
  exact CJ (bX10_count_0 this)
theorem and1 (x : Int32) : x &&& 1 = 0 ∨ x &&& 1 = 1 := by
  have h : (x &&& 1).toBitVec.toNat ≤ 1 := by
    show (x.toBitVec &&& (1 : Int32).toBitVec).toNat ≤ 1
    rw [BitVec.toNat_and]
    exact Nat.le_trans Nat.and_le_right (by decide)
  have e : (x &&& 1).toInt = ((x &&& 1).toBitVec.toNat : Int) := BitVec.toInt_eq_toNat_of_lt (by omega)
  rcases (show (x &&& 1).toBitVec.toNat = 0 ∨ (x &&& 1).toBitVec.toNat = 1 by omega) with h2 | h2
  · left; apply Int32.toInt_inj.mp; rw [e, h2]; rfl
  · right; apply Int32.toInt_inj.mp; rw [e, h2]; rfl
theorem pmF_has {po : Nat → Int32} {s : Int32} {k : Nat} : pmF po s k = if (s >>> (nI k &&& 31)) &&& 1 = 1 then -(po k) else po k := by
  unfold pmF
  rcases and1 (s >>> (nI k &&& 31)) with h | h
  · rw [if_pos h, if_neg (by rw [h]; decide)]
  · rw [if_neg (by rw [h]; decide), if_pos h]
/-- the mirrored torque where all is clear; something else where it isn't -/
theorem cm_isMirrorClear (hnb : mm 63 8 = nI nb) (h8 : nb ≤ 8) (b s : Int32) : ∃ mm', (∀ c j, ¬ (c = 63 ∧ j = 31) → mm' c j = mm c j) ∧ (allN (fun k => allN (cmB (mBe mm) (mPo mm) (mm 69) b s k) k) nb = true → mm' 63 31 = moM nb (mBe mm) (mPo mm) (mm 68) b s) ∧ Ct G M_X10_isMirrorClear [.ref 63, .int b, .int s] (SH, mm, lm) false (.inl (some (.int (bI (allN (fun k => allN (cmB (mBe mm) (mPo mm) (mm 69) b s k) k) nb = true))))) (SH, mm', lm) false 0 0 := by
  have key := loop_up (n := nb) (P := fun k => ∀ m, (∀ c j, ¬ (c = 63 ∧ j = 31) → m c j = mm c j) → m 63 31 = moM k (mBe mm) (mPo mm) (mm 68) b s → allN (fun k => allN (cmB (mBe mm) (mPo mm) (mm 69) b s k) k) k = true → ∃ mm', (∀ c j, ¬ (c = 63 ∧ j = 31) → mm' c j = mm c j) ∧ (allN (fun k => allN (cmB (mBe mm) (mPo mm) (mm 69) b s k) k) nb = true → mm' 63 31 = moM nb (mBe mm) (mPo mm) (mm 68) b s) ∧ J G M_X10_isMirrorClear 7 [(0, .ref 63), (1, .int b), (2, .int s), (3, .int (nI k))] [] (SH, m, lm) false (.inl (some (.int (bI (allN (fun k => allN (cmB (mBe mm) (mPo mm) (mm 69) b s k) k) nb = true))))) (SH, mm', lm) false 0 0) ?_ ?_ 0 (Nat.zero_le _) (mset mm 63 31 0) (fun c j h => mset_ne2 h) mset_eq rfl
  · obtain ⟨mm', h1, h2, h3⟩ := key
    exact ⟨mm', h1, h2, CJ (bX10_isMirrorClear_0 h3)⟩
  · intro m hm hs ha
    exact ⟨m, hm, fun _ => hs, bX10_isMirrorClear_7 ⟨fun _ => by rw [bI_t ha]; exact ⟨rfl, rfl⟩, fun h => absurd (le_nI' ((hm 63 8 (by omega)).trans hnb)) h⟩⟩
  · intro k hk ih m hm hs ha
    have hnb' : m 63 8 = nI nb := (hm 63 8 (by omega)).trans hnb
    by_cases hb : mBe mm k = b
    · -- the inner loop, over the world behind the sum
      have hm2 : ∀ c j, ¬ (c = 63 ∧ j = 31) → mset m 63 31 (m 63 31 + m 68 k * pmF (mPo mm) s k) c j = mm c j := fun c j h => by rw [mset_ne2 h]; exact hm c j h
      have hs2 : mset m 63 31 (m 63 31 + m 68 k * pmF (mPo mm) s k) 63 31 = moM (k + 1) (mBe mm) (mPo mm) (mm 68) b s := by
        rw [mset_eq, hs, hm 68 k (by omega)]
        simp only [moM, sumN, if_pos hb]
      generalize hM : mset m 63 31 (m 63 31 + m 68 k * pmF (mPo mm) s k) = M at hm2 hs2
      have hnbM : M 63 8 = nI nb := (hm2 63 8 (by omega)).trans hnb
      have inner := loop_up (n := k) (P := fun o => allN (cmB (mBe mm) (mPo mm) (mm 69) b s k) o = true → ∃ mm', (∀ c j, ¬ (c = 63 ∧ j = 31) → mm' c j = mm c j) ∧ (allN (fun k => allN (cmB (mBe mm) (mPo mm) (mm 69) b s k) k) nb = true → mm' 63 31 = moM nb (mBe mm) (mPo mm) (mm 68) b s) ∧ J G M_X10_isMirrorClear 75 [(0, .ref 63), (1, .int b), (2, .int s), (3, .int (nI k)), (4, .int (pmF (mPo mm) s k)), (5, .int (nI o))] [] (SH, M, lm) false (.inl (some (.int (bI (allN (fun k => allN (cmB (mBe mm) (mPo mm) (mm 69) b s k) k) nb = true))))) (SH, mm', lm) false 0 0) ?_ ?_ 0 (Nat.zero_le _) rfl
      · obtain ⟨mm', h1, h2, h3⟩ := inner
        have co := cm_of (G := G) (mm := m) (lm := lm) (k := k) (by omega) (a := 0) (y := 0) rfl (by decide)
        have cp := cm_of (G := G) (mm := m) (lm := lm) (k := k) (by omega) (a := 1) (y := 1) rfl (by decide)
        rw [hm 64 _ (by omega)] at co cp
        refine ⟨mm', h1, h2, bX10_isMirrorClear_7 ⟨fun h => absurd h (le_nI hnb' hk (by omega)), fun _ => ⟨_, co, fun _ => ⟨_, cm_has _ _, fun h4 => ⟨_, cp, k, rfl, by omega, ?_⟩, fun h4 => ⟨_, cp, k, rfl, by omega, ?_⟩⟩, fun h => absurd hb h⟩⟩⟩
        · have e : pmF (mPo mm) s k = mm 64 (10 * k + 1) := by rw [pmF_has, if_neg (bI_0.mp h4)]
          rw [e] at hM h3; rw [hM]; exact h3
        · have e : pmF (mPo mm) s k = -(mm 64 (10 * k + 1)) := by rw [pmF_has, if_pos (bI_1.mp h4)]
          rw [e] at hM h3; rw [hM]; exact h3
      · intro hg
        obtain ⟨mm', h1, h2, h3⟩ := ih M hm2 hs2 (allN_s ha hg)
        refine ⟨mm', h1, h2, bX10_isMirrorClear_75 ⟨fun _ => ?_, fun h => absurd (Int32.le_refl _) h⟩⟩
        rw [nI_1]; exact h3
      · intro o ho ih2 hg
        have co := cm_of (G := G) (mm := M) (lm := lm) (k := o) (by omega) (a := 0) (y := 0) rfl (by decide)
        have cp := cm_of (G := G) (mm := M) (lm := lm) (k := o) (by omega) (a := 1) (y := 1) rfl (by decide)
        rw [hm2 64 _ (by omega)] at co cp
        have e69 : ∀ i, M 69 i = mm 69 i := fun i => hm2 69 i (by omega)
        by_cases hc : cmB (mBe mm) (mPo mm) (mm 69) b s k o = true
        · obtain ⟨mm', h1, h2, h3⟩ := ih2 (allN_s hg hc)
          have hc2 := of_decide_eq_true hc
          refine ⟨mm', h1, h2, bX10_isMirrorClear_75 ⟨fun h => absurd h (nI_ge ho (by omega)), fun _ => ⟨_, cm_has _ _, fun h4 => ⟨_, cp, _, co, fun _ => ?_, fun h5 => ⟨_, cm_size _, k, rfl, by omega, o, rfl, by omega, fun _ => ?_, fun h6 => ?_⟩⟩, fun h4 => ⟨_, cp, _, co, fun _ => ?_, fun h5 => ⟨_, cm_size _, k, rfl, by omega, o, rfl, by omega, fun _ => ?_, fun h6 => ?_⟩⟩⟩⟩⟩
          · rw [nI_1]; exact h3
          · rw [nI_1]; exact h3
          · have e : pmF (mPo mm) s o = mm 64 (10 * o + 1) := by rw [pmF_has, if_neg (bI_0.mp h4)]
            rw [e69, e69, ← e] at h6
            rcases hc2 with z | z | z
            · exact absurd hb z
            · exact absurd h5 z
            · exact absurd (Int32.not_lt.mp z) h6
          · rw [nI_1]; exact h3
          · rw [nI_1]; exact h3
          · have e : pmF (mPo mm) s o = -(mm 64 (10 * o + 1)) := by rw [pmF_has, if_pos (bI_1.mp h4)]
            rw [e69, e69, ← e] at h6
            rcases hc2 with z | z | z
            · exact absurd hb z
            · exact absurd h5 z
            · exact absurd (Int32.not_lt.mp z) h6
        · have hf : ¬ allN (fun k => allN (cmB (mBe mm) (mPo mm) (mm 69) b s k) k) nb = true := allN_f hk (by simpa using allN_f ho (Bool.eq_false_iff.mpr hc))
          have hc2 : ¬ (¬ mBe mm k = b ∨ ¬ mBe mm o = b ∨ ¬ absI (pmF (mPo mm) s k - pmF (mPo mm) s o) < mm 69 k + mm 69 o) := fun z => hc (decide_eq_true z)
          have hob : mBe mm o = b := Decidable.not_not.mp fun z => hc2 (Or.inr (Or.inl z))
          have hlt : absI (pmF (mPo mm) s k - pmF (mPo mm) s o) < mm 69 k + mm 69 o := Decidable.not_not.mp fun z => hc2 (Or.inr (Or.inr z))
          refine ⟨M, hm2, fun z => absurd z hf, bX10_isMirrorClear_75 ⟨fun h => absurd h (nI_ge ho (by omega)), fun _ => ⟨_, cm_has _ _, fun h4 => ⟨_, cp, _, co, fun h5 => absurd hob h5, fun h5 => ⟨_, cm_size _, k, rfl, by omega, o, rfl, by omega, fun h6 => ?_, fun _ => ?_⟩⟩, fun h4 => ⟨_, cp, _, co, fun h5 => absurd hob h5, fun h5 => ⟨_, cm_size _, k, rfl, by omega, o, rfl, by omega, fun h6 => ?_, fun _ => ?_⟩⟩⟩⟩⟩
          · have e : pmF (mPo mm) s o = mm 64 (10 * o + 1) := by rw [pmF_has, if_neg (bI_0.mp h4)]
            rw [e69, e69, ← e] at h6
            exact absurd hlt (Int32.not_lt.mpr h6)
          · rw [bI_f hf]; exact ⟨rfl, rfl⟩
          · have e : pmF (mPo mm) s o = -(mm 64 (10 * o + 1)) := by rw [pmF_has, if_pos (bI_1.mp h4)]
            rw [e69, e69, ← e] at h6
            exact absurd hlt (Int32.not_lt.mpr h6)
          · rw [bI_f hf]; exact ⟨rfl, rfl⟩
    · have hrow : allN (cmB (mBe mm) (mPo mm) (mm 69) b s k) k = true := allN_iff.mpr fun o ho => decide_eq_true (Or.inl hb)
      obtain ⟨mm', h1, h2, h3⟩ := ih m hm (by rw [hs]; simp only [moM, sumN, if_neg hb, Int32.add_zero]) (allN_s ha hrow)
      have co := cm_of (G := G) (mm := m) (lm := lm) (k := k) (by omega) (a := 0) (y := 0) rfl (by decide)
      rw [hm 64 _ (by omega)] at co
      refine ⟨mm', h1, h2, bX10_isMirrorClear_7 ⟨fun h => absurd h (le_nI hnb' hk (by omega)), fun _ => ⟨_, co, fun h => absurd h hb, fun _ => ?_⟩⟩⟩
      rw [nI_1]; exact h3
end MLeaf
