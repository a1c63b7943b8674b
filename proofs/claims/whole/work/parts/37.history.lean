/-! ===== contracts: the latest actions; checks ===== -/
/-- the bell's state r in the place of q -/
def cpB (mm : Nat → Nat → Int32) (q r : Nat) : Nat → Nat → Int32 := fun a b => if a = q ∧ b < 8 then mm r b else mm a b
theorem cpB_ne {mm : Nat → Nat → Int32} {q r a : Nat} (h : a ≠ q) : cpB mm q r a = mm a := by funext b; simp [cpB, h]
theorem cpB_at {mm : Nat → Nat → Int32} {q r b : Nat} (h : b < 8) : cpB mm q r q b = mm r b := by simp [cpB, h]
section History
variable {G : Gx} {mm : Nat → Nat → Int32} {lm : Nat → Int64} {nb : Nat}
set_option maxHeartbeats 1000000 in
theorem c_copyFrom {q r : Nat} (hq : SH[q]? = some (.inl (0, bsl))) (hr : SH[r]? = some (.inl (0, bsl))) (hne : r ≠ q) : Ct G M_X0_copyFrom [.ref q, .ref r] (SH, mm, lm) false (.inl none) (SH, cpB mm q r, lm) false 0 0 := by
  refine CJ (bX0_copyFrom_0 hq hr ⟨rfl, ?_⟩)
  refine congrArg (fun m => ((SH, m, lm) : Wd)) ?_
  have e : ∀ (m : Nat → Nat → Int32) (j : Nat) (v : Int32) (i : Nat), mset m q j v r i = m r i := fun m j v i => by rw [mset_ne hne]
  simp only [e]
  funext a b
  by_cases ha : a = q
  · subst ha
    match b with
    | 0 => simp [cpB, mset]
    | 1 => simp [cpB, mset]
    | 2 => simp [cpB, mset]
    | 3 => simp [cpB, mset]
    | 4 => simp [cpB, mset]
    | 5 => simp [cpB, mset]
    | 6 => simp [cpB, mset]
    | 7 => simp [cpB, mset]
    | n + 8 =>
      have h8 : ¬ n + 8 < 8 := by omega
      simp [cpB, mset, h8]
  · simp [cpB, mset, ha]
theorem c_forgetAll : Ct G M_X3_forgetAll [.ref 48] (SH, mm, lm) false (.inl none) (SH, mset (mset mm 48 2 0) 48 3 0, lm) false 0 0 := CJ (bX3_forgetAll_0 ⟨rfl, rfl⟩)
theorem rem12 {a : Nat} (h : a < 2 ^ 31) : nI a - nI a / 12 * 12 = nI (a % 12) := by
  rw [show (12 : Int32) = nI 12 from rfl]; exact pk_rem h (by omega) (by omega)
theorem b51_ne {s j : Nat} (hj : j < 8) : 23 + j ≠ 51 + s := by omega
theorem c_push {o0 sz j : Nat} (ho : mm 48 2 = nI o0) (hs : mm 48 3 = nI sz) (ho2 : o0 < 12) (hs2 : sz ≤ 12) (hj : j < 8) : ∃ mm', (∀ c, c ≠ 48 → c ≠ 49 → c ≠ 51 + (o0 + sz) % 12 → mm' c = mm c) ∧ mm' 48 2 = nI (if sz = 12 then (o0 + 1) % 12 else o0) ∧ mm' 48 3 = nI (if sz = 12 then 12 else sz + 1) ∧ (∀ i, mm' 49 i = if i = (o0 + sz) % 12 then nI j else mm 49 i) ∧ (∀ b, b < 8 → mm' (51 + (o0 + sz) % 12) b = mm (23 + j) b) ∧
    Ct G M_X3_push [.ref 48, .int (nI j), .ref (23 + j)] (SH, mm, lm) false (.inl none) (SH, mm', lm) false 0 0 := by
  have hsl : (o0 + sz) % 12 < 12 := Nat.mod_lt _ (by omega)
  by_cases h12 : sz = 12
  · subst h12
    have hslot : (o0 + 12) % 12 = o0 := by omega
    rw [hslot]
    -- the world ahead of the copy
    obtain ⟨m1, hm1⟩ : ∃ m1, m1 = mset (mset mm 48 2 (nI ((o0 + 1) % 12))) 48 3 (nI 11) := ⟨_, rfl⟩
    have hA : ∀ c, c ≠ 48 → m1 c = mm c := fun c hc => by rw [hm1, mset_ne hc, mset_ne hc]
    have hB : m1 48 2 = nI ((o0 + 1) % 12) := by rw [hm1, mset_ne2 (fun z => by omega), mset_eq]
    have hC : m1 48 3 = nI 11 := by rw [hm1, mset_eq]
    have e2 : mset mm 48 2 ((mm 48 2 + 1) - (mm 48 2 + 1) / 12 * 12) = mset mm 48 2 (nI ((o0 + 1) % 12)) := by rw [ho, nI_1, rem12 (by omega)]
    have e3 : mset (mset mm 48 2 ((mm 48 2 + 1) - (mm 48 2 + 1) / 12 * 12)) 48 3 ((mset mm 48 2 ((mm 48 2 + 1) - (mm 48 2 + 1) / 12 * 12)) 48 3 - 1) = m1 := by
      rw [e2, mset_ne2 (fun z => by omega), hs, hm1]; rfl
    have es : (m1 48 2 + m1 48 3) - (m1 48 2 + m1 48 3) / 12 * 12 = nI o0 := by
      rw [hB, hC, nI_add, rem12 (by omega)]; congr 1; omega
    refine ⟨mset (cpB (mset m1 49 o0 (nI j)) (51 + o0) (23 + j)) 48 3 (nI 12), fun c h1 h2 h3 => ?_, ?_, ?_, fun i => ?_, fun b hb => ?_, CJ (bX3_push_0 (sh_b23 hj) ⟨fun h => absurd (by rw [hs]; rfl) h, fun _ => ?_⟩)⟩
    · rw [mset_ne h1, cpB_ne h3, mset_ne h2, hA c h1]
    · rw [if_pos rfl, mset_ne2 (fun z => by omega), cpB_ne (a := 48) (by omega), mset_ne (show (48 : Nat) ≠ 49 by decide), hB]
    · rw [if_pos rfl, mset_eq]
    · rw [mset_ne (show (49 : Nat) ≠ 48 by decide), cpB_ne (a := 49) (by omega)]
      by_cases hi : i = o0
      · rw [if_pos hi, hi, mset_eq]
      · rw [if_neg hi, mset_ne2 (fun z => hi z.2), hA 49 (by decide)]
    · rw [mset_ne (show 51 + o0 ≠ 48 by omega), cpB_at hb, mset_ne (show 23 + j ≠ 49 by omega), hA (23 + j) (by omega)]
    · rw [e3, es]
      refine ⟨o0, rfl, ho2, o0, rfl, ho2, _, c_copyFrom (sh_b51 ho2) (sh_b23 hj) (by omega), rfl, ?_⟩
      have q : cpB (mset m1 49 o0 (nI j)) (51 + o0) (23 + j) 48 3 = nI 11 := by
        rw [cpB_ne (a := 48) (by omega), mset_ne (show (48 : Nat) ≠ 49 by decide), hC]
      rw [q]; rfl
  · have hslt : sz < 12 := by omega
    have es : (mm 48 2 + mm 48 3) - (mm 48 2 + mm 48 3) / 12 * 12 = nI ((o0 + sz) % 12) := by rw [ho, hs, nI_add, rem12 (by omega)]
    generalize hsd : (o0 + sz) % 12 = sl at *
    refine ⟨mset (cpB (mset mm 49 sl (nI j)) (51 + sl) (23 + j)) 48 3 (nI (sz + 1)), fun c h1 h2 h3 => ?_, ?_, ?_, fun i => ?_, fun b hb => ?_, CJ (bX3_push_0 (sh_b23 hj) ⟨fun _ => ?_, fun h => absurd ((nI_eq (b := 12) (by omega) (by omega)).mp (hs.symm.trans h)) h12⟩)⟩
    · rw [mset_ne h1, cpB_ne h3, mset_ne h2]
    · rw [if_neg h12, mset_ne2 (fun z => by omega), cpB_ne (a := 48) (by omega), mset_ne (show (48 : Nat) ≠ 49 by decide), ho]
    · rw [if_neg h12, mset_eq]
    · rw [mset_ne (show (49 : Nat) ≠ 48 by decide), cpB_ne (a := 49) (by omega)]
      by_cases hi : i = sl
      · rw [if_pos hi, hi, mset_eq]
      · rw [if_neg hi, mset_ne2 (fun z => hi z.2)]
    · rw [mset_ne (show 51 + sl ≠ 48 by omega), cpB_at hb, mset_ne (show 23 + j ≠ 49 by omega)]
    · rw [es]
      refine ⟨sl, rfl, hsl, sl, rfl, hsl, _, c_copyFrom (sh_b51 hsl) (sh_b23 hj) (by omega), rfl, ?_⟩
      have q : cpB (mset mm 49 sl (nI j)) (51 + sl) (23 + j) 48 3 = nI sz := by
        rw [cpB_ne (by omega), mset_ne (by decide), hs]
      rw [q, nI_1]
theorem c_stepBack {o0 sz j : Nat} (ho : mm 48 2 = nI o0) (hs : mm 48 3 = nI sz) (ho2 : o0 < 12) (hs2 : sz ≤ 12) (hs0 : 0 < sz) (hj : j < 8) (hc : mm 49 ((o0 + (sz - 1)) % 12) = nI j) : Ct G M_X3_stepBack [.ref 48, .ref 22] (SH, mm, lm) false (.inl none) (SH, cpB (mset mm 48 3 (nI (sz - 1))) (23 + j) (51 + (o0 + (sz - 1)) % 12), lm) false 0 0 := by
  have hsl : (o0 + (sz - 1)) % 12 < 12 := Nat.mod_lt _ (by omega)
  have e1 : mm 48 3 - 1 = nI (sz - 1) := by rw [hs, show sz = (sz - 1) + 1 by omega, nI_pred]; rfl
  refine CJ (bX3_stepBack_0 ⟨fun _ => ?_, fun h => absurd h (by rw [hs]; exact nI_ne0 hs0 (by omega))⟩)
  rw [e1]
  have q1 : mset mm 48 3 (nI (sz - 1)) 48 2 = nI o0 := by rw [mset_ne2 (fun z => by omega), ho]
  have q2 : mset mm 48 3 (nI (sz - 1)) 48 3 = nI (sz - 1) := mset_eq
  have q3 : mset mm 48 3 (nI (sz - 1)) 49 ((o0 + (sz - 1)) % 12) = nI j := by rw [mset_ne (by decide), hc]
  rw [q1, q2, nI_add, rem12 (by omega)]
  refine ⟨_, rfl, hsl, fun h => absurd h (by rw [q3]; exact nI_pos (by omega)), fun _ => ⟨fun h => absurd h (by rw [q3]; exact nI_ge (a := j) (b := 8) hj (by omega)), fun _ => ⟨j, q3, hj, _, rfl, hsl, _, c_copyFrom (sh_b23 hj) (sh_b51 hsl) (by omega), rfl, rfl⟩⟩⟩
theorem c_rememberBell {o0 sz j : Nat} (ho : mm 48 2 = nI o0) (hs : mm 48 3 = nI sz) (ho2 : o0 < 12) (hs2 : sz ≤ 12) (hj : j < 8) : ∃ mm', (∀ c, c ≠ 48 → c ≠ 49 → c ≠ 51 + (o0 + sz) % 12 → mm' c = mm c) ∧ mm' 48 2 = nI (if sz = 12 then (o0 + 1) % 12 else o0) ∧ mm' 48 3 = nI (if sz = 12 then 12 else sz + 1) ∧ (∀ i, mm' 49 i = if i = (o0 + sz) % 12 then nI j else mm 49 i) ∧ (∀ b, b < 8 → mm' (51 + (o0 + sz) % 12) b = mm (23 + j) b) ∧
    Ct G M_X9_rememberBell [.ref 0, .int (nI j)] (SH, mm, lm) false (.inl none) (SH, mm', lm) false 0 0 := by
  obtain ⟨mm', h1, h2, h3, h4, h5, ct⟩ := c_push (G := G) (lm := lm) ho hs ho2 hs2 hj
  exact ⟨mm', h1, h2, h3, h4, h5, CJ (bX9_rememberBell_0 ⟨j, rfl, hj, mm', ct, rfl, rfl⟩)⟩
/-! ===== checks of the arguments ===== -/
abbrev ISE : String := "java/lang/IllegalStateException"
abbrev IAE : String := "java/lang/IllegalArgumentException"
abbrev NSE : String := "java/util/NoSuchElementException"
abbrev inR (l g x : Int32) : Prop := ¬ x < l ∧ x ≤ g
theorem c_rt (h : ¬ mm 0 10 = 0) : Ct G M_X9_requireTower [.ref 0] (SH, mm, lm) false (.inl none) (SH, mm, lm) false 0 0 :=
  CJ (bX9_requireTower_0 ⟨fun _ => ⟨rfl, rfl⟩, fun h2 => absurd h2 h⟩)
theorem c_rtx (h : mm 0 10 = 0) : Ct G M_X9_requireTower [.ref 0] (SH, mm, lm) false (.inr ISE) (SH, mm, lm) false 1 6 :=
  CJ (bX9_requireTower_0 ⟨fun h2 => absurd h h2, fun _ => ⟨rfl, rfl, Nat.le_refl _, Nat.le_refl _⟩⟩)
theorem c_rr {x l g : Int32} (h : inR l g x) : Ct G M_X9_requireRange [.int x, .int l, .int g] (SH, mm, lm) false (.inl none) (SH, mm, lm) false 0 0 :=
  CJ (bX9_requireRange_0 ⟨fun h2 => absurd h2 h.1, fun _ => ⟨fun _ => ⟨rfl, rfl⟩, fun h2 => absurd h.2 h2⟩⟩)
theorem c_rrx {x l g : Int32} (h : ¬ inR l g x) : Ct G M_X9_requireRange [.int x, .int l, .int g] (SH, mm, lm) false (.inr IAE) (SH, mm, lm) false 1 6 :=
  CJ (bX9_requireRange_0 ⟨fun _ => ⟨rfl, rfl, Nat.le_refl _, Nat.le_refl _⟩, fun h2 => ⟨fun h3 => absurd ⟨h2, h3⟩ h, fun _ => ⟨rfl, rfl, Nat.le_refl _, Nat.le_refl _⟩⟩⟩)
theorem c_rb {x : Int32} (h : inR 0 (mm 4 9 - 1) x) : Ct G M_X9_requireBell [.ref 0, .int x] (SH, mm, lm) false (.inl none) (SH, mm, lm) false 0 0 :=
  CJ (bX9_requireBell_0 (Or.inl ⟨c_rr h, rfl, rfl⟩))
theorem c_rbx {x : Int32} (h : ¬ inR 0 (mm 4 9 - 1) x) : Ct G M_X9_requireBell [.ref 0, .int x] (SH, mm, lm) false (.inr IAE) (SH, mm, lm) false 1 6 :=
  CJ (bX9_requireBell_0 (Or.inr ⟨_, c_rrx h, rfl, rfl, Nat.le_refl _, Nat.le_refl _⟩))
theorem c_rm {x : Int32} (h : inR 0 (mm 4 8 - 1) x) : Ct G M_X9_requireBeam [.ref 0, .int x] (SH, mm, lm) false (.inl none) (SH, mm, lm) false 0 0 :=
  CJ (bX9_requireBeam_0 (Or.inl ⟨c_rr h, rfl, rfl⟩))
theorem c_rmx {x : Int32} (h : ¬ inR 0 (mm 4 8 - 1) x) : Ct G M_X9_requireBeam [.ref 0, .int x] (SH, mm, lm) false (.inr IAE) (SH, mm, lm) false 1 6 :=
  CJ (bX9_requireBeam_0 (Or.inr ⟨_, c_rrx h, rfl, rfl, Nat.le_refl _, Nat.le_refl _⟩))
theorem c_rh {j : Nat} (hj : j < 8) (h : ¬ mm (23 + j) 0 = -1) : Ct G M_X9_requireHanging [.ref 0, .int (nI j)] (SH, mm, lm) false (.inl none) (SH, mm, lm) false 0 0 :=
  CJ (bX9_requireHanging_0 ⟨j, rfl, hj, _, c_hangs (sh_b23 hj), fun _ => ⟨rfl, rfl⟩, fun h2 => absurd h (bI_0.mp h2)⟩)
theorem c_rhx {j : Nat} (hj : j < 8) (h : mm (23 + j) 0 = -1) : Ct G M_X9_requireHanging [.ref 0, .int (nI j)] (SH, mm, lm) false (.inr NSE) (SH, mm, lm) false 1 6 :=
  CJ (bX9_requireHanging_0 ⟨j, rfl, hj, _, c_hangs (sh_b23 hj), fun h2 => absurd h (bI_1.mp h2), fun _ => ⟨rfl, rfl, Nat.le_refl _, Nat.le_refl _⟩⟩)
/-- a number that is in range of n things is one of them -/
theorem inR_nI {n : Nat} (hn : n < 2 ^ 31) {x : Int32} (h : inR 0 (nI n - 1) x) : ∃ j, j < n ∧ x = nI j := by
  obtain ⟨j, hj, rfl⟩ := nI_of h.1
  refine ⟨j, ?_, rfl⟩
  cases n with
  | zero => exact absurd h.2 (by rw [show nI 0 - 1 = -1 from rfl]; exact fun z => absurd (Int32.le_trans (nI_pos' hj) z) (by decide))
  | succ n =>
    have := h.2
    rw [nI_pred] at this
    have := (nI_leI hj (by omega)).mp this
    omega
theorem nI_inR {n j : Nat} (hn : n < 2 ^ 31) (hj : j < n) : inR 0 (nI n - 1) (nI j) := by
  refine ⟨nI_pos (by omega), ?_⟩
  rw [show n = (n - 1) + 1 by omega, nI_pred]
  exact nI_le (by omega) (by omega)
end History
