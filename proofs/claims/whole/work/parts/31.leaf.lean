/-! ===== contracts of the leaves ===== -/
section Leaf
variable {G : Gx} {mm : Nat → Nat → Int32} {lm : Nat → Int64} {q r : Nat}
theorem c_abs (x : Int32) : Ct G M_J9_abs_0f7a4 [.int x] (SH, mm, lm) false (.inl (some (.int (absI x)))) (SH, mm, lm) false 0 0 := by
  refine CJ (bJ9_abs_0f7a4_0 ⟨fun h => ?_, fun h => ?_⟩) <;> simp [absI, h]
theorem c_max (x y : Int32) : Ct G M_J9_max_7cf53 [.int x, .int y] (SH, mm, lm) false (.inl (some (.int (if x < y then y else x)))) (SH, mm, lm) false 0 0 := by
  refine CJ (bJ9_max_7cf53_0 ⟨fun h => ?_, fun h => ?_⟩) <;> simp [h]
theorem c_min (x y : Int32) : Ct G M_J9_min_7cf53 [.int x, .int y] (SH, mm, lm) false (.inl (some (.int (if y < x then y else x)))) (SH, mm, lm) false 0 0 := by
  refine CJ (bJ9_min_7cf53_0 ⟨fun h => ?_, fun h => ?_⟩) <;> simp [h]
theorem c_hangs (hq : SH[q]? = some (.inl (0, bsl))) : Ct G M_X0_hangs [.ref q] (SH, mm, lm) false (.inl (some (.int (bI (¬ mm q 0 = -1))))) (SH, mm, lm) false 0 0 := by
  refine CJ (bX0_hangs_0 hq ⟨fun h => ?_, fun h => ?_⟩) <;> simp [bI, h]
theorem c_hasPlan (hq : SH[q]? = some (.inl (0, bsl))) : Ct G M_X0_hasPlan [.ref q] (SH, mm, lm) false (.inl (some (.int (bI (¬ mm q 2 = -1))))) (SH, mm, lm) false 0 0 := by
  refine CJ (bX0_hasPlan_0 hq ⟨fun h => ?_, fun h => ?_⟩) <;> simp [bI, h]
theorem c_swings (hq : SH[q]? = some (.inl (0, bsl))) : Ct G M_X0_swings [.ref q] (SH, mm, lm) false (.inl (some (.int (bI (¬ mm q 5 ≤ 0))))) (SH, mm, lm) false 0 0 := by
  refine CJ (bX0_swings_0 hq ⟨fun h => ?_, fun h => ?_⟩)
  · rw [bI_f (not_not_intro h)]; exact ⟨rfl, rfl⟩
  · rw [bI_t h]; exact ⟨rfl, rfl⟩
theorem c_hasChime (hq : SH[q]? = some (.inl (0, bsl))) : Ct G M_X0_hasChime [.ref q] (SH, mm, lm) false (.inl (some (.int (bI (¬ mm q 7 ≤ 0))))) (SH, mm, lm) false 0 0 := by
  refine CJ (bX0_hasChime_0 hq ⟨fun h => ?_, fun h => ?_⟩)
  · rw [bI_f (not_not_intro h)]; exact ⟨rfl, rfl⟩
  · rw [bI_t h]; exact ⟨rfl, rfl⟩
theorem c_shares (hq : SH[q]? = some (.inl (0, bsl))) (hr : SH[r]? = some (.inl (0, bsl))) : Ct G M_X0_sharesBeamWith [.ref q, .ref r] (SH, mm, lm) false (.inl (some (.int (bI (¬ mm q 0 = -1 ∧ mm q 0 = mm r 0))))) (SH, mm, lm) false 0 0 := by
  refine CJ (bX0_sharesBeamWith_0 hq hr ⟨_, c_hangs hq, fun h => ?_, fun h => ⟨fun h2 => ?_, fun h2 => ?_⟩⟩)
  · rw [bI_f (fun z => bI_0.mp h z.1)]; exact ⟨rfl, rfl⟩
  · rw [bI_f (fun z => h2 z.2)]; exact ⟨rfl, rfl⟩
  · rw [bI_t ⟨bI_1.mp h, h2⟩]; exact ⟨rfl, rfl⟩
theorem c_pwih (hq : SH[q]? = some (.inl (0, bsl))) : Ct G M_X0_plannedWhereItHangs [.ref q] (SH, mm, lm) false (.inl (some (.int (bI (¬ mm q 2 = -1 ∧ mm q 2 = mm q 0 ∧ mm q 3 = mm q 1))))) (SH, mm, lm) false 0 0 := by
  refine CJ (bX0_plannedWhereItHangs_0 hq ⟨_, c_hasPlan hq, fun h => ?_, fun h => ⟨fun h2 => ?_, fun h2 => ⟨fun h3 => ?_, fun h3 => ?_⟩⟩⟩)
  · rw [bI_f (fun z => bI_0.mp h z.1)]; exact ⟨rfl, rfl⟩
  · rw [bI_f (fun z => h2 z.2.1)]; exact ⟨rfl, rfl⟩
  · rw [bI_f (fun z => h3 z.2.2)]; exact ⟨rfl, rfl⟩
  · rw [bI_t ⟨bI_1.mp h, h2, h3⟩]; exact ⟨rfl, rfl⟩
/-- rings at x: first f, interval i -/
abbrev rngP (f i x : Int32) : Prop := ¬ i ≤ 0 ∧ ¬ x < f ∧ (x - f) - (x - f) / i * i = 0
theorem c_chimesAt (hq : SH[q]? = some (.inl (0, bsl))) (x : Int32) : Ct G M_X0_chimesAt [.ref q, .int x] (SH, mm, lm) false (.inl (some (.int (bI (rngP (mm q 6) (mm q 7) x))))) (SH, mm, lm) false 0 0 := by
  refine CJ (bX0_chimesAt_0 hq ⟨_, c_hasChime hq, fun h => ?_, fun h => ⟨fun h2 => ?_, fun h2 => ⟨fun z => bI_1.mp h (by rw [z]; exact Int32.le_refl _), fun h3 => ?_, fun h3 => ?_⟩⟩⟩)
  · rw [bI_f (fun z => bI_0.mp h z.1)]; exact ⟨rfl, rfl⟩
  · rw [bI_f (fun z => z.2.1 h2)]; exact ⟨rfl, rfl⟩
  · rw [bI_f (fun z => h3 z.2.2)]; exact ⟨rfl, rfl⟩
  · rw [bI_t ⟨bI_1.mp h, h2, h3⟩]; exact ⟨rfl, rfl⟩
theorem c_keepsClear {j k : Nat} (hj : j < 8) (hk : k < 8) (d : Int32) : Ct G M_X7_keepsClear [.ref 4, .int (nI j), .int (nI k), .int d] (SH, mm, lm) false (.inl (some (.int (bI (¬ absI d < mm 8 j + mm 8 k))))) (SH, mm, lm) false 0 0 := by
  refine CJ (bX7_keepsClear_0 ⟨_, c_abs d, j, rfl, hj, k, rfl, hk, fun h => ?_, fun h => ?_⟩)
  · rw [bI_f (not_not_intro h)]; exact ⟨rfl, rfl⟩
  · rw [bI_t h]; exact ⟨rfl, rfl⟩
theorem c_bears {j : Nat} (hj : j < 4) (x : Int32) : Ct G M_X7_bears [.ref 4, .int (nI j), .int x] (SH, mm, lm) false (.inl (some (.int (bI (¬ mm 6 j < absI x))))) (SH, mm, lm) false 0 0 := by
  refine CJ (bX7_bears_0 ⟨_, c_abs x, j, rfl, hj, fun h => ?_, fun h => ?_⟩)
  · rw [bI_f (not_not_intro h)]; exact ⟨rfl, rfl⟩
  · rw [bI_t h]; exact ⟨rfl, rfl⟩
end Leaf
