/-! ===== contracts of the reference: what it remembers ===== -/
section MPast
variable {G : Gx} {mm : Nat → Nat → Int32} {lm : Nat → Int64} {nb : Nat}
theorem ix_sub80 {x : Nat} (h : 80 ≤ x) : nI x - 80 = nI (x - 80) := by
  have e : nI (x - 80) + nI 80 = nI x := by rw [nI_add]; congr 1; omega
  rw [← e, show (80 : Int32) = nI 80 from rfl, Int32.add_sub_cancel]
/-- the state into the row n -/
theorem cm_rem2 {n : Nat} (hn : n < 12) (m0 : Nat → Nat → Int32) (h2 : m0 63 2 = nI n) : ∃ mm', (∀ c, c ≠ 63 → c ≠ 65 → mm' c = m0 c) ∧ (∀ j, j ≠ 2 → mm' 63 j = m0 63 j) ∧ mm' 63 2 = nI (n + 1) ∧ (∀ y, y < 80 * n → mm' 65 y = m0 65 y) ∧ (∀ k, k < 80 → mm' 65 (80 * n + k) = m0 64 k) ∧
    J G M_X10_remember 52 [(0, .ref 63), (1, .int 0)] [] (SH, m0, lm) false (.inl none) (SH, mm', lm) false 0 0 := by
  refine loop_up (n := 80) (P := fun x => ∀ m, (∀ c, c ≠ 65 → m c = m0 c) → (∀ y, y < 80 * n → m 65 y = m0 65 y) → (∀ k, k < x → m 65 (80 * n + k) = m0 64 k) → ∃ mm', (∀ c, c ≠ 63 → c ≠ 65 → mm' c = m0 c) ∧ (∀ j, j ≠ 2 → mm' 63 j = m0 63 j) ∧ mm' 63 2 = nI (n + 1) ∧ (∀ y, y < 80 * n → mm' 65 y = m0 65 y) ∧ (∀ k, k < 80 → mm' 65 (80 * n + k) = m0 64 k) ∧
    J G M_X10_remember 52 [(0, .ref 63), (1, .int (nI x))] [] (SH, m, lm) false (.inl none) (SH, mm', lm) false 0 0) ?_ ?_ 0 (Nat.zero_le _) m0 (fun _ _ => rfl) (fun _ _ => rfl) (fun k hk => absurd hk (Nat.not_lt_zero k))
  · intro m hm ho hk
    refine ⟨mset m 63 2 (m 63 2 + 1), fun c h1 h3 => by rw [mset_ne h1]; exact hm c h3, fun j hj => by rw [mset_ne2 (fun z => hj z.2), hm 63 (by decide)], by rw [mset_eq, hm 63 (by decide), h2, nI_1], fun y hy => by rw [mset_ne (by decide)]; exact ho y hy, fun k hk2 => by rw [mset_ne (by decide)]; exact hk k hk2, bX10_remember_52 ⟨fun _ => ⟨rfl, rfl⟩, fun h => absurd (lit_le (n := 80) rfl) h⟩⟩
  · intro x hx ih m hm ho hk
    have e2 : m 63 2 = nI n := by rw [hm 63 (by decide)]; exact h2
    obtain ⟨mm', q1, q2, q3, q4, q5, q6⟩ := ih (mset m 65 (80 * n + x) (m0 64 x)) (fun c hc => by rw [mset_ne hc]; exact hm c hc) (fun y hy => by rw [mset_ne2 (fun z => by omega)]; exact ho y hy) (fun k hk2 => by
      by_cases hkx : k = x
      · subst hkx; exact mset_eq
      · rw [mset_ne2 (fun z => by omega)]; exact hk k (by omega))
    refine ⟨mm', q1, q2, q3, q4, q5, bX10_remember_52 ⟨fun h => absurd h (lit_ge (n := 80) rfl hx (by omega)), fun _ => ⟨x, rfl, hx, 80 * n + x, ?_, by omega, ?_⟩⟩⟩
    · rw [e2, show (80 : Int32) = nI 80 from rfl, nI_mul, nI_add]
    · rw [hm 64 (by decide), nI_1]; exact q6
theorem cm_remember {n : Nat} (hn : n ≤ 12) (h2 : mm 63 2 = nI n) : ∃ mm', (∀ c, c ≠ 63 → c ≠ 65 → mm' c = mm c) ∧ (∀ j, j ≠ 2 → mm' 63 j = mm 63 j) ∧ mm' 63 2 = nI (if n = 12 then 12 else n + 1) ∧ (∀ i k, i < (if n = 12 then 11 else n) → k < 80 → mm' 65 (80 * i + k) = mm 65 (80 * (if n = 12 then i + 1 else i) + k)) ∧ (∀ k, k < 80 → mm' 65 (80 * (if n = 12 then 11 else n) + k) = mm 64 k) ∧
    Ct G M_X10_remember [.ref 63] (SH, mm, lm) false (.inl none) (SH, mm', lm) false 0 0 := by
  by_cases h12 : n = 12
  · subst h12
    have key := loop_up (n := 960) (P := fun x => 80 ≤ x → ∀ m, (∀ c, c ≠ 65 → m c = mm c) → (∀ y, y + 80 < x → m 65 y = mm 65 (y + 80)) → (∀ y, x ≤ y + 80 → m 65 y = mm 65 y) → ∃ mm', (∀ c, c ≠ 63 → c ≠ 65 → mm' c = mm c) ∧ (∀ j, j ≠ 2 → mm' 63 j = mm 63 j) ∧ mm' 63 2 = nI 12 ∧ (∀ i k, i < 11 → k < 80 → mm' 65 (80 * i + k) = mm 65 (80 * (i + 1) + k)) ∧ (∀ k, k < 80 → mm' 65 (80 * 11 + k) = mm 64 k) ∧
      J G M_X10_remember 12 [(0, .ref 63), (1, .int (nI x))] [] (SH, m, lm) false (.inl none) (SH, mm', lm) false 0 0) ?_ ?_ 80 (by omega) (Nat.le_refl _) mm (fun _ _ => rfl) (fun y hy => by omega) (fun _ _ => rfl)
    · obtain ⟨mm', q1, q2, q3, q4, q5, q6⟩ := key
      refine ⟨mm', q1, q2, by rw [if_pos rfl]; exact q3, fun i k hi hk => ?_, fun k hk => ?_, CJ (bX10_remember_0 ⟨fun h => absurd (by rw [h2]; rfl) h, fun _ => q6⟩)⟩
      · rw [if_pos rfl] at hi ⊢; exact q4 i k hi hk
      · rw [if_pos rfl]; exact q5 k hk
    · intro _ m hm h1 h3
      obtain ⟨mm', q1, q2, q3, q4, q5, q6⟩ := cm_rem2 (G := G) (lm := lm) (n := 11) (by omega) (mset m 63 2 (nI 11)) mset_eq
      refine ⟨mm', fun c a1 a2 => by rw [q1 c a1 a2, mset_ne a1]; exact hm c a2, fun j hj => by rw [q2 j hj, mset_ne2 (fun z => hj z.2), hm 63 (by decide)], q3, fun i k hi hk => ?_, fun k hk => by rw [q5 k hk, mset_ne (by decide), hm 64 (by decide)], bX10_remember_12 ⟨fun _ => ?_, fun h => absurd (lit_le (n := 960) rfl) h⟩⟩
      · rw [q4 _ (by omega), mset_ne (by decide), h1 _ (by omega)]
        congr 1; omega
      · have e : m 63 2 - 1 = nI 11 := by rw [hm 63 (by decide), h2]; rfl
        rw [e]; exact q6
    · intro x hx ih h80 m hm h1 h3
      obtain ⟨mm', q1, q2, q3, q4, q5, q6⟩ := ih (by omega) (mset m 65 (x - 80) (mm 65 x)) (fun c hc => by rw [mset_ne hc]; exact hm c hc) (fun y hy => by
        by_cases hyx : y = x - 80
        · subst hyx; rw [mset_eq]; congr 1; omega
        · rw [mset_ne2 (fun z => hyx z.2)]; exact h1 y (by omega)) (fun y hy => by
        rw [mset_ne2 (fun z => by omega)]; exact h3 y (by omega))
      refine ⟨mm', q1, q2, q3, q4, q5, bX10_remember_12 ⟨fun h => absurd h (lit_ge (n := 960) rfl hx (by omega)), fun _ => ⟨x, rfl, hx, x - 80, ix_sub80 h80, by omega, ?_⟩⟩⟩
      rw [h3 x (by omega), nI_1]; exact q6
  · obtain ⟨mm', q1, q2, q3, q4, q5, q6⟩ := cm_rem2 (G := G) (lm := lm) (n := n) (by omega) mm h2
    refine ⟨mm', q1, q2, by rw [if_neg h12]; exact q3, fun i k hi hk => ?_, fun k hk => by rw [if_neg h12]; exact q5 k hk, CJ (bX10_remember_0 ⟨fun _ => q6, fun h => absurd ((nI_eq (b := 12) (by omega) (by omega)).mp (h2.symm.trans h)) h12⟩)⟩
    rw [if_neg h12] at hi ⊢
    exact q4 _ (by omega)
/-- the row n back into the state -/
theorem cm_undo32 {n : Nat} (hn : n < 12) (m0 : Nat → Nat → Int32) (h2 : m0 63 2 = nI n) : ∃ mm', (∀ c, c ≠ 64 → mm' c = m0 c) ∧ (∀ k, k < 80 → mm' 64 k = m0 65 (80 * n + k)) ∧
    J G M_X10_undo 32 [(0, .ref 63), (1, .int 0)] [] (SH, m0, lm) false (.inl (some (.int (nI n)))) (SH, mm', lm) false 0 0 := by
  refine loop_up (n := 80) (P := fun x => ∀ m, (∀ c, c ≠ 64 → m c = m0 c) → (∀ k, k < x → m 64 k = m0 65 (80 * n + k)) → ∃ mm', (∀ c, c ≠ 64 → mm' c = m0 c) ∧ (∀ k, k < 80 → mm' 64 k = m0 65 (80 * n + k)) ∧
    J G M_X10_undo 32 [(0, .ref 63), (1, .int (nI x))] [] (SH, m, lm) false (.inl (some (.int (nI n)))) (SH, mm', lm) false 0 0) ?_ ?_ 0 (Nat.zero_le _) m0 (fun _ _ => rfl) (fun k hk => absurd hk (Nat.not_lt_zero k))
  · intro m hm hk
    refine ⟨m, hm, hk, bX10_undo_32 ⟨fun _ => ?_, fun h => absurd (lit_le (n := 80) rfl) h⟩⟩
    rw [hm 63 (by decide), h2]; exact ⟨rfl, rfl⟩
  · intro x hx ih m hm hk
    obtain ⟨mm', q1, q2, q3⟩ := ih (mset m 64 x (m0 65 (80 * n + x))) (fun c hc => by rw [mset_ne hc]; exact hm c hc) (fun k hk2 => by
      by_cases hkx : k = x
      · subst hkx; exact mset_eq
      · rw [mset_ne2 (fun z => hkx z.2)]; exact hk k (by omega))
    refine ⟨mm', q1, q2, bX10_undo_32 ⟨fun h => absurd h (lit_ge (n := 80) rfl hx (by omega)), fun _ => ⟨80 * n + x, ?_, by omega, x, rfl, hx, ?_⟩⟩⟩
    · rw [hm 63 (by decide), h2, show (80 : Int32) = nI 80 from rfl, nI_mul, nI_add]
    · rw [hm 65 (by decide), nI_1]; exact q3
end MPast
