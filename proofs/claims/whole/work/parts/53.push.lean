/-! ===== an action: what it leaves ===== -/
section Push
variable {mm mm2 : Nat → Nat → Int32} {nb nm nq np o0 n j : Nat}
theorem sl_ne {o0 n i : Nat} (hn : n ≤ 12) (hi : i < n) (hi2 : i + 1 < 12) : (o0 + (n - (i + 1))) % 12 ≠ (o0 + n) % 12 := by omega
theorem unC_s (mm : Nat → Nat → Int32) (o0 n j k s : Nat) : unC mm o0 n (j + 1) k s = if nI k = mm 49 ((o0 + (n - (j + 1))) % 12) then mm (51 + (o0 + (n - (j + 1))) % 12) s else unC mm o0 n j k s := rfl
/-- the states before the earlier actions are found again -/
theorem unC_push (ho : o0 < 12) (hn : n ≤ 12) (hj : j < 8)
    (a4 : ∀ i, mm2 49 i = if i = (o0 + n) % 12 then nI j else mm 49 i) (a5 : ∀ s, s < 8 → mm2 (51 + (o0 + n) % 12) s = mm (23 + j) s) (a6 : ∀ i, i < 12 → i ≠ (o0 + n) % 12 → mm2 (51 + i) = mm (51 + i)) (a9 : ∀ k, k < nb → k ≠ j → ∀ s, mm2 (23 + k) s = mm (23 + k) s) (h8 : nb ≤ 8) :
    ∀ i, i < (if n = 12 then 12 else n + 1) → ∀ k s, k < nb → s < 8 → unC mm2 (if n = 12 then (o0 + 1) % 12 else o0) (if n = 12 then 12 else n + 1) (i + 1) k s = unC mm o0 n i k s
  | 0, _, k, s, hk, hs => by
    have e : ((if n = 12 then (o0 + 1) % 12 else o0) + ((if n = 12 then 12 else n + 1) - (0 + 1))) % 12 = (o0 + n) % 12 := by
      by_cases h : n = 12
      · rw [if_pos h, if_pos h]; omega
      · rw [if_neg h, if_neg h]; congr 1
    simp only [unC, e]
    rw [a4, if_pos rfl, a5 s hs]
    by_cases hkj : k = j
    · rw [if_pos (by rw [hkj]), hkj]
    · rw [if_neg (fun z => hkj ((nI_eq (by omega) (by omega)).mp z))]
      exact a9 k hk hkj s
  | i + 1, hi, k, s, hk, hs => by
    have hin : i < n := by
      by_cases h : n = 12
      · rw [if_pos h] at hi; omega
      · rw [if_neg h] at hi; omega
    have hi2 : i + 1 < 12 := by
      by_cases h : n = 12
      · rw [if_pos h] at hi; omega
      · rw [if_neg h] at hi; omega
    have e : ((if n = 12 then (o0 + 1) % 12 else o0) + ((if n = 12 then 12 else n + 1) - (i + 1 + 1))) % 12 = (o0 + (n - (i + 1))) % 12 := by
      by_cases h : n = 12
      · rw [if_pos h, if_pos h, h]; omega
      · rw [if_neg h, if_neg h]; congr 1; omega
    have ih := unC_push ho hn hj a4 a5 a6 a9 h8 i (by omega) k s hk hs
    have hne := sl_ne (o0 := o0) hn hin hi2
    rw [unC_s mm2 _ _ (i + 1), unC_s mm o0 n i, e, a4, if_neg hne, a6 _ (Nat.mod_lt _ (by omega)) hne, ih]
/-- the invariant behind an action -/
theorem inv_push (hT : InvT mm) (hN : InvN mm nb nm nq np) (hW : InvW mm nb nm nq np) (hS : SR nb nm (mm 8) (mm 7) (mm 6) (cS mm) (mS mm)) (ho : o0 < 12) (hn : n ≤ 12)
    (hist : ∀ i, i < n → (∃ b, b < nb ∧ mm 49 ((o0 + (n - (i + 1))) % 12) = nI b) ∧ SR nb nm (mm 8) (mm 7) (mm 6) (unC mm o0 n (i + 1)) (fun k s => mm 65 (80 * (n - (i + 1)) + (10 * k + s)))) (hj : j < nb)
    (a1 : mm2 48 2 = nI (if n = 12 then (o0 + 1) % 12 else o0)) (a2 : mm2 48 3 = nI (if n = 12 then 12 else n + 1)) (a3 : mm2 63 2 = nI (if n = 12 then 12 else n + 1))
    (a4 : ∀ i, mm2 49 i = if i = (o0 + n) % 12 then nI j else mm 49 i) (a5 : ∀ s, s < 8 → mm2 (51 + (o0 + n) % 12) s = mm (23 + j) s) (a6 : ∀ i, i < 12 → i ≠ (o0 + n) % 12 → mm2 (51 + i) = mm (51 + i))
    (a7 : ∀ i k, i < (if n = 12 then 11 else n) → k < 80 → mm2 65 (80 * i + k) = mm 65 (80 * (if n = 12 then i + 1 else i) + k)) (a8 : ∀ k, k < 80 → mm2 65 (80 * (if n = 12 then 11 else n) + k) = mm 64 k)
    (a9 : ∀ k, k < nb → k ≠ j → ∀ s, mm2 (23 + k) s = mm (23 + k) s) (a10 : EqT mm mm2) (a11 : SR nb nm (mm 8) (mm 7) (mm 6) (cS mm2) (mS mm2)) : Inv mm2 := by
  have h8 := hN.1.2.2
  have e8 : mm2 8 = mm 8 := eqT_row a10 (fun _ => rfl)
  have e7 : mm2 7 = mm 7 := eqT_row a10 (fun _ => rfl)
  have e6 : mm2 6 = mm 6 := eqT_row a10 (fun _ => rfl)
  refine ⟨hT.congr a10, nb, nm, nq, np, hN.congr a10, hW.congr a10, by rw [e8, e7, e6]; exact a11, (if n = 12 then (o0 + 1) % 12 else o0), (if n = 12 then 12 else n + 1), ?_, ?_, a1, a2, a3, fun i hi => ?_⟩
  · split <;> omega
  · split <;> omega
  · have hslot : ((if n = 12 then (o0 + 1) % 12 else o0) + ((if n = 12 then 12 else n + 1) - (i + 1))) % 12 = if i = 0 then (o0 + n) % 12 else (o0 + (n - i)) % 12 := by
      by_cases h : n = 12
      · rw [if_pos h] at hi
        rw [if_pos h, if_pos h]; split <;> omega
      · rw [if_neg h, if_neg h]
        rw [if_neg h] at hi
        split <;> (congr 1; omega)
    have hu := unC_push (mm := mm) (mm2 := mm2) (nb := nb) (j := j) ho hn (by omega) a4 a5 a6 a9 h8 i hi
    rw [hslot, e8, e7, e6]
    match i, hi with
    | 0, hi =>
      refine ⟨⟨j, hj, by rw [if_pos rfl, a4, if_pos rfl]⟩, hS.congr (fun k s hk hs => hu k s hk hs) (fun k s hk hs => ?_) (fun _ _ => rfl) (fun _ _ => rfl) (fun _ _ => rfl)⟩
      have e : (if n = 12 then 12 else n + 1) - (0 + 1) = if n = 12 then 11 else n := by split <;> omega
      show mm2 65 (80 * ((if n = 12 then 12 else n + 1) - (0 + 1)) + (10 * k + s)) = mm 64 (10 * k + s)
      rw [e]; exact a8 _ (by omega)
    | i + 1, hi =>
      have hin : i < n := by
        by_cases h : n = 12
        · rw [if_pos h] at hi; omega
        · rw [if_neg h] at hi; omega
      have hi2 : i + 1 < 12 := by
        by_cases h : n = 12
        · rw [if_pos h] at hi; omega
        · rw [if_neg h] at hi; omega
      obtain ⟨⟨b, hb1, hb2⟩, hr⟩ := hist i hin
      have hne := sl_ne (o0 := o0) hn hin hi2
      refine ⟨⟨b, hb1, by rw [if_neg (by omega), a4, if_neg hne]; exact hb2⟩, hr.congr (fun k s hk hs => hu k s hk hs) (fun k s hk hs => ?_) (fun _ _ => rfl) (fun _ _ => rfl) (fun _ _ => rfl)⟩
      show mm2 65 (80 * ((if n = 12 then 12 else n + 1) - (i + 1 + 1)) + (10 * k + s)) = mm 65 (80 * (n - (i + 1)) + (10 * k + s))
      by_cases h : n = 12
      · have q := a7 (12 - (i + 1 + 1)) (10 * k + s) (by rw [if_pos h]; omega) (by omega)
        rw [if_pos h] at q ⊢
        rw [q]; congr 2; omega
      · have q := a7 (n + 1 - (i + 1 + 1)) (10 * k + s) (by rw [if_neg h]; omega) (by omega)
        rw [if_neg h] at q ⊢
        rw [q]; congr 2; omega
end Push
section Mut
variable {G : Gx} {mm : Nat → Nat → Int32} {lm : Nat → Int64} {nb nm nq np j : Nat}
/-- both sides remember, then change the bell j: the class's number w c, the reference's w m -/
theorem act_ok (hI : Inv mm) {nb nm nq np : Nat} (hN : InvN mm nb nm nq np) (hW : InvW mm nb nm nq np) (hS : SR nb nm (mm 8) (mm 7) (mm 6) (cS mm) (mS mm)) (hj : j < nb) : ∃ mc, Ct G M_X9_rememberBell [.ref 0, .int (nI j)] (SH, mm, lm) false (.inl none) (SH, mc, lm) false 0 0 ∧ (∀ c, c < 48 ∨ 63 ≤ c → mc c = mm c) ∧
    ∀ (mm1 : Nat → Nat → Int32), (∀ c, c ≠ 23 + j → mm1 c = mc c) → ∀ l : Nat → Int64, ∃ m', Ct G M_X10_remember [.ref 63] (SH, mset mm1 63 4 0, l) false (.inl none) (SH, m', l) false 0 0 ∧ m' 64 = mm 64 ∧ m' 63 4 = 0 ∧ EqT mm m' ∧ (∀ c, c < 63 → m' c = mm1 c) ∧
      ∀ mm2, (∀ c, c ≠ 64 → mm2 c = m' c) → SR nb nm (mm 8) (mm 7) (mm 6) (cS mm2) (mS mm2) → Inv mm2 := by
  obtain ⟨hT, nb', nm', nq', np', hN', -, -, o0, n, ho, hn, q1, q2, q3, hist⟩ := hI
  have h8 := hN.1.2.2
  have enb : nb' = nb := (nI_eq (by have := hN'.1.2.2; omega) (by omega)).mp (hN'.1.1.symm.trans hN.1.1)
  have enm : nm' = nm := (nI_eq (by have := hN'.2.1.2.2; omega) (by have := hN.2.1.2.2; omega)).mp (hN'.2.1.1.symm.trans hN.2.1.1)
  subst enb enm
  obtain ⟨mc, b1, b2, b3, b4, b5, ct⟩ := c_rememberBell (G := G) (lm := lm) q1 q2 ho hn (show j < 8 by omega)
  have hsl : (o0 + n) % 12 < 12 := Nat.mod_lt _ (by omega)
  refine ⟨mc, ct, fun c hc => b1 c (by omega) (by omega) (by omega), fun mm1 h1 l => ?_⟩
  have e63 : ∀ i, mset mm1 63 4 0 63 i = if i = 4 then 0 else mm 63 i := fun i => by
    by_cases hi : i = 4
    · rw [if_pos hi, hi, mset_eq]
    · rw [if_neg hi, mset_ne2 (fun z => hi z.2), h1 63 (by omega), b1 63 (by omega) (by omega) (by omega)]
  obtain ⟨m', d1, d2, d3, d4, d5, ct2⟩ := cm_remember (G := G) (lm := l) (mm := mset mm1 63 4 0) hn (by rw [e63, if_neg (by decide)]; exact q3)
  have lo : ∀ c, c < 63 → m' c = mm1 c := fun c hc => by rw [d1 c (by omega) (by omega), mset_ne (by omega)]
  have hi' : ∀ c, 63 < c → c ≠ 65 → m' c = mm c := fun c hc hc2 => by
    rw [d1 c (by omega) hc2, mset_ne (by omega), h1 c (by omega), b1 c (by omega) (by omega) (by omega)]
  have eT : EqT mm m' := fun c i hc => by
    have hc0 := hc
    simp only [relT, Bool.or_eq_true, Bool.and_eq_true, decide_eq_true_eq, beq_iff_eq] at hc
    by_cases h63 : c = 63
    · subst h63
      rw [d2 i (by omega), e63, if_neg (by omega)]
    · by_cases hlt : c < 63
      · rw [lo c hlt, h1 c (by omega), b1 c (by omega) (by omega) (by omega)]
      · rw [hi' c (by omega) (by omega)]
  refine ⟨m', ct2, hi' 64 (by omega) (by omega), by rw [d2 4 (by decide), e63, if_pos rfl], eT, lo, fun mm2 h2 hSR => ?_⟩
  have e65 : mset mm1 63 4 0 65 = mm 65 := by rw [mset_ne (by omega), h1 65 (by omega), b1 65 (by omega) (by omega) (by omega)]
  have e64 : mset mm1 63 4 0 64 = mm 64 := by rw [mset_ne (by omega), h1 64 (by omega), b1 64 (by omega) (by omega) (by omega)]
  have c2 : ∀ c, c < 63 → mm2 c = mm1 c := fun c hc => (h2 c (by omega)).trans (lo c hc)
  refine inv_push (mm := mm) (j := j) hT hN hW hS ho hn hist hj ?_ ?_ ?_ ?_ ?_ ?_ ?_ ?_ ?_ ?_ hSR
  · rw [c2 48 (by omega), h1 48 (by omega)]; exact b2
  · rw [c2 48 (by omega), h1 48 (by omega)]; exact b3
  · rw [h2 63 (by omega)]; exact d3
  · intro i; rw [c2 49 (by omega), h1 49 (by omega)]; exact b4 i
  · intro s hs; rw [c2 _ (by omega), h1 _ (by omega)]; exact b5 s hs
  · intro i hi hne; rw [c2 _ (by omega), h1 _ (by omega)]; exact b1 _ (by omega) (by omega) (by omega)
  · intro i k hi hk; rw [h2 65 (by omega), d4 i k hi hk, e65]
  · intro k hk; rw [h2 65 (by omega), d5 k hk, e64]
  · intro k hk hkj s; rw [c2 _ (by omega), h1 _ (by omega), b1 _ (by omega) (by omega) (by omega)]
  · intro c i hc
    have hc0 := hc
    simp only [relT, Bool.or_eq_true, Bool.and_eq_true, decide_eq_true_eq, beq_iff_eq] at hc
    rw [h2 c (by omega)]; exact eT c i hc0
/-- beams and positions are what they were: clear and balanced still -/
theorem SR.same {c m c' m' : Nat → Nat → Int32} {rad w lim : Nat → Int32} (h : SR nb nm rad w lim c m) (hb : ∀ k, k < nb → c' k 0 = c k 0 ∧ c' k 1 = c k 1) (hr : ∀ k, k < nb → RB nm (c' k) (m' k)) : SR nb nm rad w lim c' m' := by
  refine ⟨hr, fun k o hk ho => ?_, fun b hb2 => ?_⟩
  · rw [(hb k hk).1, (hb o (by omega)).1, (hb k hk).2, (hb o (by omega)).2]; exact h.2.1 k o hk ho
  · have e : mo nb (fun k => c' k 0) (fun k => c' k 1) w (nI b) (fun _ => false) = mo nb (fun k => c k 0) (fun k => c k 1) w (nI b) (fun _ => false) := sumN_congr fun k hk => by simp only [(hb k hk).1, (hb k hk).2]
    rw [e]; exact h.2.2 b hb2
/-- a sum with one part taken out -/
theorem sumN_out {f : Nat → Int32} : ∀ {n j : Nat}, j < n → sumN f n = sumN (fun k => if k = j then 0 else f k) n + f j
  | n + 1, j, h => by
    simp only [sumN]
    by_cases hj : j = n
    · subst hj
      rw [if_pos rfl, Int32.add_zero, sumN_congr (g := f) (fun k hk => if_neg (by omega))]
    · rw [if_neg (fun z => hj z.symm), sumN_out (show j < n by omega), Int32.add_assoc, Int32.add_comm (f j), ← Int32.add_assoc]
theorem mo_out {be po w : Nat → Int32} {b : Int32} {n j : Nat} (hj : j < n) : mo n be po w b (fun _ => false) = mo n be po w b (fun k => decide (k = j)) + (if be j = b then w j * po j else 0) := by
  unfold mo
  rw [sumN_out hj]
  congr 1
  · refine sumN_congr fun k hk => ?_
    by_cases hkj : k = j
    · rw [if_pos hkj, if_neg (by simp [hkj])]
    · rw [if_neg hkj]; simp [hkj]
  · simp
theorem mo_ex {be po w be' po' : Nat → Int32} {b : Int32} {n j : Nat} (h : ∀ k, k < n → k ≠ j → be' k = be k ∧ po' k = po k) : mo n be' po' w b (fun k => decide (k = j)) = mo n be po w b (fun k => decide (k = j)) := sumN_congr fun k hk => by
  by_cases hkj : k = j
  · rw [if_neg (by simp [hkj]), if_neg (by simp [hkj])]
  · rw [(h k hk hkj).1, (h k hk hkj).2]
end Mut
