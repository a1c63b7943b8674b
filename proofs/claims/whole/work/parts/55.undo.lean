/-! ===== undo ===== -/
section Undo
variable {G : Gx}
theorem unC_undo {mm mm2 : Nat → Nat → Int32} {o0 n b : Nat} (hb : mm 49 ((o0 + n) % 12) = nI b) (hb8 : b < 8) (e49 : mm2 49 = mm 49) (e51 : ∀ i, i < 12 → mm2 (51 + i) = mm (51 + i))
    (hc : ∀ k s, k < 8 → s < 8 → mm2 (23 + k) s = if k = b then mm (51 + (o0 + n) % 12) s else mm (23 + k) s) : ∀ j k s, j ≤ n → k < 8 → s < 8 → unC mm2 o0 n j k s = unC mm o0 (n + 1) (j + 1) k s
  | 0, k, s, _, hk, hs => by
    have e : (o0 + (n + 1 - (0 + 1))) % 12 = (o0 + n) % 12 := by congr 1
    show mm2 (23 + k) s = if nI k = mm 49 ((o0 + (n + 1 - (0 + 1))) % 12) then mm (51 + (o0 + (n + 1 - (0 + 1))) % 12) s else mm (23 + k) s
    rw [e, hb, hc k s hk hs]
    by_cases hkb : k = b
    · rw [if_pos hkb, if_pos (by rw [hkb])]
    · rw [if_neg hkb, if_neg (fun z => hkb ((nI_eq (by omega) (by omega)).mp z))]
  | j + 1, k, s, hj, hk, hs => by
    have ih := unC_undo hb hb8 e49 e51 hc j k s (by omega) hk hs
    have e : (o0 + (n + 1 - (j + 1 + 1))) % 12 = (o0 + (n - (j + 1))) % 12 := by congr 2; omega
    have hsl : (o0 + (n - (j + 1))) % 12 < 12 := Nat.mod_lt _ (by omega)
    rw [unC_s mm2 o0 n j, unC_s mm o0 (n + 1) (j + 1), e, e49, e51 _ hsl, ih]
theorem core_undo : ∀ mm lm, Inv mm → ¬ mm 0 10 = 0 → CoreI G Inv M_X9_undo M_X10_undo 4 10 [(0, .ref 0)] [(0, .ref 63)] mm lm := by
  intro mm lm hI _
  have hI0 := hI
  obtain ⟨hT, nb, nm, nq, np, hN, hW, hS, o0, n, ho, hn, q1, q2, q3, hist⟩ := hI
  have h8 := hN.1.2.2
  match n, hn, q2, q3, hist with
  | 0, hn, q2, q3, hist =>
    refine ⟨-2, mm, bX9_undo_4 ⟨fun h => absurd q2 h, fun _ => ⟨rfl, rfl⟩⟩, ⟨rfl, rfl, rfl⟩, fun l => ⟨_, bX10_undo_10 ⟨fun h => absurd ?_ h, fun _ => ⟨rfl, rfl⟩⟩, mset_eq, hI0.congr (eqR_th EqR.refl 0)⟩⟩
    rw [mset_ne2 (fun z => absurd z.2 (by decide))]; exact q3
  | n + 1, hn, q2, q3, hist =>
    obtain ⟨⟨b, hb1, hb2⟩, hSR⟩ := hist 0 (by omega)
    have es : (o0 + (n + 1 - (0 + 1))) % 12 = (o0 + n) % 12 := by congr 1
    have es2 : (o0 + (n + 1 - 1)) % 12 = (o0 + n) % 12 := by congr 1
    have hsl : (o0 + n) % 12 < 12 := Nat.mod_lt _ (by omega)
    rw [es] at hb2
    have ct := c_stepBack (G := G) (lm := lm) (mm := mm) q1 q2 ho hn (by omega) (show b < 8 by omega) (by rw [es2]; exact hb2)
    rw [es2, show n + 1 - 1 = n from rfl] at ct
    obtain ⟨mc, hmc⟩ : ∃ m, m = cpB (mset mm 48 3 (nI n)) (23 + b) (51 + (o0 + n) % 12) := ⟨_, rfl⟩
    rw [← hmc] at ct
    have a1 : ∀ c, c ≠ 48 → c ≠ 23 + b → mc c = mm c := fun c h1 h2 => by rw [hmc, cpB_ne h2, mset_ne h1]
    have a2 : ∀ s, s ≠ 3 → mc 48 s = mm 48 s := fun s hs => by rw [hmc, cpB_ne (by omega), mset_ne2 (fun z => hs z.2)]
    have a3 : mc 48 3 = nI n := by rw [hmc, cpB_ne (by omega), mset_eq]
    have a4 : ∀ k s, k < 8 → s < 8 → mc (23 + k) s = if k = b then mm (51 + (o0 + n) % 12) s else mm (23 + k) s := fun k s hk hs => by
      by_cases hkb : k = b
      · rw [if_pos hkb, hkb, hmc, cpB_at hs, mset_ne (by omega)]
      · rw [if_neg hkb, a1 _ (by omega) (by omega)]
    have hne : ¬ mm 48 3 = 0 := by rw [q2]; exact nI_ne0 (by omega) (by omega)
    refine ⟨nI n, mc, bX9_undo_4 ⟨fun _ => ⟨mc, ct, by rw [a3], rfl⟩, fun h => absurd h hne⟩, by rw [a1 63 (by omega) (by omega)]; exact ⟨rfl, rfl, rfl⟩, fun l => ?_⟩
    have e63 : ∀ i, i ≠ 4 → mset mc 63 4 0 63 i = mm 63 i := fun i hi => by rw [mset_ne2 (fun z => hi z.2), a1 63 (by omega) (by omega)]
    have hdec : mset mc 63 4 0 63 2 - 1 = nI n := by
      rw [e63 2 (by decide), q3, ← nI_1]; exact Int32.add_sub_cancel _ _
    obtain ⟨m', b1, b2, b3⟩ := cm_undo32 (G := G) (lm := l) (n := n) (by omega) (mset (mset mc 63 4 0) 63 2 (nI n)) mset_eq
    have f63 : ∀ i, i ≠ 4 → i ≠ 2 → m' 63 i = mm 63 i := fun i h4 h2 => by rw [b1 63 (by decide), mset_ne2 (fun z => h2 z.2), e63 i h4]
    have fo : ∀ c, c ≠ 63 → c ≠ 64 → m' c = mc c := fun c h1 h2 => by rw [b1 c h2, mset_ne h1, mset_ne h1]
    have eT : EqT mm m' := fun c i hc => by
      have hc0 := hc
      simp only [relT, Bool.or_eq_true, Bool.and_eq_true, decide_eq_true_eq, beq_iff_eq] at hc
      by_cases h63 : c = 63
      · subst h63; exact f63 i (by omega) (by omega)
      · rw [fo c h63 (by omega), a1 c (by omega) (by omega)]
    have e8 : m' 8 = mm 8 := eqT_row eT (fun _ => rfl)
    have e7 : m' 7 = mm 7 := eqT_row eT (fun _ => rfl)
    have e6 : m' 6 = mm 6 := eqT_row eT (fun _ => rfl)
    have e49 : m' 49 = mm 49 := by rw [fo 49 (by decide) (by decide), a1 49 (by decide) (by omega)]
    have e65 : m' 65 = mm 65 := by rw [fo 65 (by decide) (by decide), a1 65 (by decide) (by omega)]
    have e51 : ∀ i, i < 12 → m' (51 + i) = mm (51 + i) := fun i hi => by rw [fo _ (by omega) (by omega), a1 _ (by omega) (by omega)]
    have hu := unC_undo (mm := mm) (mm2 := m') (o0 := o0) (n := n) hb2 (by omega) e49 e51 (fun k s hk hs => by rw [fo _ (by omega) (by omega)]; exact a4 k s hk hs)
    have e64 : ∀ k, k < 80 → m' 64 k = mm 65 (80 * n + k) := fun k hk => by
      rw [b2 k hk, mset_ne (by decide), mset_ne (by decide), a1 65 (by decide) (by omega)]
    refine ⟨m', bX10_undo_10 ⟨fun _ => ?_, fun h => absurd (by rw [← e63 2 (by decide)]; exact h) (show ¬ mm 63 2 = 0 by rw [q3]; exact nI_ne0 (by omega) (by omega))⟩, ?_, hT.congr eT, nb, nm, nq, np, hN.congr eT, hW.congr eT, ?_, o0, n, ho, by omega, ?_, ?_, ?_, fun j hj => ?_⟩
    · rw [hdec]; exact b3
    · rw [b1 63 (by decide), mset_ne2 (fun z => absurd z.2 (by decide)), mset_eq]
    · rw [e8, e7, e6]
      refine hSR.congr (fun k s hk hs => hu 0 k s (by omega) (by omega) hs) (fun k s hk hs => ?_) (fun _ _ => rfl) (fun _ _ => rfl) (fun _ _ => rfl)
      show m' 64 (10 * k + s) = mm 65 (80 * (n + 1 - (0 + 1)) + (10 * k + s))
      rw [e64 _ (by omega)]
      congr 1
    · rw [fo 48 (by decide) (by decide), a2 2 (by decide)]; exact q1
    · rw [fo 48 (by decide) (by decide)]; exact a3
    · rw [b1 63 (by decide), mset_eq]
    · obtain ⟨⟨b', hb1', hb2'⟩, hr⟩ := hist (j + 1) (by omega)
      have e : (o0 + (n + 1 - (j + 1 + 1))) % 12 = (o0 + (n - (j + 1))) % 12 := by congr 2; omega
      rw [e] at hb2'
      rw [e8, e7, e6, e49]
      refine ⟨⟨b', hb1', hb2'⟩, hr.congr (fun k s hk hs => hu (j + 1) k s (by omega) (by omega) hs) (fun k s hk hs => ?_) (fun _ _ => rfl) (fun _ _ => rfl) (fun _ _ => rfl)⟩
      show m' 65 (80 * (n - (j + 1)) + (10 * k + s)) = mm 65 (80 * (n + 1 - (j + 1 + 1)) + (10 * k + s))
      rw [e65]
      congr 3; omega
end Undo
