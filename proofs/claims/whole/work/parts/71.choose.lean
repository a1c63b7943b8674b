/-! ===== the reference's cutting ===== -/
section Choose
variable {G : Gx} {mm : Nat → Nat → Int32} {lm : Nat → Int64} {nb R : Nat} {len cap : Nat → Nat}
theorem cm_choose {u : Nat → Nat} {all left k op i : Nat} {m : Nat → Nat → Int32} (h : MbR mm len cap u R all m) (hall : all < 256) (hleft : Sb left all) (hk : k < 8) (hi : i < 4) (hb : mm 64 (10 * k + 0) = nI i) (hlen : (mm 66 i + 10 * absI (mm 64 (10 * k + 1))) + 50 = nI (len k)) (hl0 : 0 < len k) (hl5 : len k ≤ 5200) (hop : op < 1000000) (hex : ∃ p, p < R ∧ Qp len cap R left k op u p) :
    ∃ m' p, p < R ∧ Qp len cap R left k op u p ∧ (∀ q, q < p → ¬ Qp len cap R left k op u q) ∧ MbR mm len cap (updN u p (u p + len k)) R all m' ∧ m' 83 k = nI p ∧ (∀ j, j ≠ k → m' 83 j = m 83 j) ∧
      Ct G M_X10_choose [.ref 63, .int (nI k), .int (nI left), .int (nI op)] (SH, m, lm) false (.inl (some (.int (nI (op - if u p = 0 then 1 else 0))))) (SH, m', lm) false 0 0 := by
  obtain ⟨hm, ⟨hR, hR8⟩, hcap, hu, hsum, hsle⟩ := h
  have hle := sb_le hleft
  have cl := cm_lengthOf (G := G) (mm := m) (lm := lm) hk hi (by rw [hm 64 (by omega)]; exact hb)
  rw [hm 64 (by omega), hm 66 (by omega), hlen] at cl
  have key := loop_up (n := R) (P := fun p => ∀ m9, (∀ c, c ≠ 81 → c ≠ 82 → m9 c = m c) → (∀ r, r < 8 → m9 82 r = m 82 r) → (∀ q, q < p → ¬ Qp len cap R left k op u q) → ∃ m' p', p' < R ∧ Qp len cap R left k op u p' ∧ (∀ q, q < p' → ¬ Qp len cap R left k op u q) ∧ MbR mm len cap (updN u p' (u p' + len k)) R all m' ∧ m' 83 k = nI p' ∧ (∀ j, j ≠ k → m' 83 j = m 83 j) ∧
      J G M_X10_choose 10 [(0, .ref 63), (1, .int (nI k)), (2, .int (nI left)), (3, .int (nI op)), (4, .int (nI (len k))), (5, .int (nI p))] [] (SH, m9, lm) false (.inl (some (.int (nI (op - if u p' = 0 then 1 else 0))))) (SH, m', lm) false 0 0) ?_ ?_ 0 (Nat.zero_le _) m (fun _ _ _ => rfl) (fun _ _ => rfl) (fun q hq => absurd hq (Nat.not_lt_zero q))
  · obtain ⟨m', p', q1, q2, q3, q4, q5, q6, q7⟩ := key
    exact ⟨m', p', q1, q2, q3, q4, q5, q6, CJ (bX10_choose_0 ⟨_, cl, q7⟩)⟩
  · intro m9 _ _ hno
    obtain ⟨p, p1, p2⟩ := hex
    exact absurd p2 (hno p p1)
  · intro p hp ih m9 h9 h82 hno
    have e15 : m9 63 15 = nI R := by rw [h9 63 (by decide) (by decide), hm 63 (by omega)]; exact hR
    have lim : ¬ m9 63 15 ≤ nI p := by rw [e15]; exact nI_ge hp (by omega)
    obtain ⟨u1, u2⟩ := hu p (by omega)
    have e82 : m9 82 p = nI (u p) := (h82 p (by omega)).trans u1
    obtain ⟨c1, c2⟩ := hcap p hp
    have e73 : m9 73 p = nI (cap p) := by rw [h9 73 (by decide) (by decide), hm 73 (by omega)]; exact c1
    have fit : (m9 82 p + nI (len k) ≤ m9 73 p) ↔ u p + len k ≤ cap p := by rw [e82, e73, nI_add]; exact nI_leI (by omega) (by omega)
    by_cases hf : u p + len k ≤ cap p
    · obtain ⟨m10, hm10⟩ : ∃ m10, m10 = mset m9 82 p (m9 82 p + nI (len k)) := ⟨_, rfl⟩
      have rows : ∀ r, r < 8 → m10 82 r = nI (updN u p (u p + len k) r) ∧ updN u p (u p + len k) r ≤ 99999 := fun r hr => by
        by_cases e : r = p
        · subst e; rw [hm10, mset_eq, e82, nI_add, updN_at]; exact ⟨rfl, by omega⟩
        · rw [hm10, mset_ne2 (fun z => e z.2), h82 r hr, updN_ne e]; exact hu r hr
      have mb : MbR mm len cap (updN u p (u p + len k)) R all m10 := ⟨fun c hc => by rw [hm10, mset_ne (by omega), h9 c (by omega) (by omega)]; exact hm c hc, ⟨hR, hR8⟩, hcap, rows, fun s hs => by rw [hm10, mset_ne (by decide), h9 84 (by decide) (by decide)]; exact hsum s hs, hsle⟩
      obtain ⟨m8, F, f1, f2, f3, ct⟩ := cm_layFewest (G := G) (lm := lm) hall mb
      obtain ⟨F1, F2⟩ := f2 left (by omega)
      have hF := f3 left hleft
      have r8 : ∀ c, c ≠ 81 → c ≠ 82 → m8 c = m9 c := fun c h1 h2 => by rw [f1 c h1, hm10, mset_ne h2]
      have r82 : ∀ r, r < 8 → m8 82 r = m10 82 r := fun r hr => by rw [f1 82 (by decide)]
      -- the piece serves
      have good : Qp len cap R left k op u p → ∃ m' p', p' < R ∧ Qp len cap R left k op u p' ∧ (∀ q, q < p' → ¬ Qp len cap R left k op u q) ∧ MbR mm len cap (updN u p' (u p' + len k)) R all m' ∧ m' 83 k = nI p' ∧ (∀ j, j ≠ k → m' 83 j = m 83 j) ∧ p' = p ∧ m' = mset m8 83 k (nI p) := fun hq =>
        ⟨mset m8 83 k (nI p), p, hp, hq, hno, ⟨fun c hc => by rw [mset_ne (by omega), r8 c (by omega) (by omega), h9 c (by omega) (by omega)]; exact hm c hc, ⟨hR, hR8⟩, hcap, fun r hr => by rw [mset_ne (by decide), r82 r hr]; exact rows r hr, fun s hs => by rw [mset_ne (by decide), r8 84 (by decide) (by decide), h9 84 (by decide) (by decide)]; exact hsum s hs, hsle⟩, mset_eq, fun j hj => by rw [mset_ne2 (fun z => hj z.2), r8 83 (by decide) (by decide), h9 83 (by decide) (by decide)], rfl, rfl⟩
      -- it does not
      have back : ¬ Qp len cap R left k op u p → ∃ m' p', p' < R ∧ Qp len cap R left k op u p' ∧ (∀ q, q < p' → ¬ Qp len cap R left k op u q) ∧ MbR mm len cap (updN u p' (u p' + len k)) R all m' ∧ m' 83 k = nI p' ∧ (∀ j, j ≠ k → m' 83 j = m 83 j) ∧
          J G M_X10_choose 10 [(0, .ref 63), (1, .int (nI k)), (2, .int (nI left)), (3, .int (nI op)), (4, .int (nI (len k))), (5, .int (nI (p + 1)))] [] (SH, mset m8 82 p (m8 82 p - nI (len k)), lm) false (.inl (some (.int (nI (op - if u p' = 0 then 1 else 0))))) (SH, m', lm) false 0 0 := fun hq =>
        ih (mset m8 82 p (m8 82 p - nI (len k))) (fun c h1 h2 => by rw [mset_ne h2, r8 c h1 h2]; exact h9 c h1 h2) (fun r hr => by
          by_cases e : r = p
          · subst e
            rw [mset_eq, r82 r hr, (rows r hr).1, updN_at, pk_sub (by omega), Nat.add_sub_cancel]
            exact u1.symm
          · rw [mset_ne2 (fun z => e z.2), r82 r hr, hm10, mset_ne2 (fun z => e z.2)]; exact h82 r hr) (fun q hq2 => by
          by_cases e : q = p
          · rw [e]; exact hq
          · exact hno q (by omega))
      by_cases hz : u p = 0
      · -- a new piece
        have hq0 : m9 82 p = 0 := by rw [e82, hz]; rfl
        have qiff : (¬ (nI op - 1 < m8 81 left)) ↔ Qp len cap R left k op u p := by
          rw [F1]
          by_cases h0 : op = 0
          · subst h0
            refine ⟨fun z => absurd ?_ z, fun ⟨_, a, _, a2⟩ => ?_⟩
            · rw [fa_lt, nI_toInt (by omega), show (nI 0 - 1 : Int32).toInt = -1 from rfl]; omega
            · rw [if_pos hz] at a2; omega
          · have e1 : nI op - 1 = nI (op - 1) := by rw [show (1 : Int32) = nI 1 from rfl, pk_sub (by omega)]
            rw [e1, nI_ltI (by omega) (by omega), Nat.not_lt, hF (op - 1) (by omega)]
            unfold Qp
            rw [if_pos hz]
            exact ⟨fun ⟨a, a1, a2⟩ => ⟨hf, a, a1, by omega⟩, fun ⟨_, a, a1, a2⟩ => ⟨a, a1, by omega⟩⟩
        by_cases hq : nI op - 1 < m8 81 left
        · obtain ⟨m', p', g1, g2, g3, g4, g5, g6, g7⟩ := back (fun w => qiff.mpr w hq)
          exact ⟨m', p', g1, g2, g3, g4, g5, g6, bX10_choose_10 ⟨fun z => absurd z lim, fun _ => ⟨p, rfl, by omega, p, rfl, by omega, fun _ => ⟨p, rfl, by omega, fun z => absurd hq0 z, fun _ => ⟨p, rfl, by omega, p, rfl, by omega, m8, by rw [← hm10]; exact ct, left, rfl, by omega, fun _ => ⟨p, rfl, by omega, p, rfl, by omega, by rw [nI_1]; exact g7⟩, fun z => absurd hq z⟩⟩, fun z => absurd (fit.mpr hf) z⟩⟩⟩
        · have hQ := qiff.mp hq
          obtain ⟨m', p', g1, g2, g3, g4, g5, g6, rfl, rfl⟩ := good hQ
          have hop0 : 1 ≤ op := by obtain ⟨_, a, _, a2⟩ := hQ; rw [if_pos hz] at a2; omega
          refine ⟨_, p', g1, g2, g3, g4, g5, g6, bX10_choose_10 ⟨fun z => absurd z lim, fun _ => ⟨p', rfl, by omega, p', rfl, by omega, fun _ => ⟨p', rfl, by omega, fun z => absurd hq0 z, fun _ => ⟨p', rfl, by omega, p', rfl, by omega, m8, by rw [← hm10]; exact ct, left, rfl, by omega, fun z => absurd z hq, fun _ => ⟨k, rfl, hk, ?_, rfl⟩⟩⟩, fun z => absurd (fit.mpr hf) z⟩⟩⟩
          rw [if_pos hz, show nI op - 1 = nI (op - 1) by rw [show (1 : Int32) = nI 1 from rfl, pk_sub hop0]]
      · have hq0 : ¬ m9 82 p = 0 := by rw [e82]; exact nI_ne0 (by omega) (by omega)
        have qiff : (¬ (nI op - 0 < m8 81 left)) ↔ Qp len cap R left k op u p := by
          rw [F1, Int32.sub_zero, nI_ltI (by omega) (by omega), Nat.not_lt, hF op (by omega)]
          unfold Qp
          rw [if_neg hz]
          exact ⟨fun ⟨a, a1, a2⟩ => ⟨hf, a, a1, by omega⟩, fun ⟨_, a, a1, a2⟩ => ⟨a, a1, by omega⟩⟩
        by_cases hq : nI op - 0 < m8 81 left
        · obtain ⟨m', p', g1, g2, g3, g4, g5, g6, g7⟩ := back (fun w => qiff.mpr w hq)
          exact ⟨m', p', g1, g2, g3, g4, g5, g6, bX10_choose_10 ⟨fun z => absurd z lim, fun _ => ⟨p, rfl, by omega, p, rfl, by omega, fun _ => ⟨p, rfl, by omega, fun _ => ⟨p, rfl, by omega, p, rfl, by omega, m8, by rw [← hm10]; exact ct, left, rfl, by omega, fun _ => ⟨p, rfl, by omega, p, rfl, by omega, by rw [nI_1]; exact g7⟩, fun z => absurd hq z⟩, fun z => absurd z hq0⟩, fun z => absurd (fit.mpr hf) z⟩⟩⟩
        · have hQ := qiff.mp hq
          obtain ⟨m', p', g1, g2, g3, g4, g5, g6, rfl, rfl⟩ := good hQ
          refine ⟨_, p', g1, g2, g3, g4, g5, g6, bX10_choose_10 ⟨fun z => absurd z lim, fun _ => ⟨p', rfl, by omega, p', rfl, by omega, fun _ => ⟨p', rfl, by omega, fun _ => ⟨p', rfl, by omega, p', rfl, by omega, m8, by rw [← hm10]; exact ct, left, rfl, by omega, fun z => absurd z hq, fun _ => ⟨k, rfl, hk, ?_, rfl⟩⟩, fun z => absurd z hq0⟩, fun z => absurd (fit.mpr hf) z⟩⟩⟩
          rw [if_neg hz, Int32.sub_zero, Nat.sub_zero]
    · obtain ⟨m', p', g1, g2, g3, g4, g5, g6, g7⟩ := ih m9 h9 h82 (fun q hq => by
        by_cases e : q = p
        · rw [e]; exact fun w => hf w.1
        · exact hno q (by omega))
      exact ⟨m', p', g1, g2, g3, g4, g5, g6, bX10_choose_10 ⟨fun z => absurd z lim, fun _ => ⟨p, rfl, by omega, p, rfl, by omega, fun z => absurd (fit.mp z) hf, fun _ => by rw [nI_1]; exact g7⟩⟩⟩
theorem cm_cutting (hnb : mm 63 8 = nI nb) (h8 : nb ≤ 8) (hl : LenM mm nb len) (hR : mm 63 15 = nI R) (hR8 : R ≤ 8) (hcap : ∀ p, p < R → mm 73 p = nI (cap p) ∧ cap p ≤ 9999) : ∃ m' best, (∀ c, c < 81 ∨ 84 < c → m' c = mm c) ∧ best ≤ 1000000 ∧ (∀ v, v < 1000000 → (best ≤ v ↔ ∃ a, VaC len cap R (allM mm nb) a ∧ usA R (allM mm nb) a ≤ v)) ∧
    (best < 1000000 → ∃ u a op, MbR mm len cap u R (allM mm nb) m' ∧ GdR len cap R (allM mm nb) best nb u a op ∧ ∀ b, b < nb → (allM mm nb).testBit b = true → m' 83 b = nI (a b)) ∧
    Ct G M_X10_cutting [.ref 63] (SH, mm, lm) false (.inl (some (.int (nI best)))) (SH, m', lm) false 0 0 := by
  have hall : allM mm nb < 2 ^ nb := mkM_lt _ nb
  have hp8 : 2 ^ nb ≤ 2 ^ 8 := Nat.pow_le_pow_right (by omega) h8
  have hall8 : allM mm nb < 256 := by omega
  have abit : ∀ b, b < nb → (allM mm nb).testBit b = hgM mm b := fun b hb => by rw [mkM_bit, decide_eq_true hb, Bool.true_and]
  have hlen : ∀ b, b < 8 → (allM mm nb).testBit b = true → 0 < len b := fun b hb hs => by
    have hbn : b < nb := by
      rw [mkM_bit, Bool.and_eq_true, decide_eq_true_eq] at hs; exact hs.1
    rw [abit b hbn] at hs
    rcases hl b hbn with ⟨z, -⟩ | ⟨-, i, -, -, -, z, -⟩
    · exact absurd z (of_decide_eq_true hs)
    · exact z
  have hsle : ∀ s, sumM len (allM mm nb) s ≤ 1000000 := fun s => by
    by_cases h : Sb s (allM mm nb)
    · rw [sumM_in h]
      have h1 : wsum s len ≤ fb_sm (fun _ => 5200) 8 := fb_sm_le fun b hb => by
        by_cases hs : s.testBit b = true
        · rw [if_pos hs]
          have hs2 := h b hs
          have hbn : b < nb := by rw [mkM_bit, Bool.and_eq_true, decide_eq_true_eq] at hs2; exact hs2.1
          rcases hl b hbn with ⟨-, z⟩ | ⟨-, i, -, -, -, -, z⟩
          · omega
          · exact z
        · rw [if_neg hs]; exact Nat.zero_le _
      have h2 : fb_sm (fun _ => 5200) 8 = 41600 := by decide
      omega
    · rw [sumM_out h]; exact Nat.le_refl _
  -- bell by bell
  have bells : ∀ best, best < 1000000 → ∀ k, k ≤ nb → ∀ m u a op, MbR mm len cap u R (allM mm nb) m → GdR len cap R (allM mm nb) best k u a op → (∀ b, b < k → (allM mm nb).testBit b = true → m 83 b = nI (a b)) → ∃ m' u a op', MbR mm len cap u R (allM mm nb) m' ∧ GdR len cap R (allM mm nb) best nb u a op' ∧ (∀ b, b < nb → (allM mm nb).testBit b = true → m' 83 b = nI (a b)) ∧
      J G M_X10_cutting 46 [(0, .ref 63), (1, .int (nI (hiM (allM mm nb) k))), (2, .int (nI best)), (3, .int (nI op)), (4, .int (nI k))] [] (SH, m, lm) false (.inl (some (.int (nI best)))) (SH, m', lm) false 0 0 := by
    intro best hbest
    refine loop_up (n := nb) ?_ ?_
    · intro m u a op hM hG h83
      exact ⟨m, u, a, op, hM, hG, h83, bX10_cutting_46 ⟨fun _ => ⟨rfl, rfl⟩, fun z => absurd (by rw [hM.1 63 (by omega), hnb]; exact Int32.le_refl _) z⟩⟩
    · intro k hk ih m u a op hM hG h83
      have hk8 : k < 8 := by omega
      have lim : ¬ m 63 8 ≤ nI k := by rw [hM.1 63 (by omega), hnb]; exact nI_ge hk (by omega)
      have lim2 : ¬ (1000000 : Int32) ≤ nI best := lit_ge (n := 1000000) rfl hbest (by omega)
      have hop : op ≤ best := by have := hG.2.2.1; omega
      have hg := cm_hangs (G := G) (mm := m) (lm := lm) hk8
      rw [hM.1 64 (by omega)] at hg
      rcases hl k hk with ⟨z, -⟩ | ⟨z, i, hi, hn, hln, hl0, hl5⟩
      · have hx : (allM mm nb).testBit k = false := by rw [abit k hk]; exact decide_eq_false (fun y => y z)
        have eh : hiM (allM mm nb) (k + 1) = hiM (allM mm nb) k := ext8 (hi_lt _ _) (hi_lt _ _) fun b hb => by
          rw [hi_bit hb, hi_bit hb]
          by_cases e : b = k
          · subst e; rw [hx]; rfl
          · have e2 : decide (k ≤ b) = decide (k + 1 ≤ b) := by rw [decide_eq_decide]; omega
            rw [e2]
        obtain ⟨m', u', a', op', g1, g2, g3, g4⟩ := ih m u a op hM (gd_skip hk8 hx hG) (fun b hb hs => by
          by_cases e : b = k
          · subst e; rw [hx] at hs; cases hs
          · exact h83 b (by omega) hs)
        rw [eh] at g4
        exact ⟨m', u', a', op', g1, g2, g3, bX10_cutting_46 ⟨fun y => absurd y lim, fun _ => ⟨fun y => absurd y lim2, fun _ => ⟨_, hg, fun y => absurd z (bI_1.mp y), fun _ => by rw [nI_1]; exact g4⟩⟩⟩⟩
      · have hx : (allM mm nb).testBit k = true := by rw [abit k hk]; exact decide_eq_true z
        have sk : Sb (2 ^ k) (hiM (allM mm nb) k) := fun b hb => by
          rw [Nat.testBit_two_pow, decide_eq_true_eq] at hb
          subst hb
          rw [hi_bit hk8, hx]; simp
        have eh : hiM (allM mm nb) k ^^^ 2 ^ k = hiM (allM mm nb) (k + 1) := by
          refine ext8 (Nat.lt_of_le_of_lt (sb_le (sb_xor sk)) (hi_lt _ _)) (hi_lt _ _) fun b hb => ?_
          rw [xor_bit sk, hi_bit hb, hi_bit hb, Nat.testBit_two_pow]
          by_cases e : b = k
          · subst e; simp
          · have e2 : decide (k ≤ b) = decide (k + 1 ≤ b) := by rw [decide_eq_decide]; omega
            rw [e2, decide_eq_false (show ¬ k = b from fun y => e y.symm)]; simp
        have hex := gd_ex hk8 hx hl0 hG
        obtain ⟨m2, p, p1, p2, p3, p4, p5, p6, ct⟩ := cm_choose (G := G) (lm := lm) hM hall8 (hi_sb (k := k + 1)) hk8 hi hn hln hl0 hl5 (by omega) hex
        obtain ⟨m', u', a', op', g1, g2, g3, g4⟩ := ih m2 _ _ _ p4 (gd_step hk8 hx hlen hR8 hG p1 p2 p3) (fun b hb hs => by
          by_cases e : b = k
          · subst e; rw [updN_at]; exact p5
          · rw [updN_ne e, p6 b e]; exact h83 b (by omega) hs)
        have ex : nI (hiM (allM mm nb) k) &&& ((1 <<< (nI k &&& 31)) ^^^ (-1)) = nI (hiM (allM mm nb) (k + 1)) := by
          rw [nI_shl k hk8, andn_nI sk, eh]
        exact ⟨m', u', a', op', g1, g2, g3, bX10_cutting_46 ⟨fun y => absurd y lim, fun _ => ⟨fun y => absurd y lim2, fun _ => ⟨_, hg, fun _ => ⟨_, m2, by rw [ex]; exact ct, by rw [ex, nI_1]; exact g4⟩, fun y => absurd z (bI_0.mp y)⟩⟩⟩⟩
  obtain ⟨m3, s1, s2, ct3⟩ := cm_laySums (G := G) (lm := lm) hnb h8 hl
  have zero := loop_up (n := 8) (P := fun p => ∀ m, (∀ c, c ≠ 82 → m c = m3 c) → (∀ r, r < p → m 82 r = 0) → ∃ m' best, (∀ c, c < 81 ∨ 84 < c → m' c = mm c) ∧ best ≤ 1000000 ∧ (∀ v, v < 1000000 → (best ≤ v ↔ ∃ a, VaC len cap R (allM mm nb) a ∧ usA R (allM mm nb) a ≤ v)) ∧
    (best < 1000000 → ∃ u a op, MbR mm len cap u R (allM mm nb) m' ∧ GdR len cap R (allM mm nb) best nb u a op ∧ ∀ b, b < nb → (allM mm nb).testBit b = true → m' 83 b = nI (a b)) ∧
    J G M_X10_cutting 6 [(0, .ref 63), (1, .int (nI p))] [] (SH, m, lm) false (.inl (some (.int (nI best)))) (SH, m', lm) false 0 0) ?_ ?_ 0 (Nat.zero_le _) m3 (fun _ _ => rfl) (fun r hr => absurd hr (Nat.not_lt_zero r))
  · obtain ⟨m', best, g1, g2, g3, g4, g5⟩ := zero
    exact ⟨m', best, g1, g2, g3, g4, CJ (bX10_cutting_0 ⟨m3, ct3, g5⟩)⟩
  · intro m hm h82
    have mc : ∀ c, c < 81 ∨ 84 < c → m c = mm c := fun c hc => by rw [hm c (by omega), s1 c (by omega)]
    have hM : MbR mm len cap (fun _ => 0) R (allM mm nb) m := ⟨mc, ⟨hR, hR8⟩, hcap, fun r hr => ⟨h82 r hr, Nat.zero_le _⟩, fun s hs => by rw [hm 84 (by decide)]; exact s2 s hs, hsle⟩
    obtain ⟨m6, F, f1, f2, f3, ct⟩ := cm_layFewest (G := G) (lm := lm) hall8 hM
    obtain ⟨F1, F2⟩ := f2 _ hall8
    have hF := f3 _ (sb_refl _)
    have ch := cm_hanging (G := G) (mm := m) (lm := lm) ((congrFun (mc 63 (by omega)) 8).trans hnb) h8
    have ea : allM m nb = allM mm nb := by
      have e : hgM m = hgM mm := by unfold hgM; rw [mc 64 (by omega)]
      unfold allM; rw [e]
    rw [ea] at ch
    have gal : ∀ v, v < 1000000 → (F (allM mm nb) ≤ v ↔ ∃ a, VaC len cap R (allM mm nb) a ∧ usA R (allM mm nb) a ≤ v) := fun v hv => by
      rw [hF v hv]
      exact ⟨fun ⟨a, a1, a2⟩ => ⟨a, vm0.mp a1, by rw [← nw0 (R := R)]; exact a2⟩, fun ⟨a, a1, a2⟩ => ⟨a, vm0.mpr a1, by rw [nw0]; exact a2⟩⟩
    have m6c : ∀ c, c < 81 ∨ 84 < c → m6 c = mm c := fun c hc => by rw [f1 c (by omega)]; exact mc c hc
    by_cases hbest : F (allM mm nb) < 1000000
    · have hM6 : MbR mm len cap (fun _ => 0) R (allM mm nb) m6 := ⟨m6c, ⟨hR, hR8⟩, hcap, fun r hr => by rw [f1 82 (by decide)]; exact hM.2.2.2.1 r hr, fun s hs => by rw [f1 84 (by decide)]; exact hM.2.2.2.2.1 s hs, hsle⟩
      have eh : hiM (allM mm nb) 0 = allM mm nb := ext8 (hi_lt _ _) hall8 fun b hb => by rw [hi_bit hb]; simp
      obtain ⟨m', u', a', op', g1, g2, g3, g4⟩ := bells _ hbest 0 (Nat.zero_le _) m6 _ (fun _ => 0) _ hM6 (gd_start hall8 ((hF _ hbest).mp (Nat.le_refl _))) (fun b hb => absurd hb (Nat.not_lt_zero b))
      rw [eh] at g4
      exact ⟨m', F (allM mm nb), g1.1, F2, gal, fun _ => ⟨u', a', op', g1, g2, g3⟩, bX10_cutting_6 ⟨fun _ => ⟨_, ch, m6, ct, _, rfl, by omega, by rw [F1]; exact g4⟩, fun z => absurd (lit_le (n := 8) rfl) z⟩⟩
    · have hF9 : F (allM mm nb) = 1000000 := by omega
      refine ⟨m6, F (allM mm nb), m6c, F2, gal, fun z => absurd z hbest, bX10_cutting_6 ⟨fun _ => ⟨_, ch, m6, ct, _, rfl, by omega, ?_⟩, fun z => absurd (lit_le (n := 8) rfl) z⟩⟩
      rw [F1]
      by_cases hz : nb = 0
      · exact bX10_cutting_46 ⟨fun _ => ⟨rfl, rfl⟩, fun z => absurd (by rw [m6c 63 (by omega), hnb, hz]; exact Int32.le_refl _) z⟩
      · exact bX10_cutting_46 ⟨fun z => absurd z (by rw [m6c 63 (by omega), hnb]; exact nI_ge (a := 0) (by omega) (by omega)), fun _ => ⟨fun _ => ⟨rfl, rfl⟩, fun z => absurd (by rw [hF9]; exact Int32.le_refl _) z⟩⟩
  · intro p hp ih m hm h82
    obtain ⟨m', best, g1, g2, g3, g4, g5⟩ := ih (mset m 82 p 0) (fun c hc => by rw [mset_ne hc]; exact hm c hc) (fun r hr => by
      by_cases e : r = p
      · subst e; exact mset_eq
      · rw [mset_ne2 (fun z => e z.2)]; exact h82 r (by omega))
    exact ⟨m', best, g1, g2, g3, g4, bX10_cutting_6 ⟨fun z => absurd z (lit_ge (n := 8) rfl hp (by omega)), fun _ => ⟨p, rfl, hp, by rw [nI_1]; exact g5⟩⟩⟩
end Choose
