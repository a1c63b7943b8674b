/-! ===== the reference's tokens; key words ===== -/
theorem tk_in {b : Nat → Nat} {n p : Nat} (hp : p ≤ n) : p ≤ (tk b n p).s ∧ (tk b n p).s ≤ (tk b n p).e ∧ (tk b n p).e ≤ n ∧ (¬ (tk b n p).k = 0 → (tk b n p).s < (tk b n p).e) := by
  have h := run_in (f := isBl) (b := b) (n := n) p hp
  unfold tk
  generalize runT isBl b n p = s at h ⊢
  unfold tkS
  by_cases hs : n ≤ s
  · rw [if_pos hs]; exact ⟨h.1, Nat.le_refl _, h.2, fun z => absurd rfl z⟩
  rw [if_neg hs]
  have hs' : s < n := by omega
  by_cases hl : isLe (b s) = true
  · rw [if_pos hl]
    have q := run_in (f := isLe) (b := b) (n := n) (s + 1) (by omega)
    rw [← run_go hs' hl] at q
    exact ⟨h.1, by show s ≤ runT isLe b n s; omega, q.2, fun _ => by show s < runT isLe b n s; omega⟩
  rw [if_neg hl]
  by_cases hd : isDi (b s) = true
  · rw [if_pos hd]
    have q := run_in (f := isDi) (b := b) (n := n) (s + 1) (by omega)
    rw [← run_go hs' hd] at q
    by_cases h5 : 5 < runT isDi b n s - s
    · rw [if_pos h5]; exact ⟨h.1, by show s ≤ runT isDi b n s; omega, q.2, fun _ => by show s < runT isDi b n s; omega⟩
    · rw [if_neg h5]; exact ⟨h.1, by show s ≤ runT isDi b n s; omega, q.2, fun _ => by show s < runT isDi b n s; omega⟩
  rw [if_neg hd]
  by_cases hq : b s = 59
  · rw [if_pos hq]; exact ⟨h.1, by show s ≤ s + 1; omega, hs', fun _ => by show s < s + 1; omega⟩
  · rw [if_neg hq]; exact ⟨h.1, by show s ≤ s + 1; omega, hs', fun _ => by show s < s + 1; omega⟩
section LexM
variable {G : Gx} {mm : Nat → Nat → Int32} {lm : Nat → Int64} {n : Nat} {b : Nat → Nat}
theorem cm_isFine : Ct G M_X10_isFine [.ref 63] (SH, mm, lm) false (.inl (some (.int (bI (mm 63 24 = 0))))) (SH, mm, lm) false 0 0 :=
  CJ (bX10_isFine_0 ⟨fun z => ⟨by rw [bI_f z], rfl⟩, fun z => ⟨by rw [bI_t z], rfl⟩⟩)
theorem j_letters (hc : MB mm n b) {p : Nat} (hp : p ≤ n) (h5 : mm 63 20 = nI p) : ∃ m', FrM mm m' ∧ m' 63 21 = mm 63 21 ∧ m' 63 22 = 2 ∧ m' 63 20 = nI (runT isLe b n p) ∧ J G M_X10_next 85 [(0, .ref 63)] [] (SH, mm, lm) false (.inl none) (SH, m', lm) false 0 0 := by
  have hb : ∀ i, i < n → b i < 256 := fun i hi => (hc.2.2 i hi).1
  have hn := hc.2.1
  have stop : ∀ p, p ≤ n → ¬ (p < n ∧ isLe (b p) = true) → runT isLe b n p = p → ∀ m0, (FrM mm m0 ∧ m0 63 21 = mm 63 21) → m0 63 20 = nI p → ∃ m', FrM mm m' ∧ m' 63 21 = mm 63 21 ∧ m' 63 22 = 2 ∧ m' 63 20 = nI (runT isLe b n p) ∧ J G M_X10_next 85 [(0, .ref 63)] [] (SH, m0, lm) false (.inl none) (SH, m', lm) false 0 0 := by
    intro p hp hno hr m0 g h
    refine ⟨mset m0 63 22 2, g.1.set (by decide), by rw [mset_in (by decide)]; exact g.2, mset_eq, by rw [mset_in (by decide), hr]; exact h, bX10_next_85 ⟨_, by rw [h]; exact cm_isLetterAt (hc.fr g.1) (by omega), fun _ => ⟨rfl, rfl⟩, fun z => absurd ((mV_le hb).mp (bI_1.mp z)) hno⟩⟩
  refine loop_up (n := n) (P := fun p => ∀ m0, (FrM mm m0 ∧ m0 63 21 = mm 63 21) → m0 63 20 = nI p → ∃ m', FrM mm m' ∧ m' 63 21 = mm 63 21 ∧ m' 63 22 = 2 ∧ m' 63 20 = nI (runT isLe b n p) ∧ J G M_X10_next 85 [(0, .ref 63)] [] (SH, m0, lm) false (.inl none) (SH, m', lm) false 0 0) (stop n (Nat.le_refl _) (fun z => Nat.lt_irrefl _ z.1) (run_end (Nat.le_refl _))) ?_ p hp mm ⟨FrM.refl, rfl⟩ h5
  intro p hp ih m0 g h
  by_cases hf : isLe (b p) = true
  · obtain ⟨m', q1, q2, q3, q4, q5⟩ := ih (mset m0 63 20 (m0 63 20 + 1)) ⟨g.1.set (by decide), by rw [mset_in (by decide)]; exact g.2⟩ (by rw [mset_eq, h, nI_1])
    exact ⟨m', q1, q2, q3, by rw [run_go hp hf]; exact q4, bX10_next_85 ⟨_, by rw [h]; exact cm_isLetterAt (hc.fr g.1) (by omega), fun z => absurd ((mV_le hb).mpr ⟨hp, hf⟩) (bI_0.mp z), fun _ => q5⟩⟩
  · exact stop p (by omega) (fun z => hf z.2) (run_stop hf) m0 g h
theorem j_digits (hc : MB mm n b) {s : Nat} (hs : s ≤ n) (h5 : mm 63 20 = nI s) (h6 : mm 63 21 = nI s) (h8 : mm 63 23 = 0) : ∃ m', FrM mm m' ∧ m' 63 21 = nI s ∧ m' 63 22 = (if 5 < runT isDi b n s - s then 1 else 3) ∧ m' 63 20 = nI (runT isDi b n s) ∧ (¬ 5 < runT isDi b n s - s → m' 63 23 = nI (vlT b s (runT isDi b n s - s))) ∧ J G M_X10_next 133 [(0, .ref 63)] [] (SH, mm, lm) false (.inl none) (SH, m', lm) false 0 0 := by
  have hb : ∀ i, i < n → b i < 256 := fun i hi => (hc.2.2 i hi).1
  have hn := hc.2.1
  have stop : ∀ p, p ≤ n → ¬ (p < n ∧ isDi (b p) = true) → runT isDi b n p = p → s ≤ p → ∀ m0, (FrM mm m0 ∧ m0 63 21 = nI s) → m0 63 20 = nI p → (p - s ≤ 5 → m0 63 23 = nI (vlT b s (p - s))) → ∃ m', FrM mm m' ∧ m' 63 21 = nI s ∧ m' 63 22 = (if 5 < runT isDi b n p - s then 1 else 3) ∧ m' 63 20 = nI (runT isDi b n p) ∧ (¬ 5 < runT isDi b n p - s → m' 63 23 = nI (vlT b s (runT isDi b n p - s))) ∧ J G M_X10_next 133 [(0, .ref 63)] [] (SH, m0, lm) false (.inl none) (SH, m', lm) false 0 0 := by
    intro p hp hno hr hsp m0 g h h8
    have hd : m0 63 20 - m0 63 21 = nI (p - s) := by rw [h, g.2, nI_subN hsp]
    rw [hr]
    by_cases h5 : 5 < p - s
    · rw [if_pos h5]
      exact ⟨mset m0 63 22 1, g.1.set (by decide), by rw [mset_in (by decide)]; exact g.2, mset_eq, by rw [mset_in (by decide)]; exact h, fun z => absurd h5 z, bX10_next_133 ⟨_, by rw [h]; exact cm_isDigitAt (hc.fr g.1) (by omega), fun _ => ⟨fun z => absurd z (by rw [hd]; exact nI_ge (b := p - s) (a := 5) h5 (by omega)), fun _ => ⟨rfl, rfl⟩⟩, fun z => absurd ((mV_di hb).mp (bI_1.mp z)) hno⟩⟩
    · rw [if_neg h5]
      exact ⟨mset m0 63 22 3, g.1.set (by decide), by rw [mset_in (by decide)]; exact g.2, mset_eq, by rw [mset_in (by decide)]; exact h, fun _ => by rw [mset_in (by decide)]; exact h8 (by omega), bX10_next_133 ⟨_, by rw [h]; exact cm_isDigitAt (hc.fr g.1) (by omega), fun _ => ⟨fun _ => ⟨rfl, rfl⟩, fun z => absurd (by rw [hd]; exact nI_le (a := p - s) (b := 5) (by omega) (by omega)) z⟩, fun z => absurd ((mV_di hb).mp (bI_1.mp z)) hno⟩⟩
  refine loop_up (n := n) (P := fun p => s ≤ p → ∀ m0, (FrM mm m0 ∧ m0 63 21 = nI s) → m0 63 20 = nI p → (p - s ≤ 5 → m0 63 23 = nI (vlT b s (p - s))) → ∃ m', FrM mm m' ∧ m' 63 21 = nI s ∧ m' 63 22 = (if 5 < runT isDi b n p - s then 1 else 3) ∧ m' 63 20 = nI (runT isDi b n p) ∧ (¬ 5 < runT isDi b n p - s → m' 63 23 = nI (vlT b s (runT isDi b n p - s))) ∧ J G M_X10_next 133 [(0, .ref 63)] [] (SH, m0, lm) false (.inl none) (SH, m', lm) false 0 0) (fun hsp => stop n (Nat.le_refl _) (fun z => Nat.lt_irrefl _ z.1) (run_end (Nat.le_refl _)) hsp) ?_ s hs (Nat.le_refl _) mm ⟨FrM.refl, h6⟩ h5 (fun _ => by rw [Nat.sub_self]; exact h8)
  intro p hp ih hsp m0 g h h8
  have hd : m0 63 20 - m0 63 21 = nI (p - s) := by rw [h, g.2, nI_subN hsp]
  by_cases hf : isDi (b p) = true
  · have ct := cm_isDigitAt (G := G) (lm := lm) (hc.fr g.1) (p := p) (by omega)
    by_cases h5 : 5 ≤ p - s
    · obtain ⟨m', q1, q2, q3, q4, q5, q6⟩ := ih (by omega) (mset m0 63 20 (m0 63 20 + 1)) ⟨g.1.set (by decide), by rw [mset_in (by decide)]; exact g.2⟩ (by rw [mset_eq, h, nI_1]) (fun z => by omega)
      rw [← run_go hp hf] at q3 q4 q5
      exact ⟨m', q1, q2, q3, q4, q5, bX10_next_133 ⟨_, by rw [h]; exact ct, fun z => absurd ((mV_di hb).mpr ⟨hp, hf⟩) (bI_0.mp z), fun _ => ⟨fun _ => q6, fun z => absurd (by rw [hd]; exact nI_le (a := 5) (b := p - s) h5 (by omega)) z⟩⟩⟩
    · have hcd := (tb_di _ (hb p hp)).2.2 hf
      have hv : mV n b p = nI (b p) := by rw [mV, if_pos hp]
      obtain ⟨m', q1, q2, q3, q4, q5, q6⟩ := ih (by omega) (mset (mset m0 63 23 (10 * m0 63 23 + mV n b p - 48)) 63 20 (mset m0 63 23 (10 * m0 63 23 + mV n b p - 48) 63 20 + 1)) ⟨(g.1.set (by decide)).set (by decide), by rw [mset_in (by decide), mset_in (by decide)]; exact g.2⟩ (by rw [mset_eq, mset_in (by decide), h, nI_1]) (fun _ => by rw [mset_in (by decide), mset_eq, h8 (by omega), hv]; exact vl_step hsp hcd.2)
      rw [← run_go hp hf] at q3 q4 q5
      exact ⟨m', q1, q2, q3, q4, q5, bX10_next_133 ⟨_, by rw [h]; exact ct, fun z => absurd ((mV_di hb).mpr ⟨hp, hf⟩) (bI_0.mp z), fun _ => ⟨fun z => absurd z (by rw [hd]; exact nI_ge (b := 5) (a := p - s) (by omega) (by omega)), fun _ => ⟨_, by rw [h]; exact cm_byteAt (hc.fr g.1) (by omega), q6⟩⟩⟩⟩
  · exact stop p (by omega) (fun z => hf z.2) (run_stop hf) hsp m0 g h h8
theorem cm_next0 (he : ¬ mm 63 24 = 0) : Ct G M_X10_next [.ref 63] (SH, mm, lm) false (.inl none) (SH, mm, lm) false 0 0 :=
  CJ (bX10_next_0 ⟨_, cm_isFine, fun z => absurd (bI_1.mp z) he, fun _ => ⟨rfl, rfl⟩⟩)
theorem cm_next (hc : MB mm n b) {p : Nat} (hp : p ≤ n) (h5 : mm 63 20 = nI p) (he : mm 63 24 = 0) : ∃ m', FrM mm m' ∧ MTk m' (tk b n p) ∧ Ct G M_X10_next [.ref 63] (SH, mm, lm) false (.inl none) (SH, m', lm) false 0 0 := by
  have hb : ∀ i, i < n → b i < 256 := fun i hi => (hc.2.2 i hi).1
  have hn := hc.2.1
  have stop : ∀ s, s ≤ n → ¬ (s < n ∧ isBl (b s) = true) → ∀ m0, FrM mm m0 → m0 63 20 = nI s → ∃ m', FrM mm m' ∧ MTk m' (tkS b n s) ∧ J G M_X10_next 8 [(0, .ref 63)] [] (SH, m0, lm) false (.inl none) (SH, m', lm) false 0 0 := by
    intro s hsn hno m0 g h
    have c0 := hc.fr g
    have ct0 := cm_byteAt (G := G) (lm := lm) c0 (p := s) (by omega)
    have hbl : ¬ (mV n b s = 32 ∨ mV n b s = 10) := by
      by_cases hs' : s < n
      · rw [mV, if_pos hs', (tb_bl _ (hb s hs')).2.1]; exact fun z => hno ⟨hs', z⟩
      · rw [mV, if_neg hs']; decide
    obtain ⟨m4, hm4⟩ : ∃ m4, m4 = mset m0 63 21 (m0 63 20) := ⟨_, rfl⟩
    have g4 : FrM mm m4 := by rw [hm4]; exact g.set (by decide)
    have c4 := hc.fr g4
    have e5 : m4 63 20 = nI s := by rw [hm4, mset_in (by decide)]; exact h
    have e6 : m4 63 21 = nI s := by rw [hm4, mset_eq]; exact h
    suffices k : ∃ m', FrM mm m' ∧ MTk m' (tkS b n s) ∧ (((¬ m4 63 20 = m4 63 19) → ∃ (v8 : Int32), Ct G M_X10_isLetterAt [.ref 63, .int (m4 63 20)] (SH, m4, lm) false (.inl (some (.int v8))) (SH, m4, lm) false 0 0 ∧ ((v8 = 0) → ∃ (v11 : Int32), Ct G M_X10_isDigitAt [.ref 63, .int (m4 63 20)] (SH, m4, lm) false (.inl (some (.int v11))) (SH, m4, lm) false 0 0 ∧ ((v11 = 0) → ∃ (v14 : Int32), Ct G M_X10_byteAt [.ref 63, .int (m4 63 20)] (SH, m4, lm) false (.inl (some (.int v14))) (SH, m4, lm) false 0 0 ∧ ((¬ v14 = 59) → ((.inl none : Ou) = .inl none ∧ ((SH, m', lm) : Wd) = (SH, mset (mset m4 63 22 1) 63 20 ((mset m4 63 22 1) 63 20 + 1), lm))) ∧ ((v14 = 59) → ((.inl none : Ou) = .inl none ∧ ((SH, m', lm) : Wd) = (SH, mset (mset m4 63 22 4) 63 20 ((mset m4 63 22 4) 63 20 + 1), lm)))) ∧ ((¬ v11 = 0) → J G M_X10_next 133 [(0, .ref 63)] [] (SH, mset m4 63 23 0, lm) false (.inl none) (SH, m', lm) false 0 0)) ∧ ((¬ v8 = 0) → J G M_X10_next 85 [(0, .ref 63)] [] (SH, m4, lm) false (.inl none) (SH, m', lm) false 0 0)) ∧ ((m4 63 20 = m4 63 19) → ((.inl none : Ou) = .inl none ∧ ((SH, m', lm) : Wd) = (SH, mset m4 63 22 0, lm)))) by
      obtain ⟨m', k1, k2, k3⟩ := k
      refine ⟨m', k1, k2, bX10_next_8 ⟨_, by rw [h]; exact ct0, fun z => absurd (Or.inl z) hbl, fun _ => ⟨_, by rw [h]; exact ct0, fun _ => ?_, fun z => absurd (Or.inr z) hbl⟩⟩⟩
      rw [← hm4]; exact k3
    unfold tkS
    rw [c4.1, e5]
    by_cases hs : n ≤ s
    · have : s = n := by omega
      rw [if_pos hs]
      refine ⟨mset m4 63 22 0, g4.set (by decide), ⟨by rw [mset_in (by decide)]; exact e6, mset_eq, by rw [mset_in (by decide)]; exact e5, fun z => absurd z (show ¬ (0 : Nat) = 2 by decide)⟩, fun z => absurd (by rw [this]) z, fun _ => ⟨rfl, rfl⟩⟩
    rw [if_neg hs]
    have hs' : s < n := by omega
    have hne : ¬ nI s = nI n := fun z => by have := (nI_eq (by omega) (by omega)).mp z; omega
    have ctl := cm_isLetterAt (G := G) (lm := lm) c4 (p := s) (by omega)
    have ctd := cm_isDigitAt (G := G) (lm := lm) c4 (p := s) (by omega)
    have ct := cm_byteAt (G := G) (lm := lm) c4 (p := s) (by omega)
    by_cases hl : isLe (b s) = true
    · rw [if_pos hl]
      obtain ⟨m', q1, q2, q3, q4, q5⟩ := j_letters (G := G) (lm := lm) c4 hsn e5
      exact ⟨m', g4.trans q1, ⟨by rw [q2]; exact e6, q3, q4, fun z => absurd z (show ¬ (1 : Nat) = 2 by decide)⟩, fun _ => ⟨_, ctl, fun z => absurd ((mV_le hb).mpr ⟨hs', hl⟩) (bI_0.mp z), fun _ => q5⟩, fun z => absurd z hne⟩
    rw [if_neg hl]
    have hl' : ¬ inR 97 122 (mV n b s) := fun z => hl ((mV_le hb).mp z).2
    by_cases hd : isDi (b s) = true
    · rw [if_pos hd]
      obtain ⟨m', q1, q2, q3, q4, q5, q6⟩ := j_digits (G := G) (lm := lm) (mm := mset m4 63 23 0) (c4.fr (FrM.refl.set (by decide))) hsn (by rw [mset_in (by decide)]; exact e5) (by rw [mset_in (by decide)]; exact e6) mset_eq
      have ck : MTk m' (if 5 < runT isDi b n s - s then ⟨s, runT isDi b n s, 4, 0⟩ else ⟨s, runT isDi b n s, 2, vlT b s (runT isDi b n s - s)⟩) := by
        by_cases h5 : 5 < runT isDi b n s - s
        · rw [if_pos h5] at q3 ⊢
          exact ⟨q2, q3, q4, fun z => absurd z (show ¬ (4 : Nat) = 2 by decide)⟩
        · rw [if_neg h5] at q3 ⊢
          exact ⟨q2, q3, q4, fun _ => q5 h5⟩
      exact ⟨m', (g4.set (by decide)).trans q1, ck, fun _ => ⟨_, ctl, fun _ => ⟨_, ctd, fun z => absurd ((mV_di hb).mpr ⟨hs', hd⟩) (bI_0.mp z), fun _ => q6⟩, fun z => absurd (bI_1.mp z) hl'⟩, fun z => absurd z hne⟩
    rw [if_neg hd]
    have hd' : ¬ inR 48 57 (mV n b s) := fun z => hd ((mV_di hb).mp z).2
    have hv : mV n b s = nI (b s) := by rw [mV, if_pos hs']
    have h59 := (tb_bl _ (hb s hs')).2.2.2
    by_cases hq : b s = 59
    · rw [if_pos hq]
      refine ⟨mset (mset m4 63 22 4) 63 20 (nI (s + 1)), (g4.set (by decide)).set (by decide), ⟨by rw [mset_in (by decide), mset_in (by decide)]; exact e6, by rw [mset_in (by decide), mset_eq]; rfl, mset_eq, fun z => absurd z (show ¬ (3 : Nat) = 2 by decide)⟩, fun _ => ⟨_, ctl, fun _ => ⟨_, ctd, fun _ => ⟨_, ct, fun z => absurd (by rw [hv]; exact h59.mpr hq) z, fun _ => ⟨rfl, ?_⟩⟩, fun z => absurd (bI_1.mp z) hd'⟩, fun z => absurd (bI_1.mp z) hl'⟩, fun z => absurd z hne⟩
      rw [mset_in (by decide), e5, nI_1]
    · rw [if_neg hq]
      refine ⟨mset (mset m4 63 22 1) 63 20 (nI (s + 1)), (g4.set (by decide)).set (by decide), ⟨by rw [mset_in (by decide), mset_in (by decide)]; exact e6, by rw [mset_in (by decide), mset_eq]; rfl, mset_eq, fun z => absurd z (show ¬ (4 : Nat) = 2 by decide)⟩, fun _ => ⟨_, ctl, fun _ => ⟨_, ctd, fun _ => ⟨_, ct, fun _ => ⟨rfl, ?_⟩, fun z => absurd (h59.mp (by rw [← hv]; exact z)) hq⟩, fun z => absurd (bI_1.mp z) hd'⟩, fun z => absurd (bI_1.mp z) hl'⟩, fun z => absurd z hne⟩
      rw [mset_in (by decide), e5, nI_1]
  have key := loop_up (n := n) (P := fun p => ∀ m0, FrM mm m0 → m0 63 20 = nI p → ∃ m', FrM mm m' ∧ MTk m' (tk b n p) ∧ J G M_X10_next 8 [(0, .ref 63)] [] (SH, m0, lm) false (.inl none) (SH, m', lm) false 0 0) ?_ ?_ p hp mm FrM.refl h5
  · obtain ⟨m', q1, q2, q3⟩ := key
    exact ⟨m', q1, q2, CJ (bX10_next_0 ⟨_, cm_isFine, fun _ => q3, fun z => absurd he (bI_0.mp z)⟩)⟩
  · unfold tk; rw [run_end (Nat.le_refl _)]; exact stop n (Nat.le_refl _) (fun z => Nat.lt_irrefl _ z.1)
  · intro p hp ih m0 g h
    have ct := cm_byteAt (G := G) (lm := lm) (hc.fr g) (p := p) (by omega)
    have hv : mV n b p = nI (b p) := by rw [mV, if_pos hp]
    rw [hv] at ct
    have ht := (tb_bl _ (hb p hp)).2.1
    by_cases hf : isBl (b p) = true
    · obtain ⟨m', q1, q2, q3⟩ := ih (mset m0 63 20 (m0 63 20 + 1)) (g.set (by decide)) (by rw [mset_eq, h, nI_1])
      refine ⟨m', q1, by unfold tk at q2 ⊢; rw [run_go hp hf]; exact q2, bX10_next_8 ⟨_, by rw [h]; exact ct, fun _ => q3, fun z => ⟨_, by rw [h]; exact ct, fun y => absurd (ht.mpr hf) (fun u => u.elim z y), fun _ => q3⟩⟩⟩
    · unfold tk; rw [run_stop hf]; exact stop p (by omega) (fun z => hf z.2) m0 g h
end LexM
