/-! ===== the class's least costs ===== -/
section Cut
variable {G : Gx} {mm : Nat → Nat → Int32} {lm : Nat → Int64} {nb nm np : Nat} {len cap : Nat → Nat}
/-- pieces as the class's numbers have them -/
def CapC (mm : Nat → Nat → Int32) (np : Nat) (cap : Nat → Nat) : Prop := mm 4 11 = nI np ∧ np ≤ 8 ∧ ∀ p, p < np → mm 12 p = nI (cap p) ∧ cap p ≤ 9999
theorem ws_bd {len : Nat → Nat} (hl : ∀ b, b < 8 → len b ≤ 5200) (s : Nat) : wsum s len ≤ 41600 := by
  have h1 : wsum s len ≤ fb_sm (fun _ => 5200) 8 := fb_sm_le fun b hb => by
    by_cases hs : s.testBit b = true
    · rw [if_pos hs]; exact hl b hb
    · rw [if_neg hs]; exact Nat.zero_le _
  have h2 : fb_sm (fun _ => 5200) 8 = 41600 := by decide
  omega
/-- the sets under way: sums, and the old costs w0 of the sets up to s -/
def Off (mm : Nat → Nat → Int32) (len cap w0 : Nat → Nat) (nb p all s : Nat) (m : Nat → Nat → Int32) : Prop :=
  EqR mm m ∧ m 44 5 = nI all ∧ (∀ t, t < 2 ^ nb → m 45 t = nI (wsum t len) ∧ m 46 t = nI (onesA t)) ∧ (∀ t, Sb t all → t ≤ s → m 47 t = nI (w0 t)) ∧ ∀ t, Sb t all → s < t → NewV len cap w0 p t 0 (m 47 t)
theorem c_offerPiece (h8 : nb ≤ 8) (hl : ∀ b, b < 8 → len b ≤ 5200) (hc : CapC mm np cap) {p all : Nat} {w0 : Nat → Nat} (hp : p < np) (hall : all < 2 ^ nb) (hw : ∀ t, Sb t all → w0 t ≤ 2147483647 ∧ (w0 t < 2147483647 → w0 t < 150994944)) {m : Nat → Nat → Int32} (h : Off mm len cap w0 nb p all all m) :
    ∃ m', (EqR mm m' ∧ m' 44 5 = nI all ∧ (∀ t, t < 2 ^ nb → m' 45 t = nI (wsum t len) ∧ m' 46 t = nI (onesA t)) ∧ ∀ t, Sb t all → NewV len cap w0 p t 0 (m' 47 t)) ∧ Ct G M_X5_offerPiece [.ref 44, .int (nI p)] (SH, m, lm) false (.inl none) (SH, m', lm) false 0 0 := by
  have hp8 : 2 ^ nb ≤ 2 ^ 8 := Nat.pow_le_pow_right (by omega) h8
  obtain ⟨hnp, hnp8, hcap⟩ := hc
  have hsub : ∀ t, Sb t all → t < 256 := fun t ht => by have := sb_le ht; omega
  have key : ∀ s, Sb s all → ∀ m, Off mm len cap w0 nb p all s m → ∃ m', (EqR mm m' ∧ m' 44 5 = nI all ∧ (∀ t, t < 2 ^ nb → m' 45 t = nI (wsum t len) ∧ m' 46 t = nI (onesA t)) ∧ ∀ t, Sb t all → NewV len cap w0 p t 0 (m' 47 t)) ∧ J G M_X5_offerPiece 5 [(0, .ref 44), (1, .int (nI p)), (2, .int (nI s))] [] (SH, m, lm) false (.inl none) (SH, m', lm) false 0 0 := by
    intro s
    induction s using Nat.strongRecOn with
    | ind s ih =>
      intro hs m h
      obtain ⟨e, e44, eS, eO, eN⟩ := h
      have hs8 := hsub s hs
      by_cases h0 : s = 0
      · subst h0
        refine ⟨m, ⟨e, e44, eS, fun t ht => ?_⟩, bX5_offerPiece_5 ⟨fun _ => ⟨rfl, rfl⟩, fun z => absurd (by decide) z⟩⟩
        by_cases ht0 : t = 0
        · subst ht0
          refine ⟨w0 0, eO 0 (sb_zero all) (Nat.le_refl _), (hw 0 (sb_zero all)).1, fun v hv => ⟨Or.inl, fun z => z.elim id fun ⟨c, c1, c2, _⟩ => ?_⟩⟩
          have := sb_le c2
          omega
        · exact eN t ht (by omega)
      · -- the parts of s
        have inner : ∀ cut, Sb cut s → ∀ m, EqR mm m → m 44 5 = nI all → (∀ t, t < 2 ^ nb → m 45 t = nI (wsum t len) ∧ m 46 t = nI (onesA t)) → (∀ t, Sb t all → t < s → m 47 t = nI (w0 t)) → (∀ t, Sb t all → s < t → NewV len cap w0 p t 0 (m 47 t)) → NewV len cap w0 p s cut (m 47 s) →
            ∃ m', (EqR mm m' ∧ m' 44 5 = nI all ∧ (∀ t, t < 2 ^ nb → m' 45 t = nI (wsum t len) ∧ m' 46 t = nI (onesA t)) ∧ ∀ t, Sb t all → NewV len cap w0 p t 0 (m' 47 t)) ∧ J G M_X5_offerPiece 11 [(0, .ref 44), (1, .int (nI p)), (2, .int (nI s)), (3, .int (nI cut))] [] (SH, m, lm) false (.inl none) (SH, m', lm) false 0 0 := by
          intro cut
          induction cut using Nat.strongRecOn with
          | ind cut ihc =>
            intro hcut m e e44 eS eO eN eC
            have hcs := sb_le hcut
            have hca : Sb cut all := sb_trans hcut hs
            have hcall := sb_le hca
            by_cases c0 : cut = 0
            · subst c0
              have hnx : Sb ((s - 1) &&& all) all := fun b hb => by
                rw [Nat.testBit_and, Bool.and_eq_true] at hb; exact hb.2
              have hlt : (s - 1) &&& all < s := by have := Nat.and_le_left (n := s - 1) (m := all); omega
              obtain ⟨m', q1, q2⟩ := ih _ hlt hnx m ⟨e, e44, eS, fun t ht hts => eO t ht (by omega), fun t ht hts => by
                rcases Nat.lt_trichotomy t s with w | w | w
                · have := sb_next hs (by omega) ht w
                  omega
                · rw [w]; exact eC
                · exact eN t ht w⟩
              refine ⟨m', q1, bX5_offerPiece_11 ⟨fun _ => ?_, fun z => absurd (by decide) z⟩⟩
              have es : (nI s - 1) &&& m 44 5 = nI ((s - 1) &&& all) := by
                rw [e44, show (1 : Int32) = nI 1 from rfl, pk_sub (by omega), fa_and]
              rw [es]; exact q2
            · have hnx : Sb ((cut - 1) &&& s) s := fun b hb => by
                rw [Nat.testBit_and, Bool.and_eq_true] at hb; exact hb.2
              have hlt : (cut - 1) &&& s < cut := by have := Nat.and_le_left (n := cut - 1) (m := s); omega
              have ec : (nI cut - 1) &&& nI s = nI ((cut - 1) &&& s) := by
                rw [show (1 : Int32) = nI 1 from rfl, pk_sub (by omega), fa_and]
              have hx : Sb (s ^^^ cut) all := sb_trans (sb_xor hcut) hs
              have hxlt : s ^^^ cut < s := by
                refine Nat.lt_of_le_of_ne (sb_le (sb_xor hcut)) fun z => ?_
                obtain ⟨b, b1, b2⟩ := ex_bit (by omega : cut < 256) (by omega)
                have b3 := hcut b b2
                rw [← z, xor_bit hcut, b2] at b3
                simp at b3
              have hrow := eO _ hx hxlt
              have hwx := hw _ hx
              have hT := eS cut (by omega)
              have hcp := (hcap p hp)
              have e12 : m 12 p = nI (cap p) := by rw [eqR_row e (c := 12) (fun _ => rfl)]; exact hcp.1
              have hTle := ws_bd hl cut
              have eand : nI s &&& (nI cut ^^^ (-1)) = nI (s ^^^ cut) := andn_nI hcut
              -- the parts looked at are those from cut on
              have parts : ∀ c, (((cut - 1) &&& s < c ∧ Sb c s) ↔ (cut < c ∨ c = cut) ∧ Sb c s) := fun c => by
                refine ⟨fun ⟨z1, z2⟩ => ⟨?_, z2⟩, fun ⟨z1, z2⟩ => ⟨by omega, z2⟩⟩
                rcases Nat.lt_trichotomy c cut with w | w | w
                · have := sb_next hcut (by omega) z2 w
                  omega
                · exact Or.inr w
                · exact Or.inl w
              -- when the part doesn't serve
              have skip : ¬ (wsum cut len ≤ cap p ∧ w0 (s ^^^ cut) < 2147483647) → NewV len cap w0 p s ((cut - 1) &&& s) (m 47 s) := by
                intro hno
                obtain ⟨v1, x1, x2, x3⟩ := eC
                refine ⟨v1, x1, x2, fun v hv => ?_⟩
                rw [x3 v hv]
                refine ⟨fun z => z.elim Or.inl fun ⟨c, y1, y2, y3⟩ => Or.inr ⟨c, by omega, y2, y3⟩, fun z => z.elim Or.inl fun ⟨c, y1, y2, y3, y4, y5⟩ => ?_⟩
                obtain ⟨w1, -⟩ := (parts c).mp ⟨y1, y2⟩
                rcases w1 with w1 | w1
                · exact Or.inr ⟨c, w1, y2, y3, y4, y5⟩
                · rw [w1] at y3 y4; exact absurd ⟨y3, y4⟩ hno
              by_cases hfit : wsum cut len ≤ cap p
              · by_cases hfin : w0 (s ^^^ cut) < 2147483647
                · have hb := hwx.2 hfin
                  have ho := ones_le cut
                  have hpo : p * onesA cut ≤ 7 * 2396745 := Nat.mul_le_mul (by omega) ho
                  have cand : nI (w0 (s ^^^ cut)) + 16777216 + nI p * nI (onesA cut) = nI (w0 (s ^^^ cut) + 16777216 + p * onesA cut) := by
                    rw [show (16777216 : Int32) = nI 16777216 from rfl, nI_mul, nI_add, nI_add]
                  obtain ⟨v1, x1, x2, x3⟩ := eC
                  have cm := c_min (G := G) (mm := m) (lm := lm) (nI v1) (nI (w0 (s ^^^ cut) + 16777216 + p * onesA cut))
                  have hv2 : (if nI (w0 (s ^^^ cut) + 16777216 + p * onesA cut) < nI v1 then nI (w0 (s ^^^ cut) + 16777216 + p * onesA cut) else nI v1) = nI (min v1 (w0 (s ^^^ cut) + 16777216 + p * onesA cut)) := by
                    by_cases z : w0 (s ^^^ cut) + 16777216 + p * onesA cut < v1
                    · rw [if_pos (nI_lt z (by omega)), Nat.min_eq_right (by omega)]
                    · rw [if_neg (nI_nlt (by omega) (by omega)), Nat.min_eq_left (by omega)]
                  rw [hv2] at cm
                  obtain ⟨m', q1, q2⟩ := ihc _ hlt hnx (mset m 47 s (nI (min v1 (w0 (s ^^^ cut) + 16777216 + p * onesA cut)))) (e.mset rfl) (by rw [mset_ne (by decide)]; exact e44) (fun t ht => by rw [mset_ne (by decide), mset_ne (by decide)]; exact eS t ht) (fun t ht hts => by rw [mset_ne2 (fun z => by omega)]; exact eO t ht hts) (fun t ht hts => by rw [mset_ne2 (fun z => by omega)]; exact eN t ht hts) (by
                    rw [mset_eq]
                    refine ⟨_, rfl, by omega, fun v hv => ?_⟩
                    have mi : min v1 (w0 (s ^^^ cut) + 16777216 + p * onesA cut) ≤ v ↔ v1 ≤ v ∨ w0 (s ^^^ cut) + 16777216 + p * onesA cut ≤ v := by omega
                    rw [mi, x3 v hv]
                    constructor
                    · rintro ((z | ⟨c, y1, y2, y3⟩) | z)
                      · exact Or.inl z
                      · exact Or.inr ⟨c, by omega, y2, y3⟩
                      · exact Or.inr ⟨cut, hlt, hcut, hfit, hfin, z⟩
                    · rintro (z | ⟨c, y1, y2, y3, y4, y5⟩)
                      · exact Or.inl (Or.inl z)
                      · obtain ⟨w1, -⟩ := (parts c).mp ⟨y1, y2⟩
                        rcases w1 with w1 | w1
                        · exact Or.inl (Or.inr ⟨c, w1, y2, y3, y4, y5⟩)
                        · rw [w1] at y5; exact Or.inr y5)
                  refine ⟨m', q1, bX5_offerPiece_11 ⟨fun z => absurd z (nI_ge (a := 0) (by omega) (by omega)), fun _ => ⟨s ^^^ cut, eand, by omega, cut, rfl, by omega, p, rfl, by omega, fun z => absurd z (by rw [e12, hT.1]; exact nI_nlt hfit (by omega)), fun _ => ⟨fun z => absurd z (by rw [hrow]; exact fun y => by have := (nI_eq (b := 2147483647) (by omega) (by omega)).mp y; omega), fun _ => ⟨cut, rfl, by omega, s, rfl, hs8, _, by rw [x1, hrow, hT.2, cand]; exact cm, s, rfl, hs8, by rw [ec]; exact q2⟩⟩⟩⟩⟩
                · have heq : w0 (s ^^^ cut) = 2147483647 := by omega
                  obtain ⟨m', q1, q2⟩ := ihc _ hlt hnx m e e44 eS eO eN (skip fun z => hfin z.2)
                  exact ⟨m', q1, bX5_offerPiece_11 ⟨fun z => absurd z (nI_ge (a := 0) (by omega) (by omega)), fun _ => ⟨s ^^^ cut, eand, by omega, cut, rfl, by omega, p, rfl, by omega, fun _ => by rw [ec]; exact q2, fun _ => ⟨fun _ => by rw [ec]; exact q2, fun z => absurd (by rw [hrow, heq]; rfl) z⟩⟩⟩⟩
              · obtain ⟨m', q1, q2⟩ := ihc _ hlt hnx m e e44 eS eO eN (skip fun z => hfit z.1)
                exact ⟨m', q1, bX5_offerPiece_11 ⟨fun z => absurd z (nI_ge (a := 0) (by omega) (by omega)), fun _ => ⟨s ^^^ cut, eand, by omega, cut, rfl, by omega, p, rfl, by omega, fun _ => by rw [ec]; exact q2, fun z => absurd (by rw [e12, hT.1]; exact nI_lt (by omega) (by omega)) z⟩⟩⟩
        obtain ⟨m', q1, q2⟩ := inner s (sb_refl s) m e e44 eS (fun t ht hts => eO t ht (by omega)) eN ⟨w0 s, eO s hs (Nat.le_refl _), (hw s hs).1, fun v hv => ⟨Or.inl, fun z => z.elim id fun ⟨c, c1, c2, _⟩ => by have := sb_le c2; omega⟩⟩
        exact ⟨m', q1, bX5_offerPiece_5 ⟨fun z => absurd z (nI_ge (a := 0) (by omega) (by omega)), fun _ => q2⟩⟩
  obtain ⟨m', q1, q2⟩ := key all (sb_refl all) m h
  exact ⟨m', q1, CJ (bX5_offerPiece_0 (by rw [h.2.1]; exact q2))⟩
/-- the class's costs of all sets of bells that hang -/
def CutC (mm : Nat → Nat → Int32) (len cap : Nat → Nat) (nb P all : Nat) (m : Nat → Nat → Int32) (w : Nat → Nat) : Prop :=
  EqR mm m ∧ m 44 5 = nI all ∧ (∀ t, t < 2 ^ nb → m 45 t = nI (wsum t len) ∧ m 46 t = nI (onesA t)) ∧ ∀ t, Sb t all → m 47 t = nI (w t) ∧ w t ≤ 2147483647 ∧ LcA len cap P w t
theorem c_findCutting (hnb : mm 4 9 = nI nb) (h8 : nb ≤ 8) (hnm : mm 4 8 = nI nm) (h4 : nm ≤ 4) (hlc : LenC mm nb nm len) (hl : ∀ b, b < 8 → len b ≤ 5200) (hc : CapC mm np cap) : ∃ m' w, CutC mm len cap nb np (allH mm nb) m' w ∧ Ct G M_X5_findCutting [.ref 44] (SH, mm, lm) false (.inl (some (.int (bI (¬ w (allH mm nb) = 2147483647))))) (SH, m', lm) false 0 0 := by
  have hp8 : 2 ^ nb ≤ 2 ^ 8 := Nat.pow_le_pow_right (by omega) h8
  have hall : allH mm nb < 2 ^ nb := mkM_lt (hgB mm) nb
  obtain ⟨hnp, hnp8, hcap⟩ := id hc
  -- the pieces
  have pieces := loop_up (n := np) (P := fun p => ∀ m w, CutC mm len cap nb p (allH mm nb) m w → ∃ m' w, CutC mm len cap nb np (allH mm nb) m' w ∧ J G M_X5_findCutting 37 [(0, .ref 44), (1, .int (nI p))] [] (SH, m, lm) false (.inl (some (.int (bI (¬ w (allH mm nb) = 2147483647))))) (SH, m', lm) false 0 0) ?_ ?_ 0 (Nat.zero_le _)
  · obtain ⟨m1, hS, ct1⟩ := c_measureSets (G := G) (lm := lm) hnb h8 hnm h4 hlc
    obtain ⟨e, -, e44, eS⟩ := hS
    have fill := loop_up (n := 256) (P := fun s => ∀ m, (∀ c, c ≠ 47 → m c = m1 c) → (∀ t, t < s → m 47 t = if t = 0 then 0 else 2147483647) → ∃ m' w, CutC mm len cap nb np (allH mm nb) m' w ∧ J G M_X5_findCutting 6 [(0, .ref 44), (1, .int (nI s))] [] (SH, m, lm) false (.inl (some (.int (bI (¬ w (allH mm nb) = 2147483647))))) (SH, m', lm) false 0 0) ?_ ?_ 0 (Nat.zero_le _) m1 (fun _ _ => rfl) (fun t ht => absurd ht (Nat.not_lt_zero t))
    · obtain ⟨m', w, q1, q2⟩ := fill
      exact ⟨m', w, q1, CJ (bX5_findCutting_0 ⟨m1, ct1, q2⟩)⟩
    · intro m hm h47
      obtain ⟨m', w, q1, q2⟩ := pieces m (fun t => if t = 0 then 0 else 2147483647) ⟨fun c j hc => by
        by_cases h : c = 47
        · subst h; cases hc
        · rw [hm c h]; exact e c j hc, by rw [hm 44 (by decide)]; exact e44, fun t ht => by rw [hm 45 (by decide), hm 46 (by decide)]; exact eS t ht, fun t ht => by
        have h1 := sb_le ht
        refine ⟨?_, by show (if t = 0 then 0 else 2147483647) ≤ 2147483647; split <;> omega, lc_start (by omega) rfl⟩
        show m 47 t = nI (if t = 0 then 0 else 2147483647)
        rw [h47 t (by omega)]
        by_cases h0 : t = 0
        · rw [if_pos h0, if_pos h0]; rfl
        · rw [if_neg h0, if_neg h0]; rfl⟩
      exact ⟨m', w, q1, bX5_findCutting_6 ⟨fun _ => q2, fun z => absurd (lit_le (n := 256) rfl) z⟩⟩
    · intro s hs ih m hm h47
      have lim : ¬ (256 : Int32) ≤ nI s := lit_ge (n := 256) rfl hs (by omega)
      by_cases h0 : s = 0
      · subst h0
        obtain ⟨m', w, q1, q2⟩ := ih (mset m 47 0 0) (fun c hc => by rw [mset_ne hc]; exact hm c hc) (fun t ht => by
          have : t = 0 := by omega
          subst this
          rw [mset_eq, if_pos rfl])
        exact ⟨m', w, q1, bX5_findCutting_6 ⟨fun z => absurd z lim, fun _ => ⟨fun z => absurd rfl z, fun _ => ⟨0, rfl, by decide, by rw [nI_1]; exact q2⟩⟩⟩⟩
      · obtain ⟨m', w, q1, q2⟩ := ih (mset m 47 s 2147483647) (fun c hc => by rw [mset_ne hc]; exact hm c hc) (fun t ht => by
          by_cases hts : t = s
          · subst hts; rw [mset_eq, if_neg h0]
          · rw [mset_ne2 (fun z => hts z.2)]; exact h47 t (by omega))
        exact ⟨m', w, q1, bX5_findCutting_6 ⟨fun z => absurd z lim, fun _ => ⟨fun _ => ⟨s, rfl, hs, by rw [nI_1]; exact q2⟩, fun z => absurd z (nI_ne0 (by omega) (by omega))⟩⟩⟩
  · intro m w h
    obtain ⟨e, e44, eS, eW⟩ := id h
    obtain ⟨a1, a2, -⟩ := eW (allH mm nb) (sb_refl _)
    have enp : m 4 11 = nI np := (e 4 11 rfl).trans hnp
    refine ⟨m, w, h, bX5_findCutting_37 ⟨fun _ => ⟨allH mm nb, e44, by omega, fun z => ?_, fun z => ?_⟩, fun z => absurd (le_nI' enp) z⟩⟩
    · have : w (allH mm nb) = 2147483647 := (nI_eq (b := 2147483647) (by omega) (by omega)).mp (a1.symm.trans z)
      rw [bI_f (fun y => y this)]; exact ⟨rfl, rfl⟩
    · have : ¬ w (allH mm nb) = 2147483647 := fun y => z (by rw [a1, y]; rfl)
      rw [bI_t this]; exact ⟨rfl, rfl⟩
  · intro p hp ih m w h
    obtain ⟨e, e44, eS, eW⟩ := h
    have enp : m 4 11 = nI np := (e 4 11 rfl).trans hnp
    obtain ⟨m2, ⟨f1, f2, f3, f5⟩, ct⟩ := c_offerPiece (G := G) (lm := lm) (mm := mm) (w0 := w) h8 hl hc hp hall (fun t ht => ⟨(eW t ht).2.1, fun z => lc_le (by omega) (eW t ht).2.2 z⟩) (m := m) ⟨e, e44, eS, fun t ht _ => (eW t ht).1, fun t ht h => absurd (sb_le ht) (by omega)⟩
    have hch : ∃ w2 : Nat → Nat, ∀ t, Sb t (allH mm nb) → m2 47 t = nI (w2 t) ∧ w2 t ≤ 2147483647 ∧ ∀ v, v < 2147483647 → (w2 t ≤ v ↔ w t ≤ v ∨ ∃ c, 0 < c ∧ Sb c t ∧ wsum c len ≤ cap p ∧ w (t ^^^ c) < 2147483647 ∧ w (t ^^^ c) + 16777216 + p * onesA c ≤ v) := by
      refine ⟨fun t => (m2 47 t).toInt.toNat, fun t ht => ?_⟩
      obtain ⟨v1, x1, x2, x3⟩ := f5 t ht
      have ev : (m2 47 t).toInt.toNat = v1 := by rw [x1, nI_toInt (by omega)]; rfl
      simp only [ev]; exact ⟨x1, x2, x3⟩
    obtain ⟨w2, hw2⟩ := hch
    obtain ⟨m', w3, q1, q2⟩ := ih m2 w2 ⟨f1, f2, f3, fun t ht => ⟨(hw2 t ht).1, (hw2 t ht).2.1, lc_step (by have := sb_le ht; omega) (fun s' hs' => (eW s' (sb_trans hs' ht)).2.2) (hw2 t ht).2.2⟩⟩
    exact ⟨m', w3, q1, bX5_findCutting_37 ⟨fun z => absurd z (le_nI enp hp (by omega)), fun _ => ⟨m2, ct, by rw [nI_1]; exact q2⟩⟩⟩
end Cut
