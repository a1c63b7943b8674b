/-! ===== the reference's cuttings ===== -/
theorem andn_0 {x y : Int32} : x &&& (y ^^^ (-1)) = 0 ↔ x &&& y = x := by
  have e1 : (-1 : Int32).toBitVec = BitVec.allOnes 32 := by decide
  have e0 : (0 : Int32).toBitVec = 0#32 := rfl
  constructor
  · intro h
    apply Int32.toBitVec_inj.mp
    apply BitVec.eq_of_getLsbD_eq
    intro i hi
    have q := congrArg (fun z : Int32 => z.toBitVec.getLsbD i) h
    simp only [Int32.toBitVec_and, Int32.toBitVec_xor, BitVec.getLsbD_and, BitVec.getLsbD_xor, e1, e0, BitVec.getLsbD_allOnes, hi, decide_true, Bool.xor_true, BitVec.getLsbD_zero] at q
    simp only [Int32.toBitVec_and, BitVec.getLsbD_and]
    cases hx : x.toBitVec.getLsbD i <;> cases hy : y.toBitVec.getLsbD i <;> rw [hx, hy] at q <;> simp_all
  · intro h
    apply Int32.toBitVec_inj.mp
    apply BitVec.eq_of_getLsbD_eq
    intro i hi
    have q := congrArg (fun z : Int32 => z.toBitVec.getLsbD i) h
    simp only [Int32.toBitVec_and, BitVec.getLsbD_and] at q
    simp only [Int32.toBitVec_and, Int32.toBitVec_xor, BitVec.getLsbD_and, BitVec.getLsbD_xor, e1, e0, BitVec.getLsbD_allOnes, hi, decide_true, Bool.xor_true, BitVec.getLsbD_zero]
    cases hx : x.toBitVec.getLsbD i <;> cases hy : y.toBitVec.getLsbD i <;> rw [hx, hy] at q <;> simp_all
theorem sbs_dec {s t : Nat} (hs : s < 256) (ht : t < 256) : nI s &&& (nI t ^^^ (-1)) = 0 ↔ Sb s t := by
  have h1 : s &&& t ≤ s := Nat.and_le_left
  rw [andn_0, fa_and, nI_eq (by omega) (by omega), sb_and]
theorem has_bit : ∀ s, s < 256 → ∀ k, k < 8 → (((nI s >>> (nI k &&& 31)) &&& 1 = 1) ↔ s.testBit k = true) := by decide +kernel
section MRope
variable {G : Gx} {mm : Nat → Nat → Int32} {lm : Nat → Int64} {nb R : Nat} {len cap : Nat → Nat}
def hgM (mm : Nat → Nat → Int32) (k : Nat) : Bool := decide (¬ mm 64 (10 * k + 0) < 0)
abbrev allM (mm : Nat → Nat → Int32) (nb : Nat) : Nat := mkM (hgM mm) nb
def LenM (mm : Nat → Nat → Int32) (nb : Nat) (len : Nat → Nat) : Prop := ∀ k, k < nb → (mm 64 (10 * k + 0) < 0 ∧ len k = 0) ∨ (¬ mm 64 (10 * k + 0) < 0 ∧ ∃ i, i < 4 ∧ mm 64 (10 * k + 0) = nI i ∧ (mm 66 i + 10 * absI (mm 64 (10 * k + 1))) + 50 = nI (len k) ∧ 0 < len k ∧ len k ≤ 5200)
theorem cm_hanging (hnb : mm 63 8 = nI nb) (h8 : nb ≤ 8) : Ct G M_X10_hanging [.ref 63] (SH, mm, lm) false (.inl (some (.int (nI (allM mm nb))))) (SH, mm, lm) false 0 0 := by
  refine CJ (bX10_hanging_0 ?_)
  refine loop_up (n := nb) (P := fun k => J G M_X10_hanging 4 [(0, .ref 63), (1, .int (nI (mkM (hgM mm) k))), (2, .int (nI k))] [] (SH, mm, lm) false (.inl (some (.int (nI (allM mm nb))))) (SH, mm, lm) false 0 0) ?_ ?_ 0 (Nat.zero_le _)
  · exact bX10_hanging_4 ⟨fun _ => ⟨rfl, rfl⟩, fun h => absurd (le_nI' hnb) h⟩
  · intro k hk ih
    have hk8 : k < 8 := by omega
    refine bX10_hanging_4 ⟨fun h => absurd h (le_nI hnb hk (by omega)), fun _ => ⟨_, cm_hangs hk8, fun h => ?_, fun h => ?_⟩⟩
    · have hh : hgM mm k = false := decide_eq_false (bI_0.mp h)
      have em : mkM (hgM mm) (k + 1) = mkM (hgM mm) k := by simp only [mkM, hh]; simp
      rw [em] at ih
      rw [nI_1, Int32.or_zero]; exact ih
    · have hh : hgM mm k = true := decide_eq_true (bI_1.mp h)
      have em : mkM (hgM mm) (k + 1) = 2 ^ k + mkM (hgM mm) k := by simp only [mkM, hh]; simp
      have eor : nI (mkM (hgM mm) k) ||| nI (2 ^ k) = nI (2 ^ k + mkM (hgM mm) k) := by
        have := fa_or_sum (a := mkM (hgM mm) k) (k := k) 1 (mkM_lt (hgM mm) k)
        rw [Nat.mul_one] at this
        rw [Int32.or_comm]; exact this
      rw [em] at ih
      rw [nI_1, nI_shl k hk8, eor]; exact ih
theorem cm_lengthOf {k i : Nat} (hk : k < 8) (hi : i < 4) (hb : mm 64 (10 * k + 0) = nI i) : Ct G M_X10_lengthOf [.ref 63, .int (nI k)] (SH, mm, lm) false (.inl (some (.int ((mm 66 i + 10 * absI (mm 64 (10 * k + 1))) + 50)))) (SH, mm, lm) false 0 0 :=
  CJ (bX10_lengthOf_0 ⟨_, ofv hk (a := 0) rfl (by decide) hb, i, rfl, hi, _, cm_of hk (a := 1) rfl (by decide), _, cm_size _, rfl, rfl⟩)
theorem ws_nb {s n : Nat} (h8 : n ≤ 8) (hs : s < 2 ^ n) (f : Nat → Nat) : wsum s f = fb_sm (fun b => if s.testBit b = true then f b else 0) n := by
  unfold wsum
  obtain ⟨d, hd⟩ : ∃ d, 8 = n + d := ⟨8 - n, by omega⟩
  rw [hd, fb_sm_split, fb_sm_cong (f := fun k => if s.testBit (n + k) = true then f (n + k) else 0) (g := fun _ => 0) (fun k _ => by
    rw [Nat.testBit_lt_two_pow (Nat.lt_of_lt_of_le hs (Nat.pow_le_pow_right (by omega) (by omega)))]; rfl), fb_sm_const, Nat.mul_zero, Nat.add_zero]
theorem cm_lengthsOf (hnb : mm 63 8 = nI nb) (h8 : nb ≤ 8) (hl : LenM mm nb len) {s : Nat} (hs : Sb s (allM mm nb)) : Ct G M_X10_lengthsOf [.ref 63, .int (nI s)] (SH, mm, lm) false (.inl (some (.int (nI (wsum s len))))) (SH, mm, lm) false 0 0 := by
  have hlt : s < 2 ^ nb := Nat.lt_of_le_of_lt (sb_le hs) (mkM_lt _ nb)
  have hp8 : 2 ^ nb ≤ 2 ^ 8 := Nat.pow_le_pow_right (by omega) h8
  rw [ws_nb h8 hlt]
  refine CJ (bX10_lengthsOf_0 ?_)
  refine loop_up (n := nb) (P := fun k => J G M_X10_lengthsOf 4 [(0, .ref 63), (1, .int (nI s)), (2, .int (nI (fb_sm (fun b => if s.testBit b = true then len b else 0) k))), (3, .int (nI k))] [] (SH, mm, lm) false (.inl (some (.int (nI (fb_sm (fun b => if s.testBit b = true then len b else 0) nb))))) (SH, mm, lm) false 0 0) ?_ ?_ 0 (Nat.zero_le _)
  · exact bX10_lengthsOf_4 ⟨fun _ => ⟨rfl, rfl⟩, fun h => absurd (le_nI' hnb) h⟩
  · intro k hk ih
    have hk8 : k < 8 := by omega
    rw [fb_sm_succ] at ih
    have hb := has_bit s (by omega) k hk8
    refine bX10_lengthsOf_4 ⟨fun h => absurd h (le_nI hnb hk (by omega)), fun _ => ⟨_, cm_has _ _, fun h => ?_, fun h => ?_⟩⟩
    · rw [if_neg fun z => bI_0.mp h (hb.mpr z)] at ih
      rw [nI_1, Int32.add_zero]; exact ih
    · have hbt := hb.mp (bI_1.mp h)
      rw [if_pos hbt] at ih
      have hak := hs k hbt
      rw [mkM_bit, Bool.and_eq_true] at hak
      rcases hl k hk with ⟨z, -⟩ | ⟨-, i, hi, hn, hlen, -⟩
      · exact absurd z (of_decide_eq_true hak.2)
      · have cl := cm_lengthOf (G := G) (mm := mm) (lm := lm) hk8 hi hn
        rw [hlen] at cl
        exact ⟨_, cl, by rw [nI_1, nI_add]; exact ih⟩
/-- the sums that the reference lays out -/
noncomputable def sumM (len : Nat → Nat) (all s : Nat) : Nat := if s &&& all = s then wsum s len else 1000000
theorem sumM_in {all s : Nat} (h : Sb s all) : sumM len all s = wsum s len := if_pos (sb_and.mp h)
theorem sumM_out {all s : Nat} (h : ¬ Sb s all) : sumM len all s = 1000000 := if_neg fun z => h (sb_and.mpr z)
theorem cm_laySums (hnb : mm 63 8 = nI nb) (h8 : nb ≤ 8) (hl : LenM mm nb len) : ∃ m', (∀ c, c ≠ 84 → m' c = mm c) ∧ (∀ s, s < 256 → m' 84 s = nI (sumM len (allM mm nb) s)) ∧ Ct G M_X10_laySums [.ref 63] (SH, mm, lm) false (.inl none) (SH, m', lm) false 0 0 := by
  have hall : allM mm nb < 2 ^ nb := mkM_lt _ nb
  have hp8 : 2 ^ nb ≤ 2 ^ 8 := Nat.pow_le_pow_right (by omega) h8
  have key := loop_up (n := 256) (P := fun s => ∀ m, (∀ c, c ≠ 84 → m c = mm c) → (∀ t, t < s → m 84 t = nI (sumM len (allM mm nb) t)) → ∃ m', (∀ c, c ≠ 84 → m' c = mm c) ∧ (∀ s, s < 256 → m' 84 s = nI (sumM len (allM mm nb) s)) ∧ J G M_X10_laySums 7 [(0, .ref 63), (1, .int (nI (allM mm nb))), (2, .int (nI s))] [] (SH, m, lm) false (.inl none) (SH, m', lm) false 0 0) ?_ ?_ 0 (Nat.zero_le _) mm (fun _ _ => rfl) (fun t ht => absurd ht (Nat.not_lt_zero t))
  · obtain ⟨m', q1, q2, q3⟩ := key
    exact ⟨m', q1, q2, CJ (bX10_laySums_0 ⟨_, cm_hanging hnb h8, q3⟩)⟩
  · intro m hm h
    exact ⟨m, hm, h, bX10_laySums_7 ⟨fun _ => ⟨rfl, rfl⟩, fun z => absurd (lit_le (n := 256) rfl) z⟩⟩
  · intro s hs ih m hm h
    have ha : allM m nb = allM mm nb := by
      have e : hgM m = hgM mm := by unfold hgM; rw [hm 64 (by decide)]
      unfold allM; rw [e]
    have hd := sbs_dec hs (show allM mm nb < 256 by omega)
    by_cases hsb : Sb s (allM mm nb)
    · have hl' : LenM m nb len := by unfold LenM; rw [hm 64 (by decide), hm 66 (by decide)]; exact hl
      have cl := cm_lengthsOf (G := G) (mm := m) (lm := lm) ((congrFun (hm 63 (by decide)) 8).trans hnb) h8 hl' (s := s) (by rw [ha]; exact hsb)
      obtain ⟨m', q1, q2, q3⟩ := ih (mset m 84 s (nI (wsum s len))) (fun c hc => by rw [mset_ne hc]; exact hm c hc) (fun t ht => by
        by_cases hts : t = s
        · subst hts; rw [mset_eq, sumM_in hsb]
        · rw [mset_ne2 (fun z => hts z.2)]; exact h t (by omega))
      exact ⟨m', q1, q2, bX10_laySums_7 ⟨fun z => absurd z (lit_ge (n := 256) rfl hs (by omega)), fun _ => ⟨fun z => absurd (hd.mpr hsb) z, fun _ => ⟨_, cl, s, rfl, hs, by rw [nI_1]; exact q3⟩⟩⟩⟩
    · obtain ⟨m', q1, q2, q3⟩ := ih (mset m 84 s 1000000) (fun c hc => by rw [mset_ne hc]; exact hm c hc) (fun t ht => by
        by_cases hts : t = s
        · subst hts; rw [mset_eq, sumM_out hsb]; rfl
        · rw [mset_ne2 (fun z => hts z.2)]; exact h t (by omega))
      exact ⟨m', q1, q2, bX10_laySums_7 ⟨fun z => absurd z (lit_ge (n := 256) rfl hs (by omega)), fun _ => ⟨fun _ => ⟨s, rfl, hs, by rw [nI_1]; exact q3⟩, fun z => absurd (hd.mp z) hsb⟩⟩⟩
/-- what the reference's cuttings rest on -/
def MbR (mm : Nat → Nat → Int32) (len cap u : Nat → Nat) (R all : Nat) (m : Nat → Nat → Int32) : Prop :=
  (∀ c, c < 81 ∨ 84 < c → m c = mm c) ∧ (mm 63 15 = nI R ∧ R ≤ 8) ∧ (∀ p, p < R → mm 73 p = nI (cap p) ∧ cap p ≤ 9999) ∧ (∀ p, p < 8 → m 82 p = nI (u p) ∧ u p ≤ 99999) ∧ (∀ s, s < 256 → m 84 s = nI (sumM len all s)) ∧ ∀ s, sumM len all s ≤ 1000000
theorem MbR.sum (u : Nat → Nat) {all p c : Nat} (hcap : cap p ≤ 9999) : u p + sumM len all c ≤ cap p ↔ Sb c all ∧ u p + wsum c len ≤ cap p := by
  by_cases h : Sb c all
  · rw [sumM_in h]; exact ⟨fun z => ⟨h, z⟩, fun z => z.2⟩
  · rw [sumM_out h]; exact ⟨fun z => by omega, fun z => absurd z.1 h⟩
/-- the number of further pieces, with parts of s on the piece p that are greater than c0 -/
def NewF (len cap u w0 : Nat → Nat) (p all s c0 : Nat) (x : Int32) : Prop := ∃ v1 : Nat, x = nI v1 ∧ v1 ≤ 1000000 ∧ ∀ v, (v1 ≤ v ↔ w0 s ≤ v ∨ ∃ c, c0 < c ∧ Sb c s ∧ (Sb c all ∧ u p + wsum c len ≤ cap p) ∧ w0 (s ^^^ c) + (if u p = 0 then 1 else 0) ≤ v)
theorem cm_bestWith {u w0 : Nat → Nat} {all p s : Nat} {m : Nat → Nat → Int32} (h : MbR mm len cap u R all m) (hp : p < R) (hs : s < 256) (hw : ∀ t, t < 256 → m 81 (256 * (p + 1) + t) = nI (w0 t) ∧ w0 t ≤ 1000000) : ∃ x, NewF len cap u w0 p all s 0 x ∧ Ct G M_X10_bestWith [.ref 63, .int (nI p), .int (nI s)] (SH, m, lm) false (.inl (some (.int x))) (SH, m, lm) false 0 0 := by
  obtain ⟨hm, ⟨hR, hR8⟩, hcap, hu, hsum, hsle⟩ := h
  have ix : ∀ t, (256 : Int32) * (nI p + 1) + nI t = nI (256 * (p + 1) + t) := fun t => by rw [nI_1, show (256 : Int32) = nI 256 from rfl, nI_mul, nI_add]
  have key : ∀ part, Sb part s → ∀ x, NewF len cap u w0 p all s part x → ∃ x', NewF len cap u w0 p all s 0 x' ∧ J G M_X10_bestWith 18 [(0, .ref 63), (1, .int (nI p)), (2, .int (nI s)), (3, .int x), (4, .int (nI part))] [] (SH, m, lm) false (.inl (some (.int x'))) (SH, m, lm) false 0 0 := by
    intro part
    induction part using Nat.strongRecOn with
    | ind part ih =>
      intro hps x hx
      have hle := sb_le hps
      by_cases h0 : part = 0
      · subst h0
        exact ⟨x, hx, bX10_bestWith_18 ⟨fun _ => ⟨rfl, rfl⟩, fun z => absurd (by decide) z⟩⟩
      · have hnx : Sb ((part - 1) &&& s) s := fun b hb => by
          rw [Nat.testBit_and, Bool.and_eq_true] at hb; exact hb.2
        have hlt : (part - 1) &&& s < part := by have := Nat.and_le_left (n := part - 1) (m := s); omega
        have ec : (nI part - 1) &&& nI s = nI ((part - 1) &&& s) := by
          rw [show (1 : Int32) = nI 1 from rfl, pk_sub (by omega), fa_and]
        have hxx : s ^^^ part < 256 := Nat.lt_of_le_of_lt (sb_le (sb_xor hps)) hs
        have parts : ∀ c, (((part - 1) &&& s < c ∧ Sb c s) ↔ (part < c ∨ c = part) ∧ Sb c s) := fun c => by
          refine ⟨fun ⟨z1, z2⟩ => ⟨?_, z2⟩, fun ⟨z1, z2⟩ => ⟨by omega, z2⟩⟩
          rcases Nat.lt_trichotomy c part with w | w | w
          · have := sb_next hps (by omega) z2 w
            omega
          · exact Or.inr w
          · exact Or.inl w
        obtain ⟨v1, x1, x2, x3⟩ := hx
        obtain ⟨u1, u2⟩ := hu p (by omega)
        obtain ⟨c1, c2⟩ := hcap p hp
        have e73 : m 73 p = nI (cap p) := by rw [hm 73 (by omega)]; exact c1
        have hsl := hsle part
        have fit : (m 73 p < m 82 p + m 84 part) ↔ ¬ (Sb part all ∧ u p + wsum part len ≤ cap p) := by
          rw [e73, u1, hsum part (by omega), nI_add, nI_ltI (by omega) (by omega), ← MbR.sum u c2]; omega
        obtain ⟨w1, w2⟩ := hw _ hxx
        have pos : ¬ nI part ≤ 0 := nI_ge (a := 0) (by omega) (by omega)
        by_cases hf : Sb part all ∧ u p + wsum part len ≤ cap p
        · have step : NewF len cap u w0 p all s ((part - 1) &&& s) (nI (min v1 (w0 (s ^^^ part) + if u p = 0 then 1 else 0))) := by
            refine ⟨_, rfl, by omega, fun v => ?_⟩
            have mi : min v1 (w0 (s ^^^ part) + if u p = 0 then 1 else 0) ≤ v ↔ v1 ≤ v ∨ w0 (s ^^^ part) + (if u p = 0 then 1 else 0) ≤ v := by omega
            rw [mi, x3 v]
            constructor
            · rintro ((z | ⟨c, y1, y2, y3⟩) | z)
              · exact Or.inl z
              · exact Or.inr ⟨c, by omega, y2, y3⟩
              · exact Or.inr ⟨part, hlt, hps, hf, z⟩
            · rintro (z | ⟨c, y1, y2, y3, y4⟩)
              · exact Or.inl (Or.inl z)
              · obtain ⟨z1, -⟩ := (parts c).mp ⟨y1, y2⟩
                rcases z1 with z1 | z1
                · exact Or.inl (Or.inr ⟨c, z1, y2, y3, y4⟩)
                · rw [z1] at y4; exact Or.inr y4
          obtain ⟨x', q1, q2⟩ := ih _ hlt hnx _ step
          refine ⟨x', q1, bX10_bestWith_18 ⟨fun z => absurd z pos, fun _ => ⟨p, rfl, by omega, part, rfl, by omega, p, rfl, by omega, fun z => absurd hf (fit.mp z), fun _ => ⟨256 * (p + 1) + (s ^^^ part), by rw [fb_xorI]; exact ix _, by omega, p, rfl, by omega, fun z => ⟨fun z2 => ?_, fun z2 => ?_⟩, fun z => ⟨fun z2 => ?_, fun z2 => ?_⟩⟩⟩⟩⟩
          · have hu0 : ¬ u p = 0 := fun y => z (by rw [u1, y]; rfl)
            rw [if_neg hu0, Nat.add_zero] at q2
            rw [x1, w1, Int32.add_zero, nI_leI (by omega) (by omega)] at z2
            rw [Nat.min_eq_left z2] at q2
            rw [ec, x1]; exact q2
          · have hu0 : ¬ u p = 0 := fun y => z (by rw [u1, y]; rfl)
            rw [if_neg hu0, Nat.add_zero] at q2
            rw [x1, w1, Int32.add_zero, nI_leI (by omega) (by omega)] at z2
            rw [Nat.min_eq_right (by omega)] at q2
            rw [ec, w1, Int32.add_zero]; exact q2
          · have hu0 : u p = 0 := (nI_eq (b := 0) (by omega) (by omega)).mp (u1.symm.trans z)
            rw [if_pos hu0] at q2
            rw [x1, w1, nI_1, nI_leI (by omega) (by omega)] at z2
            rw [Nat.min_eq_left z2] at q2
            rw [ec, x1]; exact q2
          · have hu0 : u p = 0 := (nI_eq (b := 0) (by omega) (by omega)).mp (u1.symm.trans z)
            rw [if_pos hu0] at q2
            rw [x1, w1, nI_1, nI_leI (by omega) (by omega)] at z2
            rw [Nat.min_eq_right (by omega)] at q2
            rw [ec, w1, nI_1]; exact q2
        · obtain ⟨x', q1, q2⟩ := ih _ hlt hnx x ⟨v1, x1, x2, fun v => by
            rw [x3 v]
            refine ⟨fun z => z.elim Or.inl fun ⟨c, y1, y2, y3⟩ => Or.inr ⟨c, by omega, y2, y3⟩, fun z => z.elim Or.inl fun ⟨c, y1, y2, y3, y4⟩ => ?_⟩
            obtain ⟨z1, -⟩ := (parts c).mp ⟨y1, y2⟩
            rcases z1 with z1 | z1
            · exact Or.inr ⟨c, z1, y2, y3, y4⟩
            · rw [z1] at y3; exact absurd y3 hf⟩
          exact ⟨x', q1, bX10_bestWith_18 ⟨fun z => absurd z pos, fun _ => ⟨p, rfl, by omega, part, rfl, by omega, p, rfl, by omega, fun _ => by rw [ec]; exact q2, fun z => absurd (fit.mpr hf) z⟩⟩⟩
  obtain ⟨w1, w2⟩ := hw s hs
  obtain ⟨x', q1, q2⟩ := key s (sb_refl s) (nI (w0 s)) ⟨w0 s, rfl, w2, fun v => ⟨Or.inl, fun z => z.elim id fun ⟨c, c1, c2, _⟩ => by have := sb_le c2; omega⟩⟩
  exact ⟨x', q1, CJ (bX10_bestWith_0 ⟨256 * (p + 1) + s, ix s, by omega, by rw [w1]; exact q2⟩)⟩
/-- the fewest further pieces of all sets -/
theorem cm_layFewest {u : Nat → Nat} {all : Nat} (hall : all < 256) {m : Nat → Nat → Int32} (h : MbR mm len cap u R all m) : ∃ m' F, (∀ c, c ≠ 81 → m' c = m c) ∧ (∀ s, s < 256 → m' 81 s = nI (F s) ∧ F s ≤ 1000000) ∧ (∀ s, Sb s all → FwA len cap u R 0 F s) ∧ Ct G M_X10_layFewest [.ref 63] (SH, m, lm) false (.inl none) (SH, m', lm) false 0 0 := by
  have h0 := h
  obtain ⟨hm, ⟨hR, hR8⟩, hcap, hu, hsum, hsle⟩ := h
  have e15 : ∀ m9 : Nat → Nat → Int32, (∀ c, c ≠ 81 → m9 c = m c) → m9 63 15 = nI R := fun m9 h9 => by rw [h9 63 (by decide), hm 63 (by omega)]; exact hR
  have mb : ∀ m9 : Nat → Nat → Int32, (∀ c, c ≠ 81 → m9 c = m c) → MbR mm len cap u R all m9 := fun m9 h9 => ⟨fun c hc => by rw [h9 c (by omega)]; exact hm c hc, ⟨hR, hR8⟩, hcap, fun p hp => by rw [h9 82 (by decide)]; exact hu p hp, fun s hs => by rw [h9 84 (by decide)]; exact hsum s hs, hsle⟩
  -- the pieces, downwards
  have down : ∀ q, q ≤ R → ∀ m9 w0, (∀ c, c ≠ 81 → m9 c = m c) → (∀ t, t < 256 → m9 81 (256 * q + t) = nI (w0 t) ∧ w0 t ≤ 1000000) → (∀ s, Sb s all → FwA len cap u R q w0 s) → ∃ m' F, (∀ c, c ≠ 81 → m' c = m c) ∧ (∀ s, s < 256 → m' 81 s = nI (F s) ∧ F s ≤ 1000000) ∧ (∀ s, Sb s all → FwA len cap u R 0 F s) ∧ J G M_X10_layFewest 48 [(0, .ref 63), (1, .int (nI q + (-1)))] [] (SH, m9, lm) false (.inl none) (SH, m', lm) false 0 0 := by
    intro q
    induction q with
    | zero =>
      intro _ m9 w0 h9 hw hF
      exact ⟨m9, w0, h9, fun s hs => by have := hw s hs; rw [Nat.mul_zero, Nat.zero_add] at this; exact this, hF, bX10_layFewest_48 ⟨fun _ => ⟨rfl, rfl⟩, fun z => absurd (by decide) z⟩⟩
    | succ p ihq =>
      intro hq m9 w0 h9 hw hF
      rw [nI_dec]
      have ix : ∀ t, (256 : Int32) * nI p + nI t = nI (256 * p + t) := fun t => by rw [show (256 : Int32) = nI 256 from rfl, nI_mul, nI_add]
      have inner := loop_up (n := 256) (P := fun s => ∀ m8, (∀ c, c ≠ 81 → m8 c = m c) → (∀ t, t < 256 → m8 81 (256 * (p + 1) + t) = nI (w0 t) ∧ w0 t ≤ 1000000) → (∀ t, t < s → NewF len cap u w0 p all t 0 (m8 81 (256 * p + t))) → ∃ m' F, (∀ c, c ≠ 81 → m' c = m c) ∧ (∀ s, s < 256 → m' 81 s = nI (F s) ∧ F s ≤ 1000000) ∧ (∀ s, Sb s all → FwA len cap u R 0 F s) ∧ J G M_X10_layFewest 54 [(0, .ref 63), (1, .int (nI p)), (2, .int (nI s))] [] (SH, m8, lm) false (.inl none) (SH, m', lm) false 0 0) ?_ ?_ 0 (Nat.zero_le _) m9 h9 hw (fun t ht => absurd ht (Nat.not_lt_zero t))
      · obtain ⟨m', F, g1, g2, g3, g4⟩ := inner
        exact ⟨m', F, g1, g2, g3, bX10_layFewest_48 ⟨fun z => absurd z (nI_pos (by omega)), fun _ => g4⟩⟩
      · intro m8 h8 hw8 hN
        have hch : ∃ w2 : Nat → Nat, ∀ t, t < 256 → m8 81 (256 * p + t) = nI (w2 t) ∧ w2 t ≤ 1000000 ∧ ∀ v, (w2 t ≤ v ↔ w0 t ≤ v ∨ ∃ c, 0 < c ∧ Sb c t ∧ (Sb c all ∧ u p + wsum c len ≤ cap p) ∧ w0 (t ^^^ c) + (if u p = 0 then 1 else 0) ≤ v) := by
          refine ⟨fun t => (m8 81 (256 * p + t)).toInt.toNat, fun t ht => ?_⟩
          obtain ⟨v1, x1, x2, x3⟩ := hN t ht
          have ev : (m8 81 (256 * p + t)).toInt.toNat = v1 := by rw [x1, nI_toInt (by omega)]; rfl
          simp only [ev]; exact ⟨x1, x2, x3⟩
        obtain ⟨w2, hw2⟩ := hch
        obtain ⟨m', F, g1, g2, g3, g4⟩ := ihq (by omega) m8 w2 h8 (fun t ht => ⟨(hw2 t ht).1, (hw2 t ht).2.1⟩) (fun s hs => by
          have hsl := sb_le hs
          refine fw_step (by omega) (by omega) (fun s' hs' => hF s' (sb_trans hs' hs)) (fun v _ => ?_)
          rw [(hw2 s (by omega)).2.2 v]
          refine ⟨fun z => z.elim Or.inl fun ⟨c, y1, y2, y3, y4⟩ => Or.inr ⟨c, y1, y2, y3.2, y4⟩, fun z => z.elim Or.inl fun ⟨c, y1, y2, y3, y4⟩ => Or.inr ⟨c, y1, y2, ⟨sb_trans y2 hs, y3⟩, y4⟩⟩)
        exact ⟨m', F, g1, g2, g3, bX10_layFewest_54 ⟨fun _ => g4, fun z => absurd (lit_le (n := 256) rfl) z⟩⟩
      · intro s hs ih m8 h8 hw8 hN
        obtain ⟨x, hx, ct⟩ := cm_bestWith (G := G) (lm := lm) (mb m8 h8) (show p < R by omega) hs hw8
        obtain ⟨m', F, g1, g2, g3, g4⟩ := ih (mset m8 81 (256 * p + s) x) (fun c hc => by rw [mset_ne hc]; exact h8 c hc) (fun t ht => by rw [mset_ne2 (fun z => by omega)]; exact hw8 t ht) (fun t ht => by
          by_cases hts : t = s
          · subst hts; rw [mset_eq]; exact hx
          · rw [mset_ne2 (fun z => by omega)]; exact hN t (by omega))
        exact ⟨m', F, g1, g2, g3, bX10_layFewest_54 ⟨fun z => absurd z (lit_ge (n := 256) rfl hs (by omega)), fun _ => ⟨x, ct, 256 * p + s, ix s, by omega, by rw [nI_1]; exact g4⟩⟩⟩
  have ixR : ∀ t, (256 : Int32) * nI R + nI t = nI (256 * R + t) := fun t => by rw [show (256 : Int32) = nI 256 from rfl, nI_mul, nI_add]
  have fill := loop_up (n := 256) (P := fun s => ∀ m8, (∀ c, c ≠ 81 → m8 c = m c) → (∀ t, t < s → m8 81 (256 * R + t) = nI (if t = 0 then 0 else 1000000)) → ∃ m' F, (∀ c, c ≠ 81 → m' c = m c) ∧ (∀ s, s < 256 → m' 81 s = nI (F s) ∧ F s ≤ 1000000) ∧ (∀ s, Sb s all → FwA len cap u R 0 F s) ∧ J G M_X10_layFewest 2 [(0, .ref 63), (1, .int (nI s))] [] (SH, m8, lm) false (.inl none) (SH, m', lm) false 0 0) ?_ ?_ 0 (Nat.zero_le _) m (fun _ _ => rfl) (fun t ht => absurd ht (Nat.not_lt_zero t))
  · obtain ⟨m', F, g1, g2, g3, g4⟩ := fill
    exact ⟨m', F, g1, g2, g3, CJ (bX10_layFewest_0 g4)⟩
  · intro m8 h8 hN
    obtain ⟨m', F, g1, g2, g3, g4⟩ := down R (Nat.le_refl _) m8 (fun t => if t = 0 then 0 else 1000000) h8 (fun t ht => ⟨hN t ht, by show (if t = 0 then 0 else 1000000) ≤ 1000000; split <;> omega⟩) (fun s hs => fw_start (by have := sb_le hs; omega) rfl)
    refine ⟨m', F, g1, g2, g3, bX10_layFewest_2 ⟨fun _ => ?_, fun z => absurd (lit_le (n := 256) rfl) z⟩⟩
    rw [e15 m8 h8, show nI R - 1 = nI R + (-1) from Int32.sub_eq_add_neg _ _]; exact g4
  · intro s hs ih m8 h8 hN
    have lim : ¬ (256 : Int32) ≤ nI s := lit_ge (n := 256) rfl hs (by omega)
    by_cases hz : s = 0
    · subst hz
      obtain ⟨m', F, g1, g2, g3, g4⟩ := ih (mset m8 81 (256 * R + 0) 0) (fun c hc => by rw [mset_ne hc]; exact h8 c hc) (fun t ht => by
        have : t = 0 := by omega
        subst this
        rw [mset_eq, if_pos rfl]; rfl)
      exact ⟨m', F, g1, g2, g3, bX10_layFewest_2 ⟨fun z => absurd z lim, fun _ => ⟨fun z => absurd rfl z, fun _ => ⟨256 * R + 0, by rw [e15 m8 h8]; exact ixR 0, by omega, by rw [nI_1]; exact g4⟩⟩⟩⟩
    · obtain ⟨m', F, g1, g2, g3, g4⟩ := ih (mset m8 81 (256 * R + s) 1000000) (fun c hc => by rw [mset_ne hc]; exact h8 c hc) (fun t ht => by
        by_cases hts : t = s
        · subst hts; rw [mset_eq, if_neg hz]; rfl
        · rw [mset_ne2 (fun z => by omega)]; exact hN t (by omega))
      exact ⟨m', F, g1, g2, g3, bX10_layFewest_2 ⟨fun z => absurd z lim, fun _ => ⟨fun _ => ⟨256 * R + s, by rw [e15 m8 h8]; exact ixR s, by omega, by rw [nI_1]; exact g4⟩, fun z => absurd z (nI_ne0 (by omega) (by omega))⟩⟩⟩
end MRope
