/-! ===== contracts: the best mirroring; how many bits ===== -/
/-- the bits of x, as the library counts them -/
def bcF (x : Int32) : Int32 :=
  let a := x - ((x.toUInt32 >>> ((1 : Int32).toUInt32 &&& Int32.toUInt32 31)).toInt32 &&& 1431655765)
  let b := (a &&& 858993459) + ((a.toUInt32 >>> ((2 : Int32).toUInt32 &&& Int32.toUInt32 31)).toInt32 &&& 858993459)
  let c := (b + (b.toUInt32 >>> ((4 : Int32).toUInt32 &&& Int32.toUInt32 31)).toInt32) &&& 252645135
  let d := c + (c.toUInt32 >>> ((8 : Int32).toUInt32 &&& Int32.toUInt32 31)).toInt32
  let e := d + (d.toUInt32 >>> ((16 : Int32).toUInt32 &&& Int32.toUInt32 31)).toInt32
  e &&& 63
section Mirror
variable {G : Gx} {mm : Nat → Nat → Int32} {lm : Nat → Int64} {nb : Nat}
theorem c_bitCount (x : Int32) : Ct G M_J6_bitCount_0f7a4 [.int x] (SH, mm, lm) false (.inl (some (.int (bcF x)))) (SH, mm, lm) false 0 0 :=
  CJ (bJ6_bitCount_0f7a4_0 ⟨rfl, rfl⟩)
/-- one set more: the best one so far, its torque -/
def mirS (n : Nat) (be po rad w : Nat → Int32) (b on : Int32) (i : Nat) (s : Int32 × Int32) : Int32 × Int32 :=
  if nI (i + 1) &&& (on ^^^ (-1)) = 0 ∧ (absI (moM n be po w b (nI (i + 1))) < s.2 ∨ absI (moM n be po w b (nI (i + 1))) = s.2 ∧ bcF (nI (i + 1)) < bcF s.1) ∧ allN (fun k => allN (cmB be po rad b (nI (i + 1)) k) k) n = true
  then (nI (i + 1), absI (moM n be po w b (nI (i + 1)))) else s
theorem c_bestMirror (hnb : mm 4 9 = nI nb) (h8 : nb ≤ 8) (b : Int32) {on : Nat} (hon : orN (fun k => decide (cBe mm k = b)) nb = nI on) (h256 : on < 256) : Ct G M_X2_bestMirror [.ref 31, .int b] (SH, mm, lm) false (.inl (some (.int (itN (mirS nb (cBe mm) (cPo mm) (mm 8) (mm 7) b (nI on)) (0, absI (moM nb (cBe mm) (cPo mm) (mm 7) b 0)) on).1))) (SH, mm, lm) false 0 0 := by
  refine CJ (bX2_bestMirror_0 ⟨_, c_bellsOn hnb h8 b, _, c_momentMirrored hnb h8 b 0, _, c_abs _, ?_⟩)
  rw [hon]
  generalize hF : mirS nb (cBe mm) (cPo mm) (mm 8) (mm 7) b (nI on) = F
  generalize hs0 : ((0, absI (moM nb (cBe mm) (cPo mm) (mm 7) b 0)) : Int32 × Int32) = s0
  have hs : ∀ i s, F i s = if nI (i + 1) &&& (nI on ^^^ (-1)) = 0 ∧ (absI (moM nb (cBe mm) (cPo mm) (mm 7) b (nI (i + 1))) < s.2 ∨ absI (moM nb (cBe mm) (cPo mm) (mm 7) b (nI (i + 1))) = s.2 ∧ bcF (nI (i + 1)) < bcF s.1) ∧ allN (fun k => allN (cmB (cBe mm) (cPo mm) (mm 8) b (nI (i + 1)) k) k) nb = true
      then (nI (i + 1), absI (moM nb (cBe mm) (cPo mm) (mm 7) b (nI (i + 1)))) else s := by
    intro i s; rw [← hF]; rfl
  have key := loop_up (n := on) (P := fun i => J G M_X2_bestMirror 22 [(0, .ref 31), (1, .int b), (2, .int (nI on)), (3, .int (itN F s0 i).1), (4, .int (itN F s0 i).2), (5, .int (nI (i + 1)))] [] (SH, mm, lm) false (.inl (some (.int (itN F s0 on).1))) (SH, mm, lm) false 0 0) ?_ ?_ 0 (Nat.zero_le _)
  · rw [← hs0] at key ⊢; exact key
  · exact bX2_bestMirror_22 ⟨fun _ => ⟨rfl, rfl⟩, fun h => absurd (nI_lt (Nat.lt_succ_self on) (by omega)) h⟩
  · intro i hi ih
    have hsn := hs i (itN F s0 i)
    simp only [itN] at ih
    refine bX2_bestMirror_22 ⟨fun h => absurd h (nI_nlt (by omega) (by omega)), fun _ => ⟨fun h => ⟨_, c_momentMirrored hnb h8 b _, _, c_abs _, fun h2 => ⟨_, c_clearMirrored hnb h8 b _, fun h3 => ?_, fun h3 => ?_⟩, fun h2 => ⟨fun h3 => ?_, fun h3 => ⟨_, c_bitCount _, _, c_bitCount _, fun h4 => ?_, fun h4 => ⟨_, c_clearMirrored hnb h8 b _, fun h5 => ?_, fun h5 => ?_⟩⟩⟩⟩, fun h => ?_⟩⟩
    · rw [if_neg (fun z => bI_0.mp h3 z.2.2)] at hsn
      rw [hsn] at ih
      rw [nI_1]; exact ih
    · rw [if_pos ⟨h, Or.inl h2, bI_1.mp h3⟩] at hsn
      rw [hsn] at ih
      rw [nI_1]; exact ih
    · rw [if_neg (fun z => z.2.1.elim h2 (fun y => h3 y.1))] at hsn
      rw [hsn] at ih
      rw [nI_1]; exact ih
    · rw [if_neg (fun z => z.2.1.elim h2 (fun y => absurd h4 (Int32.not_le.mpr y.2)))] at hsn
      rw [hsn] at ih
      rw [nI_1]; exact ih
    · rw [if_neg (fun z => bI_0.mp h5 z.2.2)] at hsn
      rw [hsn] at ih
      rw [nI_1]; exact ih
    · rw [if_pos ⟨h, Or.inr ⟨h3, Int32.not_le.mp h4⟩, bI_1.mp h5⟩] at hsn
      rw [hsn] at ih
      rw [nI_1]; exact ih
    · rw [if_neg (fun z => h z.1)] at hsn
      rw [hsn] at ih
      rw [nI_1]; exact ih
end Mirror
