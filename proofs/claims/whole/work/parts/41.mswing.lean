/-! ===== contracts of the reference: swings ===== -/
section MSwing
variable {G : Gx} {mm : Nat → Nat → Int32} {lm : Nat → Int64} {nb : Nat}
/-- the offset by the reference -/
def ofM (p d a : Int32) : Int32 := if p < 4 * (d - d / p * p) then (if 3 * p < 4 * (d - d / p * p) then a * (4 * (d - d / p * p) - 4 * p) / p else a * (2 * p - 4 * (d - d / p * p)) / p) else a * (4 * (d - d / p * p)) / p
def obM (p f a t : Int32) : Int32 := if f ≤ t then ofM p (t - f) a else 0
theorem cm_offsetBy {k : Nat} (hk : k < 8) (hp : ¬ mm 70 k = 0) (f a t : Int32) : Ct G M_X10_offsetBy [.ref 63, .int (nI k), .int f, .int a, .int t] (SH, mm, lm) false (.inl (some (.int (obM (mm 70 k) f a t)))) (SH, mm, lm) false 0 0 := by
  refine CJ (bX10_offsetBy_0 ⟨fun h => ⟨k, rfl, hk, hp, fun h3 => ⟨fun h4 => ⟨hp, ?_⟩, fun h4 => ⟨hp, ?_⟩⟩, fun h3 => ⟨hp, ?_⟩⟩, fun h => ?_⟩)
  · rw [obM, if_pos h, ofM, if_pos h3, if_pos h4]; exact ⟨rfl, rfl⟩
  · rw [obM, if_pos h, ofM, if_pos h3, if_neg h4]; exact ⟨rfl, rfl⟩
  · rw [obM, if_pos h, ofM, if_neg h3]; exact ⟨rfl, rfl⟩
  · rw [obM, if_neg h]; exact ⟨rfl, rfl⟩
def oaM (mm : Nat → Nat → Int32) (k : Nat) (t : Int32) : Int32 := if mm 64 (10 * k + 5) < 0 then 0 else obM (mm 70 k) (mm 64 (10 * k + 4)) (mm 64 (10 * k + 5)) t
theorem cm_offsetAt {k : Nat} (hk : k < 8) (hp : ¬ mm 70 k = 0) (t : Int32) : Ct G M_X10_offsetAt [.ref 63, .int (nI k), .int t] (SH, mm, lm) false (.inl (some (.int (oaM mm k t)))) (SH, mm, lm) false 0 0 := by
  refine CJ (bX10_offsetAt_0 ⟨_, cm_swings hk, fun h => ?_, fun h => ⟨_, cm_of hk (a := 4) rfl (by decide), _, cm_of hk (a := 5) rfl (by decide), _, cm_offsetBy hk hp _ _ _, ?_⟩⟩)
  · rw [oaM, if_pos (Decidable.not_not.mp (bI_0.mp h))]; exact ⟨rfl, rfl⟩
  · rw [oaM, if_neg (bI_1.mp h)]; exact ⟨rfl, rfl⟩
abbrev togM (mm : Nat → Nat → Int32) (j o : Nat) : Prop := ¬ mm 64 (10 * j + 0) < 0 ∧ mm 64 (10 * j + 0) = mm 64 (10 * o + 0)
theorem cm_areTogether {j o : Nat} (hj : j < 8) (ho : o < 8) : Ct G M_X10_areTogether [.ref 63, .int (nI j), .int (nI o)] (SH, mm, lm) false (.inl (some (.int (bI (togM mm j o))))) (SH, mm, lm) false 0 0 := by
  refine CJ (bX10_areTogether_0 ⟨_, cm_hangs hj, fun h => ?_, fun h => ⟨_, cm_of hj (a := 0) rfl (by decide), _, cm_of ho (a := 0) rfl (by decide), fun h2 => ?_, fun h2 => ?_⟩⟩)
  · rw [bI_f (fun z => bI_0.mp h z.1)]; exact ⟨rfl, rfl⟩
  · rw [bI_f (fun z => h2 z.2)]; exact ⟨rfl, rfl⟩
  · rw [bI_t ⟨bI_1.mp h, h2⟩]; exact ⟨rfl, rfl⟩
def gaM (mm : Nat → Nat → Int32) (j : Nat) (x : Int32) (o : Nat) (y : Int32) : Int32 := if mm 64 (10 * j + 1) ≤ mm 64 (10 * o + 1) then -(mm 64 (10 * j + 1) + x - mm 64 (10 * o + 1) - y) - mm 69 j - mm 69 o else (mm 64 (10 * j + 1) + x - mm 64 (10 * o + 1) - y) - mm 69 j - mm 69 o
theorem cm_gapBy {j o : Nat} (hj : j < 8) (ho : o < 8) (x y : Int32) : Ct G M_X10_gapBy [.ref 63, .int (nI j), .int x, .int (nI o), .int y] (SH, mm, lm) false (.inl (some (.int (gaM mm j x o y)))) (SH, mm, lm) false 0 0 := by
  refine CJ (bX10_gapBy_0 ⟨_, cm_of hj (a := 1) rfl (by decide), _, cm_of ho (a := 1) rfl (by decide), _, cm_of hj (a := 1) rfl (by decide), _, cm_of ho (a := 1) rfl (by decide), fun h => ⟨j, rfl, hj, o, rfl, ho, ?_⟩, fun h => ⟨j, rfl, hj, o, rfl, ho, ?_⟩⟩)
  · rw [gaM, if_pos h]; exact ⟨rfl, rfl⟩
  · rw [gaM, if_neg h]; exact ⟨rfl, rfl⟩
def colM (mm : Nat → Nat → Int32) (t : Int32) (j o : Nat) : Bool := decide (togM mm j o ∧ ¬ 0 ≤ gaM mm j (oaM mm j t) o (oaM mm o t))
theorem cm_collide {j o : Nat} (hj : j < 8) (ho : o < 8) (hpj : ¬ mm 70 j = 0) (hpo : ¬ mm 70 o = 0) (t : Int32) : Ct G M_X10_collide [.ref 63, .int (nI j), .int (nI o), .int t] (SH, mm, lm) false (.inl (some (.int (bI (colM mm t j o = true))))) (SH, mm, lm) false 0 0 := by
  refine CJ (bX10_collide_0 ⟨_, cm_areTogether hj ho, fun h => ?_, fun h => ⟨_, cm_offsetAt hj hpj t, _, cm_offsetAt ho hpo t, _, cm_gapBy hj ho _ _, fun h2 => ?_, fun h2 => ?_⟩⟩)
  · rw [bI_f (fun z => bI_0.mp h (of_decide_eq_true z).1)]; exact ⟨rfl, rfl⟩
  · rw [bI_f (fun z => (of_decide_eq_true z).2 h2)]; exact ⟨rfl, rfl⟩
  · have e : colM mm t j o = true := decide_eq_true ⟨bI_1.mp h, h2⟩
    rw [bI_t e]; exact ⟨rfl, rfl⟩
/-- the first tick with a pair: 64 times it, and the pair -/
def colV (p : Nat → Nat → Nat → Bool) (n : Nat) : Nat → Nat → Int32
  | 0, _ => -1
  | d + 1, t => match pairF (p t) n n 0 with
    | some q => 64 * nI t + 8 * nI q.1 + nI q.2
    | none => colV p n d (t + 1)
theorem cm_collision (hnb : mm 63 8 = nI nb) (h8 : nb ≤ 8) (hp : ∀ k, k < nb → ¬ mm 70 k = 0) : Ct G M_X10_collision [.ref 63] (SH, mm, lm) false (.inl (some (.int (colV (fun t => colM mm (nI t)) nb 1000 0)))) (SH, mm, lm) false 0 0 := by
  refine CJ (bX10_collision_0 ?_)
  refine loop_up (n := 1000) (P := fun t => J G M_X10_collision 2 [(0, .ref 63), (1, .int (nI t))] [] (SH, mm, lm) false (.inl (some (.int (colV (fun t => colM mm (nI t)) nb (1000 - t) t)))) (SH, mm, lm) false 0 0) ?_ ?_ 0 (Nat.zero_le _)
  · exact bX10_collision_2 ⟨fun _ => ⟨rfl, rfl⟩, fun h => absurd (lit_le (n := 1000) rfl) h⟩
  · intro t ht ih
    refine bX10_collision_2 ⟨fun h => absurd h (lit_ge (n := 1000) rfl ht (by omega)), fun _ => ?_⟩
    rw [show 1000 - t = (1000 - (t + 1)) + 1 by omega]
    have key := loop_up (n := nb) (P := fun l => J G M_X10_collision 11 [(0, .ref 63), (1, .int (nI t)), (2, .int (nI l))] [] (SH, mm, lm) false (.inl (some (.int (match pairF (colM mm (nI t)) nb (nb - l) l with
        | some q => 64 * nI t + 8 * nI q.1 + nI q.2
        | none => colV (fun t => colM mm (nI t)) nb (1000 - (t + 1)) (t + 1))))) (SH, mm, lm) false 0 0) ?_ ?_ 0 (Nat.zero_le _)
    · exact key
    · refine bX10_collision_11 ⟨fun _ => ?_, fun h => absurd (le_nI' hnb) h⟩
      rw [Nat.sub_self, nI_1]; exact ih
    · intro l hl ihl
      refine bX10_collision_11 ⟨fun h => absurd h (le_nI hnb hl (by omega)), fun _ => ?_⟩
      rw [nI_1]
      have inner := loop_up (n := nb) (P := fun x => l + 1 ≤ x → J G M_X10_collision 23 [(0, .ref 63), (1, .int (nI t)), (2, .int (nI l)), (3, .int (nI x))] [] (SH, mm, lm) false (.inl (some (.int (match (match nextN (colM mm (nI t) l) (nb - x) x with
          | some h => some (l, h)
          | none => pairF (colM mm (nI t)) nb (nb - (l + 1)) (l + 1) : Option (Nat × Nat)) with
          | some q => 64 * nI t + 8 * nI q.1 + nI q.2
          | none => colV (fun t => colM mm (nI t)) nb (1000 - (t + 1)) (t + 1))))) (SH, mm, lm) false 0 0) ?_ ?_ (l + 1) hl (Nat.le_refl _)
      · rw [show nb - l = (nb - (l + 1)) + 1 by omega]
        exact inner
      · intro _
        refine bX10_collision_23 ⟨fun _ => ?_, fun h => absurd (le_nI' hnb) h⟩
        rw [Nat.sub_self, nI_1]; exact ihl
      · intro x hx ih2 hlx
        rw [show nb - x = (nb - (x + 1)) + 1 by omega]
        refine bX10_collision_23 ⟨fun h => absurd h (le_nI hnb hx (by omega)), fun _ => ⟨_, cm_collide (by omega) (by omega) (hp l hl) (hp x hx) _, fun h => ?_, fun h => ?_⟩⟩
        · have e : colM mm (nI t) l x = false := Bool.eq_false_iff.mpr (bI_0.mp h)
          rw [nI_1, nextN_f e]; exact ih2 (by omega)
        · have e := bI_1.mp h
          rw [nextN_t e]; exact ⟨rfl, rfl⟩
/-- the bell j, swinging from f with amplitude a, is clear of the bell o -/
def safB (mm : Nat → Nat → Int32) (j : Nat) (f a : Int32) (o : Nat) : Bool := decide (o = j ∨ ¬ togM mm j o) || allN (fun t => decide (0 ≤ gaM mm j (obM (mm 70 j) f a (nI t)) o (oaM mm o (nI t)))) 1000
theorem cm_isSafe (hnb : mm 63 8 = nI nb) (h8 : nb ≤ 8) (hp : ∀ k, k < nb → ¬ mm 70 k = 0) {j : Nat} (hj : j < nb) (f a : Int32) : Ct G M_X10_isSafe [.ref 63, .int (nI j), .int f, .int a] (SH, mm, lm) false (.inl (some (.int (bI (allN (safB mm j f a) nb = true))))) (SH, mm, lm) false 0 0 := by
  refine CJ (bX10_isSafe_0 ?_)
  refine loop_up (n := nb) (P := fun k => allN (safB mm j f a) k = true → J G M_X10_isSafe 3 [(0, .ref 63), (1, .int (nI j)), (2, .int f), (3, .int a), (4, .int (nI k))] [] (SH, mm, lm) false (.inl (some (.int (bI (allN (safB mm j f a) nb = true))))) (SH, mm, lm) false 0 0) ?_ ?_ 0 (Nat.zero_le _) rfl
  · exact fun hf => bX10_isSafe_3 ⟨fun _ => by rw [bI_t hf]; exact ⟨rfl, rfl⟩, fun h => absurd (le_nI' hnb) h⟩
  · intro k hk ih hf
    refine bX10_isSafe_3 ⟨fun h => absurd h (le_nI hnb hk (by omega)), fun _ => ⟨fun h => ?_, fun h => ⟨_, cm_areTogether (by omega) (by omega), fun h2 => ?_, fun h2 => ?_⟩⟩⟩
    · have e : safB mm j f a k = true := by
        have : k = j := (nI_inj8 (by omega) (by omega)).mp h
        simp [safB, this]
      rw [nI_1]; exact ih (allN_s hf e)
    · have hkj : ¬ k = j := fun z => h (by rw [z])
      refine loop_up (n := 1000) (P := fun t => allN (fun t => decide (0 ≤ gaM mm j (obM (mm 70 j) f a (nI t)) k (oaM mm k (nI t)))) t = true → J G M_X10_isSafe 34 [(0, .ref 63), (1, .int (nI j)), (2, .int f), (3, .int a), (4, .int (nI k)), (5, .int (nI t))] [] (SH, mm, lm) false (.inl (some (.int (bI (allN (safB mm j f a) nb = true))))) (SH, mm, lm) false 0 0) ?_ ?_ 0 (Nat.zero_le _) rfl
      · intro hg
        have e : safB mm j f a k = true := by simp only [safB, hg, Bool.or_true]
        refine bX10_isSafe_34 ⟨fun _ => ?_, fun h => absurd (lit_le (n := 1000) rfl) h⟩
        rw [nI_1]; exact ih (allN_s hf e)
      · intro t ht ih2 hg
        refine bX10_isSafe_34 ⟨fun h => absurd h (lit_ge (n := 1000) rfl ht (by omega)), fun _ => ⟨_, cm_offsetBy (by omega) (hp j hj) _ _ _, _, cm_offsetAt (by omega) (hp k hk) _, _, cm_gapBy (by omega) (by omega) _ _, fun h3 => ?_, fun h3 => ?_⟩⟩
        · rw [nI_1]; exact ih2 (allN_s hg (decide_eq_true h3))
        · have e : ¬ allN (safB mm j f a) nb = true := allN_f hk (by
            have e1 : decide (k = j ∨ ¬ togM mm j k) = false := decide_eq_false fun z => z.elim hkj (fun y => y (bI_1.mp h2))
            have e2 : allN (fun t => decide (0 ≤ gaM mm j (obM (mm 70 j) f a (nI t)) k (oaM mm k (nI t)))) 1000 = false := Bool.eq_false_iff.mpr (allN_f ht (decide_eq_false h3))
            simp only [safB, e1, e2, Bool.or_false])
          rw [bI_f e]; exact ⟨rfl, rfl⟩
    · have e : safB mm j f a k = true := by
        have e1 : decide (k = j ∨ ¬ togM mm j k) = true := decide_eq_true (Or.inr (bI_0.mp h2))
        simp only [safB, e1, Bool.true_or]
      rw [nI_1]; exact ih (allN_s hf e)
def strM (p d : Int32) : Bool := decide (¬ d < 0 ∧ (d - d / p * p = p / 4 ∨ d - d / p * p = 3 * p / 4))
theorem cm_strikesAt {j : Nat} (hj : j < 8) (hp : ¬ mm 70 j = 0) (t : Int32) : Ct G M_X10_strikesAt [.ref 63, .int (nI j), .int t] (SH, mm, lm) false (.inl (some (.int (bI (strM (mm 70 j) (t - mm 64 (10 * j + 4)) = true))))) (SH, mm, lm) false 0 0 := by
  refine CJ (bX10_strikesAt_0 ⟨j, rfl, hj, _, cm_of hj (a := 4) rfl (by decide), fun h => ?_, fun h => ⟨hp, fun h3 => ?_, fun h3 => ⟨hp, fun h4 => ?_, fun h4 => ?_⟩⟩⟩)
  · have e : strM (mm 70 j) (t - mm 64 (10 * j + 4)) = false := decide_eq_false fun z => z.1 h
    rw [bI_f (Bool.eq_false_iff.mp e)]; exact ⟨rfl, rfl⟩
  · have e : strM (mm 70 j) (t - mm 64 (10 * j + 4)) = true := decide_eq_true ⟨h, Or.inl h3⟩
    rw [bI_t e]; exact ⟨rfl, rfl⟩
  · have e : strM (mm 70 j) (t - mm 64 (10 * j + 4)) = false := decide_eq_false fun z => z.2.elim h3 h4
    rw [bI_f (Bool.eq_false_iff.mp e)]; exact ⟨rfl, rfl⟩
  · have e : strM (mm 70 j) (t - mm 64 (10 * j + 4)) = true := decide_eq_true ⟨h, Or.inr h4⟩
    rw [bI_t e]; exact ⟨rfl, rfl⟩
end MSwing
