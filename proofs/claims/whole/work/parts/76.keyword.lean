/-! ===== key words ===== -/
def kwL : Nat → List Int32
  | 0 => [98, 101, 97, 109]
  | 1 => [98, 101, 108, 108]
  | 2 => [113, 117, 105, 101, 116]
  | _ => [114, 111, 112, 101]
theorem kwM : ∀ {k : Nat}, k < 4 → (1010 + k, 1030 + k, kwL k) ∈ kwS
  | 0, _ => kw_1010
  | 1, _ => kw_1011
  | 2, _ => kw_1012
  | 3, _ => kw_1013
theorem kw_tab : ∀ k, k < 4 → (kwL k).length < 6 ∧ nI (kwL k).length >>> ((0 : Int32) &&& 31) = nI (kwL k).length := by decide +kernel
theorem kw_chr : ∀ k, k < 4 → ∀ i, i < (kwL k).length → (Int32.toUInt32 (((kwL k).getD i 0) &&& 255) % 65536).toInt32 = (kwL k).getD i 0 ∧ ((kwL k).getD i 0).toUInt32.toUInt16.toUInt32.toInt32 = (kwL k).getD i 0 := by decide +kernel
theorem kw_byte : ∀ k, k < 4 → ∀ i, i < (kwL k).length → ∀ y, y < 256 → (cb y = (kwL k).getD i 0 ↔ nI y = (kwL k).getD i 0) := by decide +kernel
theorem kw_two : ∀ k, k < 4 → ∀ j, j < 4 → (kwL k).getD 2 0 = (kwL j).getD 2 0 → k = j := by decide +kernel
theorem kw_len2 : ∀ k, k < 4 → 2 < (kwL k).length := by decide +kernel
def kwIs (b : Nat → Nat) (t : Tk) (k : Nat) : Bool := decide (t.e - t.s = (kwL k).length ∧ ∀ i, i < (kwL k).length → nI (b (t.s + i)) = (kwL k).getD i 0)
/-- the statement that a token begins: 0 beam, 1 bell, 2 quiet, 3 rope, 4 none -/
def stT (b : Nat → Nat) (t : Tk) : Nat := if t.k = 1 then (if kwIs b t 0 = true then 0 else if kwIs b t 1 = true then 1 else if kwIs b t 2 = true then 2 else if kwIs b t 3 = true then 3 else 4) else 4
theorem kwIs_one {b : Nat → Nat} {t : Tk} {i j : Nat} (hi : i < 4) (hj : j < 4) (h : kwIs b t i = true) (g : kwIs b t j = true) : i = j := by
  have h2 := (of_decide_eq_true h).2 2 (kw_len2 i hi)
  have g2 := (of_decide_eq_true g).2 2 (kw_len2 j hj)
  exact kw_two i hi j hj (h2.symm.trans g2)
theorem stT_iff {b : Nat → Nat} {t : Tk} (h1 : t.k = 1) {k : Nat} (hk : k < 4) : stT b t = k ↔ kwIs b t k = true := by
  unfold stT
  rw [if_pos h1]
  by_cases h0 : kwIs b t 0 = true
  · rw [if_pos h0]; exact ⟨fun z => by rw [← z]; exact h0, fun z => kwIs_one (by decide) hk h0 z⟩
  rw [if_neg h0]
  by_cases h1 : kwIs b t 1 = true
  · rw [if_pos h1]; exact ⟨fun z => by rw [← z]; exact h1, fun z => kwIs_one (by decide) hk h1 z⟩
  rw [if_neg h1]
  by_cases h2 : kwIs b t 2 = true
  · rw [if_pos h2]; exact ⟨fun z => by rw [← z]; exact h2, fun z => kwIs_one (by decide) hk h2 z⟩
  rw [if_neg h2]
  by_cases h3 : kwIs b t 3 = true
  · rw [if_pos h3]; exact ⟨fun z => by rw [← z]; exact h3, fun z => kwIs_one (by decide) hk h3 z⟩
  rw [if_neg h3]
  refine ⟨fun z => by omega, fun z => ?_⟩
  match k, hk with
  | 0, _ => exact absurd z h0
  | 1, _ => exact absurd z h1
  | 2, _ => exact absurd z h2
  | 3, _ => exact absurd z h3
theorem stT_le {b : Nat → Nat} {t : Tk} : stT b t ≤ 4 := by
  unfold stT
  repeat' split
  all_goals omega
theorem stT_not {b : Nat → Nat} {t : Tk} (h : ¬ t.k = 1) : stT b t = 4 := by unfold stT; rw [if_neg h]
theorem tk_k {b : Nat → Nat} {n p : Nat} : (tk b n p).k < 5 := by
  unfold tk tkS
  repeat' split
  all_goals (first | exact (by decide : (0 : Nat) < 5) | exact (by decide : (1 : Nat) < 5) | exact (by decide : (2 : Nat) < 5) | exact (by decide : (3 : Nat) < 5) | exact (by decide : (4 : Nat) < 5))
section Words
variable {G : Gx} {mm : Nat → Nat → Int32} {lm : Nat → Int64} {n : Nat} {b : Nat → Nat}
theorem c_len {k : Nat} (hk : k < 4) : Ct G M_J0_length_8abf5 [.ref (1010 + k)] (SH, mm, lm) false (.inl (some (.int (nI (kwL k).length)))) (SH, mm, lm) false 0 0 :=
  CJ (bJ0_length_8abf5_0 (kwM hk) ⟨0, CJ (bJ0_coder_7d493_0 (kwM hk) ⟨rfl, rfl⟩), by rw [(kw_tab k hk).2], rfl⟩)
theorem c_char {k i : Nat} (hk : k < 4) (hi : i < (kwL k).length) : Ct G M_J0_charAt_5068e [.ref (1010 + k), .int (nI i)] (SH, mm, lm) false (.inl (some (.int ((kwL k).getD i 0)))) (SH, mm, lm) false 0 0 := by
  have hl := (kw_tab k hk).1
  have hc := kw_chr k hk i hi
  have hn : narrow .char (.int ((kwL k).getD i 0)) = .int ((kwL k).getD i 0) := congrArg Value.int hc.2
  refine CJ (bJ0_charAt_5068e_0 (kwM hk) ⟨1, CJ (bJ0_isLatin1_aae02_0 (kwM hk) ⟨rfl, rfl⟩), fun z => absurd z (by decide), fun _ => ⟨_, ?_, hn, rfl, rfl⟩⟩)
  refine CJ (bJ1_charAt_3b067_0 (kwM hk) ⟨CJ (bJ0_checkIndex_df160_0 fun fx hfx => by
    rcases hfx with rfl | rfl <;> exact ⟨nI i, CJ (bJ3_checkIndex_8e157_0 ⟨fun z => absurd z (nI_pos (by omega)), fun _ => ⟨fun _ => ⟨rfl, rfl⟩, fun z => absurd (nI_lt hi (by omega)) z⟩⟩), rfl, rfl⟩), i, rfl, hi, by rw [hc.1]; exact hn, by rw [hc.1], rfl⟩)
theorem c_tokenIs (hc : CB mm n b) {t : Tk} (ht : t.e ≤ n) (h1 : t.s ≤ t.e) (h5 : mm 1 5 = nI t.e) (h6 : mm 1 6 = nI t.s) {k : Nat} (hk : k < 4) : Ct G M_X8_tokenIs [.ref 1, .ref (1010 + k)] (SH, mm, lm) false (.inl (some (.int (bI (kwIs b t k = true))))) (SH, mm, lm) false 0 0 := by
  have hn := hc.2.1
  have hl := (kw_tab k hk).1
  have hd : mm 1 5 - mm 1 6 = nI (t.e - t.s) := by rw [h5, h6, nI_subN h1]
  refine CJ (bX8_tokenIs_0 (kwM hk) ⟨_, c_len hk, fun z => ?_, fun z => ?_⟩)
  · rw [hd] at z
    have hw := (nI_eq (by omega) (by omega)).mp z
    have key := loop_up (n := (kwL k).length) (P := fun i => (∀ j, j < i → nI (b (t.s + j)) = (kwL k).getD j 0) → J G M_X8_tokenIs 20 [(0, .ref 1), (1, .ref (1010 + k)), (2, .int (nI i))] [] (SH, mm, lm) false (.inl (some (.int (bI (kwIs b t k = true))))) (SH, mm, lm) false 0 0) ?_ ?_ 0 (by omega) (fun j hj => absurd hj (Nat.not_lt_zero j))
    · exact key
    · intro ha
      refine bX8_tokenIs_20 (kwM hk) ⟨_, c_len hk, fun _ => ⟨?_, rfl⟩, fun z => absurd (Int32.le_refl _) z⟩
      rw [bI_t (show kwIs b t k = true from decide_eq_true ⟨hw, ha⟩)]
    · intro i hi ih ha
      have hp : t.s + i < n := by omega
      have hv : cV n b (t.s + i) = cb (b (t.s + i)) := by rw [cV, if_pos hp]
      have hy := kw_byte k hk i hi _ (hc.2.2 _ hp).1
      refine bX8_tokenIs_20 (kwM hk) ⟨_, c_len hk, fun z => absurd z (nI_ge hi (by omega)), fun _ => ⟨_, by rw [h6, nI_add]; exact c_byteAt hc (by omega), _, c_char hk hi, fun z => ?_, fun z => ⟨?_, rfl⟩⟩⟩
      · rw [nI_1]
        refine ih fun j hj => ?_
        by_cases e : j = i
        · rw [e, ← hy, ← hv]; exact z
        · exact ha j (by omega)
      · rw [bI_f]
        intro y
        exact z (by rw [hv]; exact hy.mpr ((of_decide_eq_true y).2 i hi))
  · refine ⟨?_, rfl⟩
    rw [bI_f]
    intro y
    exact z (by rw [hd, (of_decide_eq_true y).1])
/-- the statement of a token, as the class numbers it -/
abbrev stI (x : Nat) : Int32 := if x = 4 then -1 else nI x
theorem c_statement (hc : CB mm n b) {t : Tk} (ht : t.e ≤ n) (h1 : t.s ≤ t.e) (h9 : t.k < 5) (hk : CTk mm t) : Ct G M_X8_statementOfToken [.ref 1] (SH, mm, lm) false (.inl (some (.int (stI (stT b t))))) (SH, mm, lm) false 0 0 := by
  have hl := hc.2.1
  obtain ⟨k6, k7, k5, -⟩ := hk
  refine CJ (bX8_statementOfToken_0 ⟨fun z => ?_, fun z => ?_⟩)
  · have hk1 : t.k = 1 := (nI_eq (b := 1) (by omega) (by decide)).mp (by rw [← k7]; exact z)
    have h5 := k5 (by omega)
    have c : ∀ k, k < 4 → Ct G M_X8_tokenIs [.ref 1, .ref (1010 + k)] (SH, mm, lm) false (.inl (some (.int (bI (kwIs b t k = true))))) (SH, mm, lm) false 0 0 := fun k hk => c_tokenIs hc ht h1 h5 k6 hk
    have e : stT b t = if kwIs b t 0 = true then 0 else if kwIs b t 1 = true then 1 else if kwIs b t 2 = true then 2 else if kwIs b t 3 = true then 3 else 4 := by unfold stT; rw [if_pos hk1]
    refine ⟨_, c 0 (by decide), fun y0 => ⟨_, c 1 (by decide), fun y1 => ⟨_, c 2 (by decide), fun y2 => ⟨_, c 3 (by decide), fun y3 => ⟨?_, rfl⟩, fun y3 => ⟨?_, rfl⟩⟩, fun y2 => ⟨?_, rfl⟩⟩, fun y1 => ⟨?_, rfl⟩⟩, fun y0 => ⟨?_, rfl⟩⟩
    · rw [e, if_neg (bI_0.mp y0), if_neg (bI_0.mp y1), if_neg (bI_0.mp y2), if_neg (bI_0.mp y3)]; rfl
    · rw [e, if_neg (bI_0.mp y0), if_neg (bI_0.mp y1), if_neg (bI_0.mp y2), if_pos (bI_1.mp y3)]; rfl
    · rw [e, if_neg (bI_0.mp y0), if_neg (bI_0.mp y1), if_pos (bI_1.mp y2)]; rfl
    · rw [e, if_neg (bI_0.mp y0), if_pos (bI_1.mp y1)]; rfl
    · rw [e, if_pos (bI_1.mp y0)]; rfl
  · rw [stT_not (fun y => z (by rw [k7, y]; rfl))]; exact ⟨rfl, rfl⟩
theorem cm_isKeyword (hc : MB mm n b) {t : Tk} (ht : t.e ≤ n) (h1 : t.s ≤ t.e) (h5 : t.k < 5) (hk : MTk mm t) (he : mm 63 24 = 0) {k : Nat} (hk4 : k < 4) : Ct G M_X10_isKeyword [.ref 63, .ref (1010 + k)] (SH, mm, lm) false (.inl (some (.int (bI (stT b t = k))))) (SH, mm, lm) false 0 0 := by
  have hn := hc.2.1
  have hl := (kw_tab k hk4).1
  obtain ⟨k21, k22, k20, -⟩ := hk
  have hd : mm 63 20 - mm 63 21 = nI (t.e - t.s) := by rw [k20, k21, nI_subN h1]
  refine CJ (bX10_isKeyword_0 (kwM hk4) ⟨_, cm_isFine, fun z => absurd he (bI_0.mp z), fun _ => ⟨fun z => ⟨?_, rfl⟩, fun z => ?_⟩⟩)
  · have hk1 : ¬ t.k = 1 := fun y => z (by rw [k22, y]; rfl)
    rw [bI_f]
    rw [stT_not hk1]; omega
  · have hk1 : t.k = 1 := by
      rw [k22] at z
      have : mk t.k < 2 ^ 31 := by unfold mk; split <;> (try split) <;> omega
      have z2 := (nI_eq (b := 2) this (by decide)).mp z
      unfold mk at z2
      split at z2
      · omega
      · split at z2 <;> omega
    have hb : bI (stT b t = k) = bI (kwIs b t k = true) := bI_congr (stT_iff hk1 hk4)
    rw [hb]
    refine ⟨_, c_len hk4, fun z => ?_, fun z => ?_⟩
    · rw [hd] at z
      have hw := (nI_eq (by omega) (by omega)).mp z
      have key := loop_up (n := (kwL k).length) (P := fun i => (∀ j, j < i → nI (b (t.s + j)) = (kwL k).getD j 0) → J G M_X10_isKeyword 35 [(0, .ref 63), (1, .ref (1010 + k)), (2, .int (nI i))] [] (SH, mm, lm) false (.inl (some (.int (bI (kwIs b t k = true))))) (SH, mm, lm) false 0 0) ?_ ?_ 0 (by omega) (fun j hj => absurd hj (Nat.not_lt_zero j))
      · exact key
      · intro ha
        refine bX10_isKeyword_35 (kwM hk4) ⟨_, c_len hk4, fun _ => ⟨?_, rfl⟩, fun z => absurd (Int32.le_refl _) z⟩
        rw [bI_t (show kwIs b t k = true from decide_eq_true ⟨hw, ha⟩)]
      · intro i hi ih ha
        have hp : t.s + i < n := by omega
        have hv := (hc.2.2 _ hp).2
        refine bX10_isKeyword_35 (kwM hk4) ⟨_, c_len hk4, fun z => absurd z (nI_ge hi (by omega)), fun _ => ⟨t.s + i, by rw [k21, nI_add], by omega, _, c_char hk4 hi, fun z => ?_, fun z => ⟨?_, rfl⟩⟩⟩
        · rw [nI_1]
          refine ih fun j hj => ?_
          by_cases e : j = i
          · rw [e, ← hv]; exact z
          · exact ha j (by omega)
        · rw [bI_f]
          intro y
          exact z (by rw [hv]; exact (of_decide_eq_true y).2 i hi)
    · refine ⟨?_, rfl⟩
      rw [bI_f]
      intro y
      exact z (by rw [hd, (of_decide_eq_true y).1])
theorem cm_isKeyword0 (he : ¬ mm 63 24 = 0) {k : Nat} (hk4 : k < 4) : Ct G M_X10_isKeyword [.ref 63, .ref (1010 + k)] (SH, mm, lm) false (.inl (some (.int 0))) (SH, mm, lm) false 0 0 :=
  CJ (bX10_isKeyword_0 (kwM hk4) ⟨_, cm_isFine, fun _ => ⟨rfl, rfl⟩, fun z => absurd (bI_1.mp z) he⟩)
end Words
