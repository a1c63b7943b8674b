/-! ===== contracts of the reference: plans, but for the ways; ropes, their lengths ===== -/
def bmM (mm : Nat → Nat → Int32) (A k : Nat) : Int32 := if dig A k = 0 then -1 else if dig A k = 1 then mm 64 (10 * k + 0) else mm 64 (10 * k + 2)
def psM (mm : Nat → Nat → Int32) (A k : Nat) : Int32 := if dig A k = 0 then 0 else if dig A k = 1 then mm 64 (10 * k + 1) else mm 64 (10 * k + 3)
/-- the bells k and o are clear, laid out -/
def clrB (be po rad : Nat → Int32) (k o : Nat) : Bool := decide (¬ be k = be o ∨ be k < 0 ∨ ¬ absI (po k - po o) < rad k + rad o)
section MPlan
variable {G : Gx} {mm : Nat → Nat → Int32} {lm : Nat → Int64} {nb nm : Nat}
theorem cm_layOut (hnb : mm 63 8 = nI nb) (h8 : nb ≤ 8) {A : Nat} (hA : A < 2 ^ 31) : ∃ mm', (∀ c, c < 76 ∨ 78 < c → mm' c = mm c) ∧ (∀ k, k < nb → mm' 78 k = nI (dig A k) ∧ mm' 77 k = bmM mm A k ∧ mm' 76 k = psM mm A k) ∧ Ct G M_X10_layOut [.ref 63, .int (nI A)] (SH, mm, lm) false (.inl none) (SH, mm', lm) false 0 0 := by
  have key := loop_up (n := nb) (P := fun k => ∀ m, (∀ c, c < 76 ∨ 78 < c → m c = mm c) → (∀ i, i < k → m 78 i = nI (dig A i) ∧ m 77 i = bmM mm A i ∧ m 76 i = psM mm A i) → ∃ mm', (∀ c, c < 76 ∨ 78 < c → mm' c = mm c) ∧ (∀ k, k < nb → mm' 78 k = nI (dig A k) ∧ mm' 77 k = bmM mm A k ∧ mm' 76 k = psM mm A k) ∧ J G M_X10_layOut 4 [(0, .ref 63), (2, .int (nI (A / 3 ^ k))), (3, .int (nI k))] [] (SH, m, lm) false (.inl none) (SH, mm', lm) false 0 0) ?_ ?_ 0 (Nat.zero_le _) mm (fun _ _ => rfl) (fun i hi => absurd hi (Nat.not_lt_zero i))
  · obtain ⟨mm', h1, h2, h3⟩ := key
    rw [Nat.pow_zero, Nat.div_one] at h3
    exact ⟨mm', h1, h2, CJ (bX10_layOut_0 h3)⟩
  · intro m hm h1
    exact ⟨m, hm, h1, bX10_layOut_4 ⟨fun _ => ⟨rfl, rfl⟩, fun h => absurd (le_nI' (by rw [hm 63 (by omega)]; exact hnb)) h⟩⟩
  · intro k hk ih m hm h1
    have hnb' : m 63 8 = nI nb := by rw [hm 63 (by omega)]; exact hnb
    have hq : A / 3 ^ k < 2 ^ 31 := Nat.lt_of_le_of_lt (Nat.div_le_self _ _) hA
    have hD : nI (A / 3 ^ k) - nI (A / 3 ^ k) / 3 * 3 = nI (dig A k) := by rw [show (3 : Int32) = nI 3 from rfl, pk_rem hq (by omega) (by omega)]; rfl
    have hN : nI (A / 3 ^ k) / 3 = nI (A / 3 ^ (k + 1)) := by rw [show (3 : Int32) = nI 3 from rfl, pk_div hq (by omega) (by omega), Nat.div_div_eq_div_mul, Nat.pow_succ]
    have hd := dig_lt A k
    have fin : ∀ v p, v = bmM mm A k → p = psM mm A k → ∃ mm', (∀ c, c < 76 ∨ 78 < c → mm' c = mm c) ∧ (∀ k, k < nb → mm' 78 k = nI (dig A k) ∧ mm' 77 k = bmM mm A k ∧ mm' 76 k = psM mm A k) ∧ J G M_X10_layOut 4 [(0, .ref 63), (2, .int (nI (A / 3 ^ k) / 3)), (3, .int (nI k + 1))] [] (SH, mset (mset (mset m 78 k (nI (dig A k))) 77 k v) 76 k p, lm) false (.inl none) (SH, mm', lm) false 0 0 := by
      intro v p hv hp
      rw [hN, nI_1]
      refine ih _ (fun c hc => by rw [mset_ne (by omega), mset_ne (by omega), mset_ne (by omega)]; exact hm c hc) (fun i hi => ?_)
      by_cases hik : i = k
      · subst hik
        refine ⟨?_, ?_, ?_⟩
        · rw [mset_ne (by decide), mset_ne (by decide), mset_eq]
        · rw [mset_ne (by decide), mset_eq, hv]
        · rw [mset_eq, hp]
      · have e := h1 i (by omega)
        refine ⟨?_, ?_, ?_⟩
        · rw [mset_ne (by decide), mset_ne (by decide), mset_ne2 (fun z => hik z.2)]; exact e.1
        · rw [mset_ne (by decide), mset_ne2 (fun z => hik z.2), mset_ne (by decide)]; exact e.2.1
        · rw [mset_ne2 (fun z => hik z.2), mset_ne (by decide), mset_ne (by decide)]; exact e.2.2
    have e1 : mset m 78 k (nI (dig A k)) 78 k = nI (dig A k) := mset_eq
    have e2 : ∀ v, mset (mset m 78 k (nI (dig A k))) 77 k v 78 k = nI (dig A k) := fun v => by rw [mset_ne (by decide), mset_eq]
    have cb : ∀ {y : Int32} {a : Nat}, y = nI a → a < 10 → Ct G M_X10_of [.ref 63, .int (nI k), .int y] (SH, mset m 78 k (nI (dig A k)), lm) false (.inl (some (.int (mm 64 (10 * k + a))))) (SH, mset m 78 k (nI (dig A k)), lm) false 0 0 := fun hy ha => by
      have := cm_of (G := G) (mm := mset m 78 k (nI (dig A k))) (lm := lm) (k := k) (by omega) hy ha
      rwa [mset_ne (by decide), hm 64 (by omega)] at this
    have cp : ∀ {y : Int32} {a : Nat} (v : Int32), y = nI a → a < 10 → Ct G M_X10_of [.ref 63, .int (nI k), .int y] (SH, mset (mset m 78 k (nI (dig A k))) 77 k v, lm) false (.inl (some (.int (mm 64 (10 * k + a))))) (SH, mset (mset m 78 k (nI (dig A k))) 77 k v, lm) false 0 0 := fun v hy ha => by
      have := cm_of (G := G) (mm := mset (mset m 78 k (nI (dig A k))) 77 k v) (lm := lm) (k := k) (by omega) hy ha
      rwa [mset_ne (by decide), mset_ne (by decide), hm 64 (by omega)] at this
    have z0 : ∀ {x : Int32}, x = nI (dig A k) → (x = 0 ↔ dig A k = 0) := fun hx => by rw [hx]; exact nI_eq (b := 0) (by omega) (by omega)
    have z1 : ∀ {x : Int32}, x = nI (dig A k) → (x = 1 ↔ dig A k = 1) := fun hx => by rw [hx]; exact nI_eq (b := 1) (by omega) (by omega)
    rcases (show dig A k = 0 ∨ dig A k = 1 ∨ dig A k = 2 by omega) with h0 | h0 | h0
    · obtain ⟨mm', q1, q2, q3⟩ := fin (-1) 0 (by rw [bmM, if_pos h0]) (by rw [psM, if_pos h0])
      refine ⟨mm', q1, q2, bX10_layOut_4 ⟨fun h => absurd h (le_nI hnb' hk (by omega)), fun _ => ?_⟩⟩
      rw [hD]
      exact ⟨k, rfl, by omega, k, rfl, by omega, fun h => absurd ((z0 e1).mpr h0) h, fun _ => ⟨k, rfl, by omega, k, rfl, by omega, fun h => absurd ((z0 (e2 _)).mpr h0) h, fun _ => ⟨k, rfl, by omega, q3⟩⟩⟩
    · obtain ⟨mm', q1, q2, q3⟩ := fin (mm 64 (10 * k + 0)) (mm 64 (10 * k + 1)) (by rw [bmM, if_neg (by omega), if_pos h0]) (by rw [psM, if_neg (by omega), if_pos h0])
      refine ⟨mm', q1, q2, bX10_layOut_4 ⟨fun h => absurd h (le_nI hnb' hk (by omega)), fun _ => ?_⟩⟩
      rw [hD]
      exact ⟨k, rfl, by omega, k, rfl, by omega, fun _ => ⟨k, rfl, by omega, fun h => absurd ((z1 e1).mpr h0) h, fun _ => ⟨_, cb (a := 0) rfl (by decide), k, rfl, by omega, k, rfl, by omega, fun _ => ⟨k, rfl, by omega, fun h => absurd ((z1 (e2 _)).mpr h0) h, fun _ => ⟨_, cp (a := 1) _ rfl (by decide), k, rfl, by omega, q3⟩⟩, fun h => absurd ((z0 (e2 _)).mp h) (by omega)⟩⟩, fun h => absurd ((z0 e1).mp h) (by omega)⟩
    · obtain ⟨mm', q1, q2, q3⟩ := fin (mm 64 (10 * k + 2)) (mm 64 (10 * k + 3)) (by rw [bmM, if_neg (by omega), if_neg (by omega)]) (by rw [psM, if_neg (by omega), if_neg (by omega)])
      refine ⟨mm', q1, q2, bX10_layOut_4 ⟨fun h => absurd h (le_nI hnb' hk (by omega)), fun _ => ?_⟩⟩
      rw [hD]
      exact ⟨k, rfl, by omega, k, rfl, by omega, fun _ => ⟨k, rfl, by omega, fun _ => ⟨_, cb (a := 2) rfl (by decide), k, rfl, by omega, k, rfl, by omega, fun _ => ⟨k, rfl, by omega, fun _ => ⟨_, cp (a := 3) _ rfl (by decide), k, rfl, by omega, q3⟩, fun h => absurd ((z1 (e2 _)).mp h) (by omega)⟩, fun h => absurd ((z0 (e2 _)).mp h) (by omega)⟩, fun h => absurd ((z1 e1).mp h) (by omega)⟩, fun h => absurd ((z0 e1).mp h) (by omega)⟩
theorem cm_isPlaced {k : Nat} (hk : k < 8) : Ct G M_X10_isPlaced [.ref 63, .int (nI k)] (SH, mm, lm) false (.inl (some (.int (bI (¬ mm 77 k < 0))))) (SH, mm, lm) false 0 0 := by
  refine CJ (bX10_isPlaced_0 ⟨k, rfl, hk, fun h => ?_, fun h => ?_⟩)
  · rw [bI_f (not_not_intro h)]; exact ⟨rfl, rfl⟩
  · rw [bI_t h]; exact ⟨rfl, rfl⟩
theorem cm_areClear {k o : Nat} (hk : k < 8) (ho : o < 8) : Ct G M_X10_areClear [.ref 63, .int (nI k), .int (nI o)] (SH, mm, lm) false (.inl (some (.int (bI (clrB (mm 77) (mm 76) (mm 69) k o = true))))) (SH, mm, lm) false 0 0 := by
  refine CJ (bX10_areClear_0 ⟨k, rfl, hk, o, rfl, ho, fun h => ?_, fun h => ⟨_, cm_isPlaced hk, fun h2 => ?_, fun h2 => ⟨k, rfl, hk, o, rfl, ho, _, cm_size _, k, rfl, hk, o, rfl, ho, fun h3 => ?_, fun h3 => ?_⟩⟩⟩)
  · have e : clrB (mm 77) (mm 76) (mm 69) k o = true := decide_eq_true (Or.inl h)
    rw [bI_t e]; exact ⟨rfl, rfl⟩
  · have e : clrB (mm 77) (mm 76) (mm 69) k o = true := decide_eq_true (Or.inr (Or.inl (Decidable.not_not.mp (bI_0.mp h2))))
    rw [bI_t e]; exact ⟨rfl, rfl⟩
  · have e : clrB (mm 77) (mm 76) (mm 69) k o = false := by
      refine decide_eq_false ?_
      rintro (z | z | z)
      · exact z h
      · exact bI_1.mp h2 z
      · exact z h3
    rw [bI_f (Bool.eq_false_iff.mp e)]; exact ⟨rfl, rfl⟩
  · have e : clrB (mm 77) (mm 76) (mm 69) k o = true := decide_eq_true (Or.inr (Or.inr h3))
    rw [bI_t e]; exact ⟨rfl, rfl⟩
theorem cm_torqueLaid (hnb : mm 63 8 = nI nb) (h8 : nb ≤ 8) (b : Nat) : Ct G M_X10_torqueLaid [.ref 63, .int (nI b)] (SH, mm, lm) false (.inl (some (.int (moA (mm 77) (mm 76) (mm 68) nb b)))) (SH, mm, lm) false 0 0 := by
  refine CJ (bX10_torqueLaid_0 ?_)
  refine loop_up (n := nb) (P := fun k => J G M_X10_torqueLaid 4 [(0, .ref 63), (1, .int (nI b)), (2, .int (moA (mm 77) (mm 76) (mm 68) k b)), (3, .int (nI k))] [] (SH, mm, lm) false (.inl (some (.int (moA (mm 77) (mm 76) (mm 68) nb b)))) (SH, mm, lm) false 0 0) ?_ ?_ 0 (Nat.zero_le _)
  · exact bX10_torqueLaid_4 ⟨fun _ => ⟨rfl, rfl⟩, fun h => absurd (le_nI' hnb) h⟩
  · intro k hk ih
    refine bX10_torqueLaid_4 ⟨fun h => absurd h (le_nI hnb hk (by omega)), fun _ => ⟨k, rfl, by omega, fun h => ?_, fun h => ⟨k, rfl, by omega, k, rfl, by omega, ?_⟩⟩⟩
    · rw [nI_1]; simpa [moA, sumN, h] using ih
    · rw [nI_1]; simpa [moA, sumN, h] using ih
/-- an arrangement that can be, laid out -/
def canB (dg be po rad w lim : Nat → Int32) (nb nm : Nat) : Bool := allN (fun k => decide (dg k ≤ 0 ∨ ¬ be k < 0) && allN (clrB be po rad k) k) nb && allN (fun b => decide (¬ lim b < absI (moA be po w nb b))) nm
theorem canB_congr {dg be po rad w lim dg' be' po' rad' w' lim' : Nat → Int32} {nb nm : Nat} (h1 : ∀ k, k < nb → dg k = dg' k ∧ be k = be' k ∧ po k = po' k ∧ rad k = rad' k ∧ w k = w' k) (h2 : ∀ b, b < nm → lim b = lim' b) : canB dg be po rad w lim nb nm = canB dg' be' po' rad' w' lim' nb nm := by
  unfold canB
  congr 1
  · refine allN_congr fun k hk => ?_
    obtain ⟨a1, a2, a3, a4, -⟩ := h1 k hk
    rw [a1, a2]
    congr 1
    refine allN_congr fun o ho => ?_
    obtain ⟨-, b2, b3, b4, -⟩ := h1 o (by omega)
    simp only [clrB, a2, a3, a4, b2, b3, b4]
  · refine allN_congr fun b hb => ?_
    have e : moA be po w nb b = moA be' po' w' nb b := sumN_congr fun k hk => by
      obtain ⟨-, a2, a3, -, a5⟩ := h1 k hk
      rw [a2, a3, a5]
    rw [h2 b hb, e]
theorem cm_canBe (hnb : mm 63 8 = nI nb) (h8 : nb ≤ 8) (hnm : mm 63 5 = nI nm) (h4 : nm ≤ 4) {A : Nat} (hA : A < 2 ^ 31) : ∃ mm', (∀ c, c < 76 ∨ 78 < c → mm' c = mm c) ∧ (∀ k, k < nb → mm' 78 k = nI (dig A k) ∧ mm' 77 k = bmM mm A k ∧ mm' 76 k = psM mm A k) ∧ Ct G M_X10_canBe [.ref 63, .int (nI A)] (SH, mm, lm) false (.inl (some (.int (bI (canB (fun k => nI (dig A k)) (bmM mm A) (psM mm A) (mm 69) (mm 68) (mm 67) nb nm = true))))) (SH, mm', lm) false 0 0 := by
  obtain ⟨m1, e1, e2, ct⟩ := cm_layOut (G := G) (lm := lm) hnb h8 hA
  refine ⟨m1, e1, e2, CJ (bX10_canBe_0 ⟨m1, ct, ?_⟩)⟩
  have hnb' : m1 63 8 = nI nb := by rw [e1 63 (by omega)]; exact hnb
  have hnm' : m1 63 5 = nI nm := by rw [e1 63 (by omega)]; exact hnm
  have ec : canB (fun k => nI (dig A k)) (bmM mm A) (psM mm A) (mm 69) (mm 68) (mm 67) nb nm = canB (m1 78) (m1 77) (m1 76) (m1 69) (m1 68) (m1 67) nb nm := canB_congr (fun k hk => ⟨(e2 k hk).1.symm, (e2 k hk).2.1.symm, (e2 k hk).2.2.symm, by rw [e1 69 (by omega)], by rw [e1 68 (by omega)]⟩) (fun b _ => by rw [e1 67 (by omega)])
  rw [ec]
  generalize hP : (fun k => decide (m1 78 k ≤ 0 ∨ ¬ m1 77 k < 0) && allN (clrB (m1 77) (m1 76) (m1 69) k) k) = P
  have hPk : ∀ k, P k = (decide (m1 78 k ≤ 0 ∨ ¬ m1 77 k < 0) && allN (clrB (m1 77) (m1 76) (m1 69) k) k) := fun k => by rw [← hP]
  generalize hQ : (fun b => decide (¬ m1 67 b < absI (moA (m1 77) (m1 76) (m1 68) nb b))) = Q
  have hQb : ∀ b, Q b = decide (¬ m1 67 b < absI (moA (m1 77) (m1 76) (m1 68) nb b)) := fun b => by rw [← hQ]
  have ecan : canB (m1 78) (m1 77) (m1 76) (m1 69) (m1 68) (m1 67) nb nm = (allN P nb && allN Q nm) := by rw [← hP, ← hQ]; rfl
  rw [ecan]
  refine loop_up (n := nb) (P := fun k => allN P k = true → J G M_X10_canBe 7 [(0, .ref 63), (2, .int (nI k))] [] (SH, m1, lm) false (.inl (some (.int (bI ((allN P nb && allN Q nm) = true))))) (SH, m1, lm) false 0 0) ?_ ?_ 0 (Nat.zero_le _) rfl
  · intro hf
    refine bX10_canBe_7 ⟨fun _ => ?_, fun h => absurd (le_nI' hnb') h⟩
    refine loop_up (n := nm) (P := fun b => allN Q b = true → J G M_X10_canBe 66 [(0, .ref 63), (2, .int (nI b))] [] (SH, m1, lm) false (.inl (some (.int (bI ((allN P nb && allN Q nm) = true))))) (SH, m1, lm) false 0 0) ?_ ?_ 0 (Nat.zero_le _) rfl
    · intro hg
      refine bX10_canBe_66 ⟨fun _ => ?_, fun h => absurd (le_nI' hnm') h⟩
      rw [bI_t (by rw [hf, hg]; rfl)]; exact ⟨rfl, rfl⟩
    · intro b hb ih hg
      refine bX10_canBe_66 ⟨fun h => absurd h (le_nI hnm' hb (by omega)), fun _ => ⟨_, cm_torqueLaid hnb' h8 b, _, cm_isBalanced (by omega) _, fun h => ?_, fun h => ?_⟩⟩
      · rw [nI_1]; exact ih (allN_s hg (by rw [hQb]; exact decide_eq_true (bI_1.mp h)))
      · have e : allN Q nm = false := Bool.eq_false_iff.mpr (allN_f hb (by rw [hQb]; exact decide_eq_false (bI_0.mp h)))
        rw [bI_f (by rw [e, Bool.and_false]; decide)]; exact ⟨rfl, rfl⟩
  · intro k hk ih hf
    have bad : P k = false → J G M_X10_canBe 7 [(0, .ref 63), (2, .int (nI k))] [] (SH, m1, lm) false (.inl (some (.int 0))) (SH, m1, lm) false 0 0 → J G M_X10_canBe 7 [(0, .ref 63), (2, .int (nI k))] [] (SH, m1, lm) false (.inl (some (.int (bI ((allN P nb && allN Q nm) = true))))) (SH, m1, lm) false 0 0 := fun hp hj => by
      have e : allN P nb = false := Bool.eq_false_iff.mpr (allN_f hk hp)
      rw [bI_f (by rw [e, Bool.false_and]; decide)]; exact hj
    have inner : decide (m1 78 k ≤ 0 ∨ ¬ m1 77 k < 0) = true → J G M_X10_canBe 36 [(0, .ref 63), (2, .int (nI k)), (3, .int 0)] [] (SH, m1, lm) false (.inl (some (.int (bI ((allN P nb && allN Q nm) = true))))) (SH, m1, lm) false 0 0 := by
      intro hd
      refine loop_up (n := k) (P := fun o => allN (clrB (m1 77) (m1 76) (m1 69) k) o = true → J G M_X10_canBe 36 [(0, .ref 63), (2, .int (nI k)), (3, .int (nI o))] [] (SH, m1, lm) false (.inl (some (.int (bI ((allN P nb && allN Q nm) = true))))) (SH, m1, lm) false 0 0) ?_ ?_ 0 (Nat.zero_le _) rfl
      · intro hg
        refine bX10_canBe_36 ⟨fun _ => ?_, fun h => absurd (Int32.le_refl _) h⟩
        rw [nI_1]; exact ih (allN_s hf (by rw [hPk, hd, hg]; rfl))
      · intro o ho ih2 hg
        refine bX10_canBe_36 ⟨fun h => absurd h (nI_ge ho (by omega)), fun _ => ⟨_, cm_areClear (by omega) (by omega), fun h => ?_, fun h => ?_⟩⟩
        · rw [nI_1]; exact ih2 (allN_s hg (bI_1.mp h))
        · have e0 : allN (clrB (m1 77) (m1 76) (m1 69) k) k = false := Bool.eq_false_iff.mpr (allN_f ho (Bool.eq_false_iff.mpr (bI_0.mp h)))
          have e : allN P nb = false := Bool.eq_false_iff.mpr (allN_f hk (by rw [hPk, e0, Bool.and_false]))
          rw [bI_f (by rw [e, Bool.false_and]; decide)]; exact ⟨rfl, rfl⟩
    refine bX10_canBe_7 ⟨fun h => absurd h (le_nI hnb' hk (by omega)), fun _ => ⟨k, rfl, by omega, fun h => inner (decide_eq_true (Or.inl h)), fun h => ⟨_, cm_isPlaced (by omega), fun h2 => inner (decide_eq_true (Or.inr (bI_1.mp h2))), fun h2 => ?_⟩⟩⟩
    have e : allN P nb = false := Bool.eq_false_iff.mpr (allN_f hk (by
      have e0 : decide (m1 78 k ≤ 0 ∨ ¬ m1 77 k < 0) = false := decide_eq_false fun z => z.elim h (bI_0.mp h2)
      rw [hPk, e0, Bool.false_and]))
    rw [bI_f (by rw [e, Bool.false_and]; decide)]; exact ⟨rfl, rfl⟩
def goMD (mm : Nat → Nat → Int32) (k : Nat) : Nat := if mm 64 (10 * k + 2) < 0 then (if mm 64 (10 * k + 0) < 0 then 0 else 1) else 2
def prMD (mm : Nat → Nat → Int32) (k : Nat) : Nat := if mm 64 (10 * k + 0) < 0 then 0 else 1
theorem goMD_lt (mm : Nat → Nat → Int32) (k : Nat) : goMD mm k < 3 := by unfold goMD; split; split; all_goals omega
theorem prMD_lt (mm : Nat → Nat → Int32) (k : Nat) : prMD mm k < 3 := by unfold prMD; split <;> omega
theorem cm_goal (hnb : mm 63 8 = nI nb) (h8 : nb ≤ 8) : Ct G M_X10_goal [.ref 63] (SH, mm, lm) false (.inl (some (.int (nI (arrN (goMD mm) nb))))) (SH, mm, lm) false 0 0 := by
  refine CJ (bX10_goal_0 ?_)
  refine loop_up (n := nb) (P := fun k => J G M_X10_goal 6 [(0, .ref 63), (1, .int (nI (arrN (goMD mm) k))), (2, .int (nI (3 ^ k))), (3, .int (nI k))] [] (SH, mm, lm) false (.inl (some (.int (nI (arrN (goMD mm) nb))))) (SH, mm, lm) false 0 0) ?_ ?_ 0 (Nat.zero_le _)
  · exact bX10_goal_6 ⟨fun _ => ⟨rfl, rfl⟩, fun h => absurd (le_nI' hnb) h⟩
  · intro k hk ih
    have nxt : ∀ d : Nat, goMD mm k = d → J G M_X10_goal 6 [(0, .ref 63), (1, .int (nI (arrN (goMD mm) k) + nI (3 ^ k) * nI d)), (2, .int (nI (3 ^ k) * 3)), (3, .int (nI k + 1))] [] (SH, mm, lm) false (.inl (some (.int (nI (arrN (goMD mm) nb))))) (SH, mm, lm) false 0 0 := fun d e => by
      rw [nI_mul, nI_add, show (3 : Int32) = nI 3 from rfl, nI_mul, nI_1, ← Nat.pow_succ, Nat.mul_comm (3 ^ k) d]
      simpa only [arrN, e] using ih
    refine bX10_goal_6 ⟨fun h => absurd h (le_nI hnb hk (by omega)), fun _ => ⟨_, cm_of (by omega) (a := 2) rfl (by decide), fun h => ⟨_, cm_hangs (by omega), fun h2 => nxt 0 ?_, fun h2 => nxt 1 ?_⟩, fun h => nxt 2 ?_⟩⟩
    · rw [goMD, if_pos h, if_pos (Decidable.not_not.mp (bI_0.mp h2))]
    · rw [goMD, if_pos h, if_neg (bI_1.mp h2)]
    · rw [goMD, if_neg h]
theorem cm_powerOf {k : Nat} (hk : k ≤ 8) : Ct G M_X10_powerOf [.ref 63, .int (nI k)] (SH, mm, lm) false (.inl (some (.int (nI (3 ^ k))))) (SH, mm, lm) false 0 0 := by
  refine CJ (bX10_powerOf_0 ?_)
  refine loop_up (n := k) (P := fun i => J G M_X10_powerOf 4 [(1, .int (nI k)), (2, .int (nI (3 ^ i))), (3, .int (nI i))] [] (SH, mm, lm) false (.inl (some (.int (nI (3 ^ k))))) (SH, mm, lm) false 0 0) ?_ ?_ 0 (Nat.zero_le _)
  · exact bX10_powerOf_4 ⟨fun _ => ⟨rfl, rfl⟩, fun h => absurd (Int32.le_refl _) h⟩
  · intro i hi ih
    refine bX10_powerOf_4 ⟨fun h => absurd h (nI_ge hi (by omega)), fun _ => ?_⟩
    rw [nI_1, show (3 : Int32) = nI 3 from rfl, nI_mul, ← Nat.pow_succ]; exact ih
theorem cm_present (hnb : mm 63 8 = nI nb) (h8 : nb ≤ 8) : Ct G M_X10_present [.ref 63] (SH, mm, lm) false (.inl (some (.int (nI (arrN (prMD mm) nb))))) (SH, mm, lm) false 0 0 := by
  refine CJ (bX10_present_0 ?_)
  refine loop_up (n := nb) (P := fun k => J G M_X10_present 4 [(0, .ref 63), (1, .int (nI (arrN (prMD mm) k))), (2, .int (nI k))] [] (SH, mm, lm) false (.inl (some (.int (nI (arrN (prMD mm) nb))))) (SH, mm, lm) false 0 0) ?_ ?_ 0 (Nat.zero_le _)
  · exact bX10_present_4 ⟨fun _ => ⟨rfl, rfl⟩, fun h => absurd (le_nI' hnb) h⟩
  · intro k hk ih
    refine bX10_present_4 ⟨fun h => absurd h (le_nI hnb hk (by omega)), fun _ => ⟨_, cm_hangs (by omega), fun h => ?_, fun h => ⟨_, cm_powerOf (by omega), ?_⟩⟩⟩
    · have e : prMD mm k = 0 := if_pos (Decidable.not_not.mp (bI_0.mp h))
      rw [nI_1, Int32.add_zero]; simpa only [arrN, e, Nat.zero_mul, Nat.add_zero] using ih
    · have e : prMD mm k = 1 := if_neg (bI_1.mp h)
      rw [nI_1, nI_add]; simpa only [arrN, e, Nat.one_mul] using ih
/-- bodies of the two that look at the plans -/
theorem cm_planConflicts (hnb : mm 63 8 = nI nb) (h8 : nb ≤ 8) : ∃ mm', (∀ c, c < 76 ∨ 78 < c → mm' c = mm c) ∧ J G M_X10_planConflicts 10 [(0, .ref 63)] [] (SH, mm, lm) false (.inl (some (.int (nI (cntP (fun k o => !(clrB (bmM mm (arrN (goMD mm) nb)) (psM mm (arrN (goMD mm) nb)) (mm 69) k o)) nb))))) (SH, mm', lm) false 0 0 := by
  have hA : arrN (goMD mm) nb < 2 ^ 31 := Nat.lt_of_lt_of_le (arrN_lt (goMD_lt mm) nb) (Nat.le_trans (pow_le8 h8) (by omega))
  obtain ⟨m1, e1, e2, ct⟩ := cm_layOut (G := G) (lm := lm) hnb h8 hA
  refine ⟨m1, e1, bX10_planConflicts_10 ⟨_, cm_goal hnb h8, m1, ct, ?_⟩⟩
  have hnb' : m1 63 8 = nI nb := by rw [e1 63 (by omega)]; exact hnb
  rw [cntP_congr (p := fun k o => !(clrB (bmM mm (arrN (goMD mm) nb)) (psM mm (arrN (goMD mm) nb)) (mm 69) k o)) (q := fun k o => !(clrB (m1 77) (m1 76) (m1 69) k o)) (fun k o hk ho => by
    obtain ⟨-, a2, a3⟩ := e2 k hk
    obtain ⟨-, b2, b3⟩ := e2 o (by omega)
    simp only [clrB, a2, a3, b2, b3, e1 69 (Or.inl (by omega))])]
  generalize hP : (fun k o => !(clrB (m1 77) (m1 76) (m1 69) k o)) = P
  have hPk : ∀ k o, P k o = !(clrB (m1 77) (m1 76) (m1 69) k o) := fun k o => by rw [← hP]
  refine loop_up (n := nb) (P := fun k => J G M_X10_planConflicts 22 [(0, .ref 63), (1, .int (nI (cntP P k))), (2, .int (nI k))] [] (SH, m1, lm) false (.inl (some (.int (nI (cntP P nb))))) (SH, m1, lm) false 0 0) ?_ ?_ 0 (Nat.zero_le _)
  · exact bX10_planConflicts_22 ⟨fun _ => ⟨rfl, rfl⟩, fun h => absurd (le_nI' hnb') h⟩
  · intro k hk ih
    refine bX10_planConflicts_22 ⟨fun h => absurd h (le_nI hnb' hk (by omega)), fun _ => ?_⟩
    refine loop_up (n := k) (P := fun o => J G M_X10_planConflicts 32 [(0, .ref 63), (1, .int (nI (cntP P k + cntN (P k) o))), (2, .int (nI k)), (3, .int (nI o))] [] (SH, m1, lm) false (.inl (some (.int (nI (cntP P nb))))) (SH, m1, lm) false 0 0) ?_ ?_ 0 (Nat.zero_le _)
    · refine bX10_planConflicts_32 ⟨fun _ => ?_, fun h => absurd (Int32.le_refl _) h⟩
      rw [nI_1]; exact ih
    · intro o ho ih2
      refine bX10_planConflicts_32 ⟨fun h => absurd h (nI_ge ho (by omega)), fun _ => ⟨_, cm_areClear (by omega) (by omega), fun h => ?_, fun h => ?_⟩⟩
      · have e : P k o = true := by rw [hPk, Bool.eq_false_iff.mpr (bI_0.mp h)]; rfl
        rw [nI_1, nI_1]; simpa [cntN, e, Nat.add_assoc] using ih2
      · have e : P k o = false := by rw [hPk, bI_1.mp h]; rfl
        rw [nI_1, Int32.add_zero]; simpa [cntN, e] using ih2
theorem cm_planUnbalanced (hnb : mm 63 8 = nI nb) (h8 : nb ≤ 8) (hnm : mm 63 5 = nI nm) (h4 : nm ≤ 4) : ∃ mm', (∀ c, c < 76 ∨ 78 < c → mm' c = mm c) ∧ J G M_X10_planUnbalanced 10 [(0, .ref 63)] [] (SH, mm, lm) false (.inl (some (.int (orN (fun b => decide (mm 67 b < absI (moA (bmM mm (arrN (goMD mm) nb)) (psM mm (arrN (goMD mm) nb)) (mm 68) nb b))) nm)))) (SH, mm', lm) false 0 0 := by
  have hA : arrN (goMD mm) nb < 2 ^ 31 := Nat.lt_of_lt_of_le (arrN_lt (goMD_lt mm) nb) (Nat.le_trans (pow_le8 h8) (by omega))
  obtain ⟨m1, e1, e2, ct⟩ := cm_layOut (G := G) (lm := lm) hnb h8 hA
  refine ⟨m1, e1, bX10_planUnbalanced_10 ⟨_, cm_goal hnb h8, m1, ct, ?_⟩⟩
  have hnb' : m1 63 8 = nI nb := by rw [e1 63 (by omega)]; exact hnb
  have hnm' : m1 63 5 = nI nm := by rw [e1 63 (by omega)]; exact hnm
  rw [orN_congr (p := fun b => decide (mm 67 b < absI (moA (bmM mm (arrN (goMD mm) nb)) (psM mm (arrN (goMD mm) nb)) (mm 68) nb b))) (q := fun b => decide (m1 67 b < absI (moA (m1 77) (m1 76) (m1 68) nb b))) (fun b _ => by
    have e : moA (m1 77) (m1 76) (m1 68) nb b = moA (bmM mm (arrN (goMD mm) nb)) (psM mm (arrN (goMD mm) nb)) (mm 68) nb b := sumN_congr fun k hk => by
      obtain ⟨-, a2, a3⟩ := e2 k hk
      rw [a2, a3, e1 68 (Or.inl (by omega))]
    rw [e, e1 67 (Or.inl (by omega))])]
  refine loop_up (n := nm) (P := fun b => J G M_X10_planUnbalanced 22 [(0, .ref 63), (1, .int (orN (fun b => decide (m1 67 b < absI (moA (m1 77) (m1 76) (m1 68) nb b))) b)), (2, .int (nI b))] [] (SH, m1, lm) false (.inl (some (.int (orN (fun b => decide (m1 67 b < absI (moA (m1 77) (m1 76) (m1 68) nb b))) nm)))) (SH, m1, lm) false 0 0) ?_ ?_ 0 (Nat.zero_le _)
  · exact bX10_planUnbalanced_22 ⟨fun _ => ⟨rfl, rfl⟩, fun h => absurd (le_nI' hnm') h⟩
  · intro b hb ih
    refine bX10_planUnbalanced_22 ⟨fun h => absurd h (le_nI hnm' hb (by omega)), fun _ => ⟨_, cm_torqueLaid hnb' h8 b, _, cm_isBalanced (by omega) _, fun h => ?_, fun h => ?_⟩⟩
    · have e : decide (m1 67 b < absI (moA (m1 77) (m1 76) (m1 68) nb b)) = true := decide_eq_true (Decidable.not_not.mp (bI_0.mp h))
      rw [nI_1]; simpa [orN, e] using ih
    · have e : decide (m1 67 b < absI (moA (m1 77) (m1 76) (m1 68) nb b)) = false := decide_eq_false (bI_1.mp h)
      rw [nI_1]; simpa [orN, e] using ih
end MPlan
