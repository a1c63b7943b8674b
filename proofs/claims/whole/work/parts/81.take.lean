/-! ===== what was read is taken over: the reference's and the class's ===== -/
def okV (D : Dr) : Prop := ∀ r, r < 8 → ∀ j, j < D.1 (kd r) → loT r ≤ D.2 r j ∧ D.2 r j ≤ hiT r
theorem nums_ok {b : Nat → Nat} {n k : Nat} : ∀ m i p v, (nums b n k m i p v).1 = 0 → ∀ x, (x < i → (nums b n k m i p v).2.2 x = v x) ∧ (i ≤ x → x < i + m → loT (bsT k + x) ≤ (nums b n k m i p v).2.2 x ∧ (nums b n k m i p v).2.2 x ≤ hiT (bsT k + x))
  | 0, i, p, v, _, x => ⟨fun _ => rfl, fun h1 h2 => absurd h2 (by omega)⟩
  | m + 1, i, p, v, h, x => by
    rw [nums_s] at h ⊢
    by_cases hb : badT k i v (tk b n p) = 0
    · rw [if_neg (fun z => z hb)] at h ⊢
      have ih := nums_ok m (i + 1) (tk b n p).e (updT v i (tk b n p).v) h x
      refine ⟨fun hx => ?_, fun h1 h2 => ?_⟩
      · rw [ih.1 (by omega)]; unfold updT; rw [if_neg (by omega)]
      · by_cases e : x = i
        · rw [ih.1 (by omega)]; unfold updT; rw [if_pos e, e]
          unfold badT at hb
          split at hb
          · exact absurd hb (by decide)
          · split at hb
            · exact absurd hb (by decide)
            · omega
        · exact ih.2 (by omega) (by omega)
    · rw [if_pos hb] at h; exact absurd h hb
theorem okV.add {D : Dr} {k : Nat} {v : Nat → Nat} (h : okV D) (hk : k < 4) (hv : ∀ x, x < cnT k → loT (bsT k + x) ≤ v x ∧ v x ≤ hiT (bsT k + x)) : okV (addD D k v) := fun r hr j hj => by
  have hj' : j < updT D.1 k (D.1 k + 1) (kd r) := hj
  show loT r ≤ (if kd r = k ∧ j = D.1 k then v (r - bsT k) else D.2 r j) ∧ (if kd r = k ∧ j = D.1 k then v (r - bsT k) else D.2 r j) ≤ hiT r
  unfold updT at hj'
  by_cases e : kd r = k
  · rw [if_pos e] at hj'
    by_cases ej : j = D.1 k
    · rw [if_pos ⟨e, ej⟩]
      have q := kd_inv r hr k hk e
      have q2 := hv (r - bsT k) (by omega)
      rw [show bsT k + (r - bsT k) = r by omega] at q2; exact q2
    · rw [if_neg (fun z => ej z.2)]; exact h r hr j (by rw [e]; omega)
  · rw [if_neg e] at hj'
    rw [if_neg (fun z => e z.1)]; exact h r hr j hj'
theorem goT_ok {b : Nat → Nat} {n : Nat} : ∀ f L t D, okV D → (goT b n f L t D).1 = 0 → okV (goT b n f L t D).2.2
  | 0, L, t, D, h, z => absurd z (show ¬ (1 : Nat) = 0 by decide)
  | f + 1, L, t, D, h, z => by
    rw [go_s] at z ⊢
    by_cases h0 : t.k = 0
    · rw [if_pos h0] at z ⊢
      by_cases h1 : D.1 1 = 0
      · rw [if_pos h1] at z; exact absurd z (show ¬ (1 : Nat) = 0 by decide)
      · rw [if_neg h1]; exact h
    rw [if_neg h0] at z ⊢
    by_cases hw : wrT b L t D = true
    · rw [if_pos hw] at z; exact absurd z (show ¬ (1 : Nat) = 0 by decide)
    rw [if_neg hw] at z ⊢
    by_cases hf : moT (stT b t) ≤ D.1 (stT b t)
    · rw [if_pos hf] at z; exact absurd z (show ¬ (4 : Nat) = 0 by decide)
    rw [if_neg hf] at z ⊢
    have nk := nums_ok (b := b) (n := n) (k := stT b t) (cnT (stT b t)) 0 t.e (fun _ => 0)
    generalize nums b n (stT b t) (cnT (stT b t)) 0 t.e (fun _ => 0) = q at nk z ⊢
    by_cases hq : q.1 = 0
    · rw [if_neg (fun y => y hq)] at z ⊢
      by_cases h3 : (tk b n q.2.1).k = 3
      · rw [if_neg (fun y => y h3)] at z ⊢
        have hk : stT b t < 4 := by
          have := stT_le (b := b) (t := t)
          by_cases e : stT b t = 4
          · exact absurd (decide_eq_true (Or.inl e)) hw
          · omega
        exact goT_ok f _ _ _ (h.add hk fun x hx => (nk hq x).2 (Nat.zero_le _) (by omega)) z
      · rw [if_pos h3] at z; exact absurd z (show ¬ (1 : Nat) = 0 by decide)
    · rw [if_pos hq] at z; exact absurd z hq
theorem txT_ok {b : Nat → Nat} {n : Nat} (h : (txT b n).1 = 0) : okV (txT b n).2.2 := goT_ok _ _ _ _ (fun r hr j hj => absurd hj (Nat.not_lt_zero j)) h
/-- the reference's rows up to statement i of kind k -/
def TS (M : Nat → Nat → Int32) (D : Dr) (k i : Nat) (m : Nat → Nat → Int32) : Prop := (∀ c, c < 66 ∨ 73 < c → m c = M c) ∧ ∀ r, r < 8 → ∀ j, (kd r < k ∧ j < D.1 (kd r)) ∨ (kd r = k ∧ j < i) → m (66 + r) j = nI (D.2 r j)
section Take
variable {G : Gx} {mm m m2 M : Nat → Nat → Int32} {lm : Nat → Int64} {D : Dr}
theorem TS.step {k i : Nat} (h : TS M D k i m) (h1 : ∀ c, c < 66 ∨ 73 < c → m2 c = m c) (h2 : ∀ r, r < 8 → kd r = k → m2 (66 + r) = upd (m (66 + r)) i (nI (D.2 r i))) (h3 : ∀ r, r < 8 → kd r ≠ k → m2 (66 + r) = m (66 + r)) : TS M D k (i + 1) m2 := by
  refine ⟨fun c hc => (h1 c hc).trans (h.1 c hc), fun r hr j hj => ?_⟩
  by_cases e : kd r = k
  · rw [h2 r hr e]
    show (if j = i then _ else m (66 + r) j) = _
    by_cases ej : j = i
    · rw [if_pos ej, ej]
    · rw [if_neg ej]; exact h.2 r hr j (by omega)
  · rw [h3 r hr e]; exact h.2 r hr j (by omega)
theorem TS.next {k : Nat} (h : TS M D k (D.1 k) m) : TS M D (k + 1) 0 m := ⟨h.1, fun r hr j hj => h.2 r hr j (by
  rcases hj with ⟨a, c⟩ | ⟨a, c⟩
  · by_cases e : kd r = k
    · rw [e] at c; exact Or.inr ⟨e, c⟩
    · exact Or.inl ⟨by omega, c⟩
  · exact absurd c (Nat.not_lt_zero j))⟩
theorem cm_takeOver (hd : DR 3 mm D) : ∃ m', (∀ c, c ≠ 63 → c ≠ 64 → c < 66 ∨ 73 < c → m' c = mm c) ∧ (∀ j, j ≠ 2 → j ≠ 3 → j ≠ 5 → j ≠ 8 → j ≠ 12 → j ≠ 15 → m' 63 j = mm 63 j) ∧ (m' 63 2 = 0 ∧ m' 63 3 = 1 ∧ m' 63 5 = nI (D.1 0) ∧ m' 63 8 = nI (D.1 1) ∧ m' 63 12 = nI (D.1 2) ∧ m' 63 15 = nI (D.1 3)) ∧
    (∀ r, r < 8 → ∀ j, j < D.1 (kd r) → m' (66 + r) j = nI (D.2 r j)) ∧ (∀ i, i < 80 → m' 64 i = -1) ∧ Ct G M_X10_takeOver [.ref 63] (SH, mm, lm) false (.inl none) (SH, m', lm) false 0 0 := by
  have c0 := hd.1 0 (by decide)
  have c1 := hd.1 1 (by decide)
  have c2 := hd.1 2 (by decide)
  have c3 := hd.1 3 (by decide)
  have e0 : mm 63 27 = nI (D.1 0) := c0.1 (by decide)
  have e1 : mm 63 28 = nI (D.1 1) := c1.1 (by decide)
  have e2 : mm 63 29 = nI (D.1 2) := c2.1 (by decide)
  have e3 : mm 63 30 = nI (D.1 3) := c3.1 (by decide)
  have b0 : D.1 0 ≤ 4 := c0.2.1
  have b1 : D.1 1 ≤ 8 := c1.2.1
  have b2 : D.1 2 ≤ 6 := c2.2.1
  have b3 : D.1 3 ≤ 8 := c3.2.1
  obtain ⟨M, hM⟩ : ∃ M, M = mset (mset (mset (mset (mset mm 63 3 1) 63 5 (nI (D.1 0))) 63 8 (nI (D.1 1))) 63 12 (nI (D.1 2))) 63 15 (nI (D.1 3)) := ⟨_, rfl⟩
  have M75 : M 75 = mm 75 := by rw [hM, mset_ne (by decide), mset_ne (by decide), mset_ne (by decide), mset_ne (by decide), mset_ne (by decide)]
  have M5 : M 63 5 = nI (D.1 0) := by rw [hM, mset_in (by decide), mset_in (by decide), mset_in (by decide), mset_eq]
  have M8 : M 63 8 = nI (D.1 1) := by rw [hM, mset_in (by decide), mset_in (by decide), mset_eq]
  have M12 : M 63 12 = nI (D.1 2) := by rw [hM, mset_in (by decide), mset_eq]
  have M15 : M 63 15 = nI (D.1 3) := by rw [hM, mset_eq]
  have dv : ∀ {m k i r q}, TS M D k i m → r < 8 → kd r = k → i < D.1 k → q = dp r i → m 75 q = nI (D.2 r i) := fun {m k i r q} h hr hk hi hq => by
    rw [h.1 75 (by decide), M75, hq]; exact hd.2 r hr i (by rw [hk]; exact hi)
  have L4 : ∀ m, TS M D 4 0 m → ∃ m', (∀ c, c ≠ 63 → c ≠ 64 → m' c = m c) ∧ (∀ j, j ≠ 2 → m' 63 j = m 63 j) ∧ m' 63 2 = 0 ∧ (∀ i, i < 80 → m' 64 i = -1) ∧ J G M_X10_takeOver 239 [(0, .ref 63), (1, .int 0)] [] (SH, m, lm) false (.inl none) (SH, m', lm) false 0 0 := by
    intro m _
    refine loop_up (n := 80) (P := fun i => ∀ m0, (∀ c, c ≠ 64 → m0 c = m c) → (∀ j, j < i → m0 64 j = -1) → ∃ m', (∀ c, c ≠ 63 → c ≠ 64 → m' c = m c) ∧ (∀ j, j ≠ 2 → m' 63 j = m 63 j) ∧ m' 63 2 = 0 ∧ (∀ i, i < 80 → m' 64 i = -1) ∧ J G M_X10_takeOver 239 [(0, .ref 63), (1, .int (nI i))] [] (SH, m0, lm) false (.inl none) (SH, m', lm) false 0 0) ?_ ?_ 0 (by omega) m (fun _ _ => rfl) (fun j hj => absurd hj (Nat.not_lt_zero j))
    · intro m0 h1 h2
      exact ⟨mset m0 63 2 0, fun c d1 d2 => by rw [mset_ne d1]; exact h1 c d2, fun j hj => by rw [mset_in hj, h1 63 (by decide)], mset_eq, fun i hi => by rw [mset_ne (by decide)]; exact h2 i hi, bX10_takeOver_239 ⟨fun _ => ⟨rfl, rfl⟩, fun z => absurd (Int32.le_refl _) z⟩⟩
    · intro i hi ih m0 h1 h2
      obtain ⟨m', q1, q2, q3, q4, q5⟩ := ih (mset m0 64 i (-1)) (fun c d => by rw [mset_ne d]; exact h1 c d) (fun j hj => by
        by_cases e : j = i
        · rw [e, mset_eq]
        · rw [mset_in e]; exact h2 j (by omega))
      exact ⟨m', q1, q2, q3, q4, bX10_takeOver_239 ⟨fun z => absurd z (lit_ge (n := 80) rfl hi (by decide)), fun _ => ⟨i, rfl, hi, by rw [nI_1]; exact q5⟩⟩⟩
  have L3 : ∀ m, TS M D 3 0 m → ∃ m1, TS M D 4 0 m1 ∧ ∀ m', J G M_X10_takeOver 239 [(0, .ref 63), (1, .int 0)] [] (SH, m1, lm) false (.inl none) (SH, m', lm) false 0 0 → J G M_X10_takeOver 208 [(0, .ref 63), (1, .int 0)] [] (SH, m, lm) false (.inl none) (SH, m', lm) false 0 0 := by
    intro m ht
    refine loop_up (n := D.1 3) (P := fun i => ∀ m0, TS M D 3 i m0 → ∃ m1, TS M D 4 0 m1 ∧ ∀ m', J G M_X10_takeOver 239 [(0, .ref 63), (1, .int 0)] [] (SH, m1, lm) false (.inl none) (SH, m', lm) false 0 0 → J G M_X10_takeOver 208 [(0, .ref 63), (1, .int (nI i))] [] (SH, m0, lm) false (.inl none) (SH, m', lm) false 0 0) ?_ ?_ 0 (by omega) m ht
    · intro m0 h
      exact ⟨m0, h.next, fun m' hj => bX10_takeOver_208 ⟨fun _ => hj, fun z => absurd (by rw [h.1 63 (by decide), M15]; exact Int32.le_refl _) z⟩⟩
    · intro i hi ih m0 h
      have v7 : m0 75 (44 + i) = nI (D.2 7 i) := dv h (by decide) rfl hi (by show 44 + i = 44 + 1 * i + 0; omega)
      obtain ⟨m1, q1, q2⟩ := ih (mset m0 73 i (m0 75 (44 + i))) (h.step (fun c hc => mset_ne (by omega)) (fun r hr e => by
        have q := kd_inv r hr 3 (by decide) e
        have q2 : r = 7 := by simp only [bsT, cnT] at q; omega
        rw [q2, v7, mset_at]) (fun r hr e => by
        have q7 : r ≠ 7 := fun z => e (by rw [z]; rfl)
        exact mset_ne (by omega)))
      exact ⟨m1, q1, fun m' hj => bX10_takeOver_208 ⟨fun z => absurd z (by rw [h.1 63 (by decide), M15]; exact nI_ge hi (by omega)), fun _ => ⟨44 + i, by rw [show (44 : Int32) = nI 44 from rfl, nI_add], by omega, i, rfl, by omega, by rw [nI_1]; exact q2 m' hj⟩⟩⟩
  have L2 : ∀ m, TS M D 2 0 m → ∃ m1, TS M D 3 0 m1 ∧ ∀ m', J G M_X10_takeOver 208 [(0, .ref 63), (1, .int 0)] [] (SH, m1, lm) false (.inl none) (SH, m', lm) false 0 0 → J G M_X10_takeOver 156 [(0, .ref 63), (1, .int 0)] [] (SH, m, lm) false (.inl none) (SH, m', lm) false 0 0 := by
    intro m ht
    refine loop_up (n := D.1 2) (P := fun i => ∀ m0, TS M D 2 i m0 → ∃ m1, TS M D 3 0 m1 ∧ ∀ m', J G M_X10_takeOver 208 [(0, .ref 63), (1, .int 0)] [] (SH, m1, lm) false (.inl none) (SH, m', lm) false 0 0 → J G M_X10_takeOver 156 [(0, .ref 63), (1, .int (nI i))] [] (SH, m0, lm) false (.inl none) (SH, m', lm) false 0 0) ?_ ?_ 0 (by omega) m ht
    · intro m0 h
      exact ⟨m0, h.next, fun m' hj => bX10_takeOver_156 ⟨fun _ => hj, fun z => absurd (by rw [h.1 63 (by decide), M12]; exact Int32.le_refl _) z⟩⟩
    · intro i hi ih m0 h
      have v5 : m0 75 (32 + 2 * i) = nI (D.2 5 i) := dv h (by decide) rfl hi (by show 32 + 2 * i = 32 + 2 * i + 0; omega)
      have v6 : m0 75 (32 + 2 * i + 1) = nI (D.2 6 i) := dv h (by decide) rfl hi (by show 32 + 2 * i + 1 = 32 + 2 * i + 1; omega)
      obtain ⟨m1, q1, q2⟩ := ih (mset (mset m0 71 i (nI (D.2 5 i))) 72 i (nI (D.2 6 i))) (h.step (fun c hc => by rw [mset_ne (by omega), mset_ne (by omega)]) (fun r hr e => by
        have q := kd_inv r hr 2 (by decide) e
        have q2 : r = 5 ∨ r = 6 := by simp only [bsT, cnT] at q; omega
        rcases q2 with rfl | rfl
        · rw [mset_ne (by decide), mset_at]
        · rw [mset_at, mset_ne (by decide)]) (fun r hr e => by
        have q5 : r ≠ 5 := fun z => e (by rw [z]; rfl)
        have q6 : r ≠ 6 := fun z => e (by rw [z]; rfl)
        rw [mset_ne (by omega), mset_ne (by omega)]))
      refine ⟨m1, q1, fun m' hj => bX10_takeOver_156 ⟨fun z => absurd z (by rw [h.1 63 (by decide), M12]; exact nI_ge hi (by omega)), fun _ => ⟨32 + 2 * i, by rw [show (32 : Int32) = nI 32 from rfl, show (2 : Int32) = nI 2 from rfl, nI_mul, nI_add], by omega, i, rfl, by omega, 32 + 2 * i + 1, by rw [show (32 : Int32) = nI 32 from rfl, show (2 : Int32) = nI 2 from rfl, nI_mul, nI_add, nI_1], by omega, i, rfl, by omega, ?_⟩⟩⟩
      rw [v5, mset_ne (a := 75) (by decide), v6, nI_1]; exact q2 m' hj
  have L1 : ∀ m, TS M D 1 0 m → ∃ m1, TS M D 2 0 m1 ∧ ∀ m', J G M_X10_takeOver 156 [(0, .ref 63), (1, .int 0)] [] (SH, m1, lm) false (.inl none) (SH, m', lm) false 0 0 → J G M_X10_takeOver 85 [(0, .ref 63), (1, .int 0)] [] (SH, m, lm) false (.inl none) (SH, m', lm) false 0 0 := by
    intro m ht
    refine loop_up (n := D.1 1) (P := fun i => ∀ m0, TS M D 1 i m0 → ∃ m1, TS M D 2 0 m1 ∧ ∀ m', J G M_X10_takeOver 156 [(0, .ref 63), (1, .int 0)] [] (SH, m1, lm) false (.inl none) (SH, m', lm) false 0 0 → J G M_X10_takeOver 85 [(0, .ref 63), (1, .int (nI i))] [] (SH, m0, lm) false (.inl none) (SH, m', lm) false 0 0) ?_ ?_ 0 (by omega) m ht
    · intro m0 h
      exact ⟨m0, h.next, fun m' hj => bX10_takeOver_85 ⟨fun _ => hj, fun z => absurd (by rw [h.1 63 (by decide), M8]; exact Int32.le_refl _) z⟩⟩
    · intro i hi ih m0 h
      have v2 : m0 75 (8 + 3 * i) = nI (D.2 2 i) := dv h (by decide) rfl hi (by show 8 + 3 * i = 8 + 3 * i + 0; omega)
      have v3 : m0 75 (8 + 3 * i + 1) = nI (D.2 3 i) := dv h (by decide) rfl hi (by show 8 + 3 * i + 1 = 8 + 3 * i + 1; omega)
      have v4 : m0 75 (8 + 3 * i + 2) = nI (D.2 4 i) := dv h (by decide) rfl hi (by show 8 + 3 * i + 2 = 8 + 3 * i + 2; omega)
      obtain ⟨m1, q1, q2⟩ := ih (mset (mset (mset m0 68 i (nI (D.2 2 i))) 69 i (nI (D.2 3 i))) 70 i (nI (D.2 4 i))) (h.step (fun c hc => by rw [mset_ne (by omega), mset_ne (by omega), mset_ne (by omega)]) (fun r hr e => by
        have q := kd_inv r hr 1 (by decide) e
        have q2 : r = 2 ∨ r = 3 ∨ r = 4 := by simp only [bsT, cnT] at q; omega
        rcases q2 with rfl | rfl | rfl
        · rw [mset_ne (by decide), mset_ne (by decide), mset_at]
        · rw [mset_ne (by decide), mset_at, mset_ne (by decide)]
        · rw [mset_at, mset_ne (by decide), mset_ne (by decide)]) (fun r hr e => by
        have q2 : r ≠ 2 := fun z => e (by rw [z]; rfl)
        have q3 : r ≠ 3 := fun z => e (by rw [z]; rfl)
        have q4 : r ≠ 4 := fun z => e (by rw [z]; rfl)
        rw [mset_ne (by omega), mset_ne (by omega), mset_ne (by omega)]))
      refine ⟨m1, q1, fun m' hj => bX10_takeOver_85 ⟨fun z => absurd z (by rw [h.1 63 (by decide), M8]; exact nI_ge hi (by omega)), fun _ => ⟨8 + 3 * i, by rw [show (8 : Int32) = nI 8 from rfl, show (3 : Int32) = nI 3 from rfl, nI_mul, nI_add], by omega, i, rfl, by omega, 8 + 3 * i + 1, by rw [show (8 : Int32) = nI 8 from rfl, show (3 : Int32) = nI 3 from rfl, nI_mul, nI_add, nI_1], by omega, i, rfl, by omega, 8 + 3 * i + 2, by rw [show (8 : Int32) = nI 8 from rfl, show (3 : Int32) = nI 3 from rfl, nI_mul, nI_add, show (2 : Int32) = nI 2 from rfl, nI_add], by omega, i, rfl, by omega, ?_⟩⟩⟩
      rw [v2, mset_ne (a := 75) (by decide), v3, mset_ne (a := 75) (by decide), mset_ne (a := 75) (by decide), v4, nI_1]; exact q2 m' hj
  have L0 : ∀ m, TS M D 0 0 m → ∃ m1, TS M D 1 0 m1 ∧ ∀ m', J G M_X10_takeOver 85 [(0, .ref 63), (1, .int 0)] [] (SH, m1, lm) false (.inl none) (SH, m', lm) false 0 0 → J G M_X10_takeOver 39 [(0, .ref 63), (1, .int 0)] [] (SH, m, lm) false (.inl none) (SH, m', lm) false 0 0 := by
    intro m ht
    refine loop_up (n := D.1 0) (P := fun i => ∀ m0, TS M D 0 i m0 → ∃ m1, TS M D 1 0 m1 ∧ ∀ m', J G M_X10_takeOver 85 [(0, .ref 63), (1, .int 0)] [] (SH, m1, lm) false (.inl none) (SH, m', lm) false 0 0 → J G M_X10_takeOver 39 [(0, .ref 63), (1, .int (nI i))] [] (SH, m0, lm) false (.inl none) (SH, m', lm) false 0 0) ?_ ?_ 0 (by omega) m ht
    · intro m0 h
      exact ⟨m0, h.next, fun m' hj => bX10_takeOver_39 ⟨fun _ => hj, fun z => absurd (by rw [h.1 63 (by decide), M5]; exact Int32.le_refl _) z⟩⟩
    · intro i hi ih m0 h
      have v0 : m0 75 (2 * i) = nI (D.2 0 i) := dv h (by decide) rfl hi (by show 2 * i = 0 + 2 * i + 0; omega)
      have v1 : m0 75 (2 * i + 1) = nI (D.2 1 i) := dv h (by decide) rfl hi (by show 2 * i + 1 = 0 + 2 * i + 1; omega)
      obtain ⟨m1, q1, q2⟩ := ih (mset (mset m0 66 i (nI (D.2 0 i))) 67 i (nI (D.2 1 i))) (h.step (fun c hc => by rw [mset_ne (by omega), mset_ne (by omega)]) (fun r hr e => by
        have q := kd_inv r hr 0 (by decide) e
        have q2 : r = 0 ∨ r = 1 := by simp only [bsT, cnT] at q; omega
        rcases q2 with rfl | rfl
        · rw [mset_ne (by decide), mset_at]
        · rw [mset_at, mset_ne (by decide)]) (fun r hr e => by
        have q0 : r ≠ 0 := fun z => e (by rw [z]; rfl)
        have q1 : r ≠ 1 := fun z => e (by rw [z]; rfl)
        rw [mset_ne (by omega), mset_ne (by omega)]))
      refine ⟨m1, q1, fun m' hj => bX10_takeOver_39 ⟨fun z => absurd z (by rw [h.1 63 (by decide), M5]; exact nI_ge hi (by omega)), fun _ => ⟨2 * i, by rw [show (2 : Int32) = nI 2 from rfl, nI_mul], by omega, i, rfl, by omega, 2 * i + 1, by rw [show (2 : Int32) = nI 2 from rfl, nI_mul, nI_1], by omega, i, rfl, by omega, ?_⟩⟩⟩
      rw [v0, mset_ne (a := 75) (by decide), v1, nI_1]; exact q2 m' hj
  obtain ⟨a1, t1, j1⟩ := L0 M ⟨fun _ _ => rfl, fun r hr j hj => by omega⟩
  obtain ⟨a2, t2, j2⟩ := L1 a1 t1
  obtain ⟨a3, t3, j3⟩ := L2 a2 t2
  obtain ⟨a4, t4, j4⟩ := L3 a3 t3
  obtain ⟨m', q1, q2, q3, q4, q5⟩ := L4 a4 t4
  have r63 : a4 63 = M 63 := t4.1 63 (by decide)
  refine ⟨m', fun c d1 d2 d3 => ?_, fun j d2 d3 d5 d8 d12 d15 => ?_, ⟨q3, ?_, ?_, ?_, ?_, ?_⟩, fun r hr j hj => ?_, q4, CJ (bX10_takeOver_0 ?_)⟩
  · rw [q1 c d1 d2, t4.1 c d3, hM, mset_ne d1, mset_ne d1, mset_ne d1, mset_ne d1, mset_ne d1]
  · rw [q2 j d2, r63, hM, mset_in d15, mset_in d12, mset_in d8, mset_in d5, mset_in d3]
  · rw [q2 3 (by decide), r63, hM, mset_in (by decide), mset_in (by decide), mset_in (by decide), mset_in (by decide), mset_eq]
  · rw [q2 5 (by decide), r63]; exact M5
  · rw [q2 8 (by decide), r63]; exact M8
  · rw [q2 12 (by decide), r63]; exact M12
  · rw [q2 15 (by decide), r63]; exact M15
  · rw [q1 (66 + r) (by omega) (by omega)]; exact t4.2 r hr j (Or.inl ⟨kd_lt r, hj⟩)
  · have n1 : mset mm 63 3 1 63 27 = nI (D.1 0) := by rw [mset_in (by decide)]; exact e0
    rw [n1]
    have n2 : mset (mset mm 63 3 1) 63 5 (nI (D.1 0)) 63 28 = nI (D.1 1) := by rw [mset_in (by decide), mset_in (by decide)]; exact e1
    rw [n2]
    have n3 : mset (mset (mset mm 63 3 1) 63 5 (nI (D.1 0))) 63 8 (nI (D.1 1)) 63 29 = nI (D.1 2) := by rw [mset_in (by decide), mset_in (by decide), mset_in (by decide)]; exact e2
    rw [n3]
    have n4 : mset (mset (mset (mset mm 63 3 1) 63 5 (nI (D.1 0))) 63 8 (nI (D.1 1))) 63 12 (nI (D.1 2)) 63 30 = nI (D.1 3) := by rw [mset_in (by decide), mset_in (by decide), mset_in (by decide), mset_in (by decide)]; exact e3
    rw [n4, ← hM]
    exact j1 _ (j2 _ (j3 _ (j4 _ q5)))
theorem mcpy_ne {p q N a : Nat} (h : a ≠ q) : mcpy mm p q N a = mm a := by funext b; simp [mcpy, h]
theorem mcpy_in {p q N b : Nat} (h : b < N) : mcpy mm p q N q b = mm p b := by simp [mcpy, h]
theorem c_copyTower (hd : CDr mm D) : ∃ m', (∀ c, c < 4 ∨ 12 < c → m' c = mm c) ∧ (m' 4 8 = nI (D.1 0) ∧ m' 4 9 = nI (D.1 1) ∧ m' 4 10 = nI (D.1 2) ∧ m' 4 11 = nI (D.1 3)) ∧ (∀ r, r < 8 → ∀ j, j < D.1 (kd r) → m' (5 + r) j = nI (D.2 r j)) ∧ Ct G M_X7_copyFrom [.ref 4, .ref 13] (SH, mm, lm) false (.inl none) (SH, m', lm) false 0 0 := by
  obtain ⟨A, hA⟩ : ∃ A, A = mcpy (mcpy (mcpy (mcpy (mcpy (mcpy (mcpy (mcpy mm 14 5 4) 15 6 4) 16 7 8) 17 8 8) 18 9 8) 19 10 6) 20 11 6) 21 12 8 := ⟨_, rfl⟩
  have Ac : ∀ c, c < 5 ∨ 12 < c → A c = mm c := fun c hc => by rw [hA, mcpy_ne (by omega), mcpy_ne (by omega), mcpy_ne (by omega), mcpy_ne (by omega), mcpy_ne (by omega), mcpy_ne (by omega), mcpy_ne (by omega), mcpy_ne (by omega)]
  have A13 : ∀ k, k < 4 → A 13 (8 + k) = nI (D.1 k) := fun k hk => by rw [Ac 13 (by omega)]; exact (hd.1 k hk).1
  have a0 : A 13 8 = nI (D.1 0) := A13 0 (by decide)
  have a1 : A 13 9 = nI (D.1 1) := A13 1 (by decide)
  have a2 : A 13 10 = nI (D.1 2) := A13 2 (by decide)
  have a3 : A 13 11 = nI (D.1 3) := A13 3 (by decide)
  have b0 : D.1 0 ≤ 4 := (hd.1 0 (by decide)).2
  have b1 : D.1 1 ≤ 8 := (hd.1 1 (by decide)).2
  have b2 : D.1 2 ≤ 6 := (hd.1 2 (by decide)).2
  have b3 : D.1 3 ≤ 8 := (hd.1 3 (by decide)).2
  have e : ∀ r, r < 8 → ∀ j, j < D.1 (kd r) → A (5 + r) j = mm (14 + r) j := by
    intro r hr j hj
    rw [hA]
    match r, hr, hj with
    | 0, _, hj =>
      have hj : j < D.1 0 := hj
      rw [mcpy_ne (by decide), mcpy_ne (by decide), mcpy_ne (by decide), mcpy_ne (by decide), mcpy_ne (by decide), mcpy_ne (by decide), mcpy_ne (by decide), mcpy_in (by omega)]
    | 1, _, hj =>
      have hj : j < D.1 0 := hj
      rw [mcpy_ne (by decide), mcpy_ne (by decide), mcpy_ne (by decide), mcpy_ne (by decide), mcpy_ne (by decide), mcpy_ne (by decide), mcpy_in (by omega), mcpy_ne (by decide)]
    | 2, _, hj =>
      have hj : j < D.1 1 := hj
      rw [mcpy_ne (by decide), mcpy_ne (by decide), mcpy_ne (by decide), mcpy_ne (by decide), mcpy_ne (by decide), mcpy_in (by omega), mcpy_ne (by decide), mcpy_ne (by decide)]
    | 3, _, hj =>
      have hj : j < D.1 1 := hj
      rw [mcpy_ne (by decide), mcpy_ne (by decide), mcpy_ne (by decide), mcpy_ne (by decide), mcpy_in (by omega), mcpy_ne (by decide), mcpy_ne (by decide), mcpy_ne (by decide)]
    | 4, _, hj =>
      have hj : j < D.1 1 := hj
      rw [mcpy_ne (by decide), mcpy_ne (by decide), mcpy_ne (by decide), mcpy_in (by omega), mcpy_ne (by decide), mcpy_ne (by decide), mcpy_ne (by decide), mcpy_ne (by decide)]
    | 5, _, hj =>
      have hj : j < D.1 2 := hj
      rw [mcpy_ne (by decide), mcpy_ne (by decide), mcpy_in (by omega), mcpy_ne (by decide), mcpy_ne (by decide), mcpy_ne (by decide), mcpy_ne (by decide), mcpy_ne (by decide)]
    | 6, _, hj =>
      have hj : j < D.1 2 := hj
      rw [mcpy_ne (by decide), mcpy_in (by omega), mcpy_ne (by decide), mcpy_ne (by decide), mcpy_ne (by decide), mcpy_ne (by decide), mcpy_ne (by decide), mcpy_ne (by decide)]
    | 7, _, hj =>
      have hj : j < D.1 3 := hj
      rw [mcpy_in (by omega), mcpy_ne (by decide), mcpy_ne (by decide), mcpy_ne (by decide), mcpy_ne (by decide), mcpy_ne (by decide), mcpy_ne (by decide), mcpy_ne (by decide)]
  refine ⟨mset (mset (mset (mset A 4 8 (nI (D.1 0))) 4 9 (nI (D.1 1))) 4 10 (nI (D.1 2))) 4 11 (nI (D.1 3)), fun c hc => ?_, ⟨?_, ?_, ?_, mset_eq⟩, fun r hr j hj => ?_, CJ (bX7_copyFrom_0 ⟨rfl, ?_⟩)⟩
  · rw [mset_ne (by omega), mset_ne (by omega), mset_ne (by omega), mset_ne (by omega)]; exact Ac c (by omega)
  · rw [mset_in (by decide), mset_in (by decide), mset_in (by decide), mset_eq]
  · rw [mset_in (by decide), mset_in (by decide), mset_eq]
  · rw [mset_in (by decide), mset_eq]
  · rw [mset_ne (by omega), mset_ne (by omega), mset_ne (by omega), mset_ne (by omega), e r hr j hj]; exact hd.2 r hr j hj
  · rw [← hA, a0, mset_ne (a := 13) (by decide), a1, mset_ne (a := 13) (by decide), mset_ne (a := 13) (by decide), a2, mset_ne (a := 13) (by decide), mset_ne (a := 13) (by decide), mset_ne (a := 13) (by decide), a3]
end Take
