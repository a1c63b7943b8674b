/-! ===== chimes, asked ===== -/
section ChB
variable {mm M : Nat → Nat → Int32} {nb nm nq np k j o m : Nat}
theorem Fx.qm (f : Fx mm M nb nm nq np) (m : Nat) : qtB (M 71) (M 72) nq m = qtB (mm 10) (mm 11) nq m := by
  unfold qtB
  rw [allN_congr fun i hi => ?_]
  have e1 : M 71 i = mm 10 i := by
    rw [eqM_row f.2.2.2 (c := 71) (by decide) (fun _ => rfl)]; exact (f.2.1.2.2.1 i hi).1.1.symm
  have e2 : M 72 i = mm 11 i := by
    rw [eqM_row f.2.2.2 (c := 72) (by decide) (fun _ => rfl)]; exact (f.2.1.2.2.1 i hi).2.1.symm
  rw [e1, e2]
theorem Fx.q1 (f : Fx mm M nb nm nq np) (hm : m < 1440) : mm 43 m = if qtB (M 71) (M 72) nq m = true then 1 else 0 := by
  rw [f.qm]; exact f.2.1.2.2.2.2 m hm
theorem Fx.qt (f : Fx mm M nb nm nq np) (hm : m < 1440) : decide (¬ mm 43 m = 0) = qtB (M 71) (M 72) nq m := by
  rw [f.q1 hm]
  cases qtB (M 71) (M 72) nq m <;> rfl
theorem Fx.q0 (f : Fx mm M nb nm nq np) (hm : m < 1440) : mm 43 m = 0 ↔ ¬ qtB (M 71) (M 72) nq m = true := by
  rw [f.q1 hm]
  cases qtB (M 71) (M 72) nq m <;> decide
theorem Fx.chm (f : Fx mm M nb nm nq np) (hk : k < nb) : (mm (23 + k) 7 = 0 ∧ M 64 (10 * k + 7) = -1) ∨ ∃ a i, a < 1440 ∧ 1 ≤ i ∧ i ≤ 1440 ∧ mm (23 + k) 6 = nI a ∧ M 64 (10 * k + 6) = nI a ∧ mm (23 + k) 7 = nI i ∧ M 64 (10 * k + 7) = nI i := by
  rw [f.r64]; exact (f.r hk).2.2.2.2.2.2
theorem Fx.ch0 (f : Fx mm M nb nm nq np) (hk : k < nb) : ¬ M 64 (10 * k + 7) = 0 := by
  rcases f.chm hk with ⟨-, h⟩ | ⟨a, i, -, h1, h2, -, -, -, h⟩
  · rw [h]; decide
  · rw [h]; exact nI_ne0 (by omega) (by omega)
theorem Fx.chq (f : Fx mm M nb nm nq np) (hk : k < nb) : (¬ M 64 (10 * k + 7) < 0) ↔ ¬ mm (23 + k) 7 ≤ 0 := by
  rw [f.r64]; exact rb_chime (f.r hk)
theorem nI_subneg {a b : Nat} (ha : a < 2 ^ 30) (hb : b < 2 ^ 30) : nI a - nI b < 0 ↔ nI a < nI b := by
  rw [fa_lt, fa_lt, pk_sub_toInt ha hb, nI_toInt (by omega), nI_toInt (by omega), z_toI]; omega
theorem Fx.snd (f : Fx mm M nb nm nq np) (hk : k < nb) (hm : m < 1440) : sndB M nq m k = hrdB mm m k := by
  unfold sndB hrdB
  rw [decide_eq_decide]
  unfold sndP hrdP rngP
  rw [f.q0 hm]
  rcases f.chm hk with ⟨h, g⟩ | ⟨a, i, h1, h2, h3, h6, g6, h7, g7⟩
  · rw [h, g]
    exact ⟨fun z => absurd (by decide) z.1, fun z => absurd (by decide) z.2.1.1⟩
  · rw [h6, h7, g6, g7, nI_subneg (by omega) (by omega), f.hg hk]
    have p1 : ¬ nI i < 0 := nI_pos (by omega)
    have p2 : ¬ nI i ≤ 0 := nI_ge (a := 0) (by omega) (by omega)
    exact ⟨fun z => ⟨z.2.1, ⟨p2, z.2.2.1, z.2.2.2.1⟩, z.2.2.2.2⟩, fun z => ⟨p1, z.1, z.2.1.2.1, z.2.1.2.2, z.2.2⟩⟩
theorem Fx.set (f : Fx mm M nb nm nq np) (hm : m < 1440) : orN (sndB M nq m) nb = orN (hrdB mm m) nb := orN_congr fun k hk => f.snd hk hm
/-- loud from t on, in steps of i -/
theorem ldB_iff {q : Nat → Bool} {i : Nat} (hi : 0 < i) : ∀ {d t : Nat}, 1440 < t + d → (ldB q i d t = true ↔ ∀ n, t + n * i < 1440 → q (t + n * i) = false)
  | 0, t, h => ⟨fun _ n hn => by omega, fun _ => rfl⟩
  | d + 1, t, h => by
    simp only [ldB]
    by_cases h1 : 1440 ≤ t
    · rw [if_pos h1]; exact ⟨fun _ n hn => by omega, fun _ => rfl⟩
    · rw [if_neg h1]
      by_cases hq : q t = true
      · rw [if_pos hq]
        refine ⟨fun z => (by cases z), fun z => ?_⟩
        have := z 0 (by omega)
        rw [Nat.zero_mul, Nat.add_zero, hq] at this
        cases this
      · rw [if_neg hq, ldB_iff hi (by omega)]
        refine ⟨fun z n hn => ?_, fun z n hn => ?_⟩
        · cases n with
          | zero => rw [Nat.zero_mul, Nat.add_zero]; exact Bool.eq_false_iff.mpr hq
          | succ n =>
            have e : t + (n + 1) * i = t + i + n * i := by rw [Nat.add_mul]; omega
            rw [e] at hn ⊢
            exact z n hn
        · have e : t + i + n * i = t + (n + 1) * i := by rw [Nat.add_mul]; omega
          rw [e] at hn ⊢
          exact z (n + 1) hn
theorem lcF_sp {q : Nat → Bool} {i s : Nat} (hi : 0 < i) : ∀ {d a b : Nat}, 1440 < s + a * i + d → b ≤ a → (∀ n, b ≤ n → n < a → q (s + n * i) = false) → (b = 0 ∨ (q (s + (b - 1) * i) = true ∧ s + (b - 1) * i < 1440)) →
    ∃ m, lcF q i d (s + a * i) (s + b * i) = s + m * i ∧ (∀ n, m ≤ n → s + n * i < 1440 → q (s + n * i) = false) ∧ (m = 0 ∨ (q (s + (m - 1) * i) = true ∧ s + (m - 1) * i < 1440))
  | 0, a, b, h, hb, h1, h2 => ⟨b, rfl, fun n hn hn2 => h1 n hn (by
      rcases Nat.lt_or_ge n a with z | z
      · exact z
      · have := Nat.mul_le_mul_right i z
        omega), h2⟩
  | d + 1, a, b, h, hb, h1, h2 => by
    simp only [lcF]
    by_cases h3 : 1440 ≤ s + a * i
    · rw [if_pos h3]
      exact ⟨b, rfl, fun n hn hn2 => h1 n hn (by
        rcases Nat.lt_or_ge n a with z | z
        · exact z
        · have := Nat.mul_le_mul_right i z
          omega), h2⟩
    · rw [if_neg h3]
      have e : s + a * i + i = s + (a + 1) * i := by rw [Nat.add_mul]; omega
      by_cases hq : q (s + a * i) = true
      · rw [if_pos hq, e]
        exact lcF_sp hi (by rw [Nat.add_mul]; omega) (Nat.le_refl _) (fun n n1 n2 => by omega) (Or.inr ⟨hq, by rw [Nat.add_sub_cancel]; omega⟩)
      · rw [if_neg hq, e]
        refine lcF_sp hi (by rw [Nat.add_mul]; omega) (by omega) (fun n n1 n2 => ?_) h2
        rcases Nat.lt_succ_iff_lt_or_eq.mp n2 with z | z
        · exact h1 n n1 z
        · rw [z]; exact Bool.eq_false_iff.mpr hq
theorem dlF_le {q : Nat → Bool} {i v : Nat} : ∀ {d t x : Nat}, dlF q i d t x ≤ v ↔ x ≤ v ∨ ∃ t', t ≤ t' ∧ t' < t + d ∧ t' < 1440 ∧ lcF q i 1441 t' t' ≤ v
  | 0, t, x => ⟨Or.inl, fun z => z.elim id fun ⟨t', h1, h2, _⟩ => by omega⟩
  | d + 1, t, x => by
    simp only [dlF]
    by_cases h : 1440 ≤ t
    · rw [if_pos h]; exact ⟨Or.inl, fun z => z.elim id fun ⟨t', h1, h2, h3, _⟩ => by omega⟩
    · rw [if_neg h, dlF_le]
      constructor
      · rintro (z | ⟨t', h1, h2, h3, h4⟩)
        · rcases Nat.le_total x (lcF q i 1441 t t) with y | y
          · rw [Nat.min_eq_left y] at z; exact Or.inl z
          · rw [Nat.min_eq_right y] at z; exact Or.inr ⟨t, Nat.le_refl _, by omega, by omega, z⟩
        · exact Or.inr ⟨t', by omega, by omega, h3, h4⟩
      · rintro (z | ⟨t', h1, h2, h3, h4⟩)
        · exact Or.inl (Nat.le_trans (Nat.min_le_left _ _) z)
        · by_cases e : t' = t
          · rw [e] at h4; exact Or.inl (Nat.le_trans (Nat.min_le_right _ _) h4)
          · exact Or.inr ⟨t', by omega, by omega, h3, h4⟩
/-- the least delay: the class's way and the reference's -/
theorem delay_eq {q : Nat → Bool} {i a : Nat} (hi : 0 < i) (ha : a < 1440) : (match nextN (ldB q i 1441) (1440 - a) a with
    | none => 1440 ≤ dlF q i i a 1440
    | some m => dlF q i i a 1440 = m) := by
  have lsp : ∀ t, t < 1440 → ∃ m, lcF q i 1441 t t = t + m * i ∧ (∀ n, m ≤ n → t + n * i < 1440 → q (t + n * i) = false) ∧ (m = 0 ∨ (q (t + (m - 1) * i) = true ∧ t + (m - 1) * i < 1440)) := fun t ht => by
    have h := lcF_sp (q := q) (s := t) hi (d := 1441) (a := 0) (b := 0) (by omega) (Nat.le_refl _) (fun n n1 n2 => by omega) (Or.inl rfl)
    rw [Nat.zero_mul, Nat.add_zero] at h
    exact h
  have back : ∀ v, v < 1440 → dlF q i i a 1440 ≤ v → ∃ m, a ≤ m ∧ m ≤ v ∧ ldB q i 1441 m = true := by
    intro v hv h
    rcases dlF_le.mp h with z | ⟨t', h1, h2, h3, h4⟩
    · omega
    · obtain ⟨m, e, g, -⟩ := lsp t' h3
      rw [e] at h4
      refine ⟨t' + m * i, by omega, h4, (ldB_iff hi (by omega)).mpr fun n hn => ?_⟩
      have e2 : t' + m * i + n * i = t' + (m + n) * i := by rw [Nat.add_mul]; omega
      rw [e2] at hn ⊢
      exact g _ (by omega) hn
  cases hx : nextN (ldB q i 1441) (1440 - a) a with
  | none =>
    show 1440 ≤ dlF q i i a 1440
    refine Nat.not_lt.mp fun z => ?_
    obtain ⟨m, h1, h2, h3⟩ := back _ z (Nat.le_refl _)
    rw [nextN_none hx m h1 (by omega)] at h3
    cases h3
  | some F =>
    show dlF q i i a 1440 = F
    obtain ⟨f1, f2, f3, f4⟩ := nextN_some hx
    have up : dlF q i i a 1440 ≤ F := by
      refine dlF_le.mpr (Or.inr ⟨a + (F - a) % i, by omega, by have := Nat.mod_lt (F - a) hi; omega, by have := Nat.mod_le (F - a) i; omega, ?_⟩)
      obtain ⟨m, e, -, g⟩ := lsp (a + (F - a) % i) (by have := Nat.mod_le (F - a) i; omega)
      rw [e]
      have eF : F = a + (F - a) % i + (F - a) / i * i := by
        have := Nat.mod_add_div (F - a) i
        rw [Nat.mul_comm] at this
        omega
      rcases Nat.lt_or_ge ((F - a) / i) m with z | z
      · exfalso
        rcases g with g | ⟨g1, g2⟩
        · exact absurd z (by rw [g]; exact Nat.not_lt_zero _)
        · obtain ⟨d, hd⟩ : ∃ d, m - 1 = (F - a) / i + d := ⟨m - 1 - (F - a) / i, (Nat.add_sub_of_le (Nat.le_sub_one_of_lt z)).symm⟩
          have q1 := (ldB_iff hi (by omega)).mp f3 d
          have e2 : F + d * i = a + (F - a) % i + (m - 1) * i := by
            rw [hd, Nat.add_mul]
            omega
          rw [e2, g1] at q1
          exact absurd (q1 g2) (by decide)
      · have := Nat.mul_le_mul_right i z
        omega
    refine Nat.le_antisymm up (Nat.not_lt.mp fun z => ?_)
    obtain ⟨m, h1, h2, h3⟩ := back _ (by omega) (Nat.le_refl _)
    rw [f4 m h1 (by omega)] at h3
    cases h3
theorem lcF_congr {q q' : Nat → Bool} {i : Nat} (h : ∀ t, t < 1440 → q t = q' t) : ∀ d t x, lcF q i d t x = lcF q' i d t x
  | 0, _, _ => rfl
  | d + 1, t, x => by
    simp only [lcF]
    by_cases h1 : 1440 ≤ t
    · rw [if_pos h1, if_pos h1]
    · rw [if_neg h1, if_neg h1, h t (by omega), lcF_congr h d]
theorem dlF_congr {q q' : Nat → Bool} {i : Nat} (h : ∀ t, t < 1440 → q t = q' t) : ∀ d t x, dlF q i d t x = dlF q' i d t x
  | 0, _, _ => rfl
  | d + 1, t, x => by
    simp only [dlF]
    by_cases h1 : 1440 ≤ t
    · rw [if_pos h1, if_pos h1]
    · rw [if_neg h1, if_neg h1, lcF_congr h, dlF_congr h d]
end ChB
section OpsC
variable {G : Gx} {x1 x2 x3 : Int32}
theorem op_isQuiet : OpW G Inv M_L_isQuiet M_X10_isQuiet [.int x1] cmpB := by
  intro mm lm hI
  obtain ⟨b1, b2, b3, b4⟩ := inv_bas mm hI
  by_cases h : mm 0 10 = 0
  · exact ⟨1, mm, lm, 0, _, w1_isQuiet (kA_isQuiet h), mA_isQuiet (b1.mpr h), mset_eq, fun z => absurd z (by decide), b4 1⟩
  by_cases g1 : inR 0 1439 x1
  · obtain ⟨nb, nm, nq, np, fx⟩ := fx_of hI
    have e := eqR_th (mm := mm) EqR.refl 0
    have f := fx _ e.m
    have g1' := g1
    obtain ⟨m, -, hm, rfl⟩ := inR_nat (l := 0) (g := 1439) g1 (by omega) (by omega)
    have q1 := f.q1 (m := m) (by omega)
    have ct : Ct G M_X9_isQuiet [.ref 0, .int (nI m)] (SH, mm, lm) false (.inl (some (.int (mm 43 m)))) (SH, mm, lm) false 1 6 := kC_isQuiet h g1' (bX9_isQuiet_12 ⟨m, rfl, by omega, by rw [q1]; split <;> rfl, rfl, rfl⟩)
    by_cases hq : qtB (mset mm 63 4 0 71) (mset mm 63 4 0 72) nq m = true
    · rw [if_pos hq] at q1
      rw [q1] at ct
      exact ⟨0, mm, _, 1, _, wt_isQuiet ct, mC_isQuiet (fun z => h (b1.mp z)) g1' (bX10_isQuiet_16 ⟨_, cm_isSilent f.Q f.q6 m, fun z => absurd hq (bI_0.mp z), fun _ => ⟨rfl, rfl⟩⟩), mset_eq, fun _ => rfl, hI.congr e⟩
    · rw [if_neg hq] at q1
      rw [q1] at ct
      exact ⟨0, mm, _, 0, _, wf_isQuiet ct, mC_isQuiet (fun z => h (b1.mp z)) g1' (bX10_isQuiet_16 ⟨_, cm_isSilent f.Q f.q6 m, fun _ => ⟨rfl, rfl⟩, fun z => absurd (bI_1.mp z) hq⟩), mset_eq, fun _ => rfl, hI.congr e⟩
  · exact ⟨2, mm, lm, 0, _, w2_isQuiet (kB_isQuiet h g1), mB_isQuiet (fun z => h (b1.mp z)) g1, mset_eq, fun z => absurd z (by decide), b4 2⟩
theorem core_quietMinutes : ∀ mm lm, Inv mm → ¬ mm 0 10 = 0 → CoreI G Inv M_X9_quietMinutes M_X10_quietMinutes 4 10 [(0, .ref 0)] [(0, .ref 63)] mm lm := by
  intro mm lm hI _
  obtain ⟨nb, nm, nq, np, fx⟩ := fx_of hI
  have e := eqR_th (mm := mm) EqR.refl 0
  have f := fx _ e.m
  obtain ⟨P, hP⟩ : ∃ P : Nat → Bool, P = fun t => decide (¬ mm 43 t = 0) := ⟨_, rfl⟩
  have ct := c_countQuiet (G := G) (mm := mm) (lm := lm)
  rw [← hP] at ct
  refine ⟨nI (cntN P 1440), mm, bX9_quietMinutes_4 ⟨_, ct, rfl, rfl⟩, ⟨rfl, rfl, rfl⟩, fun l => ⟨_, bX10_quietMinutes_10 ?_, mset_eq, hI.congr e⟩⟩
  refine loop_up (n := 1440) (P := fun t => J G M_X10_quietMinutes 14 [(0, .ref 63), (1, .int (nI (cntN P t))), (2, .int (nI t))] [] (SH, mset mm 63 4 0, l) false (.inl (some (.int (nI (cntN P 1440))))) (SH, mset mm 63 4 0, l) false 0 0) ?_ ?_ 0 (Nat.zero_le _)
  · exact bX10_quietMinutes_14 ⟨fun _ => ⟨rfl, rfl⟩, fun z => absurd (lit_le (n := 1440) rfl) z⟩
  · intro t ht ih
    have es : P t = qtB (mset mm 63 4 0 71) (mset mm 63 4 0 72) nq t := by rw [hP]; exact f.qt ht
    refine bX10_quietMinutes_14 ⟨fun z => absurd z (lit_ge (n := 1440) rfl ht (by omega)), fun _ => ⟨_, cm_isSilent f.Q f.q6 t, fun z => ?_, fun z => ?_⟩⟩
    · have e2 : P t = false := es.trans (Bool.eq_false_iff.mpr (bI_0.mp z))
      rw [cntN_f e2] at ih
      rw [nI_1, Int32.add_zero]; exact ih
    · have e2 : P t = true := es.trans (bI_1.mp z)
      rw [cntN_t e2] at ih
      rw [nI_1, nI_1]; exact ih
theorem core_longestLoud : ∀ mm lm, Inv mm → ¬ mm 0 10 = 0 → CoreI G Inv M_X9_longestLoud M_X10_longestLoud 4 10 [(0, .ref 0)] [(0, .ref 63)] mm lm := by
  intro mm lm hI _
  obtain ⟨nb, nm, nq, np, fx⟩ := fx_of hI
  have e := eqR_th (mm := mm) EqR.refl 0
  have f := fx _ e.m
  obtain ⟨P, hP⟩ : ∃ P : Nat → Bool, P = fun t => decide (¬ mm 43 t = 0) := ⟨_, rfl⟩
  have ct := c_longestLoudRun (G := G) (mm := mm) (lm := lm)
  rw [← hP] at ct
  refine ⟨(itN (loudS P) (0, 0) 1440).1, mm, bX9_longestLoud_4 ⟨_, ct, rfl, rfl⟩, ⟨rfl, rfl, rfl⟩, fun l => ⟨_, bX10_longestLoud_10 ?_, mset_eq, hI.congr e⟩⟩
  refine loop_up (n := 1440) (P := fun t => J G M_X10_longestLoud 16 [(0, .ref 63), (1, .int (itN (loudS P) (0, 0) t).1), (2, .int (itN (loudS P) (0, 0) t).2), (3, .int (nI t))] [] (SH, mset mm 63 4 0, l) false (.inl (some (.int (itN (loudS P) (0, 0) 1440).1))) (SH, mset mm 63 4 0, l) false 0 0) ?_ ?_ 0 (Nat.zero_le _)
  · exact bX10_longestLoud_16 ⟨fun _ => ⟨rfl, rfl⟩, fun z => absurd (lit_le (n := 1440) rfl) z⟩
  · intro t ht ih
    have es : P t = qtB (mset mm 63 4 0 71) (mset mm 63 4 0 72) nq t := by rw [hP]; exact f.qt ht
    rw [itN_s (loudS P) _ t] at ih
    generalize itN (loudS P) (0, 0) t = st at ih ⊢
    refine bX10_longestLoud_16 ⟨fun z => absurd z (lit_ge (n := 1440) rfl ht (by omega)), fun _ => ⟨_, cm_isSilent f.Q f.q6 t, fun z => ?_, fun z => ?_⟩⟩
    · have e2 : ¬ P t = true := fun y => bI_0.mp z (es.symm.trans y)
      rw [loudS, if_neg e2] at ih
      refine ⟨fun z2 => ?_, fun z2 => ?_⟩
      · rw [if_neg (Int32.not_lt.mpr z2)] at ih
        rw [nI_1]; exact ih
      · rw [if_pos (Int32.not_le.mp z2)] at ih
        rw [nI_1]; exact ih
    · have e2 : P t = true := es.trans (bI_1.mp z)
      rw [loudS, if_pos e2] at ih
      refine ⟨fun z2 => ?_, fun z2 => ?_⟩
      · rw [if_neg (Int32.not_lt.mpr z2)] at ih
        rw [nI_1]; exact ih
      · rw [if_pos (Int32.not_le.mp z2)] at ih
        rw [nI_1]; exact ih
theorem core_soundsAt : ∀ mm lm, Inv mm → ¬ mm 0 10 = 0 → inR 0 1439 x1 → CoreI G Inv M_X9_soundsAt M_X10_soundsAt 12 20 [(0, .ref 0), (1, .int x1)] [(0, .ref 63), (1, .int x1)] mm lm := by
  intro mm lm hI _ g1
  obtain ⟨nb, nm, nq, np, fx⟩ := fx_of hI
  have e := eqR_th (mm := mm) EqR.refl 0
  have f := fx _ e.m
  obtain ⟨m, -, hm, rfl⟩ := inR_nat (l := 0) (g := 1439) g1 (by omega) (by omega)
  refine ⟨orN (hrdB mm m) nb, mm, bX9_soundsAt_12 ⟨_, c_soundingSet f.n f.n8 (by omega), rfl, rfl⟩, ⟨rfl, rfl, rfl⟩, fun l => ⟨_, bX10_soundsAt_20 ⟨_, cm_soundingAt f.N f.n8 f.Q f.q6 (fun k hk => f.ch0 hk) m, ?_⟩, mset_eq, hI.congr e⟩⟩
  rw [f.set (by omega)]; exact ⟨rfl, rfl⟩
theorem core_soundsPerDay : ∀ mm lm, Inv mm → ¬ mm 0 10 = 0 → inR 0 (mm 4 9 - 1) x1 → CoreI G Inv M_X9_soundsPerDay M_X10_soundsPerDay 9 14 [(0, .ref 0), (1, .int x1)] [(0, .ref 63), (1, .int x1)] mm lm := by
  intro mm lm hI _ g1
  obtain ⟨nb, nm, nq, np, fx⟩ := fx_of hI
  have e := eqR_th (mm := mm) EqR.refl 0
  have f := fx _ e.m
  have h8 := f.n8
  obtain ⟨j, hj, rfl⟩ := f.bell g1
  by_cases h : mm (23 + j) 7 ≤ 0
  · exact ⟨-2, mm, bX9_soundsPerDay_9 ⟨j, rfl, by omega, _, c_hasChime (sh_b23 (by omega)), fun _ => ⟨rfl, rfl⟩, fun z => absurd h (bI_1.mp z)⟩, ⟨rfl, rfl, rfl⟩, fun l => ⟨_, bX10_soundsPerDay_14 ⟨_, cm_chimes (by omega), fun z => absurd h ((f.chq hj).mp (bI_1.mp z)), fun _ => ⟨rfl, rfl⟩⟩, mset_eq, hI.congr e⟩⟩
  obtain ⟨P, hP⟩ : ∃ P : Nat → Bool, P = fun t => hrdB mm t j && hrdB mm t j := ⟨_, rfl⟩
  have ct := c_countCommonSounds (G := G) (mm := mm) (lm := lm) (j := j) (o := j) (by omega) (by omega)
  rw [← hP] at ct
  refine ⟨nI (cntN P 1440), mm, bX9_soundsPerDay_9 ⟨j, rfl, by omega, _, c_hasChime (sh_b23 (by omega)), fun z => absurd h (bI_0.mp z), fun _ => ⟨_, ct, rfl, rfl⟩⟩, ⟨rfl, rfl, rfl⟩, fun l => ⟨_, bX10_soundsPerDay_14 ⟨_, cm_chimes (by omega), fun _ => ?_, fun z => absurd ((f.chq hj).mpr h) (bI_0.mp z)⟩, mset_eq, hI.congr e⟩⟩
  refine loop_up (n := 1440) (P := fun t => J G M_X10_soundsPerDay 29 [(0, .ref 63), (1, .int (nI j)), (2, .int (nI (cntN P t))), (3, .int (nI t))] [] (SH, mset mm 63 4 0, l) false (.inl (some (.int (nI (cntN P 1440))))) (SH, mset mm 63 4 0, l) false 0 0) ?_ ?_ 0 (Nat.zero_le _)
  · exact bX10_soundsPerDay_29 ⟨fun _ => ⟨rfl, rfl⟩, fun z => absurd (lit_le (n := 1440) rfl) z⟩
  · intro t ht ih
    have es : hrdB mm t j = sndB (mset mm 63 4 0) nq t j := (f.snd hj ht).symm
    refine bX10_soundsPerDay_29 ⟨fun z => absurd z (lit_ge (n := 1440) rfl ht (by omega)), fun _ => ⟨_, cm_sounds f.Q f.q6 (by omega) (f.ch0 hj) t, fun z => ?_, fun z => ?_⟩⟩
    · have e1 : hrdB mm t j = false := es.trans (decide_eq_false (bI_0.mp z))
      have e2 : P t = false := by rw [hP]; simp only [e1, Bool.false_and]
      rw [cntN_f e2] at ih
      rw [nI_1, Int32.add_zero]; exact ih
    · have e1 : hrdB mm t j = true := es.trans (decide_eq_true (bI_1.mp z))
      have e2 : P t = true := by rw [hP]; simp only [e1, Bool.and_true]
      rw [cntN_t e2] at ih
      rw [nI_1, nI_1]; exact ih
theorem core_nextSound : ∀ mm lm, Inv mm → ¬ mm 0 10 = 0 → inR 0 1439 x1 → CoreI G Inv M_X9_nextSound M_X10_nextSound 12 18 [(0, .ref 0), (1, .int x1)] [(0, .ref 63), (1, .int x1)] mm lm := by
  intro mm lm hI _ g1
  obtain ⟨nb, nm, nq, np, fx⟩ := fx_of hI
  have e := eqR_th (mm := mm) EqR.refl 0
  have f := fx _ e.m
  obtain ⟨m, -, hm, rfl⟩ := inR_nat (l := 0) (g := 1439) g1 (by omega) (by omega)
  obtain ⟨P, hP⟩ : ∃ P : Nat → Bool, P = fun t => decide (¬ orN (hrdB mm t) nb = 0) := ⟨_, rfl⟩
  have ct := c_firstSoundFrom (G := G) (mm := mm) (lm := lm) f.n f.n8 (f := m) (by omega)
  rw [← hP] at ct
  refine ⟨opI (nextN P (1440 - m) m) (-2), mm, bX9_nextSound_12 ⟨_, ct, rfl, rfl⟩, ⟨rfl, rfl, rfl⟩, fun l => ⟨_, bX10_nextSound_18 ?_, mset_eq, hI.congr e⟩⟩
  refine loop_up (n := 1440) (P := fun t => J G M_X10_nextSound 20 [(0, .ref 63), (2, .int (nI t))] [] (SH, mset mm 63 4 0, l) false (.inl (some (.int (opI (nextN P (1440 - t) t) (-2))))) (SH, mset mm 63 4 0, l) false 0 0) ?_ ?_ m (by omega)
  · exact bX10_nextSound_20 ⟨fun _ => ⟨rfl, rfl⟩, fun z => absurd (lit_le (n := 1440) rfl) z⟩
  · intro t ht ih
    have es := f.set ht
    rw [show 1440 - t = (1440 - (t + 1)) + 1 by omega]
    refine bX10_nextSound_20 ⟨fun z => absurd z (lit_ge (n := 1440) rfl ht (by omega)), fun _ => ⟨_, cm_soundingAt f.N f.n8 f.Q f.q6 (fun k hk => f.ch0 hk) t, fun z => ?_, fun z => ?_⟩⟩
    · rw [es] at z
      have e2 : P t = false := by rw [hP]; exact decide_eq_false (fun y => y z)
      rw [nI_1, nextN_f e2]; exact ih
    · rw [es] at z
      have e2 : P t = true := by rw [hP]; exact decide_eq_true z
      rw [nextN_t e2]; exact ⟨rfl, rfl⟩
theorem core_busiestMinute : ∀ mm lm, Inv mm → ¬ mm 0 10 = 0 → CoreI G Inv M_X9_busiestMinute M_X10_busiestMinute 4 10 [(0, .ref 0)] [(0, .ref 63)] mm lm := by
  intro mm lm hI _
  obtain ⟨nb, nm, nq, np, fx⟩ := fx_of hI
  have e := eqR_th (mm := mm) EqR.refl 0
  have f := fx _ e.m
  obtain ⟨F, hF⟩ : ∃ F : Nat → Int32 × Int32 → Int32 × Int32, F = busyS (fun t => orN (hrdB mm t) nb) bcF := ⟨_, rfl⟩
  have ct := c_minuteOfMostSounds (G := G) (mm := mm) (lm := lm) f.n f.n8
  rw [← hF] at ct
  refine ⟨(itN F (-2, 0) 1440).1, mm, bX9_busiestMinute_4 ⟨_, ct, rfl, rfl⟩, ⟨rfl, rfl, rfl⟩, fun l => ⟨_, bX10_busiestMinute_10 ?_, mset_eq, hI.congr e⟩⟩
  refine loop_up (n := 1440) (P := fun t => J G M_X10_busiestMinute 17 [(0, .ref 63), (1, .int (itN F (-2, 0) t).1), (2, .int (itN F (-2, 0) t).2), (3, .int (nI t))] [] (SH, mset mm 63 4 0, l) false (.inl (some (.int (itN F (-2, 0) 1440).1))) (SH, mset mm 63 4 0, l) false 0 0) ?_ ?_ 0 (Nat.zero_le _)
  · exact bX10_busiestMinute_17 ⟨fun _ => ⟨rfl, rfl⟩, fun z => absurd (lit_le (n := 1440) rfl) z⟩
  · intro t ht ih
    have es := f.set ht
    have hs : F t (itN F (-2, 0) t) = busyS (fun t => orN (hrdB mm t) nb) bcF t (itN F (-2, 0) t) := by rw [hF]
    rw [itN_s F _ t, hs] at ih
    generalize itN F (-2, 0) t = st at ih ⊢
    have cs := cm_soundingAt (G := G) (mm := mset mm 63 4 0) (lm := l) f.N f.n8 f.Q f.q6 (fun k hk => f.ch0 hk) t
    rw [es] at cs
    obtain ⟨s, hs1, hs2⟩ := orN_256 (hrdB mm t) f.n8
    refine bX10_busiestMinute_17 ⟨fun z => absurd z (lit_ge (n := 1440) rfl ht (by omega)), fun _ => ⟨_, cs, bcF (orN (hrdB mm t) nb), ?_, fun z => ?_, fun z => ?_⟩⟩
    · rw [hs2]; exact cm_count hs1
    · rw [busyS, if_neg (Int32.not_lt.mpr z)] at ih
      rw [nI_1]; exact ih
    · rw [busyS, if_pos (Int32.not_le.mp z)] at ih
      rw [nI_1]; exact ih
theorem core_soundTogether : ∀ mm lm, Inv mm → ¬ mm 0 10 = 0 → inR 0 (mm 4 9 - 1) x1 → inR 0 (mm 4 9 - 1) x2 → CoreI G Inv M_X9_soundTogether M_X10_soundTogether 14 30 [(0, .ref 0), (1, .int x1), (2, .int x2)] [(0, .ref 63), (1, .int x1), (2, .int x2)] mm lm := by
  intro mm lm hI _ g1 g2
  obtain ⟨nb, nm, nq, np, fx⟩ := fx_of hI
  have e := eqR_th (mm := mm) EqR.refl 0
  have f := fx _ e.m
  have h8 := f.n8
  obtain ⟨j, hj, rfl⟩ := f.bell g1
  obtain ⟨o, ho, rfl⟩ := f.bell g2
  by_cases h : mm (23 + j) 7 ≤ 0
  · exact ⟨-2, mm, bX9_soundTogether_14 ⟨j, rfl, by omega, _, c_hasChime (sh_b23 (by omega)), fun _ => ⟨rfl, rfl⟩, fun z => absurd h (bI_1.mp z)⟩, ⟨rfl, rfl, rfl⟩, fun l => ⟨_, bX10_soundTogether_30 ⟨_, cm_chimes (by omega), fun _ => ⟨rfl, rfl⟩, fun z => absurd h ((f.chq hj).mp (bI_1.mp z))⟩, mset_eq, hI.congr e⟩⟩
  by_cases h2 : mm (23 + o) 7 ≤ 0
  · exact ⟨-2, mm, bX9_soundTogether_14 ⟨j, rfl, by omega, _, c_hasChime (sh_b23 (by omega)), fun _ => ⟨rfl, rfl⟩, fun _ => ⟨o, rfl, by omega, _, c_hasChime (sh_b23 (by omega)), fun z => absurd h2 (bI_1.mp z), fun _ => ⟨rfl, rfl⟩⟩⟩, ⟨rfl, rfl, rfl⟩, fun l => ⟨_, bX10_soundTogether_30 ⟨_, cm_chimes (by omega), fun _ => ⟨rfl, rfl⟩, fun _ => ⟨_, cm_chimes (by omega), fun z => absurd h2 ((f.chq ho).mp (bI_1.mp z)), fun _ => ⟨rfl, rfl⟩⟩⟩, mset_eq, hI.congr e⟩⟩
  obtain ⟨P, hP⟩ : ∃ P : Nat → Bool, P = fun t => hrdB mm t j && hrdB mm t o := ⟨_, rfl⟩
  have ct := c_countCommonSounds (G := G) (mm := mm) (lm := lm) (j := j) (o := o) (by omega) (by omega)
  rw [← hP] at ct
  refine ⟨nI (cntN P 1440), mm, bX9_soundTogether_14 ⟨j, rfl, by omega, _, c_hasChime (sh_b23 (by omega)), fun z => absurd h (bI_0.mp z), fun _ => ⟨o, rfl, by omega, _, c_hasChime (sh_b23 (by omega)), fun _ => ⟨_, ct, rfl, rfl⟩, fun z => absurd h2 (bI_0.mp z)⟩⟩, ⟨rfl, rfl, rfl⟩, fun l => ⟨_, bX10_soundTogether_30 ⟨_, cm_chimes (by omega), fun z => absurd ((f.chq hj).mpr h) (bI_0.mp z), fun _ => ⟨_, cm_chimes (by omega), fun _ => ?_, fun z => absurd ((f.chq ho).mpr h2) (bI_0.mp z)⟩⟩, mset_eq, hI.congr e⟩⟩
  refine loop_up (n := 1440) (P := fun t => J G M_X10_soundTogether 54 [(0, .ref 63), (1, .int (nI j)), (2, .int (nI o)), (3, .int (nI (cntN P t))), (4, .int (nI t))] [] (SH, mset mm 63 4 0, l) false (.inl (some (.int (nI (cntN P 1440))))) (SH, mset mm 63 4 0, l) false 0 0) ?_ ?_ 0 (Nat.zero_le _)
  · exact bX10_soundTogether_54 ⟨fun _ => ⟨rfl, rfl⟩, fun z => absurd (lit_le (n := 1440) rfl) z⟩
  · intro t ht ih
    have es : hrdB mm t j = sndB (mset mm 63 4 0) nq t j := (f.snd hj ht).symm
    have es2 : hrdB mm t o = sndB (mset mm 63 4 0) nq t o := (f.snd ho ht).symm
    refine bX10_soundTogether_54 ⟨fun z => absurd z (lit_ge (n := 1440) rfl ht (by omega)), fun _ => ⟨_, cm_sounds f.Q f.q6 (by omega) (f.ch0 hj) t, fun z => ?_, fun z => ⟨_, cm_sounds f.Q f.q6 (by omega) (f.ch0 ho) t, fun z2 => ?_, fun z2 => ?_⟩⟩⟩
    · have e1 : hrdB mm t j = false := es.trans (decide_eq_false (bI_0.mp z))
      have e2 : P t = false := by rw [hP]; simp only [e1, Bool.false_and]
      rw [cntN_f e2] at ih
      rw [nI_1, Int32.add_zero]; exact ih
    · have e1 : hrdB mm t o = false := es2.trans (decide_eq_false (bI_0.mp z2))
      have e2 : P t = false := by rw [hP]; simp only [e1, Bool.and_false]
      rw [cntN_f e2] at ih
      rw [nI_1, Int32.add_zero]; exact ih
    · have e1 : hrdB mm t j = true := es.trans (decide_eq_true (bI_1.mp z))
      have e3 : hrdB mm t o = true := es2.trans (decide_eq_true (bI_1.mp z2))
      have e2 : P t = true := by rw [hP]; simp only [e1, e3, Bool.and_true]
      rw [cntN_t e2] at ih
      rw [nI_1, nI_1]; exact ih
theorem core_leastDelay : ∀ mm lm, Inv mm → ¬ mm 0 10 = 0 → inR 0 (mm 4 9 - 1) x1 → CoreI G Inv M_X9_leastDelay M_X10_leastDelay 9 14 [(0, .ref 0), (1, .int x1)] [(0, .ref 63), (1, .int x1)] mm lm := by
  intro mm lm hI _ g1
  obtain ⟨nb, nm, nq, np, fx⟩ := fx_of hI
  have e := eqR_th (mm := mm) EqR.refl 0
  have f := fx _ e.m
  have h8 := f.n8
  obtain ⟨j, hj, rfl⟩ := f.bell g1
  by_cases h : mm (23 + j) 7 ≤ 0
  · exact ⟨-2, mm, bX9_leastDelay_9 ⟨j, rfl, by omega, _, c_hasChime (sh_b23 (by omega)), fun _ => ⟨rfl, rfl⟩, fun z => absurd h (bI_1.mp z)⟩, ⟨rfl, rfl, rfl⟩, fun l => ⟨_, bX10_leastDelay_14 ⟨_, cm_chimes (by omega), fun z => absurd h ((f.chq hj).mp (bI_1.mp z)), fun _ => ⟨rfl, rfl⟩⟩, mset_eq, hI.congr e⟩⟩
  rcases f.chm hj with ⟨h7, -⟩ | ⟨a, i, ha, hi1, hi2, h6, g6, h7, g7⟩
  · exact absurd (by rw [h7]; decide) h
  have ct := c_delayToLoudMinutes (G := G) (mm := mm) (lm := lm) (j := j) (by omega) h6 h7 ha hi1 hi2
  obtain ⟨Q, hQ⟩ : ∃ Q : Nat → Bool, Q = qtB (mset mm 63 4 0 71) (mset mm 63 4 0 72) nq := ⟨_, rfl⟩
  have eQ : ∀ t, t < 1440 → decide (¬ mm 43 t = 0) = Q t := fun t ht => by rw [hQ]; exact f.qt ht
  rw [dlF_congr eQ] at ct
  have de := delay_eq (q := Q) (i := i) (a := a) (by omega) ha
  refine ⟨(match nextN (ldB Q i 1441) (1440 - a) a with | none => -3 | some m => nI m - nI a), mm, bX9_leastDelay_9 ⟨j, rfl, by omega, _, c_hasChime (sh_b23 (by omega)), fun z => absurd h (bI_0.mp z), fun _ => ⟨_, ct, ?_⟩⟩, ⟨rfl, rfl, rfl⟩, fun l => ⟨_, bX10_leastDelay_14 ⟨_, cm_chimes (by omega), fun _ => ⟨_, ofv (by omega) (a := 6) rfl (by decide) g6, ?_⟩, fun z => absurd ((f.chq hj).mpr h) (bI_0.mp z)⟩, mset_eq, hI.congr e⟩⟩
  · cases hx : nextN (ldB Q i 1441) (1440 - a) a with
    | none =>
      rw [hx] at de
      rw [if_pos de]; exact ⟨rfl, rfl⟩
    | some m =>
      rw [hx] at de
      have hm := nextN_some hx
      have de' : dlF Q i i a 1440 = m := de
      rw [de', if_neg (by omega)]
      have hs : nI m - nI a = nI (m - a) := pk_sub hm.1
      refine ⟨?_, rfl⟩
      show (Sum.inl (some (Value.int (nI m - nI a))) : Ou) = _
      rw [hs]
  · refine loop_up (n := 1440) (P := fun t => a ≤ t → J G M_X10_leastDelay 33 [(0, .ref 63), (1, .int (nI j)), (2, .int (nI t))] [] (SH, mset mm 63 4 0, l) false (.inl (some (.int (match nextN (ldB Q i 1441) (1440 - t) t with | none => -3 | some m => nI m - nI a)))) (SH, mset mm 63 4 0, l) false 0 0) ?_ ?_ a (by omega) (Nat.le_refl _)
    · intro _
      exact bX10_leastDelay_33 ⟨fun _ => ⟨rfl, rfl⟩, fun z => absurd (lit_le (n := 1440) rfl) z⟩
    · intro t ht ih hat
      rw [show 1440 - t = (1440 - (t + 1)) + 1 by omega]
      have cl := cm_isLoudFrom (G := G) (mm := mset mm 63 4 0) (lm := l) f.Q f.q6 (i := i) (f := t) (by omega) hi2 ht
      rw [← hQ] at cl
      refine bX10_leastDelay_33 ⟨fun z => absurd z (lit_ge (n := 1440) rfl ht (by omega)), fun _ => ⟨_, ofv (by omega) (a := 7) rfl (by decide) g7, _, cl, fun z => ?_, fun z => ⟨_, ofv (by omega) (a := 6) rfl (by decide) g6, ?_⟩⟩⟩
      · have e2 : ldB Q i 1441 t = false := Bool.eq_false_iff.mpr (bI_0.mp z)
        rw [nI_1, nextN_f e2]; exact ih (by omega)
      · have e2 : ldB Q i 1441 t = true := bI_1.mp z
        rw [nextN_t e2]; exact ⟨rfl, rfl⟩
end OpsC
