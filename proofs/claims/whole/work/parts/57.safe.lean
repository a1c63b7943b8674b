/-! ===== safe swings ===== -/
theorem tdiv_bd {m p a : Int} (hp : 0 < p) (ha : 0 ≤ a) (h1 : -(a * p) ≤ m) (h2 : m ≤ a * p) : -a ≤ m.tdiv p ∧ m.tdiv p ≤ a := by
  rcases Int.le_total 0 m with h | h
  · rw [Int.tdiv_eq_ediv_of_nonneg h]
    exact ⟨Int.le_trans (by omega) (Int.ediv_nonneg h (Int.le_of_lt hp)), Int.ediv_le_of_le_mul hp h2⟩
  · obtain ⟨m', rfl⟩ : ∃ m', m = -m' := ⟨-m, by omega⟩
    have e1 := Int.ediv_nonneg (a := m') (b := p) (by omega) (Int.le_of_lt hp)
    have e2 := Int.ediv_le_of_le_mul hp (show m' ≤ a * p by omega)
    rw [Int.neg_tdiv, Int.tdiv_eq_ediv_of_nonneg (by omega)]
    omega
theorem ofs_bd {P A : Nat} (hP : 4 ≤ P) (hP2 : P ≤ 40) (hA : A ≤ 15) (d : Int32) : -15 ≤ (ofs (nI P) d (nI A)).toInt ∧ (ofs (nI P) d (nI A)).toInt ≤ 15 := by
  unfold ofs
  by_cases h : d < 0
  · rw [if_pos h, z_toI]; omega
  obtain ⟨D, hD, rfl⟩ := nI_of h
  have h0 : (0 : Int32) < nI P := nI_lt (a := 0) (by omega) (by omega)
  rw [if_neg h, if_pos h0, pk_rem hD (by omega) (by omega)]
  have hQ : D % P < P := Nat.mod_lt _ (by omega)
  generalize D % P = Q at hQ ⊢
  have tp : (nI P).toInt = (P : Int) := nI_toInt (by omega)
  have ta : (nI A).toInt = (A : Int) := nI_toInt (by omega)
  have key : ∀ x : Int32, -(P : Int) ≤ x.toInt ∧ x.toInt ≤ P → -15 ≤ (nI A * x / nI P).toInt ∧ (nI A * x / nI P).toInt ≤ 15 := fun x hx => by
    have m1 : (A : Int) * x.toInt ≤ A * P := Int.mul_le_mul_of_nonneg_left hx.2 (by omega)
    have m2 : (A : Int) * (-(P : Int)) ≤ A * x.toInt := Int.mul_le_mul_of_nonneg_left hx.1 (by omega)
    have m3 : (A : Int) * P ≤ 15 * P := Int.mul_le_mul_of_nonneg_right (by omega) (by omega)
    rw [Int.mul_neg] at m2
    have em : (nI A * x).toInt = A * x.toInt := by rw [fb_mulI (by rw [ta]; omega) (by rw [ta]; omega), ta]
    have q := tdiv_bd (m := A * x.toInt) (p := P) (a := A) (by omega) (by omega) m2 m1
    have ed : (nI A * x / nI P).toInt = (A * x.toInt).tdiv P := by
      rw [Int32.toInt_div, em, tp]; exact fb_bmod (by omega) (by omega)
    rw [ed]; omega
  rw [show (4 : Int32) = nI 4 from rfl, show (3 : Int32) = nI 3 from rfl, show (2 : Int32) = nI 2 from rfl, nI_mul, nI_mul, nI_mul, nI_mul]
  by_cases c1 : P < 4 * Q
  · rw [if_pos (nI_lt c1 (by omega))]
    by_cases c2 : 3 * P < 4 * Q
    · rw [if_pos (nI_lt c2 (by omega))]
      refine key _ ?_
      rw [pk_sub_toInt (by omega) (by omega)]; omega
    · rw [if_neg (nI_nlt (by omega) (by omega))]
      refine key _ ?_
      rw [pk_sub_toInt (by omega) (by omega)]; omega
  · rw [if_neg (nI_nlt (by omega) (by omega))]
    refine key _ ?_
    rw [nI_toInt (by omega)]; omega
abbrev bd50 (v : Int32) : Prop := -50 ≤ v.toInt ∧ v.toInt ≤ 50
theorem ga_ok {a b x y r s : Int32} (ha : bd50 a) (hb : bd50 b) (hx : bd50 x) (hy : bd50 y) (hr : bd50 r) (hs : bd50 s) :
    (0 ≤ (if a ≤ b then -(a + x - b - y) - r - s else (a + x - b - y) - r - s)) ↔ (if a ≤ b then x ≤ (b + y - a) - (r + s) else (b + y - a) + (r + s) ≤ x) := by
  have e1 : (a + x).toInt = a.toInt + x.toInt := fb_addI (by omega) (by omega)
  have e2 : (a + x - b).toInt = a.toInt + x.toInt - b.toInt := by rw [fb_subI (by omega) (by omega), e1]
  have e3 : (a + x - b - y).toInt = a.toInt + x.toInt - b.toInt - y.toInt := by rw [fb_subI (by omega) (by omega), e2]
  have e4 : (-(a + x - b - y)).toInt = -(a.toInt + x.toInt - b.toInt - y.toInt) := by rw [fb_negI (by omega), e3]
  have e5 : (-(a + x - b - y) - r).toInt = -(a.toInt + x.toInt - b.toInt - y.toInt) - r.toInt := by rw [fb_subI (by omega) (by omega), e4]
  have e6 : (-(a + x - b - y) - r - s).toInt = -(a.toInt + x.toInt - b.toInt - y.toInt) - r.toInt - s.toInt := by rw [fb_subI (by omega) (by omega), e5]
  have e7 : ((a + x - b - y) - r).toInt = (a.toInt + x.toInt - b.toInt - y.toInt) - r.toInt := by rw [fb_subI (by omega) (by omega), e3]
  have e8 : ((a + x - b - y) - r - s).toInt = (a.toInt + x.toInt - b.toInt - y.toInt) - r.toInt - s.toInt := by rw [fb_subI (by omega) (by omega), e7]
  have g1 : (b + y).toInt = b.toInt + y.toInt := fb_addI (by omega) (by omega)
  have g2 : (b + y - a).toInt = b.toInt + y.toInt - a.toInt := by rw [fb_subI (by omega) (by omega), g1]
  have g3 : (r + s).toInt = r.toInt + s.toInt := fb_addI (by omega) (by omega)
  have g4 : (b + y - a - (r + s)).toInt = b.toInt + y.toInt - a.toInt - (r.toInt + s.toInt) := by rw [fb_subI (by omega) (by omega), g2, g3]
  have g5 : (b + y - a + (r + s)).toInt = b.toInt + y.toInt - a.toInt + (r.toInt + s.toInt) := by rw [fb_addI (by omega) (by omega), g2, g3]
  by_cases h : a ≤ b
  · rw [if_pos h, if_pos h, fa_le, fa_le, e6, g4, z_toI]; omega
  · rw [if_neg h, if_neg h, fa_le, fa_le, e8, g5, z_toI]; omega
section SafeB
variable {mm M : Nat → Nat → Int32} {nb nm nq np k j o : Nat}
theorem Fx.pb (f : Fx mm M nb nm nq np) (hk : k < nb) (h : ¬ mm (23 + k) 0 = -1) : bd50 (mm (23 + k) 1) := by
  have q := ((f.r hk).2.1 h).2
  obtain ⟨q1, q2⟩ := q
  rw [fa_lt] at q1
  rw [fa_le] at q2
  have z1 : (-15 : Int32).toInt = -15 := rfl
  have z2 : (15 : Int32).toInt = 15 := rfl
  show -50 ≤ (mm (23 + k) 1).toInt ∧ (mm (23 + k) 1).toInt ≤ 50
  have q1' : ¬ (mm (23 + k) 1).toInt < (-15 : Int32).toInt := q1
  have q2' : (mm (23 + k) 1).toInt ≤ (15 : Int32).toInt := q2
  omega
theorem Fx.rb (f : Fx mm M nb nm nq np) (hk : k < nb) : bd50 (mm 8 k) := by
  obtain ⟨r, h1, h2, h3⟩ := (f.2.1.2.1 k hk).2.1.2
  show -50 ≤ (mm 8 k).toInt ∧ (mm 8 k).toInt ≤ 50
  rw [h3, nI_toInt (by omega)]; omega
theorem Fx.ofb (f : Fx mm M nb nm nq np) (hk : k < nb) (d : Int32) {A : Nat} (hA : A ≤ 15) : -15 ≤ (ofs (mm 9 k) d (nI A)).toInt ∧ (ofs (mm 9 k) d (nI A)).toInt ≤ 15 := by
  obtain ⟨p, h1, h2, h3⟩ := f.pn hk
  rw [h3]; exact ofs_bd h1 h2 hA d
theorem Fx.okb (f : Fx mm M nb nm nq np) (hk : k < nb) (t : Int32) : -15 ≤ (ofK mm k t).toInt ∧ (ofK mm k t).toInt ≤ 15 := by
  unfold ofK
  rcases f.am hk with ⟨h5, -⟩ | ⟨a, ha1, ha2, h5, -⟩
  · rw [h5]; exact f.ofb hk _ (A := 0) (by omega)
  · rw [h5]; exact f.ofb hk _ ha2
/-- safe at all ticks: the class's room, the reference's gaps -/
theorem Fx.safe (f : Fx mm M nb nm nq np) (hj : j < nb) {s A : Nat} (hs : s < 2 ^ 31) (hA : A ≤ 15) :
    (∀ t, t < 1000 → ((-1000 ≤ ofs (mm 9 j) (nI t - nI s) (nI A) ∧ ofs (mm 9 j) (nI t - nI s) (nI A) ≤ 1000) ∧ ∀ o, o < nb → besP mm j o → okO mm j o (nI t) (ofs (mm 9 j) (nI t - nI s) (nI A)))) ↔ allN (safB M j (nI s) (nI A)) nb = true := by
  have pt : ∀ o, o < nb → besP mm j o → ∀ t, t < 1000 → (0 ≤ gaM M j (obM (M 70 j) (nI s) (nI A) (nI t)) o (oaM M o (nI t)) ↔ okO mm j o (nI t) (ofs (mm 9 j) (nI t - nI s) (nI A))) := by
    intro o ho hb t ht
    have h1 : ¬ mm (23 + j) 0 = -1 := fun z => hb.2.1 (hb.2.2.trans z)
    have q := f.ofb hj (nI t - nI s) hA
    have q2 := f.okb ho (nI t)
    unfold gaM okO spK
    rw [f.ob hj hs (by omega), f.off ho (by omega), f.po hj h1, f.po ho hb.2.1, f.ra hj, f.ra ho]
    exact ga_ok (f.pb hj h1) (f.pb ho hb.2.1) (by constructor <;> omega) (by constructor <;> omega) (f.rb hj) (f.rb ho)
  have bes : ∀ o, o < nb → (besP mm j o ↔ ¬ (o = j ∨ ¬ togM M j o)) := by
    intro o ho
    rw [f.tog hj ho]
    refine ⟨fun h z => z.elim h.1 (fun y => y ⟨fun w => h.2.1 (h.2.2.trans w), h.2.2.symm⟩), fun h => ?_⟩
    have h2 : ¬ mm (23 + j) 0 = -1 ∧ mm (23 + j) 0 = mm (23 + o) 0 := Decidable.not_not.mp (fun y => h (Or.inr y))
    exact ⟨fun y => h (Or.inl y), fun w => h2.1 (h2.2.trans w), h2.2.symm⟩
  constructor
  · intro h
    rw [allN_iff]
    intro o ho
    simp only [safB, Bool.or_eq_true, decide_eq_true_eq]
    by_cases hb : besP mm j o
    · refine Or.inr (allN_iff.mpr fun t ht => decide_eq_true ((pt o ho hb t ht).mpr ((h t ht).2 o ho hb)))
    · exact Or.inl (Decidable.not_not.mp (fun y => hb ((bes o ho).mpr y)))
  · intro h t ht
    have q := f.ofb hj (nI t - nI s) hA
    refine ⟨⟨?_, ?_⟩, fun o ho hb => ?_⟩
    · rw [fa_le, show (-1000 : Int32).toInt = -1000 from rfl]; omega
    · rw [fa_le, show (1000 : Int32).toInt = 1000 from rfl]; omega
    · have q2 := allN_iff.mp h o ho
      simp only [safB, Bool.or_eq_true, decide_eq_true_eq] at q2
      rcases q2 with z | z
      · exact absurd z ((bes o ho).mp hb)
      · exact (pt o ho hb t ht).mp (of_decide_eq_true (allN_iff.mp z t ht))
theorem stay_safe {mr : Nat → Nat → Int32} (f : Fx mm M nb nm nq np) (hj : j < nb) (er : EqR mm mr) (room : ∀ t, t < 1000 → ∀ x, (mr 39 t ≤ x ∧ x ≤ mr 40 t) ↔ ((-1000 ≤ x ∧ x ≤ 1000) ∧ ∀ o, o < nb → besP mm j o → okO mm j o (nI t) x)) {s A : Nat} (hs : s < 2 ^ 31) (hA : A ≤ 15) :
    allN (stayB mr j (nI s) (nI A)) 1000 = allN (safB M j (nI s) (nI A)) nb := by
  rw [Bool.eq_iff_iff, ← f.safe hj hs hA, allN_iff]
  have e9 : mr 9 j = mm 9 j := er 9 j rfl
  refine ⟨fun h t ht => ?_, fun h t ht => ?_⟩
  · have q := of_decide_eq_true (h t ht)
    rw [e9] at q
    exact (room t ht _).mp q
  · refine decide_eq_true ?_
    rw [e9]
    exact (room t ht _).mpr (h t ht)
end SafeB
section OpsT
variable {G : Gx} {x1 x2 x3 : Int32}
theorem core_safeStart : ∀ mm lm, Inv mm → ¬ mm 0 10 = 0 → inR 0 (mm 4 9 - 1) x1 → inR 1 15 x2 → CoreI G Inv M_X9_safeStart M_X10_safeStart 16 34 [(0, .ref 0), (1, .int x1), (2, .int x2)] [(0, .ref 63), (1, .int x1), (2, .int x2)] mm lm := by
  intro mm lm hI _ g1 g2
  obtain ⟨nb, nm, nq, np, fx⟩ := fx_of hI
  have f0 := fx _ EqR.refl.m
  have h8 := f0.n8
  obtain ⟨j, hj, rfl⟩ := f0.bell g1
  obtain ⟨A, -, hA, rfl⟩ := inR_nat (l := 1) (g := 15) g2 (by omega) (by omega)
  by_cases h : mm (23 + j) 0 = -1
  · have e := eqR_th (mm := mm) EqR.refl 0
    have f := fx _ e.m
    exact ⟨-2, mm, bX9_safeStart_16 ⟨j, rfl, by omega, _, c_hangs (sh_b23 (by omega)), fun _ => ⟨rfl, rfl⟩, fun z => absurd h (bI_1.mp z)⟩, ⟨rfl, rfl, rfl⟩, fun l => ⟨_, bX10_safeStart_34 ⟨_, cm_hangs (by omega), fun z => absurd ((f.hg hj).mpr h) (bI_1.mp z), fun _ => ⟨rfl, rfl⟩⟩, mset_eq, hI.congr e⟩⟩
  · obtain ⟨mr, er, room, ct⟩ := c_leastSafeStart (G := G) (lm := lm) f0.n h8 (show j < 8 by omega) (nI A)
    have e := eqR_th er 0
    have f := fx _ e.m
    obtain ⟨P, hP⟩ : ∃ P : Nat → Bool, P = fun s => allN (stayB mr j (nI s) (nI A)) 1000 := ⟨_, rfl⟩
    rw [← hP] at ct
    refine ⟨opI (nextN P 200 0) (-3), mr, bX9_safeStart_16 ⟨j, rfl, by omega, _, c_hangs (sh_b23 (by omega)), fun z => absurd h (bI_0.mp z), fun _ => ⟨_, mr, ct, rfl, rfl⟩⟩, ⟨er 63 3 rfl, er 63 5 rfl, er 63 8 rfl⟩, fun l => ⟨_, bX10_safeStart_34 ⟨_, cm_hangs (by omega), fun _ => ?_, fun z => absurd (mt (f.hg hj).mp h) (bI_0.mp z)⟩, mset_eq, hI.congr e⟩⟩
    refine loop_up (n := 200) (P := fun t => J G M_X10_safeStart 47 [(0, .ref 63), (1, .int (nI j)), (2, .int (nI A)), (3, .int (nI t))] [] (SH, mset mr 63 4 0, l) false (.inl (some (.int (opI (nextN P (200 - t) t) (-3))))) (SH, mset mr 63 4 0, l) false 0 0) ?_ ?_ 0 (Nat.zero_le _)
    · exact bX10_safeStart_47 ⟨fun _ => ⟨rfl, rfl⟩, fun z => absurd (lit_le (n := 200) rfl) z⟩
    · intro t ht ih
      have es := stay_safe f hj er room (s := t) (A := A) (by omega) hA
      rw [show 200 - t = (200 - (t + 1)) + 1 by omega]
      refine bX10_safeStart_47 ⟨fun z => absurd z (lit_ge (n := 200) rfl ht (by omega)), fun _ => ⟨_, cm_isSafe f.N h8 (fun k hk => f.p0 hk) hj _ _, fun z => ?_, fun z => ?_⟩⟩
      · have e2 : P t = false := by rw [hP]; exact es.trans (Bool.eq_false_iff.mpr (bI_0.mp z))
        rw [nI_1, nextN_f e2]; exact ih
      · have e2 : P t = true := by rw [hP]; exact es.trans (bI_1.mp z)
        rw [nextN_t e2]; exact ⟨rfl, rfl⟩
theorem core_safeAmplitude : ∀ mm lm, Inv mm → ¬ mm 0 10 = 0 → inR 0 (mm 4 9 - 1) x1 → CoreI G Inv M_X9_safeAmplitude M_X10_safeAmplitude 9 14 [(0, .ref 0), (1, .int x1)] [(0, .ref 63), (1, .int x1)] mm lm := by
  intro mm lm hI _ g1
  obtain ⟨nb, nm, nq, np, fx⟩ := fx_of hI
  have f0 := fx _ EqR.refl.m
  have h8 := f0.n8
  obtain ⟨j, hj, rfl⟩ := f0.bell g1
  by_cases h : mm (23 + j) 5 ≤ 0
  · have e := eqR_th (mm := mm) EqR.refl 0
    have f := fx _ e.m
    exact ⟨-2, mm, bX9_safeAmplitude_9 ⟨j, rfl, by omega, _, c_swings (sh_b23 (by omega)), fun _ => ⟨rfl, rfl⟩, fun z => absurd h (bI_1.mp z)⟩, ⟨rfl, rfl, rfl⟩, fun l => ⟨_, bX10_safeAmplitude_14 ⟨_, cm_swings (by omega), fun z => absurd h ((f.sw hj).mp (bI_1.mp z)), fun _ => ⟨rfl, rfl⟩⟩, mset_eq, hI.congr e⟩⟩
  · obtain ⟨mr, er, room, ct⟩ := c_greatestSafeAmplitude (G := G) (lm := lm) f0.n h8 (show j < 8 by omega)
    have e := eqR_th er 0
    have f := fx _ e.m
    obtain ⟨s, hs, h4⟩ := f0.st hj
    have g4 : mset mr 63 4 0 64 (10 * j + 4) = nI s := by
      rcases f.am hj with ⟨h5, -⟩ | ⟨a, -, -, -, -, e4⟩
      · exact absurd (by rw [h5]; decide) h
      · rw [← e4]; exact h4
    rw [h4] at ct
    obtain ⟨P, hP⟩ : ∃ P : Nat → Bool, P = fun a => allN (stayB mr j (nI s) (nI a)) 1000 := ⟨_, rfl⟩
    rw [← hP] at ct
    refine ⟨downF P 15, mr, bX9_safeAmplitude_9 ⟨j, rfl, by omega, _, c_swings (sh_b23 (by omega)), fun z => absurd h (bI_0.mp z), fun _ => ⟨_, mr, ct, rfl, rfl⟩⟩, ⟨er 63 3 rfl, er 63 5 rfl, er 63 8 rfl⟩, fun l => ⟨_, bX10_safeAmplitude_14 ⟨_, cm_swings (by omega), fun _ => ?_, fun z => absurd ((f.sw hj).mpr h) (bI_0.mp z)⟩, mset_eq, hI.congr e⟩⟩
    have key : ∀ a, a ≤ 15 → J G M_X10_safeAmplitude 28 [(0, .ref 63), (1, .int (nI j)), (2, .int (nI a))] [] (SH, mset mr 63 4 0, l) false (.inl (some (.int (downF P a)))) (SH, mset mr 63 4 0, l) false 0 0 := by
      intro a
      induction a with
      | zero =>
        intro _
        have es := stay_safe f hj er room (s := s) (A := 0) (by omega) (by omega)
        refine bX10_safeAmplitude_28 ⟨fun z => absurd z (nI_pos (by omega)), fun _ => ⟨_, ofv (by omega) (a := 4) rfl (by decide) g4, _, cm_isSafe f.N h8 (fun k hk => f.p0 hk) hj _ _, fun z => ?_, fun z => ?_⟩⟩
        · have e2 : P 0 = false := by rw [hP]; exact es.trans (Bool.eq_false_iff.mpr (bI_0.mp z))
          rw [downF_z e2]
          exact bX10_safeAmplitude_28 ⟨fun _ => ⟨rfl, rfl⟩, fun z2 => absurd (by decide) z2⟩
        · have e2 : P 0 = true := by rw [hP]; exact es.trans (bI_1.mp z)
          rw [downF_t e2]; exact ⟨rfl, rfl⟩
      | succ a ih =>
        intro ha
        have es := stay_safe f hj er room (s := s) (A := a + 1) (by omega) ha
        refine bX10_safeAmplitude_28 ⟨fun z => absurd z (nI_pos (by omega)), fun _ => ⟨_, ofv (by omega) (a := 4) rfl (by decide) g4, _, cm_isSafe f.N h8 (fun k hk => f.p0 hk) hj _ _, fun z => ?_, fun z => ?_⟩⟩
        · have e2 : P (a + 1) = false := by rw [hP]; exact es.trans (Bool.eq_false_iff.mpr (bI_0.mp z))
          rw [nI_dec, downF_s e2]; exact ih (by omega)
        · have e2 : P (a + 1) = true := by rw [hP]; exact es.trans (bI_1.mp z)
          rw [downF_t e2]; exact ⟨rfl, rfl⟩
    exact key 15 (Nat.le_refl _)
end OpsT
