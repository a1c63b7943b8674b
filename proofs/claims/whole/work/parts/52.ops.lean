/-! ===== best place, best mirroring ===== -/
theorem nI_shl : ∀ k, k < 8 → (1 : Int32) <<< (nI k &&& 31) = nI (2 ^ k) := by decide +kernel
theorem orN_f {p : Nat → Bool} {n : Nat} (h : p n = false) : orN p (n + 1) = orN p n := by simp [orN, h]
theorem orN_t {p : Nat → Bool} {n : Nat} (h : p n = true) : orN p (n + 1) = orN p n ||| (1 <<< (nI n &&& 31)) := by simp only [orN, h, if_true]
theorem orN_nI (p : Nat → Bool) : ∀ {n : Nat}, n ≤ 8 → ∃ m, m < 2 ^ n ∧ orN p n = nI m
  | 0, _ => ⟨0, by decide, rfl⟩
  | n + 1, h => by
    obtain ⟨m, h1, h2⟩ := orN_nI p (n := n) (by omega)
    simp only [orN, h2]
    by_cases hp : p n = true
    · rw [if_pos hp, nI_shl n (by omega), fa_or]
      exact ⟨m ||| 2 ^ n, Nat.or_lt_two_pow (Nat.lt_trans h1 (Nat.pow_lt_pow_right (by omega) (Nat.lt_succ_self n))) (Nat.pow_lt_pow_right (by omega) (Nat.lt_succ_self n)), rfl⟩
    · rw [if_neg hp, Int32.or_zero]
      exact ⟨m, Nat.lt_trans h1 (Nat.pow_lt_pow_right (by omega) (Nat.lt_succ_self n)), rfl⟩
theorem orN_256 (p : Nat → Bool) {n : Nat} (h : n ≤ 8) : ∃ m, m < 256 ∧ orN p n = nI m := by
  obtain ⟨m, h1, h2⟩ := orN_nI p h
  have : 2 ^ n ≤ 2 ^ 8 := Nat.pow_le_pow_right (by omega) h
  exact ⟨m, by omega, h2⟩
theorem itN_shift {S : Type} {f : Nat → S → S} {s : S} : ∀ n, itN f s (n + 1) = itN (fun i => f (i + 1)) (f 0 s) n
  | 0 => rfl
  | n + 1 => by
    show f (n + 1) (itN f s (n + 1)) = f (n + 1) (itN (fun i => f (i + 1)) (f 0 s) n)
    rw [itN_shift n]
theorem itN_inv {S : Type} {f : Nat → S → S} {s : S} {P : Nat → S → Prop} (h0 : P 0 s) (hs : ∀ n x, P n x → P (n + 1) (f n x)) : ∀ n, P n (itN f s n)
  | 0 => h0
  | n + 1 => hs n _ (itN_inv h0 hs n)
/-- the reference's best place -/
def bpS (e m : Int32 → Int32) (n : Nat) (s : Int32 × Int32) : Int32 × Int32 := if e (nI n + (-15)) = 0 ∧ (s.1 < 0 ∨ absI (m (nI n + (-15))) < s.2) then (100 + (nI n + (-15)), absI (m (nI n + (-15)))) else s
theorem p85 : ∀ n, n < 31 → ¬ (100 + (nI n + (-15))) < 0 := by decide +kernel
theorem bp_calm {e m : Int32 → Int32} (h : ∀ x, e x = 0 → absI (m x) < 2147483647) : ∀ n, n ≤ 31 → (itN (bpS e m) (-3, 0) n).1 = (itN (calmS e m) (-3, 2147483647) n).1 := by
  have key : ∀ n, n ≤ 31 → (itN (bpS e m) (-3, 0) n).1 = (itN (calmS e m) (-3, 2147483647) n).1 ∧ (((itN (bpS e m) (-3, 0) n).1 = -3 ∧ (itN (calmS e m) (-3, 2147483647) n).2 = 2147483647) ∨ (¬ (itN (bpS e m) (-3, 0) n).1 < 0 ∧ (itN (bpS e m) (-3, 0) n).2 = (itN (calmS e m) (-3, 2147483647) n).2)) := by
    intro n
    induction n with
    | zero => exact fun _ => ⟨rfl, Or.inl ⟨rfl, rfl⟩⟩
    | succ n ih =>
      intro hn
      obtain ⟨h1, h2⟩ := ih (by omega)
      simp only [itN]
      generalize itN (bpS e m) (-3, 0) n = a at h1 h2 ⊢
      generalize itN (calmS e m) (-3, 2147483647) n = b at h1 h2 ⊢
      by_cases he : e (nI n + (-15)) = 0
      · by_cases hc : a.1 < 0 ∨ absI (m (nI n + (-15))) < a.2
        · have hc2 : absI (m (nI n + (-15))) < b.2 := by
            rcases h2 with ⟨-, q⟩ | ⟨q1, q2⟩
            · rw [q]; exact h _ he
            · rcases hc with z | z
              · exact absurd z q1
              · rw [← q2]; exact z
          rw [bpS, if_pos ⟨he, hc⟩, calmS, if_pos ⟨hc2, he⟩]
          exact ⟨rfl, Or.inr ⟨p85 n (by omega), rfl⟩⟩
        · have hc2 : ¬ absI (m (nI n + (-15))) < b.2 := by
            rcases h2 with ⟨q, -⟩ | ⟨q1, q2⟩
            · exact absurd (Or.inl (by rw [q]; decide)) hc
            · rw [← q2]; exact fun z => hc (Or.inr z)
          rw [bpS, if_neg (fun z => hc z.2), calmS, if_neg (fun z => hc2 z.1)]
          exact ⟨h1, h2⟩
      · rw [bpS, if_neg (fun z => he z.1), calmS, if_neg (fun z => he z.2)]
        exact ⟨h1, h2⟩
  exact fun n hn => (key n hn).1
section Ops2
variable {G : Gx} {x1 x2 x3 : Int32}
theorem lim_lt {mm M : Nat → Nat → Int32} {nb nm nq np i : Nat} (f : Fx mm M nb nm nq np) (hi : i < nm) {x : Int32} (h : ¬ mm 6 i < x) : x ≤ 50000 := by
  obtain ⟨l, h1, h2⟩ := (f.2.1.1 i hi).2.2
  rw [h2] at h
  refine Int32.le_trans (Int32.not_lt.mp h) ?_
  rw [show (50000 : Int32) = nI 50000 from rfl]
  exact nI_le h1 (by omega)
theorem core_bestPosition : ∀ mm lm, Inv mm → ¬ mm 0 10 = 0 → inR 0 (mm 4 9 - 1) x1 → inR 0 (mm 4 8 - 1) x2 → CoreI G Inv M_X9_bestPosition M_X10_bestPosition 14 30 [(0, .ref 0), (1, .int x1), (2, .int x2)] [(0, .ref 63), (1, .int x1), (2, .int x2)] mm lm := by
  intro mm lm hI _ g1 g2
  obtain ⟨nb, nm, nq, np, fx⟩ := fx_of hI
  have e := eqR_th (mm := mm) EqR.refl 0
  have f := fx _ e.m
  have h4 := f.m4
  have h8 := f.n8
  obtain ⟨j, hj, rfl⟩ := f.bell g1
  obtain ⟨i, hi, rfl⟩ := f.beam g2
  have hg := f.hg hj
  by_cases h : mm (23 + j) 0 = -1
  · refine ⟨(itN (calmS (eopF nb (cBe mm) (cPo mm) (mm 8) (mm 7) (mm 6) j i) (mWi nb (cBe mm) (cPo mm) (mm 7) j (nI i))) (-3, 2147483647) 31).1, mm, bX9_bestPosition_14 ⟨j, rfl, by omega, _, c_hangs (sh_b23 (by omega)), fun _ => ⟨_, c_calmestPlace f.n h8 (by omega) (by omega), rfl, rfl⟩, fun z => absurd h (bI_1.mp z)⟩, ⟨rfl, rfl, rfl⟩, fun l => ⟨_, bX10_bestPosition_30 ⟨_, cm_hangs (by omega), fun _ => ?_, fun z => absurd (hg.mpr h) (bI_1.mp z)⟩, mset_eq, hI.congr e⟩⟩
    have hne : ¬ cBe mm j = nI i := fun z => nI_ne_neg (n := i) (by omega) (z.symm.trans h)
    rw [← bp_calm (fun x hx => by
      have q : ¬ mm 6 i < absI (mWi nb (cBe mm) (cPo mm) (mm 7) j (nI i) x) := by
        rw [eopF] at hx
        by_cases h1 : allN (fitB (cBe mm) (cPo mm) (mm 8) j (nI i) x) nb = true
        · rw [if_pos h1] at hx
          by_cases h2 : mm 6 i < absI (mWi nb (cBe mm) (cPo mm) (mm 7) j (nI i) x)
          · rw [if_pos h2] at hx; exact absurd hx (by decide)
          · exact h2
        · rw [if_neg h1] at hx; exact absurd hx (by decide)
      have q2 := lim_lt f hi q
      rw [fa_le] at q2
      rw [fa_lt]
      have : (50000 : Int32).toInt = 50000 := rfl
      have : (2147483647 : Int32).toInt = 2147483647 := rfl
      omega) 31 (Nat.le_refl _)]
    have em : ∀ x, mo nb (mBe (th0 mm)) (mPo (th0 mm)) (th0 mm 68) (nI i) (fun _ => false) + th0 mm 68 j * x = mWi nb (cBe mm) (cPo mm) (mm 7) j (nI i) x := fun x => by
      rw [f.mo _ i (by omega), show th0 mm 68 j = mm 7 j from f.w hj, mWi, mo_off hne]
    generalize hF : bpS (eopF nb (cBe mm) (cPo mm) (mm 8) (mm 7) (mm 6) j i) (mWi nb (cBe mm) (cPo mm) (mm 7) j (nI i)) = F
    refine loop_up (n := 31) (P := fun n => J G M_X10_bestPosition 51 [(0, .ref 63), (1, .int (nI j)), (2, .int (nI i)), (3, .int (itN F (-3, 0) n).1), (4, .int (itN F (-3, 0) n).2), (5, .int (nI n + (-15)))] [] (SH, th0 mm, l) false (.inl (some (.int (itN F (-3, 0) 31).1))) (SH, th0 mm, l) false 0 0) ?_ ?_ 0 (Nat.zero_le _)
    · exact bX10_bestPosition_51 ⟨fun _ => ⟨rfl, rfl⟩, fun h => absurd (by decide) h⟩
    · intro n hn ih
      have hs : F n (itN F (-3, 0) n) = bpS (eopF nb (cBe mm) (cPo mm) (mm 8) (mm 7) (mm 6) j i) (mWi nb (cBe mm) (cPo mm) (mm 7) j (nI i)) n (itN F (-3, 0) n) := by rw [hF]
      rw [itN_s F _ n, hs] at ih
      have cs := cm_size (G := G) (mm := th0 mm) (lm := l) (mo nb (mBe (th0 mm)) (mPo (th0 mm)) (th0 mm 68) (nI i) (fun _ => false) + th0 mm 68 j * (nI n + (-15)))
      rw [em] at cs
      refine bX10_bestPosition_51 ⟨fun h => absurd h (p15 n hn), fun _ => ⟨_, cm_pull f.N h8 _, j, rfl, by omega, absI (mWi nb (cBe mm) (cPo mm) (mm 7) j (nI i) (nI n + (-15))), by rw [em]; exact cs, _, cm_canHang f.N h8 (by omega) (by omega) _, fun h5 => ?_, fun h5 => ⟨fun h6 => ?_, fun h6 => ⟨fun h7 => ?_, fun h7 => ?_⟩⟩⟩⟩
      · rw [bpS, if_neg (fun z => bI_0.mp h5 ((can_eq f hj hi h _).mpr z.1))] at ih
        rw [p15s]; exact ih
      · rw [bpS, if_pos ⟨(can_eq f hj hi h _).mp (bI_1.mp h5), Or.inl h6⟩] at ih
        dsimp only at ih
        rw [p15s]; exact ih
      · rw [bpS, if_neg (fun z => z.2.elim h6 (fun y => absurd h7 (Int32.not_le.mpr y)))] at ih
        rw [p15s]; exact ih
      · rw [bpS, if_pos ⟨(can_eq f hj hi h _).mp (bI_1.mp h5), Or.inr (Int32.not_le.mp h7)⟩] at ih
        dsimp only at ih
        rw [p15s]; exact ih
  · exact ⟨-2, mm, bX9_bestPosition_14 ⟨j, rfl, by omega, _, c_hangs (sh_b23 (by omega)), fun z => absurd h (bI_0.mp z), fun _ => ⟨rfl, rfl⟩⟩, ⟨rfl, rfl, rfl⟩, fun l => ⟨_, bX10_bestPosition_30 ⟨_, cm_hangs (by omega), fun z => absurd (mt hg.mp h) (bI_0.mp z), fun _ => ⟨rfl, rfl⟩⟩, mset_eq, hI.congr e⟩⟩
/-- the reference's best mirroring so far, after the set i -/
def mirM (n : Nat) (be po rad w : Nat → Int32) (b on : Int32) (i : Nat) (s : Int32 × Int32) : Int32 × Int32 :=
  if nI i &&& (on ^^^ (-1)) = 0 ∧ (absI (moM n be po w b (nI i)) < s.2 ∨ absI (moM n be po w b (nI i)) = s.2 ∧ bcF (nI i) < bcF s.1) ∧ allN (fun k => allN (cmB be po rad b (nI i) k) k) n = true then (nI i, absI (moM n be po w b (nI i))) else s
theorem mirM_nI {n : Nat} {be po rad w : Nat → Int32} {b on l : Int32} : ∀ i, i ≤ 256 → ∃ m, m < 256 ∧ (itN (mirM n be po rad w b on) (0, l) i).1 = nI m
  | 0, _ => ⟨0, by omega, rfl⟩
  | i + 1, h => by
    obtain ⟨m, h1, h2⟩ := mirM_nI (n := n) (be := be) (po := po) (rad := rad) (w := w) (b := b) (on := on) (l := l) i (by omega)
    simp only [itN]
    rw [mirM]
    split
    · exact ⟨i, by omega, rfl⟩
    · exact ⟨m, h1, h2⟩
theorem cm_bestMirror {mm : Nat → Nat → Int32} {lm : Nat → Int64} {nb : Nat} (hnb : mm 63 8 = nI nb) (h8 : nb ≤ 8) (b : Int32) {on : Nat} (hon : orN (fun k => decide (mBe mm k = b)) nb = nI on) (h256 : on < 256) : ∃ mm', (∀ c j, ¬ (c = 63 ∧ j = 31) → mm' c j = mm c j) ∧ Ct G M_X10_bestMirror [.ref 63, .int b] (SH, mm, lm) false (.inl (some (.int (itN (mirM nb (mBe mm) (mPo mm) (mm 69) (mm 68) b (nI on)) (0, 1000000) (on + 1)).1))) (SH, mm', lm) false 0 0 := by
  generalize hF : mirM nb (mBe mm) (mPo mm) (mm 69) (mm 68) b (nI on) = F
  have key := loop_up (n := on + 1) (P := fun i => ∀ m, (∀ c j, ¬ (c = 63 ∧ j = 31) → m c j = mm c j) → ∃ mm', (∀ c j, ¬ (c = 63 ∧ j = 31) → mm' c j = mm c j) ∧ J G M_X10_bestMirror 48 [(0, .ref 63), (1, .int b), (2, .int (nI on)), (3, .int (itN F (0, 1000000) i).1), (4, .int (itN F (0, 1000000) i).2), (5, .int (nI i))] [] (SH, m, lm) false (.inl (some (.int (itN F (0, 1000000) (on + 1)).1))) (SH, mm', lm) false 0 0) ?_ ?_ 0 (Nat.zero_le _) mm (fun _ _ _ => rfl)
  · obtain ⟨mm', h1, h2⟩ := key
    refine ⟨mm', h1, CJ (bX10_bestMirror_0 ?_)⟩
    refine loop_up (n := nb) (P := fun k => J G M_X10_bestMirror 4 [(0, .ref 63), (1, .int b), (2, .int (orN (fun k => decide (mBe mm k = b)) k)), (3, .int (nI k))] [] (SH, mm, lm) false (.inl (some (.int (itN F (0, 1000000) (on + 1)).1))) (SH, mm', lm) false 0 0) ?_ ?_ 0 (Nat.zero_le _)
    · refine bX10_bestMirror_4 ⟨fun _ => ?_, fun h => absurd (le_nI' hnb) h⟩
      rw [hon]; exact h2
    · intro k hk ih
      refine bX10_bestMirror_4 ⟨fun h => absurd h (le_nI hnb hk (by omega)), fun _ => ⟨_, cm_of (by omega) (a := 0) rfl (by decide), fun h => ?_, fun h => ?_⟩⟩
      · have e : decide (mBe mm k = b) = false := decide_eq_false h
        rw [orN_f (p := fun k => decide (mBe mm k = b)) e] at ih
        rw [nI_1, Int32.or_zero]; exact ih
      · have e : decide (mBe mm k = b) = true := decide_eq_true h
        rw [orN_t (p := fun k => decide (mBe mm k = b)) e] at ih
        rw [nI_1]; exact ih
  · intro m hm
    exact ⟨m, hm, bX10_bestMirror_48 ⟨fun _ => ⟨rfl, rfl⟩, fun h => absurd (nI_lt (Nat.lt_succ_self on) (by omega)) h⟩⟩
  · intro i hi ih m hm
    have hnb' : m 63 8 = nI nb := (hm 63 8 (by omega)).trans hnb
    have hs : F i (itN F (0, 1000000) i) = mirM nb (mBe mm) (mPo mm) (mm 69) (mm 68) b (nI on) i (itN F (0, 1000000) i) := by rw [hF]
    obtain ⟨bm, hb1, hb2⟩ := mirM_nI (n := nb) (be := mBe mm) (po := mPo mm) (rad := mm 69) (w := mm 68) (b := b) (on := nI on) (l := 1000000) i (by omega)
    rw [hF] at hb2
    rw [itN_s F _ i, hs] at ih
    generalize hst : itN F (0, 1000000) i = st at ih hb2 ⊢
    have r64 : m 64 = mm 64 := funext fun j => hm 64 j (by omega)
    have r68 : m 68 = mm 68 := funext fun j => hm 68 j (by omega)
    have r69 : m 69 = mm 69 := funext fun j => hm 69 j (by omega)
    by_cases h0 : nI i &&& (nI on ^^^ (-1)) = 0
    · obtain ⟨m1, e1, e2, ct⟩ := cm_isMirrorClear (G := G) (mm := m) (lm := lm) hnb' h8 b (nI i)
      have hm1 : ∀ c j, ¬ (c = 63 ∧ j = 31) → m1 c j = mm c j := fun c j hc => (e1 c j hc).trans (hm c j hc)
      have eb : mBe m = mBe mm := funext fun k => hm 64 _ (by omega)
      have ep : mPo m = mPo mm := funext fun k => hm 64 _ (by omega)
      rw [eb, ep, r68, r69] at e2
      rw [eb, ep, r69] at ct
      obtain ⟨mm', q1, q2⟩ := ih m1 hm1
      refine ⟨mm', q1, bX10_bestMirror_48 ⟨fun h => absurd h (nI_nlt (by omega) (by omega)), fun _ => ⟨fun h => absurd h0 h, fun _ => ⟨_, m1, ct, fun h3 => ?_, fun h3 => ?_⟩⟩⟩⟩
      · have hcl := bI_1.mp h3
        have ev := e2 hcl
        have cs := cm_size (G := G) (mm := m1) (lm := lm) (m1 63 31)
        refine ⟨_, cs, fun h4 => ?_, fun h4 => ⟨fun h5 => ?_, fun h5 => ⟨_, cm_count (by omega), bcF st.1, ?_, fun h6 => ?_, fun h6 => ?_⟩⟩⟩
        · rw [mirM, if_pos ⟨h0, Or.inl (by rw [ev] at h4; exact h4), hcl⟩] at q2
          rw [ev, nI_1]; exact q2
        · rw [mirM, if_neg (fun z => z.2.1.elim (fun y => h4 (by rw [ev]; exact y)) (fun y => h5 (by rw [ev]; exact y.1)))] at q2
          rw [nI_1]; exact q2
        · rw [hb2]; exact cm_count hb1
        · rw [mirM, if_neg (fun z => z.2.1.elim (fun y => h4 (by rw [ev]; exact y)) (fun y => absurd h6 (Int32.not_le.mpr y.2)))] at q2
          rw [nI_1]; exact q2
        · rw [mirM, if_pos ⟨h0, Or.inr ⟨by rw [ev] at h5; exact h5, Int32.not_le.mp h6⟩, hcl⟩] at q2
          rw [ev, nI_1]; exact q2
      · rw [mirM, if_neg (fun z => bI_0.mp h3 z.2.2)] at q2
        rw [nI_1]; exact q2
    · obtain ⟨mm', q1, q2⟩ := ih m hm
      rw [mirM, if_neg (fun z => h0 z.1)] at q2
      refine ⟨mm', q1, bX10_bestMirror_48 ⟨fun h => absurd h (nI_nlt (by omega) (by omega)), fun _ => ⟨fun _ => ?_, fun h => absurd h h0⟩⟩⟩
      rw [nI_1]; exact q2
theorem pm0 : ∀ k, k < 8 → ((0 : Int32) >>> (nI k &&& 31)) &&& 1 = 0 := by decide +kernel
theorem pmF_0 {po : Nat → Int32} {k : Nat} (hk : k < 8) : pmF po 0 k = po k := by rw [pmF, if_pos (pm0 k hk)]
theorem moM_eq {n : Nat} {be po w be' po' w' : Nat → Int32} {b s : Int32} (h : ∀ k, k < n → be k = be' k ∧ w k = w' k ∧ (be' k = b → po k = po' k)) : moM n be po w b s = moM n be' po' w' b s := sumN_congr fun k hk => by
  obtain ⟨h1, h2, h3⟩ := h k hk
  by_cases hb : be' k = b
  · rw [if_pos hb, if_pos (h1.trans hb), h2, pmF, pmF, h3 hb]
  · rw [if_neg hb, if_neg (fun z => hb (h1.symm.trans z))]
theorem cmB_eq {n : Nat} {be po rad be' po' rad' : Nat → Int32} {b s : Int32} (h : ∀ k, k < n → be k = be' k ∧ rad k = rad' k ∧ (be' k = b → po k = po' k)) : allN (fun k => allN (cmB be po rad b s k) k) n = allN (fun k => allN (cmB be' po' rad' b s k) k) n := allN_congr fun k hk => allN_congr fun o ho => by
  obtain ⟨h1, h2, h3⟩ := h k hk
  obtain ⟨g1, g2, g3⟩ := h o (by omega)
  simp only [cmB]
  rw [decide_eq_decide, h1, g1, h2, g2]
  by_cases hb : be' k = b
  · by_cases hc : be' o = b
    · rw [pmF, pmF, pmF, pmF, h3 hb, g3 hc]
    · exact ⟨fun _ => Or.inr (Or.inl hc), fun _ => Or.inr (Or.inl hc)⟩
  · exact ⟨fun _ => Or.inl hb, fun _ => Or.inl hb⟩
theorem mirM_0 {n : Nat} {be po rad w : Nat → Int32} {b on l : Int32} (h1 : absI (moM n be po w b 0) < l) (h2 : allN (fun k => allN (cmB be po rad b 0 k) k) n = true) : mirM n be po rad w b on 0 (0, l) = (0, absI (moM n be po w b 0)) := by
  have h3 : (0 : Int32) &&& (on ^^^ (-1)) = 0 := Int32.zero_and
  rw [mirM, show nI 0 = 0 from rfl, if_pos ⟨h3, Or.inl h1, h2⟩]
theorem mirM_s {n : Nat} {be po rad w : Nat → Int32} {b on : Int32} : (fun x => mirM n be po rad w b on (x + 1)) = mirS n be po rad w b on := by
  funext x s
  rw [mirM, mirS]
theorem mirS_c {n m : Nat} {be po rad w : Nat → Int32} {b on : Int32} {s0 : Int32 × Int32} (h : allN (fun k => allN (cmB be po rad b s0.1 k) k) n = true) : allN (fun k => allN (cmB be po rad b (itN (mirS n be po rad w b on) s0 m).1 k) k) n = true := by
  induction m with
  | zero => exact h
  | succ m ih =>
    rw [itN_s]
    generalize itN (mirS n be po rad w b on) s0 m = st at ih ⊢
    rw [mirS]
    split
    · rename_i hc
      dsimp only
      exact hc.2.2
    · exact ih
/-- the two best mirrorings are one; it is clear -/
theorem mir_eq {mm M : Nat → Nat → Int32} {nb nm nq np i : Nat} (f : Fx mm M nb nm nq np) (hi : i < nm) (on : Nat) {best : Int32}
    (hbest : (itN (mirS nb (cBe mm) (cPo mm) (mm 8) (mm 7) (nI i) (nI on)) (0, absI (moM nb (cBe mm) (cPo mm) (mm 7) (nI i) 0)) on).1 = best) :
    (itN (mirM nb (mBe M) (mPo M) (M 69) (M 68) (nI i) (nI on)) (0, 1000000) (on + 1)).1 = best ∧ allN (fun k => allN (cmB (cBe mm) (cPo mm) (mm 8) (nI i) best k) k) nb = true := by
  have h4 := f.m4
  have h8 := f.n8
  have hne : ¬ nI i = -1 := nI_ne_neg (by omega)
  have hpo : ∀ k, k < nb → (cBe mm k = nI i → mPo M k = cPo mm k) := fun k hk hb => f.po hk (by rw [show mm (23 + k) 0 = cBe mm k from rfl, hb]; exact hne)
  have e1 : mirM nb (mBe M) (mPo M) (M 69) (M 68) (nI i) (nI on) = mirM nb (cBe mm) (cPo mm) (mm 8) (mm 7) (nI i) (nI on) := by
    funext x s
    simp only [mirM]
    rw [moM_eq (fun k hk => ⟨f.be hk, f.w hk, hpo k hk⟩), cmB_eq (fun k hk => ⟨f.be hk, f.ra hk, hpo k hk⟩)]
  have hcl : allN (fun k => allN (cmB (cBe mm) (cPo mm) (mm 8) (nI i) 0 k) k) nb = true := allN_iff.mpr fun k hk => allN_iff.mpr fun o ho => by
    simp only [cmB]
    refine decide_eq_true ?_
    rw [pmF_0 (by omega), pmF_0 (by omega)]
    by_cases hb : cBe mm k = nI i
    · by_cases hc : cBe mm o = nI i
      · exact Or.inr (Or.inr (f.2.2.1.2.1 k o hk ho (by rw [show cS mm k 0 = cBe mm k from rfl, hb]; exact hne) (hb.trans hc.symm)))
      · exact Or.inr (Or.inl hc)
    · exact Or.inl hb
  have hmo : moM nb (cBe mm) (cPo mm) (mm 7) (nI i) 0 = mo nb (cBe mm) (cPo mm) (mm 7) (nI i) (fun _ => false) := sumN_congr fun k hk => by
    by_cases hb : cBe mm k = nI i
    · rw [if_pos hb, if_pos ⟨rfl, hb⟩, pmF_0 (by omega)]
    · rw [if_neg hb, if_neg (fun z => hb z.2)]
  have hlt : absI (moM nb (cBe mm) (cPo mm) (mm 7) (nI i) 0) < 1000000 := by
    rw [hmo]
    have q := lim_lt f hi (f.2.2.1.2.2 i hi)
    rw [fa_le] at q
    rw [fa_lt]
    have a1 : (50000 : Int32).toInt = 50000 := rfl
    have a2 : (1000000 : Int32).toInt = 1000000 := rfl
    have q' : (absI (mo nb (cBe mm) (cPo mm) (mm 7) (nI i) (fun _ => false))).toInt ≤ (50000 : Int32).toInt := q
    omega
  have h0 : mirM nb (cBe mm) (cPo mm) (mm 8) (mm 7) (nI i) (nI on) 0 (0, 1000000) = (0, absI (moM nb (cBe mm) (cPo mm) (mm 7) (nI i) 0)) := by
    exact mirM_0 hlt hcl
  have e2 : (fun x => mirM nb (cBe mm) (cPo mm) (mm 8) (mm 7) (nI i) (nI on) (x + 1)) = mirS nb (cBe mm) (cPo mm) (mm 8) (mm 7) (nI i) (nI on) := by
    exact mirM_s
  refine ⟨by rw [e1, itN_shift, h0, e2, hbest], ?_⟩
  rw [← hbest]
  exact mirS_c (s0 := (0, absI (moM nb (cBe mm) (cPo mm) (mm 7) (nI i) 0))) hcl
theorem eqR_31 {mm M M' : Nat → Nat → Int32} (e : EqR mm M) (h : ∀ c j, ¬ (c = 63 ∧ j = 31) → M' c j = M c j) : EqR mm M' := e.trans fun c j hc => h c j fun z => by rw [z.1, z.2] at hc; cases hc
theorem core_mirroredBells : ∀ mm lm, Inv mm → ¬ mm 0 10 = 0 → inR 0 (mm 4 8 - 1) x1 → CoreI G Inv M_X9_mirroredBells M_X10_mirroredBells 9 16 [(0, .ref 0), (1, .int x1)] [(0, .ref 63), (1, .int x1)] mm lm := by
  intro mm lm hI _ g1
  obtain ⟨nb, nm, nq, np, fx⟩ := fx_of hI
  have e := eqR_th (mm := mm) EqR.refl 0
  have f := fx _ e.m
  have h4 := f.m4
  have h8 := f.n8
  obtain ⟨i, hi, rfl⟩ := f.beam g1
  obtain ⟨on, h256, hon⟩ := orN_256 (fun k => decide (cBe mm k = nI i)) h8
  have hon2 : orN (fun k => decide (mBe (th0 mm) k = nI i)) nb = nI on := by rw [← hon]; exact orN_congr fun k hk => by rw [show mBe (th0 mm) k = cBe mm k from f.be hk]
  obtain ⟨heq, -⟩ := mir_eq f hi on rfl
  refine ⟨_, mm, bX9_mirroredBells_9 ⟨_, c_bestMirror f.n h8 (nI i) hon h256, rfl, rfl⟩, ⟨rfl, rfl, rfl⟩, fun l => ?_⟩
  obtain ⟨mm', h1, h2⟩ := cm_bestMirror (G := G) (lm := l) f.N h8 (nI i) hon2 h256
  rw [heq] at h2
  exact ⟨mm', bX10_mirroredBells_16 ⟨_, mm', h2, rfl, rfl⟩, (h1 63 4 (by omega)).trans mset_eq, hI.congr (eqR_31 e h1)⟩
theorem core_mirroredTorque : ∀ mm lm, Inv mm → ¬ mm 0 10 = 0 → inR 0 (mm 4 8 - 1) x1 → CoreI G Inv M_X9_mirroredTorque M_X10_mirroredTorque 9 14 [(0, .ref 0), (1, .int x1)] [(0, .ref 63), (1, .int x1)] mm lm := by
  intro mm lm hI _ g1
  obtain ⟨nb, nm, nq, np, fx⟩ := fx_of hI
  have e := eqR_th (mm := mm) EqR.refl 0
  have f := fx _ e.m
  have h4 := f.m4
  have h8 := f.n8
  obtain ⟨i, hi, rfl⟩ := f.beam g1
  obtain ⟨on, h256, hon⟩ := orN_256 (fun k => decide (cBe mm k = nI i)) h8
  have hon2 : orN (fun k => decide (mBe (th0 mm) k = nI i)) nb = nI on := by rw [← hon]; exact orN_congr fun k hk => by rw [show mBe (th0 mm) k = cBe mm k from f.be hk]
  obtain ⟨heq, hclr⟩ := mir_eq f hi on rfl
  refine ⟨_, mm, bX9_mirroredTorque_9 ⟨_, c_bestMirror f.n h8 (nI i) hon h256, _, c_momentMirrored f.n h8 _ _, _, c_abs _, rfl, rfl⟩, ⟨rfl, rfl, rfl⟩, fun l => ?_⟩
  obtain ⟨m1, h1, h2⟩ := cm_bestMirror (G := G) (lm := l) f.N h8 (nI i) hon2 h256
  rw [heq] at h2
  generalize (itN (mirS nb (cBe mm) (cPo mm) (mm 8) (mm 7) (nI i) (nI on)) (0, absI (moM nb (cBe mm) (cPo mm) (mm 7) (nI i) 0)) on).1 = best at h2 hclr ⊢
  have f1 := fx _ (eqR_31 e h1).m
  obtain ⟨m2, g1, g2, g3⟩ := cm_isMirrorClear (G := G) (lm := l) f1.N h8 (nI i) best
  have hne : ¬ nI i = -1 := nI_ne_neg (by omega)
  have hpo : ∀ k, k < nb → (cBe mm k = nI i → mPo m1 k = cPo mm k) := fun k hk hb => f1.po hk (by rw [show mm (23 + k) 0 = cBe mm k from rfl, hb]; exact hne)
  have ev := g2 (by rw [cmB_eq (fun k hk => ⟨f1.be hk, f1.ra hk, hpo k hk⟩)]; exact hclr)
  rw [moM_eq (fun k hk => ⟨f1.be hk, f1.w hk, hpo k hk⟩)] at ev
  have cs := cm_size (G := G) (mm := m2) (lm := l) (m2 63 31)
  refine ⟨m2, bX10_mirroredTorque_14 ⟨_, m1, h2, _, m2, g3, _, cs, ?_⟩, (g1 63 4 (by omega)).trans ((h1 63 4 (by omega)).trans mset_eq), hI.congr (eqR_31 (eqR_31 e h1) g1)⟩
  rw [ev]; exact ⟨rfl, rfl⟩
end Ops2
