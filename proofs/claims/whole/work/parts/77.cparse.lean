/-! ===== what a text tells; the class reads it ===== -/
def bsT : Nat → Nat
  | 0 => 0
  | 1 => 2
  | 2 => 5
  | 3 => 7
  | _ => 8
def cnT : Nat → Nat
  | 0 => 2
  | 1 => 3
  | 2 => 2
  | _ => 1
def moT : Nat → Nat
  | 0 => 4
  | 1 => 8
  | 2 => 6
  | _ => 8
def loT : Nat → Nat
  | 0 => 300
  | 1 => 0
  | 2 => 10
  | 3 => 2
  | 4 => 4
  | 5 => 0
  | 6 => 1
  | _ => 100
def hiT : Nat → Nat
  | 0 => 5000
  | 1 => 50000
  | 2 => 3000
  | 3 => 10
  | 4 => 40
  | 5 => 1439
  | 6 => 1440
  | _ => 9999
/-- the statement to which the numbers of row r belong -/
def kd (r : Nat) : Nat := if r < 2 then 0 else if r < 5 then 1 else if r < 7 then 2 else 3
theorem kd_inv : ∀ r, r < 8 → ∀ k, k < 4 → kd r = k → bsT k ≤ r ∧ r < bsT k + cnT k := by decide
theorem kd_lt (r : Nat) : kd r < 4 := by
  unfold kd
  repeat' split
  all_goals decide
theorem bs_cn : ∀ k, k < 4 → bsT k + cnT k ≤ 8 ∧ cnT k ≤ 3 ∧ 1 ≤ cnT k ∧ moT k ≤ 8 := by decide
theorem bs_tab : ∀ k, k < 5 → tl_1002.getD k 0 = nI (bsT k) := by decide
theorem cn_tab : ∀ k, k < 4 → tl_1002.getD (k + 1) 0 - tl_1002.getD k 0 = nI (cnT k) := by decide +kernel
theorem lo_tab : ∀ r, r < 8 → tl_1003.getD r 0 = nI (loT r) ∧ tl_1004.getD r 0 = nI (hiT r) ∧ loT r < 100000 ∧ hiT r < 100000 := by decide
/-- how many statements of each kind, and their numbers -/
abbrev Dr : Type := (Nat → Nat) × (Nat → Nat → Nat)
def updT (v : Nat → Nat) (i x : Nat) : Nat → Nat := fun y => if y = i then x else v y
/-- what is wrong with number i of a statement of kind k: 0 nothing -/
def badT (k i : Nat) (v : Nat → Nat) (t : Tk) : Nat := if ¬ t.k = 2 then 1 else if t.v < loT (bsT k + i) ∨ hiT (bsT k + i) < t.v then 2 else if k = 2 ∧ i = 1 ∧ t.v ≤ v 0 then 3 else 0
def nums (b : Nat → Nat) (n k : Nat) : Nat → Nat → Nat → (Nat → Nat) → Nat × Nat × (Nat → Nat)
  | 0, _, p, v => (0, p, v)
  | m + 1, i, p, v => if ¬ badT k i v (tk b n p) = 0 then (badT k i v (tk b n p), (tk b n p).s, v) else nums b n k m (i + 1) (tk b n p).e (updT v i (tk b n p).v)
def addD (D : Dr) (k : Nat) (v : Nat → Nat) : Dr := (updT D.1 k (D.1 k + 1), fun r j => if kd r = k ∧ j = D.1 k then v (r - bsT k) else D.2 r j)
/-- a token may not stand where a statement of kind L stood last -/
def wrT (b : Nat → Nat) (L : Nat) (t : Tk) (D : Dr) : Bool := decide (stT b t = 4 ∨ stT b t < L ∨ (1 ≤ stT b t ∧ D.1 0 = 0) ∨ (2 ≤ stT b t ∧ D.1 1 = 0))
/-- the rest of the text: the error's code, its place, what was read -/
def goT (b : Nat → Nat) (n : Nat) : Nat → Nat → Tk → Dr → Nat × Nat × Dr
  | 0, _, t, D => (1, t.s, D)
  | f + 1, L, t, D =>
    if t.k = 0 then (if D.1 1 = 0 then (1, t.s, D) else (0, 0, D))
    else if wrT b L t D = true then (1, t.s, D)
    else if moT (stT b t) ≤ D.1 (stT b t) then (4, t.s, D)
    else if ¬ (nums b n (stT b t) (cnT (stT b t)) 0 t.e (fun _ => 0)).1 = 0 then ((nums b n (stT b t) (cnT (stT b t)) 0 t.e (fun _ => 0)).1, (nums b n (stT b t) (cnT (stT b t)) 0 t.e (fun _ => 0)).2.1, D)
    else if ¬ (tk b n (nums b n (stT b t) (cnT (stT b t)) 0 t.e (fun _ => 0)).2.1).k = 3 then (1, (tk b n (nums b n (stT b t) (cnT (stT b t)) 0 t.e (fun _ => 0)).2.1).s, D)
    else goT b n f (stT b t) (tk b n (tk b n (nums b n (stT b t) (cnT (stT b t)) 0 t.e (fun _ => 0)).2.1).e) (addD D (stT b t) (nums b n (stT b t) (cnT (stT b t)) 0 t.e (fun _ => 0)).2.2)
theorem run_all {f : Nat → Bool} {b : Nat → Nat} {n : Nat} : ∀ p, p ≤ n → ∀ i, p ≤ i → i < runT f b n p → f (b i) = true :=
  loop_up (fun i h1 h2 => by rw [run_end (Nat.le_refl _)] at h2; omega) fun p hp ih i h1 h2 => by
    by_cases hf : f (b p) = true
    · by_cases e : i = p
      · rw [e]; exact hf
      · rw [run_go hp hf] at h2; exact ih i (by omega) h2
    · rw [run_stop hf] at h2; omega
theorem vl_lt {b : Nat → Nat} {s : Nat} : ∀ k, (∀ i, i < k → isDi (b (s + i)) = true) → vlT b s k < 10 ^ k
  | 0, _ => show 0 < 1 by decide
  | k + 1, h => by
    have ih := vl_lt k fun i hi => h i (by omega)
    have hd := of_decide_eq_true (h k (by omega))
    show 10 * vlT b s k + (b (s + k) - 48) < 10 ^ (k + 1)
    rw [Nat.pow_succ]; omega
theorem tk_v {b : Nat → Nat} {n p : Nat} (hp : p ≤ n) (hk : (tk b n p).k = 2) : (tk b n p).v < 100000 := by
  have hsn := (run_in (f := isBl) (b := b) (n := n) p hp).2
  revert hk
  unfold tk
  generalize runT isBl b n p = s at hsn ⊢
  unfold tkS
  by_cases hs : n ≤ s
  · rw [if_pos hs]; intro z; exact absurd z (show ¬ (0 : Nat) = 2 by decide)
  rw [if_neg hs]
  by_cases hl : isLe (b s) = true
  · rw [if_pos hl]; intro z; exact absurd z (show ¬ (1 : Nat) = 2 by decide)
  rw [if_neg hl]
  by_cases hd : isDi (b s) = true
  · rw [if_pos hd]
    by_cases h5 : 5 < runT isDi b n s - s
    · rw [if_pos h5]; intro z; exact absurd z (show ¬ (4 : Nat) = 2 by decide)
    · rw [if_neg h5]; intro _
      show vlT b s (runT isDi b n s - s) < 100000
      have q := vl_lt (b := b) (s := s) (runT isDi b n s - s) fun i hi => run_all s hsn (s + i) (by omega) (by omega)
      exact Nat.lt_of_lt_of_le q (show 10 ^ (runT isDi b n s - s) ≤ 10 ^ 5 from Nat.pow_le_pow_right (by decide) (by omega))
  rw [if_neg hd]
  by_cases hq : b s = 59
  · rw [if_pos hq]; intro z; exact absurd z (show ¬ (3 : Nat) = 2 by decide)
  · rw [if_neg hq]; intro z; exact absurd z (show ¬ (4 : Nat) = 2 by decide)
theorem badT_lt {k i : Nat} {v : Nat → Nat} {t : Tk} : badT k i v t < 5 := by
  unfold badT
  repeat' split
  all_goals decide
/-- the class: no error so far; an error -/
def C0 (m : Nat → Nat → Int32) : Prop := m 1 4 = 0 ∧ m 1 3 = -1
def CE (m : Nat → Nat → Int32) (c s : Nat) : Prop := (¬ c = 0 ∧ c < 5) ∧ m 1 4 = nI c ∧ m 1 3 = nI s
def FrN (m m' : Nat → Nat → Int32) : Prop := (∀ c, c ≠ 1 → c ≠ 3 → m' c = m c) ∧ m' 1 2 = m 1 2
/-- the candidate tower holds what was read -/
def CDr (m : Nat → Nat → Int32) (D : Dr) : Prop := (∀ k, k < 4 → m 13 (8 + k) = nI (D.1 k) ∧ D.1 k ≤ moT k) ∧ ∀ r, r < 8 → ∀ j, j < D.1 (kd r) → m (14 + r) j = nI (D.2 r j)
def FrP (m m' : Nat → Nat → Int32) : Prop := (∀ c, c ≠ 1 → c ≠ 3 → c < 13 ∨ 21 < c → m' c = m c) ∧ m' 1 2 = m 1 2
section CParse
variable {G : Gx} {mm m m' m'' : Nat → Nat → Int32} {lm : Nat → Int64} {n : Nat} {b : Nat → Nat} {D : Dr}
theorem CE.ne {c s : Nat} (h : CE m c s) : ¬ m 1 4 = 0 := by rw [h.2.1]; exact nI_ne0 (Nat.pos_of_ne_zero h.1.1) (by have := h.1.2; omega)
theorem FrN.refl : FrN m m := ⟨fun _ _ _ => rfl, rfl⟩
theorem FrN.trans (h : FrN m m') (g : FrN m' m'') : FrN m m'' := ⟨fun c a1 a2 => (g.1 c a1 a2).trans (h.1 c a1 a2), g.2.trans h.2⟩
theorem FrC.toN (h : FrC m m') : FrN m m' := ⟨fun c a1 _ => h.1 c a1, h.2 2 (by decide) (by decide) (by decide) (by decide)⟩
theorem FrC.c0 (h : FrC m m') (g : C0 m) : C0 m' := ⟨(h.2 4 (by decide) (by decide) (by decide) (by decide)).trans g.1, (h.2 3 (by decide) (by decide) (by decide) (by decide)).trans g.2⟩
theorem FrN.p (h : FrN m m') : FrP m m' := ⟨fun c a1 a2 _ => h.1 c a1 a2, h.2⟩
theorem FrP.refl : FrP m m := FrN.refl.p
theorem FrP.trans (h : FrP m m') (g : FrP m' m'') : FrP m m'' := ⟨fun c a1 a2 a3 => (g.1 c a1 a2 a3).trans (h.1 c a1 a2 a3), g.2.trans h.2⟩
theorem CB.toN (h : CB m n b) (g : FrN m m') : CB m' n b := h.of g.2 (g.1 2 (by decide) (by decide))
theorem CB.p (h : CB m n b) (g : FrP m m') : CB m' n b := h.of g.2 (g.1 2 (by decide) (by decide) (by decide))
theorem CDr.toN (h : CDr m D) (g : FrN m m') : CDr m' D := ⟨fun k hk => by rw [g.1 13 (by decide) (by decide)]; exact h.1 k hk, fun r hr j hj => by rw [g.1 (14 + r) (by omega) (by omega)]; exact h.2 r hr j hj⟩
/-- fail: the error stands at the token read last -/
theorem c_fail {c s : Nat} (h6 : mm 1 6 = nI s) (h0 : ¬ c = 0) (h5 : c < 5) : ∃ m', FrN mm m' ∧ CE m' c s ∧ Ct G M_X8_fail [.ref 1, .int (nI c)] (SH, mm, lm) false (.inl none) (SH, m', lm) false 0 0 := by
  refine ⟨mset (mset mm 1 4 (nI c)) 1 3 (nI s), ⟨fun d d1 _ => by rw [mset_ne d1, mset_ne d1], by rw [mset_in (by decide), mset_in (by decide)]⟩, ⟨⟨h0, h5⟩, by rw [mset_in (by decide), mset_eq], mset_eq⟩, CJ (bX8_fail_0 ⟨rfl, ?_⟩)⟩
  rw [mset_in (by decide), h6]
theorem j_numStop {x1 x2 x3 x4 : Int32} (he : ¬ mm 1 4 = 0) : J G M_X8_parseNumbers 29 [(0, .ref 1), (1, .int x1), (2, .int x2), (3, .int x3), (4, .int x4)] [] (SH, mm, lm) false (.inl none) (SH, mm, lm) false 0 0 :=
  bX8_parseNumbers_29 ⟨fun _ => ⟨rfl, rfl⟩, fun _ => ⟨fun _ => ⟨rfl, rfl⟩, fun _ => ⟨fun _ => ⟨rfl, rfl⟩, fun z => absurd z he⟩⟩⟩
def Nout (m' : Nat → Nat → Int32) (q : Nat × Nat × (Nat → Nat)) (p n k : Nat) : Prop := (q.1 = 0 → C0 m' ∧ m' 1 5 = nI q.2.1 ∧ (p ≤ q.2.1 ∧ q.2.1 ≤ n) ∧ ∀ x, x < cnT k → m' 3 x = nI (q.2.2 x)) ∧ (¬ q.1 = 0 → CE m' q.1 q.2.1)
theorem c_numbers (hc : CB mm n b) {k p0 : Nat} (hk : k < 4) (hp0 : p0 ≤ n) (h0 : C0 mm) (h5 : mm 1 5 = nI p0) : ∃ m', FrN mm m' ∧ Nout m' (nums b n k (cnT k) 0 p0 (fun _ => 0)) p0 n k ∧ Ct G M_X8_parseNumbers [.ref 1, .int (nI k)] (SH, mm, lm) false (.inl none) (SH, m', lm) false 0 0 := by
  have hn := hc.2.1
  have hbc := bs_cn k hk
  have key := loop_up (n := cnT k) (P := fun i => ∀ p v m0, p ≤ n → p0 ≤ p → FrN mm m0 → C0 m0 → m0 1 5 = nI p → (∀ x, x < i → m0 3 x = nI (v x) ∧ v x < 100000) → ∃ m', FrN mm m' ∧ Nout m' (nums b n k (cnT k - i) i p v) p0 n k ∧ J G M_X8_parseNumbers 29 [(0, .ref 1), (1, .int (nI k)), (2, .int (nI (bsT k))), (3, .int (nI (cnT k))), (4, .int (nI i))] [] (SH, m0, lm) false (.inl none) (SH, m', lm) false 0 0) ?_ ?_ 0 (by omega) p0 (fun _ => 0) mm hp0 (Nat.le_refl _) FrN.refl h0 h5 (fun x hx => absurd hx (Nat.not_lt_zero x))
  · obtain ⟨m', q1, q2, q3⟩ := key
    refine ⟨m', q1, q2, CJ (bX8_parseNumbers_0 ⟨fun z => absurd z (nI_pos (by omega)), fun _ => ⟨fun _ => ⟨k, rfl, by omega, k + 1, nI_1 k, by omega, ?_⟩, fun z => absurd (show nI k ≤ 3 from nI_le (a := k) (b := 3) (by omega) (by omega)) z⟩⟩)⟩
    rw [bs_tab k (by omega), ← bs_tab k (by omega), cn_tab k hk, bs_tab k (by omega)]
    exact q3
  · intro p v m0 hp hpp g g0 h5 hv
    rw [Nat.sub_self]
    exact ⟨m0, g, ⟨fun _ => ⟨g0, h5, ⟨hpp, hp⟩, fun x hx => (hv x hx).1⟩, fun z => absurd rfl z⟩, bX8_parseNumbers_29 ⟨fun _ => ⟨rfl, rfl⟩, fun z => absurd (Int32.le_refl _) z⟩⟩
  · intro i hi ih p v m0 hp hpp g g0 h5 hv
    have c0 := hc.toN g
    obtain ⟨m3, g3, k3, ct3⟩ := c_readToken (G := G) (lm := lm) c0 hp h5
    have ht := tk_in (b := b) hp
    have htv := tk_v (b := b) hp
    have htk := tk_k (b := b) (n := n) (p := p)
    rw [show cnT k - i = (cnT k - (i + 1)) + 1 by omega]
    show ∃ m', FrN mm m' ∧ Nout m' (if ¬ badT k i v (tk b n p) = 0 then (badT k i v (tk b n p), (tk b n p).s, v) else nums b n k (cnT k - (i + 1)) (i + 1) (tk b n p).e (updT v i (tk b n p).v)) p0 n k ∧ _
    generalize tk b n p = t at k3 ht htv htk ⊢
    obtain ⟨M, hM⟩ : ∃ M, M = mset m3 3 i (m3 1 8) := ⟨_, rfl⟩
    have gM : FrN mm M := ⟨fun c a1 a2 => by rw [hM, mset_ne a2, g3.1 c a1]; exact g.1 c a1 a2, by rw [hM, mset_ne (by decide)]; exact (g3.toN.2).trans g.2⟩
    have M1 : M 1 = m3 1 := by rw [hM, mset_ne (by decide)]
    have M7 : M 1 7 = nI t.k := by rw [M1]; exact k3.2.1
    have M6 : M 1 6 = nI t.s := by rw [M1]; exact k3.1
    have M0 : C0 M := ⟨by rw [M1]; exact (g3.c0 g0).1, by rw [M1]; exact (g3.c0 g0).2⟩
    have n1 : ¬ nI (cnT k) ≤ nI i := nI_ge hi (by omega)
    have n2 : ¬ (3 : Int32) ≤ nI i := lit_ge (n := 3) rfl (by omega) (by omega)
    have er : ∀ c, ¬ c = 0 → c < 5 → badT k i v t = c → ∃ m', FrN mm m' ∧ Nout m' (if ¬ badT k i v t = 0 then (badT k i v t, t.s, v) else nums b n k (cnT k - (i + 1)) (i + 1) t.e (updT v i t.v)) p0 n k ∧ Ct G M_X8_fail [.ref 1, .int (nI c)] (SH, M, lm) false (.inl none) (SH, m', lm) false 0 0 ∧ J G M_X8_parseNumbers 29 [(0, .ref 1), (1, .int (nI k)), (2, .int (nI (bsT k))), (3, .int (nI (cnT k))), (4, .int (nI i + 1))] [] (SH, m', lm) false (.inl none) (SH, m', lm) false 0 0 := by
      intro c c0 c5 e
      obtain ⟨m', f1, f2, f3⟩ := c_fail (G := G) (lm := lm) M6 c0 c5
      refine ⟨m', gM.trans f1, ?_, f3, j_numStop f2.ne⟩
      rw [e, if_pos c0]
      exact ⟨fun z => absurd z c0, fun _ => f2⟩
    by_cases h2 : t.k = 2
    · have hv8 : M 1 8 = nI t.v := by rw [M1]; exact k3.2.2.2 h2
      have hvb := htv h2
      have tab := lo_tab (bsT k + i) (by omega)
      have e7 : M 1 7 = 2 := by rw [M7, h2]; rfl
      by_cases hlo : t.v < loT (bsT k + i)
      · obtain ⟨m', q1, q2, q3, q4⟩ := er 2 (by decide) (by decide) (by unfold badT; rw [if_neg (fun z => z h2), if_pos (Or.inl hlo)])
        refine ⟨m', q1, q2, bX8_parseNumbers_29 ⟨fun z => absurd z n1, fun _ => ⟨fun z => absurd z n2, fun _ => ⟨fun z => absurd g0.1 z, fun _ => ⟨m3, ct3, i, rfl, by omega, ?_⟩⟩⟩⟩⟩
        rw [← hM]
        exact ⟨fun _ => ⟨bsT k + i, nI_add _ _, by omega, fun _ => ⟨m', q3, q4⟩, fun z => absurd (by rw [hv8, tab.1]; exact nI_lt hlo (by omega)) z⟩, fun z => absurd e7 z⟩
      have clo : ¬ M 1 8 < tl_1003.getD (bsT k + i) 0 := by rw [hv8, tab.1]; exact nI_nlt (by omega) (by omega)
      by_cases hhi : hiT (bsT k + i) < t.v
      · obtain ⟨m', q1, q2, q3, q4⟩ := er 2 (by decide) (by decide) (by unfold badT; rw [if_neg (fun z => z h2), if_pos (Or.inr hhi)])
        refine ⟨m', q1, q2, bX8_parseNumbers_29 ⟨fun z => absurd z n1, fun _ => ⟨fun z => absurd z n2, fun _ => ⟨fun z => absurd g0.1 z, fun _ => ⟨m3, ct3, i, rfl, by omega, ?_⟩⟩⟩⟩⟩
        rw [← hM]
        exact ⟨fun _ => ⟨bsT k + i, nI_add _ _, by omega, fun z => absurd z clo, fun _ => ⟨bsT k + i, nI_add _ _, by omega, fun z => absurd z (by rw [hv8, tab.2.1]; exact nI_ge hhi (by omega)), fun _ => ⟨m', q3, q4⟩⟩⟩, fun z => absurd e7 z⟩
      have chi : M 1 8 ≤ tl_1004.getD (bsT k + i) 0 := by rw [hv8, tab.2.1]; exact nI_le (by omega) (by omega)
      have goes : (nI k = 2 → nI i = 1 → ¬ t.v ≤ v 0) → badT k i v t = 0 → ∃ m', FrN mm m' ∧ Nout m' (if ¬ badT k i v t = 0 then (badT k i v t, t.s, v) else nums b n k (cnT k - (i + 1)) (i + 1) t.e (updT v i t.v)) p0 n k ∧ J G M_X8_parseNumbers 29 [(0, .ref 1), (1, .int (nI k)), (2, .int (nI (bsT k))), (3, .int (nI (cnT k))), (4, .int (nI i + 1))] [] (SH, M, lm) false (.inl none) (SH, m', lm) false 0 0 := by
        intro _ e
        obtain ⟨m', q1, q2, q3⟩ := ih t.e (updT v i t.v) M ht.2.2.1 (by omega) gM M0 (by rw [M1]; exact k3.2.2.1 (by omega)) (fun x hx => by
          unfold updT
          by_cases e : x = i
          · rw [if_pos e, e, ← hv8, M1, hM, mset_eq]; exact ⟨rfl, hvb⟩
          · rw [if_neg e, hM, mset_in e, g3.1 3 (by decide)]; exact hv x (by omega))
        refine ⟨m', q1, ?_, by rw [nI_1]; exact q3⟩
        rw [if_neg (fun z => z e)]; exact q2
      have hb0 : badT k i v t = if k = 2 ∧ i = 1 ∧ t.v ≤ v 0 then 3 else 0 := by
        unfold badT; rw [if_neg (fun z => z h2), if_neg (fun z => z.elim hlo hhi)]
      by_cases hk2 : k = 2
      · have ek : nI k = 2 := by rw [hk2]; rfl
        by_cases hi1 : i = 1
        · have ei : nI i = 1 := by rw [hi1]; rfl
          have M30 : M 3 0 = nI (v 0) := by rw [hM, mset_in (by omega), g3.1 3 (by decide)]; exact (hv 0 (by omega)).1
          have v0 := (hv 0 (by omega)).2
          by_cases hle : t.v ≤ v 0
          · obtain ⟨m', q1, q2, q3, q4⟩ := er 3 (by decide) (by decide) (by rw [hb0, if_pos ⟨hk2, hi1, hle⟩])
            refine ⟨m', q1, q2, bX8_parseNumbers_29 ⟨fun z => absurd z n1, fun _ => ⟨fun z => absurd z n2, fun _ => ⟨fun z => absurd g0.1 z, fun _ => ⟨m3, ct3, i, rfl, by omega, ?_⟩⟩⟩⟩⟩
            rw [← hM]
            exact ⟨fun _ => ⟨bsT k + i, nI_add _ _, by omega, fun z => absurd z clo, fun _ => ⟨bsT k + i, nI_add _ _, by omega, fun _ => ⟨fun z => absurd ek z, fun _ => ⟨fun z => absurd ei z, fun _ => ⟨0, rfl, by omega, fun z => absurd z (by rw [M30, hv8]; exact nI_nlt hle (by omega)), fun _ => ⟨m', q3, q4⟩⟩⟩⟩, fun z => absurd chi z⟩⟩, fun z => absurd e7 z⟩
          · obtain ⟨m', q1, q2, q4⟩ := goes (fun _ _ => hle) (by rw [hb0, if_neg (fun z => hle z.2.2)])
            refine ⟨m', q1, q2, bX8_parseNumbers_29 ⟨fun z => absurd z n1, fun _ => ⟨fun z => absurd z n2, fun _ => ⟨fun z => absurd g0.1 z, fun _ => ⟨m3, ct3, i, rfl, by omega, ?_⟩⟩⟩⟩⟩
            rw [← hM]
            exact ⟨fun _ => ⟨bsT k + i, nI_add _ _, by omega, fun z => absurd z clo, fun _ => ⟨bsT k + i, nI_add _ _, by omega, fun _ => ⟨fun z => absurd ek z, fun _ => ⟨fun z => absurd ei z, fun _ => ⟨0, rfl, by omega, fun _ => q4, fun z => absurd (by rw [M30, hv8]; exact nI_lt (by omega) (by omega)) z⟩⟩⟩, fun z => absurd chi z⟩⟩, fun z => absurd e7 z⟩
        · obtain ⟨m', q1, q2, q4⟩ := goes (fun _ z => absurd ((nI_eq (b := 1) (by omega) (by omega)).mp z) hi1) (by rw [hb0, if_neg (fun z => hi1 z.2.1)])
          refine ⟨m', q1, q2, bX8_parseNumbers_29 ⟨fun z => absurd z n1, fun _ => ⟨fun z => absurd z n2, fun _ => ⟨fun z => absurd g0.1 z, fun _ => ⟨m3, ct3, i, rfl, by omega, ?_⟩⟩⟩⟩⟩
          rw [← hM]
          exact ⟨fun _ => ⟨bsT k + i, nI_add _ _, by omega, fun z => absurd z clo, fun _ => ⟨bsT k + i, nI_add _ _, by omega, fun _ => ⟨fun z => absurd ek z, fun _ => ⟨fun _ => q4, fun z => absurd ((nI_eq (b := 1) (by omega) (by omega)).mp z) hi1⟩⟩, fun z => absurd chi z⟩⟩, fun z => absurd e7 z⟩
      · have nk : ¬ nI k = 2 := fun z => hk2 ((nI_eq (b := 2) (by omega) (by omega)).mp z)
        obtain ⟨m', q1, q2, q4⟩ := goes (fun z => absurd z nk) (by rw [hb0, if_neg (fun z => hk2 z.1)])
        refine ⟨m', q1, q2, bX8_parseNumbers_29 ⟨fun z => absurd z n1, fun _ => ⟨fun z => absurd z n2, fun _ => ⟨fun z => absurd g0.1 z, fun _ => ⟨m3, ct3, i, rfl, by omega, ?_⟩⟩⟩⟩⟩
        rw [← hM]
        exact ⟨fun _ => ⟨bsT k + i, nI_add _ _, by omega, fun z => absurd z clo, fun _ => ⟨bsT k + i, nI_add _ _, by omega, fun _ => ⟨fun _ => q4, fun z => absurd z nk⟩, fun z => absurd chi z⟩⟩, fun z => absurd e7 z⟩
    · obtain ⟨m', q1, q2, q3, q4⟩ := er 1 (by decide) (by decide) (by unfold badT; rw [if_pos h2])
      refine ⟨m', q1, q2, bX8_parseNumbers_29 ⟨fun z => absurd z n1, fun _ => ⟨fun z => absurd z n2, fun _ => ⟨fun z => absurd g0.1 z, fun _ => ⟨m3, ct3, i, rfl, by omega, ?_⟩⟩⟩⟩⟩
      rw [← hM]
      exact ⟨fun z => absurd ((nI_eq (b := 2) (by omega) (by omega)).mp (by rw [← M7]; exact z)) h2, fun _ => ⟨m', q3, q4⟩⟩
end CParse
