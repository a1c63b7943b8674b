/-! ===== the reference's choice, bell by bell ===== -/
def updN (u : Nat → Nat) (p v : Nat) : Nat → Nat := fun r => if r = p then v else u r
theorem updN_at {u : Nat → Nat} {p v : Nat} : updN u p v p = v := if_pos rfl
theorem updN_ne {u : Nat → Nat} {p v r : Nat} (h : r ≠ p) : updN u p v r = u r := if_neg h
/-- the bells below k, from k on -/
def loM (all k : Nat) : Nat := mkM (fun b => all.testBit b && decide (b < k)) 8
def hiM (all k : Nat) : Nat := mkM (fun b => all.testBit b && decide (k ≤ b)) 8
theorem lo_bit {all k b : Nat} (hb : b < 8) : (loM all k).testBit b = (all.testBit b && decide (b < k)) := by
  unfold loM
  rw [mkM_bit, decide_eq_true hb, Bool.true_and]
theorem hi_bit {all k b : Nat} (hb : b < 8) : (hiM all k).testBit b = (all.testBit b && decide (k ≤ b)) := by
  unfold hiM
  rw [mkM_bit, decide_eq_true hb, Bool.true_and]
theorem lo_lt (all k : Nat) : loM all k < 256 := mkM_lt _ 8
theorem hi_lt (all k : Nat) : hiM all k < 256 := mkM_lt _ 8
theorem ext8 {s t : Nat} (hs : s < 256) (ht : t < 256) (h : ∀ b, b < 8 → s.testBit b = t.testBit b) : s = t := by
  apply Nat.eq_of_testBit_eq
  intro b
  by_cases hb : b < 8
  · exact h b hb
  · have e1 : s.testBit b = false := by
      cases hx : s.testBit b with
      | false => rfl
      | true => exact absurd (bit8 hs hx) hb
    have e2 : t.testBit b = false := by
      cases hx : t.testBit b with
      | false => rfl
      | true => exact absurd (bit8 ht hx) hb
    rw [e1, e2]
theorem hi_sb {all k : Nat} : Sb (hiM all k) all := fun b h => by
  have hb := bit8 (hi_lt all k) h
  rw [hi_bit hb, Bool.and_eq_true] at h
  exact h.1
section Grd
variable {len cap u a : Nat → Nat} {R all best k p op : Nat}
theorem ld_lohi (a : Nat → Nat) (k r : Nat) : ldA len all a r = ldA len (loM all k) a r + ldA len (hiM all k) a r := by
  unfold ldA wsum
  rw [← fb_sm_add]
  refine fb_sm_cong fun b hb => ?_
  rw [lo_bit hb, hi_bit hb]
  cases hx : all.testBit b with
  | false => rfl
  | true =>
    by_cases h : b < k
    · rw [decide_eq_true h, decide_eq_false (by omega)]; rfl
    · rw [decide_eq_false h, decide_eq_true (by omega)]; simp
theorem ld_hi (hk : k < 8) (hx : all.testBit k = true) (a : Nat → Nat) (r : Nat) : ldA len (hiM all k) a r = ldA len (hiM all (k + 1)) a r + if a k = r then len k else 0 := by
  have h := fb_sm_upd (fun b => if (hiM all (k + 1)).testBit b = true then (if a b = r then len b else 0) else 0) (if a k = r then len k else 0) hk
  have e0 : (hiM all (k + 1)).testBit k = false := by rw [hi_bit hk, decide_eq_false (by omega), Bool.and_false]
  have e1 : (if (hiM all (k + 1)).testBit k = true then (if a k = r then len k else 0) else 0) = 0 := if_neg (by rw [e0]; simp)
  rw [e1, Nat.add_zero] at h
  show fb_sm (fun b => if (hiM all k).testBit b = true then (if a b = r then len b else 0) else 0) 8 = fb_sm (fun b => if (hiM all (k + 1)).testBit b = true then (if a b = r then len b else 0) else 0) 8 + if a k = r then len k else 0
  rw [← h]
  refine fb_sm_cong fun b hb => ?_
  by_cases hbk : b = k
  · subst hbk
    have e2 : (hiM all b).testBit b = true := by rw [hi_bit hb, hx]; simp
    rw [if_pos rfl, if_pos e2]
  · rw [if_neg hbk, hi_bit hb, hi_bit hb]
    have e : decide (k ≤ b) = decide (k + 1 ≤ b) := by rw [decide_eq_decide]; omega
    rw [e]
theorem ld_lo (hk : k < 8) (hx : all.testBit k = true) (a : Nat → Nat) (r : Nat) : ldA len (loM all (k + 1)) a r = ldA len (loM all k) a r + if a k = r then len k else 0 := by
  have h1 := ld_lohi (len := len) (all := all) a k r
  have h2 := ld_lohi (len := len) (all := all) a (k + 1) r
  have h3 := ld_hi (len := len) hk hx a r
  omega
theorem fl_hi (hk : k < 8) (hx : all.testBit k = true) (a : Nat → Nat) {r : Nat} : flA (hiM all k) a r = 0 ↔ ¬ a k = r ∧ flA (hiM all (k + 1)) a r = 0 := by
  rw [fl_0, fl_0]
  constructor
  · intro h
    refine ⟨h k hk (by rw [hi_bit hk, hx]; simp), fun b hb hs => h b hb ?_⟩
    rw [hi_bit hb, Bool.and_eq_true, decide_eq_true_eq] at hs
    rw [hi_bit hb, hs.1, decide_eq_true (by omega)]; rfl
  · rintro ⟨h1, h2⟩ b hb hs
    rw [hi_bit hb, Bool.and_eq_true, decide_eq_true_eq] at hs
    by_cases e : b = k
    · rw [e]; exact h1
    · exact h2 b hb (by rw [hi_bit hb, hs.1, decide_eq_true (by omega)]; rfl)
theorem nw_step (hk : k < 8) (hx : all.testBit k = true) (hl : 0 < len k) (a : Nat → Nat) (hp : a k < R) : nwA u R 0 (hiM all k) a = nwA (updN u (a k) (u (a k) + len k)) R 0 (hiM all (k + 1)) a + if u (a k) = 0 then 1 else 0 := by
  unfold nwA
  have e := fb_ct_upd (fun r => decide (0 ≤ r ∧ updN u (a k) (u (a k) + len k) r = 0 ∧ ¬ flA (hiM all (k + 1)) a r = 0)) (decide (u (a k) = 0)) hp
  rw [if_neg (by rw [decide_eq_true_eq, updN_at]; omega), Nat.add_zero] at e
  have e2 : (if decide (u (a k) = 0) = true then 1 else 0) = if u (a k) = 0 then 1 else 0 := by by_cases z : u (a k) = 0 <;> simp [z]
  rw [e2] at e
  rw [← e]
  refine fb_ct_cong fun r hr => ?_
  by_cases hra : r = a k
  · subst hra
    rw [if_pos rfl, decide_eq_decide, fl_hi hk hx]
    exact ⟨fun z => z.2.1, fun z => ⟨Nat.zero_le _, z, fun w => w.1 rfl⟩⟩
  · rw [if_neg hra, decide_eq_decide, fl_hi hk hx, updN_ne hra]
    exact ⟨fun z => ⟨z.1, z.2.1, fun w => z.2.2 ⟨fun y => hra y.symm, w⟩⟩, fun z => ⟨z.1, z.2.1, fun w => z.2.2 w.2⟩⟩
theorem vm_step (hk : k < 8) (hx : all.testBit k = true) (a : Nat → Nat) (h : VaM len cap u R 0 (hiM all k) a) : a k < R ∧ u (a k) + len k ≤ cap (a k) ∧ VaM len cap (updN u (a k) (u (a k) + len k)) R 0 (hiM all (k + 1)) a := by
  obtain ⟨⟨-, h1⟩, h2⟩ := h k hk (by rw [hi_bit hk, hx]; simp)
  have h3 := ld_hi (len := len) hk hx a (a k)
  rw [if_pos rfl] at h3
  refine ⟨h1, by omega, fun b hb hs => ?_⟩
  have hs2 : (hiM all k).testBit b = true := by
    rw [hi_bit hb, Bool.and_eq_true, decide_eq_true_eq] at hs
    rw [hi_bit hb, hs.1, decide_eq_true (by omega)]; rfl
  obtain ⟨g1, g2⟩ := h b hb hs2
  refine ⟨g1, ?_⟩
  have g3 := ld_hi (len := len) hk hx a (a b)
  by_cases e : a b = a k
  · rw [e] at g2 g3 ⊢
    rw [if_pos rfl] at g3
    rw [updN_at]
    omega
  · rw [if_neg fun z => e z.symm] at g3
    rw [updN_ne e]
    omega
/-- one more piece p for the bell k would do -/
def Qp (len cap : Nat → Nat) (R left k op : Nat) (u : Nat → Nat) (p : Nat) : Prop := u p + len k ≤ cap p ∧ ∃ a, VaM len cap (updN u p (u p + len k)) R 0 left a ∧ nwA (updN u p (u p + len k)) R 0 left a + (if u p = 0 then 1 else 0) ≤ op
def Lex (all k : Nat) (a a' : Nat → Nat) : Prop := (∀ b, b < k → all.testBit b = true → a' b = a b) ∨ ∃ j, j < k ∧ all.testBit j = true ∧ (∀ b, b < j → all.testBit b = true → a' b = a b) ∧ a j < a' j
/-- the choice, ahead of the bell k -/
def GdR (len cap : Nat → Nat) (R all best k : Nat) (u a : Nat → Nat) (op : Nat) : Prop :=
  (∀ r, r < 8 → u r = ldA len (loM all k) a r) ∧ (∀ b, b < k → all.testBit b = true → a b < R) ∧ fb_ct (fun r => decide (¬ u r = 0)) R + op = best ∧
  (∃ a', VaM len cap u R 0 (hiM all k) a' ∧ nwA u R 0 (hiM all k) a' ≤ op) ∧
  (∀ a', VaM len cap (fun _ => 0) R 0 all a' → nwA (fun _ => 0) R 0 all a' ≤ best → Lex all k a a') ∧ ∀ r, r < R → u r ≤ cap r
theorem gd_start (hall : all < 256) (h : ∃ a', VaM len cap (fun _ => 0) R 0 all a' ∧ nwA (fun _ => 0) R 0 all a' ≤ best) : GdR len cap R all best 0 (fun _ => 0) a best := by
  have eh : hiM all 0 = all := ext8 (hi_lt _ _) hall fun b hb => by rw [hi_bit hb]; simp
  have el : loM all 0 = 0 := ext8 (lo_lt _ _) (by decide) fun b hb => by rw [lo_bit hb, Nat.zero_testBit]; simp
  refine ⟨fun r _ => ?_, fun b hb => absurd hb (Nat.not_lt_zero b), ?_, by rw [eh]; exact h, fun a' _ _ => Or.inl fun b hb => absurd hb (Nat.not_lt_zero b), fun r _ => Nat.zero_le _⟩
  · rw [el]; exact (ws_0 _).symm
  · rw [fb_ct_zero.mpr fun r _ => decide_eq_false fun z => z rfl, Nat.zero_add]
theorem gd_skip (hk : k < 8) (hx : all.testBit k = false) (h : GdR len cap R all best k u a op) : GdR len cap R all best (k + 1) u a op := by
  obtain ⟨h1, h2, h3, h4, h5, h6⟩ := h
  have eh : hiM all (k + 1) = hiM all k := ext8 (hi_lt _ _) (hi_lt _ _) fun b hb => by
    rw [hi_bit hb, hi_bit hb]
    by_cases e : b = k
    · subst e; rw [hx]; rfl
    · have e2 : decide (k ≤ b) = decide (k + 1 ≤ b) := by rw [decide_eq_decide]; omega
      rw [e2]
  have el : loM all (k + 1) = loM all k := ext8 (lo_lt _ _) (lo_lt _ _) fun b hb => by
    rw [lo_bit hb, lo_bit hb]
    by_cases e : b = k
    · subst e; rw [hx]; rfl
    · have e2 : decide (b < k) = decide (b < k + 1) := by rw [decide_eq_decide]; omega
      rw [e2]
  refine ⟨by rw [el]; exact h1, fun b hb hs => ?_, h3, by rw [eh]; exact h4, fun a' v n => ?_, h6⟩
  · by_cases e : b = k
    · subst e; rw [hx] at hs; cases hs
    · exact h2 b (by omega) hs
  · rcases h5 a' v n with z | ⟨j, j1, j2, j3, j4⟩
    · refine Or.inl fun b hb hs => ?_
      by_cases e : b = k
      · subst e; rw [hx] at hs; cases hs
      · exact z b (by omega) hs
    · exact Or.inr ⟨j, by omega, j2, j3, j4⟩
/-- some piece will do -/
theorem gd_ex (hk : k < 8) (hx : all.testBit k = true) (hl : 0 < len k) (h : GdR len cap R all best k u a op) : ∃ p, p < R ∧ Qp len cap R (hiM all (k + 1)) k op u p := by
  obtain ⟨a', v, n⟩ := h.2.2.2.1
  obtain ⟨v1, v2, v3⟩ := vm_step hk hx a' v
  have n1 := nw_step (u := u) hk hx hl a' v1
  exact ⟨a' k, v1, v2, a', v3, by omega⟩
theorem gd_step (hk : k < 8) (hx : all.testBit k = true) (hlen : ∀ b, b < 8 → all.testBit b = true → 0 < len b) (hR : R ≤ 8) (h : GdR len cap R all best k u a op) (hp : p < R) (hq : Qp len cap R (hiM all (k + 1)) k op u p) (hmin : ∀ q, q < p → ¬ Qp len cap R (hiM all (k + 1)) k op u q) :
    GdR len cap R all best (k + 1) (updN u p (u p + len k)) (updN a k p) (op - if u p = 0 then 1 else 0) := by
  have hl := hlen k hk hx
  obtain ⟨h1, h2, h3, h4, h5, h6⟩ := h
  obtain ⟨q1, a', q2, q3⟩ := hq
  have same : ∀ s r, (∀ b, b < 8 → s.testBit b = true → b < k) → ldA len s (updN a k p) r = ldA len s a r := fun s r hs => ws_congr fun b hb => by
    cases hxx : s.testBit b with
    | false => rfl
    | true =>
      have e : updN a k p b = a b := updN_ne (by have := hs b hb hxx; omega)
      simp only [e]
  have lok : ∀ b, b < 8 → (loM all k).testBit b = true → b < k := fun b hb hs => by
    rw [lo_bit hb, Bool.and_eq_true, decide_eq_true_eq] at hs; exact hs.2
  refine ⟨fun r hr => ?_, fun b hb hs => ?_, ?_, ⟨a', q2, by omega⟩, fun a2 v2 n2 => ?_, fun r hr => ?_⟩
  · rw [ld_lo hk hx, same _ _ lok, updN_at, ← h1 r hr]
    by_cases e : r = p
    · subst e; rw [updN_at, if_pos rfl]
    · rw [updN_ne e, if_neg fun z => e z.symm, Nat.add_zero]
  · by_cases e : b = k
    · subst e; rw [updN_at]; exact hp
    · rw [updN_ne e]; exact h2 b (by omega) hs
  · have e := fb_ct_upd (fun r => decide (¬ u r = 0)) true hp
    rw [if_pos rfl] at e
    have e2 : fb_ct (fun r => decide (¬ updN u p (u p + len k) r = 0)) R = fb_ct (fun k => if k = p then true else decide (¬ u k = 0)) R := fb_ct_cong fun r _ => by
      by_cases z : r = p
      · subst z; rw [if_pos rfl, updN_at]; exact decide_eq_true (by omega)
      · rw [if_neg z, updN_ne z]
    rw [e2]
    by_cases z : u p = 0
    · rw [if_neg (by rw [decide_eq_true_eq]; exact fun w => w z)] at e
      rw [if_pos z] at q3 ⊢
      omega
    · rw [if_pos (decide_eq_true z)] at e
      rw [if_neg z]
      omega
  · rcases h5 a2 v2 n2 with z | ⟨j, j1, j2, j3, j4⟩
    · rcases Nat.lt_trichotomy (a2 k) p with w | w | w
      · exfalso
        refine hmin (a2 k) w ?_
        have agree : ∀ r, ldA len (loM all k) a2 r = ldA len (loM all k) a r := fun r => ws_congr fun b hb => by
          cases hxx : (loM all k).testBit b with
          | false => rfl
          | true =>
            rw [lo_bit hb, Bool.and_eq_true, decide_eq_true_eq] at hxx
            rw [z b hxx.2 hxx.1]
        have vh : VaM len cap u R 0 (hiM all k) a2 := fun b hb hs => by
          obtain ⟨g1, g2⟩ := v2 b hb (hi_sb b hs)
          have g3 := ld_lohi (len := len) (all := all) a2 k (a2 b)
          rw [agree, ← h1 (a2 b) (by omega)] at g3
          exact ⟨g1, by omega⟩
        have nz : ∀ r, r < R → (¬ u r = 0 ↔ ¬ flA (loM all k) a2 r = 0) := fun r hr => by
          rw [h1 r (by omega), ← agree]
          constructor
          · intro y w2
            refine y ?_
            unfold ldA
            rw [ws_congr (f' := fun _ => 0) (s' := loM all k) (fun b hb => ?_)]
            · have := ws_mul (loM all k) 0 (fun _ => 0)
              simpa using this
            · cases hxx : (loM all k).testBit b with
              | false => rfl
              | true => rw [if_pos rfl, if_pos rfl, if_neg (fl_0.mp w2 b hb hxx)]
          · intro y w2
            refine y (fl_0.mpr fun b hb hs e => ?_)
            have g := ws_part hb hs (fun b => if a2 b = r then len b else 0)
            unfold ldA at w2
            rw [if_pos e] at g
            rw [lo_bit hb, Bool.and_eq_true] at hs
            have := hlen b hb hs.1
            omega
        have nsum : fb_ct (fun r => decide (¬ u r = 0)) R + nwA u R 0 (hiM all k) a2 = nwA (fun _ => 0) R 0 all a2 := by
          unfold nwA
          rw [← fb_ct_or (fun r _ => by
            simp only [decide_eq_true_eq]
            exact fun y => y.1 y.2.2.1)]
          refine fb_ct_cong fun r hr => ?_
          rw [Bool.eq_iff_iff, Bool.or_eq_true, decide_eq_true_eq, decide_eq_true_eq, decide_eq_true_eq, nz r hr]
          have hf : flA all a2 r = 0 ↔ flA (loM all k) a2 r = 0 ∧ flA (hiM all k) a2 r = 0 := by
            rw [fl_0, fl_0, fl_0]
            constructor
            · intro y
              refine ⟨fun b hb hs => y b hb ?_, fun b hb hs => y b hb (hi_sb b hs)⟩
              rw [lo_bit hb, Bool.and_eq_true] at hs; exact hs.1
            · rintro ⟨y1, y2⟩ b hb hs
              by_cases e : b < k
              · exact y1 b hb (by rw [lo_bit hb, hs, decide_eq_true e]; rfl)
              · exact y2 b hb (by rw [hi_bit hb, hs, decide_eq_true (by omega)]; rfl)
          rw [hf]
          constructor
          · rintro (y | ⟨y1, y2, y3⟩)
            · exact ⟨Nat.zero_le _, rfl, fun t => y t.1⟩
            · exact ⟨Nat.zero_le _, rfl, fun t => y3 t.2⟩
          · rintro ⟨-, -, y⟩
            by_cases t : flA (loM all k) a2 r = 0
            · refine Or.inr ⟨Nat.zero_le _, Decidable.not_not.mp fun t2 => (nz r hr).mp t2 t, fun t2 => y ⟨t, t2⟩⟩
            · exact Or.inl t
        obtain ⟨w1, w2, w3⟩ := vm_step hk hx a2 vh
        have n3 := nw_step (u := u) hk hx hl a2 w1
        exact ⟨w2, a2, w3, by omega⟩
      · refine Or.inl fun b hb hs => ?_
        by_cases e : b = k
        · subst e; rw [updN_at]; exact w
        · rw [updN_ne e]; exact z b (by omega) hs
      · exact Or.inr ⟨k, by omega, hx, fun b hb hs => by rw [updN_ne (by omega)]; exact z b hb hs, by rw [updN_at]; exact w⟩
    · exact Or.inr ⟨j, by omega, j2, fun b hb hs => by rw [updN_ne (by omega)]; exact j3 b hb hs, by rw [updN_ne (by omega)]; exact j4⟩
  · by_cases e : r = p
    · subst e; rw [updN_at]; exact q1
    · rw [updN_ne e]; exact h6 r hr
/-- digits: the first difference decides -/
theorem co_lex {a a' : Nat → Nat} {j : Nat} (hj8 : j < 8) (h8 : ∀ b, b < 8 → all.testBit b = true → a b < 8 ∧ a' b < 8) (hj : all.testBit j = true) (hag : ∀ b, b < j → all.testBit b = true → a' b = a b) (hlt : a j < a' j) : coA all a < coA all a' := by
  have key : ∀ d d' : Nat → Nat, (∀ b, b < 8 → d b < 8 ∧ d' b < 8) → (∀ b, b < j → d' b = d b) → d j < d' j → fb_sm (fun b => d b * 8 ^ (7 - b)) 8 < fb_sm (fun b => d' b * 8 ^ (7 - b)) 8 := by
    intro d d' hd he hl
    have k0 := hd 0 (by omega)
    have k1 := hd 1 (by omega)
    have k2 := hd 2 (by omega)
    have k3 := hd 3 (by omega)
    have k4 := hd 4 (by omega)
    have k5 := hd 5 (by omega)
    have k6 := hd 6 (by omega)
    have k7 := hd 7 (by omega)
    simp only [fb_sm]
    rcases (by omega : j = 0 ∨ j = 1 ∨ j = 2 ∨ j = 3 ∨ j = 4 ∨ j = 5 ∨ j = 6 ∨ j = 7) with r | r | r | r | r | r | r | r
    · subst r
      omega
    · subst r
      have := he 0 (by omega)
      omega
    · subst r
      have := he 0 (by omega)
      have := he 1 (by omega)
      omega
    · subst r
      have := he 0 (by omega)
      have := he 1 (by omega)
      have := he 2 (by omega)
      omega
    · subst r
      have := he 0 (by omega)
      have := he 1 (by omega)
      have := he 2 (by omega)
      have := he 3 (by omega)
      omega
    · subst r
      have := he 0 (by omega)
      have := he 1 (by omega)
      have := he 2 (by omega)
      have := he 3 (by omega)
      have := he 4 (by omega)
      omega
    · subst r
      have := he 0 (by omega)
      have := he 1 (by omega)
      have := he 2 (by omega)
      have := he 3 (by omega)
      have := he 4 (by omega)
      have := he 5 (by omega)
      omega
    · subst r
      have := he 0 (by omega)
      have := he 1 (by omega)
      have := he 2 (by omega)
      have := he 3 (by omega)
      have := he 4 (by omega)
      have := he 5 (by omega)
      have := he 6 (by omega)
      omega
  have eq : ∀ x : Nat → Nat, coA all x = fb_sm (fun b => (if all.testBit b = true then x b else 0) * 8 ^ (7 - b)) 8 := fun x => fb_sm_cong fun b _ => by
    by_cases hs : all.testBit b = true
    · rw [if_pos hs, if_pos hs]
    · rw [if_neg hs, if_neg hs, Nat.zero_mul]
  rw [eq a, eq a']
  refine key _ _ (fun b hb => ?_) (fun b hb => ?_) ?_
  · by_cases hs : all.testBit b = true
    · rw [if_pos hs, if_pos hs]; exact h8 b hb hs
    · rw [if_neg hs, if_neg hs]; omega
  · by_cases hs : all.testBit b = true
    · rw [if_pos hs, if_pos hs]; exact hag b hb hs
    · rw [if_neg hs, if_neg hs]
  · rw [if_pos hj, if_pos hj]; exact hlt
theorem vm0 {s : Nat} : VaM len cap (fun _ => 0) R 0 s a ↔ VaC len cap R s a := by
  refine ⟨fun h b hb hs => ⟨(h b hb hs).1.2, by have := (h b hb hs).2; omega⟩, fun h b hb hs => ⟨⟨Nat.zero_le _, (h b hb hs).1⟩, by show 0 + ldA len s a (a b) ≤ cap (a b); have := (h b hb hs).2; omega⟩⟩
theorem nw0 {s : Nat} : nwA (fun _ => 0) R 0 s a = usA R s a := fb_ct_cong fun r _ => by
  rw [decide_eq_decide]
  exact ⟨fun z => z.2.2, fun z => ⟨Nat.zero_le _, rfl, z⟩⟩
/-- the choice is the class's least cost -/
theorem gd_cost {nb : Nat} {w : Nat → Nat} (h8 : nb ≤ 8) (hall : all < 2 ^ nb) (hR : R ≤ 8) (hlen : ∀ b, b < 8 → all.testBit b = true → 0 < len b) (h : GdR len cap R all best nb u a op) (hbest : ∀ a', VaC len cap R all a' → best ≤ usA R all a') (hw : LcA len cap R w all) : VaC len cap R all a ∧ usA R all a = best ∧ w all = cost R all a ∧ ∀ r, r < 8 → u r = ldA len all a r := by
  have hp8 : 2 ^ nb ≤ 2 ^ 8 := Nat.pow_le_pow_right (by omega) h8
  obtain ⟨h1, h2, h3, h4, h5, h6⟩ := h
  have bn : ∀ b, all.testBit b = true → b < nb := fun b hs => by
    refine Nat.not_le.mp fun z => ?_
    rw [Nat.testBit_lt_two_pow (Nat.lt_of_lt_of_le hall (Nat.pow_le_pow_right (by omega) z))] at hs
    cases hs
  have el : loM all nb = all := ext8 (lo_lt _ _) (by omega) fun b hb => by
    rw [lo_bit hb]
    cases hx : all.testBit b with
    | false => rfl
    | true => rw [decide_eq_true (bn b hx)]; rfl
  rw [el] at h1
  have va : VaC len cap R all a := fun b hb hs => by
    have hab := h2 b (bn b hs) hs
    exact ⟨hab, by rw [← h1 (a b) (by omega)]; exact h6 _ hab⟩
  have us : usA R all a = fb_ct (fun r => decide (¬ u r = 0)) R := fb_ct_cong fun r hr => by
    rw [decide_eq_decide, h1 r (by omega)]
    constructor
    · intro y w2
      refine y (fl_0.mpr fun b hb hs e => ?_)
      have g := ws_part hb hs (fun b => if a b = r then len b else 0)
      unfold ldA at w2
      rw [if_pos e] at g
      have := hlen b hb hs
      omega
    · intro y w2
      refine y ?_
      unfold ldA
      rw [ws_congr (f' := fun _ => 0) (s' := all) (fun b hb => ?_)]
      · have := ws_mul all 0 (fun _ => 0)
        simpa using this
      · cases hxx : all.testBit b with
        | false => rfl
        | true => rw [if_pos rfl, if_pos rfl, if_neg (fl_0.mp w2 b hb hxx)]
  have ub := hbest a va
  have ueq : usA R all a = best := by omega
  refine ⟨va, ueq, ?_, h1⟩
  have c1 := cost_le hR va
  have up := (hw (cost R all a) (by omega)).mpr ⟨a, va, Nat.le_refl _⟩
  refine Nat.le_antisymm up ?_
  obtain ⟨a2, v2, k2⟩ := (hw (w all) (by omega)).mp (Nat.le_refl _)
  have b2 := hbest a2 v2
  have d1 := co_le (s := all) (a := a) hR (fun b hb hs => (va b hb hs).1)
  have d2 := co_le (s := all) (a := a2) hR (fun b hb hs => (v2 b hb hs).1)
  unfold cost at up k2 ⊢
  have u2 : usA R all a2 ≤ best := by omega
  rcases h5 a2 (vm0.mpr v2) (by rw [nw0]; exact u2) with z | ⟨j, j1, j2, j3, j4⟩
  · have e : coA all a2 = coA all a := ws_congr fun b hb => by
      by_cases hs : all.testBit b = true
      · rw [if_pos hs, if_pos hs, z b (bn b hs) hs]
      · rw [if_neg hs, if_neg hs]
    omega
  · have := co_lex (by omega) (fun b hb hs => ⟨by have := (va b hb hs).1; omega, by have := (v2 b hb hs).1; omega⟩) j2 j3 j4
    omega
end Grd
