/-! ===== the class: statements, the whole text ===== -/
theorem CDr.add {mm mm' : Nat → Nat → Int32} {D : Dr} (h : CDr mm D) {k : Nat} {v : Nat → Nat} (hf : D.1 k < moT k) (h1 : mm' 13 (8 + k) = nI (D.1 k + 1)) (h2 : ∀ j, j ≠ 8 + k → mm' 13 j = mm 13 j) (h3 : ∀ r, r < 8 → kd r = k → mm' (14 + r) = upd (mm (14 + r)) (D.1 k) (nI (v (r - bsT k)))) (h4 : ∀ r, r < 8 → kd r ≠ k → mm' (14 + r) = mm (14 + r)) : CDr mm' (addD D k v) := by
  refine ⟨fun x hx => ?_, fun r hr j hj => ?_⟩
  · show mm' 13 (8 + x) = nI (updT D.1 k (D.1 k + 1) x) ∧ updT D.1 k (D.1 k + 1) x ≤ moT x
    unfold updT
    by_cases e : x = k
    · rw [if_pos e, e]; exact ⟨h1, hf⟩
    · rw [if_neg e, h2 _ (by omega)]; exact h.1 x hx
  · have hj' : j < updT D.1 k (D.1 k + 1) (kd r) := hj
    show mm' (14 + r) j = nI (if kd r = k ∧ j = D.1 k then v (r - bsT k) else D.2 r j)
    unfold updT at hj'
    by_cases e : kd r = k
    · rw [if_pos e] at hj'
      rw [h3 r hr e]
      by_cases ej : j = D.1 k
      · rw [if_pos ⟨e, ej⟩, ej]; exact if_pos rfl
      · rw [if_neg (fun z => ej z.2)]
        show (if j = D.1 k then _ else mm (14 + r) j) = _
        rw [if_neg ej]; exact h.2 r hr j (by rw [e]; omega)
    · rw [if_neg e] at hj'
      rw [if_neg (fun z => e z.1), h4 r hr e]; exact h.2 r hr j hj'
section CLoad
variable {G : Gx} {mm : Nat → Nat → Int32} {lm : Nat → Int64} {n : Nat} {b : Nat → Nat} {D : Dr}
theorem c_isFull (h : CDr mm D) {k : Nat} (hk : k < 4) : Ct G M_X7_isFull [.ref 13, .int (nI k)] (SH, mm, lm) false (.inl (some (.int (bI (moT k ≤ D.1 k))))) (SH, mm, lm) false 0 0 := by
  obtain ⟨h1, h2⟩ := h.1 k hk
  have hm := (bs_cn k hk).2.2.2
  have lt : ∀ c : Int32, c = nI (moT k) → (mm 13 (8 + k) < c ↔ ¬ moT k ≤ D.1 k) := fun c hc => by rw [hc, h1, nI_ltI (by omega) (by omega)]; omega
  have w : ∀ c : Int32, c = nI (moT k) → ∀ {z : Wd}, z = (SH, mm, lm) → ((mm 13 (8 + k) < c) → (.inl (some (.int (bI (moT k ≤ D.1 k)))) : Ou) = .inl (some (.int 0)) ∧ z = (SH, mm, lm)) ∧ ((¬ mm 13 (8 + k) < c) → (.inl (some (.int (bI (moT k ≤ D.1 k)))) : Ou) = .inl (some (.int 1)) ∧ z = (SH, mm, lm)) := fun c hc z hz =>
    ⟨fun y => ⟨by rw [bI_f ((lt c hc).mp y)], hz⟩, fun y => ⟨by rw [bI_t (Classical.byContradiction fun u => y ((lt c hc).mpr u))], hz⟩⟩
  refine CJ (bX7_isFull_0 ?_)
  match k, hk, w with
  | 0, _, w => exact ⟨fun _ => w 4 rfl rfl, fun z => absurd z (by decide), fun z => absurd z (by decide), fun z _ _ => absurd rfl z⟩
  | 1, _, w => exact ⟨fun z => absurd z (by decide), fun _ => w 8 rfl rfl, fun z => absurd z (by decide), fun _ z _ => absurd rfl z⟩
  | 2, _, w => exact ⟨fun z => absurd z (by decide), fun z => absurd z (by decide), fun _ => w 6 rfl rfl, fun _ _ z => absurd rfl z⟩
  | 3, _, w => exact ⟨fun z => absurd z (by decide), fun z => absurd z (by decide), fun z => absurd z (by decide), fun _ _ _ => w 8 rfl rfl⟩
def FrA (m m' : Nat → Nat → Int32) : Prop := ∀ c, c < 13 ∨ 21 < c → m' c = m c
theorem c_add (h : CDr mm D) {k : Nat} (hk : k < 4) (hf : D.1 k < moT k) {v : Nat → Nat} (hv : ∀ x, x < cnT k → mm 3 x = nI (v x)) : ∃ m', FrA mm m' ∧ CDr m' (addD D k v) ∧ Ct G M_X7_add [.ref 13, .int (nI k), .ref 3] (SH, mm, lm) false (.inl none) (SH, m', lm) false 0 0 := by
  obtain ⟨h1, h2⟩ := h.1 k hk
  have ct := c_isFull (G := G) (lm := lm) h hk
  rw [bI_f (by omega)] at ct
  match k, hk, hf, hv, h1, h2, ct with
  | 0, _, hf, hv, h1, h2, ct =>
    have h1 : mm 13 8 = nI (D.1 0) := h1
    have hf' : D.1 0 < 4 := hf
    have a0 : mm 3 0 = nI (v 0) := hv 0 (by decide)
    have a1 : mm 3 1 = nI (v 1) := hv 1 (by decide)
    refine ⟨mset (mset (mset mm 14 (D.1 0) (nI (v 0))) 15 (D.1 0) (nI (v 1))) 13 8 (nI (D.1 0 + 1)), fun c hc => by rw [mset_ne (by omega), mset_ne (by omega), mset_ne (by omega)], h.add hf mset_eq (fun j hj => by rw [mset_in hj, mset_ne (by decide), mset_ne (by decide)]) (fun r hr e => ?_) (fun r hr e => ?_), CJ (bX7_add_0 ⟨_, ct, fun z => absurd rfl z, fun _ => ⟨fun _ => ⟨0, rfl, by decide, D.1 0, h1, hf', 1, rfl, by decide, D.1 0, by rw [mset_ne (by decide)]; exact h1, hf', rfl, ?_⟩, fun z => absurd z (by decide), fun z => absurd z (by decide), fun z _ _ => absurd rfl z⟩⟩)⟩
    · have q := kd_inv r hr 0 (by decide) e
      have q2 : r = 0 ∨ r = 1 := by simp only [bsT, cnT] at q; omega
      rcases q2 with rfl | rfl
      · rw [mset_ne (by decide), mset_ne (by decide), mset_at]; rfl
      · rw [mset_ne (by decide), mset_at, mset_ne (by decide)]; rfl
    · have q0 : r ≠ 0 := fun z => e (by rw [z]; rfl)
      have q1 : r ≠ 1 := fun z => e (by rw [z]; rfl)
      rw [mset_ne (by omega), mset_ne (by omega), mset_ne (by omega)]
    · rw [a0, mset_ne (a := 3) (by decide), a1, mset_ne (a := 13) (by decide), mset_ne (a := 13) (by decide), h1, nI_1]
  | 1, _, hf, hv, h1, h2, ct =>
    have h1 : mm 13 9 = nI (D.1 1) := h1
    have hf' : D.1 1 < 8 := hf
    have a0 : mm 3 0 = nI (v 0) := hv 0 (by decide)
    have a1 : mm 3 1 = nI (v 1) := hv 1 (by decide)
    have a2 : mm 3 2 = nI (v 2) := hv 2 (by decide)
    refine ⟨mset (mset (mset (mset mm 16 (D.1 1) (nI (v 0))) 17 (D.1 1) (nI (v 1))) 18 (D.1 1) (nI (v 2))) 13 9 (nI (D.1 1 + 1)), fun c hc => by rw [mset_ne (by omega), mset_ne (by omega), mset_ne (by omega), mset_ne (by omega)], h.add hf mset_eq (fun j hj => by rw [mset_in hj, mset_ne (by decide), mset_ne (by decide), mset_ne (by decide)]) (fun r hr e => ?_) (fun r hr e => ?_), CJ (bX7_add_0 ⟨_, ct, fun z => absurd rfl z, fun _ => ⟨fun z => absurd z (by decide), fun _ => ⟨0, rfl, by decide, D.1 1, h1, hf', 1, rfl, by decide, D.1 1, by rw [mset_ne (by decide)]; exact h1, hf', 2, rfl, by decide, D.1 1, by rw [mset_ne (by decide), mset_ne (by decide)]; exact h1, hf', rfl, ?_⟩, fun z => absurd z (by decide), fun _ z _ => absurd rfl z⟩⟩)⟩
    · have q := kd_inv r hr 1 (by decide) e
      have q2 : r = 2 ∨ r = 3 ∨ r = 4 := by simp only [bsT, cnT] at q; omega
      rcases q2 with rfl | rfl | rfl
      · rw [mset_ne (by decide), mset_ne (by decide), mset_ne (by decide), mset_at]; rfl
      · rw [mset_ne (by decide), mset_ne (by decide), mset_at, mset_ne (by decide)]; rfl
      · rw [mset_ne (by decide), mset_at, mset_ne (by decide), mset_ne (by decide)]; rfl
    · have q0 : r ≠ 2 := fun z => e (by rw [z]; rfl)
      have q1 : r ≠ 3 := fun z => e (by rw [z]; rfl)
      have q2 : r ≠ 4 := fun z => e (by rw [z]; rfl)
      rw [mset_ne (by omega), mset_ne (by omega), mset_ne (by omega), mset_ne (by omega)]
    · rw [a0, mset_ne (a := 3) (by decide), a1, mset_ne (a := 3) (by decide), mset_ne (a := 3) (by decide), a2, mset_ne (a := 13) (by decide), mset_ne (a := 13) (by decide), mset_ne (a := 13) (by decide), h1, nI_1]
  | 2, _, hf, hv, h1, h2, ct =>
    have h1 : mm 13 10 = nI (D.1 2) := h1
    have hf' : D.1 2 < 6 := hf
    have a0 : mm 3 0 = nI (v 0) := hv 0 (by decide)
    have a1 : mm 3 1 = nI (v 1) := hv 1 (by decide)
    refine ⟨mset (mset (mset mm 19 (D.1 2) (nI (v 0))) 20 (D.1 2) (nI (v 1))) 13 10 (nI (D.1 2 + 1)), fun c hc => by rw [mset_ne (by omega), mset_ne (by omega), mset_ne (by omega)], h.add hf mset_eq (fun j hj => by rw [mset_in hj, mset_ne (by decide), mset_ne (by decide)]) (fun r hr e => ?_) (fun r hr e => ?_), CJ (bX7_add_0 ⟨_, ct, fun z => absurd rfl z, fun _ => ⟨fun z => absurd z (by decide), fun z => absurd z (by decide), fun _ => ⟨0, rfl, by decide, D.1 2, h1, hf', 1, rfl, by decide, D.1 2, by rw [mset_ne (by decide)]; exact h1, hf', rfl, ?_⟩, fun _ _ z => absurd rfl z⟩⟩)⟩
    · have q := kd_inv r hr 2 (by decide) e
      have q2 : r = 5 ∨ r = 6 := by simp only [bsT, cnT] at q; omega
      rcases q2 with rfl | rfl
      · rw [mset_ne (by decide), mset_ne (by decide), mset_at]; rfl
      · rw [mset_ne (by decide), mset_at, mset_ne (by decide)]; rfl
    · have q0 : r ≠ 5 := fun z => e (by rw [z]; rfl)
      have q1 : r ≠ 6 := fun z => e (by rw [z]; rfl)
      rw [mset_ne (by omega), mset_ne (by omega), mset_ne (by omega)]
    · rw [a0, mset_ne (a := 3) (by decide), a1, mset_ne (a := 13) (by decide), mset_ne (a := 13) (by decide), h1, nI_1]
  | 3, _, hf, hv, h1, h2, ct =>
    have h1 : mm 13 11 = nI (D.1 3) := h1
    have hf' : D.1 3 < 8 := hf
    have a0 : mm 3 0 = nI (v 0) := hv 0 (by decide)
    refine ⟨mset (mset mm 21 (D.1 3) (nI (v 0))) 13 11 (nI (D.1 3 + 1)), fun c hc => by rw [mset_ne (by omega), mset_ne (by omega)], h.add hf mset_eq (fun j hj => by rw [mset_in hj, mset_ne (by decide)]) (fun r hr e => ?_) (fun r hr e => ?_), CJ (bX7_add_0 ⟨_, ct, fun z => absurd rfl z, fun _ => ⟨fun z => absurd z (by decide), fun z => absurd z (by decide), fun z => absurd z (by decide), fun _ _ _ => ⟨0, rfl, by decide, D.1 3, h1, hf', rfl, ?_⟩⟩⟩)⟩
    · have q := kd_inv r hr 3 (by decide) e
      have q2 : r = 7 := by simp only [bsT, cnT] at q; omega
      rw [q2, mset_ne (by decide), mset_at]; rfl
    · have q0 : r ≠ 7 := fun z => e (by rw [z]; rfl)
      rw [mset_ne (by omega), mset_ne (by omega)]
    · rw [a0, mset_ne (a := 13) (by decide), h1, nI_1]
theorem c_mayStand (h : CDr mm D) {k : Nat} (hk : k < 4) : Ct G M_X8_mayStand [.ref 13, .int (nI k)] (SH, mm, lm) false (.inl (some (.int (bI (¬ ((1 ≤ k ∧ D.1 0 = 0) ∨ (2 ≤ k ∧ D.1 1 = 0))))))) (SH, mm, lm) false 0 0 := by
  obtain ⟨h1, h2⟩ := h.1 0 (by decide)
  obtain ⟨h3, h4⟩ := h.1 1 (by decide)
  have h1 : mm 13 8 = nI (D.1 0) := h1
  have h3 : mm 13 9 = nI (D.1 1) := h3
  have h2 : D.1 0 ≤ 4 := h2
  have h4 : D.1 1 ≤ 8 := h4
  have z0 : mm 13 8 ≤ 0 ↔ D.1 0 = 0 := by rw [h1, show (0 : Int32) = nI 0 from rfl, nI_leI (by omega) (by omega)]; omega
  have z1 : mm 13 9 ≤ 0 ↔ D.1 1 = 0 := by rw [h3, show (0 : Int32) = nI 0 from rfl, nI_leI (by omega) (by omega)]; omega
  have k0 : nI k = 0 ↔ k = 0 := nI_eq (b := 0) (by omega) (by omega)
  have k1 : nI k = 1 ↔ k = 1 := nI_eq (b := 1) (by omega) (by omega)
  refine CJ (bX8_mayStand_0 ⟨fun a => ⟨fun c => ⟨?_, rfl⟩, fun c => ⟨fun d => ⟨?_, rfl⟩, fun d => ⟨fun e => ⟨?_, rfl⟩, fun e => ⟨?_, rfl⟩⟩⟩⟩, fun a => ⟨?_, rfl⟩⟩)
  · rw [bI_f]; rw [k0] at a; rw [z0] at c; omega
  · rw [bI_t]; rw [z0] at c; rw [k1] at d; omega
  · rw [bI_f]; rw [k0] at a; rw [k1] at d; rw [z1] at e; omega
  · rw [bI_t]; rw [z0] at c; rw [z1] at e; omega
  · rw [bI_t]; rw [k0] at a; omega
theorem FrA.toP {m m' : Nat → Nat → Int32} (h : FrA m m') : FrP m m' := ⟨fun c _ _ a3 => h c a3, by rw [h 1 (by decide)]⟩
theorem go_s {f L : Nat} {t : Tk} : goT b n (f + 1) L t D = if t.k = 0 then (if D.1 1 = 0 then (1, t.s, D) else (0, 0, D))
    else if wrT b L t D = true then (1, t.s, D)
    else if moT (stT b t) ≤ D.1 (stT b t) then (4, t.s, D)
    else if ¬ (nums b n (stT b t) (cnT (stT b t)) 0 t.e (fun _ => 0)).1 = 0 then ((nums b n (stT b t) (cnT (stT b t)) 0 t.e (fun _ => 0)).1, (nums b n (stT b t) (cnT (stT b t)) 0 t.e (fun _ => 0)).2.1, D)
    else if ¬ (tk b n (nums b n (stT b t) (cnT (stT b t)) 0 t.e (fun _ => 0)).2.1).k = 3 then (1, (tk b n (nums b n (stT b t) (cnT (stT b t)) 0 t.e (fun _ => 0)).2.1).s, D)
    else goT b n f (stT b t) (tk b n (tk b n (nums b n (stT b t) (cnT (stT b t)) 0 t.e (fun _ => 0)).2.1).e) (addD D (stT b t) (nums b n (stT b t) (cnT (stT b t)) 0 t.e (fun _ => 0)).2.2) := rfl
theorem c_step (hc : CB mm n b) (h0 : C0 mm) (hd : CDr mm D) {L p : Nat} (hL : L < 4) (hp : p ≤ n) (hk : CTk mm (tk b n p)) (hne : ¬ (tk b n p).k = 0) : ∃ m' L', FrP mm m' ∧ L' < 4 ∧ ((∃ c s, CE m' c s ∧ ∀ f, goT b n (f + 1) L (tk b n p) D = (c, s, D)) ∨ (C0 m' ∧ ∃ p' D', (tk b n p).e < p' ∧ p' ≤ n ∧ CTk m' (tk b n p') ∧ CDr m' D' ∧ ∀ f, goT b n (f + 1) L (tk b n p) D = goT b n f L' (tk b n p') D')) ∧
    Ct G M_X8_parseStatement [.ref 1, .ref 13, .int (nI L)] (SH, mm, lm) false (.inl (some (.int (nI L')))) (SH, m', lm) false 0 0 := by
  have hn := hc.2.1
  have ht := tk_in (b := b) hp
  have htk := tk_k (b := b) (n := n) (p := p)
  generalize tk b n p = t at hk hne ht htk ⊢
  have cs := c_statement (G := G) (lm := lm) hc ht.2.2.1 ht.2.1 htk hk
  by_cases h4 : stT b t = 4 ∨ stT b t < L
  · obtain ⟨m', f1, f2, f3⟩ := c_fail (G := G) (lm := lm) (c := 1) hk.1 (by decide) (by decide)
    refine ⟨m', L, f1.p, hL, Or.inl ⟨1, t.s, f2, fun f => ?_⟩, CJ (bX8_parseStatement_0 ⟨_, cs, fun _ => ⟨m', f3, rfl, rfl⟩, fun z => absurd ?_ z⟩)⟩
    · rw [go_s, if_neg hne, if_pos (show wrT b L t D = true from decide_eq_true (h4.elim Or.inl (fun z => Or.inr (Or.inl z))))]
    · by_cases e : stT b t = 4
      · rw [stI, if_pos e]
        exact fa_trans (b := 0) (by decide) (nI_le (a := 0) (b := L) (by omega) (by omega))
      · rw [stI, if_neg e]; exact nI_lt (by omega) (by omega)
  have hk4 : stT b t < 4 := by have := stT_le (b := b) (t := t); omega
  rw [stI, if_neg (fun z => h4 (Or.inl z))] at cs
  have hnl : ¬ nI (stT b t) < nI L := nI_nlt (by omega) (by omega)
  have cms := c_mayStand (G := G) (lm := lm) hd hk4
  by_cases hms : (1 ≤ stT b t ∧ D.1 0 = 0) ∨ (2 ≤ stT b t ∧ D.1 1 = 0)
  · obtain ⟨m', f1, f2, f3⟩ := c_fail (G := G) (lm := lm) (c := 1) hk.1 (by decide) (by decide)
    refine ⟨m', L, f1.p, hL, Or.inl ⟨1, t.s, f2, fun f => ?_⟩, CJ (bX8_parseStatement_0 ⟨_, cs, fun z => absurd z hnl, fun _ => ⟨_, cms, fun z => absurd hms (bI_1.mp z), fun _ => ⟨m', f3, rfl, rfl⟩⟩⟩)⟩
    rw [go_s, if_neg hne, if_pos (show wrT b L t D = true from decide_eq_true (Or.inr (Or.inr hms)))]
  have hw : ¬ wrT b L t D = true := fun z => by
    rcases of_decide_eq_true z with y | y | y
    · exact h4 (Or.inl y)
    · exact h4 (Or.inr y)
    · exact hms y
  have cf := c_isFull (G := G) (lm := lm) hd hk4
  by_cases hfull : moT (stT b t) ≤ D.1 (stT b t)
  · obtain ⟨m', f1, f2, f3⟩ := c_fail (G := G) (lm := lm) (c := 4) hk.1 (by decide) (by decide)
    refine ⟨m', L, f1.p, hL, Or.inl ⟨4, t.s, f2, fun f => ?_⟩, CJ (bX8_parseStatement_0 ⟨_, cs, fun z => absurd z hnl, fun _ => ⟨_, cms, fun _ => ⟨_, cf, fun z => absurd hfull (bI_0.mp z), fun _ => ⟨m', f3, rfl, rfl⟩⟩, fun z => absurd hms (bI_0.mp z)⟩⟩)⟩
    rw [go_s, if_neg hne, if_neg hw, if_pos hfull]
  have hk1 : t.k = 1 := Classical.byContradiction fun z => by rw [stT_not z] at hk4; omega
  obtain ⟨m15, g15, nout, ct15⟩ := c_numbers (G := G) (lm := lm) hc hk4 ht.2.2.1 h0 (hk.2.2.1 (by omega))
  have c15 := hc.toN g15
  have gos : ∀ f, goT b n (f + 1) L t D = if ¬ (nums b n (stT b t) (cnT (stT b t)) 0 t.e (fun _ => 0)).1 = 0 then ((nums b n (stT b t) (cnT (stT b t)) 0 t.e (fun _ => 0)).1, (nums b n (stT b t) (cnT (stT b t)) 0 t.e (fun _ => 0)).2.1, D)
    else if ¬ (tk b n (nums b n (stT b t) (cnT (stT b t)) 0 t.e (fun _ => 0)).2.1).k = 3 then (1, (tk b n (nums b n (stT b t) (cnT (stT b t)) 0 t.e (fun _ => 0)).2.1).s, D)
    else goT b n f (stT b t) (tk b n (tk b n (nums b n (stT b t) (cnT (stT b t)) 0 t.e (fun _ => 0)).2.1).e) (addD D (stT b t) (nums b n (stT b t) (cnT (stT b t)) 0 t.e (fun _ => 0)).2.2) := fun f => by rw [go_s, if_neg hne, if_neg hw, if_neg hfull]
  generalize nums b n (stT b t) (cnT (stT b t)) 0 t.e (fun _ => 0) = q at nout gos
  by_cases hq : q.1 = 0
  · obtain ⟨n0, n5, n6, n7⟩ := nout.1 hq
    obtain ⟨m25, g25, k25, ct25⟩ := c_readToken (G := G) (lm := lm) c15 n6.2 n5
    have h2 := tk_in (b := b) n6.2
    have h2k := tk_k (b := b) (n := n) (p := q.2.1)
    generalize tk b n q.2.1 = t2 at k25 h2 h2k gos
    have c25 := c15.toN g25.toN
    have z25 := g25.c0 n0
    have d25 := (hd.toN g15).toN g25.toN
    by_cases h3 : t2.k = 3
    · obtain ⟨m28, g28, d28, ct28⟩ := c_add (G := G) (lm := lm) d25 hk4 (by omega) (v := q.2.2) (fun x hx => by rw [g25.1 3 (by decide)]; exact n7 x hx)
      have r1 : m28 1 = m25 1 := g28 1 (by decide)
      obtain ⟨m31, g31, k31, ct31⟩ := c_readToken (G := G) (lm := lm) (c25.p g28.toP) (p := t2.e) h2.2.2.1 (by rw [r1]; exact k25.2.2.1 (by omega))
      refine ⟨m31, stT b t, ((g15.p.trans g25.toN.p).trans g28.toP).trans g31.toN.p, hk4, Or.inr ⟨g31.c0 ⟨by rw [r1]; exact z25.1, by rw [r1]; exact z25.2⟩, t2.e, addD D (stT b t) q.2.2, ?_, h2.2.2.1, k31, d28.toN g31.toN, fun f => ?_⟩, CJ (bX8_parseStatement_0 ⟨_, cs, fun z => absurd z hnl, fun _ => ⟨_, cms, fun _ => ⟨_, cf, fun _ => ⟨m15, ct15, fun z => absurd n0.1 z, fun _ => ⟨m25, ct25, fun _ => ⟨fun z => absurd z25.1 z, fun _ => ⟨m28, ct28, m31, ct31, rfl, rfl⟩⟩, fun z => absurd ?_ z⟩⟩, fun z => absurd (bI_1.mp z) hfull⟩, fun z => absurd hms (bI_0.mp z)⟩⟩)⟩
      · have := h2.2.2.2 (by omega); omega
      · rw [gos, if_neg (fun z => z hq), if_neg (fun z => z h3)]
      · rw [k25.2.1, h3]; rfl
    · obtain ⟨m35, f1, f2, f3⟩ := c_fail (G := G) (lm := lm) (c := 1) k25.1 (by decide) (by decide)
      refine ⟨m35, stT b t, (g15.p.trans g25.toN.p).trans f1.p, hk4, Or.inl ⟨1, t2.s, f2, fun f => ?_⟩, CJ (bX8_parseStatement_0 ⟨_, cs, fun z => absurd z hnl, fun _ => ⟨_, cms, fun _ => ⟨_, cf, fun _ => ⟨m15, ct15, fun z => absurd n0.1 z, fun _ => ⟨m25, ct25, fun z => absurd ((nI_eq (b := 3) (by omega) (by omega)).mp (by rw [← k25.2.1]; exact z)) h3, fun _ => ⟨m35, f3, fun _ => ⟨rfl, rfl⟩, fun z => absurd z f2.ne⟩⟩⟩, fun z => absurd (bI_1.mp z) hfull⟩, fun z => absurd hms (bI_0.mp z)⟩⟩)⟩
      rw [gos, if_neg (fun z => z hq), if_pos h3]
  · have ce := nout.2 hq
    refine ⟨m15, stT b t, g15.p, hk4, Or.inl ⟨q.1, q.2.1, ce, fun f => ?_⟩, CJ (bX8_parseStatement_0 ⟨_, cs, fun z => absurd z hnl, fun _ => ⟨_, cms, fun _ => ⟨_, cf, fun _ => ⟨m15, ct15, fun _ => ⟨fun _ => ⟨rfl, rfl⟩, fun z => absurd z ce.ne⟩, fun z => absurd z ce.ne⟩, fun z => absurd (bI_1.mp z) hfull⟩, fun z => absurd hms (bI_0.mp z)⟩⟩)⟩
    rw [gos, if_pos hq]
theorem j_parseErr {x2 x3 : Int32} (he : ¬ mm 1 4 = 0) : J G M_X8_parse 27 [(0, .ref 1), (1, .ref 13), (2, .int x2), (3, .int x3)] [] (SH, mm, lm) false (.inl (some (.int (mm 1 4)))) (SH, mm, lm) false 0 0 :=
  bX8_parse_27 ⟨fun _ => ⟨fun _ => ⟨rfl, rfl⟩, fun z => absurd z he⟩, fun _ => ⟨fun _ => ⟨fun _ => ⟨rfl, rfl⟩, fun z => absurd z he⟩, fun z => absurd z he⟩⟩
def Pout (m' : Nat → Nat → Int32) (q : Nat × Nat × Dr) : Prop := (q.1 = 0 → C0 m' ∧ CDr m' q.2.2) ∧ (¬ q.1 = 0 → CE m' q.1 q.2.1)
theorem c_loop (hc : CB mm n b) : ∀ f i L p D m0, p ≤ n → n < (tk b n p).s + f → i ≤ (tk b n p).s → FrP mm m0 → C0 m0 → CDr m0 D → CTk m0 (tk b n p) → L < 4 → ∃ m', FrP mm m' ∧ Pout m' (goT b n f L (tk b n p) D) ∧
    J G M_X8_parse 27 [(0, .ref 1), (1, .ref 13), (2, .int (nI L)), (3, .int (nI i))] [] (SH, m0, lm) false (.inl (some (.int (nI (goT b n f L (tk b n p) D).1)))) (SH, m', lm) false 0 0
  | 0, i, L, p, D, m0, hp, hf, hi, g, h0, hd, hk, hL => by have := tk_in (b := b) hp; omega
  | f + 1, i, L, p, D, m0, hp, hf, hi, g, h0, hd, hk, hL => by
    have hn := hc.2.1
    have c0 := hc.p g
    have ht := tk_in (b := b) hp
    have htk := tk_k (b := b) (n := n) (p := p)
    have n4 : ¬ (400 : Int32) < nI i := nI_nlt (b := i) (a := 400) (by omega) (by omega)
    by_cases h7 : (tk b n p).k = 0
    · have e7 : m0 1 7 = 0 := by rw [hk.2.1, h7]; rfl
      obtain ⟨d1, d2⟩ := hd.1 1 (by decide)
      have d1 : m0 13 9 = nI (D.1 1) := d1
      have d2 : D.1 1 ≤ 8 := d2
      rw [go_s, if_pos h7]
      by_cases hz : D.1 1 = 0
      · obtain ⟨m', f1, f2, f3⟩ := c_fail (G := G) (lm := lm) (c := 1) hk.1 (by decide) (by decide)
        rw [if_pos hz]
        refine ⟨m', g.trans f1.p, ⟨fun z => absurd z (show ¬ (1 : Nat) = 0 by decide), fun _ => f2⟩, bX8_parse_27 ⟨fun z => absurd z n4, fun _ => ⟨fun z => absurd h0.1 z, fun _ => ⟨fun _ => ⟨fun z => absurd h0.1 z, fun _ => ⟨fun z => absurd (by rw [d1, hz]; rfl) z, fun _ => ⟨m', f3, ?_, rfl⟩⟩⟩, fun z => absurd e7 z⟩⟩⟩⟩
        rw [f2.2.1]
      · rw [if_neg hz]
        refine ⟨m0, g, ⟨fun _ => ⟨h0, hd⟩, fun z => absurd rfl z⟩, bX8_parse_27 ⟨fun z => absurd z n4, fun _ => ⟨fun z => absurd h0.1 z, fun _ => ⟨fun _ => ⟨fun z => absurd h0.1 z, fun _ => ⟨fun _ => ⟨?_, rfl⟩, fun z => absurd z ?_⟩⟩, fun z => absurd e7 z⟩⟩⟩⟩
        · rw [h0.1]; rfl
        · rw [d1]; exact nI_ne0 (by omega) (by omega)
    · have e7 : ¬ m0 1 7 = 0 := by rw [hk.2.1]; exact nI_ne0 (by omega) (by omega)
      obtain ⟨m1, L', g1, hL', alt, ct⟩ := c_step (G := G) (lm := lm) c0 h0 hd hL hp hk h7
      rcases alt with ⟨c, s, ce, hg⟩ | ⟨h01, p', D', hpe, hpn, k1, d1, hg⟩
      · rw [hg f]
        refine ⟨m1, g.trans g1, ⟨fun z => absurd z ce.1.1, fun _ => ce⟩, bX8_parse_27 ⟨fun z => absurd z n4, fun _ => ⟨fun z => absurd h0.1 z, fun _ => ⟨fun z => absurd z e7, fun _ => ⟨_, m1, ct, ?_⟩⟩⟩⟩⟩
        have := j_parseErr (G := G) (lm := lm) (x2 := nI L') (x3 := nI i + 1) ce.ne
        rw [ce.2.1] at this; exact this
      · have ht' := tk_in (b := b) hpn
        obtain ⟨m', q1, q2, q3⟩ := c_loop hc f (i + 1) L' p' D' m1 hpn (by omega) (by omega) (g.trans g1) h01 d1 k1 hL'
        rw [hg f]
        exact ⟨m', q1, q2, bX8_parse_27 ⟨fun z => absurd z n4, fun _ => ⟨fun z => absurd h0.1 z, fun _ => ⟨fun z => absurd z e7, fun _ => ⟨_, m1, ct, by rw [nI_1]; exact q3⟩⟩⟩⟩⟩
def D0 : Dr := (fun _ => 0, fun _ _ => 0)
/-- what the whole text tells -/
def txT (b : Nat → Nat) (n : Nat) : Nat × Nat × Dr := goT b n 402 0 (tk b n 0) D0
theorem c_parse (hc : CB mm n b) : ∃ m', FrP mm m' ∧ Pout m' (txT b n) ∧ Ct G M_X8_parse [.ref 1, .ref 13] (SH, mm, lm) false (.inl (some (.int (nI (txT b n).1)))) (SH, m', lm) false 0 0 := by
  have hn := hc.2.1
  obtain ⟨m3, hm3⟩ : ∃ m3, m3 = mset (mset (mset (mset mm 13 8 0) 13 9 0) 13 10 0) 13 11 0 := ⟨_, rfl⟩
  have e3 : ∀ c, c ≠ 13 → m3 c = mm c := fun c hc => by rw [hm3, mset_ne hc, mset_ne hc, mset_ne hc, mset_ne hc]
  obtain ⟨m4, hm4⟩ : ∃ m4, m4 = mset (mset (mset m3 1 4 0) 1 3 (-1)) 1 5 0 := ⟨_, rfl⟩
  have e4 : ∀ c, c ≠ 1 → m4 c = m3 c := fun c hc => by rw [hm4, mset_ne hc, mset_ne hc, mset_ne hc]
  have g4 : FrP mm m4 := ⟨fun c a1 a2 a3 => by rw [e4 c a1, e3 c (by omega)], by rw [hm4, mset_in (by decide), mset_in (by decide), mset_in (by decide), e3 1 (by decide)]⟩
  obtain ⟨m6, g6, k6, ct6⟩ := c_readToken (G := G) (lm := lm) (hc.p g4) (p := 0) (Nat.zero_le _) (by rw [hm4, mset_eq]; rfl)
  have d3 : CDr m3 D0 := ⟨fun k hk => ⟨by
    match k, hk with
    | 0, _ => show m3 13 8 = _; rw [hm3, mset_in (by decide), mset_in (by decide), mset_in (by decide), mset_eq]; rfl
    | 1, _ => show m3 13 9 = _; rw [hm3, mset_in (by decide), mset_in (by decide), mset_eq]; rfl
    | 2, _ => show m3 13 10 = _; rw [hm3, mset_in (by decide), mset_eq]; rfl
    | 3, _ => show m3 13 11 = _; rw [hm3, mset_eq]; rfl, Nat.zero_le _⟩, fun r hr j hj => absurd hj (Nat.not_lt_zero j)⟩
  have d6 : CDr m6 D0 := ⟨fun k hk => by rw [g6.1 13 (by decide), e4 13 (by decide)]; exact d3.1 k hk, fun r hr j hj => absurd hj (Nat.not_lt_zero j)⟩
  have z4 : C0 m4 := ⟨by rw [hm4, mset_in (by decide), mset_in (by decide), mset_eq], by rw [hm4, mset_in (by decide), mset_eq]⟩
  obtain ⟨m', q1, q2, q3⟩ := c_loop (G := G) (lm := lm) hc 402 0 0 0 D0 m6 (Nat.zero_le _) (by omega) (Nat.zero_le _) (g4.trans g6.toN.p) (g6.c0 z4) d6 k6 (by decide)
  exact ⟨m', q1, q2, CJ (bX8_parse_0 ⟨m3, CJ (bX7_empty_0 ⟨rfl, by rw [hm3]⟩), m6, by rw [← hm4]; exact ct6, q3⟩)⟩
end CLoad
