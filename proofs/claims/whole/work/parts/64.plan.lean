/-! ===== plans: both searches see the same ===== -/
theorem orN_0 {p : Nat → Bool} : ∀ {n : Nat}, n ≤ 8 → (orN p n = 0 ↔ ∀ b, b < n → p b = false)
  | 0, _ => ⟨fun _ b hb => absurd hb (Nat.not_lt_zero b), fun _ => rfl⟩
  | n + 1, h => by
    obtain ⟨m, h1, h2⟩ := orN_nI p (n := n) (by omega)
    have ih := orN_0 (p := p) (n := n) (by omega)
    have hp : 2 ^ n ≤ 2 ^ 7 := Nat.pow_le_pow_right (by omega) (by omega)
    by_cases hb : p n = true
    · rw [orN_t hb, h2, nI_shl n (by omega), fa_or]
      have h3 : m ||| 2 ^ n < 2 ^ 8 := Nat.or_lt_two_pow (by omega) (by omega)
      have h4 : 0 < m ||| 2 ^ n := Nat.lt_of_lt_of_le (Nat.two_pow_pos n) Nat.right_le_or
      refine ⟨fun z => absurd z (nI_ne0 h4 (by omega)), fun z => ?_⟩
      rw [z n (by omega)] at hb; cases hb
    · rw [orN_f (Bool.eq_false_iff.mpr hb), ih]
      refine ⟨fun z b hbn => ?_, fun z b hbn => z b (by omega)⟩
      rcases Nat.lt_succ_iff_lt_or_eq.mp hbn with w | w
      · exact z b w
      · rw [w]; exact Bool.eq_false_iff.mpr hb
theorem cntN_0 {p : Nat → Bool} : ∀ {n : Nat}, cntN p n = 0 ↔ ∀ k, k < n → p k = false
  | 0 => ⟨fun _ k hk => absurd hk (Nat.not_lt_zero k), fun _ => rfl⟩
  | n + 1 => by
    simp only [cntN, Nat.add_eq_zero_iff, cntN_0 (n := n)]
    refine ⟨fun h k hk => ?_, fun h => ⟨fun k hk => h k (by omega), by rw [h n (by omega)]; rfl⟩⟩
    rcases Nat.lt_succ_iff_lt_or_eq.mp hk with w | w
    · exact h.1 k w
    · rw [w]
      refine Bool.eq_false_iff.mpr fun z => ?_
      have := h.2
      rw [if_pos z] at this; cases this
theorem cntP_0 {p : Nat → Nat → Bool} : ∀ {n : Nat}, cntP p n = 0 ↔ ∀ k o, k < n → o < k → p k o = false
  | 0 => ⟨fun _ k o hk => absurd hk (Nat.not_lt_zero k), fun _ => rfl⟩
  | n + 1 => by
    simp only [cntP, Nat.add_eq_zero_iff, cntP_0 (n := n), cntN_0]
    refine ⟨fun h k o hk ho => ?_, fun h => ⟨fun k o hk ho => h k o (by omega) ho, fun o ho => h n o (by omega) ho⟩⟩
    rcases Nat.lt_succ_iff_lt_or_eq.mp hk with w | w
    · exact h.1 k o w ho
    · subst w; exact h.2 o ho
theorem moA_mo {be po w : Nat → Int32} {n b : Nat} : moA be po w n b = mo n be po w (nI b) (fun _ => false) := sumN_congr fun k hk => by
  by_cases h : be k = nI b
  · rw [if_pos h, if_pos ⟨rfl, h⟩]
  · rw [if_neg h, if_neg fun z => h z.2]
def pwB (mm : Nat → Nat → Int32) (k : Nat) : Bool := decide (¬ mm (23 + k) 2 = -1 ∧ mm (23 + k) 2 = mm (23 + k) 0 ∧ mm (23 + k) 3 = mm (23 + k) 1)
section PlB
variable {mm M : Nat → Nat → Int32} {nb nm nq np k x : Nat}
theorem Fx.pb2 (f : Fx mm M nb nm nq np) (hk : k < nb) : M 64 (10 * k + 2) = mm (23 + k) 2 := by
  rw [f.r64]; exact (f.r hk).2.2.1.1.symm
theorem Fx.pb3 (f : Fx mm M nb nm nq np) (hk : k < nb) (h : ¬ mm (23 + k) 2 = -1) : M 64 (10 * k + 3) = mm (23 + k) 3 := by
  rw [f.r64]; exact ((f.r hk).2.2.2.1 h).1.symm
theorem Fx.pn2 (f : Fx mm M nb nm nq np) (hk : k < nb) : M 64 (10 * k + 2) < 0 ↔ mm (23 + k) 2 = -1 := by
  rw [f.pb2 hk]; exact bmP_neg (f.bp hk).2
theorem Fx.bm (f : Fx mm M nb nm nq np) (hk : k < nb) (x : Nat) : bmM M x k = bmF mm x k := by
  have hd := dig_lt x k
  unfold bmM bmF
  rw [f.be hk, f.pb2 hk]
  by_cases h0 : dig x k = 0
  · rw [if_pos h0, if_neg (by omega), if_neg (by omega)]
  · by_cases h1 : dig x k = 1
    · rw [if_neg h0, if_pos h1, if_pos h1]
    · rw [if_neg h0, if_neg h1, if_neg h1, if_pos (by omega)]
theorem Fx.ps (f : Fx mm M nb nm nq np) (hk : k < nb) (x : Nat) (h : ¬ bmF mm x k = -1) : psM M x k = psF mm x k := by
  have hd := dig_lt x k
  unfold bmF at h
  unfold psM psF
  by_cases h0 : dig x k = 0
  · rw [if_neg (by omega), if_neg (by omega)] at h; exact absurd rfl h
  · by_cases h1 : dig x k = 1
    · rw [if_pos h1] at h
      rw [if_neg h0, if_pos h1, if_neg (by omega)]; exact f.po hk h
    · rw [if_neg h1, if_pos (by omega)] at h
      rw [if_neg h0, if_neg h1, if_pos (by omega)]; exact f.pb3 hk h
theorem bmF_P (f : Fx mm M nb nm nq np) (hk : k < nb) (x : Nat) : bmP (bmF mm x k) := by
  unfold bmF
  split
  · exact (f.bp hk).1
  · split
    · exact (f.bp hk).2
    · exact Or.inl rfl
theorem Fx.con (f : Fx mm M nb nm nq np) (hk : k < nb) {o : Nat} (ho : o < nb) (x : Nat) : conB (bmF mm x) (psF mm x) (mm 8) k o = !clrB (bmM M x) (psM M x) (M 69) k o := by
  have hb := bmP_neg (bmF_P f hk x)
  rw [Bool.eq_iff_iff, Bool.not_eq_true', Bool.eq_false_iff]
  unfold conB clrB
  simp only [decide_eq_true_eq, ne_eq]
  rw [f.bm hk, f.bm ho, f.ra hk, f.ra ho, hb]
  constructor
  · rintro ⟨h1, h2, h3⟩ z
    rw [f.ps hk x h1, f.ps ho x (by rw [← h2]; exact h1)] at z
    rcases z with z | z | z
    · exact z h2
    · exact h1 z
    · exact z h3
  · intro z
    have h1 : ¬ bmF mm x k = -1 := fun w => z (Or.inr (Or.inl w))
    have h2 : bmF mm x k = bmF mm x o := Decidable.not_not.mp fun w => z (Or.inl w)
    refine ⟨h1, h2, Decidable.not_not.mp fun w => z (Or.inr (Or.inr ?_))⟩
    rw [f.ps hk x h1, f.ps ho x (by rw [← h2]; exact h1)]; exact w
theorem Fx.moa (f : Fx mm M nb nm nq np) (x : Nat) {b : Nat} (hb : b < 4) : moA (bmM M x) (psM M x) (M 68) nb b = moA (bmF mm x) (psF mm x) (mm 7) nb b := sumN_congr fun k hk => by
  rw [f.bm hk, f.w hk]
  by_cases h : bmF mm x k = nI b
  · rw [if_pos h, if_pos h, f.ps hk x (by rw [h]; exact nI_ne_neg (by omega))]
  · rw [if_neg h, if_neg h]
/-- an arrangement that can be: allowed, its digits are places that there are -/
theorem Fx.can_iff (f : Fx mm M nb nm nq np) (x : Nat) : canA M nb nm x = true ↔ alB mm nb nm x = true ∧ ∀ k, k < nb → dig x k = 0 ∨ ¬ bmF mm x k = -1 := by
  have h4 := f.m4
  have hleg : ∀ k, k < nb → ((nI (dig x k) ≤ 0 ∨ ¬ bmM M x k < 0) ↔ (dig x k = 0 ∨ ¬ bmF mm x k = -1)) := fun k hk => by
    have hd := dig_lt x k
    rw [f.bm hk, bmP_neg (bmF_P f hk x)]
    have e : nI (dig x k) ≤ 0 ↔ dig x k = 0 := by
      rw [show (0 : Int32) = nI 0 from rfl, nI_leI (by omega) (by omega)]; omega
    rw [e]
  have hbal : ∀ b, b < nm → ((¬ M 67 b < absI (moA (bmM M x) (psM M x) (M 68) nb b)) ↔ decide (mm 6 b < absI (moA (bmF mm x) (psF mm x) (mm 7) nb b)) = false) := fun b hb => by
    rw [f.moa x (by omega), f.li hb, decide_eq_false_iff_not]
  have hcl : ∀ k o, k < nb → o < k → (clrB (bmM M x) (psM M x) (M 69) k o = true ↔ conB (bmF mm x) (psF mm x) (mm 8) k o = false) := fun k o hk ho => by
    rw [f.con hk (by omega) x]
    cases clrB (bmM M x) (psM M x) (M 69) k o <;> decide
  show canB (fun k => nI (dig x k)) (bmM M x) (psM M x) (M 69) (M 68) (M 67) nb nm = true ↔ _
  unfold canB alB
  simp only [Bool.and_eq_true, decide_eq_true_eq, allN_iff]
  rw [orN_0 (by omega), cntP_0]
  constructor
  · rintro ⟨h1, h2⟩
    exact ⟨⟨fun b hb => (hbal b hb).mp (h2 b hb), fun k o hk ho => (hcl k o hk ho).mp ((h1 k hk).2 o ho)⟩, fun k hk => (hleg k hk).mp (h1 k hk).1⟩
  · rintro ⟨⟨h1, h2⟩, h3⟩
    exact ⟨fun k hk => ⟨(hleg k hk).mpr (h3 k hk), fun o ho => (hcl k o hk ho).mpr (h2 k o hk ho)⟩, fun b hb => (hbal b hb).mpr (h1 b hb)⟩
theorem bm_pi (hk : k < nb) : bmF mm (piA nb (pwB mm) x) k = bmF mm x k ∧ psF mm (piA nb (pwB mm) x) k = psF mm x k := by
  unfold bmF psF
  rw [dig_piA (pwB mm) x hk]
  by_cases h : dig x k = 2 ∧ pwB mm k = true
  · rw [if_pos h, h.1]
    obtain ⟨h1, h2, h3⟩ := of_decide_eq_true h.2
    exact ⟨h2.symm, h3.symm⟩
  · rw [if_neg h]; exact ⟨rfl, rfl⟩
theorem al_pi (nm : Nat) : alB mm nb nm (piA nb (pwB mm) x) = alB mm nb nm x := by
  unfold alB
  have h1 : orN (fun b => decide (mm 6 b < absI (moA (bmF mm (piA nb (pwB mm) x)) (psF mm (piA nb (pwB mm) x)) (mm 7) nb b))) nm = orN (fun b => decide (mm 6 b < absI (moA (bmF mm x) (psF mm x) (mm 7) nb b))) nm := orN_congr fun b _ => by
    have : moA (bmF mm (piA nb (pwB mm) x)) (psF mm (piA nb (pwB mm) x)) (mm 7) nb b = moA (bmF mm x) (psF mm x) (mm 7) nb b := sumN_congr fun k hk => by
      rw [(bm_pi hk).1, (bm_pi hk).2]
    rw [this]
  have h2 : cntP (conB (bmF mm (piA nb (pwB mm) x)) (psF mm (piA nb (pwB mm) x)) (mm 8)) nb = cntP (conB (bmF mm x) (psF mm x) (mm 8)) nb := cntP_congr fun k o hk ho => by
    unfold conB
    rw [(bm_pi hk).1, (bm_pi hk).2, (bm_pi (k := o) (by omega)).1, (bm_pi (k := o) (by omega)).2]
  rw [h1, h2]
theorem goaD_eq (k : Nat) : goaD mm k = if plB mm k = true then 2 else preD mm k := by
  unfold goaD plB
  by_cases h : ¬ mm (23 + k) 2 = -1 ∧ ¬ (mm (23 + k) 2 = mm (23 + k) 0 ∧ mm (23 + k) 3 = mm (23 + k) 1)
  · rw [if_pos h, if_pos (decide_eq_true h)]
  · rw [if_neg h, if_neg fun z => h (of_decide_eq_true z)]
theorem pl_or_pw (h : ¬ mm (23 + k) 2 = -1) : plB mm k = true ∨ pwB mm k = true := by
  by_cases h2 : mm (23 + k) 2 = mm (23 + k) 0 ∧ mm (23 + k) 3 = mm (23 + k) 1
  · exact Or.inr (decide_eq_true ⟨h, h2⟩)
  · exact Or.inl (decide_eq_true ⟨h, h2⟩)
theorem Fx.at_goal (f : Fx mm M nb nm nq np) (hk : k < nb) : atG M (psM M x) (bmM M x) (fun k => nI (dig x k)) k = true ↔ (if mm (23 + k) 2 = -1 then dig x k = preD mm k else (bmF mm x k = mm (23 + k) 2 ∧ psF mm x k = mm (23 + k) 3)) := by
  have hd := dig_lt x k
  have hp := preD_lt mm k
  unfold atG
  by_cases h : mm (23 + k) 2 = -1
  · rw [if_pos ((f.pn2 hk).mpr h), if_pos h, decide_eq_true_eq]
    have e : (if M 64 (10 * k + 0) < 0 then (0 : Int32) else 1) = nI (preD mm k) := by
      unfold preD
      by_cases h2 : mm (23 + k) 0 = -1
      · rw [if_pos ((f.hg hk).mpr h2), if_pos h2]; rfl
      · rw [if_neg fun z => h2 ((f.hg hk).mp z), if_neg h2]; rfl
    rw [e]; exact nI_eq (by omega) (by omega)
  · rw [if_neg fun z => h ((f.pn2 hk).mp z), if_neg h, decide_eq_true_eq, f.bm hk, f.pb2 hk, f.pb3 hk h]
    refine ⟨fun z => ⟨z.1, ?_⟩, fun z => ⟨z.1, ?_⟩⟩
    · rw [← f.ps hk x (by rw [z.1]; exact h)]; exact z.2
    · rw [f.ps hk x (by rw [z.1]; exact h)]; exact z.2
theorem Fx.gr (f : Fx mm M nb nm nq np) : Gr nb (hgB mm) (plB mm) (pwB mm) (alB mm nb nm) (canA M nb nm) (goA M nb) (goaN mm nb) (orgN mm nb) := by
  have dg : ∀ k, k < nb → dig (goaN mm nb) k = goaD mm k := fun k hk => dig_arrN (goaD_lt mm) hk
  have dorg : ∀ k, k < nb → dig (orgN mm nb) k = preD mm k := fun k hk => dig_arrN (preD_lt mm) hk
  have hgo : goA M nb (goaN mm nb) = true := by
    rw [allN_iff]
    intro k hk
    rw [f.at_goal hk]
    by_cases h : mm (23 + k) 2 = -1
    · rw [if_pos h, dg k hk, goaD_eq, if_neg fun z => (of_decide_eq_true z).1 h]
    · rw [if_neg h]
      unfold bmF psF
      rw [dg k hk, goaD_eq]
      by_cases hp : plB mm k = true
      · rw [if_pos hp]; exact ⟨rfl, rfl⟩
      · rw [if_neg hp]
        rcases pl_or_pw h with z | z
        · exact absurd z hp
        · obtain ⟨h1, h2, h3⟩ := of_decide_eq_true z
          have e : preD mm k = 1 := if_neg (by rw [← h2]; exact h1)
          rw [e]; exact ⟨h2.symm, h3.symm⟩
  have hcg : CN nb (hgB mm) (plB mm) (goaN mm nb) := by
    refine ⟨arrN_lt (goaD_lt mm) nb, fun k hk => ?_⟩
    rw [dg k hk, goaD_eq]
    by_cases hp : plB mm k = true
    · rw [if_pos hp]; exact ⟨fun z => absurd z (by decide), fun _ => hp⟩
    · rw [if_neg hp]
      unfold preD
      by_cases h : mm (23 + k) 0 = -1
      · rw [if_pos h]; exact ⟨fun z => absurd z (by decide), fun z => absurd z (by decide)⟩
      · rw [if_neg h]; exact ⟨fun _ => decide_eq_true h, fun z => absurd z (by decide)⟩
  have hco : CN nb (hgB mm) (plB mm) (orgN mm nb) := by
    refine ⟨arrN_lt (preD_lt mm) nb, fun k hk => ?_⟩
    rw [dorg k hk]
    unfold preD
    by_cases h : mm (23 + k) 0 = -1
    · rw [if_pos h]; exact ⟨fun z => absurd z (by decide), fun z => absurd z (by decide)⟩
    · rw [if_neg h]; exact ⟨fun _ => decide_eq_true h, fun z => absurd z (by decide)⟩
  refine ⟨fun k hk h => ?_, fun x hx h => ?_, fun x hx h => ?_, fun x hx h => ?_, fun x hx h hg => ?_, hgo, hcg, hco, ?_⟩
  · obtain ⟨h1, h2, h3⟩ := of_decide_eq_true h
    exact ⟨decide_eq_true (by rw [← h2]; exact h1), fun z => (of_decide_eq_true z).2 ⟨h2, h3⟩⟩
  · obtain ⟨h1, h2⟩ := (f.can_iff x).mp h
    refine ⟨h1, fun k hk => ⟨fun z => ?_, fun z => ?_⟩⟩
    · have q := (h2 k hk).resolve_left (by omega)
      unfold bmF at q
      rw [if_pos z] at q
      exact decide_eq_true q
    · have q := (h2 k hk).resolve_left (by omega)
      unfold bmF at q
      rw [if_neg (by omega), if_pos z] at q
      exact pl_or_pw q
  · refine (f.can_iff x).mpr ⟨h, fun k hk => ?_⟩
    have hd := dig_lt x k
    obtain ⟨h1, h2⟩ := hx.2 k hk
    unfold bmF
    by_cases z1 : dig x k = 1
    · rw [if_pos z1]; exact Or.inr (of_decide_eq_true (h1 z1))
    · by_cases z2 : dig x k = 2
      · rw [if_neg z1, if_pos z2]; exact Or.inr (of_decide_eq_true (h2 z2)).1
      · exact Or.inl (by omega)
  · obtain ⟨h1, h2⟩ := (f.can_iff x).mp h
    refine (f.can_iff _).mpr ⟨by rw [al_pi]; exact h1, fun k hk => ?_⟩
    rw [dig_piA0 (pwB mm) x hk, (bm_pi hk).1]; exact h2 k hk
  · have e : piA nb (pwB mm) x = goaN mm nb := by
      refine dig_ext (piA_lt nb (pwB mm) x) hcg.1 fun k hk => ?_
      have hd := dig_lt x k
      have q := (f.at_goal hk).mp (allN_iff.mp hg k hk)
      rw [dig_piA (pwB mm) x hk, dg k hk, goaD_eq]
      by_cases h2 : mm (23 + k) 2 = -1
      · rw [if_pos h2] at q
        rw [if_neg (fun z => (of_decide_eq_true z.2).1 h2), if_neg fun z => (of_decide_eq_true z).1 h2]; exact q
      · rw [if_neg h2] at q
        unfold bmF psF at q
        by_cases z0 : dig x k = 0
        · rw [z0] at q; exact absurd q.1.symm h2
        · by_cases z1 : dig x k = 1
          · rw [z1] at q
            have q1 : mm (23 + k) 0 = mm (23 + k) 2 := q.1
            have q2 : mm (23 + k) 1 = mm (23 + k) 3 := q.2
            rw [if_neg (fun z => by omega), if_neg fun z => (of_decide_eq_true z).2 ⟨q1.symm, q2.symm⟩, z1]
            exact (if_neg (by rw [q1]; exact h2)).symm
          · have z2 : dig x k = 2 := by omega
            by_cases hp : plB mm k = true
            · rw [if_pos hp, if_neg fun z => (of_decide_eq_true hp).2 (of_decide_eq_true z.2).2]; exact z2
            · rcases pl_or_pw h2 with w | w
              · exact absurd w hp
              · rw [if_pos ⟨z2, w⟩, if_neg hp]
                exact (if_neg (by have := of_decide_eq_true w; rw [← this.2.1]; exact this.1)).symm
    rw [e]; exact ⟨rfl, hgo⟩
  · refine (f.can_iff _).mpr ⟨?_, fun k hk => ?_⟩
    · have eb : ∀ k, k < nb → bmF mm (orgN mm nb) k = mm (23 + k) 0 ∧ psF mm (orgN mm nb) k = mm (23 + k) 1 := fun k hk => by
        unfold bmF psF
        rw [dorg k hk]
        unfold preD
        by_cases h : mm (23 + k) 0 = -1
        · rw [if_pos h, h]; exact ⟨rfl, rfl⟩
        · rw [if_neg h]; exact ⟨rfl, rfl⟩
      have h4 := f.m4
      unfold alB
      rw [Bool.and_eq_true, decide_eq_true_eq, decide_eq_true_eq, orN_0 (by omega), cntP_0]
      refine ⟨fun b hb => decide_eq_false ?_, fun k o hk ho => decide_eq_false ?_⟩
      · have e : moA (bmF mm (orgN mm nb)) (psF mm (orgN mm nb)) (mm 7) nb b = moA (cBe mm) (cPo mm) (mm 7) nb b := sumN_congr fun k hk => by
          rw [(eb k hk).1, (eb k hk).2]
        rw [e, moA_mo]
        exact f.2.2.1.2.2 b hb
      · rw [(eb k hk).1, (eb k hk).2, (eb o (by omega)).1, (eb o (by omega)).2]
        exact fun z => f.2.2.1.2.1 k o hk ho z.1 z.2.1 z.2.2
    · rw [dorg k hk]
      unfold bmF
      rw [dorg k hk]
      unfold preD
      by_cases h : mm (23 + k) 0 = -1
      · rw [if_pos h]; exact Or.inl rfl
      · rw [if_neg h]; exact Or.inr h
theorem bq_lt {R Q : Nat → Int32} {n cur : Nat} {q p c : Nat → Nat} (B : BfQ (alB mm nb nm) (nxB mm nb) R Q n (orgN mm nb) cur 0 q p c) : ∀ i, i < n → q i < 3 ^ nb := by
  intro i
  induction i using Nat.strongRecOn with
  | ind i ih =>
    intro hi
    by_cases h0 : i = 0
    · rw [h0, B.1.2.1]; exact arrN_lt (preD_lt mm) nb
    · obtain ⟨-, h1, -, -, h4, -⟩ := B.2.2.2.1 i (by omega) hi
      obtain ⟨n1, -, -, n4⟩ := nxC_some h4
      exact aftM_lt n4 (ih _ h1 (by omega)) (by omega)
end PlB
section OpsP
variable {G : Gx} {x1 x2 x3 : Int32}
theorem eqM_off {mm mc : Nat → Nat → Int32} (e : EqR mm mc) {m' : Nat → Nat → Int32} {lo hi : Nat} (h : ∀ c, c < lo ∨ hi < c → m' c = mset mc 63 4 0 c) (hlo : 75 ≤ lo) : EqR mm m' := fun c j hc => by
  by_cases hr : c < 75
  · rw [h c (by omega), mset_ne2 (fun z => by rw [z.1, z.2] at hc; cases hc)]; exact e c j hc
  · exfalso
    simp only [rel, relc, Bool.or_eq_true, Bool.and_eq_true, decide_eq_true_eq, beq_iff_eq] at hc
    omega
theorem goal_same {mm M : Nat → Nat → Int32} {nb nm nq np k : Nat} (f : Fx mm M nb nm nq np) (hk : k < nb) : bmF mm (arrN (goMD M) nb) k = bmF mm (goaN mm nb) k ∧ psF mm (arrN (goMD M) nb) k = psF mm (goaN mm nb) k := by
  have d1 : dig (arrN (goMD M) nb) k = goMD M k := dig_arrN (goMD_lt M) hk
  have d2 : dig (goaN mm nb) k = goaD mm k := dig_arrN (goaD_lt mm) hk
  unfold bmF psF
  rw [d1, d2, goaD_eq]
  unfold goMD
  by_cases h : mm (23 + k) 2 = -1
  · have hnp : ¬ plB mm k = true := fun z => (of_decide_eq_true z).1 h
    rw [if_pos ((f.pn2 hk).mpr h), if_neg hnp]
    have e : (if M 64 (10 * k + 0) < 0 then 0 else 1) = preD mm k := by
      unfold preD
      by_cases h2 : mm (23 + k) 0 = -1
      · rw [if_pos ((f.hg hk).mpr h2), if_pos h2]
      · rw [if_neg fun z => h2 ((f.hg hk).mp z), if_neg h2]
    rw [e]; exact ⟨rfl, rfl⟩
  · rw [if_neg fun z => h ((f.pn2 hk).mp z)]
    by_cases hp : plB mm k = true
    · rw [if_pos hp]; exact ⟨rfl, rfl⟩
    · rw [if_neg hp]
      obtain ⟨h1, h2, h3⟩ := of_decide_eq_true ((pl_or_pw h).resolve_left hp)
      have e : preD mm k = 1 := if_neg (by rw [← h2]; exact h1)
      rw [e]; exact ⟨h2, h3⟩
theorem core_planConflicts : ∀ mm lm, Inv mm → ¬ mm 0 10 = 0 → CoreI G Inv M_X9_planConflicts M_X10_planConflicts 4 10 [(0, .ref 0)] [(0, .ref 63)] mm lm := by
  intro mm lm hI _
  obtain ⟨nb, nm, nq, np, fx⟩ := fx_of hI
  have f0 := fx _ EqR.refl.m
  have h8 := f0.n8
  obtain ⟨mc, ec, ct⟩ := c_countConflicts (G := G) (lm := lm) f0.n h8 (fun k hk => f0.bp hk)
  have e := eqR_th ec 0
  have f := fx _ e.m
  refine ⟨_, mc, bX9_planConflicts_4 ⟨_, mc, ct, rfl, rfl⟩, ⟨ec 63 3 rfl, ec 63 5 rfl, ec 63 8 rfl⟩, fun l => ?_⟩
  obtain ⟨m', g1, g2⟩ := cm_planConflicts (G := G) (mm := mset mc 63 4 0) (lm := l) f.N h8
  have em := eqM_off ec g1 (by omega)
  refine ⟨m', ?_, by rw [g1 63 (by omega)]; exact mset_eq, hI.congr em⟩
  rw [cntP_congr (q := conB (bmF mm (arrN (goaD mm) nb)) (psF mm (arrN (goaD mm) nb)) (mm 8)) (fun k o hk ho => ?_)] at g2
  · exact g2
  · show (!clrB (bmM (mset mc 63 4 0) (arrN (goMD (mset mc 63 4 0)) nb)) (psM (mset mc 63 4 0) (arrN (goMD (mset mc 63 4 0)) nb)) (mset mc 63 4 0 69) k o) = conB (bmF mm (goaN mm nb)) (psF mm (goaN mm nb)) (mm 8) k o
    rw [← f.con hk (by omega)]
    unfold conB
    rw [(goal_same f hk).1, (goal_same f hk).2, (goal_same f (by omega : o < nb)).1, (goal_same f (by omega : o < nb)).2]
theorem core_planUnbalanced : ∀ mm lm, Inv mm → ¬ mm 0 10 = 0 → CoreI G Inv M_X9_planUnbalanced M_X10_planUnbalanced 4 10 [(0, .ref 0)] [(0, .ref 63)] mm lm := by
  intro mm lm hI _
  obtain ⟨nb, nm, nq, np, fx⟩ := fx_of hI
  have f0 := fx _ EqR.refl.m
  have h8 := f0.n8
  have h4 := f0.m4
  obtain ⟨mc, ec, ct⟩ := c_unbalancedBeams (G := G) (lm := lm) f0.n h8 f0.m h4 (fun k hk => f0.bp hk)
  have e := eqR_th ec 0
  have f := fx _ e.m
  refine ⟨_, mc, bX9_planUnbalanced_4 ⟨_, mc, ct, rfl, rfl⟩, ⟨ec 63 3 rfl, ec 63 5 rfl, ec 63 8 rfl⟩, fun l => ?_⟩
  obtain ⟨m', g1, g2⟩ := cm_planUnbalanced (G := G) (mm := mset mc 63 4 0) (lm := l) f.N h8 f.Em h4
  have em := eqM_off ec g1 (by omega)
  refine ⟨m', ?_, by rw [g1 63 (by omega)]; exact mset_eq, hI.congr em⟩
  rw [orN_congr (q := fun b => decide (mm 6 b < absI (moA (bmF mm (arrN (goaD mm) nb)) (psF mm (arrN (goaD mm) nb)) (mm 7) nb b))) (fun b hb => ?_)] at g2
  · exact g2
  · have e2 : moA (bmF mm (arrN (goMD (mset mc 63 4 0)) nb)) (psF mm (arrN (goMD (mset mc 63 4 0)) nb)) (mm 7) nb b = moA (bmF mm (arrN (goaD mm) nb)) (psF mm (arrN (goaD mm) nb)) (mm 7) nb b := sumN_congr fun k hk => by
      rw [(goal_same f hk).1, (goal_same f hk).2]
    simp only [f.moa _ (show b < 4 by omega), f.li hb, e2]
/-- the reference goes the class's steps -/
theorem cm_steps {M : Nat → Nat → Int32} {lm : Nat → Int64} {nb i0 k : Nat} {q p c : Nat → Nat} (h8 : nb ≤ 8) (hk : k ≤ 6561)
    (hA : ∀ s, s < k → q (pit p (s + 1) i0) < 3 ^ nb ∧ q (pit p s i0) < 3 ^ nb ∧ c (pit p s i0) < 3 * nb ∧ aftM (q (pit p (s + 1) i0)) (c (pit p s i0)) = some (q (pit p s i0)) ∧ M 79 (q (pit p s i0)) = nI s ∧ M 79 (q (pit p (s + 1) i0)) = nI (s + 1) ∧ ∀ c', c' < c (pit p s i0) → ∀ y, aftM (q (pit p (s + 1) i0)) c' = some y → ¬ M 79 y = nI s) :
    ∀ left s, s < k → left ≤ s → J G M_X10_planStep 57 [(0, .ref 63), (2, .int (nI (q (pit p (s + 1) i0)))), (3, .int (nI left))] [] (SH, M, lm) false (.inl (some (.int (nI (c (pit p (s - left) i0)))))) (SH, M, lm) false 0 0 := by
  have hp8 := pow_le8 h8
  intro left
  induction left with
  | zero =>
    intro s hs _
    obtain ⟨a1, a2, a3, a4, a5, a6, a7⟩ := hA s hs
    refine bX10_planStep_57 ?_
    refine loop_up (n := c (pit p s i0)) (P := fun cc => J G M_X10_planStep 60 [(0, .ref 63), (2, .int (nI (q (pit p (s + 1) i0)))), (3, .int (nI 0)), (4, .int (nI cc))] [] (SH, M, lm) false (.inl (some (.int (nI (c (pit p (s - 0) i0)))))) (SH, M, lm) false 0 0) ?_ ?_ 0 (Nat.zero_le _)
    · have ca := cm_after (G := G) (mm := M) (lm := lm) h8 a1 a3
      simp only [afV, a4] at ca
      exact bX10_planStep_60 ⟨_, ca, fun z => absurd z (nI_pos (by omega)), fun _ => ⟨_, ca, _, rfl, by omega, _, rfl, by omega, fun _ => ⟨fun z => absurd rfl z, fun _ => ⟨rfl, rfl⟩⟩, fun z => absurd (by rw [a5, a6, ← nI_1]; exact (Int32.add_sub_cancel _ _).symm) z⟩⟩
    · intro cc hcc ih
      have ca := cm_after (G := G) (mm := M) (lm := lm) (c := cc) h8 a1 (by omega)
      cases hx : aftM (q (pit p (s + 1) i0)) cc with
      | none =>
        simp only [afV, hx] at ca
        exact bX10_planStep_60 ⟨_, ca, fun _ => by rw [nI_1]; exact ih, fun z => absurd (by decide) z⟩
      | some y =>
        simp only [afV, hx] at ca
        have hy := aftM_lt hx a1 (show cc < 3 * nb by omega)
        refine bX10_planStep_60 ⟨_, ca, fun z => absurd z (nI_pos (by omega)), fun _ => ⟨_, ca, y, rfl, by omega, _, rfl, by omega, fun z => absurd ?_ (a7 cc hcc y hx), fun _ => by rw [nI_1]; exact ih⟩⟩
        rw [z, a6, ← nI_1]; exact Int32.add_sub_cancel _ _
  | succ left ihl =>
    intro s hs hl
    obtain ⟨s', rfl⟩ : ∃ s', s = s' + 1 := ⟨s - 1, by omega⟩
    obtain ⟨a1, a2, a3, a4, a5, a6, a7⟩ := hA (s' + 1) hs
    have nx := ihl s' (by omega) (by omega)
    rw [show s' + 1 - (left + 1) = s' - left by omega]
    refine bX10_planStep_57 ?_
    refine loop_up (n := c (pit p (s' + 1) i0)) (P := fun cc => J G M_X10_planStep 60 [(0, .ref 63), (2, .int (nI (q (pit p (s' + 1 + 1) i0)))), (3, .int (nI (left + 1))), (4, .int (nI cc))] [] (SH, M, lm) false (.inl (some (.int (nI (c (pit p (s' - left) i0)))))) (SH, M, lm) false 0 0) ?_ ?_ 0 (Nat.zero_le _)
    · have ca := cm_after (G := G) (mm := M) (lm := lm) h8 a1 a3
      simp only [afV, a4] at ca
      exact bX10_planStep_60 ⟨_, ca, fun z => absurd z (nI_pos (by omega)), fun _ => ⟨_, ca, _, rfl, by omega, _, rfl, by omega, fun _ => ⟨fun _ => ⟨_, ca, by rw [pk_m1]; exact nx⟩, fun z => absurd z (nI_ne0 (by omega) (by omega))⟩, fun z => absurd (by rw [a5, a6, ← nI_1 (s' + 1)]; exact (Int32.add_sub_cancel _ _).symm) z⟩⟩
    · intro cc hcc ih
      have ca := cm_after (G := G) (mm := M) (lm := lm) (c := cc) h8 a1 (by omega)
      cases hx : aftM (q (pit p (s' + 1 + 1) i0)) cc with
      | none =>
        simp only [afV, hx] at ca
        exact bX10_planStep_60 ⟨_, ca, fun _ => by rw [nI_1]; exact ih, fun z => absurd (by decide) z⟩
      | some y =>
        simp only [afV, hx] at ca
        have hy := aftM_lt hx a1 (show cc < 3 * nb by omega)
        refine bX10_planStep_60 ⟨_, ca, fun z => absurd z (nI_pos (by omega)), fun _ => ⟨_, ca, y, rfl, by omega, _, rfl, by omega, fun z => absurd ?_ (a7 cc hcc y hx), fun _ => by rw [nI_1]; exact ih⟩⟩
        rw [z, a6, ← nI_1 (s' + 1)]; exact Int32.add_sub_cancel _ _
theorem pres_eq {mm M m' : Nat → Nat → Int32} {nb nm nq np : Nat} (f : Fx mm M nb nm nq np) (h : m' 64 = M 64) : arrN (prMD m') nb = orgN mm nb := arrN_congr fun k hk => by
  unfold prMD preD
  rw [h]
  by_cases h2 : mm (23 + k) 0 = -1
  · rw [if_pos ((f.hg hk).mpr h2), if_pos h2]
  · rw [if_neg fun z => h2 ((f.hg hk).mp z), if_neg h2]
theorem core_stepsToPlan : ∀ mm lm, Inv mm → ¬ mm 0 10 = 0 → CoreI G Inv M_X9_stepsToPlan M_X10_stepsToPlan 4 10 [(0, .ref 0)] [(0, .ref 63)] mm lm := by
  intro mm lm hI _
  obtain ⟨nb, nm, nq, np, fx⟩ := fx_of hI
  have f0 := fx _ EqR.refl.m
  have h8 := f0.n8
  have h4 := f0.m4
  have hp8 := pow_le8 h8
  have ho3 : orgN mm nb < 3 ^ nb := arrN_lt (preD_lt mm) nb
  obtain ⟨mc, v, ⟨ec, hF⟩, ct⟩ := c_findWay (G := G) (lm := lm) f0.n h8 f0.m h4 (fun k hk => f0.bp hk) (fun R Q n cur q p c B => bq_lt B)
  have e := eqR_th ec 0
  have f := fx _ e.m
  have model : ∀ l : Nat → Int64, ∃ m' DM, (∀ c, c < 76 ∨ 80 < c → m' c = mset mc 63 4 0 c) ∧ Ds nb (canA (mset mc 63 4 0) nb nm) (goA (mset mc 63 4 0) nb) DM ∧ (DM (orgN mm nb) = none → m' 79 (orgN mm nb) = 1000000) ∧ (∀ t, DM (orgN mm nb) = some t → m' 79 (orgN mm nb) = nI t ∧ t < 6561) ∧ Inv m' ∧ m' 63 4 = 0 ∧
      ∀ w, ((¬ m' 79 (orgN mm nb) = 1000000 → w = m' 79 (orgN mm nb)) ∧ (m' 79 (orgN mm nb) = 1000000 → w = -2)) → J G M_X10_stepsToPlan 10 [(0, .ref 63)] [] (SH, mset mc 63 4 0, l) false (.inl (some (.int w))) (SH, m', l) false 0 0 := by
    intro l
    obtain ⟨m', DM, g1, g2, g3, g4⟩ := cm_findWays (G := G) (mm := mset mc 63 4 0) (lm := l) f.N h8 f.Em h4
    have pr := cm_present (G := G) (mm := m') (lm := l) (nb := nb) (by rw [g1 63 (by omega)]; exact f.N) h8
    rw [pres_eq f (g1 64 (by omega))] at pr
    refine ⟨m', DM, g1, g2, fun z => ?_, fun t z => (g3 _ ho3).1 t z, hI.congr (eqM_off ec g1 (by omega)), by rw [g1 63 (by omega)]; exact mset_eq, fun w hw => bX10_stepsToPlan_10 ⟨m', g4, _, pr, _, rfl, by omega, fun z => by rw [hw.1 z]; exact ⟨rfl, rfl⟩, fun z => by rw [hw.2 z]; exact ⟨rfl, rfl⟩⟩⟩
    rw [(g3 _ ho3).2 z, if_pos f.gr.2.2.2.2.2.2.2.2]
  have none : ∀ (hn : ∀ DM, Ds nb (canA (mset mc 63 4 0) nb nm) (goA (mset mc 63 4 0) nb) DM → DM (orgN mm nb) = none), v = 0 → CoreI G Inv M_X9_stepsToPlan M_X10_stepsToPlan 4 10 [(0, .ref 0)] [(0, .ref 63)] mm lm := by
    intro hn hv
    subst hv
    refine ⟨-2, mc, bX9_stepsToPlan_4 ⟨_, mc, ct, fun _ => ⟨rfl, rfl⟩, fun z => absurd rfl z⟩, ⟨ec 63 3 rfl, ec 63 5 rfl, ec 63 8 rfl⟩, fun l => ?_⟩
    obtain ⟨m', DM, g1, g2, g3, g4, g5, g6, g7⟩ := model l
    have h := g3 (hn DM g2)
    exact ⟨m', g7 _ ⟨fun z => absurd h z, fun _ => rfl⟩, g6, g5⟩
  rcases hF with ⟨hv, hal⟩ | ⟨n, cur, q, p, c, hn9, B, hg, hF⟩
  · exact none (fun DM D => no_goal f.gr D hal) hv
  rcases hF with ⟨hv, hcl, hr⟩ | ⟨hv, i0, hi0, hq⟩
  · exact none (fun DM D => no_way f.gr D B hcl hr) hv
  obtain ⟨k, hk, h0, hpos⟩ := chain_ex B i0 hi0
  have C : Chn (goaN mm nb) n q p i0 k := ⟨hi0, hq, h0, hpos⟩
  have hch : ∀ t, t ≤ k → pit p t i0 < n := fun t ht => by have := (ch_le B C t ht).1; omega
  have ctk := c_countSteps (G := G) (lm := lm) B hn9 hg C hk hch
  subst hv
  refine ⟨nI k, mc, bX9_stepsToPlan_4 ⟨_, mc, ct, fun z => absurd z (by decide), fun _ => ⟨_, ctk, rfl, rfl⟩⟩, ⟨ec 63 3 rfl, ec 63 5 rfl, ec 63 8 rfl⟩, fun l => ?_⟩
  obtain ⟨m', DM, g1, g2, g3, g4, g5, g6, g7⟩ := model l
  have hd := lemC f.gr g2 B C (Nat.le_refl k)
  rw [h0, B.1.2.1] at hd
  obtain ⟨e1, e2⟩ := g4 k hd
  exact ⟨m', g7 _ ⟨fun _ => e1.symm, fun z => absurd (e1.symm.trans z) (fun w => by have := (nI_eq (b := 1000000) (by omega) (by omega)).mp w; omega)⟩, g6, g5⟩
theorem core_planStep : ∀ mm lm, Inv mm → ¬ mm 0 10 = 0 → inR 0 2147483647 x1 → CoreI G Inv M_X9_planStep M_X10_planStep 11 18 [(0, .ref 0), (1, .int x1)] [(0, .ref 63), (1, .int x1)] mm lm := by
  intro mm lm hI _ gx
  obtain ⟨X, hX, rfl⟩ := nI_of gx.1
  obtain ⟨nb, nm, nq, np, fx⟩ := fx_of hI
  have f0 := fx _ EqR.refl.m
  have h8 := f0.n8
  have h4 := f0.m4
  have hp8 := pow_le8 h8
  have ho3 : orgN mm nb < 3 ^ nb := arrN_lt (preD_lt mm) nb
  obtain ⟨mc, v, ⟨ec, hF⟩, ct⟩ := c_findWay (G := G) (lm := lm) f0.n h8 f0.m h4 (fun k hk => f0.bp hk) (fun R Q n cur q p c B => bq_lt B)
  have e := eqR_th ec 0
  have f := fx _ e.m
  have model : ∀ l : Nat → Int64, ∃ m' DM, (∀ c, c < 76 ∨ 80 < c → m' c = mset mc 63 4 0 c) ∧ Ds nb (canA (mset mc 63 4 0) nb nm) (goA (mset mc 63 4 0) nb) DM ∧ (∀ y, y < 3 ^ nb → (∀ t, DM y = some t → m' 79 y = nI t ∧ t < 6561) ∧ (DM y = none → m' 79 y = if canA (mset mc 63 4 0) nb nm y = true then 1000000 else -1)) ∧ Inv m' ∧ m' 63 4 = 0 ∧
      ∀ w, ((¬ m' 79 (orgN mm nb) = 1000000 → nI X < m' 79 (orgN mm nb) → J G M_X10_planStep 57 [(0, .ref 63), (2, .int (nI (orgN mm nb))), (3, .int (nI X))] [] (SH, m', l) false (.inl (some (.int w))) (SH, m', l) false 0 0) ∧ (¬ m' 79 (orgN mm nb) = 1000000 → ¬ nI X < m' 79 (orgN mm nb) → w = -3) ∧ (m' 79 (orgN mm nb) = 1000000 → w = -2)) → J G M_X10_planStep 18 [(0, .ref 63), (1, .int (nI X))] [] (SH, mset mc 63 4 0, l) false (.inl (some (.int w))) (SH, m', l) false 0 0 := by
    intro l
    obtain ⟨m', DM, g1, g2, g3, g4⟩ := cm_findWays (G := G) (mm := mset mc 63 4 0) (lm := l) f.N h8 f.Em h4
    have pr := cm_present (G := G) (mm := m') (lm := l) (nb := nb) (by rw [g1 63 (by omega)]; exact f.N) h8
    rw [pres_eq f (g1 64 (by omega))] at pr
    exact ⟨m', DM, g1, g2, g3, hI.congr (eqM_off ec g1 (by omega)), by rw [g1 63 (by omega)]; exact mset_eq, fun w hw => bX10_planStep_18 ⟨m', g4, _, pr, _, rfl, by omega, fun z => ⟨_, rfl, by omega, fun z2 => hw.1 z z2, fun z2 => by rw [hw.2.1 z z2]; exact ⟨rfl, rfl⟩⟩, fun z => by rw [hw.2.2 z]; exact ⟨rfl, rfl⟩⟩⟩
  have none : ∀ (hn : ∀ DM, Ds nb (canA (mset mc 63 4 0) nb nm) (goA (mset mc 63 4 0) nb) DM → DM (orgN mm nb) = none), v = 0 → CoreI G Inv M_X9_planStep M_X10_planStep 11 18 [(0, .ref 0), (1, .int (nI X))] [(0, .ref 63), (1, .int (nI X))] mm lm := by
    intro hn hv
    subst hv
    refine ⟨-2, mc, bX9_planStep_11 ⟨_, mc, ct, fun _ => ⟨rfl, rfl⟩, fun z => absurd rfl z⟩, ⟨ec 63 3 rfl, ec 63 5 rfl, ec 63 8 rfl⟩, fun l => ?_⟩
    obtain ⟨m', DM, g1, g2, g3, g5, g6, g7⟩ := model l
    have h := (g3 _ ho3).2 (hn DM g2)
    rw [if_pos f.gr.2.2.2.2.2.2.2.2] at h
    exact ⟨m', g7 _ ⟨fun z => absurd h z, fun z => absurd h z, fun _ => rfl⟩, g6, g5⟩
  rcases hF with ⟨hv, hal⟩ | ⟨n, cur, q, p, c, hn9, B, hg, hF⟩
  · exact none (fun DM D => no_goal f.gr D hal) hv
  rcases hF with ⟨hv, hcl, hr⟩ | ⟨hv, i0, hi0, hq⟩
  · exact none (fun DM D => no_way f.gr D B hcl hr) hv
  obtain ⟨k, hk, h0, hpos⟩ := chain_ex B i0 hi0
  have C : Chn (goaN mm nb) n q p i0 k := ⟨hi0, hq, h0, hpos⟩
  have hch : ∀ t, t ≤ k → pit p t i0 < n := fun t ht => by have := (ch_le B C t ht).1; omega
  have cts := c_stepOfWay (G := G) (lm := lm) B hn9 hg C hk hch hX
  subst hv
  refine ⟨if X < k then nI (c (pit p (k - 1 - X) i0)) else -3, mc, bX9_planStep_11 ⟨_, mc, ct, fun z => absurd z (by decide), fun _ => ⟨_, cts, rfl, rfl⟩⟩, ⟨ec 63 3 rfl, ec 63 5 rfl, ec 63 8 rfl⟩, fun l => ?_⟩
  obtain ⟨m', DM, g1, g2, g3, g5, g6, g7⟩ := model l
  have hd := lemC f.gr g2 B C (Nat.le_refl k)
  rw [h0, B.1.2.1] at hd
  obtain ⟨e1, e2⟩ := (g3 _ ho3).1 k hd
  have hne : ¬ m' 79 (orgN mm nb) = 1000000 := fun z => by
    have := (nI_eq (b := 1000000) (by omega) (by omega)).mp (e1.symm.trans z)
    omega
  refine ⟨m', g7 _ ⟨fun _ z => ?_, fun _ z => ?_, fun z => absurd z hne⟩, g6, g5⟩
  · rw [e1] at z
    have hXk : X < k := (nI_ltI hX (by omega)).mp z
    rw [if_pos hXk]
    obtain ⟨k', rfl⟩ : ∃ k', k = k' + 1 := ⟨k - 1, by omega⟩
    have st := cm_steps (G := G) (M := m') (lm := l) (nb := nb) (i0 := i0) (k := k' + 1) (q := q) (p := p) (c := c) h8 (by omega) (fun s hs => ?_) X k' (by omega) (by omega)
    · rw [h0, B.1.2.1] at st
      rw [show k' + 1 - 1 - X = k' - X by omega]; exact st
    · obtain ⟨r1, r2, r3, r4, r5⟩ := ch_row B C hs
      have c1 := (bq_cn f.gr B (pit p (s + 1) i0) (by omega)).1
      have c2 := (bq_cn f.gr B (pit p s i0) r1).1
      obtain ⟨n1, -, -, n4⟩ := nxC_some r5
      have d1 := lemC f.gr g2 B C (show s ≤ k' + 1 by omega)
      have d2 := lemC f.gr g2 B C (show s + 1 ≤ k' + 1 by omega)
      refine ⟨c1.1, c2.1, by omega, n4, ((g3 _ c2.1).1 s d1).1, ((g3 _ c1.1).1 (s + 1) d2).1, fun c' hc' y hy hys => ?_⟩
      have hyl := aftM_lt hy c1.1 (show c' < 3 * nb by omega)
      have hs6 := ((g3 _ c2.1).1 s d1).2
      cases hx : DM y with
      | none =>
        have := (g3 y hyl).2 hx
        rw [hys] at this
        by_cases hc : canA (mset mc 63 4 0) nb nm y = true
        · rw [if_pos hc] at this
          have := (nI_eq (b := 1000000) (by omega) (by omega)).mp this
          omega
        · rw [if_neg hc] at this
          exact nI_ne_neg (by omega) this
      | some t =>
        obtain ⟨t1, t2⟩ := (g3 y hyl).1 t hx
        have e : s = t := (nI_eq (by omega) (by omega)).mp (hys.symm.trans t1)
        rw [← e] at hx
        exact lemG f.gr g2 B C hs c' hc' y hy hx
  · rw [e1] at z
    rw [if_neg fun w => z (nI_lt w (by omega))]
end OpsP
