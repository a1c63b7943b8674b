/-! ===== the first way in order of breadth is the best way ===== -/
/-- an arrangement that the class reaches: present places of bells that hang, planned places that differ -/
def CN (nb : Nat) (hg pl : Nat → Bool) (x : Nat) : Prop := x < 3 ^ nb ∧ ∀ k, k < nb → (dig x k = 1 → hg k = true) ∧ (dig x k = 2 → pl k = true)
/-- what both sides see of the arrangements -/
def Gr (nb : Nat) (hg pl pw al can go : Nat → Bool) (g org : Nat) : Prop :=
  (∀ k, k < nb → pw k = true → hg k = true ∧ ¬ pl k = true) ∧
  (∀ x, x < 3 ^ nb → can x = true → al x = true ∧ ∀ k, k < nb → (dig x k = 1 → hg k = true) ∧ (dig x k = 2 → pl k = true ∨ pw k = true)) ∧
  (∀ x, CN nb hg pl x → al x = true → can x = true) ∧
  (∀ x, x < 3 ^ nb → can x = true → can (piA nb pw x) = true) ∧
  (∀ x, x < 3 ^ nb → can x = true → go x = true → piA nb pw x = g ∧ go (piA nb pw x) = true) ∧
  go g = true ∧ CN nb hg pl g ∧ CN nb hg pl org ∧ can org = true
/-- distances to the goal -/
def Ds (nb : Nat) (can go : Nat → Bool) (DM : Nat → Option Nat) : Prop :=
  (∀ y, y < 3 ^ nb → (DM y = some 0 ↔ can y = true ∧ go y = true)) ∧
  (∀ y t, y < 3 ^ nb → DM y = some (t + 1) → ∃ c x, c < 3 * nb ∧ aftM y c = some x ∧ DM x = some t) ∧
  (∀ x c y t, x < 3 ^ nb → c < 3 * nb → DM x = some t → aftM x c = some y → can y = true → ∃ t', DM y = some t' ∧ t' ≤ t + 1) ∧
  (∀ y t, y < 3 ^ nb → DM y = some t → can y = true)
/-- the class's search, at the code cc of the number cur of its queue: queue q, parents p, codes c -/
def BfQ (al : Nat → Bool) (nx : Nat → Nat → Option Nat) (R Q : Nat → Int32) (n org cur cc : Nat) (q p c : Nat → Nat) : Prop :=
  (0 < n ∧ q 0 = org ∧ R org = -3) ∧
  (∀ i, i < n → Q i = nI (q i) ∧ q i < 6561) ∧
  (∀ i j, i < j → j < n → q i ≠ q j) ∧
  (∀ i, 0 < i → i < n → R (q i) = nI (32 * q (p i) + c i) ∧ p i < i ∧ c i < 32 ∧ al (q i) = true ∧ nx (q (p i)) (c i) = some (q i) ∧ (p i < cur ∨ (p i = cur ∧ c i < cc))) ∧
  (∀ i j, 0 < i → i < j → j < n → p i < p j ∨ (p i = p j ∧ c i < c j)) ∧
  (∀ y, y < 6561 → (∀ i, i < n → q i ≠ y) → R y = -1 ∨ (R y = -2 ∧ al y = false)) ∧
  (∀ j c' y, (j < cur ∨ (j = cur ∧ c' < cc)) → j < n → nx (q j) c' = some y → al y = true → ∃ i, i < n ∧ q i = y ∧ (i = 0 ∨ p i < j ∨ (p i = j ∧ c i ≤ c')))
def pit (p : Nat → Nat) : Nat → Nat → Nat
  | 0, i => i
  | t + 1, i => p (pit p t i)
theorem pit_s (p : Nat → Nat) : ∀ t i, pit p (t + 1) i = pit p t (p i)
  | 0, _ => rfl
  | t + 1, i => by
    show p (pit p (t + 1) i) = p (pit p t (p i))
    rw [pit_s p t i]
section Bfs
variable {nb : Nat} {hg pl pw al can go : Nat → Bool} {g org : Nat} {DM : Nat → Option Nat} {R Q : Nat → Int32} {n cur : Nat} {q p c : Nat → Nat}
theorem pi_cn (H : Gr nb hg pl pw al can go g org) {x : Nat} (hx : x < 3 ^ nb) (hc : can x = true) : CN nb hg pl (piA nb pw x) := by
  refine ⟨piA_lt nb pw x, fun k hk => ?_⟩
  have h1 := (H.2.1 x hx hc).2 k hk
  rw [dig_piA pw x hk]
  by_cases hp : dig x k = 2 ∧ pw k = true
  · rw [if_pos hp]
    exact ⟨fun _ => (H.1 k hk hp.2).1, fun z => absurd z (by decide)⟩
  · rw [if_neg hp]
    exact ⟨h1.1, fun z => (h1.2 z).elim id fun y => absurd ⟨z, y⟩ hp⟩
theorem pi_id (H : Gr nb hg pl pw al can go g org) {x : Nat} (hx : CN nb hg pl x) : piA nb pw x = x := by
  refine dig_ext (piA_lt nb pw x) hx.1 fun k hk => ?_
  rw [dig_piA pw x hk, if_neg fun z => (H.1 k hk z.2).2 ((hx.2 k hk).2 z.1)]
theorem d_pi (H : Gr nb hg pl pw al can go g org) (D : Ds nb can go DM) : ∀ t x, x < 3 ^ nb → DM x = some t → ∃ t', t' ≤ t ∧ DM (piA nb pw x) = some t'
  | 0, x, hx, h => by
    obtain ⟨h1, h2⟩ := (D.1 x hx).mp h
    exact ⟨0, Nat.le_refl _, (D.1 _ (piA_lt nb pw x)).mpr ⟨H.2.2.2.1 x hx h1, (H.2.2.2.2.1 x hx h1 h2).2⟩⟩
  | t + 1, x, hx, h => by
    obtain ⟨c, x', hc, ha, hd⟩ := D.2.1 x t hx h
    have hx' := aftM_lt ha hx hc
    obtain ⟨t', ht, hd'⟩ := d_pi H D t x' hx' hd
    obtain ⟨c', hc', -, ha'⟩ := piA_step pw ha hc
    obtain ⟨c2, hc2, ha2⟩ := aftM_back ha' (piA_lt nb pw x) hc'
    obtain ⟨t2, h1, h2⟩ := D.2.2.1 _ c2 _ t' (piA_lt nb pw x') hc2 hd' ha2 (H.2.2.2.1 x hx (D.2.2.2 x _ hx h))
    exact ⟨t2, by omega, h1⟩
theorem nx_cn {x c y : Nat} (hx : CN nb hg pl x) (h : nxC nb hg pl x c = some y) : CN nb hg pl y := by
  obtain ⟨h1, h2, h3, h4⟩ := nxC_some h
  refine ⟨aftM_lt h4 hx.1 (by omega), fun k hk => ?_⟩
  rw [aftM_dig h4]
  by_cases hkb : k = c / 3
  · rw [if_pos hkb, hkb]; exact ⟨h2, h3⟩
  · rw [if_neg hkb]; exact hx.2 k hk
/-- a step of the reference, seen from the class -/
theorem pi_nx (H : Gr nb hg pl pw al can go g org) {x c y : Nat} (hx : CN nb hg pl x) (hc : c < 3 * nb) (h : aftM x c = some y) (hy : can y = true) : ∃ c', c' < 3 * nb ∧ c' ≤ c ∧ nxC nb hg pl x c' = some (piA nb pw y) := by
  have hyl := aftM_lt h hx.1 hc
  obtain ⟨c', h1, h2, h3⟩ := piA_step pw h hc
  rw [pi_id H hx] at h3
  have hcn := pi_cn H hyl hy
  have hd : dig (piA nb pw y) (c' / 3) = c' % 3 := by rw [aftM_dig h3, if_pos rfl]
  have h4 := hcn.2 (c' / 3) (by omega)
  rw [hd] at h4
  exact ⟨c', h1, h2, by unfold nxC; rw [if_pos ⟨by omega, h4.1, h4.2⟩]; exact h3⟩
theorem d_succ (H : Gr nb hg pl pw al can go g org) (D : Ds nb can go DM) {x m : Nat} (hx : CN nb hg pl x) (h : DM x = some (m + 1)) : ∃ c y m', nxC nb hg pl x c = some y ∧ CN nb hg pl y ∧ can y = true ∧ m' ≤ m ∧ DM y = some m' := by
  obtain ⟨c, x', hc, ha, hd⟩ := D.2.1 x m hx.1 h
  have hx' := aftM_lt ha hx.1 hc
  have hcan := D.2.2.2 x' m hx' hd
  obtain ⟨c', -, -, h3⟩ := pi_nx H hx hc ha hcan
  obtain ⟨m', h4, h5⟩ := d_pi H D m x' hx' hd
  exact ⟨c', _, m', h3, pi_cn H hx' hcan, H.2.2.2.1 x' hx' hcan, h4, h5⟩
theorem d_zero (H : Gr nb hg pl pw al can go g org) (D : Ds nb can go DM) {x : Nat} (hx : CN nb hg pl x) (h : DM x = some 0) : x = g := by
  obtain ⟨h1, h2⟩ := (D.1 x hx.1).mp h
  have h3 := (H.2.2.2.2.1 x hx.1 h1 h2).1
  rw [pi_id H hx] at h3
  exact h3
theorem bq_cn (H : Gr nb hg pl pw al can go g org) (B : BfQ al (nxC nb hg pl) R Q n org cur 0 q p c) : ∀ i, i < n → CN nb hg pl (q i) ∧ can (q i) = true := by
  intro i
  induction i using Nat.strongRecOn with
  | ind i ih =>
    intro hi
    by_cases h0 : i = 0
    · rw [h0, B.1.2.1]; exact ⟨H.2.2.2.2.2.2.2.1, H.2.2.2.2.2.2.2.2⟩
    · obtain ⟨-, h1, -, h3, h4, -⟩ := B.2.2.2.1 i (by omega) hi
      have h5 := nx_cn (ih _ h1 (by omega)).1 h4
      exact ⟨h5, H.2.2.1 _ h5 h3⟩
theorem chain_ex (B : BfQ al (nxC nb hg pl) R Q n org cur 0 q p c) : ∀ i, i < n → ∃ k, k ≤ i ∧ pit p k i = 0 ∧ ∀ t, t < k → 0 < pit p t i := by
  intro i
  induction i using Nat.strongRecOn with
  | ind i ih =>
    intro hi
    by_cases h0 : i = 0
    · exact ⟨0, by omega, h0, fun t ht => by omega⟩
    · obtain ⟨-, h1, -⟩ := B.2.2.2.1 i (by omega) hi
      obtain ⟨k, k1, k2, k3⟩ := ih _ h1 (by omega)
      refine ⟨k + 1, by omega, by rw [pit_s]; exact k2, fun t ht => ?_⟩
      cases t with
      | zero => exact Nat.pos_of_ne_zero h0
      | succ t => rw [pit_s]; exact k3 t (by omega)
/-- the chain from the goal back to the start -/
def Chn (g : Nat) (n : Nat) (q p : Nat → Nat) (i0 k : Nat) : Prop := i0 < n ∧ q i0 = g ∧ pit p k i0 = 0 ∧ ∀ t, t < k → 0 < pit p t i0
theorem ch_le {i0 k : Nat} (B : BfQ al (nxC nb hg pl) R Q n org cur 0 q p c) (C : Chn g n q p i0 k) : ∀ t, t ≤ k → pit p t i0 ≤ i0 ∧ (0 < t → pit p t i0 < i0)
  | 0, _ => ⟨Nat.le_refl _, fun h => by omega⟩
  | t + 1, h => by
    have ih := (ch_le B C t (by omega)).1
    have h1 := C.2.2.2 t (by omega)
    have h2 := (B.2.2.2.1 (pit p t i0) h1 (by have := C.1; omega)).2.1
    have e : pit p (t + 1) i0 = p (pit p t i0) := rfl
    rw [e]
    exact ⟨by omega, fun _ => by omega⟩
theorem ch_row {i0 k t : Nat} (B : BfQ al (nxC nb hg pl) R Q n org cur 0 q p c) (C : Chn g n q p i0 k) (ht : t < k) : pit p t i0 < n ∧ 0 < pit p t i0 ∧ pit p (t + 1) i0 < pit p t i0 ∧ pit p (t + 1) i0 < cur ∧ nxC nb hg pl (q (pit p (t + 1) i0)) (c (pit p t i0)) = some (q (pit p t i0)) := by
  have h0 := (ch_le B C t (by omega)).1
  have hn := C.1
  have h1 := C.2.2.2 t ht
  obtain ⟨-, h2, -, -, h3, h4⟩ := B.2.2.2.1 (pit p t i0) h1 (by omega)
  exact ⟨by omega, h1, h2, h4.elim id (fun z => absurd z.2 (Nat.not_lt_zero _)), h3⟩
/-- what was reached from the number j by the code c' stands ahead of what was reached later -/
theorem rank_lt {i iw j c' : Nat} (B : BfQ al (nxC nb hg pl) R Q n org cur 0 q p c) (hi : i < n) (hi0 : 0 < i) (hw : iw < n) (h : iw = 0 ∨ p iw < j ∨ (p iw = j ∧ c iw ≤ c')) (h2 : j < p i ∨ (j = p i ∧ c' < c i)) : iw < i := by
  refine Nat.not_le.mp fun z => ?_
  rcases h with h | h
  · omega
  · rcases Nat.lt_or_eq_of_le z with y | y
    · have r := B.2.2.2.2.1 i iw hi0 y hw
      omega
    · subst y; omega
theorem lemA {i0 k : Nat} (H : Gr nb hg pl pw al can go g org) (D : Ds nb can go DM) (B : BfQ al (nxC nb hg pl) R Q n org cur 0 q p c) (C : Chn g n q p i0 k) : ∀ s, s ≤ k → ∀ iw, iw < pit p s i0 → ∀ m, m ≤ s → DM (q iw) = some m → False
  | 0, _, iw, hw, m, hm, hd => by
    have hm0 : m = 0 := by omega
    subst hm0
    have hw' : iw < i0 := hw
    have e := d_zero H D (bq_cn H B iw (by have := C.1; omega)).1 hd
    exact B.2.2.1 iw i0 hw' C.1 (e.trans C.2.1.symm)
  | s + 1, hs, iw, hw, m, hm, hd => by
    obtain ⟨r1, r2, r3, r4, r5⟩ := ch_row B C (show s < k by omega)
    have hle := ch_le B C (s + 1) hs
    have hn := C.1
    have hcn := (bq_cn H B iw (by omega)).1
    cases m with
    | zero =>
      have e := d_zero H D hcn hd
      exact B.2.2.1 iw i0 (by omega) C.1 (e.trans C.2.1.symm)
    | succ m =>
      obtain ⟨c', y, m', g1, g2, g3, g4, g5⟩ := d_succ H D hcn hd
      obtain ⟨iy, y1, y2, y3⟩ := B.2.2.2.2.2.2 iw c' y (Or.inl (by omega)) (by omega) g1 (H.2.1 y g2.1 g3).1
      have hlt : iy < pit p s i0 := rank_lt B r1 r2 y1 y3 (Or.inl hw)
      exact lemA H D B C s (by omega) iy hlt m' (by omega) (by rw [y2]; exact g5)
theorem lemB {i0 k : Nat} (H : Gr nb hg pl pw al can go g org) (D : Ds nb can go DM) (B : BfQ al (nxC nb hg pl) R Q n org cur 0 q p c) (C : Chn g n q p i0 k) : ∀ s, s ≤ k → ∃ m, m ≤ s ∧ DM (q (pit p s i0)) = some m
  | 0, _ => by
    have h := bq_cn H B i0 C.1
    refine ⟨0, Nat.le_refl _, (D.1 _ h.1.1).mpr ⟨h.2, ?_⟩⟩
    show go (q i0) = true
    rw [C.2.1]; exact H.2.2.2.2.2.1
  | s + 1, hs => by
    obtain ⟨m, hm, hd⟩ := lemB H D B C s (by omega)
    obtain ⟨r1, r2, r3, r4, r5⟩ := ch_row B C (show s < k by omega)
    have h1 := bq_cn H B _ (show pit p (s + 1) i0 < n by omega)
    have h2 := bq_cn H B _ r1
    obtain ⟨c1, -, -, c4⟩ := nxC_some r5
    obtain ⟨c2, hc2, ha2⟩ := aftM_back c4 h1.1.1 (by omega)
    obtain ⟨t', g1, g2⟩ := D.2.2.1 _ c2 _ m h2.1.1 hc2 hd ha2 h1.2
    exact ⟨t', by omega, g1⟩
theorem lemC {i0 k : Nat} (H : Gr nb hg pl pw al can go g org) (D : Ds nb can go DM) (B : BfQ al (nxC nb hg pl) R Q n org cur 0 q p c) (C : Chn g n q p i0 k) {s : Nat} (hs : s ≤ k) : DM (q (pit p s i0)) = some s := by
  obtain ⟨m, hm, hd⟩ := lemB H D B C s hs
  rcases Nat.lt_or_eq_of_le hm with hlt | he
  · exfalso
    have hle := ch_le B C s hs
    have hn := C.1
    have hcn := (bq_cn H B (pit p s i0) (by omega)).1
    cases m with
    | zero =>
      have e := d_zero H D hcn hd
      exact B.2.2.1 _ i0 (hle.2 hlt) C.1 (e.trans C.2.1.symm)
    | succ m =>
      obtain ⟨s', rfl⟩ : ∃ s', s = s' + 2 := ⟨s - 2, by omega⟩
      obtain ⟨r1, r2, r3, r4, r5⟩ := ch_row B C (show s' + 1 < k by omega)
      obtain ⟨t1, t2, t3, t4, t5⟩ := ch_row B C (show s' < k by omega)
      obtain ⟨c', y, m', g1, g2, g3, g4, g5⟩ := d_succ H D hcn hd
      obtain ⟨iy, y1, y2, y3⟩ := B.2.2.2.2.2.2 _ c' y (Or.inl r4) (by omega) g1 (H.2.1 y g2.1 g3).1
      have hlt2 : iy < pit p s' i0 := rank_lt B t1 t2 y1 y3 (Or.inl r3)
      exact lemA H D B C s' (by omega) iy hlt2 m' (by omega) (by rw [y2]; exact g5)
  · rw [hd, he]
/-- the class's step is the least code that leads nearer -/
theorem lemG {i0 k : Nat} (H : Gr nb hg pl pw al can go g org) (D : Ds nb can go DM) (B : BfQ al (nxC nb hg pl) R Q n org cur 0 q p c) (C : Chn g n q p i0 k) {s : Nat} (hs : s < k) : ∀ c', c' < c (pit p s i0) → ∀ y, aftM (q (pit p (s + 1) i0)) c' = some y → DM y = some s → False := by
  intro c' hc' y ha hd
  obtain ⟨r1, r2, r3, r4, r5⟩ := ch_row B C hs
  have hcn := (bq_cn H B (pit p (s + 1) i0) (by omega)).1
  obtain ⟨n1, -, -, -⟩ := nxC_some r5
  have hc3 : c' < 3 * nb := by omega
  have hyl := aftM_lt ha hcn.1 hc3
  have hcan := D.2.2.2 y s hyl hd
  obtain ⟨c2, g1, g2, g3⟩ := pi_nx H hcn hc3 ha hcan
  obtain ⟨m', h4, h5⟩ := d_pi H D s y hyl hd
  have hy2 := H.2.2.2.1 y hyl hcan
  obtain ⟨iy, y1, y2, y3⟩ := B.2.2.2.2.2.2 _ c2 _ (Or.inl r4) (by omega) g3 (H.2.1 _ (piA_lt nb pw y) hy2).1
  have hlt : iy < pit p s i0 := rank_lt B r1 r2 y1 y3 (Or.inr ⟨rfl, by omega⟩)
  exact lemA H D B C s (by omega) iy hlt m' h4 (by rw [y2]; exact h5)
theorem no_way (H : Gr nb hg pl pw al can go g org) (D : Ds nb can go DM) (B : BfQ al (nxC nb hg pl) R Q n org cur 0 q p c) (hcl : n ≤ cur) (hr : ∀ i, i < n → q i ≠ g) : DM org = none := by
  have key : ∀ m i, i < n → DM (q i) = some m → False := by
    intro m
    induction m using Nat.strongRecOn with
    | ind m ih =>
      intro i hi hd
      have hcn := (bq_cn H B i hi).1
      cases m with
      | zero => exact hr i hi (d_zero H D hcn hd)
      | succ m =>
        obtain ⟨c', y, m', g1, g2, g3, g4, g5⟩ := d_succ H D hcn hd
        obtain ⟨iy, y1, y2, y3⟩ := B.2.2.2.2.2.2 _ c' y (Or.inl (by omega)) hi g1 (H.2.1 y g2.1 g3).1
        exact ih m' (by omega) iy y1 (by rw [y2]; exact g5)
  cases hx : DM org with
  | none => rfl
  | some m => exact absurd (key m 0 B.1.1 (by rw [B.1.2.1]; exact hx)) id
theorem no_goal (H : Gr nb hg pl pw al can go g org) (D : Ds nb can go DM) (hal : al g = false) : DM org = none := by
  have key : ∀ m x, CN nb hg pl x → DM x = some m → False := by
    intro m
    induction m using Nat.strongRecOn with
    | ind m ih =>
      intro x hcn hd
      cases m with
      | zero =>
        have e := d_zero H D hcn hd
        have h1 := ((D.1 x hcn.1).mp hd).1
        rw [e] at h1
        have h2 := (H.2.1 g H.2.2.2.2.2.2.1.1 h1).1
        rw [hal] at h2; cases h2
      | succ m =>
        obtain ⟨c', y, m', g1, g2, g3, g4, g5⟩ := d_succ H D hcn hd
        exact ih m' (by omega) y g2 g5
  cases hx : DM org with
  | none => rfl
  | some m => exact absurd (key m org H.2.2.2.2.2.2.2.1 hx) id
end Bfs
section Bstep
variable {al : Nat → Bool} {nx : Nat → Nat → Option Nat} {R Q : Nat → Int32} {n org cur cc x y : Nat}
def BfI (al : Nat → Bool) (nx : Nat → Nat → Option Nat) (R Q : Nat → Int32) (n org cur cc : Nat) : Prop := n ≤ 6561 ∧ ∃ q p c, BfQ al nx R Q n org cur cc q p c
/-- a code that is no step -/
theorem bf_skip (h : BfI al nx R Q n org cur cc) (hx : Q cur = nI x) (hxl : x < 6561) (hc : cur < n) (hn : nx x cc = none) : BfI al nx R Q n org cur (cc + 1) := by
  obtain ⟨hn9, q, p, c, h1, h2, h3, h4, h5, h6, h7⟩ := h
  have eq : q cur = x := (nI_eq (by have := (h2 cur hc).2; omega) (by omega)).mp ((h2 cur hc).1.symm.trans hx)
  refine ⟨hn9, q, p, c, h1, h2, h3, fun i i0 i1 => ?_, h5, h6, fun j c' y hj hjn hy hal => ?_⟩
  · obtain ⟨a1, a2, a3, a4, a5, a6⟩ := h4 i i0 i1
    exact ⟨a1, a2, a3, a4, a5, by omega⟩
  · by_cases e : j = cur ∧ c' = cc
    · rw [e.1, e.2, eq, hn] at hy; cases hy
    · exact h7 j c' y (by omega) hjn hy hal
/-- a step: to what was seen, what is not allowed, what is new -/
theorem bf_step (h : BfI al nx R Q n org cur cc) (hx : Q cur = nI x) (hxl : x < 6561) (hc : cur < n) (hcc : cc < 32) (hn : nx x cc = some y) (hy : y < 6561) :
    (¬ R y = -1 → BfI al nx R Q n org cur (cc + 1)) ∧ (R y = -1 → al y = false → BfI al nx (upd R y (-2)) Q n org cur (cc + 1)) ∧
    (R y = -1 → al y = true → n < 6561 ∧ BfI al nx (upd R y (nI (32 * x + cc))) (upd Q n (nI y)) (n + 1) org cur (cc + 1)) := by
  obtain ⟨hn9, q, p, c, h1, h2, h3, h4, h5, h6, h7⟩ := h
  have eq : q cur = x := (nI_eq (by have := (h2 cur hc).2; omega) (by omega)).mp ((h2 cur hc).1.symm.trans hx)
  have unseen : R y = -1 → ∀ i, i < n → q i ≠ y := fun hr i hi e => by
    by_cases h0 : i = 0
    · rw [h0, h1.2.1] at e
      rw [← e, h1.2.2] at hr
      exact absurd hr (by decide)
    · have a1 := (h4 i (by omega) hi).1
      rw [e, hr] at a1
      have b1 := (h2 (p i) (by have := (h4 i (by omega) hi).2.1; omega)).2
      have b2 := (h4 i (by omega) hi).2.2.1
      exact nI_ne_neg (by omega) a1.symm
  refine ⟨fun hr => ?_, fun hr hal => ?_, fun hr hal => ?_⟩
  · refine ⟨hn9, q, p, c, h1, h2, h3, fun i i0 i1 => ?_, h5, h6, fun j c' y' hj hjn hy' hal' => ?_⟩
    · obtain ⟨a1, a2, a3, a4, a5, a6⟩ := h4 i i0 i1
      exact ⟨a1, a2, a3, a4, a5, by omega⟩
    · by_cases e : j = cur ∧ c' = cc
      · rw [e.1, e.2, eq, hn] at hy'
        have ey := Option.some.inj hy'
        subst ey
        have hin : ∃ i, i < n ∧ q i = y := by
          refine Classical.byContradiction fun z => ?_
          rcases h6 y hy (fun i hi e2 => z ⟨i, hi, e2⟩) with r | ⟨-, r⟩
          · exact hr r
          · rw [hal'] at r; cases r
        obtain ⟨i, hi, e2⟩ := hin
        refine ⟨i, hi, e2, ?_⟩
        by_cases h0 : i = 0
        · exact Or.inl h0
        · have a6 := (h4 i (by omega) hi).2.2.2.2.2
          omega
      · exact h7 j c' y' (by omega) hjn hy' hal'
  · have hu := unseen hr
    have eR : ∀ i, i < n → upd R y (-2) (q i) = R (q i) := fun i hi => if_neg (hu i hi)
    refine ⟨hn9, q, p, c, ⟨h1.1, h1.2.1, ?_⟩, h2, h3, fun i i0 i1 => ?_, h5, fun y' hy' hny => ?_, fun j c' y' hj hjn hy' hal' => ?_⟩
    · have := eR 0 h1.1
      rw [h1.2.1] at this
      rw [this]; exact h1.2.2
    · obtain ⟨a1, a2, a3, a4, a5, a6⟩ := h4 i i0 i1
      exact ⟨by rw [eR i i1]; exact a1, a2, a3, a4, a5, by omega⟩
    · by_cases e : y' = y
      · subst e
        exact Or.inr ⟨if_pos rfl, hal⟩
      · have : upd R y (-2) y' = R y' := if_neg e
        rw [this]; exact h6 y' hy' hny
    · by_cases e : j = cur ∧ c' = cc
      · rw [e.1, e.2, eq, hn] at hy'
        have ey := Option.some.inj hy'
        subst ey
        rw [hal] at hal'; cases hal'
      · exact h7 j c' y' (by omega) hjn hy' hal'
  · have hu := unseen hr
    have hlt : n < 6561 := by
      refine fb_holes 6561 (n + 1) (fun i => if i = n then y else q i) (fun i hi => ?_) (fun i j hij hj => ?_)
      · show (if i = n then y else q i) < 6561
        by_cases e : i = n
        · rw [if_pos e]; exact hy
        · rw [if_neg e]; exact (h2 i (by omega)).2
      · show (if i = n then y else q i) ≠ (if j = n then y else q j)
        rw [if_neg (by omega : ¬ i = n)]
        by_cases e : j = n
        · rw [if_pos e]; exact hu i (by omega)
        · rw [if_neg e]; exact h3 i j hij (by omega)
    have eR : ∀ i, i < n → upd R y (nI (32 * x + cc)) (q i) = R (q i) := fun i hi => if_neg (hu i hi)
    have q1 : ∀ i, i < n → (fun i => if i = n then y else q i) i = q i := fun i hi => if_neg (by omega)
    have p1 : ∀ i, i < n → (fun i => if i = n then cur else p i) i = p i := fun i hi => if_neg (by omega)
    have c1 : ∀ i, i < n → (fun i => if i = n then cc else c i) i = c i := fun i hi => if_neg (by omega)
    have qn : (fun i => if i = n then y else q i) n = y := if_pos rfl
    have pn : (fun i => if i = n then cur else p i) n = cur := if_pos rfl
    have cn : (fun i => if i = n then cc else c i) n = cc := if_pos rfl
    refine ⟨hlt, by omega, (fun i => if i = n then y else q i), (fun i => if i = n then cur else p i), (fun i => if i = n then cc else c i), ⟨by omega, ?_, ?_⟩, fun i hi => ?_, fun i j hij hj => ?_, fun i i0 i1 => ?_, fun i j i0 hij hj => ?_, fun y' hy' hny => ?_, fun j c' y' hj hjn hy' hal' => ?_⟩
    · rw [q1 0 h1.1]; exact h1.2.1
    · have := eR 0 h1.1
      rw [h1.2.1] at this
      rw [this]; exact h1.2.2
    · by_cases e : i = n
      · subst e
        rw [qn]; exact ⟨if_pos rfl, hy⟩
      · rw [q1 i (by omega)]
        have : upd Q n (nI y) i = Q i := if_neg e
        rw [this]; exact h2 i (by omega)
    · rw [q1 i (by omega)]
      by_cases e : j = n
      · subst e; rw [qn]; exact hu i hij
      · rw [q1 j (by omega)]; exact h3 i j hij (by omega)
    · by_cases e : i = n
      · subst e
        rw [qn, pn, cn, q1 cur hc, eq]
        exact ⟨if_pos rfl, hc, hcc, hal, hn, Or.inr ⟨rfl, by omega⟩⟩
      · have hi : i < n := by omega
        obtain ⟨a1, a2, a3, a4, a5, a6⟩ := h4 i i0 hi
        rw [q1 i hi, p1 i hi, c1 i hi, q1 (p i) (by omega), eR i hi]
        exact ⟨a1, a2, a3, a4, a5, by omega⟩
    · rw [p1 i (by omega), c1 i (by omega)]
      by_cases e : j = n
      · subst e
        rw [pn, cn]
        have a6 := (h4 i i0 hij).2.2.2.2.2
        omega
      · rw [p1 j (by omega), c1 j (by omega)]; exact h5 i j i0 hij (by omega)
    · have e : ¬ y' = y := fun e => by
        have := hny n (by omega)
        rw [qn] at this
        exact this e.symm
      have e2 : upd R y (nI (32 * x + cc)) y' = R y' := if_neg e
      rw [e2]
      exact h6 y' hy' fun i hi => by
        have := hny i (by omega)
        rw [q1 i hi] at this
        exact this
    · have hjn' : j < n := by omega
      rw [q1 j hjn'] at hy'
      by_cases e : j = cur ∧ c' = cc
      · rw [e.1, e.2, eq, hn] at hy'
        have ey := Option.some.inj hy'
        subst ey
        exact ⟨n, by omega, qn, by rw [pn, cn]; omega⟩
      · obtain ⟨i, g1, g2, g3⟩ := h7 j c' y' (by omega) hjn' hy' hal'
        exact ⟨i, by omega, by rw [q1 i g1]; exact g2, by rw [p1 i g1, c1 i g1]; exact g3⟩
theorem bf_next (h : BfI al nx R Q n org cur cc) (hx : Q cur = nI x) (hxl : x < 6561) (hc : cur < n) (hn : ∀ c', cc ≤ c' → nx x c' = none) : BfI al nx R Q n org (cur + 1) 0 := by
  obtain ⟨hn9, q, p, c, h1, h2, h3, h4, h5, h6, h7⟩ := h
  have eq : q cur = x := (nI_eq (by have := (h2 cur hc).2; omega) (by omega)).mp ((h2 cur hc).1.symm.trans hx)
  refine ⟨hn9, q, p, c, h1, h2, h3, fun i i0 i1 => ?_, h5, h6, fun j c' y hj hjn hy hal => ?_⟩
  · obtain ⟨a1, a2, a3, a4, a5, a6⟩ := h4 i i0 i1
    exact ⟨a1, a2, a3, a4, a5, by omega⟩
  · by_cases e : j = cur
    · by_cases e2 : c' < cc
      · exact h7 j c' y (Or.inr ⟨e, e2⟩) hjn hy hal
      · rw [e, eq, hn c' (by omega)] at hy; cases hy
    · exact h7 j c' y (Or.inl (by omega)) hjn hy hal
theorem bf_start (ho : org < 6561) (hR : ∀ y, y < 6561 → ¬ y = org → R y = -1) (hR0 : R org = -3) (hQ : Q 0 = nI org) : BfI al nx R Q 1 org 0 0 := by
  refine ⟨by omega, fun _ => org, fun _ => 0, fun _ => 0, ⟨by omega, rfl, hR0⟩, fun i hi => ?_, fun i j h1 h2 => by omega, fun i h1 h2 => by omega, fun i j h1 h2 h3 => by omega, fun y hy h => Or.inl (hR y hy (fun e => h 0 (by omega) e.symm)), fun j c' y h => by omega⟩
  have e : i = 0 := by omega
  subst e
  exact ⟨hQ, ho⟩
end Bstep
