/-! ===== what always holds between two calls ===== -/
theorem rel_51 {k j : Nat} (hk : k < 12) : rel (51 + k) j = true := by
  match k, hk with
  | 0, _ => rfl
  | 1, _ => rfl
  | 2, _ => rfl
  | 3, _ => rfl
  | 4, _ => rfl
  | 5, _ => rfl
  | 6, _ => rfl
  | 7, _ => rfl
  | 8, _ => rfl
  | 9, _ => rfl
  | 10, _ => rfl
  | 11, _ => rfl
/-- a bell, as the class holds it and as the reference holds it; nm beams -/
def RB (nm : Nat) (c m : Nat → Int32) : Prop :=
  (c 0 = m 0 ∧ (c 0 = -1 ∨ ∃ i, i < nm ∧ c 0 = nI i)) ∧ (¬ c 0 = -1 → c 1 = m 1 ∧ inR (-15) 15 (c 1)) ∧
  (c 2 = m 2 ∧ (c 2 = -1 ∨ ∃ i, i < nm ∧ c 2 = nI i)) ∧ (¬ c 2 = -1 → c 3 = m 3 ∧ inR (-15) 15 (c 3)) ∧ (∃ s, s < 1000 ∧ c 4 = nI s) ∧
  ((c 5 = 0 ∧ m 5 = -1) ∨ ∃ a, 1 ≤ a ∧ a ≤ 15 ∧ c 5 = nI a ∧ m 5 = nI a ∧ c 4 = m 4) ∧
  ((c 7 = 0 ∧ m 7 = -1) ∨ ∃ f i, f < 1440 ∧ 1 ≤ i ∧ i ≤ 1440 ∧ c 6 = nI f ∧ m 6 = nI f ∧ c 7 = nI i ∧ m 7 = nI i)
theorem RB.congr {nm : Nat} {c m c' m' : Nat → Int32} (h : RB nm c m) (hc : ∀ s, s < 8 → c' s = c s) (hm : ∀ s, s < 8 → m' s = m s) : RB nm c' m' := by
  unfold RB at h ⊢
  rw [hc 0 (by decide), hc 1 (by decide), hc 2 (by decide), hc 3 (by decide), hc 4 (by decide), hc 5 (by decide), hc 6 (by decide), hc 7 (by decide), hm 0 (by decide), hm 1 (by decide), hm 2 (by decide), hm 3 (by decide), hm 4 (by decide), hm 5 (by decide), hm 6 (by decide), hm 7 (by decide)]
  exact h
/-- all bells; the beams are clear and balanced -/
def SR (nb nm : Nat) (rad w lim : Nat → Int32) (c m : Nat → Nat → Int32) : Prop :=
  (∀ k, k < nb → RB nm (c k) (m k)) ∧ (∀ k o, k < nb → o < k → ¬ c k 0 = -1 → c k 0 = c o 0 → ¬ absI (c k 1 - c o 1) < rad k + rad o) ∧
  ∀ b, b < nm → ¬ lim b < absI (mo nb (fun k => c k 0) (fun k => c k 1) w (nI b) (fun _ => false))
theorem SR.congr {nb nm : Nat} {rad w lim rad' w' lim' : Nat → Int32} {c m c' m' : Nat → Nat → Int32} (h : SR nb nm rad w lim c m) (hc : ∀ k s, k < nb → s < 8 → c' k s = c k s) (hm : ∀ k s, k < nb → s < 8 → m' k s = m k s) (hr : ∀ k, k < nb → rad' k = rad k) (hw : ∀ k, k < nb → w' k = w k) (hl : ∀ b, b < nm → lim' b = lim b) : SR nb nm rad' w' lim' c' m' := by
  obtain ⟨h1, h2, h3⟩ := h
  refine ⟨fun k hk => (h1 k hk).congr (fun s hs => hc k s hk hs) (fun s hs => hm k s hk hs), fun k o hk ho => ?_, fun b hb => ?_⟩
  · rw [hc k 0 hk (by decide), hc o 0 (by omega) (by decide), hc k 1 hk (by decide), hc o 1 (by omega) (by decide), hr k hk, hr o (by omega)]
    exact h2 k o hk ho
  · have e : mo nb (fun k => c' k 0) (fun k => c' k 1) w' (nI b) (fun _ => false) = mo nb (fun k => c k 0) (fun k => c k 1) w (nI b) (fun _ => false) := sumN_congr fun k hk => by
      simp only [hc k 0 hk (by decide), hc k 1 hk (by decide), hw k hk]
    rw [e, hl b hb]; exact h3 b hb
/-- the class's bells, the reference's bells -/
abbrev cS (mm : Nat → Nat → Int32) : Nat → Nat → Int32 := fun k s => mm (23 + k) s
abbrev mS (mm : Nat → Nat → Int32) : Nat → Nat → Int32 := fun k s => mm 64 (10 * k + s)
/-- the class's bells before the latest j of n actions, the oldest of which lies in o0 -/
def unC (mm : Nat → Nat → Int32) (o0 n : Nat) : Nat → Nat → Nat → Int32
  | 0 => cS mm
  | j + 1 => fun k s => if nI k = mm 49 ((o0 + (n - (j + 1))) % 12) then mm (51 + (o0 + (n - (j + 1))) % 12) s else unC mm o0 n j k s
def InvN (mm : Nat → Nat → Int32) (nb nm nq np : Nat) : Prop :=
  (mm 4 9 = nI nb ∧ mm 63 8 = nI nb ∧ nb ≤ 8) ∧ (mm 4 8 = nI nm ∧ mm 63 5 = nI nm ∧ nm ≤ 4) ∧ (mm 4 10 = nI nq ∧ mm 63 12 = nI nq ∧ nq ≤ 6) ∧ (mm 4 11 = nI np ∧ mm 63 15 = nI np ∧ np ≤ 8) ∧ (mm 63 3 = 0 ↔ mm 0 10 = 0)
def InvW (mm : Nat → Nat → Int32) (nb nm nq np : Nat) : Prop :=
  (∀ i, i < nm → (mm 5 i = mm 66 i ∧ ∃ h, 300 ≤ h ∧ h ≤ 5000 ∧ mm 5 i = nI h) ∧ mm 6 i = mm 67 i ∧ ∃ l, l ≤ 50000 ∧ mm 6 i = nI l) ∧
  (∀ k, k < nb → (mm 7 k = mm 68 k ∧ ∃ w, 10 ≤ w ∧ w ≤ 3000 ∧ mm 7 k = nI w) ∧ (mm 8 k = mm 69 k ∧ ∃ r, 2 ≤ r ∧ r ≤ 10 ∧ mm 8 k = nI r) ∧ mm 9 k = mm 70 k ∧ ∃ p, 4 ≤ p ∧ p ≤ 40 ∧ mm 9 k = nI p) ∧
  (∀ i, i < nq → (mm 10 i = mm 71 i ∧ ∃ a, a < 1440 ∧ mm 10 i = nI a) ∧ mm 11 i = mm 72 i ∧ ∃ a, a ≤ 1440 ∧ mm 11 i = nI a) ∧
  (∀ i, i < np → mm 12 i = mm 73 i ∧ ∃ l, 100 ≤ l ∧ l ≤ 9999 ∧ mm 12 i = nI l) ∧
  ∀ m, m < 1440 → mm 43 m = if qtB (mm 10) (mm 11) nq m = true then 1 else 0
def InvT (mm : Nat → Nat → Int32) : Prop :=
  ∃ tl, tl ≤ 400 ∧ mm 1 2 = nI tl ∧ mm 63 18 = nI tl ∧ mm 1 3 = mm 63 25 ∧ ∀ i, i < tl → ∃ b, b < 256 ∧ mm 74 i = nI b ∧ mm 2 i = if b < 128 then nI b else nI b - 256
def InvH (mm : Nat → Nat → Int32) (nb nm : Nat) : Prop :=
  SR nb nm (mm 8) (mm 7) (mm 6) (cS mm) (mS mm) ∧ ∃ o0 n, o0 < 12 ∧ n ≤ 12 ∧ mm 48 2 = nI o0 ∧ mm 48 3 = nI n ∧ mm 63 2 = nI n ∧
    ∀ j, j < n → (∃ b, b < nb ∧ mm 49 ((o0 + (n - (j + 1))) % 12) = nI b) ∧ SR nb nm (mm 8) (mm 7) (mm 6) (unC mm o0 n (j + 1)) (fun k s => mm 65 (80 * (n - (j + 1)) + (10 * k + s)))
def Inv (mm : Nat → Nat → Int32) : Prop := InvT mm ∧ ∃ nb nm nq np, InvN mm nb nm nq np ∧ InvW mm nb nm nq np ∧ InvH mm nb nm
/-- what no action writes -/
def relT (c j : Nat) : Bool := (c == 0 || c == 2 || (4 ≤ c && c ≤ 12) || c == 43 || (66 ≤ c && c ≤ 74)) || (c == 1 && (j == 2 || j == 3)) || (c == 63 && (j == 3 || j == 5 || j == 8 || j == 12 || j == 15 || j == 18 || j == 25))
def EqT (mm mm' : Nat → Nat → Int32) : Prop := ∀ c j, relT c j = true → mm' c j = mm c j
theorem relT_rel {c j : Nat} (h : relT c j = true) : rel c j = true := by
  simp only [relT, rel, relc, Bool.or_eq_true, Bool.and_eq_true, decide_eq_true_eq, beq_iff_eq] at h ⊢
  omega
theorem EqR.t {mm mm' : Nat → Nat → Int32} (e : EqR mm mm') : EqT mm mm' := fun c j h => e c j (relT_rel h)
theorem InvN.congr {mm mm' : Nat → Nat → Int32} {nb nm nq np : Nat} (h : InvN mm nb nm nq np) (e : EqT mm mm') : InvN mm' nb nm nq np := by
  unfold InvN at h ⊢
  rw [e 4 9 rfl, e 63 8 rfl, e 4 8 rfl, e 63 5 rfl, e 4 10 rfl, e 63 12 rfl, e 4 11 rfl, e 63 15 rfl, e 63 3 rfl, e 0 10 rfl]
  exact h
theorem eqR_row {mm mm' : Nat → Nat → Int32} (e : EqR mm mm') {c : Nat} (hc : ∀ j, rel c j = true) : mm' c = mm c := funext fun j => e c j (hc j)
theorem eqT_row {mm mm' : Nat → Nat → Int32} (e : EqT mm mm') {c : Nat} (hc : ∀ j, relT c j = true) : mm' c = mm c := funext fun j => e c j (hc j)
theorem InvW.congr {mm mm' : Nat → Nat → Int32} {nb nm nq np : Nat} (h : InvW mm nb nm nq np) (e : EqT mm mm') : InvW mm' nb nm nq np := by
  unfold InvW at h ⊢
  rw [eqT_row e (c := 5) (fun _ => rfl), eqT_row e (c := 66) (fun _ => rfl), eqT_row e (c := 6) (fun _ => rfl), eqT_row e (c := 67) (fun _ => rfl), eqT_row e (c := 7) (fun _ => rfl), eqT_row e (c := 68) (fun _ => rfl), eqT_row e (c := 8) (fun _ => rfl), eqT_row e (c := 69) (fun _ => rfl), eqT_row e (c := 9) (fun _ => rfl), eqT_row e (c := 70) (fun _ => rfl),
    eqT_row e (c := 10) (fun _ => rfl), eqT_row e (c := 71) (fun _ => rfl), eqT_row e (c := 11) (fun _ => rfl), eqT_row e (c := 72) (fun _ => rfl), eqT_row e (c := 12) (fun _ => rfl), eqT_row e (c := 73) (fun _ => rfl), eqT_row e (c := 43) (fun _ => rfl)]
  exact h
theorem InvT.congr {mm mm' : Nat → Nat → Int32} (h : InvT mm) (e : EqT mm mm') : InvT mm' := by
  unfold InvT at h ⊢
  rw [e 1 2 rfl, e 63 18 rfl, e 1 3 rfl, e 63 25 rfl, eqT_row e (c := 74) (fun _ => rfl), eqT_row e (c := 2) (fun _ => rfl)]
  exact h
theorem unC_congr {mm mm' : Nat → Nat → Int32} {o0 n : Nat} (e49 : mm' 49 = mm 49) (e51 : ∀ i, i < 12 → mm' (51 + i) = mm (51 + i)) (hc : ∀ k s, k < 8 → mm' (23 + k) s = mm (23 + k) s) : ∀ j k s, k < 8 → unC mm' o0 n j k s = unC mm o0 n j k s
  | 0, k, s, hk => hc k s hk
  | j + 1, k, s, hk => by
    have hsl : (o0 + (n - (j + 1))) % 12 < 12 := Nat.mod_lt _ (by omega)
    simp only [unC]
    rw [e49, e51 _ hsl, unC_congr e49 e51 hc j k s hk]
theorem InvH.congr {mm mm' : Nat → Nat → Int32} {nb nm : Nat} (hb : nb ≤ 8) (h : InvH mm nb nm) (e : EqR mm mm') : InvH mm' nb nm := by
  obtain ⟨h1, o0, n, ho, hn, h2, h3, h4, h5⟩ := h
  have e64 := eqR_row e (c := 64) (fun _ => rfl)
  have e65 := eqR_row e (c := 65) (fun _ => rfl)
  have e49 := eqR_row e (c := 49) (fun _ => rfl)
  have e6 := eqR_row e (c := 6) (fun _ => rfl)
  have e7 := eqR_row e (c := 7) (fun _ => rfl)
  have e8 := eqR_row e (c := 8) (fun _ => rfl)
  refine ⟨h1.congr (fun k s hk _ => e _ _ (rel_b (by omega))) (fun k s _ _ => by simp only [mS, e64]) (fun k _ => by rw [e8]) (fun k _ => by rw [e7]) (fun b _ => by rw [e6]), o0, n, ho, hn, (e 48 2 rfl).trans h2, (e 48 3 rfl).trans h3, (e 63 2 rfl).trans h4, fun j hj => ?_⟩
  obtain ⟨⟨b, hb2, hb3⟩, h6⟩ := h5 j hj
  refine ⟨⟨b, hb2, by rw [e49]; exact hb3⟩, h6.congr (fun k s hk _ => unC_congr e49 (fun i hi => eqR_row e (fun j => rel_51 hi)) (fun k s hk => e _ _ (rel_b hk)) _ k s (by omega)) (fun k s _ _ => by rw [e65]) (fun k _ => by rw [e8]) (fun k _ => by rw [e7]) (fun b _ => by rw [e6])⟩
theorem Inv.congr {mm mm' : Nat → Nat → Int32} (h : Inv mm) (e : EqR mm mm') : Inv mm' := by
  obtain ⟨h1, nb, nm, nq, np, h2, h3, h4⟩ := h
  exact ⟨h1.congr e.t, nb, nm, nq, np, h2.congr e.t, h3.congr e.t, h4.congr h2.1.2.2 e⟩
theorem inv_bas : Bas Inv := fun mm h => by
  have h0 := h
  obtain ⟨h1, nb, nm, nq, np, h2, h3, h4⟩ := h
  exact ⟨h2.2.2.2.2, h2.1.2.1.trans h2.1.1.symm, h2.2.1.2.1.trans h2.2.1.1.symm, fun t => h0.congr (EqR.refl.mset rfl)⟩
/-- agreement but for cells of the reference that don't count -/
theorem eqR_of {mm mm' : Nat → Nat → Int32} {S : Nat → Prop} (h : ∀ c, ¬ S c → mm' c = mm c) (hS : ∀ c j, S c → rel c j = false) : EqR mm mm' := fun c j hc => by
  rw [h c (fun z => by rw [hS c j z] at hc; cases hc)]
