/-! ===== plain words for the contracts: loops upward, counts, sums, truth as a number ===== -/
theorem loop_up {P : Nat → Prop} {n : Nat} (hend : P n) (hstep : ∀ k, k < n → P (k + 1) → P k) : ∀ k, k ≤ n → P k := by
  have key : ∀ d k, k + d = n → P k := by
    intro d
    induction d with
    | zero =>
      intro k h
      have : k = n := by omega
      rw [this]; exact hend
    | succ d ih => intro k h; exact hstep k (by omega) (ih (k + 1) (by omega))
  exact fun k h => key (n - k) k (by omega)
def bI (p : Prop) [Decidable p] : Int32 := if p then 1 else 0
theorem bI_t {p : Prop} [Decidable p] (h : p) : bI p = 1 := if_pos h
theorem bI_f {p : Prop} [Decidable p] (h : ¬ p) : bI p = 0 := if_neg h
theorem bI_0 {p : Prop} [Decidable p] : bI p = 0 ↔ ¬ p := by
  by_cases h : p <;> simp [bI, h]
theorem bI_1 {p : Prop} [Decidable p] : ¬ bI p = 0 ↔ p := by
  by_cases h : p <;> simp [bI, h]
theorem bI_b {p : Prop} [Decidable p] : narrow .boolean (.int (bI p)) = .int (bI p) := by
  by_cases h : p <;> simp only [bI, h, if_true, if_false] <;> rfl
theorem bI_congr {p q : Prop} [Decidable p] [Decidable q] (h : p ↔ q) : bI p = bI q := by
  by_cases hp : p
  · rw [bI_t hp, bI_t (h.mp hp)]
  · rw [bI_f hp, bI_f (fun z => hp (h.mpr z))]
def cntN (p : Nat → Bool) : Nat → Nat
  | 0 => 0
  | n + 1 => cntN p n + (if p n then 1 else 0)
theorem cntN_le (p : Nat → Bool) : ∀ n, cntN p n ≤ n
  | 0 => Nat.le_refl _
  | n + 1 => by have := cntN_le p n; simp only [cntN]; split <;> omega
theorem cntN_congr {p q : Nat → Bool} : ∀ {n : Nat}, (∀ k, k < n → p k = q k) → cntN p n = cntN q n
  | 0, _ => rfl
  | n + 1, h => by
    simp only [cntN]
    rw [cntN_congr (fun k hk => h k (by omega)), h n (by omega)]
def sumN (f : Nat → Int32) : Nat → Int32
  | 0 => 0
  | n + 1 => sumN f n + f n
theorem sumN_congr {f g : Nat → Int32} : ∀ {n : Nat}, (∀ k, k < n → f k = g k) → sumN f n = sumN g n
  | 0, _ => rfl
  | n + 1, h => by
    simp only [sumN]
    rw [sumN_congr (fun k hk => h k (by omega)), h n (by omega)]
/-- a set of numbers below n, as a mask -/
def orN (p : Nat → Bool) : Nat → Int32
  | 0 => 0
  | n + 1 => orN p n ||| (if p n then (1 <<< (nI n &&& 31)) else 0)
theorem orN_congr {p q : Nat → Bool} : ∀ {n : Nat}, (∀ k, k < n → p k = q k) → orN p n = orN q n
  | 0, _ => rfl
  | n + 1, h => by
    simp only [orN]
    rw [orN_congr (fun k hk => h k (by omega)), h n (by omega)]
def allN (p : Nat → Bool) : Nat → Bool
  | 0 => true
  | n + 1 => allN p n && p n
theorem allN_iff {p : Nat → Bool} : ∀ {n : Nat}, allN p n = true ↔ ∀ k, k < n → p k = true
  | 0 => ⟨fun _ k hk => absurd hk (Nat.not_lt_zero k), fun _ => rfl⟩
  | n + 1 => by
    simp only [allN, Bool.and_eq_true, allN_iff (n := n)]
    refine ⟨fun h k hk => ?_, fun h => ⟨fun k hk => h k (by omega), h n (by omega)⟩⟩
    rcases Nat.lt_succ_iff_lt_or_eq.mp hk with h2 | rfl
    · exact h.1 k h2
    · exact h.2
theorem allN_f {p : Nat → Bool} {n k : Nat} (hk : k < n) (h : p k = false) : ¬ allN p n = true := fun z => by
  rw [allN_iff.mp z k hk] at h
  cases h
theorem allN_s {p : Nat → Bool} {n : Nat} (h : allN p n = true) (h2 : p n = true) : allN p (n + 1) = true := by simp [allN, h, h2]
theorem allN_congr {p q : Nat → Bool} : ∀ {n : Nat}, (∀ k, k < n → p k = q k) → allN p n = allN q n
  | 0, _ => rfl
  | n + 1, h => by
    simp only [allN]
    rw [allN_congr (fun k hk => h k (by omega)), h n (by omega)]
/-- the first of d numbers from k on that has p -/
def nextN (p : Nat → Bool) : Nat → Nat → Option Nat
  | 0, _ => none
  | d + 1, k => if p k then some k else nextN p d (k + 1)
theorem nextN_congr {p q : Nat → Bool} : ∀ {d k : Nat}, (∀ i, k ≤ i → i < k + d → p i = q i) → nextN p d k = nextN q d k
  | 0, _, _ => rfl
  | d + 1, k, h => by
    simp only [nextN]
    rw [nextN_congr (d := d) (fun i h1 h2 => h i (by omega) (by omega)), h k (Nat.le_refl _) (by omega)]
def opI (o : Option Nat) (d : Int32) : Int32 := match o with
  | none => d
  | some m => nI m
/-- n turns of f, from s on -/
def itN {S : Type} (f : Nat → S → S) (s : S) : Nat → S
  | 0 => s
  | n + 1 => f n (itN f s n)
theorem itN_congr {S : Type} {f g : Nat → S → S} {s : S} : ∀ {n : Nat}, (∀ k, k < n → ∀ x, f k x = g k x) → itN f s n = itN g s n
  | 0, _ => rfl
  | n + 1, h => by
    simp only [itN]
    rw [itN_congr (fun k hk => h k (by omega)), h n (by omega)]
def absI (x : Int32) : Int32 := if 0 ≤ x then x else -x
theorem le_nI {x : Int32} {n k : Nat} (hx : x = nI n) (hk : k < n) (hn : n < 2 ^ 31) : ¬ x ≤ nI k := by rw [hx]; exact nI_ge hk hn
theorem le_nI' {x : Int32} {n : Nat} (hx : x = nI n) : x ≤ nI n := by rw [hx]; exact Int32.le_refl _
theorem nI_inj8 {a b : Nat} (ha : a ≤ 8) (hb : b ≤ 8) : nI a = nI b ↔ a = b := nI_eq (by omega) (by omega)
/-- literal bounds of loops -/
theorem lit_ge {n k : Nat} {c : Int32} (hc : c = nI n) (hk : k < n) (hn : n < 2 ^ 31) : ¬ c ≤ nI k := by rw [hc]; exact nI_ge hk hn
theorem lit_le {n : Nat} {c : Int32} (hc : c = nI n) : c ≤ nI n := by rw [hc]; exact Int32.le_refl _
/-- a body whose class may lie in a package, if no native stands for it -/
theorem vx_ofF {l : Launch} {y : MethodName} {ws ws' : List Cond} {rm : Room} {Pc : Array Value → State → Prop} {Qc : Array Value → State → Outcome → State → Prop} {XC : String → State → State → Prop} {mc ms : Nat} {free : Addr → Prop} {cc : ByteArray} {maxL : Nat} {ret : Option FieldType}
    (hy : plainFor y = true) (hw : ws = Cond.code y cc maxL ret :: ws')
    (body : ∀ p e s m args below meth c s₁, BodyLoose p l y (headSpec ws rm) cc maxL ret e s m args below meth c s₁ → c.maxLocals = maxL → (∀ x ∈ c.exceptionTable.toList, False) → Pc args s →
      W p l e (headSpec ws rm).room s m args below meth c s.heap [] 0 0 (vx_MQ below Qc XC args s mc ms free) (entryFrame m args maxL)) : vx_Met l y ws rm Pc Qc XC mc ms free := by
  refine MetFree.of_bodySF (code := cc) (maxLocals := maxL) (ret := ret) hy ?_ ?_
  · intro args s m h hn
    obtain ⟨meth, c, h1, h2, h3, h4, h5, h6, -, -⟩ := Cond.code_spec hn (atoms_spec (ws := ws) h _ (by rw [hw]; exact List.mem_cons_self))
    exact ⟨meth, c, h1, h2, h3, h4, h5, h6⟩
  · intro p e s m args below meth c s₁ B hml hP _
    have hh0 : s₁.heap = s.heap := by rw [B.state]; rfl
    have ht : ∀ x ∈ c.exceptionTable.toList, False := by
      obtain ⟨meth9, c9, h1, h2, -, -, -, -, h7, -⟩ := Cond.code_spec B.named (atoms_spec (ws := ws) B.pre _ (by rw [hw]; exact List.mem_cons_self))
      cases Option.some.inj (h1.symm.trans B.method)
      cases Option.some.inj (h2.symm.trans (Stand.of_body B).code)
      intro x hx
      rw [Array.isEmpty_iff.mp h7] at hx
      cases hx
    obtain ⟨t, a1, o, b1, b2, b3⟩ := body p e s m args below meth c s₁ B hml ht hP s₁ hh0 (Stand.of_body B)
    exact ⟨t, o, a1, b1, b2, b3⟩
theorem ct_of_F {G : Gx} {M : Md} {as : List Value} {w : Wd} {g : Bool} {o : Ou} {z : Wd} {h : Bool} {a b : Nat} (hy : plainFor (mY M) = true) (ht : mT M = []) (hn : (lg_sl as).length ≤ mN M)
    (k : J G M 0 (lv_args 0 as) [] w g o z h a b) : Ct G M as w g o z h a b := by
  refine vx_ofF (cc := mC M) (maxL := mN M) (ret := mR M) (ws' := gt) hy (by rw [mW_nil ht]) ?_
  intro p e s m args below meth c s₁ B hml htab hP
  obtain ⟨rfl, ⟨hW, hlen, hg⟩, hK, hE, hb⟩ := hP
  have hts := atoms_spec (ws := mW M :: gt) B.pre
  have C : Cx G M p ({ frames := mF M, cells := a, slots := b, locals := mL M } : Room) s m (as.map (cv G)).toArray meth c :=
    ⟨B.exec, B.bytes, B.returns, B.notSynchronized, hml, findClass_of_methodNamed B.named, (name_of_methodNamed B.named B.method).1, fun w hw => hts w (List.mem_cons_of_mem _ hw), hK, hE,
      by rw [ht]; exact List.eq_nil_iff_forall_not_mem.mpr htab, hb, Nat.le_refl _, Nat.le_refl _, hE.2.2.2.1⟩
  have hl := lv_entry (as.map (cv G)) (n := mN M) (by rw [lg_sl_len]; exact hn)
  rw [lvc_args] at hl
  rw [lg_entry_eq]
  have q := k p e _ s m _ below meth c C s.heap [] _ 0 0 ⟨hW, va_S.rf, hlen, hg⟩ hl (by simp) (by simp)
  simp only [Nat.zero_add] at q
  exact q
/-- a method without handlers: its contract out of its run -/
theorem CJ {G : Gx} {M : Md} {as : List Value} {w : Wd} {g : Bool} {o : Ou} {z : Wd} {h : Bool} {a b : Nat} (k : J G M 0 (lv_args 0 as) [] w g o z h a b) (hy : plainFor (mY M) = true := by decide +kernel) (ht : mT M = [] := by rfl) (hn : (lg_sl as).length ≤ mN M := by exact Nat.le_of_ble_eq_true rfl) : Ct G M as w g o z h a b :=
  ct_of_F hy ht hn k
/-! ===== which numbers count, and agreement in them ===== -/
def relc (c : Nat) : Bool := c == 0 || c == 2 || (4 ≤ c && c ≤ 12) || (23 ≤ c && c ≤ 30) || c == 43 || (48 ≤ c && c ≤ 62) || (64 ≤ c && c ≤ 74)
def rel (c j : Nat) : Bool := relc c || (c == 1 && (j == 2 || j == 3)) || (c == 63 && (j == 2 || j == 3 || j == 5 || j == 8 || j == 12 || j == 15 || j == 18 || j == 25))
theorem rel_b {k j : Nat} (hk : k < 8) : rel (23 + k) j = true := by
  match k, hk with
  | 0, _ => rfl
  | 1, _ => rfl
  | 2, _ => rfl
  | 3, _ => rfl
  | 4, _ => rfl
  | 5, _ => rfl
  | 6, _ => rfl
  | 7, _ => rfl
/-- agreement in all that counts -/
def EqR (mm mm' : Nat → Nat → Int32) : Prop := ∀ c j, rel c j = true → mm' c j = mm c j
theorem EqR.refl {mm : Nat → Nat → Int32} : EqR mm mm := fun _ _ _ => rfl
theorem EqR.trans {m1 m2 m3 : Nat → Nat → Int32} (h : EqR m1 m2) (h2 : EqR m2 m3) : EqR m1 m3 := fun c j hc => (h2 c j hc).trans (h c j hc)
theorem mset_ne2 {m : Nat → Nat → Int32} {k j a b : Nat} {v : Int32} (h : ¬ (a = k ∧ b = j)) : mset m k j v a b = m a b := by
  by_cases h1 : a = k
  · by_cases h2 : b = j
    · exact absurd ⟨h1, h2⟩ h
    · simp [mset, h1, h2]
  · rw [mset_ne h1]
theorem mset_eq {m : Nat → Nat → Int32} {k j : Nat} {v : Int32} : mset m k j v k j = v := by simp [mset]
theorem EqR.mset {mm mm' : Nat → Nat → Int32} (h : EqR mm mm') {q j : Nat} {v : Int32} (hq : rel q j = false) : EqR mm (mset mm' q j v) := fun c i hc => by
  rw [mset_ne2 (fun e => by rw [e.1, e.2, hq] at hc; cases hc)]
  exact h c i hc
theorem nextN_some {p : Nat → Bool} : ∀ {d k m : Nat}, nextN p d k = some m → k ≤ m ∧ m < k + d ∧ p m = true ∧ ∀ i, k ≤ i → i < m → p i = false
  | 0, _, _, h => by cases h
  | d + 1, k, m, h => by
    simp only [nextN] at h
    by_cases hp : p k = true
    · rw [if_pos hp] at h
      cases h
      exact ⟨Nat.le_refl _, by omega, hp, fun i h1 h2 => absurd h2 (Nat.not_lt.mpr h1)⟩
    · rw [if_neg hp] at h
      obtain ⟨h1, h2, h3, h4⟩ := nextN_some h
      refine ⟨by omega, by omega, h3, fun i q1 q2 => ?_⟩
      by_cases hi : i = k
      · rw [hi]; exact Bool.eq_false_iff.mpr hp
      · exact h4 i (by omega) q2
theorem nextN_none {p : Nat → Bool} : ∀ {d k : Nat}, nextN p d k = none → ∀ i, k ≤ i → i < k + d → p i = false
  | 0, _, _, i, h1, h2 => by omega
  | d + 1, k, h, i, h1, h2 => by
    simp only [nextN] at h
    by_cases hp : p k = true
    · rw [if_pos hp] at h; cases h
    · rw [if_neg hp] at h
      by_cases hi : i = k
      · rw [hi]; exact Bool.eq_false_iff.mpr hp
      · exact nextN_none h i (by omega) (by omega)
/-- the first pair of numbers below n with p -/
def pairF (p : Nat → Nat → Bool) (n : Nat) : Nat → Nat → Option (Nat × Nat)
  | 0, _ => none
  | d + 1, l => match nextN (p l) (n - (l + 1)) (l + 1) with
    | some h => some (l, h)
    | none => pairF p n d (l + 1)
theorem pairF_congr {p q : Nat → Nat → Bool} {n : Nat} (h : ∀ a b, a < n → b < n → p a b = q a b) : ∀ {d l : Nat}, l + d ≤ n → pairF p n d l = pairF q n d l
  | 0, _, _ => rfl
  | d + 1, l, hl => by
    simp only [pairF]
    rw [nextN_congr (fun i h1 h2 => h l i (by omega) (by omega)), pairF_congr h (by omega)]
theorem pairF_lt {p : Nat → Nat → Bool} {n : Nat} : ∀ {d l a b : Nat}, l + d ≤ n → pairF p n d l = some (a, b) → a < n ∧ b < n
  | 0, _, _, _, _, h => by cases h
  | d + 1, l, a, b, hl, h => by
    simp only [pairF] at h
    cases e : nextN (p l) (n - (l + 1)) (l + 1) with
    | some x =>
      rw [e] at h
      cases h
      obtain ⟨h1, h2, -⟩ := nextN_some e
      omega
    | none =>
      rw [e] at h
      exact pairF_lt (by omega) h
def pairV (o : Option (Nat × Nat)) : Int32 := match o with
  | none => -1
  | some q => 8 * nI q.1 + nI q.2
theorem nI_mul (a b : Nat) : nI a * nI b = nI (a * b) := (Int32.ofNat_mul a b).symm
theorem pairV_nI {a b : Nat} : pairV (some (a, b)) = nI (8 * a + b) := by
  show 8 * nI a + nI b = _
  rw [show (8 : Int32) = nI 8 from rfl, nI_mul, nI_add]
theorem nI_ne_neg {n : Nat} (h : n < 2 ^ 31) : ¬ nI n = -1 := fun e => by
  have := nI_pos h
  rw [e] at this
  exact this (by decide)
