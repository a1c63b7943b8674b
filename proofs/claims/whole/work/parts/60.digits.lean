/-! ===== arrangements: numbers to the base 3 ===== -/
theorem dig_mk {b lo v hi : Nat} (hlo : lo < 3 ^ b) (hv : v < 3) (k : Nat) : dig (lo + 3 ^ b * (v + 3 * hi)) k = if k < b then lo / 3 ^ k % 3 else if k = b then v else hi / 3 ^ (k - b - 1) % 3 := by
  unfold dig
  rcases Nat.lt_trichotomy k b with h | h | h
  · rw [if_pos h]
    obtain ⟨j, rfl⟩ : ∃ j, b = k + (j + 1) := ⟨b - k - 1, by omega⟩
    have e : 3 ^ (k + (j + 1)) * (v + 3 * hi) = 3 ^ k * (3 * (3 ^ j * (v + 3 * hi))) := by
      rw [Nat.pow_add, Nat.pow_succ, Nat.mul_comm (3 ^ j) 3, Nat.mul_assoc, Nat.mul_assoc]
    rw [e, Nat.add_mul_div_left _ _ (Nat.pow_pos (by omega)), Nat.add_mul_mod_self_left]
  · subst h
    rw [if_neg (Nat.lt_irrefl k), if_pos rfl, Nat.add_mul_div_left _ _ (Nat.pow_pos (by omega)), Nat.div_eq_of_lt hlo, Nat.zero_add, Nat.add_mul_mod_self_left, Nat.mod_eq_of_lt hv]
  · rw [if_neg (by omega), if_neg (by omega)]
    obtain ⟨j, rfl⟩ : ∃ j, k = b + 1 + j := ⟨k - b - 1, by omega⟩
    rw [show b + 1 + j - b - 1 = j by omega, Nat.pow_add, Nat.pow_succ, ← Nat.div_div_eq_div_mul, ← Nat.div_div_eq_div_mul, Nat.add_mul_div_left _ _ (Nat.pow_pos (by omega)), Nat.div_eq_of_lt hlo, Nat.zero_add, Nat.add_mul_div_left _ _ (by omega : 0 < 3), Nat.div_eq_of_lt hv, Nat.zero_add]
theorem dig_split (x b : Nat) : x % 3 ^ b + 3 ^ b * (dig x b + 3 * (x / 3 ^ b / 3)) = x := by
  unfold dig
  rw [Nat.mod_add_div, Nat.mod_add_div]
/-- the digit b made v -/
def setd (x b v : Nat) : Nat := x % 3 ^ b + 3 ^ b * (v + 3 * (x / 3 ^ b / 3))
theorem dig_setd {x b v : Nat} (hv : v < 3) (k : Nat) : dig (setd x b v) k = if k = b then v else dig x k := by
  have hlo : x % 3 ^ b < 3 ^ b := Nat.mod_lt _ (Nat.pow_pos (by omega))
  have h1 := dig_mk (hi := x / 3 ^ b / 3) hlo hv k
  have h2 := dig_mk (hi := x / 3 ^ b / 3) hlo (dig_lt x b) k
  rw [dig_split] at h2
  rw [setd, h1, h2]
  by_cases hk : k = b
  · rw [if_pos hk, if_neg (by omega), if_pos hk]
  · rw [if_neg hk, if_neg hk, if_neg hk]
theorem setd_val (x b v : Nat) : setd x b v + 3 ^ b * dig x b = x + 3 ^ b * v := by
  have h := dig_split x b
  unfold setd
  rw [Nat.mul_add] at h
  rw [Nat.mul_add]
  omega
theorem setd_lt {x b v n : Nat} (hx : x < 3 ^ n) (hb : b < n) (hv : v < 3) : setd x b v < 3 ^ n := by
  obtain ⟨j, rfl⟩ : ∃ j, n = b + 1 + j := ⟨n - b - 1, by omega⟩
  have e : 3 ^ (b + 1 + j) = 3 ^ b * (3 * 3 ^ j) := by rw [Nat.pow_add, Nat.pow_succ, Nat.mul_assoc]
  rw [e] at hx ⊢
  have h1 : x / 3 ^ b < 3 * 3 ^ j := Nat.div_lt_of_lt_mul hx
  have h2 : x / 3 ^ b / 3 < 3 ^ j := Nat.div_lt_of_lt_mul h1
  have hlo : x % 3 ^ b < 3 ^ b := Nat.mod_lt _ (Nat.pow_pos (by omega))
  unfold setd
  have h3 : 3 ^ b * (v + 3 * (x / 3 ^ b / 3) + 1) ≤ 3 ^ b * (3 * 3 ^ j) := Nat.mul_le_mul_left _ (by omega)
  rw [Nat.mul_add, Nat.mul_one] at h3
  omega
theorem arrN_dig (x : Nat) : ∀ n, arrN (dig x) n = x % 3 ^ n
  | 0 => by simp [arrN, Nat.mod_one]
  | n + 1 => by
    simp only [arrN]
    rw [arrN_dig x n, Nat.pow_succ, Nat.mod_mul, Nat.mul_comm (dig x n)]
    rfl
theorem dig_ext {x y n : Nat} (hx : x < 3 ^ n) (hy : y < 3 ^ n) (h : ∀ k, k < n → dig x k = dig y k) : x = y := by
  rw [← Nat.mod_eq_of_lt hx, ← Nat.mod_eq_of_lt hy, ← arrN_dig, ← arrN_dig]
  exact arrN_congr h
theorem dig_arrN {d : Nat → Nat} (hd : ∀ k, d k < 3) : ∀ {n k : Nat}, k < n → dig (arrN d n) k = d k
  | n + 1, k, h => by
    have q := dig_mk (hi := 0) (arrN_lt hd n) (hd n) k
    simp only [arrN]
    rw [Nat.mul_zero, Nat.add_zero, Nat.mul_comm (3 ^ n)] at q
    rw [q]
    rcases Nat.lt_succ_iff_lt_or_eq.mp h with h1 | h1
    · rw [if_pos h1]; exact dig_arrN hd h1
    · rw [if_neg (by omega), if_pos h1, h1]
/-- the step c from x, as the reference goes; as the class goes -/
def aftM (x c : Nat) : Option Nat := if (dig x (c / 3) = 0 ↔ c % 3 = 0) then none else some (setd x (c / 3) (c % 3))
def nxC (nb : Nat) (hg pl : Nat → Bool) (x c : Nat) : Option Nat := if c / 3 < nb ∧ (c % 3 = 1 → hg (c / 3) = true) ∧ (c % 3 = 2 → pl (c / 3) = true) then aftM x c else none
theorem aftM_some {x c y : Nat} (h : aftM x c = some y) : ¬ (dig x (c / 3) = 0 ↔ c % 3 = 0) ∧ y = setd x (c / 3) (c % 3) := by
  unfold aftM at h
  by_cases q : (dig x (c / 3) = 0 ↔ c % 3 = 0)
  · rw [if_pos q] at h; cases h
  · rw [if_neg q] at h; exact ⟨q, (Option.some.inj h).symm⟩
theorem aftM_mk {x c : Nat} (h : ¬ (dig x (c / 3) = 0 ↔ c % 3 = 0)) : aftM x c = some (setd x (c / 3) (c % 3)) := if_neg h
theorem nxC_some {nb : Nat} {hg pl : Nat → Bool} {x c y : Nat} (h : nxC nb hg pl x c = some y) : c / 3 < nb ∧ (c % 3 = 1 → hg (c / 3) = true) ∧ (c % 3 = 2 → pl (c / 3) = true) ∧ aftM x c = some y := by
  unfold nxC at h
  by_cases q : c / 3 < nb ∧ (c % 3 = 1 → hg (c / 3) = true) ∧ (c % 3 = 2 → pl (c / 3) = true)
  · rw [if_pos q] at h; exact ⟨q.1, q.2.1, q.2.2, h⟩
  · rw [if_neg q] at h; cases h
theorem aftM_lt {x c y n : Nat} (h : aftM x c = some y) (hx : x < 3 ^ n) (hc : c < 3 * n) : y < 3 ^ n := by
  rw [(aftM_some h).2]
  exact setd_lt hx (by omega) (Nat.mod_lt _ (by omega))
theorem aftM_dig {x c y k : Nat} (h : aftM x c = some y) : dig y k = if k = c / 3 then c % 3 else dig x k := by
  rw [(aftM_some h).2]; exact dig_setd (Nat.mod_lt _ (by omega)) k
/-- each step can be gone back -/
theorem aftM_back {x c y n : Nat} (h : aftM x c = some y) (hx : x < 3 ^ n) (hc : c < 3 * n) : ∃ c', c' < 3 * n ∧ aftM y c' = some x := by
  have hd := dig_lt x (c / 3)
  have hy := aftM_lt h hx hc
  have e1 : (3 * (c / 3) + dig x (c / 3)) / 3 = c / 3 := by omega
  have e2 : (3 * (c / 3) + dig x (c / 3)) % 3 = dig x (c / 3) := by omega
  have hq := (aftM_some h).1
  have h0 : dig y (c / 3) = c % 3 := by rw [aftM_dig h, if_pos rfl]
  refine ⟨3 * (c / 3) + dig x (c / 3), by omega, ?_⟩
  rw [aftM_mk (by rw [e1, e2, h0]; exact fun z => hq z.symm), e1, e2]
  congr 1
  refine dig_ext (setd_lt hy (by omega) hd) hx fun k hk => ?_
  rw [dig_setd hd]
  by_cases hkb : k = c / 3
  · rw [if_pos hkb, hkb]
  · rw [if_neg hkb, aftM_dig h, if_neg hkb]
/-- the bells that are planned where they hang: their planned place is their present one -/
def piA (nb : Nat) (pw : Nat → Bool) (x : Nat) : Nat := arrN (fun k => if dig x k = 2 ∧ pw k = true then 1 else dig x k) nb
theorem piA_lt3 (pw : Nat → Bool) (x k : Nat) : (if dig x k = 2 ∧ pw k = true then 1 else dig x k) < 3 := by
  have := dig_lt x k
  split <;> omega
theorem piA_lt (nb : Nat) (pw : Nat → Bool) (x : Nat) : piA nb pw x < 3 ^ nb := arrN_lt (piA_lt3 pw x) nb
theorem dig_piA {nb k : Nat} (pw : Nat → Bool) (x : Nat) (hk : k < nb) : dig (piA nb pw x) k = if dig x k = 2 ∧ pw k = true then 1 else dig x k := dig_arrN (piA_lt3 pw x) hk
theorem dig_piA0 {nb k : Nat} (pw : Nat → Bool) (x : Nat) (hk : k < nb) : dig (piA nb pw x) k = 0 ↔ dig x k = 0 := by
  rw [dig_piA pw x hk]
  split <;> omega
theorem piA_step {nb x c y : Nat} (pw : Nat → Bool) (h : aftM x c = some y) (hc : c < 3 * nb) : ∃ c', c' < 3 * nb ∧ c' ≤ c ∧ aftM (piA nb pw x) c' = some (piA nb pw y) := by
  have hq := (aftM_some h).1
  have hb : c / 3 < nb := by omega
  have fin : ∀ v, v < 3 → (v = 0 ↔ c % 3 = 0) → (∀ d, d = c % 3 → (if d = 2 ∧ pw (c / 3) = true then 1 else d) = v) → aftM (piA nb pw x) (3 * (c / 3) + v) = some (piA nb pw y) := by
    intro v hv hv0 hvd
    have e1 : (3 * (c / 3) + v) / 3 = c / 3 := by omega
    have e2 : (3 * (c / 3) + v) % 3 = v := by omega
    rw [aftM_mk (by rw [e1, e2, dig_piA0 pw x hb, hv0]; exact hq), e1, e2]
    congr 1
    refine dig_ext (setd_lt (piA_lt nb pw x) hb hv) (piA_lt nb pw y) fun k hk => ?_
    rw [dig_setd hv, dig_piA pw y hk, aftM_dig h, dig_piA pw x hk]
    by_cases hkb : k = c / 3
    · rw [if_pos hkb, if_pos hkb, hkb]; exact (hvd _ rfl).symm
    · rw [if_neg hkb, if_neg hkb]
  by_cases hp : c % 3 = 2 ∧ pw (c / 3) = true
  · exact ⟨3 * (c / 3) + 1, by omega, by omega, fin 1 (by omega) (by omega) (fun d hd => by rw [hd, if_pos hp])⟩
  · exact ⟨3 * (c / 3) + c % 3, by omega, by omega, fin (c % 3) (by omega) Iff.rfl (fun d hd => by rw [hd, if_neg hp])⟩
