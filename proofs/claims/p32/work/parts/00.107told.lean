/-! Euclid, least terms -/
theorem nat_half {a b : Nat} (hb : 0 < b) (h : a % b ≠ 0) : 2 * (b % (a % b)) < b := by
  have h1 : a % b < b := Nat.mod_lt _ hb
  generalize a % b = r at h h1
  by_cases h2 : 2 * r ≤ b
  · have := Nat.mod_lt b (show 0 < r by omega)
    omega
  · rw [Nat.mod_eq_sub_mod (by omega), Nat.mod_eq_of_lt (by omega)]
    omega
theorem iL_mod {a b : Nat} (ha : a < 2 ^ 63) (hb : b < 2 ^ 63) : iL (a : Int) - iL (a : Int) / iL (b : Int) * iL (b : Int) = iL ((a % b : Nat) : Int) := by
  rw [iL_div ⟨by omega, by omega⟩ ⟨by omega, by omega⟩, iL_mul, iL_sub, show ((a : Int).tdiv (b : Int)) = ((a / b : Nat) : Int) from rfl]
  congr 1
  have h := Nat.div_add_mod a b
  have h2 : ((b * (a / b) + a % b : Nat) : Int) = (a : Int) := by rw [h]
  rw [Int.natCast_add, Int.natCast_mul] at h2
  rw [Int.mul_comm] at h2
  omega
theorem iL_ne0 {b : Nat} (hb : b < 2 ^ 63) (h : b ≠ 0) : iL (b : Int) ≠ 0 := fun e => by
  have h1 := (iL_eq (a := (b : Int)) (b := 0) ⟨by omega, by omega⟩ ⟨by decide, by decide⟩).mp e
  omega
theorem r8_gcd {n : Nat} {σ : hv_St} : ∀ (k a b fuel : Nat), a < 2 ^ 63 → b < 2 ^ 63 → b < 2 ^ k → 2 * k + 1 ≤ fuel → kX8_common_12 n fuel σ (iL (a : Int)) (iL (b : Int)) = some (iL ((Nat.gcd b a : Nat) : Int), σ) := by
  have h0 : ∀ (a fuel : Nat), 1 ≤ fuel → kX8_common_12 n fuel σ (iL (a : Int)) (iL ((0 : Nat) : Int)) = some (iL ((Nat.gcd 0 a : Nat) : Int), σ) := fun a fuel hf => by
    obtain ⟨fuel, rfl⟩ : ∃ q, fuel = q + 1 := ⟨fuel - 1, by omega⟩
    show kX8_common_12_b n _ _ _ _ = _
    unfold kX8_common_12_b
    rw [if_pos ((lg_cmp0 (iL ((0 : Nat) : Int)) (0 : Int64)).mpr rfl), Nat.gcd_zero_left]
  have h1 : ∀ (a b fuel : Nat), a < 2 ^ 63 → b < 2 ^ 63 → b ≠ 0 → kX8_common_12 n (fuel + 1) σ (iL (a : Int)) (iL (b : Int)) = kX8_common_12 n fuel σ (iL (b : Int)) (iL ((a % b : Nat) : Int)) := fun a b fuel ha hb hb0 => by
    show kX8_common_12_b n _ _ _ _ = _
    unfold kX8_common_12_b
    rw [if_neg (fun h => iL_ne0 hb hb0 ((lg_cmp0 _ _).mp h)), hv_if_t (decide_eq_true (iL_ne0 hb hb0)), hv_let_e, iL_mod ha hb]
  intro k
  induction k with
  | zero =>
    intro a b fuel ha hb hk hf
    have : b = 0 := by omega
    subst this
    exact h0 a fuel (by omega)
  | succ k ih =>
    intro a b fuel ha hb hk hf
    by_cases hb0 : b = 0
    · subst hb0
      exact h0 a fuel (by omega)
    · obtain ⟨fuel, rfl⟩ : ∃ q, fuel = q + 2 := ⟨fuel - 2, by omega⟩
      have hr : a % b < b := Nat.mod_lt _ (by omega)
      rw [h1 a b (fuel + 1) ha hb hb0, Nat.gcd_rec b a]
      by_cases hr0 : a % b = 0
      · rw [hr0]
        exact h0 b (fuel + 1) (by omega)
      · have h2 := nat_half (a := a) (b := b) (by omega) hr0
        rw [h1 b (a % b) fuel hb (by omega) hr0, Nat.gcd_rec (a % b) b]
        exact ih (a % b) (b % (a % b)) fuel (by omega) (by omega) (by rw [Nat.pow_succ] at hk; omega) (by omega)
theorem x2_gcd {n : Nat} {σ : hv_St} : ∀ (k a b fuel st : Nat), a < 2 ^ 63 → b < 2 ^ 63 → b < 2 ^ k → 2 * k + 1 ≤ fuel → st + 2 * k + 1 ≤ 200 → kX2_greatestDivisor_9 n fuel σ (iL (a : Int)) (iL (b : Int)) (nI st) = some (iL ((Nat.gcd b a : Nat) : Int), σ) := by
  have h0 : ∀ (a fuel st : Nat), 1 ≤ fuel → st < 200 → kX2_greatestDivisor_9 n fuel σ (iL (a : Int)) (iL ((0 : Nat) : Int)) (nI st) = some (iL ((Nat.gcd 0 a : Nat) : Int), σ) := fun a fuel st hf hs => by
    obtain ⟨fuel, rfl⟩ : ∃ q, fuel = q + 1 := ⟨fuel - 1, by omega⟩
    show kX2_greatestDivisor_9_b n _ _ _ _ _ = _
    unfold kX2_greatestDivisor_9_b
    rw [if_neg (show ¬ (200 : Int32) ≤ nI st from nI_ge hs (by decide)), if_pos ((lg_cmp0 (iL ((0 : Nat) : Int)) (0 : Int64)).mpr rfl), Nat.gcd_zero_left]
  have h1 : ∀ (a b fuel st : Nat), a < 2 ^ 63 → b < 2 ^ 63 → b ≠ 0 → st < 200 → kX2_greatestDivisor_9 n (fuel + 1) σ (iL (a : Int)) (iL (b : Int)) (nI st) = kX2_greatestDivisor_9 n fuel σ (iL (b : Int)) (iL ((a % b : Nat) : Int)) (nI (st + 1)) := fun a b fuel st ha hb hb0 hs => by
    show kX2_greatestDivisor_9_b n _ _ _ _ _ = _
    unfold kX2_greatestDivisor_9_b
    rw [if_neg (show ¬ (200 : Int32) ≤ nI st from nI_ge hs (by decide)), if_neg (fun h => iL_ne0 hb hb0 ((lg_cmp0 _ _).mp h)), hv_if_t (decide_eq_true (iL_ne0 hb hb0)), hv_let_e, iL_mod ha hb, nI_1]
  intro k
  induction k with
  | zero =>
    intro a b fuel st ha hb hk hf hs
    have : b = 0 := by omega
    subst this
    exact h0 a fuel st (by omega) (by omega)
  | succ k ih =>
    intro a b fuel st ha hb hk hf hs
    by_cases hb0 : b = 0
    · subst hb0
      exact h0 a fuel st (by omega) (by omega)
    · obtain ⟨fuel, rfl⟩ : ∃ q, fuel = q + 2 := ⟨fuel - 2, by omega⟩
      have hr : a % b < b := Nat.mod_lt _ (by omega)
      rw [h1 a b (fuel + 1) st ha hb hb0 (by omega), Nat.gcd_rec b a]
      by_cases hr0 : a % b = 0
      · rw [hr0]
        exact h0 b (fuel + 1) (st + 1) (by omega) (by omega)
      · have h2 := nat_half (a := a) (b := b) (by omega) hr0
        rw [h1 b (a % b) fuel (st + 1) hb (by omega) hr0 (by omega), Nat.gcd_rec (a % b) b]
        exact ih (a % b) (b % (a % b)) fuel (st + 1 + 1) (by omega) (by omega) (by rw [Nat.pow_succ] at hk; omega) (by omega) (by omega)
/-- z over c's own sign and the greatest divisor of a and c -/
def tlN (a c z : Int) : Int := (c.sign * z) / ((Int.gcd a c : Nat) : Int)
theorem tlN_scale {k : Int} (hk : k ≠ 0) (a c z : Int) : tlN (k * a) (k * c) (k * z) = tlN a c z := by
  unfold tlN
  have h1 : (k * c).sign * (k * z) = (k.natAbs : Int) * (c.sign * z) := by
    have h2 : k.sign * k = (k.natAbs : Int) := by
      rcases Int.lt_or_gt_of_ne hk with h | h
      · rw [Int.sign_eq_neg_one_of_neg h]
        omega
      · rw [Int.sign_eq_one_of_pos h]
        omega
    rw [Int.sign_mul, ← h2]
    grind
  rw [h1, Int.gcd_mul_left, Int.natCast_mul, Int.mul_ediv_mul_of_pos _ _ (by omega)]
theorem tlN_eq {a c a' c' : Int} (hc : c ≠ 0) (hc' : c' ≠ 0) (h : a * c' = a' * c) : tlN a c a = tlN a' c' a' ∧ tlN a c c = tlN a' c' c' := by
  have h1 : c' * a = c * a' := by grind
  have h2 : c' * c = c * c' := Int.mul_comm _ _
  constructor
  · rw [← tlN_scale hc' a c a, h1, h2, tlN_scale hc]
  · rw [← tlN_scale hc' a c c, h1, h2, tlN_scale hc]
