/-! told, on both sides -/
theorem lg_cmp_ge0 {a : Int} (h : rL a) : 0 ≤ lg_cmp (iL a) (0 : Int64) ↔ 0 ≤ a := by
  have e0 : (0 : Int64) = iL 0 := rfl
  have r0 : rL 0 := ⟨by decide, by decide⟩
  unfold lg_cmp
  rw [e0]
  by_cases h1 : iL 0 < iL a
  · rw [if_pos h1]
    have := (iL_lt r0 h).mp h1
    exact ⟨fun _ => by omega, fun _ => by decide⟩
  · rw [if_neg h1]
    by_cases h2 : iL a = iL 0
    · rw [if_pos h2]
      have := (iL_eq h r0).mp h2
      exact ⟨fun _ => by omega, fun _ => by decide⟩
    · rw [if_neg h2]
      have h3 : ¬ 0 < a := fun q => h1 ((iL_lt r0 h).mpr q)
      have h4 : a ≠ 0 := fun q => h2 (by rw [q])
      exact ⟨fun q => absurd q (by decide), fun q => by omega⟩
theorem r8_abs {n : Nat} {σ : hv_St} {a : Int} (h : rL a) : mX8_abs n σ (iL a) = some (iL (a.natAbs : Int), σ) := by
  unfold mX8_abs
  by_cases h1 : 0 ≤ a
  · rw [if_pos ((lg_cmp_ge0 h).mpr h1), show (a.natAbs : Int) = a by omega]
  · rw [if_neg (fun q => h1 ((lg_cmp_ge0 h).mp q)), iL_neg, show (a.natAbs : Int) = -a by omega]
theorem r8_common {n : Nat} (hn : 200 ≤ n) {σ : hv_St} {a c : Int} (ha : rL a) (hc : rL c) : mX8_common n σ (iL a) (iL c) = some (iL ((Int.gcd a c : Nat) : Int), σ) := by
  have := ha.1; have := ha.2; have := hc.1; have := hc.2
  unfold mX8_common
  rw [r8_abs ha, hv_b2_e, r8_abs hc, hv_b2_e, r8_gcd 63 a.natAbs c.natAbs n (by omega) (by omega) (by omega) (by omega), Nat.gcd_comm]
  rfl
theorem tl_div {a c z : Int} (ha : rL a) (hc : rL c) (hc0 : c ≠ 0) (hz : z = a ∨ z = c) : (iL c.sign * iL z) / iL ((Int.gcd a c : Nat) : Int) = iL (tlN a c z) := by
  have := ha.1; have := ha.2; have := hc.1; have := hc.2
  have hg : 0 < Int.gcd a c := Int.gcd_pos_of_ne_zero_right _ hc0
  have hgc : Int.gcd a c ≤ c.natAbs := Nat.le_of_dvd (by omega) (Int.gcd_dvd_natAbs_right a c)
  have hzr : rL z := by rcases hz with rfl | rfl <;> assumption
  have hd : ((Int.gcd a c : Nat) : Int) ∣ z := by
    rcases hz with rfl | rfl
    · exact Int.gcd_dvd_left ..
    · exact Int.gcd_dvd_right ..
  have hs : c.sign * z = z ∨ c.sign * z = -z := by
    rcases Int.lt_or_gt_of_ne hc0 with h | h
    · rw [Int.sign_eq_neg_one_of_neg h]; omega
    · rw [Int.sign_eq_one_of_pos h]; omega
  have hzr2 : rL (c.sign * z) := by
    have := hzr.1; have := hzr.2
    rcases hs with h | h <;> rw [h] <;> exact ⟨by omega, by omega⟩
  rw [iL_mul, iL_div hzr2 ⟨by omega, by omega⟩]
  unfold tlN
  rw [Int.tdiv_eq_ediv_of_dvd (Int.dvd_mul_of_dvd_right hd)]
theorem r8_told {n : Nat} (hn : 200 ≤ n) {σ : hv_St} {a c : Int} (ha : rL a) (hc : rL c) (hc0 : c ≠ 0) (u : Int32) : mX8_told n σ (iL a) (iL c) u = some (iL (tlN a c (if u = 0 then a else c)), σ) := by
  have := ha.1; have := ha.2; have := hc.1; have := hc.2
  have hg : 0 < Int.gcd a c := Int.gcd_pos_of_ne_zero_right _ hc0
  have hgc : Int.gcd a c ≤ c.natAbs := Nat.le_of_dvd (by omega) (Int.gcd_dvd_natAbs_right a c)
  have hg0 : decide (¬ iL ((Int.gcd a c : Nat) : Int) = 0) = true := decide_eq_true (iL_ne0 (by omega) (by omega))
  unfold mX8_told
  rw [r8_common hn ha hc, hv_b2_e]
  have key : ∀ sg : Int64, sg = iL c.sign → kX8_told_20 n σ (iL a) (iL c) u (iL ((Int.gcd a c : Nat) : Int)) sg = some (iL (tlN a c (if u = 0 then a else c)), σ) := fun sg hs => by
    subst hs
    unfold kX8_told_20
    by_cases hu : u = 0
    · rw [if_pos hu, if_pos hu]
      unfold kX8_told_34
      rw [hv_if_t hg0, tl_div ha hc hc0 (Or.inl rfl)]
    · rw [if_neg hu, if_neg hu]
      unfold kX8_told_34
      rw [hv_if_t hg0, tl_div ha hc hc0 (Or.inr rfl)]
  by_cases h1 : 0 ≤ c
  · rw [if_pos ((lg_cmp_ge0 hc).mpr h1)]
    exact key _ (by rw [Int.sign_eq_one_of_pos (by omega)]; rfl)
  · rw [if_neg (fun q => h1 ((lg_cmp_ge0 hc).mp q))]
    exact key _ (by rw [Int.sign_eq_neg_one_of_neg (by omega)]; rfl)
