/-! told, the class's side -/
theorem x7_quotient {n : Nat} {σ : hv_St} {a b : Int} (ha : rL a) (hb : rL b) (hb0 : b ≠ 0) : mX7_quotient n σ (iL a) (iL b) = some (iL (a.tdiv b), σ) := by
  have h1 : ¬ iL b = 0 := fun e => hb0 ((iL_eq hb (b := 0) ⟨by decide, by decide⟩).mp e)
  unfold mX7_quotient
  rw [if_neg (fun h => h1 ((lg_cmp0 _ _).mp h)), hv_if_t (decide_eq_true h1), iL_div ha hb]
theorem iL_abs {a : Int} (h : rL a) : (if 0 < iL a then iL a else -(iL a)) = iL (a.natAbs : Int) := by
  have h1 : (0 : Int64) < iL a ↔ 0 < a := iL_lt (a := 0) (b := a) ⟨by decide, by decide⟩ h
  by_cases h2 : 0 < a
  · rw [if_pos (h1.mpr h2), show (a.natAbs : Int) = a by omega]
  · rw [if_neg (fun q => h2 (h1.mp q)), iL_neg, show (a.natAbs : Int) = -a by omega]
theorem tl_tdiv {a c z : Int} (hc0 : c ≠ 0) (hz : z = a ∨ z = c) (g : Int) (hg : g = if 0 ≤ c then ((Int.gcd a c : Nat) : Int) else - ((Int.gcd a c : Nat) : Int)) : z.tdiv g = tlN a c z := by
  have hd : ((Int.gcd a c : Nat) : Int) ∣ z := by
    rcases hz with rfl | rfl
    · exact Int.gcd_dvd_left ..
    · exact Int.gcd_dvd_right ..
  have hg0 : ((Int.gcd a c : Nat) : Int) ≠ 0 := by
    have : 0 < Int.gcd a c := Int.gcd_pos_of_ne_zero_right _ hc0
    omega
  unfold tlN
  rw [← Int.tdiv_eq_ediv_of_dvd (Int.dvd_mul_of_dvd_right hd)]
  by_cases h : 0 ≤ c
  · rw [hg, if_pos h, Int.sign_eq_one_of_pos (by omega), Int.one_mul]
  · rw [hg, if_neg h, Int.sign_eq_neg_one_of_neg (by omega), Int.tdiv_neg, Int.neg_one_mul, Int.neg_tdiv]
theorem x2_reduce {n : Nat} (hn : 200 ≤ n) {σ : hv_St} {a c : Int} (ha : rL a) (hc : rL c) (hc0 : c ≠ 0) : mX2_reduce n σ (iL a) (iL c) = some (hv_sJ (hv_sJ σ 26 0 (iL (tlN a c a))) 26 1 (iL (tlN a c c))) := by
  have := ha.1; have := ha.2; have := hc.1; have := hc.2
  have hg : 0 < Int.gcd a c := Int.gcd_pos_of_ne_zero_right _ hc0
  have hgc : Int.gcd a c ≤ c.natAbs := Nat.le_of_dvd (by omega) (Int.gcd_dvd_natAbs_right a c)
  unfold mX2_reduce
  rw [iL_abs ha, iL_abs hc, hv_let_e, hv_let_e]
  have h1 : mX2_greatestDivisor n σ (iL (a.natAbs : Int)) (iL (c.natAbs : Int)) = some (iL ((Int.gcd a c : Nat) : Int), σ) := by
    show kX2_greatestDivisor_9 n n σ (iL (a.natAbs : Int)) (iL (c.natAbs : Int)) (nI 0) = _
    rw [x2_gcd 63 a.natAbs c.natAbs n 0 (by omega) (by omega) (by omega) (by omega) (by omega), Nat.gcd_comm]
    rfl
  rw [h1, hv_b2_e]
  have key : ∀ g : Int, (g = if 0 ≤ c then ((Int.gcd a c : Nat) : Int) else - ((Int.gcd a c : Nat) : Int)) → kX2_reduce_27 n σ (iL a) (iL c) (iL g) = some (hv_sJ (hv_sJ σ 26 0 (iL (tlN a c a))) 26 1 (iL (tlN a c c))) := fun g hg2 => by
    have hgr : rL g ∧ g ≠ 0 := by
      by_cases h : 0 ≤ c
      · rw [if_pos h] at hg2
        exact ⟨⟨by omega, by omega⟩, by omega⟩
      · rw [if_neg h] at hg2
        exact ⟨⟨by omega, by omega⟩, by omega⟩
    unfold kX2_reduce_27
    rw [x7_quotient ha hgr.1 hgr.2, hv_b2_e, hv_let_e, x7_quotient hc hgr.1 hgr.2, hv_b2_e, hv_let_e, tl_tdiv hc0 (Or.inl rfl) g hg2, tl_tdiv hc0 (Or.inr rfl) g hg2]
  by_cases h : 0 ≤ c
  · rw [if_pos ((lg_cmp_ge0 hc).mpr h)]
    exact key _ (by rw [if_pos h])
  · rw [if_neg (fun q => h ((lg_cmp_ge0 hc).mp q)), iL_neg]
    exact key _ (by rw [if_neg h])
theorem x7_told {n : Nat} (hn : 200 ≤ n) {σ : hv_St} {a c : Int} (ha : rL a) (hc : rL c) (hc0 : c ≠ 0) (u : Int32) : mX7_told n σ (iL a) (iL c) u = some (iL (tlN a c (if u = 0 then a else c)), hv_sJ (hv_sJ σ 26 0 (iL (tlN a c a))) 26 1 (iL (tlN a c c))) := by
  unfold mX7_told
  rw [x2_reduce hn ha hc hc0, hv_bd_e]
  by_cases hu : u = 0
  · rw [if_pos hu, if_pos hu]
    rfl
  · rw [if_neg hu, if_neg hu]
    rfl
