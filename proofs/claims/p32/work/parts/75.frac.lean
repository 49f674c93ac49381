/-! the law's fractions: least terms of equal ones are equal -/
theorem lw_gcd_e (n : Nat) : ∀ i, kL_common_12 n i = kX8_common_12 n i
  | 0 => rfl
  | i + 1 => by
    show kL_common_12_b n (kL_common_12 n i) = kX8_common_12_b n (kX8_common_12 n i)
    rw [lw_gcd_e n i]
    rfl
theorem lw_common {n : Nat} (hn : 200 ≤ n) {σ : hv_St} {a c : Int} (ha : rL a) (hc : rL c) : mL_common n σ (iL a) (iL c) = some (iL ((Int.gcd a c : Nat) : Int), σ) := by
  have := ha.1; have := ha.2; have := hc.1; have := hc.2
  unfold mL_common
  rw [hv_let_e, hv_let_e, iL_abs ha, iL_abs hc, lw_gcd_e, r8_gcd 63 a.natAbs c.natAbs n (by omega) (by omega) (by omega) (by omega), Nat.gcd_comm]
  rfl
def frQ (a c : Int) : Int64 × Int64 := (iL (tlN a c a), iL (tlN a c c))
theorem frQ_eq {a c a' c' : Int} (hc : c ≠ 0) (hc' : c' ≠ 0) (h : a * c' = a' * c) : frQ a c = frQ a' c' := by
  unfold frQ
  rw [(tlN_eq hc hc' h).1, (tlN_eq hc hc' h).2]
theorem frQ_1 (v : Int) : frQ v 1 = (iL v, (1 : Int64)) := by
  unfold frQ tlN
  rw [Int.gcd_one]
  simp
  rfl
theorem gcd_rL {a c : Int} (hc : rL c) (hc0 : c ≠ 0) : rL ((Int.gcd a c : Nat) : Int) ∧ ((Int.gcd a c : Nat) : Int) ≠ 0 ∧ Int.gcd a c < 2 ^ 63 := by
  have := hc.1; have := hc.2
  have hg : 0 < Int.gcd a c := Int.gcd_pos_of_ne_zero_right _ hc0
  have hgc : Int.gcd a c ≤ c.natAbs := Nat.le_of_dvd (by omega) (Int.gcd_dvd_natAbs_right a c)
  exact ⟨⟨by omega, by omega⟩, by omega, by omega⟩
theorem fr_told {n : Nat} (hn : 200 ≤ n) {a c : Int} (ha : rL a) (hc : rL c) (hc0 : c ≠ 0) : mQ_told n (iL a) (iL c) = some (frQ a c) := by
  obtain ⟨g1, g2, g3⟩ := gcd_rL (a := a) hc hc0
  have gn := iL_ne0 g3 (fun e => g2 (by rw [e]; rfl))
  unfold mQ_told
  rw [lw_common hn ha hc, hv_b2_e]
  by_cases h : 0 ≤ c
  · rw [if_pos ((lg_ge0 hc).mpr h), hv_if_t (decide_eq_true gn), hv_if_t (decide_eq_true gn), iL_div ha g1, iL_div hc g1, tl_tdiv hc0 (Or.inl rfl) _ (by rw [if_pos h]), tl_tdiv hc0 (Or.inr rfl) _ (by rw [if_pos h])]
    rfl
  · have hna : rL (-a) := ⟨by have := ha.2; omega, by have := ha.1; omega⟩
    have hnc : rL (-c) := ⟨by have := hc.2; omega, by have := hc.1; omega⟩
    rw [if_neg (fun q => h ((lg_ge0 hc).mp q)), hv_if_t (decide_eq_true gn), hv_if_t (decide_eq_true gn), iL_neg, iL_neg, iL_div hna g1, iL_div hnc g1, Int.neg_tdiv, Int.neg_tdiv, ← Int.tdiv_neg, ← Int.tdiv_neg, tl_tdiv hc0 (Or.inl rfl) _ (by rw [if_neg h]), tl_tdiv hc0 (Or.inr rfl) _ (by rw [if_neg h])]
    rfl
/-- a fraction: its least terms, and what they were multiplied by -/
theorem tl_fac (a : Int) {c : Int} (hc : c ≠ 0) : ∃ p q t : Int, tlN a c a = p ∧ tlN a c c = q ∧ 0 < q ∧ Int.gcd p q = 1 ∧ a = p * t ∧ c = q * t ∧ (0 < c → 0 < t) := by
  have hg : 0 < Int.gcd a c := Int.gcd_pos_of_ne_zero_right _ hc
  obtain ⟨a', ea⟩ := Int.gcd_dvd_left a c
  obtain ⟨c', ec⟩ := Int.gcd_dvd_right a c
  have h1 : Int.gcd (a / (Int.gcd a c : Nat)) (c / (Int.gcd a c : Nat)) = 1 := Int.gcd_ediv_gcd_ediv_gcd hg
  generalize eg : ((Int.gcd a c : Nat) : Int) = g at *
  have g0 : 0 < g := by omega
  have hc' : c' ≠ 0 := fun e => hc (by rw [ec, e, Int.mul_zero])
  have da : a / g = a' := by rw [ea]; exact Int.mul_ediv_cancel_left a' (by omega)
  have dc : c / g = c' := by rw [ec]; exact Int.mul_ediv_cancel_left c' (by omega)
  rw [da, dc] at h1
  have p1 : tlN a c a = c.sign * a' := by
    unfold tlN
    rw [eg]
    have : c.sign * a = g * (c.sign * a') := by rw [ea]; grind
    rw [this]
    exact Int.mul_ediv_cancel_left _ (by omega)
  have p2 : tlN a c c = c.sign * c' := by
    unfold tlN
    rw [eg]
    have : c.sign * c = g * (c.sign * c') := by
      have e2 : c = g * c' := ec
      calc c.sign * c = c.sign * (g * c') := by rw [← e2]
        _ = g * (c.sign * c') := by grind
    rw [this]
    exact Int.mul_ediv_cancel_left _ (by omega)
  rcases Int.lt_or_gt_of_ne hc with h | h
  · have es := Int.sign_eq_neg_one_of_neg h
    have hn : c' < 0 := by
      refine Int.lt_of_not_ge (fun h0 => ?_)
      have := Int.mul_nonneg (by omega : 0 ≤ g) h0
      omega
    rw [es] at p1 p2
    refine ⟨_, _, -g, p1, p2, by omega, ?_, ?_, ?_, fun h9 => by omega⟩
    · rw [Int.neg_one_mul, Int.neg_one_mul, Int.gcd_neg, Int.neg_gcd]
      exact h1
    · rw [ea]; grind
    · rw [ec]; grind
  · have es := Int.sign_eq_one_of_pos h
    have hn : 0 < c' := by
      refine Int.lt_of_not_ge (fun h0 => ?_)
      have := Int.mul_nonneg (by omega : 0 ≤ g) (by omega : 0 ≤ -c')
      rw [Int.mul_neg] at this
      omega
    rw [es] at p1 p2
    refine ⟨_, _, g, p1, p2, by omega, ?_, ?_, ?_, fun _ => g0⟩
    · rw [Int.one_mul, Int.one_mul]
      exact h1
    · rw [ea]; grind
    · rw [ec]; grind
theorem rL_dvd {x y : Int} (h : x.natAbs ≤ y.natAbs) (hy : rL y) : rL x := by
  have := hy.1; have := hy.2
  exact ⟨by omega, by omega⟩
theorem abs_mul_le {x r : Int} (hr : r ≠ 0) : x.natAbs ≤ (x * r).natAbs := by
  rw [Int.natAbs_mul]
  exact Nat.le_mul_of_pos_right _ (Int.natAbs_pos.mpr hr)
theorem fr_plus {n : Nat} (hn : 200 ≤ n) {a b D : Int} (hD : 0 < D) (rD : rL D) (rs : rL (a + b)) : mQ_plus n (frQ a D) (frQ b D) = some (frQ (a + b) D) := by
  obtain ⟨p1, q1, t1, e1, e2, e3, e4, e5, e6, e7⟩ := tl_fac a (c := D) (by omega)
  obtain ⟨p2, q2, t2, f1, f2, f3, f4, f5, f6, f7⟩ := tl_fac b (c := D) (by omega)
  have t1p := e7 hD
  have t2p := f7 hD
  have rq1 : rL q1 := rL_dvd (by rw [e6]; exact abs_mul_le (by omega)) rD
  have rq2 : rL q2 := rL_dvd (by rw [f6]; exact abs_mul_le (by omega)) rD
  obtain ⟨g1, g2, g3⟩ := gcd_rL (a := q1) rq2 (by omega)
  have gn := iL_ne0 g3 (fun e => g2 (by rw [e]; rfl))
  obtain ⟨m1, em1⟩ := Int.gcd_dvd_left q1 q2
  obtain ⟨m2, em2⟩ := Int.gcd_dvd_right q1 q2
  have hco : Int.gcd (q1 / (Int.gcd q1 q2 : Nat)) (q2 / (Int.gcd q1 q2 : Nat)) = 1 := Int.gcd_ediv_gcd_ediv_gcd (by omega)
  unfold mQ_plus frQ
  simp only
  rw [e1, e2, f1, f2, lw_common hn rq1 rq2, hv_b2_e, hv_if_t (decide_eq_true gn), hv_if_t (decide_eq_true gn), hv_if_t (decide_eq_true gn), iL_div rq2 g1, iL_div rq1 g1]
  have gp : 0 < ((Int.gcd q1 q2 : Nat) : Int) := by omega
  generalize ((Int.gcd q1 q2 : Nat) : Int) = g at *
  have d1 : q1.tdiv g = m1 := by rw [em1]; exact Int.mul_tdiv_cancel_left m1 (by omega)
  have d2 : q2.tdiv g = m2 := by rw [em2]; exact Int.mul_tdiv_cancel_left m2 (by omega)
  have d1' : q1 / g = m1 := by rw [em1]; exact Int.mul_ediv_cancel_left m1 (by omega)
  have d2' : q2 / g = m2 := by rw [em2]; exact Int.mul_ediv_cancel_left m2 (by omega)
  rw [d1', d2'] at hco
  rw [d1, d2, iL_mul, iL_mul, iL_add, iL_mul]
  have m1p : 0 < m1 := by
    refine Int.lt_of_not_ge (fun h0 => ?_)
    have := Int.mul_nonneg (by omega : 0 ≤ g) (by omega : 0 ≤ -m1)
    rw [Int.mul_neg] at this
    omega
  have m2p : 0 < m2 := by
    refine Int.lt_of_not_ge (fun h0 => ?_)
    have := Int.mul_nonneg (by omega : 0 ≤ g) (by omega : 0 ≤ -m2)
    rw [Int.mul_neg] at this
    omega
  have h12 : m1 * t1 = m2 * t2 := by
    have h : g * (m1 * t1) = g * (m2 * t2) := by
      have h1 : D = g * m1 * t1 := by rw [← em1]; exact e6
      have h2 : D = g * m2 * t2 := by rw [← em2]; exact f6
      rw [← Int.mul_assoc, ← Int.mul_assoc, ← h1, ← h2]
    exact Int.eq_of_mul_eq_mul_left (by omega) h
  have hdv : m2 ∣ t1 := by
    have h1 : m2.natAbs ∣ m1.natAbs * t1.natAbs := by
      rw [← Int.natAbs_mul, h12, Int.natAbs_mul]
      exact Nat.dvd_mul_right _ _
    have h2 : Nat.Coprime m2.natAbs m1.natAbs := by
      have : Nat.gcd m1.natAbs m2.natAbs = 1 := hco
      exact (Nat.gcd_comm _ _).trans this
    exact Int.natAbs_dvd_natAbs.mp (Nat.Coprime.dvd_of_dvd_mul_left h2 h1)
  obtain ⟨r, er⟩ := hdv
  have rp : 0 < r := by
    refine Int.lt_of_not_ge (fun h0 => ?_)
    have := Int.mul_nonneg (by omega : 0 ≤ m2) (by omega : 0 ≤ -r)
    rw [Int.mul_neg] at this
    omega
  have et2 : t2 = m1 * r := by
    have h : m2 * t2 = m2 * (m1 * r) := by rw [← h12, er]; grind
    exact Int.eq_of_mul_eq_mul_left (by omega) h
  have eD : D = m1 * q2 * r := by rw [f6, et2]; grind
  have eS : a + b = (p1 * m2 + p2 * m1) * r := by rw [e5, f5, er, et2]; grind
  have rN : rL (p1 * m2 + p2 * m1) := rL_dvd (by rw [eS]; exact abs_mul_le (by omega)) rs
  have rM : rL (m1 * q2) := rL_dvd (by rw [eD]; exact abs_mul_le (by omega)) rD
  have M0 : m1 * q2 ≠ 0 := Int.mul_ne_zero (by omega) (by omega)
  rw [fr_told hn rN rM M0, hv_bd_e]
  congr 1
  exact frQ_eq M0 (by omega) (by rw [eD, eS]; grind)
theorem fr_times {n : Nat} (hn : 200 ≤ n) {a c b e N M : Int} (hc : 0 < c) (he : 0 < e) (hM : 0 < M) (ra : rL a) (rc : rL c) (rb : rL b) (re : rL e) (rN : rL N) (rM : rL M) (hx : a * b * M = N * (c * e)) : mQ_times n (frQ a c) (frQ b e) = some (frQ N M) := by
  obtain ⟨p1, q1, t1, e1, e2, e3, e4, e5, e6, e7⟩ := tl_fac a (c := c) (by omega)
  obtain ⟨p2, q2, t2, f1, f2, f3, f4, f5, f6, f7⟩ := tl_fac b (c := e) (by omega)
  have t1p := e7 hc
  have t2p := f7 he
  have rq1 : rL q1 := rL_dvd (by rw [e6]; exact abs_mul_le (by omega)) rc
  have rq2 : rL q2 := rL_dvd (by rw [f6]; exact abs_mul_le (by omega)) re
  have rp1 : rL p1 := rL_dvd (by rw [e5]; exact abs_mul_le (by omega)) ra
  have rp2 : rL p2 := rL_dvd (by rw [f5]; exact abs_mul_le (by omega)) rb
  obtain ⟨u1, u2, u3⟩ := gcd_rL (a := p1) rq2 (by omega)
  obtain ⟨v1, v2, v3⟩ := gcd_rL (a := p2) rq1 (by omega)
  have un := iL_ne0 u3 (fun e => u2 (by rw [e]; rfl))
  have vn := iL_ne0 v3 (fun e => v2 (by rw [e]; rfl))
  obtain ⟨x, ex⟩ := Int.gcd_dvd_left p1 q2
  obtain ⟨t, et⟩ := Int.gcd_dvd_right p1 q2
  obtain ⟨y, ey⟩ := Int.gcd_dvd_left p2 q1
  obtain ⟨s, es⟩ := Int.gcd_dvd_right p2 q1
  have hcu : Int.gcd (p1 / (Int.gcd p1 q2 : Nat)) (q2 / (Int.gcd p1 q2 : Nat)) = 1 := Int.gcd_ediv_gcd_ediv_gcd (by omega)
  have hcv : Int.gcd (p2 / (Int.gcd p2 q1 : Nat)) (q1 / (Int.gcd p2 q1 : Nat)) = 1 := Int.gcd_ediv_gcd_ediv_gcd (by omega)
  unfold mQ_times frQ
  simp only
  rw [e1, e2, f1, f2, lw_common hn rp1 rq2, hv_b2_e, lw_common hn rp2 rq1, hv_b2_e, hv_if_t (decide_eq_true un), hv_if_t (decide_eq_true vn), hv_if_t (decide_eq_true vn), hv_if_t (decide_eq_true un), iL_div rp1 u1, iL_div rp2 v1, iL_div rq1 v1, iL_div rq2 u1]
  have up : 0 < ((Int.gcd p1 q2 : Nat) : Int) := by omega
  have vp : 0 < ((Int.gcd p2 q1 : Nat) : Int) := by omega
  generalize ((Int.gcd p1 q2 : Nat) : Int) = u at *
  generalize ((Int.gcd p2 q1 : Nat) : Int) = v at *
  have a1 : p1.tdiv u = x := by rw [ex]; exact Int.mul_tdiv_cancel_left x (by omega)
  have a2 : q2.tdiv u = t := by rw [et]; exact Int.mul_tdiv_cancel_left t (by omega)
  have a3 : p2.tdiv v = y := by rw [ey]; exact Int.mul_tdiv_cancel_left y (by omega)
  have a4 : q1.tdiv v = s := by rw [es]; exact Int.mul_tdiv_cancel_left s (by omega)
  have b1 : p1 / u = x := by rw [ex]; exact Int.mul_ediv_cancel_left x (by omega)
  have b2 : q2 / u = t := by rw [et]; exact Int.mul_ediv_cancel_left t (by omega)
  have b3 : p2 / v = y := by rw [ey]; exact Int.mul_ediv_cancel_left y (by omega)
  have b4 : q1 / v = s := by rw [es]; exact Int.mul_ediv_cancel_left s (by omega)
  rw [b1, b2] at hcu
  rw [b3, b4] at hcv
  rw [a1, a2, a3, a4, iL_mul, iL_mul]
  have tp : 0 < t := by
    refine Int.lt_of_not_ge (fun h0 => ?_)
    have := Int.mul_nonneg (by omega : 0 ≤ u) (by omega : 0 ≤ -t)
    rw [Int.mul_neg] at this
    omega
  have sp : 0 < s := by
    refine Int.lt_of_not_ge (fun h0 => ?_)
    have := Int.mul_nonneg (by omega : 0 ≤ v) (by omega : 0 ≤ -s)
    rw [Int.mul_neg] at this
    omega
  have hx2 : x * y * M = N * (s * t) := by
    have h : (u * v * t1 * t2) * (x * y * M) = (u * v * t1 * t2) * (N * (s * t)) := by
      have h1 : a = u * x * t1 := by rw [← ex]; exact e5
      have h2 : b = v * y * t2 := by rw [← ey]; exact f5
      have h3 : c = v * s * t1 := by rw [← es]; exact e6
      have h4 : e = u * t * t2 := by rw [← et]; exact f6
      rw [h1, h2, h3, h4] at hx
      grind
    have hz : u * v * t1 * t2 ≠ 0 := Int.mul_ne_zero (Int.mul_ne_zero (Int.mul_ne_zero (by omega) (by omega)) (by omega)) (by omega)
    exact Int.eq_of_mul_eq_mul_left hz h
  have cxt : Nat.Coprime x.natAbs t.natAbs := hcu
  have cys : Nat.Coprime y.natAbs s.natAbs := hcv
  have cxs : Nat.Coprime x.natAbs s.natAbs := by
    have h : Nat.Coprime p1.natAbs q1.natAbs := e4
    refine Nat.Coprime.coprime_dvd_left ?_ (Nat.Coprime.coprime_dvd_right ?_ h)
    · rw [ex, Int.natAbs_mul]; exact Nat.dvd_mul_left _ _
    · rw [es, Int.natAbs_mul]; exact Nat.dvd_mul_left _ _
  have cyt : Nat.Coprime y.natAbs t.natAbs := by
    have h : Nat.Coprime p2.natAbs q2.natAbs := f4
    refine Nat.Coprime.coprime_dvd_left ?_ (Nat.Coprime.coprime_dvd_right ?_ h)
    · rw [ey, Int.natAbs_mul]; exact Nat.dvd_mul_left _ _
    · rw [et, Int.natAbs_mul]; exact Nat.dvd_mul_left _ _
  have cc : Nat.Coprime (x * y).natAbs (s * t).natAbs := by
    rw [Int.natAbs_mul, Int.natAbs_mul]
    exact Nat.Coprime.mul_left (Nat.Coprime.mul_right cxs cxt) (Nat.Coprime.mul_right cys cyt)
  have st0 : s * t ≠ 0 := Int.mul_ne_zero (by omega) (by omega)
  have habs : (x * y).natAbs * M.natAbs = N.natAbs * (s * t).natAbs := by rw [← Int.natAbs_mul, hx2, Int.natAbs_mul]
  have dM : (s * t).natAbs ∣ M.natAbs := Nat.Coprime.dvd_of_dvd_mul_left (Nat.Coprime.symm cc) (by rw [habs]; exact Nat.dvd_mul_left _ _)
  have dN : (x * y).natAbs ∣ N.natAbs := Nat.Coprime.dvd_of_dvd_mul_right cc (by rw [← habs]; exact Nat.dvd_mul_right _ _)
  have r1 : rL (s * t) := rL_dvd (Nat.le_of_dvd (by omega) dM) rM
  have r2 : rL (x * y) := by
    by_cases h0 : N = 0
    · have hz : (x * y).natAbs * M.natAbs = 0 := by rw [habs, h0]; simp
      rcases Nat.mul_eq_zero.mp hz with h | h
      · have : x * y = 0 := Int.natAbs_eq_zero.mp h
        rw [this]
        exact ⟨by decide, by decide⟩
      · omega
    · exact rL_dvd (Nat.le_of_dvd (by omega) dN) rN
  rw [fr_told hn r2 r1 st0, hv_bd_e]
  congr 1
  exact frQ_eq st0 (by omega) hx2
theorem fr_least {n : Nat} (hn : 200 ≤ n) {a c : Int} (ra : rL a) (rc : rL c) (hc : c ≠ 0) : mQ_isLeast n (frQ a c) = some 1 := by
  obtain ⟨p, q, t, e1, e2, e3, e4, e5, e6, e7⟩ := tl_fac a hc
  have t0 : t ≠ 0 := fun h => hc (by rw [e6, h, Int.mul_zero])
  have rq : rL q := rL_dvd (by rw [e6]; exact abs_mul_le t0) rc
  have rp : rL p := rL_dvd (by rw [e5]; exact abs_mul_le t0) ra
  unfold mQ_isLeast frQ
  simp only
  rw [e1, e2, if_neg (fun h => by have := (lg_le0 rq).mp h; omega), lw_common hn rp rq, hv_b2_e, e4]
  rfl
theorem frQ_0 {D : Int} : (frQ 0 D).1 = 0 := by
  unfold frQ tlN
  simp
  rfl
