/-! the reference's rows in least terms -/
def gcdK (V : Nat → Int) : Nat → Nat
  | 0 => 0
  | k + 1 => Int.gcd (gcdK V k : Int) (V k)
theorem gcdK_le {V : Nat → Int} {M : Nat} : ∀ N, (∀ k, k < N → (V k).natAbs ≤ M) → gcdK V N ≤ M
  | 0, _ => Nat.zero_le _
  | N + 1, h => by
    have h1 := gcdK_le N (fun k hk => h k (by omega))
    have h2 := h N (by omega)
    show Int.gcd (gcdK V N : Int) (V N) ≤ M
    by_cases e : V N = 0
    · rw [e, Int.gcd_zero_right]
      simpa using h1
    · refine Nat.le_trans (Nat.le_of_dvd (by omega) ?_) h2
      exact Int.gcd_dvd_natAbs_right _ _
theorem gcdK_dvd {V : Nat → Int} : ∀ N k, k < N → (gcdK V N : Int) ∣ V k
  | 0, _, h => absurd h (Nat.not_lt_zero _)
  | N + 1, k, h => by
    show (Int.gcd (gcdK V N : Int) (V N) : Int) ∣ V k
    by_cases e : k = N
    · rw [e]
      exact Int.gcd_dvd_right _ _
    · exact Int.dvd_trans (Int.gcd_dvd_left _ _) (gcdK_dvd N k (by omega))
theorem gcdK_mul (c : Int) (V : Nat → Int) : ∀ N, gcdK (fun k => c * V k) N = c.natAbs * gcdK V N
  | 0 => rfl
  | N + 1 => by
    show Int.gcd (gcdK (fun k => c * V k) N : Int) (c * V N) = c.natAbs * Int.gcd (gcdK V N : Int) (V N)
    rw [gcdK_mul c V N, ← Int.gcd_mul_left]
    rcases Int.natAbs_eq c with e | e
    · rw [Int.natCast_mul]
      rw [← e]
    · have e2 : ((c.natAbs * gcdK V N : Nat) : Int) = -(c * (gcdK V N : Int)) := by
        rw [Int.natCast_mul]
        have e3 : (c.natAbs : Int) = -c := by omega
        rw [e3, Int.neg_mul]
      rw [e2, Int.neg_gcd]
theorem gcdK_congr {V U : Nat → Int} : ∀ N, (∀ k, k < N → V k = U k) → gcdK V N = gcdK U N
  | 0, _ => rfl
  | N + 1, h => by
    show Int.gcd (gcdK V N : Int) (V N) = Int.gcd (gcdK U N : Int) (U N)
    rw [gcdK_congr N (fun k hk => h k (by omega)), h N (by omega)]
/-- a row in least terms is no greater than any that is proportional to it -/
theorem prim_le {W w : Nat → Int} {N : Nat} (hg : gcdK W N ≤ 1) {p q : Int} (hp : p ≠ 0) (hq : q ≠ 0) (h : ∀ k, k < N → p * W k = q * w k) {k : Nat} (hk : k < N) : (W k).natAbs ≤ (w k).natAbs := by
  have e1 : p.natAbs * gcdK W N = q.natAbs * gcdK w N := by
    rw [← gcdK_mul, ← gcdK_mul]
    exact gcdK_congr N h
  have e2 : p.natAbs * (W k).natAbs = q.natAbs * (w k).natAbs := by
    rw [← Int.natAbs_mul, ← Int.natAbs_mul, h k hk]
  by_cases g0 : gcdK W N = 0
  · have d := gcdK_dvd N k hk (V := W)
    rw [g0] at d
    have : W k = 0 := by simpa using d
    rw [this]
    exact Nat.zero_le _
  · have g1 : gcdK W N = 1 := by omega
    rw [g1, Nat.mul_one] at e1
    rw [e1, Nat.mul_assoc] at e2
    have q0 : 0 < q.natAbs := by omega
    have e3 : gcdK w N * (W k).natAbs = (w k).natAbs := Nat.eq_of_mul_eq_mul_left q0 e2
    have w0 : 0 < gcdK w N := Nat.pos_of_ne_zero (fun z => by rw [z] at e1; omega)
    rw [← e3]
    exact Nat.le_mul_of_pos_left _ w0
def rRow (N row : Nat) (f : Nat → Int64) (V : Nat → Int) : Prop := ∀ k, k < N → f (12 * row + k) = iL (V k)
theorem r8_less_5 {n : Nat} (hn : 200 ≤ n) {σ : hv_St} {N row : Nat} (hN : σ.1 0 18 = nI N) (hN12 : N ≤ 12) (hr : row < 12) {f : Nat → Int64} {V : Nat → Int} (hf : rRow N row f V) (hV : ∀ k, k < N → (V k).natAbs ≤ 2 ^ 62) : ∀ (d k fuel : Nat), k + d = N → d < fuel → kX8_lessens_5 n fuel (hv_wJ σ 13 f) (nI row) (iL ((gcdK V k : Nat) : Int)) (nI k) = kX8_lessens_40 n n (hv_wJ σ 13 f) (nI row) (iL ((gcdK V N : Nat) : Int)) (nI 0) := by
  intro d
  induction d with
  | zero =>
    intro k fuel hk hfu
    obtain ⟨fuel, rfl⟩ : ∃ q, fuel = q + 1 := ⟨fuel - 1, by omega⟩
    obtain rfl : k = N := by omega
    show kX8_lessens_5_b n _ _ _ _ _ = _
    unfold kX8_lessens_5_b
    rw [hv_wJ_1, hN, if_pos (nI_le (Nat.le_refl _) (by omega))]
    rfl
  | succ d ih =>
    intro k fuel hk hfu
    obtain ⟨fuel, rfl⟩ : ∃ q, fuel = q + 1 := ⟨fuel - 1, by omega⟩
    have g1 := gcdK_le (V := V) k (fun j hj => hV j (by omega))
    show kX8_lessens_5_b n _ _ _ _ _ = _
    unfold kX8_lessens_5_b
    rw [hv_wJ_1, hN, if_neg (nI_ge (by omega) (by omega)), nI_12, hv_if_t (hv_ok_nI (show 12 * row + k < 144 by omega) (by decide)), nI_clamp (by omega), hv_wJ_at, hf k (by omega), r8_common hn (rL_of (by simpa using g1)) (rL_of (hV k (by omega))), hv_b2_e, nI_1]
    exact ih (k + 1) fuel (by omega) (by omega)
theorem lg_le1 {a : Int} (h : rL a) : lg_cmp (iL a) (1 : Int64) ≤ 0 ↔ a ≤ 1 := by
  have e1 : (1 : Int64) = iL 1 := rfl
  have l := iL_lt (a := 1) (b := a) ⟨by decide, by decide⟩ h
  unfold lg_cmp
  rw [e1]
  by_cases h1 : iL 1 < iL a
  · rw [if_pos h1]
    have := l.mp h1
    exact ⟨fun q => absurd q (by decide), fun q => by omega⟩
  · rw [if_neg h1]
    have h2 : ¬ 1 < a := fun q => h1 (l.mpr q)
    by_cases h3 : iL a = iL 1
    · rw [if_pos h3]
      exact ⟨fun _ => by omega, fun _ => by decide⟩
    · rw [if_neg h3]
      exact ⟨fun _ => by omega, fun _ => by decide⟩
theorem r8_less_40 {n : Nat} {σ : hv_St} {N row : Nat} (hN : σ.1 0 18 = nI N) (hN12 : N ≤ 12) (hr : row < 12) {V W : Nat → Int} {c : Int} (hc : 1 < c) (hcr : rL c) (hW : ∀ k, k < N → V k = c * W k) (hV : ∀ k, k < N → rL (V k)) : ∀ (d k fuel : Nat) (f : Nat → Int64), k + d = N → d < fuel → (∀ j, j < N → f (12 * row + j) = iL (if j < k then W j else V j)) → ∃ g, kX8_lessens_40 n fuel (hv_wJ σ 13 f) (nI row) (iL c) (nI k) = some (hv_wJ σ 13 g) ∧ rRow N row g W ∧ ∀ i, (i < 12 * row ∨ 12 * row + N ≤ i) → g i = f i := by
  intro d
  induction d with
  | zero =>
    intro k fuel f hk hfu hf
    obtain ⟨fuel, rfl⟩ : ∃ q, fuel = q + 1 := ⟨fuel - 1, by omega⟩
    refine ⟨f, ?_, fun j hj => by rw [hf j hj, if_pos (by omega)], fun _ _ => rfl⟩
    show kX8_lessens_40_b n _ _ _ _ _ = _
    unfold kX8_lessens_40_b
    rw [hv_wJ_1, hN, if_pos (nI_le (by omega) (by omega))]
  | succ d ih =>
    intro k fuel f hk hfu hf
    obtain ⟨fuel, rfl⟩ : ∃ q, fuel = q + 1 := ⟨fuel - 1, by omega⟩
    have hfk := hf k (by omega)
    rw [if_neg (Nat.lt_irrefl k)] at hfk
    have hd : (V k).tdiv c = W k := by
      rw [hW k (by omega)]
      exact Int.mul_tdiv_cancel_left _ (by omega)
    obtain ⟨g, g1, g2, g3⟩ := ih (k + 1) fuel (vp_updL f (12 * row + k) (iL (W k))) (by omega) (by omega) (fun j hj => by
      by_cases e : j = k
      · rw [e, pk_uLs, if_pos (by omega)]
      · rw [pk_uLn (by omega), hf j hj]
        by_cases l : j < k
        · rw [if_pos l, if_pos (by omega)]
        · rw [if_neg l, if_neg (by omega)])
    refine ⟨g, ?_, g2, fun i hi => ?_⟩
    · show kX8_lessens_40_b n _ _ _ _ _ = _
      unfold kX8_lessens_40_b
      have c0 : ¬ iL c = 0 := fun q => by
        have := (iL_eq hcr ⟨by decide, by decide⟩ (b := 0)).mp q
        omega
      rw [hv_wJ_1, hN, if_neg (nI_ge (by omega) (by omega)), if_neg (fun q => by have := (lg_le1 hcr).mp q; omega), nI_12, hv_if_t (hv_ok_nI (show 12 * row + k < 144 by omega) (by decide)), hv_if_t (decide_eq_true c0), hv_if_t (hv_ok_nI (show 12 * row + k < 144 by omega) (by decide)), nI_clamp (by omega), hv_let_e, hv_wJ_at, hfk, iL_div (hV k (by omega)) hcr, hd, hv_sJ_wJ, nI_1]
      exact g1
    · rw [g3 i hi, pk_uLn (by omega)]
theorem r8_lessens {n : Nat} (hn : 200 ≤ n) {σ : hv_St} {N row : Nat} (hN : σ.1 0 18 = nI N) (hN12 : N ≤ 12) (hr : row < 12) {f : Nat → Int64} {V : Nat → Int} (hf : rRow N row f V) (hV : ∀ k, k < N → (V k).natAbs ≤ 2 ^ 62) : ∃ g W c, mX8_lessens n (hv_wJ σ 13 f) (nI row) = some (hv_wJ σ 13 g) ∧ c ≠ 0 ∧ (∀ k, k < N → V k = c * W k) ∧ gcdK W N ≤ 1 ∧ rRow N row g W ∧ ∀ i, (i < 12 * row ∨ 12 * row + N ≤ i) → g i = f i := by
  have h5 := r8_less_5 (n := n) hn hN hN12 hr hf hV N 0 n (by omega) (by omega)
  have hgl := gcdK_le (V := V) N hV
  have e0 : mX8_lessens n (hv_wJ σ 13 f) (nI row) = kX8_lessens_40 n n (hv_wJ σ 13 f) (nI row) (iL ((gcdK V N : Nat) : Int)) (nI 0) := h5
  rw [e0]
  have hgr : rL ((gcdK V N : Nat) : Int) := rL_of (by simpa using hgl)
  by_cases h1 : gcdK V N ≤ 1
  · refine ⟨f, V, 1, ?_, by decide, fun k _ => (Int.one_mul _).symm, h1, hf, fun _ _ => rfl⟩
    obtain ⟨m, rfl⟩ : ∃ q, n = q + 1 := ⟨n - 1, by omega⟩
    show kX8_lessens_40_b (m + 1) _ _ _ _ _ = _
    unfold kX8_lessens_40_b
    by_cases l : (hv_wJ σ 13 f).1 0 18 ≤ nI 0
    · rw [if_pos l]
    · rw [if_neg l, if_pos ((lg_le1 hgr).mpr (by omega))]
  · have hd := fun k hk => gcdK_dvd (V := V) N k hk
    have hW : ∀ k, k < N → V k = ((gcdK V N : Nat) : Int) * (V k / ((gcdK V N : Nat) : Int)) := fun k hk => (Int.mul_ediv_cancel' (hd k hk)).symm
    obtain ⟨g, g1, g2, g3⟩ := r8_less_40 (n := n) hN hN12 hr (V := V) (W := fun k => V k / ((gcdK V N : Nat) : Int)) (c := ((gcdK V N : Nat) : Int)) (by omega) hgr hW (fun k hk => rL_of (hV k hk)) N 0 n f (by omega) (by omega) (fun k hk => by rw [if_neg (Nat.not_lt_zero k)]; exact hf k hk)
    refine ⟨g, _, _, g1, by omega, hW, ?_, g2, g3⟩
    have e := gcdK_mul ((gcdK V N : Nat) : Int) (fun k => V k / ((gcdK V N : Nat) : Int)) N
    rw [← gcdK_congr N hW, Int.natAbs_natCast] at e
    have e2 : gcdK V N * 1 = gcdK V N * gcdK (fun k => V k / ((gcdK V N : Nat) : Int)) N := by rw [← e, Nat.mul_one]
    have := Nat.eq_of_mul_eq_mul_left (by omega) e2
    omega
