/-! places -/
def fPl (x y : Int32) : Prop := fN 4 x ∧ fN 3 y
theorem r8_isPlace {n : Nat} {σ : hv_St} (x y : Int32) : (fPl x y → mX8_isPlace n σ x y = some (1, σ)) ∧ (¬ fPl x y → mX8_isPlace n σ x y = some (0, σ)) := by
  have hx : fN 4 x ↔ (0 : Int32) ≤ x ∧ x ≤ 3 := fN_in (N := 4) (by decide) x
  have hy : fN 3 y ↔ (0 : Int32) ≤ y ∧ y ≤ 2 := fN_in (N := 3) (by decide) y
  unfold mX8_isPlace
  rw [show (0 : Int64) = (0 : Int32).toInt64 from rfl, show (3 : Int64) = (3 : Int32).toInt64 from rfl, show (2 : Int64) = (2 : Int32).toInt64 from rfl, r8_in32, hv_b2_e]
  by_cases h1 : fN 4 x
  · rw [if_pos (hx.mp h1), if_neg (by decide), r8_in32, hv_b2_e]
    by_cases h2 : fN 3 y
    · rw [if_pos (hy.mp h2), if_neg (by decide)]
      exact ⟨fun _ => rfl, fun h => absurd ⟨h1, h2⟩ h⟩
    · rw [if_neg (fun q => h2 (hy.mpr q)), if_pos rfl]
      exact ⟨fun h => absurd h.2 h2, fun _ => rfl⟩
  · rw [if_neg (fun q => h1 (hx.mpr q)), if_pos rfl]
    exact ⟨fun h => absurd h.1 h1, fun _ => rfl⟩
theorem x3_hasPin {n : Nat} {σ : hv_St} {P : Nat} (hP : P ≤ 6) (hs : σ.1 1 0 = nI P) (x y : Int32) : ∀ (d k fuel : Nat), k + d = P → d < fuel → ((∃ p, k ≤ p ∧ p < P ∧ σ.1 2 (2 * p) = x ∧ σ.1 2 (2 * p + 1) = y) → kX3_hasPinAt_2 n fuel σ x y (nI k) = some (1, σ)) ∧ ((¬ ∃ p, k ≤ p ∧ p < P ∧ σ.1 2 (2 * p) = x ∧ σ.1 2 (2 * p + 1) = y) → kX3_hasPinAt_2 n fuel σ x y (nI k) = some (0, σ)) := by
  intro d
  induction d with
  | zero =>
    intro k fuel hk hf
    obtain ⟨fuel, rfl⟩ : ∃ q, fuel = q + 1 := ⟨fuel - 1, by omega⟩
    refine ⟨fun ⟨p, h1, h2, _⟩ => by omega, fun _ => ?_⟩
    show kX3_hasPinAt_2_b n _ _ _ _ _ = _
    unfold kX3_hasPinAt_2_b
    rw [hs, if_pos (nI_le (by omega) (by omega))]
  | succ d ih =>
    intro k fuel hk hf
    obtain ⟨fuel, rfl⟩ : ∃ q, fuel = q + 1 := ⟨fuel - 1, by omega⟩
    have hi := ih (k + 1) fuel (by omega) (by omega)
    have e : kX3_hasPinAt_2 n (fuel + 1) σ x y (nI k) = if σ.1 2 (2 * k) = x then (if σ.1 2 (2 * k + 1) = y then some (1, σ) else kX3_hasPinAt_2 n fuel σ x y (nI (k + 1))) else kX3_hasPinAt_2 n fuel σ x y (nI (k + 1)) := by
      show kX3_hasPinAt_2_b n _ _ _ _ _ = _
      unfold kX3_hasPinAt_2_b kX3_hasPinAt_38
      rw [hs, if_neg (nI_ge (by omega) (by omega))]
      simp only [nI_2, nI_1, hv_if_t (hv_ok_nI (show 2 * k < 12 by omega) (by decide)), hv_if_t (hv_ok_nI (show 2 * k + 1 < 12 by omega) (by decide)), nI_clamp (show 2 * k < 2 ^ 31 by omega), nI_clamp (show 2 * k + 1 < 2 ^ 31 by omega)]
    rw [e]
    by_cases h1 : σ.1 2 (2 * k) = x ∧ σ.1 2 (2 * k + 1) = y
    · rw [if_pos h1.1, if_pos h1.2]
      exact ⟨fun _ => rfl, fun h => absurd ⟨k, Nat.le_refl _, by omega, h1⟩ h⟩
    · have e2 : (if σ.1 2 (2 * k) = x then (if σ.1 2 (2 * k + 1) = y then some ((1 : Int32), σ) else kX3_hasPinAt_2 n fuel σ x y (nI (k + 1))) else kX3_hasPinAt_2 n fuel σ x y (nI (k + 1))) = kX3_hasPinAt_2 n fuel σ x y (nI (k + 1)) := by
        by_cases h2 : σ.1 2 (2 * k) = x
        · rw [if_pos h2, if_neg (fun h3 => h1 ⟨h2, h3⟩)]
        · rw [if_neg h2]
      rw [e2]
      refine ⟨fun ⟨p, h2, h3, h4⟩ => hi.1 ⟨p, ?_, h3, h4⟩, fun h => hi.2 (fun ⟨p, h2, h3, h4⟩ => h ⟨p, by omega, h3, h4⟩)⟩
      by_cases h5 : p = k
      · rw [h5] at h4
        exact absurd h4 h1
      · omega
theorem r8_pinAt {n : Nat} {σ : hv_St} {P : Nat} (hP : P ≤ 6) (hs : σ.1 0 1 = nI P) (x y : Int32) : ∀ (d k fuel : Nat), k + d = P → d < fuel → ((∃ p, k ≤ p ∧ p < P ∧ σ.1 1 p = x ∧ σ.1 2 p = y) → ∃ p, p < P ∧ kX8_pinAt_2 n fuel σ x y (nI k) = some (nI p, σ)) ∧ ((¬ ∃ p, k ≤ p ∧ p < P ∧ σ.1 1 p = x ∧ σ.1 2 p = y) → kX8_pinAt_2 n fuel σ x y (nI k) = some (-1, σ)) := by
  intro d
  induction d with
  | zero =>
    intro k fuel hk hf
    obtain ⟨fuel, rfl⟩ : ∃ q, fuel = q + 1 := ⟨fuel - 1, by omega⟩
    refine ⟨fun ⟨p, h1, h2, _⟩ => by omega, fun _ => ?_⟩
    show kX8_pinAt_2_b n _ _ _ _ _ = _
    unfold kX8_pinAt_2_b
    rw [hs, if_pos (nI_le (by omega) (by omega))]
  | succ d ih =>
    intro k fuel hk hf
    obtain ⟨fuel, rfl⟩ : ∃ q, fuel = q + 1 := ⟨fuel - 1, by omega⟩
    have hi := ih (k + 1) fuel (by omega) (by omega)
    have e : kX8_pinAt_2 n (fuel + 1) σ x y (nI k) = if σ.1 1 k = x then (if σ.1 2 k = y then some (nI k, σ) else kX8_pinAt_2 n fuel σ x y (nI (k + 1))) else kX8_pinAt_2 n fuel σ x y (nI (k + 1)) := by
      show kX8_pinAt_2_b n _ _ _ _ _ = _
      unfold kX8_pinAt_2_b kX8_pinAt_32
      rw [hs, if_neg (nI_ge (by omega) (by omega))]
      simp only [nI_1, hv_if_t (hv_ok_nI (show k < 6 by omega) (by decide)), nI_clamp (show k < 2 ^ 31 by omega)]
    rw [e]
    by_cases h1 : σ.1 1 k = x ∧ σ.1 2 k = y
    · rw [if_pos h1.1, if_pos h1.2]
      exact ⟨fun _ => ⟨k, by omega, rfl⟩, fun h => absurd ⟨k, Nat.le_refl _, by omega, h1⟩ h⟩
    · have e2 : (if σ.1 1 k = x then (if σ.1 2 k = y then some (nI k, σ) else kX8_pinAt_2 n fuel σ x y (nI (k + 1))) else kX8_pinAt_2 n fuel σ x y (nI (k + 1))) = kX8_pinAt_2 n fuel σ x y (nI (k + 1)) := by
        by_cases h2 : σ.1 1 k = x
        · rw [if_pos h2, if_neg (fun h3 => h1 ⟨h2, h3⟩)]
        · rw [if_neg h2]
      rw [e2]
      refine ⟨fun ⟨p, h2, h3, h4⟩ => hi.1 ⟨p, ?_, h3, h4⟩, fun h => hi.2 (fun ⟨p, h2, h3, h4⟩ => h ⟨p, by omega, h3, h4⟩)⟩
      by_cases h5 : p = k
      · rw [h5] at h4
        exact absurd h4 h1
      · omega
theorem x7_isFreePlace {n : Nat} {σ : hv_St} {P : Nat} (hn : 6 < n) (hP : P ≤ 6) (hs : σ.1 1 0 = nI P) (x y : Int32) : (fPl x y ∧ (¬ ∃ p, p < P ∧ σ.1 2 (2 * p) = x ∧ σ.1 2 (2 * p + 1) = y) → mX7_isFreePlace n σ x y = some (1, σ)) ∧ (¬ (fPl x y ∧ ¬ ∃ p, p < P ∧ σ.1 2 (2 * p) = x ∧ σ.1 2 (2 * p + 1) = y) → mX7_isFreePlace n σ x y = some (0, σ)) := by
  have hx : fN 4 x ↔ ¬ x < 0 ∧ ¬ (4 : Int32) ≤ x := fN_iff (N := 4) (by decide) x
  have hy : fN 3 y ↔ ¬ y < 0 ∧ ¬ (3 : Int32) ≤ y := fN_iff (N := 3) (by decide) y
  have e0 : kX7_isFreePlace_22 n σ x y = some (0, σ) := rfl
  have e1 : kX7_isFreePlace_23 n σ x y 1 = hv_b2 (mX3_hasPinAt n σ x y) fun r34 s34 => if r34 = 0 then (some ((1 : Int32), s34)) else (kX7_isFreePlace_44 n s34) := rfl
  have hh := x3_hasPin (n := n) hP hs x y P 0 n (by omega) (by omega)
  have e2 : kX3_hasPinAt_2 n n σ x y (nI 0) = mX3_hasPinAt n σ x y := rfl
  rw [e2] at hh
  unfold mX7_isFreePlace
  rw [e0, e1]
  by_cases h1 : x < 0
  · rw [if_pos h1]
    exact ⟨fun h => absurd h1 (hx.mp h.1.1).1, fun _ => rfl⟩
  · rw [if_neg h1]
    by_cases h2 : (4 : Int32) ≤ x
    · rw [if_pos h2]
      exact ⟨fun h => absurd h2 (hx.mp h.1.1).2, fun _ => rfl⟩
    · rw [if_neg h2]
      by_cases h3 : y < 0
      · rw [if_pos h3]
        exact ⟨fun h => absurd h3 (hy.mp h.1.2).1, fun _ => rfl⟩
      · rw [if_neg h3]
        by_cases h4 : (3 : Int32) ≤ y
        · rw [if_pos h4]
          exact ⟨fun h => absurd h4 (hy.mp h.1.2).2, fun _ => rfl⟩
        · rw [if_neg h4]
          have hpl : fPl x y := ⟨hx.mpr ⟨h1, h2⟩, hy.mpr ⟨h3, h4⟩⟩
          by_cases h5 : ∃ p, p < P ∧ σ.1 2 (2 * p) = x ∧ σ.1 2 (2 * p + 1) = y
          · rw [hh.1 (by obtain ⟨p, q⟩ := h5; exact ⟨p, Nat.zero_le _, q⟩), hv_b2_e]
            exact ⟨fun h => absurd h5 h.2, fun _ => rfl⟩
          · rw [hh.2 (fun ⟨p, _, q⟩ => h5 ⟨p, q⟩), hv_b2_e]
            exact ⟨fun _ => rfl, fun h => absurd ⟨hpl, h5⟩ h⟩
