/-! the reference's determinant -/
theorem r8_swaps {n : Nat} {σ : hv_St} {a c N : Nat} (ha : a < 12) (hc : c < 12) (hac : a ≠ c) (hN : N ≤ 12) : ∀ (d k fuel : Nat) (f : Nat → Int64), k + d = N → d < fuel → ∃ g, kX8_swaps_3 n fuel (hv_wJ σ 13 f) (nI a) (nI c) (nI N) (nI k) = some (hv_wJ σ 13 g) ∧ ∀ i j, i < 12 → j < 12 → g (12 * i + j) = if k ≤ j ∧ j < N then (if i = a then f (12 * c + j) else if i = c then f (12 * a + j) else f (12 * i + j)) else f (12 * i + j) := by
  intro d
  induction d with
  | zero =>
    intro k fuel f hk hf
    obtain ⟨fuel, rfl⟩ : ∃ m, fuel = m + 1 := ⟨fuel - 1, by omega⟩
    refine ⟨f, ?_, fun i j _ _ => ?_⟩
    · show kX8_swaps_3_b n _ _ _ _ _ _ = _
      unfold kX8_swaps_3_b
      rw [if_pos (nI_le (by omega) (by omega))]
    · rw [if_neg (by omega)]
  | succ d ih =>
    intro k fuel f hk hf
    obtain ⟨fuel, rfl⟩ : ∃ m, fuel = m + 1 := ⟨fuel - 1, by omega⟩
    obtain ⟨g, e, hg⟩ := ih (k + 1) fuel (vp_updL (vp_updL f (12 * a + k) (f (12 * c + k))) (12 * c + k) (f (12 * a + k))) (by omega) (by omega)
    refine ⟨g, ?_, fun i j hi hj => ?_⟩
    · rw [← e]
      show kX8_swaps_3_b n _ _ _ _ _ _ = _
      unfold kX8_swaps_3_b
      rw [if_neg (nI_ge (by omega) (by omega))]
      simp only [nI_12, hv_if_t (hv_ok_nI (show 12 * a + k < 144 by omega) (by decide)), hv_if_t (hv_ok_nI (show 12 * c + k < 144 by omega) (by decide)), hv_let_e, nI_clamp (show 12 * a + k < 2 ^ 31 by omega), nI_clamp (show 12 * c + k < 2 ^ 31 by omega), hv_wJ_at, hv_sJ_wJ, nI_1]
    · rw [hg i j hi hj]
      by_cases h1 : k + 1 ≤ j ∧ j < N
      · rw [if_pos h1, if_pos (show k ≤ j ∧ j < N by omega)]
        by_cases h2 : i = a
        · rw [if_pos h2, if_pos h2, pk_uLn (by omega), pk_uLn (by omega)]
        · rw [if_neg h2, if_neg h2]
          by_cases h3 : i = c
          · rw [if_pos h3, if_pos h3, pk_uLn (by omega), pk_uLn (by omega)]
          · rw [if_neg h3, if_neg h3, pk_uLn (by omega), pk_uLn (by omega)]
      · rw [if_neg h1]
        by_cases h4 : j = k
        · subst h4
          rw [if_pos (show j ≤ j ∧ j < N by omega)]
          by_cases h2 : i = a
          · rw [if_pos h2, h2, pk_uLn (by omega), pk_uLs]
          · rw [if_neg h2]
            by_cases h3 : i = c
            · rw [if_pos h3, h3, pk_uLs]
            · rw [if_neg h3, pk_uLn (by omega), pk_uLn (by omega)]
        · rw [if_neg (show ¬ (k ≤ j ∧ j < N) by omega), pk_uLn (by omega), pk_uLn (by omega)]
def cM (N : Nat) (f : Nat → Int64) (M : Nat → Nat → Int) : Prop := ∀ a b, a < N → b < N → f (12 * a + b) = iL (M a b)
theorem r8_det93 {n : Nat} {r8 : hv_St → Int32 → Int64 → Int64 → Int32 → Option (Int64 × hv_St)} {r81 : hv_St → Int32 → Int64 → Int64 → Int32 → Int32 → Option (Int64 × hv_St)} {σ : hv_St} {sg : Int64} {c i N : Nat} (hci : c < i) (hi : i < N) (hN : N ≤ 12) {l : Int} (hl : l ≠ 0) (hlr : rL l) {Q : Nat → Int} {M : Nat → Nat → Int} (hQ : ∀ b, c < b → b < N → M i b * M c c - M i c * M c b = l * Q b) (hr : ∀ b, c < b → b < N → rL (M i b * M c c - M i c * M c b)) : ∀ (d k fuel : Nat) (f : Nat → Int64), k + d = N → c < k → d < fuel → cM N f (fun a b => if a = i ∧ c < b ∧ b < k then Q b else M a b) → ∃ g, kX8_determinant_93 n r8 r81 fuel (hv_wJ σ 13 f) (nI N) sg (iL l) (nI c) (nI i) (nI k) = r81 (hv_wJ σ 13 g) (nI N) sg (iL l) (nI c) (nI (i + 1)) ∧ cM N g (fun a b => if a = i ∧ c < b then Q b else M a b) := by
  intro d
  induction d with
  | zero =>
    intro k fuel f hk hck hf hM
    obtain ⟨fuel, rfl⟩ : ∃ m, fuel = m + 1 := ⟨fuel - 1, by omega⟩
    refine ⟨f, ?_, fun a b ha hb => ?_⟩
    · show kX8_determinant_93_b n _ _ _ _ _ _ _ _ _ _ = _
      unfold kX8_determinant_93_b
      rw [if_pos (nI_le (by omega) (by omega)), nI_1]
    · rw [hM a b ha hb]
      dsimp only
      by_cases h : a = i ∧ c < b
      · rw [if_pos h, if_pos ⟨h.1, h.2, by omega⟩]
      · rw [if_neg h, if_neg (fun h2 => h ⟨h2.1, h2.2.1⟩)]
  | succ d ih =>
    intro k fuel f hk hck hf hM
    obtain ⟨fuel, rfl⟩ : ∃ m, fuel = m + 1 := ⟨fuel - 1, by omega⟩
    have e1 : f (12 * i + k) = iL (M i k) := by rw [hM i k hi (by omega)]; dsimp only; rw [if_neg (by omega)]
    have e2 : f (12 * c + c) = iL (M c c) := by rw [hM c c (by omega) (by omega)]; dsimp only; rw [if_neg (by omega)]
    have e3 : f (12 * i + c) = iL (M i c) := by rw [hM i c hi (by omega)]; dsimp only; rw [if_neg (by omega)]
    have e4 : f (12 * c + k) = iL (M c k) := by rw [hM c k (by omega) (by omega)]; dsimp only; rw [if_neg (by omega)]
    have e5 : (iL (M i k) * iL (M c c) - iL (M i c) * iL (M c k)) / iL l = iL (Q k) := by
      rw [iL_mul, iL_mul, iL_sub, iL_div (hr k hck (by omega)) hlr, hQ k hck (by omega), Int.mul_tdiv_cancel_left _ hl]
    have hl0 : decide (¬ iL l = 0) = true := decide_eq_true (fun h => hl ((iL_eq hlr ⟨by decide, by decide⟩).mp h))
    obtain ⟨g, e, hg⟩ := ih (k + 1) fuel (vp_updL f (12 * i + k) (iL (Q k))) (by omega) (by omega) (by omega) (fun a b ha hb => by
      by_cases h : a = i ∧ b = k
      · rw [h.1, h.2, pk_uLs]
        show _ = iL (if i = i ∧ c < k ∧ k < k + 1 then Q k else M i k)
        rw [if_pos ⟨rfl, hck, by omega⟩]
      · rw [pk_uLn (by omega), hM a b ha hb]
        dsimp only
        show iL (if a = i ∧ c < b ∧ b < k then Q b else M a b) = iL (if a = i ∧ c < b ∧ b < k + 1 then Q b else M a b)
        by_cases h2 : a = i ∧ c < b ∧ b < k
        · rw [if_pos h2, if_pos ⟨h2.1, h2.2.1, by omega⟩]
        · rw [if_neg h2, if_neg (by omega)])
    refine ⟨g, ?_, hg⟩
    rw [← e]
    show kX8_determinant_93_b n _ _ _ _ _ _ _ _ _ _ = _
    unfold kX8_determinant_93_b
    rw [if_neg (nI_ge (by omega) (by omega))]
    simp only [nI_12, hv_if_t (hv_ok_nI (show 12 * i + k < 144 by omega) (by decide)), hv_if_t (hv_ok_nI (show 12 * c + c < 144 by omega) (by decide)), hv_if_t (hv_ok_nI (show 12 * i + c < 144 by omega) (by decide)), hv_if_t (hv_ok_nI (show 12 * c + k < 144 by omega) (by decide)), hv_if_t hl0, hv_let_e, nI_clamp (show 12 * i + k < 2 ^ 31 by omega), nI_clamp (show 12 * c + c < 2 ^ 31 by omega), nI_clamp (show 12 * i + c < 2 ^ 31 by omega), nI_clamp (show 12 * c + k < 2 ^ 31 by omega), hv_wJ_at, hv_sJ_wJ, nI_1, e1, e2, e3, e4, e5]
theorem r8_det81 {n : Nat} {r8 : hv_St → Int32 → Int64 → Int64 → Int32 → Option (Int64 × hv_St)} {σ : hv_St} {sg : Int64} {c N : Nat} (hc : c < N) (hN : N ≤ 12) (hn : 12 < n) {l : Int} (hl : l ≠ 0) (hlr : rL l) {Q M : Nat → Nat → Int} (hQ : ∀ a b, c < a → a < N → c < b → b < N → M a b * M c c - M a c * M c b = l * Q a b) (hr : ∀ a b, c < a → a < N → c < b → b < N → rL (M a b * M c c - M a c * M c b)) : ∀ (d i fuel : Nat) (f : Nat → Int64), i + d = N → c < i → d < fuel → cM N f (fun a b => if c < a ∧ a < i ∧ c < b then Q a b else M a b) → ∃ g, kX8_determinant_81 n r8 fuel (hv_wJ σ 13 f) (nI N) sg (iL l) (nI c) (nI i) = r8 (hv_wJ σ 13 g) (nI N) sg (iL (M c c)) (nI (c + 1)) ∧ cM N g (fun a b => if c < a ∧ c < b then Q a b else M a b) := by
  intro d
  induction d with
  | zero =>
    intro i fuel f hk hci hf hM
    obtain ⟨fuel, rfl⟩ : ∃ m, fuel = m + 1 := ⟨fuel - 1, by omega⟩
    have e2 : f (12 * c + c) = iL (M c c) := by rw [hM c c hc hc]; dsimp only; rw [if_neg (by omega)]
    refine ⟨f, ?_, fun a b ha hb => ?_⟩
    · show kX8_determinant_81_b n _ _ _ _ _ _ _ _ = _
      unfold kX8_determinant_81_b
      rw [if_pos (nI_le (by omega) (by omega))]
      simp only [nI_12, hv_if_t (hv_ok_nI (show 12 * c + c < 144 by omega) (by decide)), hv_let_e, nI_clamp (show 12 * c + c < 2 ^ 31 by omega), hv_wJ_at, nI_1, e2]
    · rw [hM a b ha hb]
      dsimp only
      by_cases h : c < a ∧ c < b
      · rw [if_pos h, if_pos ⟨h.1, by omega, h.2⟩]
      · rw [if_neg h, if_neg (fun h2 => h ⟨h2.1, h2.2.2⟩)]
  | succ d ih =>
    intro i fuel f hk hci hf hM
    obtain ⟨fuel, rfl⟩ : ∃ m, fuel = m + 1 := ⟨fuel - 1, by omega⟩
    have hMc : ∀ b, (if c < c ∧ c < i ∧ c < b then Q c b else M c b) = M c b := fun b => if_neg (by omega)
    have hMi : ∀ b, (if c < i ∧ i < i ∧ c < b then Q i b else M i b) = M i b := fun b => if_neg (by omega)
    obtain ⟨g, e, hg⟩ := r8_det93 (n := n) (r8 := r8) (r81 := kX8_determinant_81 n r8 fuel) (σ := σ) (sg := sg) hci (show i < N by omega) hN hl hlr (Q := Q i) (M := fun a b => if c < a ∧ a < i ∧ c < b then Q a b else M a b) (fun b h1 h2 => by
      show (if c < i ∧ i < i ∧ c < b then Q i b else M i b) * (if c < c ∧ c < i ∧ c < c then Q c c else M c c) - (if c < i ∧ i < i ∧ c < c then Q i c else M i c) * (if c < c ∧ c < i ∧ c < b then Q c b else M c b) = _
      rw [hMc, hMc, hMi, hMi]
      exact hQ i b hci (by omega) h1 h2) (fun b h1 h2 => by
      show rL ((if c < i ∧ i < i ∧ c < b then Q i b else M i b) * (if c < c ∧ c < i ∧ c < c then Q c c else M c c) - (if c < i ∧ i < i ∧ c < c then Q i c else M i c) * (if c < c ∧ c < i ∧ c < b then Q c b else M c b))
      rw [hMc, hMc, hMi, hMi]
      exact hr i b hci (by omega) h1 h2) (N - (c + 1)) (c + 1) n f (by omega) (by omega) (by omega) (fun a b ha hb => by
      rw [hM a b ha hb]
      dsimp only
      show _ = iL (if a = i ∧ c < b ∧ b < c + 1 then Q i b else _)
      rw [if_neg (show ¬ (a = i ∧ c < b ∧ b < c + 1) by omega)])
    obtain ⟨g2, e3, hg2⟩ := ih (i + 1) fuel g (by omega) (by omega) (by omega) (fun a b ha hb => by
      rw [hg a b ha hb]
      dsimp only
      by_cases h : a = i ∧ c < b
      · rw [if_pos h, if_pos (show c < a ∧ a < i + 1 ∧ c < b by omega), h.1]
      · rw [if_neg h]
        by_cases h2 : c < a ∧ a < i ∧ c < b
        · rw [if_pos h2, if_pos (show c < a ∧ a < i + 1 ∧ c < b by omega)]
        · rw [if_neg h2, if_neg (show ¬ (c < a ∧ a < i + 1 ∧ c < b) by omega)])
    refine ⟨g2, ?_, hg2⟩
    rw [← e3, ← e]
    show kX8_determinant_81_b n _ _ _ _ _ _ _ _ = _
    unfold kX8_determinant_81_b
    rw [if_neg (nI_ge (by omega) (by omega)), nI_1]
    rfl
theorem r8_det18 {n : Nat} {r8 : hv_St → Int32 → Int64 → Int64 → Int32 → Option (Int64 × hv_St)} {σ : hv_St} {sg la : Int64} {c N : Nat} {f : Nat → Int64} (hc : c < N) (hN : N ≤ 12) : ∀ (d r fuel : Nat), r + d = N → d < fuel → ∃ r', r ≤ r' ∧ r' ≤ N ∧ kX8_determinant_18 n r8 fuel (hv_wJ σ 13 f) (nI N) sg la (nI c) (nI r) = kX8_determinant_48 n r8 (hv_wJ σ 13 f) (nI N) sg la (nI c) (nI r') ∧ (r' = N → ∀ a, r ≤ a → a < N → f (12 * a + c) = 0) ∧ (r' < N → f (12 * r' + c) ≠ 0) := by
  intro d
  induction d with
  | zero =>
    intro r fuel hk hf
    obtain ⟨fuel, rfl⟩ : ∃ m, fuel = m + 1 := ⟨fuel - 1, by omega⟩
    refine ⟨r, Nat.le_refl _, by omega, ?_, fun _ a h1 h2 => by omega, fun h => by omega⟩
    show kX8_determinant_18_b n _ _ _ _ _ _ _ _ = _
    unfold kX8_determinant_18_b
    rw [if_pos (nI_le (by omega) (by omega))]
  | succ d ih =>
    intro r fuel hk hf
    obtain ⟨fuel, rfl⟩ : ∃ m, fuel = m + 1 := ⟨fuel - 1, by omega⟩
    have hs : kX8_determinant_18 n r8 (fuel + 1) (hv_wJ σ 13 f) (nI N) sg la (nI c) (nI r) = if lg_cmp (f (12 * r + c)) ((0 : Int64)) = 0 then kX8_determinant_18 n r8 fuel (hv_wJ σ 13 f) (nI N) sg la (nI c) (nI (r + 1)) else kX8_determinant_48 n r8 (hv_wJ σ 13 f) (nI N) sg la (nI c) (nI r) := by
      show kX8_determinant_18_b n _ _ _ _ _ _ _ _ = _
      unfold kX8_determinant_18_b
      rw [if_neg (nI_ge (by omega) (by omega))]
      simp only [nI_12, hv_if_t (hv_ok_nI (show 12 * r + c < 144 by omega) (by decide)), nI_clamp (show 12 * r + c < 2 ^ 31 by omega), hv_wJ_at, nI_1]
    by_cases h0 : f (12 * r + c) = 0
    · obtain ⟨r', h1, h2, e, h3, h4⟩ := ih (r + 1) fuel (by omega) (by omega)
      refine ⟨r', by omega, h2, ?_, fun h5 a h6 h7 => ?_, h4⟩
      · rw [hs, if_pos ((lg_cmp0 _ _).mpr h0), e]
      · by_cases h8 : a = r
        · rw [h8, h0]
        · exact h3 h5 a (by omega) h7
    · refine ⟨r, Nat.le_refl _, by omega, ?_, fun h => by omega, fun _ => h0⟩
      rw [hs, if_neg (fun h => h0 ((lg_cmp0 _ _).mp h))]
def md_of (N : Nat) (m : Nat → md_V) (A : Nat → md_V) : Prop := ∀ k, k < N → (∃ b, b < N ∧ A k = m b) ∨ ∃ j, j < N ∧ A k = md_e j
theorem md_of_up {N : Nat} {m A : Nat → md_V} (h : md_of N m A) {b : Nat} (hb : b < N) (k : Nat) : md_of N m (md_up A k (m b)) := fun j hj => by
  by_cases e : j = k
  · rw [e, md_up_at]
    exact Or.inl ⟨b, hb, rfl⟩
  · rw [md_up_ne _ _ e]
    exact h j hj
theorem md_of_sw {N : Nat} {m A : Nat → md_V} (h : md_of N m A) {p q : Nat} (hp : p < N) (hq : q < N) : md_of N m (md_sw A p q) := fun j hj => by
  unfold md_sw
  by_cases e : j = q
  · rw [e, md_up_at]
    exact h p hp
  · rw [md_up_ne _ _ e]
    by_cases e2 : j = p
    · rw [e2, md_up_at]
      exact h q hq
    · rw [md_up_ne _ _ e2]
      exact h j hj
theorem pm1 {x : Int} (h : x = 1 ∨ x = -1) : x * x = 1 := by
  rcases h with rfl | rfl <;> rfl
theorem rL_of {x : Int} (h : x.natAbs ≤ 2 ^ 62) : rL x := by
  unfold rL
  omega
theorem natAbs_pm {e x : Int} (he : e = 1 ∨ e = -1) : (e * x).natAbs = x.natAbs := by
  rcases he with rfl | rfl <;> omega
theorem rL_mm {a b c d : Int} (ha : a.natAbs ≤ 2 ^ 30) (hb : b.natAbs ≤ 2 ^ 30) (hc : c.natAbs ≤ 2 ^ 30) (hd : d.natAbs ≤ 2 ^ 30) : rL (a * b - c * d) := by
  have h1 : (a * b).natAbs ≤ 2 ^ 60 := by
    rw [Int.natAbs_mul]
    exact Nat.le_trans (Nat.mul_le_mul ha hb) (by decide)
  have h2 : (c * d).natAbs ≤ 2 ^ 60 := by
    rw [Int.natAbs_mul]
    exact Nat.le_trans (Nat.mul_le_mul hc hd) (by decide)
  unfold rL
  omega
/-- the determinant's loop: from the column c on, the basis A so far, the sign e of the rows' order -/
theorem r8_det8 {n : Nat} {σ : hv_St} {N : Nat} (hN : N ≤ 12) (hn : 12 < n) {m : Nat → md_V} (hB : ∀ A, md_of N m A → (md_dt (List.range N) A N).natAbs ≤ 2 ^ 30) : ∀ (d c fuel : Nat) (f : Nat → Int64) (A : Nat → md_V) (e : Int), c + d = N → d < fuel → md_of N m A → (∀ j, j < c → A j = m j) → md_dt (List.range N) A N ≠ 0 → (e = 1 ∨ e = -1) → (∀ a b, c ≤ a → a < N → c ≤ b → b < N → f (12 * a + b) = iL (e * md_T (List.range N) N A (m b) a)) → (0 < c → f (12 * (c - 1) + (c - 1)) = iL (e * md_dt (List.range N) A N)) → (c = 0 → e * md_dt (List.range N) A N = 1) → ∃ g, kX8_determinant_8 n fuel (hv_wJ σ 13 f) (nI N) (iL e) (iL (e * md_dt (List.range N) A N)) (nI c) = some (iL (md_dt (List.range N) m N), hv_wJ σ 13 g) := by
  intro d
  induction d with
  | zero =>
    intro c fuel f A e hk hf hof hA hD he hcell hlast hfirst
    obtain ⟨fuel, rfl⟩ : ∃ q, fuel = q + 1 := ⟨fuel - 1, by omega⟩
    have hc : c = N := by omega
    subst hc
    have hAm : md_dt (List.range c) A c = md_dt (List.range c) m c := md_dt_congr hA
    refine ⟨f, ?_⟩
    show kX8_determinant_8_b n _ _ _ _ _ _ = _
    unfold kX8_determinant_8_b
    rw [if_pos (nI_le (Nat.le_refl _) (by omega))]
    by_cases h0 : c = 0
    · subst h0
      have h1 := hfirst rfl
      rw [hAm] at h1
      have h2 : md_dt (List.range 0) m 0 = 1 := rfl
      rw [h2] at h1
      rw [if_pos nI_0, h2]
      have h3 : e = 1 := by omega
      rw [h3]
      rfl
    · obtain ⟨c', rfl⟩ : ∃ q, c = q + 1 := ⟨c - 1, by omega⟩
      have h1 := hlast (by omega)
      rw [show c' + 1 - 1 = c' from rfl] at h1
      have h4 : (12 : Int32) * (nI (c' + 1) - 1) + nI (c' + 1) - 1 = nI (12 * c' + c') := by
        rw [nI_pred, nI_12, show 12 * c' + (c' + 1) = (12 * c' + c') + 1 from rfl, nI_pred]
      rw [if_neg (nI_ne0 (by omega) (by omega)), h4, hv_if_t (hv_ok_nI (by omega) (by decide)), nI_clamp (by omega), hv_wJ_at, h1, iL_mul, ← Int.mul_assoc, pm1 he, Int.one_mul, hAm]
  | succ d ih =>
    intro c fuel f A e hk hf hof hA hD he hcell hlast hfirst
    obtain ⟨fuel, rfl⟩ : ∃ q, fuel = q + 1 := ⟨fuel - 1, by omega⟩
    have hcN : c < N := by omega
    have hT : ∀ (A : Nat → md_V), md_of N m A → ∀ a b, b < N → (md_T (List.range N) N A (m b) a).natAbs ≤ 2 ^ 30 := fun A h a b hb => hB _ (md_of_up h hb a)
    have s8 : kX8_determinant_8 n (fuel + 1) (hv_wJ σ 13 f) (nI N) (iL e) (iL (e * md_dt (List.range N) A N)) (nI c) = kX8_determinant_18 n (kX8_determinant_8 n fuel) n (hv_wJ σ 13 f) (nI N) (iL e) (iL (e * md_dt (List.range N) A N)) (nI c) (nI c) := by
      show kX8_determinant_8_b n _ _ _ _ _ _ = _
      unfold kX8_determinant_8_b
      rw [if_neg (nI_ge hcN (by omega))]
    obtain ⟨r, h1, h2, e18, hz, hnz⟩ := r8_det18 (n := n) (r8 := kX8_determinant_8 n fuel) (σ := σ) (sg := iL e) (la := iL (e * md_dt (List.range N) A N)) (f := f) hcN hN (N - c) c n (by omega) (by omega)
    rw [s8, e18]
    by_cases hr : r = N
    · subst hr
      refine ⟨f, ?_⟩
      unfold kX8_determinant_48
      rw [if_pos rfl]
      have hm : md_dt (List.range r) m r = 0 := by
        have h3 := md_cramer (md_dt_Z (List.range r) m hcN) A (m c) r
        rw [md_S_zero r 0 _ (fun i _ hi => by
          by_cases hic : i < c
          · rw [hA i hic]
            show _ * md_T (List.range r) r m (m i) c = 0
            rw [md_T_other m (by omega) (by omega) hcN, Int.mul_zero]
          · have h5 := hz rfl i (by omega) (by omega)
            rw [hcell i c (by omega) (by omega) (Nat.le_refl _) hcN] at h5
            have h6 : e * md_T (List.range r) r A (m c) i = 0 := (iL_eq (rL_of (by rw [natAbs_pm he]; exact Nat.le_trans (hT A hof i c hcN) (by decide))) ⟨by decide, by decide⟩).mp h5
            have h7 : md_T (List.range r) r A (m c) i = 0 := by
              rcases he with rfl | rfl <;> omega
            have h8 : md_dt (List.range r) (md_up A i (m c)) r = 0 := h7
            rw [h8, Int.zero_mul])] at h3
        rcases Int.mul_eq_zero.mp h3 with h4 | h4
        · exact absurd h4 hD
        · have h5 : md_dt (List.range r) (md_up m c (m c)) r = 0 := h4
          rw [md_up_self] at h5
          exact h5
      rw [hm]
      rfl
    · have hrN : r < N := by omega
      have hpiv : f (12 * r + c) ≠ 0 := hnz hrN
      -- the rows swapped: the basis A2, the sign e2
      obtain ⟨f2, A2, e2, s48, hof2, hA2, hD2, he2, hcell2, hDD, hT2⟩ : ∃ (f2 : Nat → Int64) (A2 : Nat → md_V) (e2 : Int), kX8_determinant_48 n (kX8_determinant_8 n fuel) (hv_wJ σ 13 f) (nI N) (iL e) (iL (e * md_dt (List.range N) A N)) (nI c) (nI r) = kX8_determinant_75 n (kX8_determinant_8 n fuel) (hv_wJ σ 13 f2) (nI N) (iL e2) (iL (e * md_dt (List.range N) A N)) (nI c) ∧ md_of N m A2 ∧ (∀ j, j < c → A2 j = m j) ∧ md_dt (List.range N) A2 N ≠ 0 ∧ (e2 = 1 ∨ e2 = -1) ∧ (∀ a b, c ≤ a → a < N → c ≤ b → b < N → f2 (12 * a + b) = iL (e2 * md_T (List.range N) N A2 (m b) a)) ∧ e2 * md_dt (List.range N) A2 N = e * md_dt (List.range N) A N ∧ md_T (List.range N) N A2 (m c) c ≠ 0 := by
        have hTr : md_T (List.range N) N A (m c) r ≠ 0 := fun h => hpiv (by rw [hcell r c h1 hrN (Nat.le_refl _) hcN, h, Int.mul_zero]; rfl)
        by_cases hrc : r = c
        · subst hrc
          refine ⟨f, A, e, ?_, hof, hA, hD, he, hcell, rfl, hTr⟩
          unfold kX8_determinant_48
          rw [if_neg (fun h => hr ((nI_eq (by omega) (by omega)).mp h)), if_pos rfl]
        · obtain ⟨g, eg, hg⟩ := r8_swaps (n := n) (σ := σ) (show r < 12 by omega) (show c < 12 by omega) hrc hN N 0 n f (by omega) (by omega)
          refine ⟨g, md_sw A c r, -e, ?_, md_of_sw hof hcN hrN, fun j hj => ?_, ?_, ?_, fun a b ha1 ha2 hb1 hb2 => ?_, ?_, ?_⟩
          · unfold kX8_determinant_48
            rw [if_neg (fun h => hr ((nI_eq (by omega) (by omega)).mp h)), if_neg (fun h => hrc ((nI_eq (by omega) (by omega)).mp h))]
            show hv_bd (kX8_swaps_3 n n (hv_wJ σ 13 f) (nI r) (nI c) (nI N) (nI 0)) _ = _
            rw [eg, hv_bd_e, hv_let_e, iL_neg]
          · unfold md_sw
            rw [md_up_ne _ _ (by omega), md_up_ne _ _ (by omega)]
            exact hA j hj
          · rw [md_sw_dt A (Ne.symm hrc) hcN hrN]
            omega
          · rcases he with rfl | rfl
            · exact Or.inr rfl
            · exact Or.inl rfl
          · rw [hg a b (by omega) (by omega), if_pos (by omega)]
            by_cases har : a = r
            · rw [if_pos har, har, md_sw_q A (Ne.symm hrc) hcN hrN, hcell c b (Nat.le_refl _) hcN hb1 hb2, Int.neg_mul_neg]
            · rw [if_neg har]
              by_cases hac : a = c
              · rw [if_pos hac, hac, md_sw_p A (Ne.symm hrc) hcN hrN, hcell r b h1 hrN hb1 hb2, Int.neg_mul_neg]
              · rw [if_neg hac, md_sw_k A (Ne.symm hrc) hac har hcN hrN, hcell a b ha1 ha2 hb1 hb2, Int.neg_mul_neg]
          · rw [md_sw_dt A (Ne.symm hrc) hcN hrN, Int.neg_mul_neg]
          · rw [md_sw_p A (Ne.symm hrc) hcN hrN]
            omega
      rw [s48]
      have hM : ∀ a b, c ≤ a → a < N → c ≤ b → b < N → (f2 (12 * a + b)).toInt = e2 * md_T (List.range N) N A2 (m b) a := fun a b ha1 ha2 hb1 hb2 => by
        rw [hcell2 a b ha1 ha2 hb1 hb2]
        exact iL_toInt (rL_of (by rw [natAbs_pm he2]; exact Nat.le_trans (hT A2 hof2 a b hb2) (by decide)))
      have hMb : ∀ a b, c ≤ a → a < N → c ≤ b → b < N → ((f2 (12 * a + b)).toInt).natAbs ≤ 2 ^ 30 := fun a b ha1 ha2 hb1 hb2 => by
        rw [hM a b ha1 ha2 hb1 hb2, natAbs_pm he2]
        exact hT A2 hof2 a b hb2
      have hQ : ∀ a b, c < a → a < N → c < b → b < N → (f2 (12 * a + b)).toInt * (f2 (12 * c + c)).toInt - (f2 (12 * a + c)).toInt * (f2 (12 * c + b)).toInt = (e * md_dt (List.range N) A N) * (e2 * md_T (List.range N) N (md_up A2 c (m c)) (m b) a) := fun a b ha1 ha2 hb1 hb2 => by
        rw [hM a b (by omega) ha2 (by omega) hb2, hM c c (Nat.le_refl _) hcN (Nat.le_refl _) hcN, hM a c (by omega) ha2 (Nat.le_refl _) hcN, hM c b (Nat.le_refl _) hcN (by omega) hb2, ← hDD]
        have hp := md_pv (R := List.range N) (n := N) A2 (r := c) (k := a) (by omega) hcN ha2 (m c) (m b)
        have he3 := pm1 he2
        grind
      have hl0 : e * md_dt (List.range N) A N ≠ 0 := by
        rcases he with rfl | rfl <;> omega
      have hlr : rL (e * md_dt (List.range N) A N) := rL_of (by rw [natAbs_pm he]; exact Nat.le_trans (hB A hof) (by decide))
      obtain ⟨g, e81, hg⟩ := r8_det81 (n := n) (r8 := kX8_determinant_8 n fuel) (σ := σ) (sg := iL e2) hcN hN hn hl0 hlr (Q := fun a b => e2 * md_T (List.range N) N (md_up A2 c (m c)) (m b) a) (M := fun a b => (f2 (12 * a + b)).toInt) hQ (fun a b ha1 ha2 hb1 hb2 => rL_mm (hMb a b (by omega) ha2 (by omega) hb2) (hMb c c (Nat.le_refl _) hcN (Nat.le_refl _) hcN) (hMb a c (by omega) ha2 (Nat.le_refl _) hcN) (hMb c b (Nat.le_refl _) hcN (by omega) hb2)) (N - (c + 1)) (c + 1) n f2 (by omega) (by omega) (by omega) (fun a b ha hb => by
        show _ = iL (if c < a ∧ a < c + 1 ∧ c < b then _ else (f2 (12 * a + b)).toInt)
        rw [if_neg (by omega)]
        exact iL_of _)
      have hDn : md_dt (List.range N) (md_up A2 c (m c)) N = md_T (List.range N) N A2 (m c) c := rfl
      have hlast2 : (f2 (12 * c + c)).toInt = e2 * md_dt (List.range N) (md_up A2 c (m c)) N := by
        rw [hM c c (Nat.le_refl _) hcN (Nat.le_refl _) hcN, hDn]
      obtain ⟨g2, e9⟩ := ih (c + 1) fuel g (md_up A2 c (m c)) e2 (by omega) (by omega) (md_of_up hof2 hcN c) (fun j hj => by
        by_cases h : j = c
        · rw [h, md_up_at]
        · rw [md_up_ne _ _ h]
          exact hA2 j (by omega)) (by rw [hDn]; exact hT2) he2 (fun a b ha1 ha2 hb1 hb2 => by
        rw [hg a b ha2 hb2]
        dsimp only
        rw [if_pos (by omega)]) (fun _ => by
        rw [show c + 1 - 1 = c from rfl, hg c c hcN hcN]
        dsimp only
        rw [if_neg (by omega), hlast2]) (fun h => by omega)
      refine ⟨g2, ?_⟩
      rw [← e9, ← hlast2, ← e81]
      unfold kX8_determinant_75
      rw [hv_let_e, show (1 : Int32) = nI 1 from rfl, nI_add]
/-- the determinant of the reference's cells -/
theorem r8_determinant {n : Nat} {σ : hv_St} {N : Nat} (hN : N ≤ 12) (hn : 12 < n) {m : Nat → md_V} (hB : ∀ A, md_of N m A → (md_dt (List.range N) A N).natAbs ≤ 2 ^ 30) {f : Nat → Int64} (hf : ∀ a b, a < N → b < N → f (12 * a + b) = iL (m b a)) : ∃ g, mX8_determinant n (hv_wJ σ 13 f) (nI N) = some (iL (md_dt (List.range N) m N), hv_wJ σ 13 g) := by
  obtain ⟨g, e⟩ := r8_det8 (n := n) (σ := σ) hN hn hB N 0 n f md_e 1 (by omega) (by omega) (fun k hk => Or.inr ⟨k, hk, rfl⟩) (fun j hj => by omega) (by rw [md_dt_e]; decide) (Or.inl rfl) (fun a b _ ha _ hb => by
    unfold md_T
    rw [hf a b ha hb, md_T_e ha, Int.one_mul]) (fun h => by omega) (fun _ => by rw [md_dt_e]; rfl)
  refine ⟨g, ?_⟩
  rw [← e, md_dt_e]
  rfl
