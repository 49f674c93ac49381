/-! the class's rows: laid, swapped, cleared -/
theorem x0_layRow_44 {n : Nat} {σ : hv_St} {B N r : Nat} (hb : σ.1 1 1 = nI B) (hN : σ.1 9 4 = nI N) (hBN : B ≤ 11 ∧ N ≤ 12) (hr : r < N) : ∀ (d k fuel : Nat) (g : Nat → Int64), k + d = N → d < fuel → ∃ g', kX0_layRow_44 n fuel (hv_wJ σ (27 + r) g) (nI r) (nI k) = some (hv_wJ σ (27 + r) g') ∧ ∀ c, c < B + N → g' c = if c < B + k then g c else if c = B + r then 1 else 0 := by
  intro d
  induction d with
  | zero =>
    intro k fuel g hk hf
    obtain ⟨fuel, rfl⟩ : ∃ q, fuel = q + 1 := ⟨fuel - 1, by omega⟩
    refine ⟨g, ?_, fun c hc => by rw [if_pos (by omega)]⟩
    show kX0_layRow_44_b n _ _ _ _ = _
    unfold kX0_layRow_44_b
    rw [hv_wJ_1, hN, if_pos (nI_le (by omega) (by omega))]
  | succ d ih =>
    intro k fuel g hk hf
    obtain ⟨fuel, rfl⟩ : ∃ q, fuel = q + 1 := ⟨fuel - 1, by omega⟩
    obtain ⟨g', g1, g2⟩ := ih (k + 1) fuel (vp_updL g (B + k) (if k = r then 1 else 0)) (by omega) (by omega)
    refine ⟨g', ?_, fun c hc => ?_⟩
    · show kX0_layRow_44_b n _ _ _ _ = _
      unfold kX0_layRow_44_b kX0_layRow_77
      rw [hv_wJ_1, hN, if_neg (nI_ge (by omega) (by omega)), hb]
      simp only [hv_if_t (hv_ok_nI (show r < 12 by omega) (by decide)), nI_add, hv_if_t (hv_ok_nI (show B + k < 23 by omega) (by decide)), nI_clamp (show r < 2 ^ 31 by omega), nI_clamp (show B + k < 2 ^ 31 by omega), hv_let_e, nI_1, hv_sJ_wJ]
      by_cases e : k = r
      · rw [if_pos ((nI_eq (by omega) (by omega)).mpr e)]
        rw [if_pos e] at g1
        exact g1
      · rw [if_neg (fun q => e ((nI_eq (by omega) (by omega)).mp q))]
        rw [if_neg e] at g1
        exact g1
    · rw [g2 c hc]
      by_cases h1 : c < B + k
      · rw [if_pos (by omega), if_pos h1, pk_uLn (by omega)]
      · rw [if_neg h1]
        by_cases h2 : c = B + k
        · rw [if_pos (by omega), h2, pk_uLs]
          by_cases e : k = r
          · rw [if_pos e, if_pos (by omega)]
          · rw [if_neg e, if_neg (by omega)]
        · rw [if_neg (by omega)]
theorem fXc_ent {F : Nat → Nat → Int32} {P B r c : Nat} (h : B ≤ c) : fXc F P B c r = if c = B + r then 1 else 0 := by
  unfold fXc md_e
  rw [if_neg (by omega)]
  by_cases e : c = B + r
  · rw [if_pos e, if_pos (by omega)]
  · rw [if_neg e, if_neg (by omega)]
theorem x0_layRow {n : Nat} (hn : 12 < n) {F : Nat → Nat → Int32} {P B O D W : Nat} {σ : hv_St} (hi : hI F P B O D W) (hx : rX F σ) {r : Nat} (hN : σ.1 9 4 = nI (fL F (2 * P)).length) (hr : r < (fL F (2 * P)).length) (hs : σ.1 11 r = nI ((fL F (2 * P)).getD r 0)) : ∀ (d k fuel : Nat) (g : Nat → Int64), k + d = B → d < fuel → (∀ c, c < k → g c = iL (fXc F P B c r)) → ∃ g', kX0_layRow_2 n fuel (hv_wJ σ (27 + r) g) (nI r) (nI k) = some (hv_wJ σ (27 + r) g') ∧ ∀ c, c < B + (fL F (2 * P)).length → g' c = iL (fXc F P B c r) := by
  have hP := hi.1.2
  have hB := hi.2.1.2
  have hl := fL_le F (2 * P)
  have hb : σ.1 1 1 = nI B := hx.1.2.1.trans hi.2.1.1
  have hsl := (fL_lt hr).1
  intro d
  induction d with
  | zero =>
    intro k fuel g hk hf hg
    obtain ⟨fuel, rfl⟩ : ∃ q, fuel = q + 1 := ⟨fuel - 1, by omega⟩
    obtain ⟨g', g1, g2⟩ := x0_layRow_44 (n := n) (r := r) hb hN (by omega) hr (fL F (2 * P)).length 0 n g (by omega) (by omega)
    refine ⟨g', ?_, fun c hc => ?_⟩
    · show kX0_layRow_2_b n _ _ _ _ = _
      unfold kX0_layRow_2_b
      rw [hv_wJ_1, hb, if_pos (nI_le (by omega) (by omega))]
      exact g1
    · rw [g2 c hc]
      by_cases h1 : c < B
      · rw [if_pos (by omega)]
        exact hg c (by omega)
      · rw [if_neg (by omega), fXc_ent (by omega)]
        by_cases e : c = B + r
        · rw [if_pos e, if_pos e]; rfl
        · rw [if_neg e, if_neg e]; rfl
  | succ d ih =>
    intro k fuel g hk hf hg
    obtain ⟨fuel, rfl⟩ : ∃ q, fuel = q + 1 := ⟨fuel - 1, by omega⟩
    have hv : fXc F P B k r = fBr F k ((fL F (2 * P)).getD r 0 / 2) ((fL F (2 * P)).getD r 0 % 2) := by
      unfold fXc fCol
      rw [if_pos (by omega)]
    have hbr := fBr_le hi (show k < B by omega) ((fL F (2 * P)).getD r 0 / 2) ((fL F (2 * P)).getD r 0 % 2)
    obtain ⟨g', g1, g2⟩ := ih (k + 1) fuel (vp_updL g k (iL (fXc F P B k r))) (by omega) (by omega) (fun c hc => by
      by_cases e : c = k
      · rw [e, pk_uLs]
      · rw [pk_uLn e]
        exact hg c (by omega))
    refine ⟨g', ?_, g2⟩
    show kX0_layRow_2_b n _ _ _ _ = _
    unfold kX0_layRow_2_b
    have hx2 : rX F (hv_wJ σ (27 + r) g) := hx
    rw [hv_wJ_1, hb, if_neg (nI_ge (by omega) (by omega)), hv_if_t (hv_ok_nI (show r < 12 by omega) (by decide)), hv_if_t (hv_ok_nI (show r < 12 by omega) (by decide)), nI_clamp (by omega), hs]
    have eb := x3_brings (n := n) hi hx2 (show k < B by omega) (show (fL F (2 * P)).getD r 0 / 2 < 6 by omega) (show (fL F (2 * P)).getD r 0 % 2 < 2 by omega)
    rw [show 2 * ((fL F (2 * P)).getD r 0 / 2) + (fL F (2 * P)).getD r 0 % 2 = (fL F (2 * P)).getD r 0 by omega] at eb
    rw [eb, hv_b2_e, hv_if_t (hv_ok_nI (show k < 23 by omega) (by decide)), nI_clamp (by omega), hv_let_e, nI_1, iI_L ⟨by omega, by omega⟩, hv_sJ_wJ, ← hv]
    exact g1
/-- two rows swapped -/
theorem x0_swap_loop {n : Nat} {σ₀ : hv_St} {B N p q : Nat} (hb : σ₀.1 1 1 = nI B) (hN : σ₀.1 9 4 = nI N) (hBN : B ≤ 11 ∧ N ≤ 12) (hp : p < 12) (hq : q < 12) : ∀ (d k fuel : Nat) (σ : hv_St), k + d = B + N → d < fuel → σ.1 = σ₀.1 → (∀ j, j < 27 ∨ 39 ≤ j → σ.2 j = σ₀.2 j) → (∀ r c, σ.2 (27 + r) c = if c < k then (if r = p then σ₀.2 (27 + q) c else if r = q then σ₀.2 (27 + p) c else σ₀.2 (27 + r) c) else σ₀.2 (27 + r) c) → ∃ τ, kX0_swap_2 n fuel σ (nI p) (nI q) (nI k) = some τ ∧ τ.1 = σ₀.1 ∧ (∀ j, j < 27 ∨ 39 ≤ j → τ.2 j = σ₀.2 j) ∧ ∀ r c, c < B + N → τ.2 (27 + r) c = if r = p then σ₀.2 (27 + q) c else if r = q then σ₀.2 (27 + p) c else σ₀.2 (27 + r) c := by
  intro d
  induction d with
  | zero =>
    intro k fuel σ hk hf h1 h2 h3
    obtain ⟨fuel, rfl⟩ : ∃ q, fuel = q + 1 := ⟨fuel - 1, by omega⟩
    refine ⟨σ, ?_, h1, h2, fun r c hc => by rw [h3 r c, if_pos (by omega)]⟩
    show kX0_swap_2_b n _ _ _ _ _ = _
    unfold kX0_swap_2_b
    rw [h1, hb, hN, nI_add, if_pos (nI_le (by omega) (by omega))]
  | succ d ih =>
    intro k fuel σ hk hf h1 h2 h3
    obtain ⟨fuel, rfl⟩ : ∃ q, fuel = q + 1 := ⟨fuel - 1, by omega⟩
    obtain ⟨τ, t1, t2, t3, t4⟩ := ih (k + 1) fuel (hv_sJ (hv_sJ σ (27 + p) k (σ.2 (27 + q) k)) (27 + q) k (σ.2 (27 + p) k)) (by omega) (by omega) h1 (fun j hj => by rw [hv_sJ_ne _ _ _ (by omega), hv_sJ_ne _ _ _ (by omega)]; exact h2 j hj) (fun r c => by
      have a1 := h3 p k
      have a2 := h3 q k
      rw [if_neg (by omega)] at a1 a2
      by_cases e2 : r = q
      · rw [e2, hv_sJ_rd]
        by_cases ec : c = k
        · rw [if_pos ec, ec, if_pos (by omega), a1]
          by_cases e3 : q = p
          · rw [if_pos e3, e3]
          · rw [if_neg e3, if_pos rfl]
        · rw [if_neg ec]
          by_cases e3 : q = p
          · rw [e3, hv_sJ_rd, if_neg ec, h3 p c]
            by_cases l : c < k
            · simp [l, show c < k + 1 by omega, e3]
            · simp [l, show ¬ c < k + 1 by omega]
          · rw [hv_sJ_ne _ _ _ (by omega), h3 q c]
            by_cases l : c < k
            · rw [if_pos l, if_pos (show c < k + 1 by omega)]
            · rw [if_neg l, if_neg (show ¬ c < k + 1 by omega)]
      · rw [hv_sJ_ne _ _ _ (by omega)]
        by_cases e1 : r = p
        · rw [e1, hv_sJ_rd]
          by_cases ec : c = k
          · rw [if_pos ec, ec, if_pos (by omega), a2, if_pos rfl]
          · rw [if_neg ec, h3 p c]
            by_cases l : c < k
            · rw [if_pos l, if_pos (show c < k + 1 by omega)]
            · rw [if_neg l, if_neg (show ¬ c < k + 1 by omega)]
        · rw [hv_sJ_ne _ _ _ (by omega), h3 r c, if_neg e1, if_neg e2]
          by_cases l : c < k
          · rw [if_pos l, if_pos (by omega)]
          · rw [if_neg l]
            by_cases l2 : c < k + 1
            · rw [if_pos l2]
            · rw [if_neg l2])
    refine ⟨τ, ?_, t2, t3, t4⟩
    show kX0_swap_2_b n _ _ _ _ _ = _
    unfold kX0_swap_2_b
    rw [h1, hb, hN, nI_add, if_neg (nI_ge (by omega) (by omega))]
    simp only [hv_if_t (hv_ok_nI (show p < 12 by omega) (by decide)), hv_if_t (hv_ok_nI (show q < 12 by omega) (by decide)), hv_if_t (hv_ok_nI (show k < 23 by omega) (by decide)), hv_let_e, nI_clamp (show p < 2 ^ 31 by omega), nI_clamp (show q < 2 ^ 31 by omega), nI_clamp (show k < 2 ^ 31 by omega), nI_1]
    exact t1
theorem x0_swap {n : Nat} (hn : 30 < n) {σ : hv_St} {B N p q : Nat} (hb : σ.1 1 1 = nI B) (hN : σ.1 9 4 = nI N) (hBN : B ≤ 11 ∧ N ≤ 12) (hp : p < 12) (hq : q < 12) : ∃ τ, mX0_swap n σ (nI p) (nI q) = some τ ∧ τ.1 = σ.1 ∧ (∀ j, j < 27 ∨ 39 ≤ j → τ.2 j = σ.2 j) ∧ ∀ r c, c < B + N → τ.2 (27 + r) c = if r = p then σ.2 (27 + q) c else if r = q then σ.2 (27 + p) c else σ.2 (27 + r) c :=
  x0_swap_loop (n := n) hb hN hBN hp hq (B + N) 0 n σ (by omega) (by omega) rfl (fun _ _ => rfl) (fun r c => by rw [if_neg (Nat.not_lt_zero _)])
/-- a row cleared -/
theorem x0_clear_44 {n : Nat} {r12 : hv_St → Int32 → Int32 → Int64 → Int32 → Option hv_St} {σ : hv_St} {B N r y b : Nat} (hb : σ.1 1 1 = nI B) (hN : σ.1 9 4 = nI N) (hBN : B ≤ 11 ∧ N ≤ 12) (hr : r < 12) (hy : y < 12) (hyr : y ≠ r) {l pv fc : Int} {Mr My Q : Nat → Int} (hl : l ≠ 0) (hlr : rL l) (hsc : σ.2 9 8 = iL l) (hQ : ∀ c, c < B + N → pv * Mr c - fc * My c = l * Q c) (hrg : ∀ c, c < B + N → rL (pv * Mr c - fc * My c)) (hM : ∀ c, c < B + N → σ.2 (27 + y) c = iL (My c)) : ∀ (d k fuel : Nat) (g : Nat → Int64), k + d = B + N → d < fuel → (∀ c, c < B + N → g c = iL (if c < k then Q c else Mr c)) → ∃ g', kX0_clearColumn_44 n r12 fuel (hv_wJ σ (27 + r) g) (nI b) (nI y) (iL pv) (nI r) (iL fc) (nI k) = r12 (hv_wJ σ (27 + r) g') (nI b) (nI y) (iL pv) (nI (r + 1)) ∧ ∀ c, c < B + N → g' c = iL (Q c) := by
  intro d
  induction d with
  | zero =>
    intro k fuel g hk hf hg
    obtain ⟨fuel, rfl⟩ : ∃ q, fuel = q + 1 := ⟨fuel - 1, by omega⟩
    refine ⟨g, ?_, fun c hc => by rw [hg c hc, if_pos (by omega)]⟩
    show kX0_clearColumn_44_b n _ _ _ _ _ _ _ _ _ = _
    unfold kX0_clearColumn_44_b kX0_clearColumn_113
    rw [hv_wJ_1, hb, hN, nI_add, if_pos (nI_le (by omega) (by omega)), nI_1]
  | succ d ih =>
    intro k fuel g hk hf hg
    obtain ⟨fuel, rfl⟩ : ∃ q, fuel = q + 1 := ⟨fuel - 1, by omega⟩
    obtain ⟨g', g1, g2⟩ := ih (k + 1) fuel (vp_updL g k (iL (Q k))) (by omega) (by omega) (fun c hc => by
      by_cases e : c = k
      · rw [e, pk_uLs, if_pos (by omega)]
      · rw [pk_uLn e, hg c hc]
        by_cases l : c < k
        · rw [if_pos l, if_pos (by omega)]
        · rw [if_neg l, if_neg (by omega)])
    refine ⟨g', ?_, g2⟩
    have hgk := hg k (by omega)
    rw [if_neg (Nat.lt_irrefl k)] at hgk
    have hQk := hQ k (by omega)
    have hrk := hrg k (by omega)
    have hdiv : (pv * Mr k - fc * My k).tdiv l = Q k := by
      rw [hQk]
      exact Int.mul_tdiv_cancel_left _ hl
    have sc : (hv_wJ σ (27 + r) g).2 9 8 = iL l := by
      rw [hv_wJ_ne _ _ (by omega)]
      exact hsc
    show kX0_clearColumn_44_b n _ _ _ _ _ _ _ _ _ = _
    unfold kX0_clearColumn_44_b
    rw [hv_wJ_1, hb, hN, nI_add, if_neg (nI_ge (by omega) (by omega)), hv_if_t (hv_ok_nI (show r < 12 by omega) (by decide)), hv_if_t (hv_ok_nI (show k < 23 by omega) (by decide)), hv_if_t (hv_ok_nI (show y < 12 by omega) (by decide)), hv_if_t (hv_ok_nI (show k < 23 by omega) (by decide)), hv_let_e, nI_clamp (show r < 2 ^ 31 by omega), nI_clamp (show k < 2 ^ 31 by omega), nI_clamp (show y < 2 ^ 31 by omega), hv_wJ_at, hv_wJ_ne _ _ (show 27 + y ≠ 27 + r by omega), hM k (by omega), hgk, iL_mul, iL_mul, iL_sub, hv_if_t (hv_ok_nI (show r < 12 by omega) (by decide)), sc, x7_quotient hrk hlr hl, hv_b2_e, hv_if_t (hv_ok_nI (show k < 23 by omega) (by decide)), hv_let_e, hdiv, hv_sJ_wJ, nI_1]
    exact g1
theorem x0_clear_loop {n : Nat} (hn : 30 < n) {σ₀ : hv_St} {B N y b : Nat} (hb : σ₀.1 1 1 = nI B) (hN : σ₀.1 9 4 = nI N) (hBN : B ≤ 11 ∧ N ≤ 12) (hy : y < N) (hbB : b < B) {l : Int} {M Q : Nat → Nat → Int} (hl : l ≠ 0) (hlr : rL l) (hsc : σ₀.2 9 8 = iL l) (hQ : ∀ r c, r < N → r ≠ y → c < B + N → M y b * M r c - M r b * M y c = l * Q r c) (hrg : ∀ r c, r < N → r ≠ y → c < B + N → rL (M y b * M r c - M r b * M y c)) : ∀ (d r fuel : Nat) (σ : hv_St), r + d = N → d < fuel → σ.1 = σ₀.1 → (∀ j, j < 27 ∨ 39 ≤ j → σ.2 j = σ₀.2 j) → (∀ i c, i < N → c < B + N → σ.2 (27 + i) c = iL (if i < r ∧ i ≠ y then Q i c else M i c)) → ∃ τ, kX0_clearColumn_12 n fuel σ (nI b) (nI y) (iL (M y b)) (nI r) = some (hv_sJ τ 9 8 (iL (M y b))) ∧ τ.1 = σ₀.1 ∧ (∀ j, j < 27 ∨ 39 ≤ j → τ.2 j = σ₀.2 j) ∧ ∀ i c, i < N → c < B + N → τ.2 (27 + i) c = iL (if i ≠ y then Q i c else M i c) := by
  intro d
  induction d with
  | zero =>
    intro r fuel σ hr hf h1 h2 h3
    obtain ⟨fuel, rfl⟩ : ∃ q, fuel = q + 1 := ⟨fuel - 1, by omega⟩
    refine ⟨σ, ?_, h1, h2, fun i c hi hc => ?_⟩
    · show kX0_clearColumn_12_b n _ _ _ _ _ _ = _
      unfold kX0_clearColumn_12_b
      rw [h1, hN, if_pos (nI_le (by omega) (by omega)), hv_let_e]
    · rw [h3 i c hi hc]
      by_cases e : i = y
      · rw [if_neg (fun q => q.2 e), if_neg (fun q => q e)]
      · rw [if_pos ⟨by omega, e⟩, if_pos e]
  | succ d ih =>
    intro r fuel σ hr hf h1 h2 h3
    obtain ⟨fuel, rfl⟩ : ∃ q, fuel = q + 1 := ⟨fuel - 1, by omega⟩
    have hs1 : kX0_clearColumn_12 n (fuel + 1) σ (nI b) (nI y) (iL (M y b)) (nI r) = if r = y then kX0_clearColumn_12 n fuel σ (nI b) (nI y) (iL (M y b)) (nI (r + 1)) else kX0_clearColumn_44 n (kX0_clearColumn_12 n fuel) n σ (nI b) (nI y) (iL (M y b)) (nI r) (σ.2 (27 + r) b) (nI 0) := by
      show kX0_clearColumn_12_b n _ _ _ _ _ _ = _
      unfold kX0_clearColumn_12_b kX0_clearColumn_113
      rw [h1, hN, if_neg (nI_ge (by omega) (by omega)), nI_1, hv_if_t (hv_ok_nI (show r < 12 by omega) (by decide)), hv_if_t (hv_ok_nI (show b < 23 by omega) (by decide)), hv_let_e, nI_clamp (by omega), nI_clamp (by omega)]
      by_cases e : r = y
      · rw [if_pos ((nI_eq (by omega) (by omega)).mpr e), if_pos e]
      · rw [if_neg (fun q => e ((nI_eq (by omega) (by omega)).mp q)), if_neg e]
        rfl
    rw [hs1]
    by_cases e : r = y
    · rw [if_pos e]
      refine ih (r + 1) fuel σ (by omega) (by omega) h1 h2 (fun i c hi hc => ?_)
      rw [h3 i c hi hc]
      by_cases l : i < r
      · by_cases e2 : i = y
        · rw [if_neg (fun q => q.2 e2), if_neg (fun q => q.2 e2)]
        · rw [if_pos ⟨l, e2⟩, if_pos ⟨by omega, e2⟩]
      · rw [if_neg (fun q => l q.1), if_neg (fun q => q.2 (by omega))]
    · rw [if_neg e]
      have hfc : σ.2 (27 + r) b = iL (M r b) := by
        rw [h3 r b (by omega) (by omega), if_neg (fun q => Nat.lt_irrefl r q.1)]
      obtain ⟨g', g1, g2⟩ := x0_clear_44 (n := n) (r12 := kX0_clearColumn_12 n fuel) (σ := σ) (B := B) (N := N) (r := r) (y := y) (b := b) (by rw [h1]; exact hb) (by rw [h1]; exact hN) hBN (by omega) (by omega) (fun q => e q.symm) (l := l) (pv := M y b) (fc := M r b) (Mr := M r) (My := M y) (Q := Q r) hl hlr (by rw [h2 9 (by decide)]; exact hsc) (fun c hc => hQ r c (by omega) e hc) (fun c hc => hrg r c (by omega) e hc) (fun c hc => by rw [h3 y c hy hc, if_neg (fun q => q.2 rfl)]) (B + N) 0 n (σ.2 (27 + r)) (by omega) (by omega) (fun c hc => by rw [h3 r c (by omega) hc, if_neg (fun q => Nat.lt_irrefl r q.1), if_neg (Nat.not_lt_zero c)])
      rw [hv_wJ_self] at g1
      rw [hfc, g1]
      refine ih (r + 1) fuel (hv_wJ σ (27 + r) g') (by omega) (by omega) h1 (fun j hj => by rw [hv_wJ_ne _ _ (by omega)]; exact h2 j hj) (fun i c hi hc => ?_)
      by_cases e2 : i = r
      · rw [e2, hv_wJ_at, g2 c hc, if_pos ⟨by omega, e⟩]
      · rw [hv_wJ_ne _ _ (by omega), h3 i c hi hc]
        by_cases l : i < r
        · by_cases e3 : i = y
          · rw [if_neg (fun q => q.2 e3), if_neg (fun q => q.2 e3)]
          · rw [if_pos ⟨l, e3⟩, if_pos ⟨by omega, e3⟩]
        · rw [if_neg (fun q => l q.1), if_neg (fun q => by have := q.1; omega)]
theorem x0_clear {n : Nat} (hn : 30 < n) {σ : hv_St} {B N y b : Nat} (hb : σ.1 1 1 = nI B) (hN : σ.1 9 4 = nI N) (hBN : B ≤ 11 ∧ N ≤ 12) (hy : y < N) (hbB : b < B) {l : Int} {M Q : Nat → Nat → Int} (hl : l ≠ 0) (hlr : rL l) (hsc : σ.2 9 8 = iL l) (hQ : ∀ r c, r < N → r ≠ y → c < B + N → M y b * M r c - M r b * M y c = l * Q r c) (hrg : ∀ r c, r < N → r ≠ y → c < B + N → rL (M y b * M r c - M r b * M y c)) (hM : ∀ i c, i < N → c < B + N → σ.2 (27 + i) c = iL (M i c)) : ∃ τ, mX0_clearColumn n σ (nI b) (nI y) = some (hv_sJ τ 9 8 (iL (M y b))) ∧ τ.1 = σ.1 ∧ (∀ j, j < 27 ∨ 39 ≤ j → τ.2 j = σ.2 j) ∧ ∀ i c, i < N → c < B + N → τ.2 (27 + i) c = iL (if i ≠ y then Q i c else M i c) := by
  obtain ⟨τ, t1, t2, t3, t4⟩ := x0_clear_loop hn hb hN hBN hy hbB hl hlr hsc hQ hrg N 0 n σ (by omega) (by omega) rfl (fun _ _ => rfl) (fun i c hi hc => by rw [if_neg (fun q => Nat.not_lt_zero _ q.1)]; exact hM i c hi hc)
  refine ⟨τ, ?_, t2, t3, t4⟩
  unfold mX0_clearColumn
  rw [hv_if_t (hv_ok_nI (show y < 12 by omega) (by decide)), hv_if_t (hv_ok_nI (show b < 23 by omega) (by decide)), hv_let_e, nI_clamp (by omega), nI_clamp (by omega), hM y b hy (by omega)]
  exact t1
