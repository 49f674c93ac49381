/-! flex -/
theorem vV_bd28 {F : Nat → Nat → Int32} {P B O D W : Nat} (hi : hI F P B O D W) {S : Nat} {A : Nat → md_V} (h : zF F P B S A) (hA : fXs F P B A) (hN : fN' F P ≤ 10) {e : Int} (he : e = 1 ∨ e = -1) {z : Nat → Int} (hz : ∀ s, s < 12 → (z s).natAbs ≤ 9) (b : Nat) : (vV F P B S A e z b).natAbs ≤ 2 ^ 28 := by
  by_cases hb : b ∈ zL F P B S
  · have hp := (zI_P hb).1
    have hl := zL_len h
    rw [vV_at hb, natAbs_pm he]
    by_cases l : zI F P B S b < fN' F P
    · rw [t_all.2.1 _ _ l]
      have q := md_dt_W2 (R := fR F P) (nd_range _) (w := 5) (z := 108) (A := A) l (fun k hk => by
        obtain ⟨c, -, ec⟩ := hA k hk
        rw [ec]
        exact fXc_W hi c) (fCo_W hi.1.2 hz)
      refine Nat.le_trans q (Nat.le_trans (Nat.mul_le_mul_left 108 (Nat.pow_le_pow_right (show 0 < 5 by decide) (show fN' F P - 1 ≤ 9 by omega))) (by decide))
    · obtain ⟨j, hj⟩ : ∃ j, zI F P B S b = fN' F P + j := ⟨zI F P B S b - fN' F P, by omega⟩
      rw [hj, t_all.2.2.1 _ j (by omega)]
      decide
  · rw [vV_no hb]
    decide
theorem r8_spareAt {n : Nat} (hn : 20 < n) {F : Nat → Nat → Int32} {P B O D W : Nat} (hi : hI F P B O D W) {S Es : Nat} {τ : hv_St} (hm : rM F τ) (h1 : τ.1 0 21 = nI Es) (h2 : Es < 2 ^ B) (h3 : ∀ b, Es.testBit b = true ↔ (b < B ∧ S.testBit b = true) ∧ b ∉ fBase F P (fBl S B)) {v : Int32} (hv : ¬ v < 0) : (∀ i, i < (fSp F P B S).length → v = nI i → mX8_spareAt n τ v = some (nI ((fSp F P B S).getD i 0), τ)) ∧ (¬ fN (fSp F P B S).length v → mX8_spareAt n τ v = some (-1, τ)) := by
  have hB := hi.2.1.2
  obtain ⟨i, hi31, rfl⟩ := nI_of hv
  have q := r8_spAt (n := n) hB (hm.1.2.1.trans hi.2.1.1) (show Es < 2 ^ 31 by have := p2048 hB h2; omega) h1 hi31 B 0 n (by omega) (by omega) (Nat.zero_le _)
  rw [fSp_Es h3] at q
  have e : mX8_spareAt n τ (nI i) = some (if i < (fSp F P B S).length then nI ((fSp F P B S).getD i 0) else -1, τ) := q
  have hl : (fSp F P B S).length ≤ B := by
    rw [← fSp_Es h3]
    have h2 := List.length_filter_le (fun j => Es.testBit j) (List.range B)
    rw [List.length_range] at h2
    exact h2
  refine ⟨fun k hk ek => ?_, fun hn' => ?_⟩
  · have := (nI_eq hi31 (by omega)).mp ek
    rw [e, if_pos (by omega), this]
  · rw [e, if_neg (fun z => hn' ⟨i, z, rfl⟩)]
theorem r8_flex126 {n : Nat} (hn : 2100 ≤ n) {F : Nat → Nat → Int32} {P B O D W : Nat} (hi : hI F P B O D W) {σ : hv_St} (hm : rM F σ) {v : Int32} {X Y : Nat → Int} {s : Int} (hX : ∀ b, b < B → σ.2 18 b = iL (X b)) (hY : ∀ b, b < B → σ.2 (if v = -1 then 17 else 19) b = iL (Y b)) (hs : σ.2 0 29 = iL s) (s0 : s ≠ 0) (hs28 : s.natAbs ≤ 2 ^ 28) (hr : rL (sumK (fun b => gv F b * X b * Y b) B)) (u : Int32) : ∀ (d b fuel : Nat), b + d = B → d < fuel → kX8_flex_126 n fuel σ v u (iL (sumK (fun b => gv F b * X b * Y b) b)) (nI b) = some (iL (tlN (sumK (fun b => gv F b * X b * Y b) B) (s * s) (if u = 0 then sumK (fun b => gv F b * X b * Y b) B else s * s)), σ) := by
  have hB := hi.2.1.2
  have bM : σ.1 0 6 = nI B := hm.1.2.1.trans hi.2.1.1
  have ss : (s * s).natAbs ≤ 2 ^ 56 := by
    rw [Int.natAbs_mul]
    exact Nat.le_trans (Nat.mul_le_mul hs28 hs28) (by decide)
  have ss0 : s * s ≠ 0 := fun z => by rcases Int.mul_eq_zero.mp z with z | z <;> exact s0 z
  intro d
  induction d with
  | zero =>
    intro b fuel h1 h2
    obtain ⟨fuel, rfl⟩ : ∃ q, fuel = q + 1 := ⟨fuel - 1, by omega⟩
    obtain rfl : b = B := by omega
    show kX8_flex_126_b n _ _ _ _ _ _ = _
    unfold kX8_flex_126_b
    rw [bM, if_pos (nI_le (Nat.le_refl _) (by omega)), hs, iL_mul, r8_told (n := n) (by omega) hr (rL_of (Nat.le_trans ss (by decide))) ss0 u, hv_b2_e]
  | succ d ih =>
    intro b fuel h1 h2
    obtain ⟨fuel, rfl⟩ : ∃ q, fuel = q + 1 := ⟨fuel - 1, by omega⟩
    have hbB : b < B := by omega
    have gb := gv_e hi hbB
    have e7 : σ.1 7 b = iI (gv F b) := (congrFun (hm.2 7 (by decide) (by decide)) b).trans gb.1
    have hYb := hY b hbB
    rw [← ih (b + 1) fuel (by omega) (by omega)]
    show kX8_flex_126_b n _ _ _ _ _ _ = _
    unfold kX8_flex_126_b kX8_flex_175
    rw [bM, if_neg (nI_ge hbB (by omega)), hv_if_t (hv_ok_nI (show b < 11 by omega) (by decide)), hv_if_t (hv_ok_nI (show b < 11 by omega) (by decide)), hv_if_t (hv_ok_nI (show b < 11 by omega) (by decide)), hv_if_t (hv_ok_nI (show b < 11 by omega) (by decide)), nI_clamp (by omega), e7, hX b hbB, iI_L ⟨by omega, by omega⟩, iL_mul, nI_1]
    by_cases v1 : v = -1
    · rw [if_pos v1] at hYb
      rw [if_pos v1, hYb, iL_mul, iL_add, hv_let_e]
      rfl
    · rw [if_neg v1] at hYb
      rw [if_neg v1, hYb, iL_mul, iL_add, hv_let_e]
      rfl
theorem sum_e {F : Nat → Nat → Int32} {e : Int} (he : e = 1 ∨ e = -1) {X Y X1 Y1 : Nat → Int} (hX : ∀ b, X b = e * X1 b) (hY : ∀ b, Y b = e * Y1 b) (B : Nat) : sumK (fun b => gv F b * X b * Y b) B = sumK (fun b => gv F b * X1 b * Y1 b) B := sumK_congr B (fun b _ => by
  show gv F b * X b * Y b = gv F b * X1 b * Y1 b
  rw [hX, hY]
  rcases he with rfl | rfl <;> grind)
