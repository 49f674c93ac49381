/-! the two states and the frame F -/
def fU (F : Nat → Nat → Int32) (k i : Nat) (v : Int32) : Nat → Nat → Int32 := fun j => if j = k then upd (F j) i v else F j
theorem fU_at (F : Nat → Nat → Int32) (k i j : Nat) (v : Int32) : fU F k i v k j = if j = i then v else F k j := by
  unfold fU
  rw [if_pos rfl]
  rfl
theorem fU_ne (F : Nat → Nat → Int32) {k q : Nat} (i : Nat) (v : Int32) (h : q ≠ k) : fU F k i v q = F q := if_neg h
theorem hv_sI_rd (σ : hv_St) (k i j : Nat) (v : Int32) : (hv_sI σ k i v).1 k j = if j = i then v else σ.1 k j := by
  rw [hv_sI_at]
  rfl
theorem rM_up {F : Nat → Nat → Int32} {σ : hv_St} (h : rM F σ) {k : Nat} (hk : k ≤ 10) (i : Nat) (v : Int32) : rM (fU F k i v) (hv_sI σ k i v) := by
  obtain ⟨⟨h1, h2, h3, h4, h5⟩, h6⟩ := h
  by_cases e : k = 0
  · subst e
    refine ⟨⟨?_, ?_, ?_, ?_, ?_⟩, fun q q1 q2 => ?_⟩
    · rw [hv_sI_rd, fU_at, h1]
    · rw [hv_sI_rd, fU_at, h2]
    · rw [hv_sI_rd, fU_at, h3]
    · rw [hv_sI_rd, fU_at, h4]
    · rw [hv_sI_rd, fU_at, h5]
    · rw [hv_sI_ne _ _ _ (by omega), fU_ne _ _ _ (by omega)]
      exact h6 q q1 q2
  · refine ⟨?_, fun q q1 q2 => ?_⟩
    · rw [hv_sI_ne _ _ _ (fun e2 => e e2.symm), fU_ne _ _ _ (fun e2 => e e2.symm)]
      exact ⟨h1, h2, h3, h4, h5⟩
    · by_cases e2 : q = k
      · subst e2
        funext j
        rw [hv_sI_rd, fU_at, h6 q q1 q2]
      · rw [hv_sI_ne _ _ _ e2, fU_ne _ _ _ e2]
        exact h6 q q1 q2
theorem rM_sc {F : Nat → Nat → Int32} {σ : hv_St} (h : rM F σ) {i : Nat} (hi : i ≠ 1 ∧ i ≠ 6 ∧ i ≠ 11 ∧ i ≠ 13 ∧ i ≠ 15) (v : Int32) : rM F (hv_sI σ 0 i v) := by
  obtain ⟨⟨h1, h2, h3, h4, h5⟩, h6⟩ := h
  refine ⟨⟨?_, ?_, ?_, ?_, ?_⟩, fun q q1 q2 => ?_⟩
  · rw [hv_sI_rd, if_neg (fun e => hi.1 e.symm), h1]
  · rw [hv_sI_rd, if_neg (fun e => hi.2.1 e.symm), h2]
  · rw [hv_sI_rd, if_neg (fun e => hi.2.2.1 e.symm), h3]
  · rw [hv_sI_rd, if_neg (fun e => hi.2.2.2.1 e.symm), h4]
  · rw [hv_sI_rd, if_neg (fun e => hi.2.2.2.2 e.symm), h5]
  · rw [hv_sI_ne _ _ _ (by omega)]
    exact h6 q q1 q2
theorem rM_sI {F : Nat → Nat → Int32} {σ : hv_St} (h : rM F σ) {c : Nat} (hc : 10 < c) (i : Nat) (v : Int32) : rM F (hv_sI σ c i v) := by
  obtain ⟨h1, h6⟩ := h
  refine ⟨?_, fun q q1 q2 => ?_⟩
  · rw [hv_sI_ne _ _ _ (by omega)]
    exact h1
  · rw [hv_sI_ne _ _ _ (by omega)]
    exact h6 q q1 q2
theorem rM_sJ {F : Nat → Nat → Int32} {σ : hv_St} (h : rM F σ) (c i : Nat) (v : Int64) : rM F (hv_sJ σ c i v) := h
theorem rM_1 {F : Nat → Nat → Int32} {σ τ : hv_St} (h : rM F σ) (e : τ.1 = σ.1) : rM F τ := by
  unfold rM
  rw [e]
  exact h
theorem rX_1 {F : Nat → Nat → Int32} {σ τ : hv_St} (h : rX F σ) (e : ∀ k, (1 ≤ k ∧ k ≤ 8) ∨ (22 ≤ k ∧ k ≤ 24) → τ.1 k = σ.1 k) : rX F τ := by
  unfold rX
  rw [e 1 (by omega), e 2 (by omega), e 3 (by omega), e 4 (by omega), e 5 (by omega), e 6 (by omega), e 7 (by omega), e 8 (by omega), e 22 (by omega), e 23 (by omega), e 24 (by omega)]
  exact h
/-- a frame's numbers: P pins, B bars, O on, D of the deck, W weights -/
def hI (F : Nat → Nat → Int32) (P B O D W : Nat) : Prop :=
  (F 0 1 = nI P ∧ P ≤ 6) ∧ (F 0 6 = nI B ∧ B ≤ 11) ∧ (F 0 11 = nI O ∧ O < 2 ^ B) ∧ (F 0 13 = nI D ∧ D ≤ P) ∧ (F 0 15 = nI W ∧ W ≤ 4) ∧
  (∀ p, p < P → fN 4 (F 1 p) ∧ fN 3 (F 2 p)) ∧
  (∀ b, b < B → fN P (F 5 b) ∧ fN P (F 6 b) ∧ (∃ g, F 7 b = nI g ∧ 1 ≤ g ∧ g ≤ 3) ∧ ∃ s, F 8 b = nI s ∧ 1 ≤ s ∧ s ≤ 999) ∧
  (∀ s, s < 12 → ∃ z : Int, F 4 s = iI z ∧ -9 ≤ z ∧ z ≤ 9) ∧ (∀ p, p < 6 → fN 4 (F 3 p)) ∧ (∀ i, i < D → fN P (F 9 i)) ∧ (∀ i j, i < D → j < D → F 9 i = F 9 j → i = j) ∧
  ∀ i, i < W → ∃ w, F 10 i = nI w ∧ 1 ≤ w ∧ w ≤ 9
def hR (F : Nat → Nat → Int32) (P B O D W : Nat) (σX σM : hv_St) : Prop := hI F P B O D W ∧ rX F σX ∧ rM F σM
theorem fN_mono {N M : Nat} (h : N ≤ M) {v : Int32} (hv : fN N v) : fN M v := by
  obtain ⟨k, hk, e⟩ := hv
  exact ⟨k, by omega, e⟩
theorem op_pin {n : Nat} (hn : 100 < n) {F : Nat → Nat → Int32} {P B O D W : Nat} {σX σM : hv_St} (h : hR F P B O D W σX σM) (x y : Int32) : ∃ r σX' σM' F' P', mX7_pin n σX x y = some (r, σX') ∧ mX8_pin n σM x y = some (r, σM') ∧ hR F' P' B O D W σX' σM' := by
  obtain ⟨hi, hx, hm⟩ := h
  have hP := hi.1
  have sX : σX.1 1 0 = nI P := hx.1.1.trans hP.1
  have hm0 : rM F (hv_sI σM 0 0 0) := rM_sc hm (by decide) 0
  have sM : (hv_sI σM 0 0 0).1 0 1 = nI P := hm0.1.1.trans hP.1
  by_cases h6 : P = 6
  · refine ⟨-1, σX, hv_sI σM 0 0 0, F, P, ?_, ?_, hi, hx, hm0⟩
    · unfold mX7_pin
      rw [sX, h6]
      rfl
    · unfold mX8_pin
      rw [hv_let_e, sM, h6]
      rfl
  · have hP5 : P < 6 := by have := hP.2; omega
    have n6 : ¬ (6 : Int32) ≤ nI P := nI_ge (b := 6) (by omega) (by decide)
    have e6 : ¬ nI P = (6 : Int32) := fun e => h6 ((nI_eq (b := 6) (by omega) (by decide)).mp e)
    have hf := x7_isFreePlace (n := n) (by omega) hP.2 sX x y
    have hp := r8_isPlace (n := n) (σ := hv_sI σM 0 0 0) x y
    have ha := r8_pinAt (n := n) hP.2 sM x y P 0 n (by omega) (by omega)
    have ea : kX8_pinAt_2 n n (hv_sI σM 0 0 0) x y (nI 0) = mX8_pinAt n (hv_sI σM 0 0 0) x y := rfl
    rw [ea] at ha
    have hit : (∃ p, p < P ∧ σX.1 2 (2 * p) = x ∧ σX.1 2 (2 * p + 1) = y) ↔ ∃ p, 0 ≤ p ∧ p < P ∧ (hv_sI σM 0 0 0).1 1 p = x ∧ (hv_sI σM 0 0 0).1 2 p = y := by
      constructor
      · rintro ⟨p, q1, q2, q3⟩
        refine ⟨p, Nat.zero_le _, q1, ?_, ?_⟩
        · rw [hm0.2 1 (by decide) (by decide), ← (hx.2.1 p (by omega)).1, q2]
        · rw [hm0.2 2 (by decide) (by decide), ← (hx.2.1 p (by omega)).2, q3]
      · rintro ⟨p, -, q1, q2, q3⟩
        rw [hm0.2 1 (by decide) (by decide)] at q2
        rw [hm0.2 2 (by decide) (by decide)] at q3
        exact ⟨p, q1, (hx.2.1 p (by omega)).1.trans q2, (hx.2.1 p (by omega)).2.trans q3⟩
    by_cases hpl : fPl x y
    · by_cases hh : ∃ p, p < P ∧ σX.1 2 (2 * p) = x ∧ σX.1 2 (2 * p + 1) = y
      · refine ⟨-1, σX, hv_sI σM 0 0 0, F, P, ?_, ?_, hi, hx, hm0⟩
        · unfold mX7_pin
          rw [sX, if_neg n6, hf.2 (fun q => q.2 hh), hv_b2_e, if_pos rfl]
        · obtain ⟨p, p1, p2⟩ := ha.1 (hit.mp hh)
          have e1 : ¬ nI p = (-1 : Int32) := fun e => nI_pos (n := p) (by omega) (by rw [e]; decide)
          unfold mX8_pin
          rw [hv_let_e, sM, if_neg e6, hp.1 hpl, hv_b2_e, if_neg (by decide), p2, hv_b2_e, if_neg e1]
      · refine ⟨nI P, hv_sI (hv_sI (hv_sI σX 1 0 (nI (P + 1))) 2 (2 * P) x) 2 (2 * P + 1) y, hv_sI (hv_sI (hv_sI (hv_sI σM 0 0 0) 1 P x) 2 P y) 0 1 (nI (P + 1)), fU (fU (fU F 1 P x) 2 P y) 0 1 (nI (P + 1)), P + 1, ?_, ?_, ?_, ?_, rM_up (rM_up (rM_up hm0 (k := 1) (by decide) P x) (k := 2) (by decide) P y) (k := 0) (by decide) 1 (nI (P + 1))⟩
        · unfold mX7_pin
          rw [sX, if_neg n6, hf.1 ⟨hpl, hh⟩, hv_b2_e, if_neg (by decide), sX]
          simp only [hv_let_e]
          unfold mX3_put
          simp only [nI_2, nI_1, hv_if_t (hv_ok_nI (show 2 * P < 12 by omega) (by decide)), hv_if_t (hv_ok_nI (show 2 * P + 1 < 12 by omega) (by decide)), nI_clamp (show 2 * P < 2 ^ 31 by omega), nI_clamp (show 2 * P + 1 < 2 ^ 31 by omega), hv_let_e, hv_bd_e]
        · unfold mX8_pin
          rw [hv_let_e, sM, if_neg e6, hp.1 hpl, hv_b2_e, if_neg (by decide), ha.2 (fun q => hh (hit.mpr q)), hv_b2_e, if_pos rfl]
          have s1 : (hv_sI (hv_sI σM 0 0 0) 1 P x).1 0 1 = nI P := by rw [hv_sI_ne _ _ _ (by decide)]; exact sM
          have s2 : (hv_sI (hv_sI (hv_sI σM 0 0 0) 1 P x) 2 P y).1 0 1 = nI P := by rw [hv_sI_ne _ _ _ (by decide)]; exact s1
          simp only [sM, hv_if_t (hv_ok_nI (show P < 6 by omega) (by decide)), nI_clamp (show P < 2 ^ 31 by omega), hv_let_e, s1, s2, nI_1, hv_sI_rd, if_true, nI_pred]
        · obtain ⟨-, g2, g3, g4, g5, g6, g7, g8, g9, g10, g11, g12⟩ := hi
          refine ⟨⟨by simp [fU, upd], by omega⟩, ⟨by simp [fU, upd, g2.1], g2.2⟩, ⟨by simp [fU, upd, g3.1], g3.2⟩, ⟨by simp [fU, upd, g4.1], by have := g4.2; omega⟩, ⟨by simp [fU, upd, g5.1], g5.2⟩, fun p hp' => ?_, fun b hb => ?_, fun s hs => by simpa [fU, upd] using g8 s hs, fun p hp' => by simpa [fU, upd] using g9 p hp', fun i hi' => by simpa [fU, upd] using fN_mono (M := P + 1) (by omega) (g10 i hi'), fun i j hi' hj => by simpa [fU, upd] using g11 i j hi' hj, fun i hi' => by simpa [fU, upd] using g12 i hi'⟩
          · by_cases e : p = P
            · simp [fU, upd, e, hpl.1, hpl.2]
            · simpa [fU, upd, e] using g6 p (by omega)
          · have q := g7 b hb
            simpa [fU, upd] using ⟨fN_mono (M := P + 1) (by omega) q.1, fN_mono (M := P + 1) (by omega) q.2.1, q.2.2⟩
        · obtain ⟨⟨k1, k2, k3, k4, k5⟩, k6, k7, k8, k9, k10, k11⟩ := hx
          refine ⟨⟨by simp [hv_sI, fU, upd], by simp [hv_sI, fU, upd, k2], by simp [hv_sI, fU, upd, k3], by simp [hv_sI, fU, upd, k4], by simp [hv_sI, fU, upd, k5]⟩, fun p hp' => ?_, fun s hs => by simpa [hv_sI, fU, upd] using k7 s hs, fun p w hp' hw => by simpa [hv_sI, fU, upd] using k8 p w hp' hw, fun b hb => by simpa [hv_sI, fU, upd] using k9 b hb, fun i hi' => by simpa [hv_sI, fU, upd] using k10 i hi', fun i hi' => by simpa [hv_sI, fU, upd] using k11 i hi'⟩
          have q := k6 p hp'
          have a1 : ¬ 2 * p = 2 * P + 1 := by omega
          have a2 : ¬ 2 * p + 1 = 2 * P := by omega
          have a3 : (2 * p = 2 * P) ↔ p = P := by omega
          have a4 : (2 * p + 1 = 2 * P + 1) ↔ p = P := by omega
          by_cases e : p = P
          · simp [hv_sI, fU, upd, e]
          · have a5 : ¬ 2 * p = 2 * P := by omega
            simp [hv_sI, fU, upd, e, a1, a2, a5, q]
    · refine ⟨-1, σX, hv_sI σM 0 0 0, F, P, ?_, ?_, hi, hx, hm0⟩
      · unfold mX7_pin
        rw [sX, if_neg n6, hf.2 (fun q => hpl q.1), hv_b2_e, if_pos rfl]
      · unfold mX8_pin
        rw [hv_let_e, sM, if_neg e6, hp.2 hpl, hv_b2_e, if_pos rfl]
