/-! place, strip, turn -/
theorem op_place {n : Nat} (hn : 100 < n) {F : Nat → Nat → Int32} {P B O D W : Nat} {σX σM : hv_St} (h : hR F P B O D W σX σM) (v x y : Int32) : ∃ r σX' σM' F', mX7_place n σX v x y = some (r, σX') ∧ mX8_place n σM v x y = some (r, σM') ∧ hR F' P B O D W σX' σM' := by
  obtain ⟨hi, hx, hm⟩ := h
  have hP := hi.1
  have hP6 := hP.2
  have sX : σX.1 1 0 = nI P := hx.1.1.trans hP.1
  have hm0 : rM F (hv_sI σM 0 0 0) := rM_sc hm (by decide) 0
  have sM : (hv_sI σM 0 0 0).1 0 1 = nI P := hm0.1.1.trans hP.1
  have hf := x7_isFreePlace (n := n) (by omega) hP.2 sX x y
  have hp := r8_isPlace (n := n) (σ := hv_sI σM 0 0 0) x y
  have ha := r8_pinAt (n := n) hP.2 sM x y P 0 n (by omega) (by omega)
  have ea : kX8_pinAt_2 n n (hv_sI σM 0 0 0) x y (nI 0) = mX8_pinAt n (hv_sI σM 0 0 0) x y := rfl
  rw [ea] at ha
  have hit : (∃ p, p < P ∧ σX.1 2 (2 * p) = x ∧ σX.1 2 (2 * p + 1) = y) ↔ ∃ p, 0 ≤ p ∧ p < P ∧ (hv_sI σM 0 0 0).1 1 p = x ∧ (hv_sI σM 0 0 0).1 2 p = y := by
    constructor
    · rintro ⟨p, q1, q2, q3⟩
      refine ⟨p, Nat.zero_le _, q1, ?_, ?_⟩
      · rw [hm0.2 1 (by decide) (by decide), ← (hx.2.1 p (by omega)).1, q2]
      · rw [hm0.2 2 (by decide) (by decide), ← (hx.2.1 p (by omega)).2, q3]
    · rintro ⟨p, -, q1, q2, q3⟩
      rw [hm0.2 1 (by decide) (by decide)] at q2
      rw [hm0.2 2 (by decide) (by decide)] at q3
      exact ⟨p, q1, (hx.2.1 p (by omega)).1.trans q2, (hx.2.1 p (by omega)).2.trans q3⟩
  by_cases hv : fN P v
  · by_cases hpl : fPl x y
    · by_cases hh : ∃ p, p < P ∧ σX.1 2 (2 * p) = x ∧ σX.1 2 (2 * p + 1) = y
      · refine ⟨0, σX, hv_sI σM 0 0 0, F, ?_, ?_, hi, hx, hm0⟩
        · unfold mX7_place
          rw [(x3_isPin (by omega) sX v).1 hv, hv_b2_e, if_neg (by decide), hf.2 (fun q => q.2 hh), hv_b2_e, if_pos rfl]
        · obtain ⟨p, p1, p2⟩ := ha.1 (hit.mp hh)
          have e1 : ¬ nI p = (-1 : Int32) := fun e => nI_pos (n := p) (by omega) (by rw [e]; decide)
          unfold mX8_place
          rw [hv_let_e, (r8_isPin (by omega) sM v).1 hv, hv_b2_e, if_neg (by decide), hp.1 hpl, hv_b2_e, if_neg (by decide), p2, hv_b2_e, if_neg e1]
      · obtain ⟨k, hk, rfl⟩ := hv
        refine ⟨1, hv_sI (hv_sI σX 2 (2 * k) x) 2 (2 * k + 1) y, hv_sI (hv_sI (hv_sI σM 0 0 0) 1 k x) 2 k y, fU (fU F 1 k x) 2 k y, ?_, ?_, ?_, ?_, rM_up (rM_up hm0 (k := 1) (by decide) k x) (k := 2) (by decide) k y⟩
        · unfold mX7_place
          rw [(x3_isPin (by omega) sX (nI k)).1 ⟨k, hk, rfl⟩, hv_b2_e, if_neg (by decide), hf.1 ⟨hpl, hh⟩, hv_b2_e, if_neg (by decide)]
          unfold mX3_put
          simp only [nI_2, nI_1, hv_if_t (hv_ok_nI (show 2 * k < 12 by omega) (by decide)), hv_if_t (hv_ok_nI (show 2 * k + 1 < 12 by omega) (by decide)), nI_clamp (show 2 * k < 2 ^ 31 by omega), nI_clamp (show 2 * k + 1 < 2 ^ 31 by omega), hv_let_e, hv_bd_e]
        · unfold mX8_place
          rw [hv_let_e, (r8_isPin (by omega) sM (nI k)).1 ⟨k, hk, rfl⟩, hv_b2_e, if_neg (by decide), hp.1 hpl, hv_b2_e, if_neg (by decide), ha.2 (fun q => hh (hit.mpr q)), hv_b2_e, if_pos rfl]
          simp only [hv_if_t (hv_ok_nI (show k < 6 by omega) (by decide)), nI_clamp (show k < 2 ^ 31 by omega), hv_let_e]
        · obtain ⟨g1, g2, g3, g4, g5, g6, g7, g8, g9, g10, g11, g12⟩ := hi
          refine ⟨⟨by simp [fU, upd, g1.1], g1.2⟩, ⟨by simp [fU, upd, g2.1], g2.2⟩, ⟨by simp [fU, upd, g3.1], g3.2⟩, ⟨by simp [fU, upd, g4.1], g4.2⟩, ⟨by simp [fU, upd, g5.1], g5.2⟩, fun p hp' => ?_, fun b hb => by simpa [fU, upd] using g7 b hb, fun s hs => by simpa [fU, upd] using g8 s hs, fun p hp' => by simpa [fU, upd] using g9 p hp', fun i hi' => by simpa [fU, upd] using g10 i hi', fun i j hi' hj => by simpa [fU, upd] using g11 i j hi' hj, fun i hi' => by simpa [fU, upd] using g12 i hi'⟩
          by_cases e : p = k
          · simp [fU, upd, e, hpl.1, hpl.2]
          · simpa [fU, upd, e] using g6 p hp'
        · obtain ⟨⟨k1, k2, k3, k4, k5⟩, k6, k7, k8, k9, k10, k11⟩ := hx
          refine ⟨⟨by simp [hv_sI, fU, upd, k1], by simp [hv_sI, fU, upd, k2], by simp [hv_sI, fU, upd, k3], by simp [hv_sI, fU, upd, k4], by simp [hv_sI, fU, upd, k5]⟩, fun p hp' => ?_, fun s hs => by simpa [hv_sI, fU, upd] using k7 s hs, fun p w hp' hw => by simpa [hv_sI, fU, upd] using k8 p w hp' hw, fun b hb => by simpa [hv_sI, fU, upd] using k9 b hb, fun i hi' => by simpa [hv_sI, fU, upd] using k10 i hi', fun i hi' => by simpa [hv_sI, fU, upd] using k11 i hi'⟩
          have q := k6 p hp'
          have a1 : ¬ 2 * p = 2 * k + 1 := by omega
          have a2 : ¬ 2 * p + 1 = 2 * k := by omega
          by_cases e : p = k
          · simp [hv_sI, fU, upd, e]
          · have a5 : ¬ 2 * p = 2 * k := by omega
            simp [hv_sI, fU, upd, e, a1, a2, a5, q]
    · refine ⟨0, σX, hv_sI σM 0 0 0, F, ?_, ?_, hi, hx, hm0⟩
      · unfold mX7_place
        rw [(x3_isPin (by omega) sX v).1 hv, hv_b2_e, if_neg (by decide), hf.2 (fun q => hpl q.1), hv_b2_e, if_pos rfl]
      · unfold mX8_place
        rw [hv_let_e, (r8_isPin (by omega) sM v).1 hv, hv_b2_e, if_neg (by decide), hp.2 hpl, hv_b2_e, if_pos rfl]
  · refine ⟨0, σX, hv_sI σM 0 0 0, F, ?_, ?_, hi, hx, hm0⟩
    · unfold mX7_place
      rw [(x3_isPin (by omega) sX v).2 hv, hv_b2_e, if_pos rfl]
    · unfold mX8_place
      rw [hv_let_e, (r8_isPin (by omega) sM v).2 hv, hv_b2_e, if_pos rfl]
