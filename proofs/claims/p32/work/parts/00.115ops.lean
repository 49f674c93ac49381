/-! load -/
theorem nI_ld (k : Nat) : nI (2 * k) + 1 = nI (2 * k + 1) := nI_1 _
/-- v is a load: -9 to 9 -/
def fLd (v : Int32) : Prop := (-9 : Int32) ≤ v ∧ v ≤ (9 : Int32)
theorem fLd_z {v : Int32} (h : fLd v) : ∃ z : Int, v = iI z ∧ -9 ≤ z ∧ z ≤ 9 := by
  refine ⟨v.toInt, iI_of v, ?_, ?_⟩
  · have := Int32.le_iff_toInt_le.mp h.1
    exact this
  · have := Int32.le_iff_toInt_le.mp h.2
    exact this
theorem x7_isLoad {n : Nat} {σ : hv_St} (v : Int32) : (fLd v → mX7_isLoad n σ v = some (1, σ)) ∧ (¬ fLd v → mX7_isLoad n σ v = some (0, σ)) := by
  unfold mX7_isLoad
  by_cases h1 : v < (-9 : Int32)
  · rw [if_pos h1]
    exact ⟨fun h => absurd h1 (Int32.not_lt.mpr h.1), fun _ => rfl⟩
  · rw [if_neg h1]
    by_cases h2 : (9 : Int32) < v
    · rw [if_pos h2]
      exact ⟨fun h => absurd h2 (Int32.not_lt.mpr h.2), fun _ => rfl⟩
    · rw [if_neg h2]
      exact ⟨fun _ => rfl, fun h => absurd ⟨Int32.not_lt.mp h1, Int32.not_lt.mp h2⟩ h⟩
theorem r8_inLd {n : Nat} {σ : hv_St} (v : Int32) : (fLd v → mX8_in n σ v.toInt64 (-9 : Int64) (9 : Int64) = some (1, σ)) ∧ (¬ fLd v → mX8_in n σ v.toInt64 (-9 : Int64) (9 : Int64) = some (0, σ)) := by
  rw [show (-9 : Int64) = (-9 : Int32).toInt64 by decide, show (9 : Int64) = (9 : Int32).toInt64 by decide, r8_in32]
  exact ⟨fun h => by rw [if_pos (show (-9 : Int32) ≤ v ∧ v ≤ (9 : Int32) from h)], fun h => by rw [if_neg (show ¬ ((-9 : Int32) ≤ v ∧ v ≤ (9 : Int32)) from h)]⟩
theorem op_load {n : Nat} {F : Nat → Nat → Int32} {P B O D W : Nat} {σX σM : hv_St} (h : hR F P B O D W σX σM) (v x y : Int32) : ∃ r σX' σM' F', mX7_load n σX v x y = some (r, σX') ∧ mX8_load n σM v x y = some (r, σM') ∧ hR F' P B O D W σX' σM' := by
  obtain ⟨hi, hx, hm⟩ := h
  have hP := hi.1
  have hP6 := hP.2
  have sX : σX.1 1 0 = nI P := hx.1.1.trans hP.1
  have hm0 : rM F (hv_sI σM 0 0 0) := rM_sc hm (by decide) 0
  have sM : (hv_sI σM 0 0 0).1 0 1 = nI P := hm0.1.1.trans hP.1
  by_cases hv : fN P v
  · by_cases h1 : fLd x
    · by_cases h2 : fLd y
      · obtain ⟨k, hk, rfl⟩ := hv
        refine ⟨1, hv_sI (hv_sI σX 3 (2 * k) x) 3 (2 * k + 1) y, hv_sI (hv_sI (hv_sI σM 0 0 0) 4 (2 * k) x) 4 (2 * k + 1) y, fU (fU F 4 (2 * k) x) 4 (2 * k + 1) y, ?_, ?_, ?_, ?_, rM_up (rM_up hm0 (k := 4) (by decide) (2 * k) x) (k := 4) (by decide) (2 * k + 1) y⟩
        · unfold mX7_load
          rw [(x3_isPin (by omega) sX (nI k)).1 ⟨k, hk, rfl⟩, hv_b2_e, if_neg (by decide), (x7_isLoad x).1 h1, hv_b2_e, if_neg (by decide), (x7_isLoad y).1 h2, hv_b2_e, if_neg (by decide)]
          simp only [nI_2, nI_1, hv_if_t (hv_ok_nI (show 2 * k < 12 by omega) (by decide)), hv_if_t (hv_ok_nI (show 2 * k + 1 < 12 by omega) (by decide)), nI_clamp (show 2 * k < 2 ^ 31 by omega), nI_clamp (show 2 * k + 1 < 2 ^ 31 by omega), hv_let_e]
        · unfold mX8_load
          rw [hv_let_e, (r8_isPin (by omega) sM (nI k)).1 ⟨k, hk, rfl⟩, hv_b2_e, if_neg (by decide), (r8_inLd x).1 h1, hv_b2_e, if_neg (by decide), (r8_inLd y).1 h2, hv_b2_e, if_neg (by decide)]
          simp only [nI_2, nI_1, hv_if_t (hv_ok_nI (show 2 * k < 12 by omega) (by decide)), hv_if_t (hv_ok_nI (show 2 * k + 1 < 12 by omega) (by decide)), nI_clamp (show 2 * k < 2 ^ 31 by omega), nI_clamp (show 2 * k + 1 < 2 ^ 31 by omega), hv_let_e]
        · obtain ⟨g1, g2, g3, g4, g5, g6, g7, g8, g9, g10, g11, g12⟩ := hi
          refine ⟨⟨by simp [fU, upd, g1.1], g1.2⟩, ⟨by simp [fU, upd, g2.1], g2.2⟩, ⟨by simp [fU, upd, g3.1], g3.2⟩, ⟨by simp [fU, upd, g4.1], g4.2⟩, ⟨by simp [fU, upd, g5.1], g5.2⟩, fun p hp' => by simpa [fU, upd] using g6 p hp', fun b hb => by simpa [fU, upd] using g7 b hb, fun s hs => ?_, fun p hp' => by simpa [fU, upd] using g9 p hp', fun i hi' => by simpa [fU, upd] using g10 i hi', fun i j hi' hj => by simpa [fU, upd] using g11 i j hi' hj, fun i hi' => by simpa [fU, upd] using g12 i hi'⟩
          rw [fU_at, fU_at]
          by_cases e : s = 2 * k + 1
          · rw [if_pos e]
            exact fLd_z h2
          · rw [if_neg e]
            by_cases e2 : s = 2 * k
            · rw [if_pos e2]
              exact fLd_z h1
            · rw [if_neg e2]
              exact g8 s hs
        · obtain ⟨⟨k1, k2, k3, k4, k5⟩, k6, k7, k8, k9, k10, k11⟩ := hx
          refine ⟨⟨by simp [hv_sI, fU, upd, k1], by simp [hv_sI, fU, upd, k2], by simp [hv_sI, fU, upd, k3], by simp [hv_sI, fU, upd, k4], by simp [hv_sI, fU, upd, k5]⟩, fun p hp' => by simpa [hv_sI, fU, upd] using k6 p hp', fun s hs => ?_, fun p w hp' hw => by simpa [hv_sI, fU, upd] using k8 p w hp' hw, fun b hb => by simpa [hv_sI, fU, upd] using k9 b hb, fun i hi' => by simpa [hv_sI, fU, upd] using k10 i hi', fun i hi' => by simpa [hv_sI, fU, upd] using k11 i hi'⟩
          rw [hv_sI_rd, hv_sI_rd, fU_at, fU_at, k7 s hs]
      · refine ⟨0, σX, hv_sI σM 0 0 0, F, ?_, ?_, hi, hx, hm0⟩
        · unfold mX7_load
          rw [(x3_isPin (by omega) sX v).1 hv, hv_b2_e, if_neg (by decide), (x7_isLoad x).1 h1, hv_b2_e, if_neg (by decide), (x7_isLoad y).2 h2, hv_b2_e, if_pos rfl]
        · unfold mX8_load
          rw [hv_let_e, (r8_isPin (by omega) sM v).1 hv, hv_b2_e, if_neg (by decide), (r8_inLd x).1 h1, hv_b2_e, if_neg (by decide), (r8_inLd y).2 h2, hv_b2_e, if_pos rfl]
    · refine ⟨0, σX, hv_sI σM 0 0 0, F, ?_, ?_, hi, hx, hm0⟩
      · unfold mX7_load
        rw [(x3_isPin (by omega) sX v).1 hv, hv_b2_e, if_neg (by decide), (x7_isLoad x).2 h1, hv_b2_e, if_pos rfl]
      · unfold mX8_load
        rw [hv_let_e, (r8_isPin (by omega) sM v).1 hv, hv_b2_e, if_neg (by decide), (r8_inLd x).2 h1, hv_b2_e, if_pos rfl]
  · refine ⟨0, σX, hv_sI σM 0 0 0, F, ?_, ?_, hi, hx, hm0⟩
    · unfold mX7_load
      rw [(x3_isPin (by omega) sX v).2 hv, hv_b2_e, if_pos rfl]
    · unfold mX8_load
      rw [hv_let_e, (r8_isPin (by omega) sM v).2 hv, hv_b2_e, if_pos rfl]
