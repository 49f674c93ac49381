/-! alter -/
def fRg (M : Nat) (v : Int32) : Prop := (1 : Int32) ≤ v ∧ v ≤ nI M
theorem fRg_n {M : Nat} (hM : M < 2 ^ 31) {v : Int32} (h : fRg M v) : ∃ g, v = nI g ∧ 1 ≤ g ∧ g ≤ M := by
  have h0 : ¬ v < 0 := by
    have h1 := Int32.le_iff_toInt_le.mp h.1
    rw [Int32.lt_iff_toInt_lt]
    have e0 : (0 : Int32).toInt = 0 := rfl
    have e1 : (1 : Int32).toInt = 1 := rfl
    omega
  obtain ⟨j, hj, rfl⟩ := nI_of2 (nI_toInt hM) h0 h.2
  exact ⟨j, rfl, (nI_leI (a := 1) (by decide) (by omega)).mp h.1, hj⟩
theorem r8_inR {n : Nat} {σ : hv_St} (M : Nat) (v : Int32) : (fRg M v → mX8_in n σ v.toInt64 (1 : Int32).toInt64 (nI M).toInt64 = some (1, σ)) ∧ (¬ fRg M v → mX8_in n σ v.toInt64 (1 : Int32).toInt64 (nI M).toInt64 = some (0, σ)) := by
  rw [r8_in32]
  exact ⟨fun h => by rw [if_pos (show (1 : Int32) ≤ v ∧ v ≤ nI M from h)], fun h => by rw [if_neg (show ¬ ((1 : Int32) ≤ v ∧ v ≤ nI M) from h)]⟩
theorem x7_isGive {n : Nat} {σ : hv_St} (v : Int32) : (fRg 3 v → mX7_isGive n σ v = some (1, σ)) ∧ (¬ fRg 3 v → mX7_isGive n σ v = some (0, σ)) := by
  unfold mX7_isGive
  by_cases h1 : v < (1 : Int32)
  · rw [if_pos h1]
    exact ⟨fun h => absurd h1 (Int32.not_lt.mpr h.1), fun _ => rfl⟩
  · rw [if_neg h1]
    by_cases h2 : (3 : Int32) < v
    · rw [if_pos h2]
      exact ⟨fun h => absurd h2 (Int32.not_lt.mpr h.2), fun _ => rfl⟩
    · rw [if_neg h2]
      exact ⟨fun _ => rfl, fun h => absurd ⟨Int32.not_lt.mp h1, Int32.not_lt.mp h2⟩ h⟩
theorem hR_num {F : Nat → Nat → Int32} {P B O D W : Nat} {σX σM : hv_St} (h : hR F P B O D W σX σM) {c k : Nat} (hk : k < B) {v : Int32} (hc : (c = 7 ∧ fRg 3 v) ∨ (c = 8 ∧ fRg 999 v)) : hR (fU F c k v) P B O D W (hv_sI σX c k v) (hv_sI σM c k v) := by
  obtain ⟨hi, hx, hm⟩ := h
  refine ⟨?_, ?_, rM_up hm (by omega) k v⟩
  · obtain ⟨g1, g2, g3, g4, g5, g6, g7, g8, g9, g10, g11, g12⟩ := hi
    rcases hc with ⟨rfl, hv⟩ | ⟨rfl, hv⟩
    · refine ⟨⟨by simp [fU, upd, g1.1], g1.2⟩, ⟨by simp [fU, upd, g2.1], g2.2⟩, ⟨by simp [fU, upd, g3.1], g3.2⟩, ⟨by simp [fU, upd, g4.1], g4.2⟩, ⟨by simp [fU, upd, g5.1], g5.2⟩, fun p hp' => by simpa [fU, upd] using g6 p hp', fun b hb => ?_, fun s hs => by simpa [fU, upd] using g8 s hs, fun p hp' => by simpa [fU, upd] using g9 p hp', fun i hi' => by simpa [fU, upd] using g10 i hi', fun i j hi' hj => by simpa [fU, upd] using g11 i j hi' hj, fun i hi' => by simpa [fU, upd] using g12 i hi'⟩
      have q := g7 b hb
      rw [fU_ne _ _ _ (by decide), fU_ne _ _ _ (by decide), fU_at, fU_ne _ _ _ (by decide)]
      refine ⟨q.1, q.2.1, ?_, q.2.2.2⟩
      by_cases e : b = k
      · rw [if_pos e]
        exact fRg_n (by decide) hv
      · rw [if_neg e]
        exact q.2.2.1
    · refine ⟨⟨by simp [fU, upd, g1.1], g1.2⟩, ⟨by simp [fU, upd, g2.1], g2.2⟩, ⟨by simp [fU, upd, g3.1], g3.2⟩, ⟨by simp [fU, upd, g4.1], g4.2⟩, ⟨by simp [fU, upd, g5.1], g5.2⟩, fun p hp' => by simpa [fU, upd] using g6 p hp', fun b hb => ?_, fun s hs => by simpa [fU, upd] using g8 s hs, fun p hp' => by simpa [fU, upd] using g9 p hp', fun i hi' => by simpa [fU, upd] using g10 i hi', fun i j hi' hj => by simpa [fU, upd] using g11 i j hi' hj, fun i hi' => by simpa [fU, upd] using g12 i hi'⟩
      have q := g7 b hb
      rw [fU_ne _ _ _ (by decide), fU_ne _ _ _ (by decide), fU_ne _ _ _ (by decide), fU_at]
      refine ⟨q.1, q.2.1, q.2.2.1, ?_⟩
      by_cases e : b = k
      · rw [if_pos e]
        exact fRg_n (by decide) hv
      · rw [if_neg e]
        exact q.2.2.2
  · obtain ⟨⟨k1, k2, k3, k4, k5⟩, k6, k7, k8, k9, k10, k11⟩ := hx
    rcases hc with ⟨rfl, hv⟩ | ⟨rfl, hv⟩
    · refine ⟨⟨by simp [hv_sI, fU, upd, k1], by simp [hv_sI, fU, upd, k2], by simp [hv_sI, fU, upd, k3], by simp [hv_sI, fU, upd, k4], by simp [hv_sI, fU, upd, k5]⟩, fun p hp' => by simpa [hv_sI, fU, upd] using k6 p hp', fun s hs => by simpa [hv_sI, fU, upd] using k7 s hs, fun p w hp' hw => by simpa [hv_sI, fU, upd] using k8 p w hp' hw, fun b hb => ?_, fun i hi' => by simpa [hv_sI, fU, upd] using k10 i hi', fun i hi' => by simpa [hv_sI, fU, upd] using k11 i hi'⟩
      have q := k9 b hb
      rw [hv_sI_ne _ _ _ (by decide), hv_sI_ne _ _ _ (by decide), hv_sI_rd, hv_sI_ne _ _ _ (by decide), fU_ne _ _ _ (by decide), fU_ne _ _ _ (by decide), fU_at, fU_ne _ _ _ (by decide), q.2.2.1]
      exact ⟨q.1, q.2.1, rfl, q.2.2.2⟩
    · refine ⟨⟨by simp [hv_sI, fU, upd, k1], by simp [hv_sI, fU, upd, k2], by simp [hv_sI, fU, upd, k3], by simp [hv_sI, fU, upd, k4], by simp [hv_sI, fU, upd, k5]⟩, fun p hp' => by simpa [hv_sI, fU, upd] using k6 p hp', fun s hs => by simpa [hv_sI, fU, upd] using k7 s hs, fun p w hp' hw => by simpa [hv_sI, fU, upd] using k8 p w hp' hw, fun b hb => ?_, fun i hi' => by simpa [hv_sI, fU, upd] using k10 i hi', fun i hi' => by simpa [hv_sI, fU, upd] using k11 i hi'⟩
      have q := k9 b hb
      rw [hv_sI_ne _ _ _ (by decide), hv_sI_ne _ _ _ (by decide), hv_sI_ne _ _ _ (by decide), hv_sI_rd, fU_ne _ _ _ (by decide), fU_ne _ _ _ (by decide), fU_ne _ _ _ (by decide), fU_at, q.2.2.2]
      exact ⟨q.1, q.2.1, q.2.2.1, rfl⟩
