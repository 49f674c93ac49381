/-! strip, turn, load -/
theorem op_strip {n : Nat} {F : Nat → Nat → Int32} {P B O D W : Nat} {σX σM : hv_St} (h : hR F P B O D W σX σM) : ∃ r σX' σM' F', mX7_strip n σX = some (r, σX') ∧ mX8_strip n σM = some (r, σM') ∧ hR F' P B O 0 W σX' σM' := by
  obtain ⟨hi, hx, hm⟩ := h
  have hm0 : rM F (hv_sI σM 0 0 0) := rM_sc hm (by decide) 0
  refine ⟨nI D, hv_sI σX 22 0 0, hv_sI (hv_sI σM 0 0 0) 0 13 0, fU F 0 13 0, ?_, ?_, ?_, ?_, rM_up hm0 (k := 0) (by decide) 13 0⟩
  · unfold mX7_strip
    simp only [hv_let_e]
    rw [hx.1.2.2.2.1, hi.2.2.2.1.1]
  · unfold mX8_strip
    simp only [hv_let_e]
    rw [hm0.1.2.2.2.1, hi.2.2.2.1.1]
  · obtain ⟨g1, g2, g3, g4, g5, g6, g7, g8, g9, g10, g11, g12⟩ := hi
    exact ⟨⟨by simp [fU, upd, g1.1], g1.2⟩, ⟨by simp [fU, upd, g2.1], g2.2⟩, ⟨by simp [fU, upd, g3.1], g3.2⟩, ⟨by simp [fU, upd]; rfl, Nat.zero_le _⟩, ⟨by simp [fU, upd, g5.1], g5.2⟩, fun p hp' => by simpa [fU, upd] using g6 p hp', fun b hb => by simpa [fU, upd] using g7 b hb, fun s hs => by simpa [fU, upd] using g8 s hs, fun p hp' => by simpa [fU, upd] using g9 p hp', fun i hi' => absurd hi' (by omega), fun i j hi' hj => absurd hi' (by omega), fun i hi' => by simpa [fU, upd] using g12 i hi'⟩
  · obtain ⟨⟨k1, k2, k3, k4, k5⟩, k6, k7, k8, k9, k10, k11⟩ := hx
    exact ⟨⟨by simp [hv_sI, fU, upd, k1], by simp [hv_sI, fU, upd, k2], by simp [hv_sI, fU, upd, k3], by simp [hv_sI, fU, upd], by simp [hv_sI, fU, upd, k5]⟩, fun p hp' => by simpa [hv_sI, fU, upd] using k6 p hp', fun s hs => by simpa [hv_sI, fU, upd] using k7 s hs, fun p w hp' hw => by simpa [hv_sI, fU, upd] using k8 p w hp' hw, fun b hb => by simpa [hv_sI, fU, upd] using k9 b hb, fun i hi' => by simpa [hv_sI, fU, upd] using k10 i hi', fun i hi' => by simpa [hv_sI, fU, upd] using k11 i hi'⟩
theorem nI_shl {k : Nat} (h : k < 31) : (1 : Int32) <<< (nI k &&& 31) = nI (2 ^ k) := by
  have : ∀ k : Fin 31, (1 : Int32) <<< (nI k.val &&& 31) = nI (2 ^ k.val) := by decide +kernel
  exact this ⟨k, h⟩
theorem nI_xor (a b : Nat) : nI a ^^^ nI b = nI (a ^^^ b) := by
  show Int32.ofNat a ^^^ Int32.ofNat b = Int32.ofNat (a ^^^ b)
  rw [← Int32.toBitVec_inj, Int32.toBitVec_xor, Int32.toBitVec_ofNat', Int32.toBitVec_ofNat', Int32.toBitVec_ofNat', BitVec.ofNat_xor]
/-- the set turned: another set of the same bars -/
theorem set_turn {B O k : Nat} (hO : O < 2 ^ B) (hk : k < B) (hB : B ≤ 11) : nI O ^^^ ((1 : Int32) <<< (nI k &&& 31)) = nI (O ^^^ 2 ^ k) ∧ O ^^^ 2 ^ k < 2 ^ B := by
  rw [nI_shl (by omega), nI_xor]
  exact ⟨rfl, Nat.xor_lt_two_pow hO (Nat.pow_lt_pow_right (by decide) hk)⟩
theorem op_turn {n : Nat} {F : Nat → Nat → Int32} {P B O D W : Nat} {σX σM : hv_St} (h : hR F P B O D W σX σM) (v w : Int32) (hw : w = 0 ∨ w = 1) : ∃ r σX' σM' F' O', mX7_turn n σX v w = some (r, σX') ∧ mX8_turn n σM v w = some (r, σM') ∧ hR F' P B O' D W σX' σM' := by
  obtain ⟨hi, hx, hm⟩ := h
  have hm0 : rM F (hv_sI σM 0 0 0) := rM_sc hm (by decide) 0
  have hB := hi.2.1
  have hB11 := hB.2
  have sX : σX.1 1 1 = nI B := hx.1.2.1.trans hB.1
  have sM : (hv_sI σM 0 0 0).1 0 6 = nI B := hm0.1.2.1.trans hB.1
  have oX : σX.1 1 2 = nI O := hx.1.2.2.1.trans hi.2.2.1.1
  have oM : (hv_sI σM 0 0 0).1 0 11 = nI O := hm0.1.2.2.1.trans hi.2.2.1.1
  have hgo : ∀ k, k < B → ∃ σX' σM' F' O', hv_sI σX 1 2 ((σX.1 1 2) ^^^ (((1 : Int32)) <<< ((nI k) &&& 31))) = σX' ∧ hv_sI (hv_sI σM 0 0 0) 0 11 (((hv_sI σM 0 0 0).1 0 11) ^^^ (((1 : Int32)) <<< ((nI k) &&& 31))) = σM' ∧ hR F' P B O' D W σX' σM' := fun k hk => by
    obtain ⟨t1, t2⟩ := set_turn hi.2.2.1.2 hk hB.2
    refine ⟨_, _, fU F 0 11 (nI (O ^^^ 2 ^ k)), O ^^^ 2 ^ k, rfl, rfl, ?_, ?_, ?_⟩
    · obtain ⟨g1, g2, g3, g4, g5, g6, g7, g8, g9, g10, g11, g12⟩ := hi
      exact ⟨⟨by simp [fU, upd, g1.1], g1.2⟩, ⟨by simp [fU, upd, g2.1], g2.2⟩, ⟨by simp [fU, upd], t2⟩, ⟨by simp [fU, upd, g4.1], g4.2⟩, ⟨by simp [fU, upd, g5.1], g5.2⟩, fun p hp' => by simpa [fU, upd] using g6 p hp', fun b hb => by simpa [fU, upd] using g7 b hb, fun s hs => by simpa [fU, upd] using g8 s hs, fun p hp' => by simpa [fU, upd] using g9 p hp', fun i hi' => by simpa [fU, upd] using g10 i hi', fun i j hi' hj => by simpa [fU, upd] using g11 i j hi' hj, fun i hi' => by simpa [fU, upd] using g12 i hi'⟩
    · rw [oX, t1]
      obtain ⟨⟨k1, k2, k3, k4, k5⟩, k6, k7, k8, k9, k10, k11⟩ := hx
      exact ⟨⟨by simp [hv_sI, fU, upd, k1], by simp [hv_sI, fU, upd, k2], by simp [hv_sI, fU, upd], by simp [hv_sI, fU, upd, k4], by simp [hv_sI, fU, upd, k5]⟩, fun p hp' => by simpa [hv_sI, fU, upd] using k6 p hp', fun s hs => by simpa [hv_sI, fU, upd] using k7 s hs, fun p w hp' hw => by simpa [hv_sI, fU, upd] using k8 p w hp' hw, fun b hb => by simpa [hv_sI, fU, upd] using k9 b hb, fun i hi' => by simpa [hv_sI, fU, upd] using k10 i hi', fun i hi' => by simpa [hv_sI, fU, upd] using k11 i hi'⟩
    · rw [oM, t1]
      exact rM_up hm0 (k := 0) (by decide) 11 _
  by_cases hv : fN B v
  · have hvc := hv
    obtain ⟨k, hk, e⟩ := hvc
    subst e
    obtain ⟨σX', σM', F', O', e1, e2, e3⟩ := hgo k hk
    by_cases hb : fB (nI O) (nI k)
    · have c1 := (x3_isOn (n := n) (by omega) sX (nI k)).1 ⟨hv, by rw [oX]; exact hb⟩
      have c2 := (r8_isOn (n := n) (σ := hv_sI σM 0 0 0) (nI O) (nI k)).1 hb
      rcases hw with rfl | rfl
      · refine ⟨1, σX', σM', F', O', ?_, ?_, e3⟩
        · unfold mX7_turn
          rw [(x3_isBar (by omega) sX (nI k)).1 hv, hv_b2_e, if_neg (by decide), c1, hv_b2_e, if_neg (by decide), hv_let_e, e1]
        · unfold mX8_turn
          rw [hv_let_e, (r8_isBar (by omega) sM (nI k)).1 hv, hv_b2_e, if_neg (by decide), ← e2, oM, c2, hv_b2_e, if_neg (by decide), hv_let_e, oM]
      · refine ⟨0, σX, hv_sI σM 0 0 0, F, O, ?_, ?_, hi, hx, hm0⟩
        · unfold mX7_turn
          rw [(x3_isBar (by omega) sX (nI k)).1 hv, hv_b2_e, if_neg (by decide), c1, hv_b2_e, if_pos rfl]
        · unfold mX8_turn
          rw [hv_let_e, (r8_isBar (by omega) sM (nI k)).1 hv, hv_b2_e, if_neg (by decide), oM, c2, hv_b2_e, if_pos rfl]
    · have c1 := (x3_isOn (n := n) (by omega) sX (nI k)).2 (fun q => hb (by rw [← oX]; exact q.2))
      have c2 := (r8_isOn (n := n) (σ := hv_sI σM 0 0 0) (nI O) (nI k)).2 hb
      rcases hw with rfl | rfl
      · refine ⟨0, σX, hv_sI σM 0 0 0, F, O, ?_, ?_, hi, hx, hm0⟩
        · unfold mX7_turn
          rw [(x3_isBar (by omega) sX (nI k)).1 hv, hv_b2_e, if_neg (by decide), c1, hv_b2_e, if_pos rfl]
        · unfold mX8_turn
          rw [hv_let_e, (r8_isBar (by omega) sM (nI k)).1 hv, hv_b2_e, if_neg (by decide), oM, c2, hv_b2_e, if_pos rfl]
      · refine ⟨1, σX', σM', F', O', ?_, ?_, e3⟩
        · unfold mX7_turn
          rw [(x3_isBar (by omega) sX (nI k)).1 hv, hv_b2_e, if_neg (by decide), c1, hv_b2_e, if_neg (by decide), hv_let_e, e1]
        · unfold mX8_turn
          rw [hv_let_e, (r8_isBar (by omega) sM (nI k)).1 hv, hv_b2_e, if_neg (by decide), ← e2, oM, c2, hv_b2_e, if_neg (by decide), hv_let_e, oM]
  · refine ⟨0, σX, hv_sI σM 0 0 0, F, O, ?_, ?_, hi, hx, hm0⟩
    · unfold mX7_turn
      rw [(x3_isBar (by omega) sX v).2 hv, hv_b2_e, if_pos rfl]
    · unfold mX8_turn
      rw [hv_let_e, (r8_isBar (by omega) sM v).2 hv, hv_b2_e, if_pos rfl]
