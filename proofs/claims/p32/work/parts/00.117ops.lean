theorem op_alter {n : Nat} {F : Nat → Nat → Int32} {P B O D W : Nat} {σX σM : hv_St} (h : hR F P B O D W σX σM) (v w x : Int32) : ∃ r σX' σM' F', mX7_alter n σX v w x = some (r, σX') ∧ mX8_alter n σM v w x = some (r, σM') ∧ hR F' P B O D W σX' σM' := by
  obtain ⟨hi, hx, hm⟩ := h
  have hm0 : rM F (hv_sI σM 0 0 0) := rM_sc hm (by decide) 0
  have h0 : hR F P B O D W σX (hv_sI σM 0 0 0) := ⟨hi, hx, hm0⟩
  have hB := hi.2.1
  have hB11 := hB.2
  have sX : σX.1 1 1 = nI B := hx.1.2.1.trans hB.1
  have sM : (hv_sI σM 0 0 0).1 0 6 = nI B := hm0.1.2.1.trans hB.1
  by_cases hv : fN B v
  · have hvc := hv
    obtain ⟨k, hk, e⟩ := hvc
    subst e
    have hk11 : hv_ok (nI k) 11 = true := hv_ok_nI (by omega) (by decide)
    have kc : (nI k).toNatClampNeg = k := nI_clamp (by omega)
    have q := hx.2.2.2.2.1 k (by omega)
    have m7 : (hv_sI σM 0 0 0).1 7 k = F 7 k := by rw [hm0.2 7 (by decide) (by decide)]
    have m8 : (hv_sI σM 0 0 0).1 8 k = F 8 k := by rw [hm0.2 8 (by decide) (by decide)]
    by_cases hw : w = 0
    · by_cases hg : fRg 3 x
      · by_cases he : F 7 k = x
        · refine ⟨0, σX, hv_sI σM 0 0 0, F, ?_, ?_, h0⟩
          · unfold mX7_alter
            rw [(x3_isBar (by omega) sX (nI k)).1 hv, hv_b2_e, if_neg (by decide), if_pos hw, if_pos hw, (x7_isGive x).1 hg, hv_b2_e, if_neg (by decide), hv_if_t hk11, kc, if_pos (q.2.2.1.trans he)]
          · unfold mX8_alter kX8_alter_29 kX8_alter_54
            rw [hv_let_e, (r8_isBar (by omega) sM (nI k)).1 hv, hv_b2_e, if_neg (by decide), if_pos hw]
            rw [show (3 : Int64) = (nI 3).toInt64 from rfl, show (1 : Int64) = (1 : Int32).toInt64 from rfl, (r8_inR 3 x).1 hg, hv_b2_e, if_neg (by decide), if_pos hw, hv_if_t hk11, kc, if_pos (m7.trans he)]
        · refine ⟨1, hv_sI σX 7 k x, hv_sI (hv_sI σM 0 0 0) 7 k x, fU F 7 k x, ?_, ?_, hR_num h0 hk (Or.inl ⟨rfl, hg⟩)⟩
          · unfold mX7_alter
            rw [(x3_isBar (by omega) sX (nI k)).1 hv, hv_b2_e, if_neg (by decide), if_pos hw, if_pos hw, (x7_isGive x).1 hg, hv_b2_e, if_neg (by decide), hv_if_t hk11, kc, if_neg (fun e => he (q.2.2.1.symm.trans e)), hv_if_t hk11, hv_let_e]
          · unfold mX8_alter kX8_alter_29 kX8_alter_54
            rw [hv_let_e, (r8_isBar (by omega) sM (nI k)).1 hv, hv_b2_e, if_neg (by decide), if_pos hw]
            rw [show (3 : Int64) = (nI 3).toInt64 from rfl, show (1 : Int64) = (1 : Int32).toInt64 from rfl, (r8_inR 3 x).1 hg, hv_b2_e, if_neg (by decide), if_pos hw, hv_if_t hk11, kc, if_neg (fun e => he (m7.symm.trans e)), if_pos hw, hv_if_t hk11, hv_let_e]
      · refine ⟨0, σX, hv_sI σM 0 0 0, F, ?_, ?_, h0⟩
        · unfold mX7_alter
          rw [(x3_isBar (by omega) sX (nI k)).1 hv, hv_b2_e, if_neg (by decide), if_pos hw, if_pos hw, (x7_isGive x).2 hg, hv_b2_e, if_pos rfl]
        · unfold mX8_alter kX8_alter_29
          rw [hv_let_e, (r8_isBar (by omega) sM (nI k)).1 hv, hv_b2_e, if_neg (by decide), if_pos hw]
          rw [show (3 : Int64) = (nI 3).toInt64 from rfl, show (1 : Int64) = (1 : Int32).toInt64 from rfl, (r8_inR 3 x).2 hg, hv_b2_e, if_pos rfl]
    · by_cases hg : fRg 999 x
      · have l1 : ¬ x < (1 : Int32) := Int32.not_lt.mpr hg.1
        have l2 : ¬ (999 : Int32) < x := Int32.not_lt.mpr hg.2
        by_cases he : F 8 k = x
        · refine ⟨0, σX, hv_sI σM 0 0 0, F, ?_, ?_, h0⟩
          · unfold mX7_alter
            rw [(x3_isBar (by omega) sX (nI k)).1 hv, hv_b2_e, if_neg (by decide), if_neg hw, if_neg hw, if_neg l1, if_neg l2, hv_if_t hk11, kc, if_pos (q.2.2.2.trans he)]
          · unfold mX8_alter kX8_alter_29 kX8_alter_54
            rw [hv_let_e, (r8_isBar (by omega) sM (nI k)).1 hv, hv_b2_e, if_neg (by decide), if_neg hw]
            rw [show (999 : Int64) = (nI 999).toInt64 from rfl, show (1 : Int64) = (1 : Int32).toInt64 from rfl, (r8_inR 999 x).1 hg, hv_b2_e, if_neg (by decide), if_neg hw, hv_if_t hk11, kc, if_pos (m8.trans he)]
        · refine ⟨1, hv_sI σX 8 k x, hv_sI (hv_sI σM 0 0 0) 8 k x, fU F 8 k x, ?_, ?_, hR_num h0 hk (Or.inr ⟨rfl, hg⟩)⟩
          · unfold mX7_alter
            rw [(x3_isBar (by omega) sX (nI k)).1 hv, hv_b2_e, if_neg (by decide), if_neg hw, if_neg hw, if_neg l1, if_neg l2, hv_if_t hk11, kc, if_neg (fun e => he (q.2.2.2.symm.trans e)), hv_if_t hk11, hv_let_e]
          · unfold mX8_alter kX8_alter_29 kX8_alter_54
            rw [hv_let_e, (r8_isBar (by omega) sM (nI k)).1 hv, hv_b2_e, if_neg (by decide), if_neg hw]
            rw [show (999 : Int64) = (nI 999).toInt64 from rfl, show (1 : Int64) = (1 : Int32).toInt64 from rfl, (r8_inR 999 x).1 hg, hv_b2_e, if_neg (by decide), if_neg hw, hv_if_t hk11, kc, if_neg (fun e => he (m8.symm.trans e)), if_neg hw, hv_if_t hk11, hv_let_e]
      · refine ⟨0, σX, hv_sI σM 0 0 0, F, ?_, ?_, h0⟩
        · unfold mX7_alter
          rw [(x3_isBar (by omega) sX (nI k)).1 hv, hv_b2_e, if_neg (by decide), if_neg hw, if_neg hw]
          by_cases l1 : x < (1 : Int32)
          · rw [if_pos l1]
          · rw [if_neg l1, if_pos (show (999 : Int32) < x from Int32.not_le.mp (fun l2 => hg ⟨Int32.not_lt.mp l1, l2⟩))]
        · unfold mX8_alter kX8_alter_29
          rw [hv_let_e, (r8_isBar (by omega) sM (nI k)).1 hv, hv_b2_e, if_neg (by decide), if_neg hw]
          rw [show (999 : Int64) = (nI 999).toInt64 from rfl, show (1 : Int64) = (1 : Int32).toInt64 from rfl, (r8_inR 999 x).2 hg, hv_b2_e, if_pos rfl]
  · refine ⟨0, σX, hv_sI σM 0 0 0, F, ?_, ?_, h0⟩
    · unfold mX7_alter
      rw [(x3_isBar (by omega) sX v).2 hv, hv_b2_e, if_pos rfl]
    · unfold mX8_alter
      rw [hv_let_e, (r8_isBar (by omega) sM v).2 hv, hv_b2_e, if_pos rfl]
