/-! at -/
theorem low_mask {k : Nat} (hk : k < 31) : ((1 : Int32) <<< (nI k &&& 31)) - 1 = nI (2 ^ k - 1) := by
  rw [nI_shl hk, show (1 : Int32) = nI 1 from rfl, pk_sub (Nat.two_pow_pos k)]
theorem op_at {n : Nat} (hn : 200 ≤ n) {F : Nat → Nat → Int32} {P B O D W : Nat} {σX σM : hv_St} (h : hR F P B O D W σX σM) (v w : Int32) : hT F P B O D W (mX7_at n σX v w) (mX8_at n σM v w) := by
  obtain ⟨hi, hx, hm⟩ := h
  have hB := hi.2.1.2
  have hO := hi.2.2.1
  have o31 : O < 2 ^ 31 := by have := p2048 hB hO.2; omega
  have bX : σX.1 1 1 = nI B := hx.1.2.1.trans hi.2.1.1
  have oX : σX.1 1 2 = nI O := hx.1.2.2.1.trans hO.1
  have bM : σM.1 0 6 = nI B := hm.1.2.1.trans hi.2.1.1
  have m1 : rM F (hv_sI σM 0 0 1) := rM_sc hm (by decide) 1
  have m0 := rM0 hm
  have oM : (hv_sI σM 0 0 0).1 0 11 = nI O := m0.1.2.2.1.trans hO.1
  have e1 : (hv_sI σM 0 0 1).1 0 0 = 1 := by rw [hv_sI_rd, if_pos rfl]
  have e0 : (hv_sI σM 0 0 0).1 0 0 = 0 := by rw [hv_sI_rd, if_pos rfl]
  have no : kX8_at_25 n σM v w = some (0, hv_sI σM 0 0 1) := by
    unfold kX8_at_25 kX8_at_26
    rw [hv_let_e, e1, if_neg (by decide)]
  by_cases hv : fN B v
  · obtain ⟨b, hb, rfl⟩ := hv
    have q := hx.2.2.2.2.1 b (by omega)
    have fb := fB_iff (s := O) (k := b) o31 (by omega)
    by_cases hw : fN 6 w
    · have go : ∀ r τX τM, rX F τX → rM F τM → τM.1 0 0 = 0 → mX7_at n σX (nI b) w = some (some r, τX) → kX8_at_26 n σM (nI b) w 0 = some (r, τM) → hT F P B O D W (mX7_at n σX (nI b) w) (mX8_at n σM (nI b) w) := fun r τX τM hx' hm' h0 h1 h2 => by
        refine ⟨τX, τM, ⟨hi, hx', hm'⟩, Or.inl ⟨r, h1, ?_, h0⟩⟩
        unfold mX8_at
        rw [(r8_isBar (by omega) bM (nI b)).1 ⟨b, hb, rfl⟩, hv_b2_e, if_neg (by decide), (r8_in5 w).1 hw, hv_b2_e, if_neg (by decide)]
        exact h2
      have o11 : hv_ok (nI b) 11 = true := hv_ok_nI (by omega) (by decide)
      have kb : (nI b).toNatClampNeg = b := nI_clamp (by omega)
      have C : ∀ o, (fun (y8 : Unit) (s8 : hv_St) => if w = (0 : Int32) then (hv_if (hv_ok (nI b) 11) (some (some (s8.1 5 (nI b).toNatClampNeg), s8))) else (if w = (1 : Int32) then (hv_if (hv_ok (nI b) 11) (some (some (s8.1 6 (nI b).toNatClampNeg), s8))) else (if w = (2 : Int32) then (hv_if (hv_ok (nI b) 11) (some (some (s8.1 7 (nI b).toNatClampNeg), s8))) else (if w = (3 : Int32) then (hv_if (hv_ok (nI b) 11) (some (some (s8.1 8 (nI b).toNatClampNeg), s8))) else (if w = (4 : Int32) then (hv_b2 (mX3_isOn n s8 (nI b)) fun r97 s97 => if r97 = 0 then (some (some ((0 : Int32)), s97)) else (some (some ((1 : Int32)), s97))) else (if w = (5 : Int32) then (hv_bd (mX0_settle n s8 (s8.1 1 2)) fun s120 => hv_b2 (mX0_spareNumber n s120 (nI b)) fun r128 s128 => some (some (r128), s128)) else (some (none, s8)))))))) () σX = o → mX7_at n σX (nI b) w = o := fun o ho => by
        rw [← ho]
        unfold mX7_at
        rw [(x3_isBar (by omega) bX (nI b)).1 ⟨b, hb, rfl⟩, hv_b2_e, need_1]
      have M : kX8_at_26 n σM (nI b) w 0 = (if w = (0 : Int32) then (hv_if (hv_ok (nI b) 11) (some (F 5 b, hv_sI σM 0 0 0))) else (if w = (1 : Int32) then (hv_if (hv_ok (nI b) 11) (some (F 6 b, hv_sI σM 0 0 0))) else (if w = (2 : Int32) then (hv_if (hv_ok (nI b) 11) (some (F 7 b, hv_sI σM 0 0 0))) else (if w = (3 : Int32) then (hv_if (hv_ok (nI b) 11) (some (F 8 b, hv_sI σM 0 0 0))) else (if w = (4 : Int32) then (some (nI (if O.testBit b = true then 1 else 0), hv_sI σM 0 0 0)) else (mX8_spareNumber n (hv_sI σM 0 0 0) (nI b))))))) := by
        unfold kX8_at_26
        rw [hv_let_e, e0, if_pos (by decide), kb, m0.2 5 (by decide) (by decide), m0.2 6 (by decide) (by decide), m0.2 7 (by decide) (by decide), m0.2 8 (by decide) (by decide), oM, nI_bit o31 (by omega), hv_b2_id]
      obtain ⟨j, hj, rfl⟩ := hw
      rcases (show j = 0 ∨ j = 1 ∨ j = 2 ∨ j = 3 ∨ j = 4 ∨ j = 5 by omega) with rfl | rfl | rfl | rfl | rfl | rfl
      · refine go (F 5 b) σX _ hx m0 e0 (C _ ?_) ?_
        · dsimp only
          rw [if_pos (by decide), hv_if_t o11, kb, q.1]
        · rw [M, if_pos (by decide), hv_if_t o11]
      · refine go (F 6 b) σX _ hx m0 e0 (C _ ?_) ?_
        · dsimp only
          rw [if_neg (by decide), if_pos (by decide), hv_if_t o11, kb, q.2.1]
        · rw [M, if_neg (by decide), if_pos (by decide), hv_if_t o11]
      · refine go (F 7 b) σX _ hx m0 e0 (C _ ?_) ?_
        · dsimp only
          rw [if_neg (by decide), if_neg (by decide), if_pos (by decide), hv_if_t o11, kb, q.2.2.1]
        · rw [M, if_neg (by decide), if_neg (by decide), if_pos (by decide), hv_if_t o11]
      · refine go (F 8 b) σX _ hx m0 e0 (C _ ?_) ?_
        · dsimp only
          rw [if_neg (by decide), if_neg (by decide), if_neg (by decide), if_pos (by decide), hv_if_t o11, kb, q.2.2.2]
        · rw [M, if_neg (by decide), if_neg (by decide), if_neg (by decide), if_pos (by decide), hv_if_t o11]
      · refine go (nI (if O.testBit b = true then 1 else 0)) σX _ hx m0 e0 (C _ ?_) ?_
        · dsimp only
          rw [if_neg (by decide), if_neg (by decide), if_neg (by decide), if_neg (by decide), if_pos (by decide)]
          by_cases ho : O.testBit b = true
          · rw [(x3_isOn (by omega) bX (nI b)).1 ⟨⟨b, hb, rfl⟩, by rw [oX]; exact fb.mpr ho⟩, hv_b2_e, if_neg (by decide), if_pos ho]
            rfl
          · rw [(x3_isOn (by omega) bX (nI b)).2 (fun z => ho (fb.mp (by rw [← oX]; exact z.2))), hv_b2_e, if_pos rfl, if_neg ho]
            rfl
        · rw [M, if_neg (by decide), if_neg (by decide), if_neg (by decide), if_neg (by decide), if_pos (by decide)]
      · obtain ⟨τX, a1, a2, a3, a4⟩ := x0_settle (n := n) (by omega) hi o31 hx
        obtain ⟨τM, b1, b2, b3, b4, b5⟩ := r8_laysBase hn hi o31 m0
        obtain ⟨z1, z2, z3, Eb, Es, y1, y2, z4, z5, z6, z7, z8, z9⟩ := zX_zM a4 b3
        have y3 := p2048 hB y2
        have fs := fB_iff (s := Es) (k := b) (by omega) (by omega)
        have am : Es &&& (2 ^ b - 1) < 2048 := Nat.lt_of_le_of_lt Nat.and_le_left y3
        have h0 : τM.1 0 0 = 0 := (b5 0 (by decide) (by decide) (by decide)).trans e0
        refine go (if Es.testBit b = true then nI (pc (Es &&& (2 ^ b - 1))) else -1) τX τM a3 b2 h0 (C _ ?_) ?_
        · dsimp only
          rw [if_neg (by decide), if_neg (by decide), if_neg (by decide), if_neg (by decide), if_neg (by decide), if_pos (by decide), oX, a1, hv_bd_e]
          unfold mX0_spareNumber
          rw [z6]
          by_cases ho : Es.testBit b = true
          · rw [(x7_has _ _).1 (fs.mpr ho), hv_b2_e, if_neg (by decide), z6, low_mask (by omega), nI_and, x_bitCount am, hv_b2_e, hv_b2_e, if_pos ho]
          · rw [(x7_has _ _).2 (fun z => ho (fs.mp z)), hv_b2_e, if_pos rfl, hv_b2_e, if_neg ho]
        · rw [M, if_neg (by decide), if_neg (by decide), if_neg (by decide), if_neg (by decide), if_neg (by decide)]
          unfold mX8_spareNumber
          rw [oM, b1, hv_bd_e, z7]
          by_cases ho : Es.testBit b = true
          · rw [(r8_isOn _ _).1 (fs.mpr ho), hv_b2_e, if_neg (by decide), z7, low_mask (by omega), nI_and, r8_bits (by omega) (by omega), hv_b2_e, if_pos ho]
          · rw [(r8_isOn _ _).2 (fun z => ho (fs.mp z)), hv_b2_e, if_pos rfl, if_neg ho]
    · refine ⟨σX, hv_sI σM 0 0 1, ⟨hi, hx, m1⟩, Or.inr ⟨0, ?_, ?_, e1⟩⟩
      · unfold mX7_at
        have nw : ∀ j, j < 6 → ¬ w = nI j := fun j hj q => hw ⟨j, hj, q⟩
        rw [(x3_isBar (by omega) bX (nI b)).1 ⟨b, hb, rfl⟩, hv_b2_e, need_1, if_neg (show ¬ w = (0 : Int32) from nw 0 (by decide)), if_neg (show ¬ w = (1 : Int32) from nw 1 (by decide)), if_neg (show ¬ w = (2 : Int32) from nw 2 (by decide)), if_neg (show ¬ w = (3 : Int32) from nw 3 (by decide)), if_neg (show ¬ w = (4 : Int32) from nw 4 (by decide)), if_neg (show ¬ w = (5 : Int32) from nw 5 (by decide))]
      · unfold mX8_at
        rw [(r8_isBar (by omega) bM (nI b)).1 ⟨b, hb, rfl⟩, hv_b2_e, if_neg (by decide), (r8_in5 w).2 hw, hv_b2_e, if_pos rfl, no]
  · refine ⟨σX, hv_sI σM 0 0 1, ⟨hi, hx, m1⟩, Or.inr ⟨0, ?_, ?_, e1⟩⟩
    · unfold mX7_at
      rw [(x3_isBar (by omega) bX v).2 hv, hv_b2_e, need_0]
    · unfold mX8_at
      rw [(r8_isBar (by omega) bM v).2 hv, hv_b2_e, if_pos rfl, no]
