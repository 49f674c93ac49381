/-! count, of, at -/
theorem zX_zM {F : Nat → Nat → Int32} {P B S : Nat} {σ τ : hv_St} (h : zX F P B S σ) (q : zM F P B S τ) : σ.1 9 4 = nI (fN' F P) ∧ τ.1 0 18 = nI (fN' F P) ∧ σ.1 9 5 = nI (fBase F P (fBl S B)).length ∧ ∃ Eb Es, Eb < 2 ^ B ∧ Es < 2 ^ B ∧ σ.1 9 6 = nI Eb ∧ τ.1 0 20 = nI Eb ∧ σ.1 9 7 = nI Es ∧ τ.1 0 21 = nI Es ∧ (∀ b, Eb.testBit b = true ↔ b ∈ fBase F P (fBl S B)) ∧ ∀ b, Es.testBit b = true ↔ b ∈ fSp F P B S := by
  obtain ⟨A, e, ⟨-, -, -, -, -, h6, h7, -, -⟩, ⟨Eb, Es, s1, s2, s3, s4, s5, s6⟩, -⟩ := h
  obtain ⟨hfr, Eb', Es', r1, r2, r3, r4, r5, r6⟩ := q
  have e1 : Eb' = Eb := bit_ext (fun j => (r3 j).trans (s3 j).symm)
  have e2 : Es' = Es := bit_ext (fun j => (r6 j).trans (s6 j).symm)
  subst e1 e2
  exact ⟨h6, hfr.1, h7, Eb', Es', s2, s5, s1, r1, s4, r4, s3, fun b => (s6 b).trans fSp_mem.symm⟩
theorem hv_b2_id {τ : Type} (x : Option (τ × hv_St)) : (hv_b2 x fun r s => some (r, s)) = x := by
  cases x <;> rfl
theorem op_count {n : Nat} (hn : 200 ≤ n) {F : Nat → Nat → Int32} {P B O D W : Nat} {σX σM : hv_St} (h : hR F P B O D W σX σM) (v : Int32) : ∃ r σX' σM', mX7_count n σX v = some (r, σX') ∧ mX8_count n σM v = some (r, σM') ∧ hR F P B O D W σX' σM' := by
  obtain ⟨hi, hx, hm⟩ := h
  have hB := hi.2.1.2
  have hO := hi.2.2.1
  have o31 : O < 2 ^ 31 := by have := p2048 hB hO.2; omega
  have hm0 := rM0 hm
  have oX : σX.1 1 2 = nI O := hx.1.2.2.1.trans hO.1
  have oM : (hv_sI σM 0 0 0).1 0 11 = nI O := hm0.1.2.2.1.trans hO.1
  obtain ⟨τX, a1, a2, a3, a4⟩ := x0_settle (n := n) (by omega) hi o31 hx
  obtain ⟨τM, b1, b2, b3, b4, b5⟩ := r8_kindOf hn hi o31 hm0
  obtain ⟨σX', σM', K, l, t1, t2, t3, t4, t5, t6, t7⟩ := joints_both (n := n) (by omega) hi hx b2
  obtain ⟨z1, z2, z3, Eb, Es, y1, y2, z4, z5, z6, z7, z8, z9⟩ := zX_zM a4 b3
  have ek := x0_kind (n := n) hi a4
  have hm' := t4.1
  have q18 : σM'.1 0 18 = nI (fN' F P) := (t7 18 (by decide) (by decide)).trans z2
  have q20 : σM'.1 0 20 = nI Eb := (t7 20 (by decide) (by decide)).trans z5
  have q21 : σM'.1 0 21 = nI Es := (t7 21 (by decide) (by decide)).trans z7
  have e2 := p2048 hB y1
  have M : ∀ w, mX8_count n σM w = (if w = (0 : Int32) then (some (nI P, σM')) else (if w = (1 : Int32) then (some (nI B, σM')) else (if w = (2 : Int32) then (some (nI O, σM')) else (if w = (3 : Int32) then (some (nI (fN' F P), σM')) else (if w = (4 : Int32) then (some (nI (fKind F P B O), σM')) else (if w = (5 : Int32) then (some (nI Eb, σM')) else (if w = (6 : Int32) then (some (nI Es, σM')) else (if w = (7 : Int32) then some (nI (fN' F P) - nI (fBase F P (fBl O B)).length, σM') else (if w = (8 : Int32) then (some (nI D, σM')) else (if w = (9 : Int32) then (some (nI W, σM')) else (if w = (10 : Int32) then (some (nI K, σM')) else (some ((-1 : Int32), σM'))))))))))))) := fun w => by
    unfold mX8_count
    rw [hv_let_e, oM, b1, hv_b2_e, t2, hv_bd_e, hm'.1.1, hm'.1.2.1, hm'.1.2.2.1, q18, q20, q21, r8_bits (by omega) (by omega), hv_b2_e, hm'.1.2.2.2.1, hm'.1.2.2.2.2, t4.2.2.1, Eb_pc hB z8, hi.1.1, hi.2.1.1, hi.2.2.1.1, hi.2.2.2.1.1, hi.2.2.2.2.1.1]
  have C : ∀ w, kX7_count_115 n σX w = (if w = (3 : Int32) then (some (nI (fN' F P), τX)) else (if w = (4 : Int32) then some (nI (fKind F P B O), τX) else (if w = (5 : Int32) then (some (nI Eb, τX)) else (if w = (6 : Int32) then (some (nI Es, τX)) else (if w = (7 : Int32) then (some (nI (fN' F P) - nI (fBase F P (fBl O B)).length, τX)) else (some ((-1 : Int32), τX))))))) := fun w => by
    unfold kX7_count_115 mX7_countOfBalance
    rw [oX, a1, hv_bd_e, z1, ek, hv_b2_e, z4, z6, z3]
    exact hv_b2_id _
  have pX := hx.1.1.trans hi.1.1
  have bX := hx.1.2.1.trans hi.2.1.1
  have dX := hx.1.2.2.2.1.trans hi.2.2.2.1.1
  have wX := hx.1.2.2.2.2.trans hi.2.2.2.2.1.1
  by_cases c0 : v = 0
  · exact ⟨nI P, σX, σM', by unfold mX7_count; rw [if_pos c0, pX], by rw [M, if_pos c0], hi, hx, hm'⟩
  by_cases c1 : v = 1
  · exact ⟨nI B, σX, σM', by unfold mX7_count; rw [if_neg c0, if_pos c1, bX], by rw [M, if_neg c0, if_pos c1], hi, hx, hm'⟩
  by_cases c2 : v = 2
  · exact ⟨nI O, σX, σM', by unfold mX7_count; rw [if_neg c0, if_neg c1, if_pos c2, oX], by rw [M, if_neg c0, if_neg c1, if_pos c2], hi, hx, hm'⟩
  by_cases c3 : v = 3
  · exact ⟨nI (fN' F P), τX, σM', by unfold mX7_count; rw [if_neg c0, if_neg c1, if_neg c2, if_pos c3, C, if_pos c3], by rw [M, if_neg c0, if_neg c1, if_neg c2, if_pos c3], hi, a3, hm'⟩
  by_cases c4 : v = 4
  · exact ⟨nI (fKind F P B O), τX, σM', by unfold mX7_count; rw [if_neg c0, if_neg c1, if_neg c2, if_neg c3, if_pos c4, C, if_neg c3, if_pos c4], by rw [M, if_neg c0, if_neg c1, if_neg c2, if_neg c3, if_pos c4], hi, a3, hm'⟩
  by_cases c5 : v = 5
  · exact ⟨nI Eb, τX, σM', by unfold mX7_count; rw [if_neg c0, if_neg c1, if_neg c2, if_neg c3, if_neg c4, if_pos c5, C, if_neg c3, if_neg c4, if_pos c5], by rw [M, if_neg c0, if_neg c1, if_neg c2, if_neg c3, if_neg c4, if_pos c5], hi, a3, hm'⟩
  by_cases c6 : v = 6
  · exact ⟨nI Es, τX, σM', by unfold mX7_count; rw [if_neg c0, if_neg c1, if_neg c2, if_neg c3, if_neg c4, if_neg c5, if_pos c6, C, if_neg c3, if_neg c4, if_neg c5, if_pos c6], by rw [M, if_neg c0, if_neg c1, if_neg c2, if_neg c3, if_neg c4, if_neg c5, if_pos c6], hi, a3, hm'⟩
  by_cases c7 : v = 7
  · exact ⟨nI (fN' F P) - nI (fBase F P (fBl O B)).length, τX, σM', by unfold mX7_count; rw [if_neg c0, if_neg c1, if_neg c2, if_neg c3, if_neg c4, if_neg c5, if_neg c6, if_pos c7, C, if_neg c3, if_neg c4, if_neg c5, if_neg c6, if_pos c7], by rw [M, if_neg c0, if_neg c1, if_neg c2, if_neg c3, if_neg c4, if_neg c5, if_neg c6, if_pos c7], hi, a3, hm'⟩
  by_cases c8 : v = 8
  · exact ⟨nI D, σX, σM', by unfold mX7_count; rw [if_neg c0, if_neg c1, if_neg c2, if_neg c3, if_neg c4, if_neg c5, if_neg c6, if_neg c7, if_pos c8, dX], by rw [M, if_neg c0, if_neg c1, if_neg c2, if_neg c3, if_neg c4, if_neg c5, if_neg c6, if_neg c7, if_pos c8], hi, hx, hm'⟩
  by_cases c9 : v = 9
  · exact ⟨nI W, σX, σM', by unfold mX7_count; rw [if_neg c0, if_neg c1, if_neg c2, if_neg c3, if_neg c4, if_neg c5, if_neg c6, if_neg c7, if_neg c8, if_pos c9, wX], by rw [M, if_neg c0, if_neg c1, if_neg c2, if_neg c3, if_neg c4, if_neg c5, if_neg c6, if_neg c7, if_neg c8, if_pos c9], hi, hx, hm'⟩
  by_cases c10 : v = 10
  · exact ⟨nI K, σX', σM', by unfold mX7_count; rw [if_neg c0, if_neg c1, if_neg c2, if_neg c3, if_neg c4, if_neg c5, if_neg c6, if_neg c7, if_neg c8, if_neg c9, if_pos c10, t1, hv_bd_e, t3.2.2.1], by rw [M, if_neg c0, if_neg c1, if_neg c2, if_neg c3, if_neg c4, if_neg c5, if_neg c6, if_neg c7, if_neg c8, if_neg c9, if_pos c10], hi, t3.1, hm'⟩
  exact ⟨-1, τX, σM', by unfold mX7_count; rw [if_neg c0, if_neg c1, if_neg c2, if_neg c3, if_neg c4, if_neg c5, if_neg c6, if_neg c7, if_neg c8, if_neg c9, if_neg c10, C, if_neg c3, if_neg c4, if_neg c5, if_neg c6, if_neg c7], by rw [M, if_neg c0, if_neg c1, if_neg c2, if_neg c3, if_neg c4, if_neg c5, if_neg c6, if_neg c7, if_neg c8, if_neg c9, if_neg c10], hi, a3, hm'⟩
/-- a call that may throw: both do, or both answer alike -/
def hT {ρ : Type} (F : Nat → Nat → Int32) (P B O D W : Nat) (a : Option (Option ρ × hv_St)) (b : Option (ρ × hv_St)) : Prop := ∃ σX' σM', hR F P B O D W σX' σM' ∧ ((∃ r, a = some (some r, σX') ∧ b = some (r, σM') ∧ σM'.1 0 0 = 0) ∨ ∃ r, a = some (none, σX') ∧ b = some (r, σM') ∧ σM'.1 0 0 = 1)
theorem need_1 {n : Nat} {ρ : Type} {σ : hv_St} (k : Unit → hv_St → Option (Option ρ × hv_St)) : hv_bx (mX7_need n σ 1) k = k () σ := rfl
theorem need_0 {n : Nat} {ρ : Type} {σ : hv_St} (k : Unit → hv_St → Option (Option ρ × hv_St)) : hv_bx (mX7_need n σ 0) k = some (none, σ) := rfl
theorem r8_in5 {n : Nat} {σ : hv_St} (v : Int32) : (fN 6 v → mX8_in n σ v.toInt64 (0 : Int64) (5 : Int64) = some (1, σ)) ∧ (¬ fN 6 v → mX8_in n σ v.toInt64 (0 : Int64) (5 : Int64) = some (0, σ)) := by
  have hx : fN 6 v ↔ (0 : Int32) ≤ v ∧ v ≤ 5 := fN_in (N := 6) (by decide) v
  rw [show (0 : Int64) = (0 : Int32).toInt64 from rfl, show (5 : Int64) = (5 : Int32).toInt64 from rfl, r8_in32]
  exact ⟨fun h => by rw [if_pos (hx.mp h)], fun h => by rw [if_neg (fun q => h (hx.mpr q))]⟩
theorem held_sum : ∀ m : Fin 4, (if (nI m.val >>> nI 0) &&& 1 = 0 then (0 : Int32) else 1) + (if (nI m.val >>> nI 1) &&& 1 = 0 then (0 : Int32) else 2) = nI m.val := by decide +kernel
theorem r8_of_111 {n : Nat} {F : Nat → Nat → Int32} {P B O D W : Nat} (hi : hI F P B O D W) {σ : hv_St} (hm : rM F σ) {p : Nat} (hp : p < 2 ^ 31) : ∀ (d k fuel : Nat), k + d = B → d < fuel → kX8_of_111 n fuel σ (nI p) (nI (bset (jA F O p) k)) (nI k) = some (nI (bset (jA F O p) B), σ) := by
  have hB := hi.2.1.2
  have bM : σ.1 0 6 = nI B := hm.1.2.1.trans hi.2.1.1
  have oM : σ.1 0 11 = nI O := hm.1.2.2.1.trans hi.2.2.1.1
  have o31 := p2048 hB hi.2.2.1.2
  intro d
  induction d with
  | zero =>
    intro k fuel hk hf
    obtain ⟨fuel, rfl⟩ : ∃ q, fuel = q + 1 := ⟨fuel - 1, by omega⟩
    obtain rfl : k = B := by omega
    show kX8_of_111_b n _ _ _ _ _ = _
    unfold kX8_of_111_b
    rw [bM, if_pos (nI_le (Nat.le_refl _) (by omega))]
  | succ d ih =>
    intro k fuel hk hf
    obtain ⟨fuel, rfl⟩ : ∃ q, fuel = q + 1 := ⟨fuel - 1, by omega⟩
    have hb := fB_iff (s := O) (k := k) (by omega) (by omega)
    have st := bset_step (q := jA F O p) (k := k) (by omega)
    have e : kX8_of_111 n (fuel + 1) σ (nI p) (nI (bset (jA F O p) k)) (nI k) = kX8_of_111 n fuel σ (nI p) (nI (bset (jA F O p) (k + 1))) (nI (k + 1)) := by
      show kX8_of_111_b n _ _ _ _ _ = _
      unfold kX8_of_111_b kX8_of_162 kX8_of_155 kX8_of_163
      rw [bM, if_neg (nI_ge (by omega) (by omega)), oM]
      by_cases h : O.testBit k = true
      · rw [(r8_isOn _ _).1 (hb.mpr h), hv_b2_e, if_neg (by decide), hv_if_t (hv_ok_nI (show k < 11 by omega) (by decide)), hv_if_t (hv_ok_nI (show k < 11 by omega) (by decide)), nI_clamp (by omega), hm.2 5 (by decide) (by decide), hm.2 6 (by decide) (by decide), hv_let_e, hv_let_e, jAt_ends hi (by omega) hp, nI_1]
        by_cases c : jAt F p k = true
        · rw [if_pos c, st.1 (by unfold jA; rw [h, c]; rfl)]
        · rw [if_neg c, nI_or0, st.2 (by unfold jA; rw [h]; exact c)]
      · rw [(r8_isOn _ _).2 (fun q => h (hb.mp q)), hv_b2_e, if_pos rfl, hv_let_e, nI_1, nI_or0, st.2 (fun q => h (by
          unfold jA at q
          rw [Bool.and_eq_true] at q
          exact q.1))]
    rw [e]
    exact ih (k + 1) fuel (by omega) (by omega)
theorem op_of {n : Nat} (hn : 100 < n) {F : Nat → Nat → Int32} {P B O D W : Nat} {σX σM : hv_St} (h : hR F P B O D W σX σM) (v w : Int32) : hT F P B O D W (mX7_of n σX v w) (mX8_of n σM v w) := by
  obtain ⟨hi, hx, hm⟩ := h
  have hP := hi.1.2
  have hB := hi.2.1.2
  have pX : σX.1 1 0 = nI P := hx.1.1.trans hi.1.1
  have pM : σM.1 0 1 = nI P := hm.1.1.trans hi.1.1
  have m1 : rM F (hv_sI σM 0 0 1) := rM_sc hm (by decide) 1
  have m0 := rM0 hm
  have thr : (0 : Nat) ≠ 1 := by decide
  have e1 : (hv_sI σM 0 0 1).1 0 0 = 1 := by rw [hv_sI_rd, if_pos rfl]
  have e0 : (hv_sI σM 0 0 0).1 0 0 = 0 := by rw [hv_sI_rd, if_pos rfl]
  have no : kX8_of_25 n σM v w = some (0, hv_sI σM 0 0 1) := by
    unfold kX8_of_25 kX8_of_26
    rw [hv_let_e, e1, if_neg (by decide)]
  by_cases hv : fN P v
  · obtain ⟨p, hp, rfl⟩ := hv
    by_cases hw : fN 6 w
    · have go : ∀ r, mX7_of n σX (nI p) w = some (some r, σX) → kX8_of_26 n σM (nI p) w 0 = some (r, hv_sI σM 0 0 0) → hT F P B O D W (mX7_of n σX (nI p) w) (mX8_of n σM (nI p) w) := fun r h1 h2 => by
        refine ⟨σX, hv_sI σM 0 0 0, ⟨hi, hx, m0⟩, Or.inl ⟨r, h1, ?_, e0⟩⟩
        unfold mX8_of
        rw [(r8_isPin (by omega) pM (nI p)).1 ⟨p, hp, rfl⟩, hv_b2_e, if_neg (by decide), (r8_in5 w).1 hw, hv_b2_e, if_neg (by decide)]
        exact h2
      have C : mX7_of n σX (nI p) w = (fun (y8 : Unit) (s8 : hv_St) => if w = (0 : Int32) then (hv_if (hv_ok (((2 : Int32)) * (nI p)) 12) (some (some (s8.1 2 (((2 : Int32)) * (nI p)).toNatClampNeg), s8))) else (if w = (1 : Int32) then (hv_if (hv_ok ((((2 : Int32)) * (nI p)) + ((1 : Int32))) 12) (some (some (s8.1 2 ((((2 : Int32)) * (nI p)) + ((1 : Int32))).toNatClampNeg), s8))) else (if w = (2 : Int32) then (hv_if (hv_ok (((2 : Int32)) * (nI p)) 12) (some (some (s8.1 3 (((2 : Int32)) * (nI p)).toNatClampNeg), s8))) else (if w = (3 : Int32) then (hv_if (hv_ok ((((2 : Int32)) * (nI p)) + ((1 : Int32))) 12) (some (some (s8.1 3 ((((2 : Int32)) * (nI p)) + ((1 : Int32))).toNatClampNeg), s8))) else (if w = (4 : Int32) then (hv_if (hv_ok (((2 : Int32)) * (nI p)) 12) (if s8.1 4 (((2 : Int32)) * (nI p)).toNatClampNeg = 0 then (kX7_of_123 n s8 (nI p) ((0 : Int32))) else (kX7_of_123 n s8 (nI p) ((1 : Int32))))) else (if w = (5 : Int32) then (hv_b2 (mX3_barsAt n s8 (nI p)) fun r151 s151 => some (some (r151), s151)) else (some (none, s8))))))) ) () σX := by
        unfold mX7_of
        rw [(x3_isPin (by omega) pX (nI p)).1 ⟨p, hp, rfl⟩, hv_b2_e, need_1]
      have M : kX8_of_26 n σM (nI p) w 0 = (if w = (0 : Int32) then (hv_if (hv_ok (nI p) 6) (some (F 1 p, hv_sI σM 0 0 0))) else (if w = (1 : Int32) then (hv_if (hv_ok (nI p) 6) (some (F 2 p, hv_sI σM 0 0 0))) else (if w = (2 : Int32) then (kX8_of_86 n (hv_sI σM 0 0 0) (nI p) w) else (if w = (3 : Int32) then (kX8_of_86 n (hv_sI σM 0 0 0) (nI p) w) else (if w = (4 : Int32) then (hv_if (hv_ok (nI p) 6) (some (F 3 p, hv_sI σM 0 0 0))) else (kX8_of_111 n n (hv_sI σM 0 0 0) (nI p) ((0 : Int32)) ((0 : Int32)))))))) := by
        unfold kX8_of_26
        rw [hv_let_e, e0, if_pos (by decide), nI_clamp (by omega), m0.2 1 (by decide) (by decide), m0.2 2 (by decide) (by decide), m0.2 3 (by decide) (by decide)]
      have o6 : hv_ok (nI p) 6 = true := hv_ok_nI (by omega) (by decide)
      have oa : hv_ok ((2 : Int32) * nI p) 12 = true := by rw [nI_2]; exact hv_ok_nI (by omega) (by decide)
      have ob : hv_ok ((2 : Int32) * nI p + 1) 12 = true := by rw [nI_2, nI_1]; exact hv_ok_nI (by omega) (by decide)
      have ka : ((2 : Int32) * nI p).toNatClampNeg = 2 * p := by rw [nI_2]; exact nI_clamp (by omega)
      have kb : ((2 : Int32) * nI p + 1).toNatClampNeg = 2 * p + 1 := by rw [nI_2, nI_1]; exact nI_clamp (by omega)
      obtain ⟨j, hj, rfl⟩ := hw
      rcases (show j = 0 ∨ j = 1 ∨ j = 2 ∨ j = 3 ∨ j = 4 ∨ j = 5 by omega) with rfl | rfl | rfl | rfl | rfl | rfl
      · refine go (F 1 p) ?_ ?_
        · rw [C]
          dsimp only
          rw [if_pos (by decide), hv_if_t oa, ka, (hx.2.1 p (by omega)).1]
        · rw [M, if_pos (by decide), hv_if_t o6]
      · refine go (F 2 p) ?_ ?_
        · rw [C]
          dsimp only
          rw [if_neg (by decide), if_pos (by decide), hv_if_t ob, kb, (hx.2.1 p (by omega)).2]
        · rw [M, if_neg (by decide), if_pos (by decide), hv_if_t o6]
      · refine go (F 4 (2 * p)) ?_ ?_
        · rw [C]
          dsimp only
          rw [if_neg (by decide), if_neg (by decide), if_pos (by decide), hv_if_t oa, ka, hx.2.2.1 (2 * p) (by omega)]
        · rw [M, if_neg (by decide), if_neg (by decide), if_pos (by decide)]
          unfold kX8_of_86
          rw [nI_2, nI_add, show (2 : Int32) = nI 2 from rfl, pk_sub (by omega), show 2 * p + 2 - 2 = 2 * p by omega, hv_if_t (hv_ok_nI (show 2 * p < 12 by omega) (by decide)), nI_clamp (by omega), m0.2 4 (by decide) (by decide)]
      · refine go (F 4 (2 * p + 1)) ?_ ?_
        · rw [C]
          dsimp only
          rw [if_neg (by decide), if_neg (by decide), if_neg (by decide), if_pos (by decide), hv_if_t ob, kb, hx.2.2.1 (2 * p + 1) (by omega)]
        · rw [M, if_neg (by decide), if_neg (by decide), if_neg (by decide), if_pos (by decide)]
          unfold kX8_of_86
          rw [nI_2, nI_add, show (2 : Int32) = nI 2 from rfl, pk_sub (by omega), show 2 * p + 3 - 2 = 2 * p + 1 by omega, hv_if_t (hv_ok_nI (show 2 * p + 1 < 12 by omega) (by decide)), nI_clamp (by omega), m0.2 4 (by decide) (by decide)]
      · refine go (F 3 p) ?_ ?_
        · rw [C]
          dsimp only
          obtain ⟨m, hm4, em⟩ := hi.2.2.2.2.2.2.2.2.1 p (by omega)
          have s := held_sum ⟨m, hm4⟩
          have s' : (if (nI m >>> nI 0) &&& 1 = 0 then (0 : Int32) else 1) + (if (nI m >>> nI 1) &&& 1 = 0 then (0 : Int32) else 2) = nI m := s
          have h0 : σX.1 4 (2 * p) = (nI m >>> nI 0) &&& 1 := by rw [← em]; exact hx.2.2.2.1 p 0 (by omega) (by omega)
          have h1 : σX.1 4 (2 * p + 1) = (nI m >>> nI 1) &&& 1 := by rw [← em]; exact hx.2.2.2.1 p 1 (by omega) (by omega)
          rw [if_neg (by decide), if_neg (by decide), if_neg (by decide), if_neg (by decide), if_pos (by decide), hv_if_t oa, ka]
          unfold kX7_of_123
          rw [hv_if_t ob, kb, h0, h1, em]
          by_cases b0 : (nI m >>> nI 0) &&& 1 = 0
          · rw [if_pos b0]
            rw [if_pos b0] at s'
            by_cases b1 : (nI m >>> nI 1) &&& 1 = 0
            · rw [if_pos b1]; rw [if_pos b1] at s'; rw [s']
            · rw [if_neg b1]; rw [if_neg b1] at s'; rw [s']
          · rw [if_neg b0, hv_if_t ob]
            rw [if_neg b0] at s'
            by_cases b1 : (nI m >>> nI 1) &&& 1 = 0
            · rw [if_pos b1]; rw [if_pos b1] at s'; rw [s']
            · rw [if_neg b1]; rw [if_neg b1] at s'; rw [s']
        · rw [M, if_neg (by decide), if_neg (by decide), if_neg (by decide), if_neg (by decide), if_pos (by decide), hv_if_t o6]
      · refine go (nI (bset (jA F O p) B)) ?_ ?_
        · rw [C]
          dsimp only
          rw [if_neg (by decide), if_neg (by decide), if_neg (by decide), if_neg (by decide), if_neg (by decide), if_pos (by decide), show mX3_barsAt n σX (nI p) = some (nI (bset (jA F O p) B), σX) from x3_barsAt (n := n) hi hx (p := p) (by omega) B 0 n (by omega) (by omega), hv_b2_e]
        · rw [M, if_neg (by decide), if_neg (by decide), if_neg (by decide), if_neg (by decide), if_neg (by decide)]
          exact r8_of_111 hi m0 (by omega) B 0 n (by omega) (by omega)
    · refine ⟨σX, hv_sI σM 0 0 1, ⟨hi, hx, m1⟩, Or.inr ⟨0, ?_, ?_, e1⟩⟩
      · unfold mX7_of
        have nw : ∀ j, j < 6 → ¬ w = nI j := fun j hj q => hw ⟨j, hj, q⟩
        rw [(x3_isPin (by omega) pX (nI p)).1 ⟨p, hp, rfl⟩, hv_b2_e, need_1, if_neg (show ¬ w = (0 : Int32) from nw 0 (by decide)), if_neg (show ¬ w = (1 : Int32) from nw 1 (by decide)), if_neg (show ¬ w = (2 : Int32) from nw 2 (by decide)), if_neg (show ¬ w = (3 : Int32) from nw 3 (by decide)), if_neg (show ¬ w = (4 : Int32) from nw 4 (by decide)), if_neg (show ¬ w = (5 : Int32) from nw 5 (by decide))]
      · unfold mX8_of
        rw [(r8_isPin (by omega) pM (nI p)).1 ⟨p, hp, rfl⟩, hv_b2_e, if_neg (by decide), (r8_in5 w).2 hw, hv_b2_e, if_pos rfl, no]
  · refine ⟨σX, hv_sI σM 0 0 1, ⟨hi, hx, m1⟩, Or.inr ⟨0, ?_, ?_, e1⟩⟩
    · unfold mX7_of
      rw [(x3_isPin (by omega) pX v).2 hv, hv_b2_e, need_0]
    · unfold mX8_of
      rw [(r8_isPin (by omega) pM v).2 hv, hv_b2_e, if_pos rfl, no]
