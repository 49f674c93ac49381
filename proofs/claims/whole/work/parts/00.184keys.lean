/-! keys told -/
theorem r8_keys22 {n : Nat} (hn : 2100 ≤ n) {F : Nat → Nat → Int32} {P B O D W : Nat} (hi : hI F P B O D W) (q : Nat → Bool) (hq : ∀ b, b < B → (q b = true ↔ O.testBit b = true ∧ ¬ Fc F P B (andn O (2 ^ b)))) : ∀ (d b fuel : Nat) (σ : hv_St), b + d = B → d < fuel → rM F σ → ∃ τ, kX8_keys_22 n fuel σ (nI (bset q b)) (nI b) = some (nI (bset q B), τ) ∧ rM F τ := by
  have hB := hi.2.1.2
  have hO := hi.2.2.1
  have o2 := p2048 hB hO.2
  have o31 : O < 2 ^ 31 := by omega
  intro d
  induction d with
  | zero =>
    intro b fuel σ h1 h2 hm
    obtain ⟨fuel, rfl⟩ : ∃ q, fuel = q + 1 := ⟨fuel - 1, by omega⟩
    obtain rfl : b = B := by omega
    refine ⟨σ, ?_, hm⟩
    show kX8_keys_22_b n _ _ _ _ = _
    unfold kX8_keys_22_b
    rw [hm.1.2.1.trans hi.2.1.1, if_pos (nI_le (Nat.le_refl _) (by omega))]
  | succ d ih =>
    intro b fuel σ h1 h2 hm
    obtain ⟨fuel, rfl⟩ : ∃ q, fuel = q + 1 := ⟨fuel - 1, by omega⟩
    have hbB : b < B := by omega
    have bM : σ.1 0 6 = nI B := hm.1.2.1.trans hi.2.1.1
    have oM : σ.1 0 11 = nI O := hm.1.2.2.1.trans hO.1
    have fb := fB_iff (s := O) (k := b) o31 (by omega)
    have es : bset q (b + 1) = if q b = true then bset q b ||| 2 ^ b else bset q b := rfl
    by_cases c1 : O.testBit b = true
    · have a31 : andn O (2 ^ b) < 2 ^ 31 := Nat.lt_of_lt_of_le (andn_lt hO.2) (Nat.le_trans (Nat.pow_le_pow_right (by decide) hB) (by decide))
      obtain ⟨τ, t1, t2, -, -, -⟩ := r8_kindOf (n := n) (by omega) hi a31 hm
      have k4 := fKind_le F P B (andn O (2 ^ b))
      have ee : nI O &&& (((1 : Int32) <<< (nI b &&& 31)) ^^^ (-1)) = nI (andn O (2 ^ b)) := by rw [nI_shl (by omega), nI_andn]
      have st : kX8_keys_22 n (fuel + 1) σ (nI (bset q b)) (nI b) = if nI (fKind F P B (andn O (2 ^ b))) = 0 then kX8_keys_66 n (kX8_keys_22 n fuel) τ (nI b) (nI (2 ^ b)) (nI (bset q b)) else kX8_keys_65 n (kX8_keys_22 n fuel) τ (nI b) (nI (bset q b)) := by
        show kX8_keys_22_b n _ _ _ _ = _
        unfold kX8_keys_22_b
        rw [bM, if_neg (nI_ge hbB (by omega)), oM, (r8_isOn _ _).1 (fb.mpr c1), hv_b2_e, if_neg (by decide), oM, ee, t1, hv_b2_e, nI_shl (by omega)]
      rw [st]
      by_cases c2 : fKind F P B (andn O (2 ^ b)) = 0
      · have qb : q b = true := (hq b hbB).mpr ⟨c1, kind_0.mp c2⟩
        rw [c2, if_pos (show nI 0 = 0 from rfl)]
        unfold kX8_keys_66
        rw [nI_or, hv_let_e, nI_1]
        rw [if_pos qb] at es
        rw [← es]
        exact ih (b + 1) fuel τ (by omega) (by omega) t2
      · have qb : ¬ q b = true := fun z => c2 (kind_0.mpr ((hq b hbB).mp z).2)
        rw [if_neg (fun z => c2 ((nI_0e (by omega)).mp z))]
        unfold kX8_keys_65 kX8_keys_66
        rw [nI_or0, hv_let_e, nI_1]
        rw [if_neg qb] at es
        rw [← es]
        exact ih (b + 1) fuel τ (by omega) (by omega) t2
    · have qb : ¬ q b = true := fun z => c1 ((hq b hbB).mp z).1
      rw [if_neg qb] at es
      have st : kX8_keys_22 n (fuel + 1) σ (nI (bset q b)) (nI b) = kX8_keys_22 n fuel σ (nI (bset q b)) (nI (b + 1)) := by
        show kX8_keys_22_b n _ _ _ _ = _
        unfold kX8_keys_22_b kX8_keys_65 kX8_keys_66
        rw [bM, if_neg (nI_ge hbB (by omega)), oM, (r8_isOn _ _).2 (fun z => c1 (fb.mp z)), hv_b2_e, if_pos rfl, nI_or0, hv_let_e, nI_1]
      rw [st, ← es]
      exact ih (b + 1) fuel σ (by omega) (by omega) hm
noncomputable def kQ (F : Nat → Nat → Int32) (P B O b : Nat) : Bool := @decide (O.testBit b = true ∧ ¬ Fc F P B (andn O (2 ^ b))) (Classical.propDecidable _)
theorem kQ_iff {F : Nat → Nat → Int32} {P B O b : Nat} : kQ F P B O b = true ↔ O.testBit b = true ∧ ¬ Fc F P B (andn O (2 ^ b)) := @decide_eq_true_iff _ (Classical.propDecidable _)
theorem op_keys {n : Nat} (hn : 2100 ≤ n) {F : Nat → Nat → Int32} {P B O D W : Nat} {σX σM : hv_St} (h : hR F P B O D W σX σM) : ∃ r σX' σM', mX7_keys n σX = some (r, σX') ∧ mX8_keys n σM = some (r, σM') ∧ hR F P B O D W σX' σM' := by
  obtain ⟨hi, hx, hm⟩ := h
  have hB := hi.2.1.2
  have hP := hi.1.2
  have hlN : fN' F P ≤ 2 * P := fL_le F (2 * P)
  have hO := hi.2.2.1
  have o2 := p2048 hB hO.2
  have o31 : O < 2 ^ 31 := by omega
  have oX' : σX.1 1 2 = nI O := hx.1.2.2.1.trans hO.1
  have m1 := rM0 hm
  have oM : (hv_sI σM 0 0 0).1 0 11 = nI O := m1.1.2.2.1.trans hO.1
  have hle : (fBase F P (fBl O B)).length ≤ fN' F P := gr_len (N := fN' F P) (fBl O B)
  obtain ⟨τX, x1, x2, x3, A, e, ht, ⟨Eb, Es, s1, s2, s3, s4, s5, s6⟩, -⟩ := x0_settle (n := n) (by omega) hi o31 hx
  obtain ⟨s', q1, q2⟩ := x0_need (n := n) (by omega) hi x3 ht s4 s5 s6 (fBase F P (fBl O B)).length 0 n 0 (by omega) (by omega) (fun j => by
    rw [Nat.zero_testBit]
    exact ⟨fun z => absurd z (by decide), fun ⟨k, hk, _⟩ => absurd hk (Nat.not_lt_zero _)⟩)
  obtain ⟨τM, t1, t2, -, -, -⟩ := r8_kindOf (n := n) (by omega) hi o31 m1
  have k4 := fKind_le F P B O
  have e7 : mX7_keys n σX = some (if (fBase F P (fBl O B)).length = fN' F P then nI s' else 0, τX) := by
    unfold mX7_keys mX0_neededBars
    rw [oX', x1, hv_bd_e, show kX0_neededBars_4 n n τX (0 : Int32) (0 : Int32) = _ from q1, hv_b2_e]
  have e8 : mX8_keys n σM = if nI (fKind F P B O) = 0 then some (0, τM) else kX8_keys_22 n n τM 0 0 := by
    unfold mX8_keys
    rw [hv_let_e, oM, t1, hv_b2_e]
  by_cases c : (fBase F P (fBl O B)).length = fN' F P
  · have hf : Fc F P B O := Fc_iff.mpr c
    have k0 : ¬ nI (fKind F P B O) = 0 := fun z => kind_0.mp ((nI_0e (by omega)).mp z) hf
    obtain ⟨τ, r1, r2⟩ := r8_keys22 (n := n) hn hi (kQ F P B O) (fun b _ => kQ_iff) B 0 n τM (by omega) (by omega) t2
    have es : s' = bset (kQ F P B O) B := bit_ext (fun j => by
      rw [q2 j, bset_bit, kQ_iff]
      constructor
      · rintro ⟨k, hk, rfl, h0⟩
        have mk := fBase_mem (getD_mem hk)
        exact ⟨mk.1, mk.2, (need_iff ht c (by omega)).mpr h0⟩
      · rintro ⟨jB, jO, jn⟩
        by_cases jb : j ∈ fBase F P (fBl O B)
        · obtain ⟨k, hk, rfl⟩ := mem_getD jb
          exact ⟨k, hk, rfl, (need_iff ht c (by omega)).mp jn⟩
        · exact absurd (spare_full hf jb) jn)
    refine ⟨nI s', τX, τ, ?_, ?_, hi, x3, r2⟩
    · rw [e7, if_pos c]
    · rw [e8, if_neg k0, es]
      exact r1
  · have k0 : nI (fKind F P B O) = 0 := by rw [kind_0.mpr (fun z => c (Fc_iff.mp z))]; rfl
    refine ⟨0, τX, τM, ?_, ?_, hi, x3, t2⟩
    · rw [e7, if_neg c]
    · rw [e8, if_pos k0]
