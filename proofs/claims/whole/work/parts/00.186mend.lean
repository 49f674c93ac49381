/-! mend told -/
theorem x0_kind0 {n : Nat} {F : Nat → Nat → Int32} {P B O D W : Nat} (hi : hI F P B O D W) {τ : hv_St} {acc : List Nat} {A : Nat → md_V} {e : Int} {pr : Nat → Prop} (ht : tX F P B τ acc A e) (hs : sX B τ acc pr) : ∃ r, mX0_kindNumber n τ = some (r, τ) ∧ (acc.length < fN' F P → r = 0) ∧ (¬ acc.length < fN' F P → r ≠ 0) := by
  have hB := hi.2.1.2
  have hP := hi.1.2
  have hl : fN' F P ≤ 2 * P := fL_le F (2 * P)
  have eN : fN' F P = (fL F (2 * P)).length := rfl
  obtain ⟨-, -, -, h4, -, h6, h7, -, -⟩ := ht
  obtain ⟨Eb, Es, -, -, -, s4, s5, s6⟩ := hs
  have pE : pc Es ≤ B := pc_leB hB s5
  unfold mX0_kindNumber
  rw [h6, h7]
  by_cases c : acc.length < fN' F P
  · rw [if_neg (nI_ge (by omega) (by omega))]
    exact ⟨0, rfl, fun _ => rfl, fun q => absurd c q⟩
  · rw [if_pos (nI_le (by omega) (by omega)), s4, x_bitCount (p2048 hB s5), hv_b2_e, hv_let_e, show (1 : Int32) = nI 1 from rfl, nI_add]
    refine ⟨_, rfl, fun q => absurd q c, fun _ => ?_⟩
    by_cases c2 : nI (1 + pc Es) < (4 : Int32)
    · rw [if_pos c2]
      exact fun z => by
        have := (nI_0e (by omega)).mp z
        omega
    · rw [if_neg c2]
      decide
theorem r8_mend {n : Nat} (hn : 2100 ≤ n) {F : Nat → Nat → Int32} {P B O D W : Nat} (hi : hI F P B O D W) {U E : Nat} (hUB : U < 2 ^ B) (hEB : E < 2 ^ B) (hEU : andn E U = 0) (hfE : Fc F P B (O ||| E)) (hle : ∀ X, X < 2 ^ B → andn X U = 0 → Fc F P B (O ||| X) → E ≤ X ∧ pc E ≤ pc X) (v : Int32) : ∀ (d X fuel : Nat) (σ : hv_St), X + d = U + 1 → d < fuel → rM F σ → ∃ τ, kX8_mend_26 n fuel σ v (nI U) (if X ≤ E then -1 else nI E) (nI X) = some (if v = 0 then nI (pc E) else nI E, τ) ∧ rM F τ := by
  have hB := hi.2.1.2
  have hO := hi.2.2.1
  have u2 := p2048 hB hUB
  have e2 := p2048 hB hEB
  have E_le : E ≤ U := by
    have q : andn E U = E ^^^ (E &&& U) := rfl
    have r : E = E &&& U := by
      rw [hEU] at q
      exact Nat.eq_of_testBit_eq (fun j => by
        have := sub_iff.mp hEU j
        rw [Nat.testBit_and]
        cases x : E.testBit j
        · rfl
        · rw [this x]; rfl)
    rw [r]
    exact Nat.and_le_right
  intro d
  induction d with
  | zero =>
    intro X fuel σ h1 h2 hm
    obtain ⟨fuel, rfl⟩ : ∃ q, fuel = q + 1 := ⟨fuel - 1, by omega⟩
    refine ⟨σ, ?_, hm⟩
    show kX8_mend_26_b n _ _ _ _ _ _ = _
    unfold kX8_mend_26_b kX8_mend_90
    rw [if_pos (nI_lt (show U < X by omega) (by omega)), if_neg (show ¬ X ≤ E by omega), if_neg (nI_n1 (by omega)), r8_bits (n := n) (by omega) (by omega), hv_b2_e]
    by_cases v0 : v = 0
    · rw [if_pos v0, if_pos v0]
    · rw [if_neg v0, if_neg v0]
  | succ d ih =>
    intro X fuel σ h1 h2 hm
    obtain ⟨fuel, rfl⟩ : ∃ q, fuel = q + 1 := ⟨fuel - 1, by omega⟩
    have XU : X ≤ U := by omega
    have XB : X < 2 ^ B := by omega
    have oM : σ.1 0 11 = nI O := hm.1.2.2.1.trans hO.1
    have i0 := ih (X + 1) fuel
    have a0 : nI (andn X U) = 0 ↔ andn X U = 0 := nI_0e (by have := p2048 hB (andn_lt (b := U) XB); omega)
    have head : ∀ best, kX8_mend_26 n (fuel + 1) σ v (nI U) best (nI X) = if nI (andn X U) = 0 then (if best = (-1 : Int32) then (kX8_mend_58 n (kX8_mend_26 n fuel) σ v (nI U) best (nI X)) else (hv_b2 (mX8_bits n σ (nI X)) fun r48 s48 => hv_b2 (mX8_bits n s48 best) fun r52 s52 => if r52 ≤ r48 then (kX8_mend_75 n (kX8_mend_26 n fuel) s52 v (nI U) best (nI X)) else (kX8_mend_58 n (kX8_mend_26 n fuel) s52 v (nI U) best (nI X)))) else (kX8_mend_75 n (kX8_mend_26 n fuel) σ v (nI U) best (nI X)) := fun best => by
      show kX8_mend_26_b n _ _ _ _ _ _ = _
      unfold kX8_mend_26_b
      rw [if_neg (nI_nlt XU (by omega)), nI_andn]
    have e75 : ∀ s best, kX8_mend_75 n (kX8_mend_26 n fuel) s v (nI U) best (nI X) = kX8_mend_26 n fuel s v (nI U) best (nI (X + 1)) := fun s best => by
      unfold kX8_mend_75
      rw [nI_1]
    have hoX : O ||| X < 2 ^ B := Nat.or_lt_two_pow hO.2 XB
    obtain ⟨τ, t1, t2, -, -, -⟩ := r8_kindOf (n := n) (by omega) hi (show O ||| X < 2 ^ 31 by have := p2048 hB hoX; omega) hm
    have k4 := fKind_le F P B (O ||| X)
    have e58 : ∀ best, kX8_mend_58 n (kX8_mend_26 n fuel) σ v (nI U) best (nI X) = if nI (fKind F P B (O ||| X)) = 0 then kX8_mend_26 n fuel τ v (nI U) best (nI (X + 1)) else kX8_mend_26 n fuel τ v (nI U) (nI X) (nI (X + 1)) := fun best => by
      unfold kX8_mend_58
      rw [oM, nI_or, t1, hv_b2_e, e75, e75]
    by_cases sub : andn X U = 0
    · by_cases le : X ≤ E
      · rw [if_pos le, head, if_pos (a0.mpr sub), if_pos rfl, e58]
        by_cases k0 : fKind F P B (O ||| X) = 0
        · have ne : X ≠ E := fun q => (kind_0.mp k0) (by rw [q]; exact hfE)
          have q := i0 τ (by omega) (by omega) t2
          rw [if_pos (show X + 1 ≤ E by omega)] at q
          rw [k0, if_pos (show nI 0 = 0 from rfl)]
          exact q
        · have hf : Fc F P B (O ||| X) := Classical.byContradiction fun z => k0 (kind_0.mpr z)
          have eq : X = E := Nat.le_antisymm le (hle X XB sub hf).1
          have q := i0 τ (by omega) (by omega) t2
          rw [if_neg (show ¬ X + 1 ≤ E by omega)] at q
          rw [if_neg (fun z => k0 ((nI_0e (by omega)).mp z))]
          rw [← eq] at q ⊢
          exact q
      · have q := fun s hs => i0 s (by omega) (by omega) hs
        rw [if_neg (show ¬ X + 1 ≤ E by omega)] at q
        rw [if_neg le, head, if_pos (a0.mpr sub), if_neg (nI_n1 (by omega)), r8_bits (n := n) (by omega) (by omega), hv_b2_e, r8_bits (n := n) (by omega) (by omega), hv_b2_e]
        have pX := pc_leB hB XB
        have pE := pc_leB hB hEB
        by_cases c : pc E ≤ pc X
        · rw [if_pos (nI_le c (by omega)), e75]
          exact q σ hm
        · have nf : ¬ Fc F P B (O ||| X) := fun hf => c (hle X XB sub hf).2
          rw [if_neg (nI_ge (by omega) (by omega)), e58, kind_0.mpr nf, if_pos (show nI 0 = 0 from rfl)]
          exact q τ t2
    · have ne : X ≠ E := fun q => sub (by rw [q]; exact hEU)
      rw [head, if_neg (fun z => sub (a0.mp z)), e75]
      have q := i0 σ (by omega) (by omega) hm
      by_cases le : X ≤ E
      · rw [if_pos (show X + 1 ≤ E by omega)] at q
        rw [if_pos le]
        exact q
      · rw [if_neg (show ¬ X + 1 ≤ E by omega)] at q
        rw [if_neg le]
        exact q
theorem r8_mendNo {n : Nat} (hn : 2100 ≤ n) {F : Nat → Nat → Int32} {P B O D W : Nat} (hi : hI F P B O D W) {U : Nat} (hUB : U < 2 ^ B) (hno : ∀ X, X < 2 ^ B → andn X U = 0 → ¬ Fc F P B (O ||| X)) (v : Int32) : ∀ (d X fuel : Nat) (σ : hv_St), X + d = U + 1 → d < fuel → rM F σ → ∃ τ, kX8_mend_26 n fuel σ v (nI U) (-1) (nI X) = some (-1, τ) ∧ rM F τ := by
  have hB := hi.2.1.2
  have hO := hi.2.2.1
  have u2 := p2048 hB hUB
  intro d
  induction d with
  | zero =>
    intro X fuel σ h1 h2 hm
    obtain ⟨fuel, rfl⟩ : ∃ q, fuel = q + 1 := ⟨fuel - 1, by omega⟩
    refine ⟨σ, ?_, hm⟩
    show kX8_mend_26_b n _ _ _ _ _ _ = _
    unfold kX8_mend_26_b kX8_mend_90
    rw [if_pos (nI_lt (show U < X by omega) (by omega)), if_pos rfl]
  | succ d ih =>
    intro X fuel σ h1 h2 hm
    obtain ⟨fuel, rfl⟩ : ∃ q, fuel = q + 1 := ⟨fuel - 1, by omega⟩
    have XB : X < 2 ^ B := by omega
    have oM : σ.1 0 11 = nI O := hm.1.2.2.1.trans hO.1
    have i0 := ih (X + 1) fuel
    have a0 : nI (andn X U) = 0 ↔ andn X U = 0 := nI_0e (by have := p2048 hB (andn_lt (b := U) XB); omega)
    have hoX : O ||| X < 2 ^ B := Nat.or_lt_two_pow hO.2 XB
    obtain ⟨τ, t1, t2, -, -, -⟩ := r8_kindOf (n := n) (by omega) hi (show O ||| X < 2 ^ 31 by have := p2048 hB hoX; omega) hm
    by_cases sub : andn X U = 0
    · obtain ⟨υ, q1, q2⟩ := i0 τ (by omega) (by omega) t2
      refine ⟨υ, ?_, q2⟩
      rw [← q1]
      show kX8_mend_26_b n _ _ _ _ _ _ = _
      unfold kX8_mend_26_b kX8_mend_58 kX8_mend_75
      rw [if_neg (nI_nlt (show X ≤ U by omega) (by omega)), nI_andn, if_pos (a0.mpr sub), if_pos rfl, oM, nI_or, t1, hv_b2_e, kind_0.mpr (hno X XB sub), if_pos (show nI 0 = 0 from rfl), nI_1]
    · obtain ⟨υ, q1, q2⟩ := i0 σ (by omega) (by omega) hm
      refine ⟨υ, ?_, q2⟩
      rw [← q1]
      show kX8_mend_26_b n _ _ _ _ _ _ = _
      unfold kX8_mend_26_b kX8_mend_75
      rw [if_neg (nI_nlt (show X ≤ U by omega) (by omega)), nI_andn, if_neg (fun z => sub (a0.mp z)), nI_1]
theorem op_mend {n : Nat} (hn : 2100 ≤ n) {F : Nat → Nat → Int32} {P B O D W : Nat} {σX σM : hv_St} (h : hR F P B O D W σX σM) (v : Int32) : ∃ r σX' σM', mX7_mend n σX v = some (r, σX') ∧ mX8_mend n σM v = some (r, σM') ∧ hR F P B O D W σX' σM' := by
  obtain ⟨hi, hx, hm⟩ := h
  have hB := hi.2.1.2
  have hO := hi.2.2.1
  have o2 := p2048 hB hO.2
  have o31 : O < 2 ^ 31 := by omega
  have h2B : 2 ^ B ≤ 2048 := Nat.le_trans (Nat.pow_le_pow_right (by decide) hB) (by decide)
  have p1 : 1 ≤ 2 ^ B := Nat.one_le_two_pow
  have oX' : σX.1 1 2 = nI O := hx.1.2.2.1.trans hO.1
  have m1 := rM0 hm
  have bM : (hv_sI σM 0 0 0).1 0 6 = nI B := m1.1.2.1.trans hi.2.1.1
  have oM : (hv_sI σM 0 0 0).1 0 11 = nI O := m1.1.2.2.1.trans hO.1
  have hUB : andn (2 ^ B - 1) O < 2 ^ B := andn_lt (by omega)
  have hU : ∀ j, (andn (2 ^ B - 1) O).testBit j = true ↔ j < B ∧ ¬ O.testBit j = true := fun j => by
    rw [andn_bit, Nat.testBit_two_pow_sub_one, decide_eq_true_iff]
  have eU : (((1 : Int32) <<< (nI B &&& 31)) - 1) &&& (nI O ^^^ (-1)) = nI (andn (2 ^ B - 1) O) := by
    rw [nI_shl (by omega), show nI (2 ^ B) - (1 : Int32) = nI (2 ^ B - 1) from pk_sub p1, nI_andn]
  obtain ⟨τ1, x1, -, x3, A, e, ht, hs, -⟩ := x0_settle (n := n) (by omega) hi o31 hx
  obtain ⟨τ2, A', e', y1, y2, y3, y4⟩ := x0_extend (n := n) (by omega) hi (show andn (2 ^ B - 1) O < 2 ^ 31 by omega) x3 ht hs (fun j hj => ⟨fun q => ((hU j).mp hj).2 (fBase_mem q).2, fun q => ((hU j).mp hj).2 q.2⟩)
  have x4 : rX F τ2 := rX_fr x3 y2 (fun k hk => by unfold fA9 at hk; omega)
  obtain ⟨r, k1, k2, k3⟩ := x0_kind0 (n := n) hi y3 y4
  have bX1 : τ1.1 1 1 = nI B := x3.1.2.1.trans hi.2.1.1
  have oX1 : τ1.1 1 2 = nI O := x3.1.2.2.1.trans hO.1
  have oX2 : τ2.1 1 2 = nI O := x4.1.2.2.1.trans hO.1
  obtain ⟨Eb, Es, s1, s2, s3, -, -, -⟩ := y4
  have e7 : mX7_mend n σX v = if r = 0 then some (-1, τ2) else if v = 0 then some (nI (pc (andn Eb O)), τ2) else some (nI (andn Eb O), τ2) := by
    unfold mX7_mend
    rw [oX', x1, hv_bd_e, bX1, oX1, eU, y1, hv_bd_e, k1, hv_b2_e, s1, oX2, nI_andn, hv_let_e, x_bitCount (p2048 hB (andn_lt s2)), hv_b2_e]
  have e8 : mX8_mend n σM v = kX8_mend_26 n n (hv_sI σM 0 0 0) v (nI (andn (2 ^ B - 1) O)) (-1) 0 := by
    unfold mX8_mend
    rw [hv_let_e, bM, oM, eU, hv_let_e]
  have hE : ∀ j, (andn Eb O).testBit j = true ↔ j ∈ mG F P B O (andn (2 ^ B - 1) O) ∧ ¬ O.testBit j = true := fun j => by
    rw [andn_bit, s3 j]
    rfl
  have gl := mG_len F P B O (andn (2 ^ B - 1) O)
  by_cases c : (mG F P B O (andn (2 ^ B - 1) O)).length = fN' F P
  · have r0 : r ≠ 0 := k3 (by
      show ¬ (mG F P B O (andn (2 ^ B - 1) O)).length < fN' F P
      omega)
    have hEU : andn (andn Eb O) (andn (2 ^ B - 1) O) = 0 := sub_iff.mpr (fun j hj => (hU j).mpr ⟨(mG_mem ((hE j).mp hj).1).1, ((hE j).mp hj).2⟩)
    obtain ⟨τ, t1, t2⟩ := r8_mend (n := n) hn hi hUB (andn_lt s2) hEU (mG_full c hE) (fun X XB sub hf => ⟨mG_least hU hE sub XB (andn_lt s2) hf, mG_few hB c hU hE XB hf⟩) v (andn (2 ^ B - 1) O + 1) 0 n (hv_sI σM 0 0 0) (by omega) (by omega) m1
    rw [if_pos (Nat.zero_le _)] at t1
    refine ⟨if v = 0 then nI (pc (andn Eb O)) else nI (andn Eb O), τ2, τ, ?_, e8.trans t1, hi, x4, t2⟩
    rw [e7, if_neg r0]
    by_cases v0 : v = 0
    · rw [if_pos v0, if_pos v0]
    · rw [if_neg v0, if_neg v0]
  · have r0 : r = 0 := k2 (by
      show (mG F P B O (andn (2 ^ B - 1) O)).length < fN' F P
      omega)
    obtain ⟨τ, t1, t2⟩ := r8_mendNo (n := n) hn hi hUB (fun X _ sub hf => c (mG_no sub hf)) v (andn (2 ^ B - 1) O + 1) 0 n (hv_sI σM 0 0 0) (by omega) (by omega) m1
    refine ⟨-1, τ2, τ, ?_, e8.trans t1, hi, x4, t2⟩
    rw [e7, if_pos r0]
