/-! cut: the reference's sums -/
theorem r8_sumStep {n : Nat} {F : Nat → Nat → Int32} {P B O D W : Nat} (hi : hI F P B O D W) {S : Nat} (hS : S < 2 ^ P) {σ : hv_St} (hm : rM F σ) {i b : Nat} (hi3 : i < 3) (hb : b < B) (h20 : σ.1 20 i = nI b) (hcr : S.testBit (fA F b) ≠ S.testBit (fC F b)) (fuel : Nat) : kX8_laysSums_2 n (fuel + 1) σ (nI S) (nI i) = kX8_laysSums_2 n fuel (hv_sJ (hv_sJ (hv_sJ σ 21 (3 * i) (iL (cC F S b 0))) 21 (3 * i + 1) (iL (cC F S b 1))) 21 (3 * i + 2) (iL (cC F S b 2))) (nI S) (nI (i + 1)) := by
  have hP := hi.1.2
  have el := fE_lt hi S hb
  have en := r8_endIn (n := n) hi hS hm hb
  rw [if_neg hcr] at en
  have e0 : cC F S b 0 = fBr F b (fE F S b) 0 := if_pos rfl
  have e1 : cC F S b 1 = fBr F b (fE F S b) 1 := (if_neg (by decide)).trans (if_pos rfl)
  have e2 : cC F S b 2 = mom F (fE F S b) (fBr F b (fE F S b) 0) (fBr F b (fE F S b) 1) := (if_neg (by decide)).trans (if_neg (by decide))
  have b0 := fBr_le hi hb (fE F S b) 0
  have b1 := fBr_le hi hb (fE F S b) 1
  have x0 := fX_le hi el 0
  have x1 := fX_le hi el 1
  rw [if_pos rfl] at x0
  rw [if_neg (by decide)] at x1
  have r0 := r8_brings (n := n) hi hm hb (p := fE F S b) (w := 0) (by omega) (by decide)
  have r1 := r8_brings (n := n) hi (σ := hv_sJ σ 21 (3 * i) (iL (cC F S b 0))) (show rM F (hv_sJ σ 21 (3 * i) (iL (cC F S b 0))) from hm) hb (p := fE F S b) (w := 1) (by omega) (by decide)
  have c1 : σ.1 1 (fE F S b) = iI (fX F (fE F S b) 0) := (congrFun (hm.2 1 (by decide) (by decide)) _).trans (fX_I0 F _)
  have c2 : σ.1 2 (fE F S b) = iI (fX F (fE F S b) 1) := (congrFun (hm.2 2 (by decide) (by decide)) _).trans (fX_I1 F _)
  show kX8_laysSums_2_b n _ _ _ _ = _
  unfold kX8_laysSums_2_b
  rw [nI_3, if_neg (show ¬ (3 : Int32) ≤ nI i from nI_ge (b := 3) hi3 (by decide)), hv_if_t (hv_ok_nI hi3 (by decide)), nI_clamp (show i < 2 ^ 31 by omega), h20, en, hv_b2_e, hv_if_t (hv_ok_nI hi3 (by decide)), h20, show mX8_brings n σ (nI b) (nI (fE F S b)) (0 : Int32) = _ from r0, hv_b2_e, hv_if_t (hv_ok_nI (show 3 * i < 12 by omega) (by decide)), nI_clamp (show 3 * i < 2 ^ 31 by omega), iI_L ⟨by omega, by omega⟩, ← e0, hv_let_e, hv_if_t (hv_ok_nI hi3 (by decide))]
  have h20' : (hv_sJ σ 21 (3 * i) (iL (cC F S b 0))).1 20 i = nI b := h20
  rw [h20', show mX8_brings n (hv_sJ σ 21 (3 * i) (iL (cC F S b 0))) (nI b) (nI (fE F S b)) (1 : Int32) = _ from r1, hv_b2_e, nI_1, hv_if_t (hv_ok_nI (show 3 * i + 1 < 12 by omega) (by decide)), nI_clamp (show 3 * i + 1 < 2 ^ 31 by omega), iI_L ⟨by omega, by omega⟩, ← e1, hv_let_e, hv_if_t (hv_ok_nI (show fE F S b < 6 by omega) (by decide)), hv_if_t (hv_ok_nI (show 3 * i + 1 < 12 by omega) (by decide)), hv_if_t (hv_ok_nI (show fE F S b < 6 by omega) (by decide)), hv_if_t (hv_ok_nI (show 3 * i < 12 by omega) (by decide)), show nI (3 * i) + (2 : Int32) = nI (3 * i + 2) from nI_add _ 2, hv_if_t (hv_ok_nI (show 3 * i + 2 < 12 by omega) (by decide)), nI_clamp (show fE F S b < 2 ^ 31 by omega), nI_clamp (show 3 * i + 2 < 2 ^ 31 by omega), hv_sJ_rd _ 21 (3 * i + 1) (3 * i + 1), if_pos rfl, hv_sJ_rd _ 21 (3 * i + 1) (3 * i), if_neg (by omega), hv_sJ_rd _ 21 (3 * i) (3 * i), if_pos rfl]
  have c1' : (hv_sJ (hv_sJ σ 21 (3 * i) (iL (cC F S b 0))) 21 (3 * i + 1) (iL (cC F S b 1))).1 1 (fE F S b) = iI (fX F (fE F S b) 0) := c1
  have c2' : (hv_sJ (hv_sJ σ 21 (3 * i) (iL (cC F S b 0))) 21 (3 * i + 1) (iL (cC F S b 1))).1 2 (fE F S b) = iI (fX F (fE F S b) 1) := c2
  have e2' : fX F (fE F S b) 0 * cC F S b 1 - fX F (fE F S b) 1 * cC F S b 0 = cC F S b 2 := by
    rw [e2, e0, e1]
    rfl
  rw [c1', c2', iI_L (a := fX F (fE F S b) 0) ⟨by omega, by omega⟩, iI_L (a := fX F (fE F S b) 1) ⟨by omega, by omega⟩, iL_mul, iL_mul, iL_sub, e2', hv_let_e, nI_1]
theorem r8_load138 {n : Nat} {F : Nat → Nat → Int32} {P B O D W : Nat} (hi : hI F P B O D W) {S : Nat} (hS : S < 2 ^ P) : ∀ (d p fuel : Nat) (σ : hv_St), p + d = P → d < fuel → rM F σ → σ.2 21 9 = iL (-(lC F S p 0)) → σ.2 21 10 = iL (-(lC F S p 1)) → σ.2 21 11 = iL (-(lC F S p 2)) → ∃ τ, kX8_laysSums_138 n fuel σ (nI S) (nI p) = some τ ∧ τ.1 = σ.1 ∧ (∀ j, j < 9 → τ.2 21 j = σ.2 21 j) ∧ τ.2 21 9 = iL (-(lC F S P 0)) ∧ τ.2 21 10 = iL (-(lC F S P 1)) ∧ τ.2 21 11 = iL (-(lC F S P 2)) := by
  have hP := hi.1.2
  have s31 : S < 2 ^ 31 := Nat.lt_of_lt_of_le hS (Nat.pow_le_pow_right (by decide) (by omega))
  intro d
  induction d with
  | zero =>
    intro p fuel σ h1 h2 hm m0 m1 m2
    obtain ⟨fuel, rfl⟩ : ∃ q, fuel = q + 1 := ⟨fuel - 1, by omega⟩
    obtain rfl : p = P := by omega
    refine ⟨σ, ?_, rfl, fun _ _ => rfl, m0, m1, m2⟩
    show kX8_laysSums_138_b n _ _ _ _ = _
    unfold kX8_laysSums_138_b
    rw [hm.1.1.trans hi.1.1, if_pos (nI_le (Nat.le_refl _) (by omega))]
  | succ d ih =>
    intro p fuel σ h1 h2 hm m0 m1 m2
    obtain ⟨fuel, rfl⟩ : ∃ q, fuel = q + 1 := ⟨fuel - 1, by omega⟩
    have fb := fB_iff (s := S) (k := p) s31 (by omega)
    have pM : σ.1 0 1 = nI P := hm.1.1.trans hi.1.1
    have es : ∀ r, lC F S (p + 1) r = lC F S p r + if S.testBit p = true then lO F p r else 0 := fun _ => rfl
    by_cases c : S.testBit p = true
    · have l0 := ldz_e hi (show 2 * p < 12 by omega)
      have l1 := ldz_e hi (show 2 * p + 1 < 12 by omega)
      have c40 : σ.1 4 (2 * p) = iI (ldz F (2 * p)) := (congrFun (hm.2 4 (by decide) (by decide)) _).trans l0.1
      have c41 : σ.1 4 (2 * p + 1) = iI (ldz F (2 * p + 1)) := (congrFun (hm.2 4 (by decide) (by decide)) _).trans l1.1
      have c1 : σ.1 1 p = iI (fX F p 0) := (congrFun (hm.2 1 (by decide) (by decide)) _).trans (fX_I0 F _)
      have c2 : σ.1 2 p = iI (fX F p 1) := (congrFun (hm.2 2 (by decide) (by decide)) _).trans (fX_I1 F _)
      have mb := mom_bd hi (show p < P by omega) l0.2 l1.2
      have e0 : lO F p 0 = ldz F (2 * p) := if_pos rfl
      have e1 : lO F p 1 = ldz F (2 * p + 1) := (if_neg (by decide)).trans (if_pos rfl)
      have e2 : lO F p 2 = mom F p (ldz F (2 * p)) (ldz F (2 * p + 1)) := (if_neg (by decide)).trans (if_neg (by decide))
      obtain ⟨τ, t1, t2, t3, t4⟩ := ih (p + 1) fuel (hv_sJ (hv_sJ (hv_sJ σ 21 9 (iL (-(lC F S (p + 1) 0)))) 21 10 (iL (-(lC F S (p + 1) 1)))) 21 11 (iL (-(lC F S (p + 1) 2)))) (by omega) (by omega) hm (by rw [hv_sJ_rd, if_neg (by decide), hv_sJ_rd, if_neg (by decide), hv_sJ_rd, if_pos rfl]) (by rw [hv_sJ_rd, if_neg (by decide), hv_sJ_rd, if_pos rfl]) (by rw [hv_sJ_rd, if_pos rfl])
      refine ⟨τ, ?_, t2, fun j hj => by rw [t3 j hj, hv_sJ_rd, if_neg (by omega), hv_sJ_rd, if_neg (by omega), hv_sJ_rd, if_neg (by omega)], t4⟩
      rw [← t1]
      show kX8_laysSums_138_b n _ _ _ _ = _
      unfold kX8_laysSums_138_b kX8_laysSums_238
      have k9 : hv_ok (9 : Int32) 12 = true := rfl
      have k10 : hv_ok (10 : Int32) 12 = true := rfl
      have k11 : hv_ok (11 : Int32) 12 = true := rfl
      have z9 : (9 : Int32).toNatClampNeg = 9 := rfl
      have z10 : (10 : Int32).toNatClampNeg = 10 := rfl
      have z11 : (11 : Int32).toNatClampNeg = 11 := rfl
      have s0 : -(lC F S p 0) - ldz F (2 * p) = -(lC F S (p + 1) 0) := by rw [es, if_pos c, e0]; omega
      have s1 : -(lC F S p 1) - ldz F (2 * p + 1) = -(lC F S (p + 1) 1) := by rw [es, if_pos c, e1]; omega
      have s2 : -(lC F S p 2) - mom F p (ldz F (2 * p)) (ldz F (2 * p + 1)) = -(lC F S (p + 1) 2) := by rw [es, if_pos c, e2]; omega
      rw [pM, if_neg (nI_ge (by omega) (by omega)), (r8_isOn _ _).1 (fb.mpr c), hv_b2_e, if_neg (by decide), hv_if_t k9, nI_2, nI_ld, hv_if_t (hv_ok_nI (show 2 * p < 12 by omega) (by decide)), hv_if_t k9, z9, z10, z11, nI_clamp (show 2 * p < 2 ^ 31 by omega), nI_clamp (show 2 * p + 1 < 2 ^ 31 by omega), nI_clamp (show p < 2 ^ 31 by omega), m0, c40, iI_L ⟨by omega, by omega⟩, iL_sub, s0, hv_let_e, hv_if_t k10, hv_if_t (hv_ok_nI (show 2 * p + 1 < 12 by omega) (by decide)), hv_if_t k10, hv_sJ_rd, if_neg (by decide), m1]
      show (hv_let (hv_sJ _ 21 10 (iL (-(lC F S p 1)) - (σ.1 4 (2 * p + 1)).toInt64)) fun s193 => _) = _
      rw [c41, iI_L (a := ldz F (2 * p + 1)) ⟨by omega, by omega⟩, iL_sub, s1, hv_let_e, hv_if_t k11, hv_if_t (hv_ok_nI (show p < 6 by omega) (by decide)), hv_if_t (hv_ok_nI (show 2 * p + 1 < 12 by omega) (by decide)), hv_if_t (hv_ok_nI (show p < 6 by omega) (by decide)), hv_if_t (hv_ok_nI (show 2 * p < 12 by omega) (by decide)), hv_if_t k11, hv_sJ_rd, if_neg (by decide), hv_sJ_rd, if_neg (by decide), m2]
      show (hv_let (hv_sJ _ 21 11 (iL (-(lC F S p 2)) - (σ.1 1 p * σ.1 4 (2 * p + 1) - σ.1 2 p * σ.1 4 (2 * p)).toInt64)) fun s237 => _) = _
      rw [c1, c2, c40, c41, iI_mul, iI_mul, iI_sub]
      show (hv_let (hv_sJ _ 21 11 (iL (-(lC F S p 2)) - (iI (mom F p (ldz F (2 * p)) (ldz F (2 * p + 1)))).toInt64)) fun s237 => _) = _
      rw [iI_L ⟨by omega, by omega⟩, iL_sub, s2, hv_let_e, nI_1]
    · obtain ⟨τ, t1, t2⟩ := ih (p + 1) fuel σ (by omega) (by omega) hm (by rw [es, if_neg c, Int.add_zero]; exact m0) (by rw [es, if_neg c, Int.add_zero]; exact m1) (by rw [es, if_neg c, Int.add_zero]; exact m2)
      refine ⟨τ, ?_, t2⟩
      rw [← t1]
      show kX8_laysSums_138_b n _ _ _ _ = _
      unfold kX8_laysSums_138_b kX8_laysSums_238
      rw [pM, if_neg (nI_ge (by omega) (by omega)), (r8_isOn _ _).2 (fun z => c (fb.mp z)), hv_b2_e, if_pos rfl, nI_1]
