/-! the pulls balance -/
theorem slot_k {F : Nat → Nat → Int32} {P s : Nat} (hs : s < 2 * P) (hf : fFree F s = true) : ∃ k, k < fN' F P ∧ (fL F (2 * P)).getD k 0 = s := mem_getD (List.mem_filter.mpr ⟨List.mem_range.mpr hs, hf⟩)
theorem off_0 {F : Nat → Nat → Int32} {P B S : Nat} {z : Nat → Int} {c : Nat} (h : ¬ S.testBit c = true) (x : Int) : oSum F P B S z c * x = 0 := by rw [oS_off h, Int.zero_mul]
theorem Q_bal36 {n : Nat} (hn : 2100 ≤ n) {F : Nat → Nat → Int32} {P B O D W : Nat} (hi : hI F P B O D W) {τ : hv_St} (ht : tF F P B O τ) (hf : fFirm F P B O) {r2 : hv_St → hv_St → Int32 → Option (hv_St × hv_St)} {r12 : hv_St → hv_St → Int32 → Int32 → Option (hv_St × hv_St)} {p q : Nat} (hp : p < P) (hq : q < 2) : ∀ (d b fuel : Nat) (σ : hv_St), b + d = B → d < fuel → rX F σ → ∃ σ', rX F σ' ∧ kQ_isBalance_36 n r2 r12 fuel σ τ (nI p) (nI q) (frQ (ldz F (2 * p + q) * uSum F P B O + sumK (fun j => oSum F P B O (ldz F) j * fBr F j p q) b) (uSum F P B O)) (nI b) = r12 σ' τ (nI p) (nI q + 1) := by
  have hB := hi.2.1.2
  have hP := hi.1.2
  have hO := hi.2.2.1.2
  have o31 : O < 2 ^ 31 := by have := p2048 hB hO; omega
  intro d
  induction d with
  | zero =>
    intro b fuel σ hb hfu hx
    obtain ⟨fuel, rfl⟩ : ∃ q, fuel = q + 1 := ⟨fuel - 1, by omega⟩
    obtain rfl : b = B := by omega
    obtain ⟨A, e, hA, hd, he, hD, hm, hpc⟩ := frm hi hx hf
    have hup := uS_pos hi hO hA hd hm hpc
    have hpcB := pc_leB hB hO
    have ub := uS_bd hi hO hm hpc (by omega)
    have ur : rL (uSum F P b O) := rL_of (Nat.le_trans ub (by decide))
    show ∃ σ', rX F σ' ∧ kQ_isBalance_36_b n r2 r12 _ σ τ (nI p) (nI q) _ (nI b) = r12 σ' τ (nI p) (nI q + 1)
    unfold kQ_isBalance_36_b
    rw [ht.1.2.1, if_pos (nI_le (Nat.le_refl _) (by omega)), hv_if_t (hv_ok_nI (show p < 6 by omega) (by decide)), nI_clamp (by omega)]
    by_cases fr : fFree F (2 * p + q) = true
    · obtain ⟨k, hk, ek⟩ := slot_k (show 2 * p + q < 2 * P by omega) fr
      have ob := o_bal hB hO hA hd hm hpc (ldz F) hk
      have ec : ∀ j, fCol F P j k = fBr F j p q := fun j => by
        show fBr F j ((fL F (2 * P)).getD k 0 / 2) ((fL F (2 * P)).getD k 0 % 2) = _
        rw [ek, show (2 * p + q) / 2 = p by omega, show (2 * p + q) % 2 = q by omega]
      have eo : fCo F P (ldz F) k = -(ldz F (2 * p + q)) := by
        show -(ldz F ((fL F (2 * P)).getD k 0)) = _
        rw [ek]
      have e0 : ldz F (2 * p + q) * uSum F P b O + sumK (fun j => oSum F P b O (ldz F) j * fBr F j p q) b = 0 := by
        rw [eo] at ob
        rw [show (fun j => oSum F P b O (ldz F) j * fBr F j p q) = fun j => oSum F P b O (ldz F) j * fCol F P j k from funext fun j => by rw [ec], ob]
        grind
      refine ⟨σ, hx, ?_⟩
      rw [(l_held (n := n) hi ht hp hq hv_0).1 fr, hv_b2_e, (xp_force hn hi hx hp hq).1 fr, hv_b2_e, hv_ox_n, if_pos rfl, e0, if_pos ((lg_cmp0 _ _).mpr frQ_0)]
      rfl
    · obtain ⟨σ', x', f'⟩ := (xp_force hn hi hx hp hq).2 fr hf
      refine ⟨σ', x', ?_⟩
      have fe : fcN F P b O p q = -(ldz F (2 * p + q) * uSum F P b O + sumK (fun j => oSum F P b O (ldz F) j * fBr F j p q) b) := rfl
      have sb : (sumK (fun j => oSum F P b O (ldz F) j * fBr F j p q) b).natAbs ≤ b * 432345564227567616 := sumK_bd b (fun j hj => by
        have br := fBr_le hi hj p q
        rw [Int.natAbs_mul]
        exact Nat.mul_le_mul (oS_bd hi hO hm hpc (by omega) (fun s hs => (ldz_e hi hs).2) j) (show (fBr F j p q).natAbs ≤ 3 by omega))
      have lb : (ldz F (2 * p + q) * uSum F P b O).natAbs ≤ 9 * 2 ^ 52 := by
        rw [Int.natAbs_mul]
        exact Nat.mul_le_mul (ldz_e hi (show 2 * p + q < 12 by omega)).2 ub
      have b11 : b * 432345564227567616 ≤ 11 * 432345564227567616 := Nat.mul_le_mul_right _ hB
      have fr2 : rL (fcN F P b O p q) := by
        rw [fe]
        have := Int.natAbs_add_le (ldz F (2 * p + q) * uSum F P b O) (sumK (fun j => oSum F P b O (ldz F) j * fBr F j p q) b)
        exact ⟨by omega, by omega⟩
      rw [(l_held (n := n) hi ht hp hq hv_0).2 fr, hv_b2_e, f', hv_b2_e, hv_ox_s, if_neg (by decide), fr_least (n := n) (by omega) fr2 ur (by omega), hv_bd_e, if_neg (by decide), fr_plus (n := n) (by omega) hup ur (by rw [fe, Int.add_right_neg]; exact ⟨by decide, by decide⟩), hv_bd_e, fe, Int.add_right_neg, if_pos ((lg_cmp0 _ _).mpr frQ_0)]
      rfl
  | succ d ih =>
    intro b fuel σ hb hfu hx
    obtain ⟨fuel, rfl⟩ : ∃ q, fuel = q + 1 := ⟨fuel - 1, by omega⟩
    have hbB : b < B := by omega
    by_cases hon : O.testBit b = true
    · obtain ⟨A, e, hA, hd, he, hD, hm, hpc⟩ := frm hi hx hf
      have hup := uS_pos hi hO hA hd hm hpc
      have hpcB := pc_leB hB hO
      have ub := uS_bd hi hO hm hpc (by omega)
      have ur : rL (uSum F P B O) := rL_of (Nat.le_trans ub (by decide))
      have ob := fun j => oS_bd hi hO hm hpc (by omega) (fun s hs => (ldz_e hi hs).2) j
      obtain ⟨σ', x', p'⟩ := xp_pull hn hi hx hbB hon hf
      have br := fBr_le hi hbB p q
      have or1 : rL (oSum F P B O (ldz F) b) := rL_of (Nat.le_trans (ob b) (by decide))
      have nb : (oSum F P B O (ldz F) b * fBr F b p q).natAbs ≤ 432345564227567616 := by
        rw [Int.natAbs_mul]
        exact Nat.mul_le_mul (ob b) (show (fBr F b p q).natAbs ≤ 3 by omega)
      have sb : (sumK (fun j => oSum F P B O (ldz F) j * fBr F j p q) (b + 1)).natAbs ≤ (b + 1) * 432345564227567616 := sumK_bd (b + 1) (fun j hj => by
        have br := fBr_le hi (show j < B by omega) p q
        rw [Int.natAbs_mul]
        exact Nat.mul_le_mul (ob j) (show (fBr F j p q).natAbs ≤ 3 by omega))
      have lb : (ldz F (2 * p + q) * uSum F P B O).natAbs ≤ 9 * 2 ^ 52 := by
        rw [Int.natAbs_mul]
        exact Nat.mul_le_mul (ldz_e hi (show 2 * p + q < 12 by omega)).2 ub
      have b11 : (b + 1) * 432345564227567616 ≤ 11 * 432345564227567616 := Nat.mul_le_mul_right _ (by omega)
      have sr : rL (ldz F (2 * p + q) * uSum F P B O + sumK (fun j => oSum F P B O (ldz F) j * fBr F j p q) (b + 1)) := by
        have := Int.natAbs_add_le (ldz F (2 * p + q) * uSum F P B O) (sumK (fun j => oSum F P B O (ldz F) j * fBr F j p q) (b + 1))
        exact ⟨by omega, by omega⟩
      have tm : mQ_times n (frQ (oSum F P B O (ldz F) b) (uSum F P B O)) ((iL (fBr F b p q), (1 : Int64))) = some (frQ (oSum F P B O (ldz F) b * fBr F b p q) (uSum F P B O)) := by
        rw [← frQ_1]
        exact fr_times (n := n) (by omega) hup (by decide) hup or1 ur ⟨by omega, by omega⟩ ⟨by decide, by decide⟩ ⟨by omega, by omega⟩ ur (by grind)
      obtain ⟨σ2, x2, y2⟩ := ih (b + 1) fuel σ' (by omega) (by omega) x'
      refine ⟨σ2, x2, ?_⟩
      show kQ_isBalance_36_b n r2 r12 _ σ τ (nI p) (nI q) _ (nI b) = _
      unfold kQ_isBalance_36_b kQ_isBalance_85
      rw [ht.1.2.1, if_neg (nI_ge hbB (by omega)), ht.1.2.2.1, (l_isOn n hv_0 o31 (show b < 31 by omega)).1 hon, hv_b2_e, if_neg (by decide), p', hv_b2_e, hv_ox_s, l_brings (n := n) hi ht hbB hp hq, hv_b2_e, iI_L ⟨by omega, by omega⟩, tm, hv_bd_e, fr_plus (n := n) (by omega) hup ur (by
        rw [Int.add_assoc]
        exact sr), hv_bd_e, nI_1, Int.add_assoc]
      exact y2
    · obtain ⟨σ2, x2, y2⟩ := ih (b + 1) fuel σ (by omega) (by omega) hx
      refine ⟨σ2, x2, ?_⟩
      show kQ_isBalance_36_b n r2 r12 _ σ τ (nI p) (nI q) _ (nI b) = _
      unfold kQ_isBalance_36_b kQ_isBalance_85
      rw [ht.1.2.1, if_neg (nI_ge hbB (by omega)), ht.1.2.2.1, (l_isOn n hv_0 o31 (show b < 31 by omega)).2 hon, hv_b2_e, if_pos rfl, nI_1]
      rw [sumK_s] at y2
      rw [off_0 hon, Int.add_zero] at y2
      exact y2
theorem Q_bal12 {n : Nat} (hn : 2100 ≤ n) {F : Nat → Nat → Int32} {P B O D W : Nat} (hi : hI F P B O D W) {τ : hv_St} (ht : tF F P B O τ) (hf : fFirm F P B O) {r2 : hv_St → hv_St → Int32 → Option (hv_St × hv_St)} {p : Nat} (hp : p < P) : ∀ (d q fuel : Nat) (σ : hv_St), q + d = 2 → d < fuel → rX F σ → ∃ σ', rX F σ' ∧ kQ_isBalance_12 n r2 fuel σ τ (nI p) (nI q) = r2 σ' τ (nI (p + 1)) := by
  have hB := hi.2.1.2
  have hP := hi.1.2
  intro d
  induction d with
  | zero =>
    intro q fuel σ hq hfu hx
    obtain ⟨fuel, rfl⟩ : ∃ q, fuel = q + 1 := ⟨fuel - 1, by omega⟩
    obtain rfl : q = 2 := by omega
    refine ⟨σ, hx, ?_⟩
    show kQ_isBalance_12_b n r2 _ σ τ (nI p) (nI 2) = _
    unfold kQ_isBalance_12_b
    rw [if_pos (by decide), nI_1]
  | succ d ih =>
    intro q fuel σ hq hfu hx
    obtain ⟨fuel, rfl⟩ : ∃ q, fuel = q + 1 := ⟨fuel - 1, by omega⟩
    have hq2 : q < 2 := by omega
    obtain ⟨A, e, hA, hd, he, hD, hm, hpc⟩ := frm hi hx hf
    have hup := uS_pos hi hi.2.2.1.2 hA hd hm hpc
    obtain ⟨σ', x', y'⟩ := Q_bal36 hn hi ht hf (r2 := r2) (r12 := kQ_isBalance_12 n r2 fuel) hp hq2 B 0 12 σ (Nat.zero_add _) (by omega) hx
    obtain ⟨σ2, x2, y2⟩ := ih (q + 1) fuel σ' (by omega) (by omega) x'
    refine ⟨σ2, x2, ?_⟩
    show kQ_isBalance_12_b n r2 _ σ τ (nI p) (nI q) = _
    unfold kQ_isBalance_12_b
    have ix : (2 : Int32) * nI p + nI q = nI (2 * p + q) := by rw [nI_2, nI_add]
    rw [if_neg (show ¬ (2 : Int32) ≤ nI q from nI_ge (b := 2) hq2 (by decide)), ix, hv_if_t (hv_ok_nI (show 2 * p + q < 12 by omega) (by decide)), nI_clamp (by omega), l_ld hi ht (by omega), ← frQ_1]
    rw [sumK_z, Int.add_zero] at y'
    rw [show frQ (ldz F (2 * p + q)) 1 = frQ (ldz F (2 * p + q) * uSum F P B O) (uSum F P B O) from frQ_eq (by decide) (by omega) (by grind)]
    rw [show (0 : Int32) = nI 0 from rfl, y', nI_1]
    exact y2
theorem Q_isBalance {n : Nat} (hn : 2100 ≤ n) {F : Nat → Nat → Int32} {P B O D W : Nat} (hi : hI F P B O D W) (hP5 : P ≤ 5) {σ τ : hv_St} (hx : rX F σ) (ht : tF F P B O τ) (hf : fFirm F P B O) : ∃ σ', rX F σ' ∧ mQ_isBalance n σ τ = some (σ', τ) := by
  have hB := hi.2.1.2
  have hP := hi.1.2
  have key : ∀ (d p fuel : Nat) (σ : hv_St), p + d = P → d < fuel → rX F σ → ∃ σ', rX F σ' ∧ kQ_isBalance_2 n fuel σ τ (nI p) = some (σ', τ) := by
    intro d
    induction d with
    | zero =>
      intro p fuel σ hp hfu hx
      obtain ⟨fuel, rfl⟩ : ∃ q, fuel = q + 1 := ⟨fuel - 1, by omega⟩
      obtain rfl : p = P := by omega
      refine ⟨σ, hx, ?_⟩
      show kQ_isBalance_2_b n _ σ τ (nI p) = _
      unfold kQ_isBalance_2_b
      rw [ht.1.1, if_pos (nI_le (Nat.le_refl _) (by omega))]
    | succ d ih =>
      intro p fuel σ hp hfu hx
      obtain ⟨fuel, rfl⟩ : ∃ q, fuel = q + 1 := ⟨fuel - 1, by omega⟩
      obtain ⟨σ', x', y'⟩ := Q_bal12 hn hi ht hf (r2 := kQ_isBalance_2 n fuel) (show p < P by omega) 2 0 3 σ rfl (by decide) hx
      obtain ⟨σ2, x2, y2⟩ := ih (p + 1) fuel σ' (by omega) (by omega) x'
      refine ⟨σ2, x2, ?_⟩
      show kQ_isBalance_2_b n _ σ τ (nI p) = _
      unfold kQ_isBalance_2_b
      rw [ht.1.1, if_neg (nI_ge (by omega) (by omega)), show (0 : Int32) = nI 0 from rfl, y']
      exact y2
  exact key P 0 6 σ (Nat.zero_add _) (by omega) hx
