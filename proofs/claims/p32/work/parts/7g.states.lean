/-! the states hang together -/
def ia : Nat → Int32
  | 0 => -1
  | k + 1 => nI k
theorem ia_s (k : Nat) : ia k + 1 = ia (k + 1) := by
  cases k with
  | zero => decide
  | succ k => exact nI_1 k
noncomputable def stN (F : Nat → Nat → Int32) (P B O : Nat) (A : Nat → md_V) (e : Int) (k b : Nat) : Int := if k = 0 then vV F P B O A e (ldz F) b else uU F P B O A e (k - 1) b
def gd (F : Nat → Nat → Int32) (P B O Eb Es : Nat) (A : Nat → md_V) (e : Int) : Prop := fSe F P B O Eb Es ∧ zF F P B O A ∧ md_dt (fR F P) A (fN' F P) ≠ 0 ∧ (e = 1 ∨ e = -1) ∧ 0 < e * md_dt (fR F P) A (fN' F P) ∧ (fSp F P B O).length ≤ 2 ∧ pc O = fN' F P + (fSp F P B O).length ∧ (∃ c1 c2, gW F B c1 c2) ∧ fN' F P ≤ 7 ∧ B ≤ 9 ∧ fFirm F P B O
theorem gd_bd {F : Nat → Nat → Int32} {P B O D W Eb Es : Nat} (hi : hI F P B O D W) {A : Nat → md_V} {e : Int} (h : gd F P B O Eb Es A e) : (e * md_dt (fR F P) A (fN' F P)).natAbs ≤ 25600 ∧ 0 < uSum F P B O ∧ (uSum F P B O).natAbs ≤ 477757440000 ∧ (∀ c, (oSum F P B O (ldz F) c).natAbs ≤ 12899450880000) ∧ (∀ b, (vV F P B O A e (ldz F) b).natAbs ≤ 691200) ∧ ∀ i b, i < (fSp F P B O).length → (uU F P B O A e i b).natAbs ≤ 25600 := by
  obtain ⟨hE, hA, hd, he, hD, hm, hpc, ⟨c1, c2, hW⟩, hN, hB9, hf⟩ := h
  have hO := hi.2.2.1.2
  have hz : ∀ s, s < 12 → (ldz F s).natAbs ≤ 9 := fun s hs => (ldz_e hi hs).2
  refine ⟨?_, uS_pos hi hO hA hd hm hpc, Nat.le_trans (u_25 hi hW hN hB9 hO hm hpc) (by decide), fun c => Nat.le_trans (o_25 hi hW hN hB9 hO hm hpc hz c) (by decide), fun b => V_25 hi hW hN hE hA he hz b, fun i b hil => U_25 hW hN hE hA he hil b⟩
  rw [natAbs_pm he]
  exact D_25 hW hN hE hA
theorem stN_bd {F : Nat → Nat → Int32} {P B O D W Eb Es : Nat} (hi : hI F P B O D W) {A : Nat → md_V} {e : Int} (h : gd F P B O Eb Es A e) {k : Nat} (hk : k ≤ (fSp F P B O).length) (b : Nat) : (stN F P B O A e k b).natAbs ≤ 691200 := by
  obtain ⟨-, -, -, -, h5, h6⟩ := gd_bd hi h
  unfold stN
  by_cases c : k = 0
  · rw [if_pos c]
    exact h5 b
  · rw [if_neg c]
    exact Nat.le_trans (h6 (k - 1) b (by omega)) (by decide)
theorem stN_off {F : Nat → Nat → Int32} {P B O : Nat} {A : Nat → md_V} {e : Int} {k b : Nat} (h : ¬ O.testBit b = true) : stN F P B O A e k b = 0 := by
  have hb : ¬ b ∈ zL F P B O := fun q => h (zL_mem.mp q).2
  unfold stN
  by_cases c : k = 0
  · rw [if_pos c, vV_no hb]
  · rw [if_neg c, uU_no _ hb]
theorem stN_call {n : Nat} (hn : 2100 ≤ n) {F : Nat → Nat → Int32} {P B O D W Eb Es : Nat} (hi : hI F P B O D W) {A : Nat → md_V} {e : Int} (h : gd F P B O Eb Es A e) {σ : hv_St} (hx : rX F σ) {k : Nat} (hk : k ≤ (fSp F P B O).length) {b : Nat} (hb : b < B) (hon : O.testBit b = true) : ∃ σ', rX F σ' ∧ mQ_state n σ (ia k) (nI b) = some (some (frQ (stN F P B O A e k b) (e * md_dt (fR F P) A (fN' F P))), σ') := by
  obtain ⟨hE, hA, hd, he, hD, hm, hpc, -, -, -, hf⟩ := h
  obtain ⟨q1, q2⟩ := xp_state hn hE hi hx hA hd he hb hon hf
  cases k with
  | zero => exact q1
  | succ k => exact q2 k (by omega)
theorem stN_sum {F : Nat → Nat → Int32} {P B O Eb Es : Nat} {A : Nat → md_V} {e : Int} (h : gd F P B O Eb Es A e) {k : Nat} (hk : k ≤ (fSp F P B O).length) {p q : Nat} (hp : p < P) (hq : q < 2) (fr : fFree F (2 * p + q) = true) : (if k = 0 then ldz F (2 * p + q) else 0) * (e * md_dt (fR F P) A (fN' F P)) + sumK (fun j => stN F P B O A e k j * fBr F j p q) B = 0 := by
  obtain ⟨hE, hA, hd, he, hD, hm, hpc, -⟩ := h
  obtain ⟨r, hr, er⟩ := slot_k (show 2 * p + q < 2 * P by omega) fr
  have ec : ∀ j, fBr F j p q = fCol F P j r := fun j => by
    show _ = fBr F j ((fL F (2 * P)).getD r 0 / 2) ((fL F (2 * P)).getD r 0 % 2)
    rw [er, show (2 * p + q) / 2 = p by omega, show (2 * p + q) % 2 = q by omega]
  have eo : fCo F P (ldz F) r = -(ldz F (2 * p + q)) := by
    show -(ldz F ((fL F (2 * P)).getD r 0)) = _
    rw [er]
  unfold stN
  by_cases c : k = 0
  · have e1 : (fun j => (if k = 0 then vV F P B O A e (ldz F) j else uU F P B O A e (k - 1) j) * fBr F j p q) = fun j => vV F P B O A e (ldz F) j * fCol F P j r := funext fun j => by rw [if_pos c, ec]
    rw [if_pos c, e1, st_V hA e (ldz F) hr, eo]
    grind
  · have e1 : (fun j => (if k = 0 then vV F P B O A e (ldz F) j else uU F P B O A e (k - 1) j) * fBr F j p q) = fun j => uU F P B O A e (k - 1) j * fCol F P j r := funext fun j => by rw [if_neg c, ec]
    rw [if_neg c, e1, st_U hA e (by omega) hr, Int.zero_mul]
    rfl
theorem ia_ge (k : Nat) (hk : k < 2 ^ 31) : 0 ≤ ia k ↔ k ≠ 0 := by
  cases k with
  | zero => exact ⟨fun h => absurd h (by decide), fun h => absurd rfl h⟩
  | succ k => exact ⟨fun _ => by omega, fun _ => nI_le (a := 0) (by omega) (by omega)⟩
theorem Q_st85 {n : Nat} (hn : 2100 ≤ n) {F : Nat → Nat → Int32} {P B O D W Eb Es : Nat} (hi : hI F P B O D W) {τ : hv_St} (ht : tF F P B O τ) {A : Nat → md_V} {e : Int} (h : gd F P B O Eb Es A e) {r12 : hv_St → hv_St → Int32 → Int32 → Option (hv_St × hv_St)} {r20 : hv_St → hv_St → Int32 → Int32 → Int32 → Option (hv_St × hv_St)} {r32 : hv_St → hv_St → Int32 → Int32 → Int32 → Int32 → Option (hv_St × hv_St)} {x2 : Int32} {k p q : Nat} (hk : k ≤ (fSp F P B O).length) (hp : p < P) (hq : q < 2) (fr : fFree F (2 * p + q) = true) : ∀ (d b fuel : Nat) (σ : hv_St), b + d = B → d < fuel → rX F σ → ∃ σ', rX F σ' ∧ kQ_areStates_85 n r12 r20 r32 fuel σ τ x2 (ia k) (nI p) (nI q) (frQ ((if k = 0 then ldz F (2 * p + q) else 0) * (e * md_dt (fR F P) A (fN' F P)) + sumK (fun j => stN F P B O A e k j * fBr F j p q) b) (e * md_dt (fR F P) A (fN' F P))) (nI b) = r32 σ' τ x2 (ia k) (nI p) (nI q + 1) := by
  have hB := hi.2.1.2
  have hP := hi.1.2
  have hO := hi.2.2.1.2
  have o31 : O < 2 ^ 31 := by have := p2048 hB hO; omega
  have hD := h.2.2.2.2.1
  obtain ⟨bD, hup, bu, bo, bV, bU⟩ := gd_bd hi h
  have es := stN_sum h hk hp hq fr
  have bs := fun b => stN_bd hi h hk b
  have hcall := fun (σ : hv_St) (hx : rX F σ) (b : Nat) (hb : b < B) (hon : O.testBit b = true) => stN_call hn hi h hx hk hb hon
  generalize e * md_dt (fR F P) A (fN' F P) = DD at *
  have rD : rL DD := ⟨by omega, by omega⟩
  have bl : (if k = 0 then ldz F (2 * p + q) else 0).natAbs ≤ 9 := by
    by_cases c : k = 0
    · rw [if_pos c]
      exact (ldz_e hi (show 2 * p + q < 12 by omega)).2
    · rw [if_neg c]
      decide
  generalize (if k = 0 then ldz F (2 * p + q) else 0) = L at *
  have bL : (L * DD).natAbs ≤ 9 * 25600 := by
    rw [Int.natAbs_mul]
    exact Nat.mul_le_mul bl bD
  have bt : ∀ j, j < B → (stN F P B O A e k j * fBr F j p q).natAbs ≤ 691200 * 3 := fun j hj => by
    have br := fBr_le hi hj p q
    rw [Int.natAbs_mul]
    exact Nat.mul_le_mul (bs j) (show (fBr F j p q).natAbs ≤ 3 by omega)
  intro d
  induction d with
  | zero =>
    intro b fuel σ hb hfu hx
    obtain ⟨fuel, rfl⟩ : ∃ q, fuel = q + 1 := ⟨fuel - 1, by omega⟩
    obtain rfl : b = B := by omega
    refine ⟨σ, hx, ?_⟩
    show kQ_areStates_85_b n r12 r20 r32 _ σ τ x2 (ia k) (nI p) (nI q) _ (nI b) = _
    unfold kQ_areStates_85_b kQ_areStates_159
    rw [ht.1.2.1, if_pos (nI_le (Nat.le_refl _) (by omega)), es, if_pos ((lg_cmp0 _ _).mpr frQ_0)]
  | succ d ih =>
    intro b fuel σ hb hfu hx
    obtain ⟨fuel, rfl⟩ : ∃ q, fuel = q + 1 := ⟨fuel - 1, by omega⟩
    have hbB : b < B := by omega
    by_cases hon : O.testBit b = true
    · obtain ⟨σ', x', p'⟩ := hcall σ hx b hbB hon
      have br := fBr_le hi hbB p q
      have b1 := bs b
      have b2 := bt b hbB
      have sb : (sumK (fun j => stN F P B O A e k j * fBr F j p q) (b + 1)).natAbs ≤ (b + 1) * (691200 * 3) := sumK_bd (b + 1) (fun j hj => bt j (by omega))
      have b11 : (b + 1) * (691200 * 3) ≤ 11 * (691200 * 3) := Nat.mul_le_mul_right _ (by omega)
      have sr : rL (L * DD + sumK (fun j => stN F P B O A e k j * fBr F j p q) (b + 1)) := ⟨by omega, by omega⟩
      have tm : mQ_times n (frQ (stN F P B O A e k b) DD) ((iL (fBr F b p q), (1 : Int64))) = some (frQ (stN F P B O A e k b * fBr F b p q) DD) := by
        rw [← frQ_1]
        exact fr_times (n := n) (by omega) hD (by decide) hD ⟨by omega, by omega⟩ rD ⟨by omega, by omega⟩ ⟨by decide, by decide⟩ ⟨by omega, by omega⟩ rD (by grind)
      obtain ⟨σ2, x2', y2⟩ := ih (b + 1) fuel σ' (by omega) (by omega) x'
      refine ⟨σ2, x2', ?_⟩
      show kQ_areStates_85_b n r12 r20 r32 _ σ τ x2 (ia k) (nI p) (nI q) _ (nI b) = _
      unfold kQ_areStates_85_b kQ_areStates_140
      rw [ht.1.2.1, if_neg (nI_ge hbB (by omega)), ht.1.2.2.1, (l_isOn n hv_0 o31 (show b < 31 by omega)).1 hon, hv_b2_e, if_neg (by decide), p', hv_b2_e, hv_ox_s, l_brings (n := n) hi ht hbB hp hq, hv_b2_e, iI_L ⟨by omega, by omega⟩, tm, hv_bd_e, fr_plus (n := n) (by omega) hD rD (by
        rw [Int.add_assoc]
        exact sr), hv_bd_e, nI_1, Int.add_assoc]
      exact y2
    · obtain ⟨σ2, x2', y2⟩ := ih (b + 1) fuel σ (by omega) (by omega) hx
      refine ⟨σ2, x2', ?_⟩
      show kQ_areStates_85_b n r12 r20 r32 _ σ τ x2 (ia k) (nI p) (nI q) _ (nI b) = _
      unfold kQ_areStates_85_b kQ_areStates_140
      rw [ht.1.2.1, if_neg (nI_ge hbB (by omega)), ht.1.2.2.1, (l_isOn n hv_0 o31 (show b < 31 by omega)).2 hon, hv_b2_e, if_pos rfl, nI_1]
      rw [sumK_s] at y2
      rw [stN_off hon, Int.zero_mul, Int.add_zero] at y2
      exact y2
theorem Q_st32 {n : Nat} (hn : 2100 ≤ n) {F : Nat → Nat → Int32} {P B O D W Eb Es : Nat} (hi : hI F P B O D W) {τ : hv_St} (ht : tF F P B O τ) {A : Nat → md_V} {e : Int} (h : gd F P B O Eb Es A e) {r12 : hv_St → hv_St → Int32 → Int32 → Option (hv_St × hv_St)} {r20 : hv_St → hv_St → Int32 → Int32 → Int32 → Option (hv_St × hv_St)} {x2 : Int32} {k p : Nat} (hk : k ≤ (fSp F P B O).length) (hp : p < P) : ∀ (d q fuel : Nat) (σ : hv_St), q + d = 2 → d < fuel → rX F σ → ∃ σ', rX F σ' ∧ kQ_areStates_32 n r12 r20 fuel σ τ x2 (ia k) (nI p) (nI q) = r20 σ' τ x2 (ia k) (nI (p + 1)) := by
  have hB := hi.2.1.2
  have hP := hi.1.2
  have hD := h.2.2.2.2.1
  have hm := h.2.2.2.2.2.1
  intro d
  induction d with
  | zero =>
    intro q fuel σ hq hfu hx
    obtain ⟨fuel, rfl⟩ : ∃ q, fuel = q + 1 := ⟨fuel - 1, by omega⟩
    obtain rfl : q = 2 := by omega
    refine ⟨σ, hx, ?_⟩
    show kQ_areStates_32_b n r12 r20 _ σ τ x2 (ia k) (nI p) (nI 2) = _
    unfold kQ_areStates_32_b
    rw [if_pos (by decide), nI_1]
  | succ d ih =>
    intro q fuel σ hq hfu hx
    obtain ⟨fuel, rfl⟩ : ∃ q, fuel = q + 1 := ⟨fuel - 1, by omega⟩
    have hq2 : q < 2 := by omega
    by_cases fr : fFree F (2 * p + q) = true
    · obtain ⟨σ', x', y'⟩ := Q_st85 hn hi ht h (r12 := r12) (r20 := r20) (r32 := kQ_areStates_32 n r12 r20 fuel) (x2 := x2) hk hp hq2 fr B 0 12 σ (Nat.zero_add _) (by omega) hx
      obtain ⟨σ2, x2', y2⟩ := ih (q + 1) fuel σ' (by omega) (by omega) x'
      refine ⟨σ2, x2', ?_⟩
      show kQ_areStates_32_b n r12 r20 _ σ τ x2 (ia k) (nI p) (nI q) = _
      unfold kQ_areStates_32_b kQ_areStates_77
      have ix : (2 : Int32) * nI p + nI q = nI (2 * p + q) := by rw [nI_2, nI_add]
      rw [sumK_z, Int.add_zero, nI_1] at y'
      rw [if_neg (show ¬ (2 : Int32) ≤ nI q from nI_ge (b := 2) hq2 (by decide)), hv_if_t (hv_ok_nI (show p < 6 by omega) (by decide)), nI_clamp (by omega), (l_held (n := n) hi ht hp hq2 hv_0).1 fr, hv_b2_e, if_pos rfl]
      by_cases c : k = 0
      · rw [if_pos c] at y'
        rw [if_neg (fun r => (ia_ge k (by omega)).mp r c), ix, hv_if_t (hv_ok_nI (show 2 * p + q < 12 by omega) (by decide)), nI_clamp (by omega), l_ld hi ht (by omega), ← frQ_1, show frQ (ldz F (2 * p + q)) 1 = frQ (ldz F (2 * p + q) * (e * md_dt (fR F P) A (fN' F P))) (e * md_dt (fR F P) A (fN' F P)) from frQ_eq (by decide) (by omega) (by grind), show (0 : Int32) = nI 0 from rfl, y']
        exact y2
      · rw [if_neg c] at y'
        rw [if_pos ((ia_ge k (by omega)).mpr c), show ((0 : Int64), (1 : Int64)) = frQ 0 1 from (frQ_1 0).symm, show frQ 0 1 = frQ (0 * (e * md_dt (fR F P) A (fN' F P))) (e * md_dt (fR F P) A (fN' F P)) from frQ_eq (by decide) (by omega) (by grind), show (0 : Int32) = nI 0 from rfl, y']
        exact y2
    · obtain ⟨σ2, x2', y2⟩ := ih (q + 1) fuel σ (by omega) (by omega) hx
      refine ⟨σ2, x2', ?_⟩
      show kQ_areStates_32_b n r12 r20 _ σ τ x2 (ia k) (nI p) (nI q) = _
      unfold kQ_areStates_32_b kQ_areStates_159
      rw [if_neg (show ¬ (2 : Int32) ≤ nI q from nI_ge (b := 2) hq2 (by decide)), hv_if_t (hv_ok_nI (show p < 6 by omega) (by decide)), nI_clamp (by omega), (l_held (n := n) hi ht hp hq2 hv_0).2 fr, hv_b2_e, if_neg (by decide), nI_1]
      exact y2
theorem Q_st20 {n : Nat} (hn : 2100 ≤ n) {F : Nat → Nat → Int32} {P B O D W Eb Es : Nat} (hi : hI F P B O D W) {τ : hv_St} (ht : tF F P B O τ) {A : Nat → md_V} {e : Int} (h : gd F P B O Eb Es A e) {r12 : hv_St → hv_St → Int32 → Int32 → Option (hv_St × hv_St)} {x2 : Int32} {k : Nat} (hk : k ≤ (fSp F P B O).length) : ∀ (d p fuel : Nat) (σ : hv_St), p + d = P → d < fuel → rX F σ → ∃ σ', rX F σ' ∧ kQ_areStates_20 n r12 fuel σ τ x2 (ia k) (nI p) = r12 σ' τ x2 (ia (k + 1)) := by
  have hP := hi.1.2
  intro d
  induction d with
  | zero =>
    intro p fuel σ hp hfu hx
    obtain ⟨fuel, rfl⟩ : ∃ q, fuel = q + 1 := ⟨fuel - 1, by omega⟩
    obtain rfl : p = P := by omega
    refine ⟨σ, hx, ?_⟩
    show kQ_areStates_20_b n r12 _ σ τ x2 (ia k) (nI p) = _
    unfold kQ_areStates_20_b
    rw [ht.1.1, if_pos (nI_le (Nat.le_refl _) (by omega)), ia_s]
  | succ d ih =>
    intro p fuel σ hp hfu hx
    obtain ⟨fuel, rfl⟩ : ∃ q, fuel = q + 1 := ⟨fuel - 1, by omega⟩
    obtain ⟨σ', x', y'⟩ := Q_st32 hn hi ht h (r12 := r12) (r20 := kQ_areStates_20 n r12 fuel) (x2 := x2) hk (show p < P by omega) 2 0 3 σ rfl (by decide) hx
    obtain ⟨σ2, x2', y2⟩ := ih (p + 1) fuel σ' (by omega) (by omega) x'
    refine ⟨σ2, x2', ?_⟩
    show kQ_areStates_20_b n r12 _ σ τ x2 (ia k) (nI p) = _
    unfold kQ_areStates_20_b
    rw [ht.1.1, if_neg (nI_ge (by omega) (by omega)), show (0 : Int32) = nI 0 from rfl, y']
    exact y2
