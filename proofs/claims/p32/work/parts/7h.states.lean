/-! the states bring the pulls, and close what they must -/
theorem frQ_DD {D : Int} (h : D ≠ 0) : (frQ D D).1 = 1 := by
  rw [show frQ D D = frQ 1 1 from frQ_eq h (by decide) (by grind), frQ_1]
  rfl
theorem sp_bit {F : Nat → Nat → Int32} {P B O Eb Es : Nat} (hE : fSe F P B O Eb Es) {b : Nat} : Es.testBit b = true ↔ ∃ j, j < (fSp F P B O).length ∧ (fSp F P B O).getD j 0 = b := by
  rw [hE.2.2.2]
  exact ⟨fun h => mem_getD h, fun ⟨j, h1, h2⟩ => h2 ▸ getD_mem h1⟩
theorem Q_st228 {n : Nat} (hn : 2100 ≤ n) {F : Nat → Nat → Int32} {P B O D W Eb Es : Nat} (hi : hI F P B O D W) {τ : hv_St} {A : Nat → md_V} {e : Int} (h : gd F P B O Eb Es A e) {r179 : hv_St → hv_St → Int32 → Int32 → Option (hv_St × hv_St)} {b : Nat} (hb : b < B) (hon : O.testBit b = true) : ∀ (d i fuel : Nat) (σ : hv_St), i + d = (fSp F P B O).length → d < fuel → rX F σ → ∃ σ', rX F σ' ∧ kQ_areStates_228 n r179 fuel σ τ (nI (fSp F P B O).length) (nI b) (frQ (vV F P B O A e (ldz F) b * uSum F P B O + sumK (fun j => uU F P B O A e j b * oSum F P B O (ldz F) ((fSp F P B O).getD j 0)) i) (e * md_dt (fR F P) A (fN' F P) * uSum F P B O)) (nI i) = r179 σ' τ (nI (fSp F P B O).length) (nI (b + 1)) := by
  have hB := hi.2.1.2
  have hO := hi.2.2.1.2
  have o31 : O < 2 ^ 31 := by have := p2048 hB hO; omega
  obtain ⟨hE, hA, hd, he, hD, hm, hpc, -, -, -, hf⟩ := id h
  have e31 : Es < 2 ^ 31 := by have := p2048 hB hE.2.1; omega
  obtain ⟨bD, hup, bu, bo, bV, bU⟩ := gd_bd hi h
  have hbz : b ∈ zL F P B O := zL_mem.mpr ⟨hb, hon⟩
  have eo := (o_all hB hO hA hd hm hpc he (ldz F)).1 b hbz
  have rD : rL (e * md_dt (fR F P) A (fN' F P)) := ⟨by omega, by omega⟩
  have ru : rL (uSum F P B O) := ⟨by omega, by omega⟩
  have rDu : rL (e * md_dt (fR F P) A (fN' F P) * uSum F P B O) := by
    have := Nat.mul_le_mul bD bu
    rw [← Int.natAbs_mul] at this
    exact ⟨by omega, by omega⟩
  have hDu : 0 < e * md_dt (fR F P) A (fN' F P) * uSum F P B O := Int.mul_pos hD hup
  have bUo : ∀ j, j < (fSp F P B O).length → (uU F P B O A e j b * oSum F P B O (ldz F) ((fSp F P B O).getD j 0)).natAbs ≤ 25600 * 12899450880000 := fun j hj => by
    rw [Int.natAbs_mul]
    exact Nat.mul_le_mul (bU j b hj) (bo _)
  have bVu : (vV F P B O A e (ldz F) b * uSum F P B O).natAbs ≤ 691200 * 477757440000 := by
    rw [Int.natAbs_mul]
    exact Nat.mul_le_mul (bV b) bu
  intro d
  induction d with
  | zero =>
    intro i fuel σ hil hfu hx
    obtain ⟨fuel, rfl⟩ : ∃ q, fuel = q + 1 := ⟨fuel - 1, by omega⟩
    obtain rfl : i = (fSp F P B O).length := by omega
    obtain ⟨σ', x', p'⟩ := xp_pull hn hi hx hb hon hf
    refine ⟨σ', x', ?_⟩
    show kQ_areStates_228_b n r179 _ σ τ _ (nI b) _ _ = _
    unfold kQ_areStates_228_b kQ_areStates_351
    have eq : frQ (vV F P B O A e (ldz F) b * uSum F P B O + sumK (fun j => uU F P B O A e j b * oSum F P B O (ldz F) ((fSp F P B O).getD j 0)) (fSp F P B O).length) (e * md_dt (fR F P) A (fN' F P) * uSum F P B O) = frQ (oSum F P B O (ldz F) b) (uSum F P B O) := by
      rw [← eo]
      exact frQ_eq (by omega) (by omega) (by grind)
    have ro : rL (oSum F P B O (ldz F) b) := by
      have := bo b
      exact ⟨by omega, by omega⟩
    rw [if_pos (nI_le (Nat.le_refl _) (by omega)), p', hv_b2_e, hv_ox_s, fr_least (n := n) (by omega) ro ru (by omega), hv_bd_e, if_neg (by decide), eq, if_pos ((lg_cmp0 _ _).mpr rfl), if_pos ((lg_cmp0 _ _).mpr rfl), nI_1]
  | succ d ih =>
    intro i fuel σ hil hfu hx
    obtain ⟨fuel, rfl⟩ : ∃ q, fuel = q + 1 := ⟨fuel - 1, by omega⟩
    have hi2 : i < (fSp F P B O).length := by omega
    have hsp := fSp_mem.mp (getD_mem hi2)
    have q1 := fun (σ : hv_St) (hx : rX F σ) => (xp_state hn hE hi hx hA hd he hb hon hf).2 i hi2
    obtain ⟨σ1, x1, y1⟩ := q1 σ hx
    obtain ⟨σ2, x2, y2⟩ := l_spareAt (n := n) (by omega) hE hi x1 hi2 hm
    obtain ⟨σ3, x3, y3⟩ := xp_pull hn hi x2 hsp.1.1 hsp.1.2 hf
    obtain ⟨σ4, y4, x4⟩ := xp_count (n := n) (by omega) hE hi x3 6 (by decide)
    have e6 : xcR F P B O Eb Es (nI 6) = nI Es := rfl
    rw [e6] at y4
    have b1 := bUo i hi2
    have b2 := bU i b hi2
    have b3 := bo ((fSp F P B O).getD i 0)
    have sb : (sumK (fun j => uU F P B O A e j b * oSum F P B O (ldz F) ((fSp F P B O).getD j 0)) (i + 1)).natAbs ≤ (i + 1) * (25600 * 12899450880000) := sumK_bd (i + 1) (fun j hj => bUo j (by omega))
    have b11 : (i + 1) * (25600 * 12899450880000) ≤ 2 * (25600 * 12899450880000) := Nat.mul_le_mul_right _ (by omega)
    have sr : rL (vV F P B O A e (ldz F) b * uSum F P B O + sumK (fun j => uU F P B O A e j b * oSum F P B O (ldz F) ((fSp F P B O).getD j 0)) (i + 1)) := ⟨by omega, by omega⟩
    have tm : mQ_times n (frQ (uU F P B O A e i b) (e * md_dt (fR F P) A (fN' F P))) (frQ (oSum F P B O (ldz F) ((fSp F P B O).getD i 0)) (uSum F P B O)) = some (frQ (uU F P B O A e i b * oSum F P B O (ldz F) ((fSp F P B O).getD i 0)) (e * md_dt (fR F P) A (fN' F P) * uSum F P B O)) :=
      fr_times (n := n) (by omega) hD hup hDu ⟨by omega, by omega⟩ rD ⟨by omega, by omega⟩ ru ⟨by omega, by omega⟩ rDu rfl
    have pl := fr_plus (n := n) (by omega) (a := vV F P B O A e (ldz F) b * uSum F P B O + sumK (fun j => uU F P B O A e j b * oSum F P B O (ldz F) ((fSp F P B O).getD j 0)) i) (b := uU F P B O A e i b * oSum F P B O (ldz F) ((fSp F P B O).getD i 0)) hDu rDu (by rw [Int.add_assoc]; exact sr)
    rw [Int.add_assoc] at pl
    have step : ∃ σ5, rX F σ5 ∧ kQ_areStates_228 n r179 (fuel + 1) σ τ (nI (fSp F P B O).length) (nI b) (frQ (vV F P B O A e (ldz F) b * uSum F P B O + sumK (fun j => uU F P B O A e j b * oSum F P B O (ldz F) ((fSp F P B O).getD j 0)) i) (e * md_dt (fR F P) A (fN' F P) * uSum F P B O)) (nI i) = kQ_areStates_228 n r179 fuel σ5 τ (nI (fSp F P B O).length) (nI b) (frQ (vV F P B O A e (ldz F) b * uSum F P B O + sumK (fun j => uU F P B O A e j b * oSum F P B O (ldz F) ((fSp F P B O).getD j 0)) (i + 1)) (e * md_dt (fR F P) A (fN' F P) * uSum F P B O)) (nI (i + 1)) := by
      by_cases c : Es.testBit b = true
      · obtain ⟨σ5, x5, y5⟩ := q1 σ4 x4
        obtain ⟨σ6, x6, y6⟩ := l_spareAt (n := n) (by omega) hE hi x5 hi2 hm
        refine ⟨σ6, x6, ?_⟩
        show kQ_areStates_228_b n r179 _ σ τ _ (nI b) _ (nI i) = _
        unfold kQ_areStates_228_b kQ_areStates_298 kQ_areStates_304
        rw [if_neg (nI_ge hi2 (by omega)), y1, hv_b2_e, hv_ox_s, y2, hv_b2_e, y3, hv_b2_e, hv_ox_s, tm, hv_bd_e, pl, hv_bd_e, show (6 : Int32) = nI 6 from rfl, y4, hv_b2_e, (l_isOn n hv_0 e31 (show b < 31 by omega)).1 c, hv_b2_e, if_neg (by decide), y5, hv_b2_e, hv_ox_s, y6, hv_b2_e]
        obtain ⟨j, j1, j2⟩ := (sp_bit hE).mp c
        have us := uU_sp hA e hi2 j1
        rw [j2] at us
        by_cases d1 : (fSp F P B O).getD i 0 = b
        · have ij : i = j := getD_inj (fSp_nd F P B O) hi2 j1 (d1.trans j2.symm)
          rw [if_pos ij] at us
          have f1 : (frQ (uU F P B O A e i b) (e * md_dt (fR F P) A (fN' F P))).1 = 1 := by
            rw [us]
            exact frQ_DD (by omega)
          rw [if_pos (by rw [d1]), if_pos ((lg_cmp0 _ _).mpr f1), nI_1]
          rfl
        · have ij : ¬ i = j := fun q => d1 (by rw [q]; exact j2)
          rw [if_neg ij] at us
          have f1 : (frQ (uU F P B O A e i b) (e * md_dt (fR F P) A (fN' F P))).1 = 0 := by
            rw [us]
            exact frQ_0
          rw [if_neg (fun q => d1 ((nI_eq (by omega) (by omega)).mp q)), if_pos ((lg_cmp0 _ _).mpr f1), nI_1]
          rfl
      · refine ⟨σ4, x4, ?_⟩
        show kQ_areStates_228_b n r179 _ σ τ _ (nI b) _ (nI i) = _
        unfold kQ_areStates_228_b kQ_areStates_304
        rw [if_neg (nI_ge hi2 (by omega)), y1, hv_b2_e, hv_ox_s, y2, hv_b2_e, y3, hv_b2_e, hv_ox_s, tm, hv_bd_e, pl, hv_bd_e, show (6 : Int32) = nI 6 from rfl, y4, hv_b2_e, (l_isOn n hv_0 e31 (show b < 31 by omega)).2 c, hv_b2_e, if_pos rfl, nI_1]
        rfl
    obtain ⟨σ5, x5, y5⟩ := step
    obtain ⟨σ', x', y'⟩ := ih (i + 1) fuel σ5 (by omega) (by omega) x5
    exact ⟨σ', x', y5.trans y'⟩
theorem Q_st179 {n : Nat} (hn : 2100 ≤ n) {F : Nat → Nat → Int32} {P B O D W Eb Es : Nat} (hi : hI F P B O D W) {τ : hv_St} (ht : tF F P B O τ) {A : Nat → md_V} {e : Int} (h : gd F P B O Eb Es A e) : ∀ (d b fuel : Nat) (σ : hv_St), b + d = B → d < fuel → rX F σ → ∃ σ', rX F σ' ∧ kQ_areStates_179 n fuel σ τ (nI (fSp F P B O).length) (nI b) = kQ_areStates_359 n 3 σ' τ (nI (fSp F P B O).length) 0 := by
  have hB := hi.2.1.2
  have hO := hi.2.2.1.2
  have o31 : O < 2 ^ 31 := by have := p2048 hB hO; omega
  obtain ⟨hE, hA, hd, he, hD, hm, hpc, -, -, -, hf⟩ := id h
  obtain ⟨bD, hup, bu, bo, bV, bU⟩ := gd_bd hi h
  intro d
  induction d with
  | zero =>
    intro b fuel σ hb hfu hx
    obtain ⟨fuel, rfl⟩ : ∃ q, fuel = q + 1 := ⟨fuel - 1, by omega⟩
    obtain rfl : b = B := by omega
    refine ⟨σ, hx, ?_⟩
    show kQ_areStates_179_b n _ σ τ _ (nI b) = _
    unfold kQ_areStates_179_b
    rw [ht.1.2.1, if_pos (nI_le (Nat.le_refl _) (by omega))]
  | succ d ih =>
    intro b fuel σ hb hfu hx
    obtain ⟨fuel, rfl⟩ : ∃ q, fuel = q + 1 := ⟨fuel - 1, by omega⟩
    have hbB : b < B := by omega
    by_cases hon : O.testBit b = true
    · obtain ⟨σ1, x1, y1⟩ := (xp_state hn hE hi hx hA hd he hbB hon hf).1
      obtain ⟨σ2, x2, y2⟩ := Q_st228 hn hi (τ := τ) h (r179 := kQ_areStates_179 n fuel) hbB hon (fSp F P B O).length 0 3 σ1 (Nat.zero_add _) (by omega) x1
      obtain ⟨σ', x', y'⟩ := ih (b + 1) fuel σ2 (by omega) (by omega) x2
      refine ⟨σ', x', ?_⟩
      show kQ_areStates_179_b n _ σ τ _ (nI b) = _
      unfold kQ_areStates_179_b
      rw [sumK_z, Int.add_zero] at y2
      rw [ht.1.2.1, if_neg (nI_ge hbB (by omega)), ht.1.2.2.1, (l_isOn n hv_0 o31 (show b < 31 by omega)).1 hon, hv_b2_e, if_neg (by decide), y1, hv_b2_e, hv_ox_s, show frQ (vV F P B O A e (ldz F) b) (e * md_dt (fR F P) A (fN' F P)) = frQ (vV F P B O A e (ldz F) b * uSum F P B O) (e * md_dt (fR F P) A (fN' F P) * uSum F P B O) from frQ_eq (by omega) (Int.mul_ne_zero (by omega) (by omega)) (by grind), show (0 : Int32) = nI 0 from rfl, y2]
      exact y'
    · have no : ¬ ∃ c, nI b = nI c ∧ c < B ∧ O.testBit c = true := fun ⟨c, c1, c2, c3⟩ => hon (by rw [(nI_eq (by omega) (by omega)).mp c1]; exact c3)
      obtain ⟨σ1, x1, y1⟩ := xp_pull0 hn hi hx (v := nI b) (fun q => no q.1)
      obtain ⟨σ2, x2, y2⟩ := xp_state0 hn hi x1 (v := -1) (w := nI b) (fun q => no q.1)
      obtain ⟨σ', x', y'⟩ := ih (b + 1) fuel σ2 (by omega) (by omega) x2
      refine ⟨σ', x', ?_⟩
      show kQ_areStates_179_b n _ σ τ _ (nI b) = _
      unfold kQ_areStates_179_b kQ_areStates_351
      rw [ht.1.2.1, if_neg (nI_ge hbB (by omega)), ht.1.2.2.1, (l_isOn n hv_0 o31 (show b < 31 by omega)).2 hon, hv_b2_e, if_pos rfl, y1, hv_b2_e, hv_ox_n, y2, hv_b2_e, hv_ox_n, nI_1]
      exact y'
theorem Q_st373 {n : Nat} (hn : 2100 ≤ n) {F : Nat → Nat → Int32} {P B O D W Eb Es : Nat} (hi : hI F P B O D W) {τ : hv_St} (ht : tF F P B O τ) {A : Nat → md_V} {e : Int} (h : gd F P B O Eb Es A e) {r359 : hv_St → hv_St → Int32 → Int32 → Option (hv_St × hv_St)} {x2 : Int32} {i : Nat} (hil : i < (fSp F P B O).length) : ∀ (d b fuel : Nat) (σ : hv_St), b + d = B → d < fuel → rX F σ → ∃ σ', rX F σ' ∧ kQ_areStates_373 n r359 fuel σ τ x2 (nI i) (frQ (sumK (fun c => gv F c * oSum F P B O (ldz F) c * uU F P B O A e i c) b) (uSum F P B O * (e * md_dt (fR F P) A (fN' F P)))) (nI b) = r359 σ' τ x2 (nI (i + 1)) := by
  have hB := hi.2.1.2
  have hO := hi.2.2.1.2
  have o31 : O < 2 ^ 31 := by have := p2048 hB hO; omega
  have hB9 := h.2.2.2.2.2.2.2.2.2.1
  obtain ⟨hE, hA, hd, he, hD, hm, hpc, -, -, -, hf⟩ := id h
  obtain ⟨bD, hup, bu, bo, bV, bU⟩ := gd_bd hi h
  have e4 := (o_all hB hO hA hd hm hpc he (ldz F)).2 i hil
  have hst := fun (σ : hv_St) (hx : rX F σ) (b : Nat) (hb : b < B) (hon : O.testBit b = true) => (xp_state hn hE hi hx hA hd he hb hon hf).2 i hil
  have bU' := fun b => bU i b hil
  generalize e * md_dt (fR F P) A (fN' F P) = DD at *
  have rD : rL DD := ⟨by omega, by omega⟩
  have ru : rL (uSum F P B O) := ⟨by omega, by omega⟩
  have rDu : rL (uSum F P B O * DD) := by
    have := Nat.mul_le_mul bu bD
    rw [← Int.natAbs_mul] at this
    exact ⟨by omega, by omega⟩
  have hDu : 0 < uSum F P B O * DD := Int.mul_pos hup hD
  have bg : ∀ j, j < B → (gv F j * oSum F P B O (ldz F) j).natAbs ≤ 3 * 12899450880000 := fun j hj => by
    rw [Int.natAbs_mul]
    exact Nat.mul_le_mul (gv_abs hi hj) (bo j)
  have bt : ∀ j, j < B → (gv F j * oSum F P B O (ldz F) j * uU F P B O A e i j).natAbs ≤ 3 * 12899450880000 * 25600 := fun j hj => by
    rw [Int.natAbs_mul]
    exact Nat.mul_le_mul (bg j hj) (bU' j)
  intro d
  induction d with
  | zero =>
    intro b fuel σ hb hfu hx
    obtain ⟨fuel, rfl⟩ : ∃ q, fuel = q + 1 := ⟨fuel - 1, by omega⟩
    obtain rfl : b = B := by omega
    refine ⟨σ, hx, ?_⟩
    show kQ_areStates_373_b n r359 _ σ τ x2 (nI i) _ (nI b) = _
    unfold kQ_areStates_373_b
    rw [ht.1.2.1, if_pos (nI_le (Nat.le_refl _) (by omega)), e4, if_pos ((lg_cmp0 _ _).mpr frQ_0), nI_1]
  | succ d ih =>
    intro b fuel σ hb hfu hx
    obtain ⟨fuel, rfl⟩ : ∃ q, fuel = q + 1 := ⟨fuel - 1, by omega⟩
    have hbB : b < B := by omega
    by_cases hon : O.testBit b = true
    · obtain ⟨σ1, x1, y1⟩ := xp_pull hn hi hx hbB hon hf
      obtain ⟨σ2, x2', y2⟩ := hst σ1 x1 b hbB hon
      obtain ⟨σ', x', y'⟩ := ih (b + 1) fuel σ2 (by omega) (by omega) x2'
      refine ⟨σ', x', ?_⟩
      have g3 := gv_e hi hbB
      have b1 := bo b
      have b2 := bg b hbB
      have b3 := bt b hbB
      have b4 := bU' b
      have sb : (sumK (fun c => gv F c * oSum F P B O (ldz F) c * uU F P B O A e i c) (b + 1)).natAbs ≤ (b + 1) * (3 * 12899450880000 * 25600) := sumK_bd (b + 1) (fun j hj => bt j (by omega))
      have b11 : (b + 1) * (3 * 12899450880000 * 25600) ≤ 9 * (3 * 12899450880000 * 25600) := Nat.mul_le_mul_right _ (by omega)
      have sr : rL (sumK (fun c => gv F c * oSum F P B O (ldz F) c * uU F P B O A e i c) (b + 1)) := ⟨by omega, by omega⟩
      have tm1 : mQ_times n ((iL (gv F b), (1 : Int64))) (frQ (oSum F P B O (ldz F) b) (uSum F P B O)) = some (frQ (gv F b * oSum F P B O (ldz F) b) (uSum F P B O)) := by
        rw [← frQ_1]
        exact fr_times (n := n) (by omega) (by decide) hup hup ⟨by omega, by omega⟩ ⟨by decide, by decide⟩ ⟨by omega, by omega⟩ ru ⟨by omega, by omega⟩ ru (by grind)
      have tm2 : mQ_times n (frQ (gv F b * oSum F P B O (ldz F) b) (uSum F P B O)) (frQ (uU F P B O A e i b) DD) = some (frQ (gv F b * oSum F P B O (ldz F) b * uU F P B O A e i b) (uSum F P B O * DD)) :=
        fr_times (n := n) (by omega) hup hD hDu ⟨by omega, by omega⟩ ru ⟨by omega, by omega⟩ rD ⟨by omega, by omega⟩ rDu rfl
      have eg : (τ.1 8 b).toInt64 = iL (gv F b) := by
        rw [(ht.1.2.2.2.2 b hbB).2.2, g3.1, iI_L ⟨by omega, by omega⟩]
      show kQ_areStates_373_b n r359 _ σ τ x2 (nI i) _ (nI b) = _
      unfold kQ_areStates_373_b kQ_areStates_434
      rw [ht.1.2.1, if_neg (nI_ge hbB (by omega)), ht.1.2.2.1, (l_isOn n hv_0 o31 (show b < 31 by omega)).1 hon, hv_b2_e, if_neg (by decide), hv_if_t (hv_ok_nI (show b < 11 by omega) (by decide)), y1, hv_b2_e, hv_ox_s, nI_clamp (by omega), eg, tm1, hv_bd_e, y2, hv_b2_e, hv_ox_s, tm2, hv_bd_e, fr_plus (n := n) (by omega) hDu rDu sr, hv_bd_e, nI_1]
      exact y'
    · obtain ⟨σ', x', y'⟩ := ih (b + 1) fuel σ (by omega) (by omega) hx
      refine ⟨σ', x', ?_⟩
      show kQ_areStates_373_b n r359 _ σ τ x2 (nI i) _ (nI b) = _
      unfold kQ_areStates_373_b kQ_areStates_434
      rw [ht.1.2.1, if_neg (nI_ge hbB (by omega)), ht.1.2.2.1, (l_isOn n hv_0 o31 (show b < 31 by omega)).2 hon, hv_b2_e, if_pos rfl, nI_1]
      rw [sumK_s] at y'
      rw [oS_off hon, Int.mul_zero, Int.zero_mul, Int.add_zero] at y'
      exact y'
theorem Q_st359 {n : Nat} (hn : 2100 ≤ n) {F : Nat → Nat → Int32} {P B O D W Eb Es : Nat} (hi : hI F P B O D W) {τ : hv_St} (ht : tF F P B O τ) {A : Nat → md_V} {e : Int} (h : gd F P B O Eb Es A e) : ∀ (d i fuel : Nat) (σ : hv_St), i + d = (fSp F P B O).length → d < fuel → rX F σ → ∃ σ', rX F σ' ∧ kQ_areStates_359 n fuel σ τ (nI (fSp F P B O).length) (nI i) = some (σ', τ) := by
  have hB := hi.2.1.2
  obtain ⟨hE, hA, hd, he, hD, hm, hpc, -, -, -, hf⟩ := id h
  obtain ⟨bD, hup, bu, bo, bV, bU⟩ := gd_bd hi h
  intro d
  induction d with
  | zero =>
    intro i fuel σ hil hfu hx
    obtain ⟨fuel, rfl⟩ : ∃ q, fuel = q + 1 := ⟨fuel - 1, by omega⟩
    obtain rfl : i = (fSp F P B O).length := by omega
    obtain ⟨σ1, x1, y1⟩ := xp_state0 hn hi hx (v := nI (fSp F P B O).length) (w := 0) (fun q => by
      rcases q.2 with r | ⟨j, j1, j2⟩
      · exact nI_n1 (by omega) r
      · have := (nI_eq (by omega) (by omega)).mp j2
        omega)
    obtain ⟨σ2, x2, y2⟩ := xp_state0 hn hi x1 (v := -2) (w := 0) (fun q => by
      rcases q.2 with r | r
      · exact absurd r (by decide)
      · exact ((fN_iff (by omega) _).mp r).1 (by decide))
    refine ⟨σ2, x2, ?_⟩
    show kQ_areStates_359_b n _ σ τ _ _ = _
    unfold kQ_areStates_359_b
    rw [if_pos (nI_le (Nat.le_refl _) (by omega)), y1, hv_b2_e, hv_ox_n, y2, hv_b2_e, hv_ox_n]
  | succ d ih =>
    intro i fuel σ hil hfu hx
    obtain ⟨fuel, rfl⟩ : ∃ q, fuel = q + 1 := ⟨fuel - 1, by omega⟩
    obtain ⟨σ1, x1, y1⟩ := Q_st373 hn hi ht h (r359 := kQ_areStates_359 n fuel) (x2 := nI (fSp F P B O).length) (show i < (fSp F P B O).length by omega) B 0 12 σ (Nat.zero_add _) (by omega) hx
    obtain ⟨σ', x', y'⟩ := ih (i + 1) fuel σ1 (by omega) (by omega) x1
    refine ⟨σ', x', ?_⟩
    show kQ_areStates_359_b n _ σ τ _ (nI i) = _
    unfold kQ_areStates_359_b
    rw [sumK_z] at y1
    rw [if_neg (nI_ge (by omega) (by omega)), show ((0 : Int64), (1 : Int64)) = frQ 0 1 from (frQ_1 0).symm, show frQ 0 1 = frQ 0 (uSum F P B O * (e * md_dt (fR F P) A (fN' F P))) from frQ_eq (by decide) (Int.mul_ne_zero (by omega) (by omega)) (by grind), show (0 : Int32) = nI 0 from rfl, y1]
    exact y'
theorem Q_areStates {n : Nat} (hn : 2100 ≤ n) {F : Nat → Nat → Int32} {P B O D W Eb Es : Nat} (hi : hI F P B O D W) (hP5 : P ≤ 5) {σ τ : hv_St} (hx : rX F σ) (ht : tF F P B O τ) {A : Nat → md_V} {e : Int} (h : gd F P B O Eb Es A e) : ∃ σ', rX F σ' ∧ mQ_areStates n σ τ = some (σ', τ) := by
  have hB := hi.2.1.2
  obtain ⟨hE, hA, hd, he, hD, hm, hpc, -, -, -, hf⟩ := id h
  obtain ⟨p1, p2⟩ := pc_sp hB hE
  obtain ⟨s1, c6, x1⟩ := xp_count (n := n) (by omega) hE hi hx 6 (by decide)
  have e6 : xcR F P B O Eb Es (nI 6) = nI Es := rfl
  have key : ∀ (d k fuel : Nat) (σ : hv_St), k + d = (fSp F P B O).length + 1 → d < fuel → rX F σ → ∃ σ', rX F σ' ∧ kQ_areStates_12 n fuel σ τ (nI (fSp F P B O).length) (ia k) = some (σ', τ) := by
    intro d
    induction d with
    | zero =>
      intro k fuel σ hk hfu hx
      obtain ⟨fuel, rfl⟩ : ∃ q, fuel = q + 1 := ⟨fuel - 1, by omega⟩
      obtain rfl : k = (fSp F P B O).length + 1 := by omega
      obtain ⟨σ1, x1, y1⟩ := Q_st179 hn hi ht h B 0 12 σ (Nat.zero_add _) (by omega) hx
      obtain ⟨σ2, x2, y2⟩ := Q_st359 hn hi ht h (fSp F P B O).length 0 3 σ1 (Nat.zero_add _) (by omega) x1
      refine ⟨σ2, x2, ?_⟩
      show kQ_areStates_12_b n _ σ τ _ (nI (fSp F P B O).length) = _
      unfold kQ_areStates_12_b
      rw [if_pos (nI_le (Nat.le_refl _) (by omega)), show (0 : Int32) = nI 0 from rfl, y1]
      exact y2
    | succ d ih =>
      intro k fuel σ hk hfu hx
      obtain ⟨fuel, rfl⟩ : ∃ q, fuel = q + 1 := ⟨fuel - 1, by omega⟩
      obtain ⟨σ1, x1, y1⟩ := Q_st20 hn hi ht h (r12 := kQ_areStates_12 n fuel) (x2 := nI (fSp F P B O).length) (show k ≤ (fSp F P B O).length by omega) P 0 6 σ (Nat.zero_add _) (by omega) hx
      obtain ⟨σ2, x2, y2⟩ := ih (k + 1) fuel σ1 (by omega) (by omega) x1
      refine ⟨σ2, x2, ?_⟩
      have nle : ¬ nI (fSp F P B O).length ≤ ia k := by
        cases k with
        | zero =>
          intro q
          have := Int32.le_iff_toInt_le.mp q
          rw [nI_toInt (by omega)] at this
          have e1 : (ia 0).toInt = -1 := rfl
          omega
        | succ k => exact nI_ge (by omega) (by omega)
      show kQ_areStates_12_b n _ σ τ _ (ia k) = _
      unfold kQ_areStates_12_b
      rw [if_neg nle, show (0 : Int32) = nI 0 from rfl, y1]
      exact y2
  obtain ⟨σ', x', y'⟩ := key ((fSp F P B O).length + 1) 0 4 s1 (Nat.zero_add _) (by omega) x1
  refine ⟨σ', x', ?_⟩
  unfold mQ_areStates
  rw [show (6 : Int32) = nI 6 from rfl, c6, hv_b2_e, e6, x_bitCount (p2048 hB hE.2.1), hv_b2_e, p2]
  exact y'
