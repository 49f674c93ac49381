/-! train -/
def fNz : Nat → Nat → Prop
  | 0, _ => True
  | m + 1, r => r % 10 ≠ 0 ∧ fNz m (r / 10)
theorem nI_d10 {r : Nat} (h : r < 2 ^ 31) : nI r / (10 : Int32) = nI (r / 10) := pk_div h (by decide) (by decide)
theorem nI_r10 {r : Nat} (h : r < 2 ^ 31) : nI r - nI r / (10 : Int32) * (10 : Int32) = nI (r % 10) := pk_rem h (by decide) (by decide)
theorem nI_0e {r : Nat} (h : r < 2 ^ 31) : nI r = 0 ↔ r = 0 := nI_eq (b := 0) h (by decide)
theorem x6_dz {n : Nat} {σ : hv_St} : ∀ (m i c r fuel : Nat), i + m ≤ 4 → c + m < 100 → (m = 0 → r = 0) → (0 < m → 10 ^ (m - 1) ≤ r ∧ r < 10 ^ m) → m < fuel → (fNz m r → 0 < c + m → kX6_digitsWithoutZero_6 n fuel σ (nI r) (nI c) (nI i) = some (nI (c + m), σ)) ∧ (¬ fNz m r → kX6_digitsWithoutZero_6 n fuel σ (nI r) (nI c) (nI i) = some (-1, σ)) := by
  intro m
  induction m with
  | zero =>
    intro i c r fuel hi hc h0 _ hf
    obtain ⟨fuel, rfl⟩ : ∃ q, fuel = q + 1 := ⟨fuel - 1, by omega⟩
    have hr := h0 rfl
    subst hr
    refine ⟨fun _ hcm => ?_, fun h => absurd trivial h⟩
    show kX6_digitsWithoutZero_6_b n _ _ _ _ _ = _
    unfold kX6_digitsWithoutZero_6_b kX6_digitsWithoutZero_38
    rw [if_pos (show nI 0 = 0 from rfl), if_neg (nI_nle (by omega) (by omega)), if_pos (show nI 0 ≤ 0 by decide)]
    by_cases h4 : (4 : Int32) ≤ nI i
    · rw [if_pos h4]
      rfl
    · rw [if_neg h4]
      rfl
  | succ m ih =>
    intro i c r fuel hi hc _ hr hf
    obtain ⟨fuel, rfl⟩ : ∃ q, fuel = q + 1 := ⟨fuel - 1, by omega⟩
    obtain ⟨r1, r2⟩ := hr (by omega)
    have r0 : 0 < r := Nat.lt_of_lt_of_le (Nat.pow_pos (by decide)) r1
    have rb : r < 2 ^ 31 := Nat.lt_of_lt_of_le r2 (Nat.le_trans (Nat.pow_le_pow_right (by decide) (show m + 1 ≤ 4 by omega)) (by decide))
    have q := ih (i + 1) (c + 1) (r / 10) fuel (by omega) (by omega) (fun e => by subst e; simp at r2; omega) (fun e => by
      obtain ⟨m, rfl⟩ : ∃ q, m = q + 1 := ⟨m - 1, by omega⟩
      have e1 : 10 ^ (m + 1 + 1 - 1) = 10 ^ m * 10 := Nat.pow_succ 10 m
      have e2 : 10 ^ (m + 1 + 1) = 10 ^ (m + 1) * 10 := Nat.pow_succ 10 (m + 1)
      rw [e1] at r1
      rw [e2] at r2
      rw [Nat.add_sub_cancel]
      omega) (by omega)
    have e : kX6_digitsWithoutZero_6 n (fuel + 1) σ (nI r) (nI c) (nI i) = if r % 10 = 0 then some (-1, σ) else kX6_digitsWithoutZero_6 n fuel σ (nI (r / 10)) (nI (c + 1)) (nI (i + 1)) := by
      show kX6_digitsWithoutZero_6_b n _ _ _ _ _ = _
      unfold kX6_digitsWithoutZero_6_b
      rw [if_neg (show ¬ (4 : Int32) ≤ nI i from nI_ge (b := 4) (by omega) (by decide)), if_neg (nI_nle r0 rb), nI_r10 rb, hv_let_e, nI_d10 rb, nI_1, nI_1]
      by_cases h : r % 10 = 0
      · rw [if_pos ((nI_0e (by omega)).mpr h), if_pos h]
      · rw [if_neg (fun q => h ((nI_0e (by omega)).mp q)), if_neg h]
    rw [e]
    by_cases h : r % 10 = 0
    · rw [if_pos h]
      exact ⟨fun q _ => absurd h q.1, fun _ => rfl⟩
    · rw [if_neg h]
      refine ⟨fun h2 _ => ?_, fun h2 => q.2 (fun h3 => h2 ⟨h, h3⟩)⟩
      rw [q.1 h2.2 (by omega), show c + 1 + m = c + (m + 1) by omega]
theorem x6_dzBig {n : Nat} {σ : hv_St} : ∀ (j i c r fuel : Nat), i + j = 4 → 10 ^ j ≤ r → r < 2 ^ 31 → j < fuel → kX6_digitsWithoutZero_6 n fuel σ (nI r) (nI c) (nI i) = some (-1, σ) := by
  intro j
  induction j with
  | zero =>
    intro i c r fuel hi hr hb hf
    obtain ⟨fuel, rfl⟩ : ∃ q, fuel = q + 1 := ⟨fuel - 1, by omega⟩
    show kX6_digitsWithoutZero_6_b n _ _ _ _ _ = _
    unfold kX6_digitsWithoutZero_6_b kX6_digitsWithoutZero_38 kX6_digitsWithoutZero_50
    rw [if_pos (show (4 : Int32) ≤ nI i from nI_le (a := 4) (by omega) (by omega)), if_neg (nI_ne0 (by omega) hb)]
  | succ j ih =>
    intro i c r fuel hi hr hb hf
    obtain ⟨fuel, rfl⟩ : ∃ q, fuel = q + 1 := ⟨fuel - 1, by omega⟩
    have e1 : 10 ^ (j + 1) = 10 ^ j * 10 := Nat.pow_succ 10 j
    have r0 : 0 < r := Nat.lt_of_lt_of_le (Nat.pow_pos (by decide)) hr
    show kX6_digitsWithoutZero_6_b n _ _ _ _ _ = _
    unfold kX6_digitsWithoutZero_6_b
    rw [if_neg (show ¬ (4 : Int32) ≤ nI i from nI_ge (b := 4) (by omega) (by decide)), if_neg (nI_nle r0 hb), nI_r10 hb, hv_let_e, nI_d10 hb, nI_1, nI_1]
    by_cases h : nI (r % 10) = 0
    · rw [if_pos h]
    · rw [if_neg h]
      exact ih (i + 1) (c + 1) (r / 10) fuel (by omega) (by omega) (by omega) (by omega)
theorem r8_train57 {n : Nat} {σ : hv_St} {m d : Nat} (hm : m < 100) : ∀ (e k r fuel : Nat), k + e = m → e < fuel → r < 2 ^ 31 → (fNz e r → kX8_train_57 n fuel σ (nI d) (nI m) (nI r) (nI k) = kX8_train_90 n n σ (nI m) (nI d) (nI m - 1)) ∧ (¬ fNz e r → kX8_train_57 n fuel σ (nI d) (nI m) (nI r) (nI k) = some (-1, σ)) := by
  intro e
  induction e with
  | zero =>
    intro k r fuel hk hf hr
    obtain ⟨fuel, rfl⟩ : ∃ q, fuel = q + 1 := ⟨fuel - 1, by omega⟩
    refine ⟨fun _ => ?_, fun h => absurd trivial h⟩
    show kX8_train_57_b n _ _ _ _ _ _ = _
    unfold kX8_train_57_b
    rw [if_pos (nI_le (by omega) (by omega)), hv_let_e]
  | succ e ih =>
    intro k r fuel hk hf hr
    obtain ⟨fuel, rfl⟩ : ∃ q, fuel = q + 1 := ⟨fuel - 1, by omega⟩
    have q := ih (k + 1) (r / 10) fuel (by omega) (by omega) (by omega)
    have e : kX8_train_57 n (fuel + 1) σ (nI d) (nI m) (nI r) (nI k) = if r % 10 = 0 then some (-1, σ) else kX8_train_57 n fuel σ (nI d) (nI m) (nI (r / 10)) (nI (k + 1)) := by
      show kX8_train_57_b n _ _ _ _ _ _ = _
      unfold kX8_train_57_b
      rw [if_neg (nI_ge (by omega) (by omega)), nI_r10 hr, hv_let_e, nI_d10 hr, nI_1]
      by_cases h : r % 10 = 0
      · rw [if_pos ((nI_0e (by omega)).mpr h), if_pos h]
      · rw [if_neg (fun q => h ((nI_0e (by omega)).mp q)), if_neg h]
    rw [e]
    by_cases h : r % 10 = 0
    · rw [if_pos h]
      exact ⟨fun q => absurd h q.1, fun _ => rfl⟩
    · rw [if_neg h]
      exact ⟨fun h2 => q.1 h2.2, fun h2 => q.2 (fun h3 => h2 ⟨h, h3⟩)⟩
def fWd (f : Nat → Int32) : Nat → Nat → Nat → Int32
  | 0, _ => f
  | j + 1, r => fWd (upd f j (nI (r % 10))) j (r / 10)
theorem fWd_hi : ∀ (j r : Nat) (f : Nat → Int32) (i : Nat), j ≤ i → fWd f j r i = f i
  | 0, _, _, _, _ => rfl
  | j + 1, r, f, i, h => by
    show fWd (upd f j (nI (r % 10))) j (r / 10) i = f i
    rw [fWd_hi j _ _ i (by omega), pk_un (by omega)]
theorem fWd_lo : ∀ (j r : Nat) (f : Nat → Int32) (i : Nat), fNz j r → i < j → ∃ w, fWd f j r i = nI w ∧ 1 ≤ w ∧ w ≤ 9
  | 0, _, _, _, _, h => absurd h (Nat.not_lt_zero _)
  | j + 1, r, f, i, hz, h => by
    show ∃ w, fWd (upd f j (nI (r % 10))) j (r / 10) i = nI w ∧ _
    by_cases e : i = j
    · refine ⟨r % 10, ?_, by have := hz.1; omega, by omega⟩
      rw [fWd_hi j _ _ i (by omega), e, pk_us]
    · exact fWd_lo j _ _ i hz.2 (by omega)
theorem fWd_eq : ∀ (j r : Nat) (f g : Nat → Int32) (N : Nat), (∀ i, i < N → f i = g i) → ∀ i, i < N → fWd f j r i = fWd g j r i
  | 0, _, _, _, _, h => h
  | j + 1, r, f, g, N, h => fWd_eq j (r / 10) _ _ N (fun i hi => by
    show (if i = j then _ else f i) = if i = j then _ else g i
    rw [h i hi])
theorem x6_take {n m : Nat} : ∀ (j r fuel : Nat) (σ : hv_St), j ≤ 4 → j < fuel → r < 2 ^ 31 → kX6_takeWeights_19 n fuel σ (nI m) (nI r) (nI j - 1) = some (nI m, hv_sI (hv_wI σ 24 (fWd (σ.1 24) j r)) 22 1 (nI m)) := by
  intro j
  induction j with
  | zero =>
    intro r fuel σ _ hf hr
    obtain ⟨fuel, rfl⟩ : ∃ q, fuel = q + 1 := ⟨fuel - 1, by omega⟩
    show kX6_takeWeights_19_b n _ _ _ _ _ = _
    unfold kX6_takeWeights_19_b
    rw [if_pos (show nI 0 - 1 < 0 by decide), hv_let_e]
    show _ = some (nI m, hv_sI (hv_wI σ 24 (σ.1 24)) 22 1 (nI m))
    rw [hv_wI_self]
  | succ j ih =>
    intro r fuel σ hj hf hr
    obtain ⟨fuel, rfl⟩ : ∃ q, fuel = q + 1 := ⟨fuel - 1, by omega⟩
    show kX6_takeWeights_19_b n _ _ _ _ _ = _
    unfold kX6_takeWeights_19_b
    rw [nI_pred, if_neg (nI_pos (by omega)), hv_if_t (hv_ok_nI (show j < 4 by omega) (by decide)), hv_let_e, hv_let_e, nI_r10 hr, nI_d10 hr, nI_clamp (by omega), show nI j + -1 = nI j - 1 from (Int32.sub_eq_add_neg _ _).symm, ih (r / 10) fuel _ (by omega) (by omega) (by omega), hv_sI_w σ 24 j, hv_wI_w, hv_wI_at]
    rfl
theorem r8_take {n m : Nat} : ∀ (j r fuel : Nat) (σ : hv_St), j ≤ 4 → j < fuel → r < 2 ^ 31 → kX8_train_90 n fuel σ (nI m) (nI r) (nI j - 1) = some (nI m, hv_sI (hv_wI σ 10 (fWd (σ.1 10) j r)) 0 15 (nI m)) := by
  intro j
  induction j with
  | zero =>
    intro r fuel σ _ hf hr
    obtain ⟨fuel, rfl⟩ : ∃ q, fuel = q + 1 := ⟨fuel - 1, by omega⟩
    show kX8_train_90_b n _ _ _ _ _ = _
    unfold kX8_train_90_b
    rw [if_pos (show nI 0 - 1 < 0 by decide), hv_let_e]
    show _ = some (nI m, hv_sI (hv_wI σ 10 (σ.1 10)) 0 15 (nI m))
    rw [hv_wI_self]
  | succ j ih =>
    intro r fuel σ hj hf hr
    obtain ⟨fuel, rfl⟩ : ∃ q, fuel = q + 1 := ⟨fuel - 1, by omega⟩
    show kX8_train_90_b n _ _ _ _ _ = _
    unfold kX8_train_90_b
    rw [nI_pred, if_neg (nI_pos (by omega)), hv_if_t (hv_ok_nI (show j < 4 by omega) (by decide)), hv_let_e, hv_let_e, nI_r10 hr, nI_d10 hr, nI_clamp (by omega), show nI j + -1 = nI j - 1 from (Int32.sub_eq_add_neg _ _).symm, ih (r / 10) fuel _ (by omega) (by omega) (by omega), hv_sI_w σ 10 j, hv_wI_w, hv_wI_at]
    rfl
theorem dg_size {d : Nat} (h1 : 1 ≤ d) (h2 : d ≤ 9999) : ∃ m, 1 ≤ m ∧ m ≤ 4 ∧ 10 ^ (m - 1) ≤ d ∧ d < 10 ^ m := by
  by_cases a : d < 10
  · exact ⟨1, by decide, by decide, by simpa using h1, by simpa using a⟩
  · by_cases b : d < 100
    · exact ⟨2, by decide, by decide, by simp; omega, by simp; omega⟩
    · by_cases c : d < 1000
      · exact ⟨3, by decide, by decide, by simp; omega, by simp; omega⟩
      · exact ⟨4, by decide, by decide, by simp; omega, by simp; omega⟩
theorem r8_trainM {n : Nat} {σ : hv_St} {d m : Nat} (hm1 : 1 ≤ m) (hm4 : m ≤ 4) (h1 : 10 ^ (m - 1) ≤ d) (h2 : d < 10 ^ m) (h3 : d ≤ 9999) : (if (10 : Int32) ≤ nI d then (if (100 : Int32) ≤ nI d then (if (1000 : Int32) ≤ nI d then (kX8_train_51 n σ (nI d) ((4 : Int32))) else (kX8_train_51 n σ (nI d) ((3 : Int32)))) else (kX8_train_51 n σ (nI d) ((2 : Int32)))) else (kX8_train_51 n σ (nI d) ((1 : Int32)))) = kX8_train_57 n n σ (nI d) (nI m) (nI d) (nI 0) := by
  have a1 : (10 : Int32) ≤ nI d ↔ 10 ≤ d := nI_leI (a := 10) (by decide) (by omega)
  have a2 : (100 : Int32) ≤ nI d ↔ 100 ≤ d := nI_leI (a := 100) (by decide) (by omega)
  have a3 : (1000 : Int32) ≤ nI d ↔ 1000 ≤ d := nI_leI (a := 1000) (by decide) (by omega)
  simp only [a1, a2, a3]
  rcases (show m = 1 ∨ m = 2 ∨ m = 3 ∨ m = 4 by omega) with rfl | rfl | rfl | rfl
  · simp at h1 h2
    rw [if_neg (by omega)]
    rfl
  · simp at h1 h2
    rw [if_pos (by omega), if_neg (by omega)]
    rfl
  · simp at h1 h2
    rw [if_pos (by omega), if_pos (by omega), if_neg (by omega)]
    rfl
  · simp at h1 h2
    rw [if_pos (by omega), if_pos (by omega), if_pos (by omega)]
    rfl
theorem op_train {n : Nat} (hn : 12 < n) {F : Nat → Nat → Int32} {P B O D W : Nat} {σX σM : hv_St} (h : hR F P B O D W σX σM) (v : Int32) : ∃ r σX' σM' F' W', mX7_train n σX v = some (r, σX') ∧ mX8_train n σM v = some (r, σM') ∧ hR F' P B O D W' σX' σM' := by
  obtain ⟨hi, hx, hm⟩ := h
  have hm0 : rM F (hv_sI σM 0 0 0) := rM_sc hm (by decide) 0
  by_cases hv : fRg 9999 v
  · obtain ⟨d, rfl, d1, d2⟩ := fRg_n (by decide) hv
    obtain ⟨m, m1, m4, e1, e2⟩ := dg_size d1 d2
    have cX := x6_dz (n := n) (σ := σX) m 0 0 d n (by omega) (by omega) (by omega) (fun _ => ⟨e1, e2⟩) (by omega)
    have cM := r8_train57 (n := n) (σ := hv_sI σM 0 0 0) (m := m) (d := d) (by omega) m 0 d n (by omega) (by omega) (by omega)
    have pM : mX8_train n σM (nI d) = kX8_train_57 n n (hv_sI σM 0 0 0) (nI d) (nI m) (nI d) (nI 0) := by
      unfold mX8_train
      rw [hv_let_e, show (9999 : Int64) = (nI 9999).toInt64 from rfl, show (1 : Int64) = (1 : Int32).toInt64 from rfl, (r8_inR 9999 (nI d)).1 hv, hv_b2_e, if_neg (by decide)]
      exact r8_trainM m1 m4 e1 e2 d2
    by_cases hz : fNz m d
    · have nm : ¬ nI m = (-1 : Int32) := fun e => nI_pos (n := m) (by omega) (by rw [e]; decide)
      refine ⟨nI m, hv_sI (hv_wI σX 24 (fWd (σX.1 24) m d)) 22 1 (nI m), hv_sI (hv_wI (hv_sI σM 0 0 0) 10 (fWd ((hv_sI σM 0 0 0).1 10) m d)) 0 15 (nI m), fU (fun k => if k = 10 then fWd (F 10) m d else F k) 0 15 (nI m), m, ?_, ?_, ?_, ?_, ?_⟩
      · unfold mX7_train mX6_takeWeights
        rw [show mX6_digitsWithoutZero n σX (nI d) = some (nI (0 + m), σX) from cX.1 hz (by omega), hv_b2_e, Nat.zero_add, if_neg nm, hv_let_e, x6_take m d n σX m4 (by omega) (by omega)]
        rfl
      · rw [pM, cM.1 hz, r8_take m d n _ m4 (by omega) (by omega)]
      · obtain ⟨g1, g2, g3, g4, g5, g6, g7, g8, g9, g10, g11, g12⟩ := hi
        refine ⟨⟨by simp [fU, upd, g1.1], g1.2⟩, ⟨by simp [fU, upd, g2.1], g2.2⟩, ⟨by simp [fU, upd, g3.1], g3.2⟩, ⟨by simp [fU, upd, g4.1], g4.2⟩, ⟨by simp [fU, upd], m4⟩, fun p hp' => by simpa [fU, upd] using g6 p hp', fun b hb => by simpa [fU, upd] using g7 b hb, fun s hs => by simpa [fU, upd] using g8 s hs, fun p hp' => by simpa [fU, upd] using g9 p hp', fun i hi' => by simpa [fU, upd] using g10 i hi', fun i j hi' hj => by simpa [fU, upd] using g11 i j hi' hj, fun i hi' => ?_⟩
        have q := fWd_lo m d (F 10) i hz hi'
        simpa [fU, upd] using q
      · obtain ⟨⟨k1, k2, k3, k4, k5⟩, k6, k7, k8, k9, k10, k11⟩ := hx
        refine ⟨⟨by simp [hv_sI, hv_wI, fU, upd, k1], by simp [hv_sI, hv_wI, fU, upd, k2], by simp [hv_sI, hv_wI, fU, upd, k3], by simp [hv_sI, hv_wI, fU, upd, k4], by simp [hv_sI, hv_wI, fU, upd]⟩, fun p hp' => by simpa [hv_sI, hv_wI, fU, upd] using k6 p hp', fun s hs => by simpa [hv_sI, hv_wI, fU, upd] using k7 s hs, fun p w hp' hw => by simpa [hv_sI, hv_wI, fU, upd] using k8 p w hp' hw, fun b hb => by simpa [hv_sI, hv_wI, fU, upd] using k9 b hb, fun i hi' => by simpa [hv_sI, hv_wI, fU, upd] using k10 i hi', fun i hi' => ?_⟩
        rw [hv_sI_ne _ _ _ (by decide), hv_wI_at, fU_ne _ _ _ (by decide)]
        exact fWd_eq m d _ _ 4 k11 i hi'
      · refine rM_up (F := fun k => if k = 10 then fWd (F 10) m d else F k) ?_ (k := 0) (by decide) 15 _
        obtain ⟨h1, h2⟩ := hm0
        refine ⟨h1, fun k k1 k2 => ?_⟩
        show (if k = 10 then fWd ((hv_sI σM 0 0 0).1 10) m d else (hv_sI σM 0 0 0).1 k) = if k = 10 then fWd (F 10) m d else F k
        rw [h2 10 (by decide) (by decide), h2 k k1 k2]
    · refine ⟨-1, σX, hv_sI σM 0 0 0, F, W, ?_, ?_, hi, hx, hm0⟩
      · unfold mX7_train mX6_takeWeights
        rw [show mX6_digitsWithoutZero n σX (nI d) = some (-1, σX) from cX.2 hz, hv_b2_e, if_pos rfl]
        rfl
      · rw [pM, cM.2 hz]
  · refine ⟨-1, σX, hv_sI σM 0 0 0, F, W, ?_, ?_, hi, hx, hm0⟩
    · have e : mX6_digitsWithoutZero n σX v = some (-1, σX) := by
        by_cases h0 : v ≤ 0
        · obtain ⟨k, rfl⟩ : ∃ k, n = k + 1 := ⟨n - 1, by omega⟩
          show kX6_digitsWithoutZero_6_b (k + 1) (kX6_digitsWithoutZero_6 (k + 1) k) σX v 0 0 = _
          unfold kX6_digitsWithoutZero_6_b kX6_digitsWithoutZero_38 kX6_digitsWithoutZero_50
          rw [if_neg (by decide), if_pos h0]
          by_cases e : v = 0
          · rw [if_pos e]
            rfl
          · rw [if_neg e]
        · have h1 : ¬ v < 0 := fun q => h0 (Int32.le_of_lt q)
          obtain ⟨d, hd, rfl⟩ := nI_of h1
          have hd0 : d ≠ 0 := fun q => h0 (by rw [q]; decide)
          refine x6_dzBig 4 0 0 d n rfl ?_ hd (by omega)
          refine Nat.le_of_not_lt fun q => hv ⟨nI_le (a := 1) (by omega) hd, nI_le (b := 9999) (by omega) (by decide)⟩
      unfold mX7_train mX6_takeWeights
      rw [e, hv_b2_e, if_pos rfl]
      rfl
    · unfold mX8_train
      rw [hv_let_e, show (9999 : Int64) = (nI 9999).toInt64 from rfl, show (1 : Int64) = (1 : Int32).toInt64 from rfl, (r8_inR 9999 v).2 hv, hv_b2_e, if_pos rfl]
