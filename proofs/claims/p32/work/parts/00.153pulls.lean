/-! the class's pulls: units, bare pulls, pairs, overs -/
theorem x5_unit2 {n : Nat} {σ : hv_St} {k : Nat} (hk : k < 2) (q : Int32) : ∀ (d j fuel : Nat) (g : Nat → Int64), j + d = 11 → d < fuel → (∀ i, i < j → g i = 0) → ∃ g', kX5_layUnit_2 n fuel (hv_wJ σ (39 + k) g) (nI k) q (nI j) = kX5_layUnit_25 n n (hv_wJ σ (39 + k) g') (nI k) q 0 ∧ ∀ i, i < 11 → g' i = 0 := by
  intro d
  induction d with
  | zero =>
    intro j fuel g hj hf hg
    obtain ⟨fuel, rfl⟩ : ∃ q, fuel = q + 1 := ⟨fuel - 1, by omega⟩
    refine ⟨g, ?_, fun i hi => hg i (by omega)⟩
    show kX5_layUnit_2_b n _ _ _ _ _ = _
    unfold kX5_layUnit_2_b
    rw [if_pos (show (11 : Int32) ≤ nI j from nI_le (a := 11) (by omega) (by omega))]
  | succ d ih =>
    intro j fuel g hj hf hg
    obtain ⟨fuel, rfl⟩ : ∃ q, fuel = q + 1 := ⟨fuel - 1, by omega⟩
    obtain ⟨g', g1, g2⟩ := ih (j + 1) fuel (vp_updL g j 0) (by omega) (by omega) (fun i hi => by
      by_cases e : i = j
      · rw [e, pk_uLs]
      · rw [pk_uLn e]
        exact hg i (by omega))
    refine ⟨g', ?_, g2⟩
    show kX5_layUnit_2_b n _ _ _ _ _ = _
    unfold kX5_layUnit_2_b
    rw [if_neg (show ¬ (11 : Int32) ≤ nI j from nI_ge (b := 11) (by omega) (by decide)), hv_if_t (hv_ok_nI (show k < 2 by omega) (by decide)), hv_if_t (hv_ok_nI (show j < 11 by omega) (by decide)), hv_let_e, nI_clamp (show k < 2 ^ 31 by omega), nI_clamp (show j < 2 ^ 31 by omega), hv_sJ_wJ, nI_1]
    exact g1
/-- the base's bars, by their rows -/
def xBs (σ : hv_St) (acc : List Nat) : Prop := σ.1 9 5 = nI acc.length ∧ acc.length ≤ 12 ∧ acc.Nodup ∧ ∀ j, j < acc.length → σ.1 12 j = nI (acc.getD j 0) ∧ acc.getD j 0 < 11
theorem getD_inj {l : List Nat} (h : l.Nodup) {i j : Nat} (hi : i < l.length) (hj : j < l.length) (e : l.getD i 0 = l.getD j 0) : i = j := by
  have q := List.pairwise_iff_getElem.mp h
  rw [List.getD_eq_getElem?_getD, List.getD_eq_getElem?_getD, List.getElem?_eq_getElem hi, List.getElem?_eq_getElem hj, Option.getD_some, Option.getD_some] at e
  rcases Nat.lt_trichotomy i j with l' | l' | l'
  · exact absurd e (q i j hi hj l')
  · exact l'
  · exact absurd e.symm (q j i hj hi l')
theorem getD_mem {l : List Nat} {j : Nat} (hj : j < l.length) : l.getD j 0 ∈ l := by
  rw [List.getD_eq_getElem?_getD, List.getElem?_eq_getElem hj, Option.getD_some]
  exact List.getElem_mem _
theorem mem_getD {l : List Nat} {x : Nat} (h : x ∈ l) : ∃ j, j < l.length ∧ l.getD j 0 = x := by
  obtain ⟨j, hj, e⟩ := List.getElem_of_mem h
  refine ⟨j, hj, ?_⟩
  rw [List.getD_eq_getElem?_getD, List.getElem?_eq_getElem hj, Option.getD_some, e]
theorem x5_unit25 {n : Nat} {σ : hv_St} {k q : Nat} (hk : k < 2) (hq : q < 11) {acc : List Nat} (hb : xBs σ acc) {M : Nat → Int} {l : Int} (hM : ∀ j, j < acc.length → σ.2 (27 + j) q = iL (M j)) (hl : σ.2 9 8 = iL l) : ∀ (d j fuel : Nat) (g : Nat → Int64), j + d = acc.length → d < fuel → (∀ i, i < j → g (acc.getD i 0) = iL (-(M i))) → ∃ g', kX5_layUnit_25 n fuel (hv_wJ σ (39 + k) g) (nI k) (nI q) (nI j) = some (hv_wJ σ (39 + k) (vp_updL g' q (iL l))) ∧ (∀ i, i < acc.length → g' (acc.getD i 0) = iL (-(M i))) ∧ ∀ b, b ∉ acc → g' b = g b := by
  obtain ⟨h1, h2, h3, h4⟩ := hb
  intro d
  induction d with
  | zero =>
    intro j fuel g hj hf hg
    obtain ⟨fuel, rfl⟩ : ∃ q, fuel = q + 1 := ⟨fuel - 1, by omega⟩
    refine ⟨g, ?_, fun i hi => hg i (by omega), fun _ _ => rfl⟩
    show kX5_layUnit_25_b n _ _ _ _ _ = _
    unfold kX5_layUnit_25_b
    rw [hv_wJ_1, h1, if_pos (nI_le (by omega) (by omega)), hv_if_t (hv_ok_nI (show k < 2 by omega) (by decide)), hv_if_t (hv_ok_nI (show q < 11 by omega) (by decide)), hv_let_e, nI_clamp (show k < 2 ^ 31 by omega), nI_clamp (show q < 2 ^ 31 by omega), hv_wJ_ne _ _ (show 9 ≠ 39 + k by omega), hl, hv_sJ_wJ]
  | succ d ih =>
    intro j fuel g hj hf hg
    obtain ⟨fuel, rfl⟩ : ∃ q, fuel = q + 1 := ⟨fuel - 1, by omega⟩
    have h4j := h4 j (by omega)
    obtain ⟨g', g1, g2, g3⟩ := ih (j + 1) fuel (vp_updL g (acc.getD j 0) (iL (-(M j)))) (by omega) (by omega) (fun i hi => by
      by_cases e : i = j
      · rw [e, pk_uLs]
      · rw [pk_uLn (fun e2 => e (getD_inj h3 (by omega) (by omega) e2))]
        exact hg i (by omega))
    refine ⟨g', ?_, g2, fun b hb => ?_⟩
    · show kX5_layUnit_25_b n _ _ _ _ _ = _
      unfold kX5_layUnit_25_b
      rw [hv_wJ_1, h1, if_neg (nI_ge (by omega) (by omega)), hv_if_t (hv_ok_nI (show k < 2 by omega) (by decide)), hv_if_t (hv_ok_nI (show j < 12 by omega) (by decide)), hv_if_t (hv_ok_nI (show j < 12 by omega) (by decide)), hv_if_t (hv_ok_nI (show q < 23 by omega) (by decide)), nI_clamp (show j < 2 ^ 31 by omega), h4j.1, hv_if_t (hv_ok_nI h4j.2 (by decide)), hv_let_e, nI_clamp (show k < 2 ^ 31 by omega), nI_clamp (show q < 2 ^ 31 by omega), nI_clamp (show acc.getD j 0 < 2 ^ 31 by omega), hv_wJ_ne _ _ (show 27 + j ≠ 39 + k by omega), hM j (by omega), iL_neg, hv_sJ_wJ, nI_1]
      exact g1
    · rw [g3 b hb, pk_uLn (fun e => hb (by rw [e]; exact getD_mem (by omega)))]
/-- a spare one's unit pulls laid -/
theorem x5_layUnit {n : Nat} (hn : 20 < n) {σ : hv_St} {k q : Nat} (hk : k < 2) (hq : q < 11) {acc : List Nat} (hb : xBs σ acc) {U : Nat → Int} (hM : ∀ j, j < acc.length → σ.2 (27 + j) q = iL (-(U (acc.getD j 0)))) (hl : σ.2 9 8 = iL (U q)) (hU : ∀ b, b < 11 → b ∉ acc → b ≠ q → U b = 0) (hqa : q ∉ acc) : ∃ g, mX5_layUnit n σ (nI k) (nI q) = some (hv_wJ σ (39 + k) g) ∧ ∀ b, b < 11 → g b = iL (U b) := by
  obtain ⟨g, g1, g2⟩ := x5_unit2 (n := n) (σ := σ) hk (nI q) 11 0 n (σ.2 (39 + k)) rfl (by omega) (fun i hi => absurd hi (Nat.not_lt_zero _))
  rw [hv_wJ_self] at g1
  obtain ⟨g', k1, k2, k3⟩ := x5_unit25 (n := n) hk hq hb hM hl acc.length 0 n g (by omega) (by have := hb.2.1; omega) (fun i hi => absurd hi (Nat.not_lt_zero _))
  refine ⟨_, g1.trans k1, fun b hb11 => ?_⟩
  by_cases e : b = q
  · rw [e, pk_uLs]
  · rw [pk_uLn e]
    by_cases hm : b ∈ acc
    · obtain ⟨j, hj, rfl⟩ := mem_getD hm
      rw [k2 j hj, Int.neg_neg]
    · rw [k3 b hm, g2 b hb11, hU b hb11 hm e]
      rfl
theorem x5_bear2 {n : Nat} {σ : hv_St} (q : Nat) : ∀ (d j fuel : Nat) (g : Nat → Int64), j + d = 11 → d < fuel → (∀ i, i < j → g i = 0) → ∃ g', kX5_bear_2 q n fuel (hv_wJ σ 14 g) (nI j) = kX5_bear_23 q n n (hv_wJ σ 14 g') 0 ∧ ∀ i, i < 11 → g' i = 0 := by
  intro d
  induction d with
  | zero =>
    intro j fuel g hj hf hg
    obtain ⟨fuel, rfl⟩ : ∃ q, fuel = q + 1 := ⟨fuel - 1, by omega⟩
    refine ⟨g, ?_, fun i hi => hg i (by omega)⟩
    show kX5_bear_2_b q n _ _ _ = _
    unfold kX5_bear_2_b
    rw [if_pos (show (11 : Int32) ≤ nI j from nI_le (a := 11) (by omega) (by omega))]
  | succ d ih =>
    intro j fuel g hj hf hg
    obtain ⟨fuel, rfl⟩ : ∃ q, fuel = q + 1 := ⟨fuel - 1, by omega⟩
    obtain ⟨g', g1, g2⟩ := ih (j + 1) fuel (vp_updL g j 0) (by omega) (by omega) (fun i hi => by
      by_cases e : i = j
      · rw [e, pk_uLs]
      · rw [pk_uLn e]
        exact hg i (by omega))
    refine ⟨g', ?_, g2⟩
    show kX5_bear_2_b q n _ _ _ = _
    unfold kX5_bear_2_b
    rw [if_neg (show ¬ (11 : Int32) ≤ nI j from nI_ge (b := 11) (by omega) (by decide)), hv_if_t (hv_ok_nI (show j < 11 by omega) (by decide)), hv_let_e, nI_clamp (show j < 2 ^ 31 by omega), hv_sJ_wJ, nI_1]
    exact g1
theorem x5_bear39 {n : Nat} {σ : hv_St} {q : Nat} {r23 : hv_St → Int32 → Option hv_St} {N B : Nat} (hN : σ.1 9 4 = nI N) (hBN : B ≤ 11 ∧ N ≤ 12) (hB : σ.1 1 1 = nI B) {acc : List Nat} (hb : xBs σ acc) {sl : Nat → Nat} (hs : ∀ c, c < N → σ.1 11 c = nI (sl c) ∧ sl c < 12) {z : Nat → Int} (hz : ∀ s, s < 12 → σ.1 q s = iI (z s) ∧ (z s).natAbs ≤ 9) {j : Nat} (hj : j < acc.length) {M : Nat → Int} (hM : ∀ c, c < N → σ.2 (27 + j) (B + c) = iL (M c)) {g : Nat → Int64} : ∀ (d c fuel : Nat), c + d = N → d < fuel → kX5_bear_39 q n r23 fuel (hv_wJ σ 14 g) (nI j) (iL (sumK (fun c => M c * z (sl c)) c)) (nI c) = r23 (hv_wJ σ 14 (vp_updL g (acc.getD j 0) (iL (-(sumK (fun c => M c * z (sl c)) N))))) (nI (j + 1)) := by
  obtain ⟨h1, h2, h3, h4⟩ := hb
  have h4j := h4 j hj
  intro d
  induction d with
  | zero =>
    intro c fuel hc hf
    obtain ⟨fuel, rfl⟩ : ∃ q, fuel = q + 1 := ⟨fuel - 1, by omega⟩
    obtain rfl : c = N := by omega
    show kX5_bear_39_b q n r23 _ _ _ _ _ = _
    unfold kX5_bear_39_b
    rw [hv_wJ_1, hN, if_pos (nI_le (Nat.le_refl _) (by omega)), hv_if_t (hv_ok_nI (show j < 12 by omega) (by decide)), nI_clamp (show j < 2 ^ 31 by omega), h4j.1, hv_if_t (hv_ok_nI h4j.2 (by decide)), hv_let_e, nI_clamp (by omega), iL_neg, hv_sJ_wJ, nI_1]
  | succ d ih =>
    intro c fuel hc hf
    obtain ⟨fuel, rfl⟩ : ∃ q, fuel = q + 1 := ⟨fuel - 1, by omega⟩
    have hsc := hs c (by omega)
    have hzc := hz (sl c) hsc.2
    rw [← ih (c + 1) fuel (by omega) (by omega)]
    show kX5_bear_39_b q n r23 _ _ _ _ _ = _
    unfold kX5_bear_39_b
    rw [hv_wJ_1, hN, if_neg (nI_ge (by omega) (by omega)), hv_if_t (hv_ok_nI (show j < 12 by omega) (by decide)), hB, nI_add, hv_if_t (hv_ok_nI (show B + c < 23 by omega) (by decide)), hv_if_t (hv_ok_nI (show c < 12 by omega) (by decide)), nI_clamp (show c < 2 ^ 31 by omega), hsc.1, hv_if_t (hv_ok_nI hsc.2 (by decide)), hv_let_e, nI_clamp (show j < 2 ^ 31 by omega), nI_clamp (show B + c < 2 ^ 31 by omega), nI_clamp (show sl c < 2 ^ 31 by omega), hv_wJ_ne _ _ (show 27 + j ≠ 14 by omega), hM c (by omega), hzc.1, iI_L ⟨by omega, by omega⟩, iL_mul, iL_add, nI_1]
    rfl
theorem x5_bear23 {n : Nat} (hn : 20 < n) {σ : hv_St} {q : Nat} {N B : Nat} (hN : σ.1 9 4 = nI N) (hBN : B ≤ 11 ∧ N ≤ 12) (hB : σ.1 1 1 = nI B) {acc : List Nat} (hb : xBs σ acc) {sl : Nat → Nat} (hs : ∀ c, c < N → σ.1 11 c = nI (sl c) ∧ sl c < 12) {z : Nat → Int} (hz : ∀ s, s < 12 → σ.1 q s = iI (z s) ∧ (z s).natAbs ≤ 9) {M : Nat → Nat → Int} (hM : ∀ j c, j < acc.length → c < N → σ.2 (27 + j) (B + c) = iL (M j c)) : ∀ (d j fuel : Nat) (g : Nat → Int64), j + d = acc.length → d < fuel → (∀ i, i < j → g (acc.getD i 0) = iL (-(sumK (fun c => M i c * z (sl c)) N))) → ∃ g', kX5_bear_23 q n fuel (hv_wJ σ 14 g) (nI j) = some (hv_wJ σ 14 g') ∧ (∀ i, i < acc.length → g' (acc.getD i 0) = iL (-(sumK (fun c => M i c * z (sl c)) N))) ∧ ∀ b, b ∉ acc → g' b = g b := by
  intro d
  induction d with
  | zero =>
    intro j fuel g hj hf hg
    obtain ⟨fuel, rfl⟩ : ∃ q, fuel = q + 1 := ⟨fuel - 1, by omega⟩
    refine ⟨g, ?_, fun i hi => hg i (by omega), fun _ _ => rfl⟩
    show kX5_bear_23_b q n _ _ _ = _
    unfold kX5_bear_23_b
    rw [hv_wJ_1, hb.1, if_pos (nI_le (by omega) (by have := hb.2.1; omega))]
  | succ d ih =>
    intro j fuel g hj hf hg
    obtain ⟨fuel, rfl⟩ : ∃ q, fuel = q + 1 := ⟨fuel - 1, by omega⟩
    have h12 := hb.2.1
    obtain ⟨g', g1, g2, g3⟩ := ih (j + 1) fuel (vp_updL g (acc.getD j 0) (iL (-(sumK (fun c => M j c * z (sl c)) N)))) (by omega) (by omega) (fun i hi => by
      by_cases e : i = j
      · rw [e, pk_uLs]
      · rw [pk_uLn (fun e2 => e (getD_inj hb.2.2.1 (by omega) (by omega) e2))]
        exact hg i (by omega))
    refine ⟨g', ?_, g2, fun b hb' => ?_⟩
    · show kX5_bear_23_b q n _ _ _ = _
      unfold kX5_bear_23_b
      rw [hv_wJ_1, hb.1, if_neg (nI_ge (by omega) (by omega))]
      rw [← g1]
      exact x5_bear39 (n := n) (r23 := kX5_bear_23 q n fuel) hN hBN hB hb hs hz (show j < acc.length by omega) (M := M j) (fun c hc => hM j c (by omega) hc) (g := g) N 0 n (by omega) (by omega)
    · rw [g3 b hb', pk_uLn (fun e => hb' (by rw [e]; exact getD_mem (by omega)))]
/-- the bare pulls laid -/
theorem x5_bear {n : Nat} (hn : 20 < n) {σ : hv_St} {q : Nat} {N B : Nat} (hN : σ.1 9 4 = nI N) (hBN : B ≤ 11 ∧ N ≤ 12) (hB : σ.1 1 1 = nI B) {acc : List Nat} (hb : xBs σ acc) {sl : Nat → Nat} (hs : ∀ c, c < N → σ.1 11 c = nI (sl c) ∧ sl c < 12) {z : Nat → Int} (hz : ∀ s, s < 12 → σ.1 q s = iI (z s) ∧ (z s).natAbs ≤ 9) {M : Nat → Nat → Int} (hM : ∀ j c, j < acc.length → c < N → σ.2 (27 + j) (B + c) = iL (M j c)) {V : Nat → Int} (hV : ∀ j, j < acc.length → V (acc.getD j 0) = -(sumK (fun c => M j c * z (sl c)) N)) (hV0 : ∀ b, b < 11 → b ∉ acc → V b = 0) : ∃ g, mX5_bear n σ q = some (hv_wJ σ 14 g) ∧ ∀ b, b < 11 → g b = iL (V b) := by
  obtain ⟨g, g1, g2⟩ := x5_bear2 (n := n) (σ := σ) q 11 0 n (σ.2 14) rfl (by omega) (fun i hi => absurd hi (Nat.not_lt_zero _))
  rw [hv_wJ_self] at g1
  obtain ⟨g', k1, k2, k3⟩ := x5_bear23 (n := n) hn hN hBN hB hb hs hz hM acc.length 0 n g (by omega) (by have := hb.2.1; omega) (fun i hi => absurd hi (Nat.not_lt_zero _))
  refine ⟨g', g1.trans k1, fun b hb11 => ?_⟩
  by_cases hm : b ∈ acc
  · obtain ⟨j, hj, rfl⟩ := mem_getD hm
    rw [k2 j hj, hV j hj]
  · rw [k3 b hm, g2 b hb11, hV0 b hb11 hm]
    rfl
/-- what the pulls' cells hold: m spare ones, units U, bare pulls V -/
def xPu (B : Nat) (σ : hv_St) (m : Nat) (U : Nat → Nat → Int) (V : Nat → Int) : Prop := σ.1 13 5 = nI m ∧ (∀ k b, k < m → b < B → σ.2 (39 + k) b = iL (U k b)) ∧ ∀ b, b < B → σ.2 14 b = iL (V b)
def gF (F : Nat → Nat → Int32) (B : Nat) (σ : hv_St) : Prop := σ.1 1 1 = nI B ∧ B ≤ 11 ∧ ∀ b, b < B → σ.1 7 b = iI (gv F b) ∧ 1 ≤ gv F b ∧ gv F b ≤ 3
theorem x5_stateOf {n : Nat} {B : Nat} (hB : B ≤ 11) {σ : hv_St} {m : Nat} (hm2 : m ≤ 2) (hm : σ.1 13 5 = nI m) {k b : Nat} (hb : b < B) {v : Int} : (k < m → σ.2 (39 + k) b = iL v → mX5_stateOf n σ (nI k) (nI b) = some (iL v, σ)) ∧ ∀ w : Int32, ¬ fN m w → σ.2 14 b = iL v → mX5_stateOf n σ w (nI b) = some (iL v, σ) := by
  have sp : ∀ w : Int32, (fN m w → mX5_isSpare n σ w = some (1, σ)) ∧ (¬ fN m w → mX5_isSpare n σ w = some (0, σ)) := fun w => by
    unfold mX5_isSpare kX5_isSpare_16
    rw [hm]
    by_cases h1 : w < 0
    · rw [if_pos h1]
      exact ⟨fun h => absurd h1 ((fN_iff (by omega) w).mp h).1, fun _ => rfl⟩
    · rw [if_neg h1]
      by_cases h2 : nI m ≤ w
      · rw [if_pos h2]
        exact ⟨fun h => absurd h2 ((fN_iff (by omega) w).mp h).2, fun _ => rfl⟩
      · rw [if_neg h2]
        exact ⟨fun _ => rfl, fun h => absurd ((fN_iff (by omega) w).mpr ⟨h1, h2⟩) h⟩
  refine ⟨fun hk e => ?_, fun w hw e => ?_⟩
  · unfold mX5_stateOf
    rw [(sp (nI k)).1 ⟨k, hk, rfl⟩, hv_b2_e, if_neg (by decide), hv_if_t (hv_ok_nI (show k < 2 by omega) (by decide)), hv_if_t (hv_ok_nI (show b < 11 by omega) (by decide)), nI_clamp (by omega), nI_clamp (by omega), e]
  · unfold mX5_stateOf
    rw [(sp w).2 hw, hv_b2_e, if_pos rfl, hv_if_t (hv_ok_nI (show b < 11 by omega) (by decide)), nI_clamp (by omega), e]
theorem x5_isSpare {n : Nat} {σ : hv_St} {m : Nat} (hm2 : m ≤ 2) (hm : σ.1 13 5 = nI m) (w : Int32) : (fN m w → mX5_isSpare n σ w = some (1, σ)) ∧ (¬ fN m w → mX5_isSpare n σ w = some (0, σ)) := by
  unfold mX5_isSpare kX5_isSpare_16
  rw [hm]
  by_cases h1 : w < 0
  · rw [if_pos h1]
    exact ⟨fun h => absurd h1 ((fN_iff (by omega) w).mp h).1, fun _ => rfl⟩
  · rw [if_neg h1]
    by_cases h2 : nI m ≤ w
    · rw [if_pos h2]
      exact ⟨fun h => absurd h2 ((fN_iff (by omega) w).mp h).2, fun _ => rfl⟩
    · rw [if_neg h2]
      exact ⟨fun _ => rfl, fun h => absurd ((fN_iff (by omega) w).mpr ⟨h1, h2⟩) h⟩
/-- what two states give together; x, y: a spare one's number, or none -/
theorem x5_giving {n : Nat} (hn : 20 < n) {F : Nat → Nat → Int32} {B : Nat} {σ : hv_St} (hg : gF F B σ) {x y : Int32} {X Y : Nat → Int} (hx : ∀ b, b < B → mX5_stateOf n σ x (nI b) = some (iL (X b), σ)) (hy : ∀ b, b < B → mX5_stateOf n σ y (nI b) = some (iL (Y b), σ)) : mX5_giving n σ x y = some (iL (sumK (fun b => gv F b * X b * Y b) B), σ) := by
  obtain ⟨h1, h2, h3⟩ := hg
  have loop : ∀ (d b fuel : Nat), b + d = B → d < fuel → kX5_giving_5 n fuel σ x y (iL (sumK (fun b => gv F b * X b * Y b) b)) (nI b) = some (iL (sumK (fun b => gv F b * X b * Y b) B), σ) := by
    intro d
    induction d with
    | zero =>
      intro b fuel hb hf
      obtain ⟨fuel, rfl⟩ : ∃ q, fuel = q + 1 := ⟨fuel - 1, by omega⟩
      obtain rfl : b = B := by omega
      show kX5_giving_5_b n _ _ _ _ _ _ = _
      unfold kX5_giving_5_b
      rw [h1, if_pos (nI_le (Nat.le_refl _) (by omega))]
    | succ d ih =>
      intro b fuel hb hf
      obtain ⟨fuel, rfl⟩ : ∃ q, fuel = q + 1 := ⟨fuel - 1, by omega⟩
      have h3b := h3 b (by omega)
      rw [← ih (b + 1) fuel (by omega) (by omega)]
      show kX5_giving_5_b n _ _ _ _ _ _ = _
      unfold kX5_giving_5_b
      rw [h1, if_neg (nI_ge (by omega) (by omega)), hv_if_t (hv_ok_nI (show b < 11 by omega) (by decide)), hx b (by omega), hv_b2_e, hy b (by omega), hv_b2_e, hv_let_e, nI_clamp (by omega), h3b.1, iI_L ⟨by omega, by omega⟩, iL_mul, iL_mul, iL_add, nI_1]
      rfl
  exact loop B 0 n (by omega) (by omega)
