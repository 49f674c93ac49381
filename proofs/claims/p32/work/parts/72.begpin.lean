/-! begins: the pins -/
def tB (F : Nat → Nat → Int32) (P B O : Nat) (τ : hv_St) : Prop := τ.1 1 7 = nI P ∧ τ.1 1 8 = nI B ∧ τ.1 1 9 = nI O ∧ (∀ p, p < P → τ.1 2 p = F 1 p ∧ τ.1 3 p = F 2 p) ∧ ∀ b, b < B → τ.1 6 b = F 5 b ∧ τ.1 7 b = F 6 b ∧ τ.1 8 b = F 7 b
theorem tB_ne {F : Nat → Nat → Int32} {P B O : Nat} {τ : hv_St} (h : tB F P B O τ) {i : Nat} (k : Nat) (v : Int32) (hi : i = 0 ∨ i = 4 ∨ i = 5) : tB F P B O (hv_sI τ i k v) := by
  have e : ∀ j, j ≠ i → (hv_sI τ i k v).1 j = τ.1 j := fun j hj => hv_sI_ne τ k v hj
  obtain ⟨h1, h2, h3, h4, h5⟩ := h
  refine ⟨by rw [e 1 (by omega)]; exact h1, by rw [e 1 (by omega)]; exact h2, by rw [e 1 (by omega)]; exact h3, fun p hp => ?_, fun b hb => ?_⟩
  · rw [e 2 (by omega), e 3 (by omega)]
    exact h4 p hp
  · rw [e 6 (by omega), e 7 (by omega), e 8 (by omega)]
    exact h5 b hb
def fDp (F : Nat → Nat → Int32) (P : Nat) : Prop := ∀ p q, p < q → q < P → ¬ (F 1 p = F 1 q ∧ F 2 p = F 2 q)
def bgP (F : Nat → Nat → Int32) (P : Nat) (σ τ : hv_St) : Prop := hI F P 0 0 0 0 ∧ rX F σ ∧ tB F P 0 0 τ ∧ fDp F P ∧ ∀ p, F 3 p = 0
theorem bg_48_0 {n : Nat} {r19 : hv_St → hv_St → Int32 → Option (hv_St × hv_St)} {σ τ : hv_St} {P : Nat} (hP : P ≤ 6) (hs : τ.1 1 7 = nI P) {xN x y : Int32} : ∀ (d k fuel : Nat), k + d = P → d < fuel → kQ_begins_48 n r19 fuel σ τ xN x y 0 (nI k) = hv_b2 (mX7_pin n σ x y) fun r s => kQ_begins_124 n r19 s τ xN x y 0 r (-1) r := by
  intro d
  induction d with
  | zero =>
    intro k fuel hk hf
    obtain ⟨fuel, rfl⟩ : ∃ q, fuel = q + 1 := ⟨fuel - 1, by omega⟩
    show kQ_begins_48_b n r19 _ σ τ xN x y 0 (nI k) = _
    unfold kQ_begins_48_b
    rw [hs, if_pos (nI_le (by omega) (by omega))]
    rfl
  | succ d ih =>
    intro k fuel hk hf
    obtain ⟨fuel, rfl⟩ : ∃ q, fuel = q + 1 := ⟨fuel - 1, by omega⟩
    show kQ_begins_48_b n r19 _ σ τ xN x y 0 (nI k) = _
    unfold kQ_begins_48_b
    rw [hs, if_neg (nI_ge (by omega) (by omega)), if_pos rfl]
    unfold kQ_begins_90 kQ_begins_91
    rw [nI_1]
    exact ih (k + 1) fuel (by omega) (by omega)
theorem bg_48_1 {n : Nat} {r19 : hv_St → hv_St → Int32 → Option (hv_St × hv_St)} {σ τ : hv_St} {P : Nat} (hP : P ≤ 6) (hs : τ.1 1 7 = nI P) {xN x y : Int32} : ∀ (d k fuel : Nat), k + d = P → d < fuel → ((∃ p, k ≤ p ∧ p < P ∧ τ.1 2 p = x ∧ τ.1 3 p = y) → kQ_begins_48 n r19 fuel σ τ xN x y 1 (nI k) = hv_b2 (mX7_pin n σ x y) fun r s => kQ_begins_124 n r19 s τ xN x y 0 r (-1) r) ∧ ((¬ ∃ p, k ≤ p ∧ p < P ∧ τ.1 2 p = x ∧ τ.1 3 p = y) → kQ_begins_48 n r19 fuel σ τ xN x y 1 (nI k) = hv_b2 (mX7_pin n σ x y) fun r s => kQ_begins_124 n r19 s τ xN x y 1 r (τ.1 1 7) r) := by
  intro d
  induction d with
  | zero =>
    intro k fuel hk hf
    obtain ⟨fuel, rfl⟩ : ∃ q, fuel = q + 1 := ⟨fuel - 1, by omega⟩
    refine ⟨fun ⟨p, h1, h2, _⟩ => by omega, fun _ => ?_⟩
    show kQ_begins_48_b n r19 _ σ τ xN x y 1 (nI k) = _
    unfold kQ_begins_48_b
    rw [if_pos (by rw [hs]; exact nI_le (by omega) (by omega))]
    rfl
  | succ d ih =>
    intro k fuel hk hf
    obtain ⟨fuel, rfl⟩ : ∃ q, fuel = q + 1 := ⟨fuel - 1, by omega⟩
    have hi := ih (k + 1) fuel (by omega) (by omega)
    have h0 := bg_48_0 (n := n) (r19 := r19) (σ := σ) (xN := xN) (x := x) (y := y) hP hs d (k + 1) fuel (by omega) (by omega)
    have e : kQ_begins_48 n r19 (fuel + 1) σ τ xN x y 1 (nI k) = if τ.1 2 k = x ∧ τ.1 3 k = y then kQ_begins_48 n r19 fuel σ τ xN x y 0 (nI (k + 1)) else kQ_begins_48 n r19 fuel σ τ xN x y 1 (nI (k + 1)) := by
      show kQ_begins_48_b n r19 _ σ τ xN x y 1 (nI k) = _
      unfold kQ_begins_48_b
      rw [if_neg (by rw [hs]; exact nI_ge (by omega) (by omega)), if_neg (by decide)]
      unfold kQ_begins_90 kQ_begins_86 kQ_begins_91
      simp only [nI_1, hv_if_t (hv_ok_nI (show k < 6 by omega) (by decide)), nI_clamp (show k < 2 ^ 31 by omega)]
      by_cases c1 : τ.1 2 k = x
      · rw [if_pos c1]
        by_cases c2 : τ.1 3 k = y
        · rw [if_pos c2, if_pos ⟨c1, c2⟩]
        · rw [if_neg c2, if_neg (fun q => c2 q.2)]
      · rw [if_neg c1, if_neg (fun q => c1 q.1)]
    rw [e]
    by_cases c : τ.1 2 k = x ∧ τ.1 3 k = y
    · rw [if_pos c]
      exact ⟨fun _ => h0, fun h => absurd ⟨k, Nat.le_refl _, by omega, c⟩ h⟩
    · rw [if_neg c]
      refine ⟨fun ⟨p, h1, h2, h3⟩ => hi.1 ⟨p, ?_, h2, h3⟩, fun h => hi.2 (fun ⟨p, h1, h2, h3⟩ => h ⟨p, by omega, h2, h3⟩)⟩
      by_cases ep : p = k
      · subst ep
        exact absurd h3 c
      · omega
theorem bg_try {n : Nat} (hn : 100 < n) {N P d fuel : Nat} {σ τ : hv_St} {F : Nat → Nat → Int32} (hP : P < N) (hN : N ≤ 5) (h : bgP F P σ τ) (hd : τ.1 0 0 = nI d) : ((∃ p, p < P ∧ F 1 p = nI (lcX (lcF d)) ∧ F 2 p = nI (lcY (lcF (lcF d)))) → ∃ τ', bgP F P σ τ' ∧ τ'.1 0 0 = nI (lcF (lcF d)) ∧ kQ_begins_19 n (fuel + 1) σ τ (nI N) = kQ_begins_19 n fuel σ τ' (nI N)) ∧ ((¬ ∃ p, p < P ∧ F 1 p = nI (lcX (lcF d)) ∧ F 2 p = nI (lcY (lcF (lcF d)))) → ∃ F' σ' τ', bgP F' (P + 1) σ' τ' ∧ τ'.1 0 0 = nI (lcF (lcF d)) ∧ kQ_begins_19 n (fuel + 1) σ τ (nI N) = kQ_begins_19 n fuel σ' τ' (nI N)) := by
  obtain ⟨hi, hx, ht, hdp, h3⟩ := h
  have d1 : (hv_sI τ 0 0 (nI (lcF d))).1 0 0 = nI (lcF d) := by rw [hv_sI_rd, if_pos rfl]
  have ht2 : tB F P 0 0 (hv_sI (hv_sI τ 0 0 (nI (lcF d))) 0 0 (nI (lcF (lcF d)))) := tB_ne (tB_ne ht 0 _ (Or.inl rfl)) 0 _ (Or.inl rfl)
  have d2 : (hv_sI (hv_sI τ 0 0 (nI (lcF d))) 0 0 (nI (lcF (lcF d)))).1 0 0 = nI (lcF (lcF d)) := by rw [hv_sI_rd, if_pos rfl]
  have E : kQ_begins_19 n (fuel + 1) σ τ (nI N) = kQ_begins_48 n (kQ_begins_19 n fuel) n σ (hv_sI (hv_sI τ 0 0 (nI (lcF d))) 0 0 (nI (lcF (lcF d)))) (nI N) (nI (lcX (lcF d))) (nI (lcY (lcF (lcF d)))) 1 (nI 0) := by
    show kQ_begins_19_b n _ σ τ (nI N) = _
    unfold kQ_begins_19_b
    rw [if_neg (by rw [ht.1]; exact nI_ge hP (by omega)), show (4 : Int32) = nI 4 from rfl, lc_next hd (by decide) (by decide), hv_b2_e, show (3 : Int32) = nI 3 from rfl, lc_next d1 (by decide) (by decide), hv_b2_e]
    rfl
  generalize hv_sI (hv_sI τ 0 0 (nI (lcF d))) 0 0 (nI (lcF (lcF d))) = τ2 at ht2 d2 E
  have hxl : lcX (lcF d) < 4 := Nat.mod_lt _ (by decide)
  have hyl : lcY (lcF (lcF d)) < 3 := Nat.mod_lt _ (by decide)
  generalize lcX (lcF d) = X at *
  generalize lcY (lcF (lcF d)) = Y at *
  have hpl : fPl (nI X) (nI Y) := ⟨⟨X, hxl, rfl⟩, ⟨Y, hyl, rfl⟩⟩
  obtain ⟨p1, p2⟩ := xp_pin hn hi hx (by omega) hpl
  obtain ⟨l1, l2⟩ := bg_48_1 (n := n) (r19 := kQ_begins_19 n fuel) (σ := σ) (xN := nI N) (x := nI X) (y := nI Y) (P := P) (by omega) ht2.1 P 0 n (by omega) (by omega)
  constructor
  · rintro ⟨p, q1, q2, q3⟩
    refine ⟨τ2, ⟨hi, hx, ht2, hdp, h3⟩, d2, ?_⟩
    rw [E, l1 ⟨p, Nat.zero_le _, q1, (ht2.2.2.2.1 p q1).1.trans q2, (ht2.2.2.2.1 p q1).2.trans q3⟩, p1 ⟨p, q1, q2, q3⟩, hv_b2_e]
    unfold kQ_begins_124
    rw [if_pos rfl, if_pos rfl]
    rfl
  · intro hh
    obtain ⟨σ', e1, e2, e3⟩ := p2 hh
    refine ⟨_, σ', hv_sI (hv_sI (hv_sI τ2 2 P (nI X)) 3 P (nI Y)) 1 7 (nI (P + 1)), ⟨e2, e3, ⟨?_, ?_, ?_, fun p hp => ?_, fun b hb => absurd hb (Nat.not_lt_zero _)⟩, fun p q hpq hq => ?_, fun p => ?_⟩, ?_, ?_⟩
    · rw [hv_sI_rd, if_pos rfl]
    · rw [hv_sI_rd, if_neg (by decide), hv_sI_ne _ _ _ (by decide), hv_sI_ne _ _ _ (by decide)]
      exact ht2.2.1
    · rw [hv_sI_rd, if_neg (by decide), hv_sI_ne _ _ _ (by decide), hv_sI_ne _ _ _ (by decide)]
      exact ht2.2.2.1
    · have a1 : (hv_sI (hv_sI (hv_sI τ2 2 P (nI X)) 3 P (nI Y)) 1 7 (nI (P + 1))).1 2 p = if p = P then nI X else τ2.1 2 p := by
        rw [hv_sI_ne _ _ _ (by decide), hv_sI_ne _ _ _ (by decide), hv_sI_rd]
      have a2 : (hv_sI (hv_sI (hv_sI τ2 2 P (nI X)) 3 P (nI Y)) 1 7 (nI (P + 1))).1 3 p = if p = P then nI Y else τ2.1 3 p := by
        rw [hv_sI_ne _ _ _ (by decide), hv_sI_rd, hv_sI_ne _ _ _ (by decide)]
      have b1 : fU (fU (fU F 1 P (nI X)) 2 P (nI Y)) 0 1 (nI (P + 1)) 1 p = if p = P then nI X else F 1 p := by
        rw [fU_ne _ _ _ (by decide), fU_ne _ _ _ (by decide), fU_at]
      have b2 : fU (fU (fU F 1 P (nI X)) 2 P (nI Y)) 0 1 (nI (P + 1)) 2 p = if p = P then nI Y else F 2 p := by
        rw [fU_ne _ _ _ (by decide), fU_at, fU_ne _ _ _ (by decide)]
      rw [a1, a2, b1, b2]
      by_cases ep : p = P
      · rw [if_pos ep, if_pos ep, if_pos ep, if_pos ep]
        exact ⟨rfl, rfl⟩
      · rw [if_neg ep, if_neg ep, if_neg ep, if_neg ep]
        exact ht2.2.2.2.1 p (by omega)
    · have b1 : ∀ p, fU (fU (fU F 1 P (nI X)) 2 P (nI Y)) 0 1 (nI (P + 1)) 1 p = if p = P then nI X else F 1 p := fun p => by
        rw [fU_ne _ _ _ (by decide), fU_ne _ _ _ (by decide), fU_at]
      have b2 : ∀ p, fU (fU (fU F 1 P (nI X)) 2 P (nI Y)) 0 1 (nI (P + 1)) 2 p = if p = P then nI Y else F 2 p := fun p => by
        rw [fU_ne _ _ _ (by decide), fU_at, fU_ne _ _ _ (by decide)]
      rw [b1, b1, b2, b2, if_neg (show ¬ p = P by omega), if_neg (show ¬ p = P by omega)]
      by_cases eq : q = P
      · rw [if_pos eq, if_pos eq]
        exact fun r => hh ⟨p, by omega, r.1, r.2⟩
      · rw [if_neg eq, if_neg eq]
        exact hdp p q hpq (by omega)
    · rw [fU_ne _ _ _ (by decide), fU_ne _ _ _ (by decide), fU_ne _ _ _ (by decide)]
      exact h3 p
    · rw [hv_sI_ne _ _ _ (by decide), hv_sI_ne _ _ _ (by decide), hv_sI_ne _ _ _ (by decide)]
      exact d2
    · rw [E, l2 (fun ⟨p, _, q1, q2, q3⟩ => hh ⟨p, q1, (ht2.2.2.2.1 p q1).1.symm.trans q2, (ht2.2.2.2.1 p q1).2.symm.trans q3⟩), e1, hv_b2_e]
      unfold kQ_begins_124
      have s1 : (hv_sI (hv_sI τ2 2 P (nI X)) 3 P (nI Y)).1 1 7 = nI P := by rw [hv_sI_ne _ _ _ (by decide), hv_sI_ne _ _ _ (by decide)]; exact ht2.1
      rw [if_pos ht2.1.symm, if_neg (by decide)]
      simp only [hv_if_t (hv_ok_nI (show P < 6 by omega) (by decide)), nI_clamp (show P < 2 ^ 31 by omega), hv_let_e, s1, nI_1]
      rfl
theorem lcI_d (k d : Nat) : lcI (k + 2) d = lcI k (lcF (lcF d)) := by
  rw [show k + 2 = (k + 1) + 1 from rfl, lcI_s, lcI_s]
theorem lcI_2 (d : Nat) : lcI 2 d = lcF (lcF d) := by
  rw [show 2 = 0 + 2 from rfl, lcI_d, lcI_z]
theorem bg_find {n : Nat} (hn : 100 < n) {N P : Nat} (hP : P < N) (hN : N ≤ 5) : ∀ (j d fuel : Nat) (σ τ : hv_St) (F : Nat → Nat → Int32), bgP F P σ τ → τ.1 0 0 = nI d → (∀ p, p < P → ¬ (F 1 p = nI (lcX (lcI (2 * j + 1) d)) ∧ F 2 p = nI (lcY (lcI (2 * j + 2) d)))) → j < fuel → ∃ fuel' d' F' σ' τ', fuel ≤ fuel' + j + 1 ∧ bgP F' (P + 1) σ' τ' ∧ τ'.1 0 0 = nI d' ∧ kQ_begins_19 n fuel σ τ (nI N) = kQ_begins_19 n fuel' σ' τ' (nI N) := by
  intro j
  induction j with
  | zero =>
    intro d fuel σ τ F h hd hj hf
    obtain ⟨fuel, rfl⟩ : ∃ q, fuel = q + 1 := ⟨fuel - 1, by omega⟩
    obtain ⟨F', σ', τ', t1, t2, t3⟩ := (bg_try (fuel := fuel) hn hP hN h hd).2 (fun ⟨p, q1, q2⟩ => hj p q1 (by rw [Nat.mul_zero, Nat.zero_add, Nat.zero_add, lcI_1, lcI_2]; exact q2))
    exact ⟨fuel, _, F', σ', τ', by omega, t1, t2, t3⟩
  | succ j ih =>
    intro d fuel σ τ F h hd hj hf
    obtain ⟨fuel, rfl⟩ : ∃ q, fuel = q + 1 := ⟨fuel - 1, by omega⟩
    by_cases c : ∃ p, p < P ∧ F 1 p = nI (lcX (lcF d)) ∧ F 2 p = nI (lcY (lcF (lcF d)))
    · obtain ⟨τ', t1, t2, t3⟩ := (bg_try (fuel := fuel) hn hP hN h hd).1 c
      obtain ⟨f', d', F', σ', τ'', u0, u1, u2, u3⟩ := ih (lcF (lcF d)) fuel σ τ' F t1 t2 (fun p hp r => hj p hp (by rw [Nat.mul_succ, Nat.add_right_comm, lcI_d, Nat.add_assoc (2 * j) 2 2, ← Nat.add_assoc (2 * j) 2 2, lcI_d]; exact r)) (by omega)
      exact ⟨f', d', F', σ', τ'', by omega, u1, u2, t3.trans u3⟩
    · obtain ⟨F', σ', τ', t1, t2, t3⟩ := (bg_try (fuel := fuel) hn hP hN h hd).2 c
      exact ⟨fuel, _, F', σ', τ', by omega, t1, t2, t3⟩
theorem fN_clamp {N : Nat} {v : Int32} (h : fN N v) (hN : N < 2 ^ 31) : v = nI v.toNatClampNeg ∧ v.toNatClampNeg < N := by
  obtain ⟨k, hk, rfl⟩ := h
  rw [nI_clamp (by omega)]
  exact ⟨rfl, hk⟩
theorem bg_pins {n : Nat} (hn : 100 < n) {J : Nat} (hL : ∀ P, P ≤ 4 → ∀ (d : Nat) (px py : Nat → Nat), ∃ j, j < J ∧ ∀ p, p < P → ¬ (px p = lcX (lcI (2 * j + 1) d) ∧ py p = lcY (lcI (2 * j + 2) d))) {N : Nat} (hN : N ≤ 5) : ∀ (k P d fuel : Nat) (σ τ : hv_St) (F : Nat → Nat → Int32), P + k = N → k * J < fuel → bgP F P σ τ → τ.1 0 0 = nI d → ∃ d' F' σ' τ', bgP F' N σ' τ' ∧ τ'.1 0 0 = nI d' ∧ kQ_begins_19 n fuel σ τ (nI N) = kQ_begins_174 n n σ' τ' (nI N) (nI (2 * N)) (nI 0) := by
  intro k
  induction k with
  | zero =>
    intro P d fuel σ τ F hk hf h hd
    obtain ⟨fuel, rfl⟩ : ∃ q, fuel = q + 1 := ⟨fuel - 1, by omega⟩
    have eP : P = N := by omega
    subst eP
    refine ⟨d, F, σ, τ, h, hd, ?_⟩
    show kQ_begins_19_b n _ σ τ (nI P) = _
    unfold kQ_begins_19_b
    rw [if_pos (by rw [h.2.2.1.1]; exact nI_le (Nat.le_refl _) (by omega)), hv_let_e, nI_2]
    rfl
  | succ k ih =>
    intro P d fuel σ τ F hk hf h hd
    have hi := h.1
    rw [Nat.succ_mul] at hf
    generalize k * J = u at hf ih
    obtain ⟨j, hj, hnew⟩ := hL P (by omega) d (fun p => (F 1 p).toNatClampNeg) (fun p => (F 2 p).toNatClampNeg)
    obtain ⟨f', d', F', σ', τ', u0, u1, u2, u3⟩ := bg_find hn (P := P) (N := N) (by omega) hN j d fuel σ τ F h hd (fun p hp r => by
      have g := hi.2.2.2.2.2.1 p hp
      have g1 := fN_clamp g.1 (by decide)
      have g2 := fN_clamp g.2 (by decide)
      refine hnew p hp ⟨?_, ?_⟩
      · have := r.1
        rw [g1.1] at this
        exact (nI_eq (by omega) (Nat.lt_of_lt_of_le (Nat.mod_lt _ (by decide)) (by decide))).mp this
      · have := r.2
        rw [g2.1] at this
        exact (nI_eq (by omega) (Nat.lt_of_lt_of_le (Nat.mod_lt _ (by decide)) (by decide))).mp this) (by omega)
    obtain ⟨d2, F2, σ2, τ2, v1, v2, v3⟩ := ih (P + 1) d' f' σ' τ' F' (by omega) (by omega) u1 u2
    exact ⟨d2, F2, σ2, τ2, v1, v2, u3.trans v3⟩
