/-! begins: the bars, the loads -/
def fDb (F : Nat → Nat → Int32) (B : Nat) : Prop := ∀ b, b < B → ¬ F 5 b = F 6 b ∧ ∀ c, c < b → ¬ ((F 5 c = F 5 b ∧ F 6 c = F 6 b) ∨ (F 5 c = F 6 b ∧ F 6 c = F 5 b))
def bgB (F : Nat → Nat → Int32) (N B : Nat) (σ τ : hv_St) : Prop := hI F N B (2 ^ B - 1) 0 0 ∧ rX F σ ∧ tB F N B (2 ^ B - 1) τ ∧ fDp F N ∧ (∀ q, q < N → τ.1 4 q = F 3 q) ∧ fDb F B ∧ F 3 0 = nI 3 ∧ ¬ F 3 1 = 0
theorem bgH_B {F : Nat → Nat → Int32} {N : Nat} {σ τ : hv_St} (hN : 3 ≤ N) (h : bgH F N N σ τ) : bgB F N 0 σ τ := ⟨h.1, h.2.1, h.2.2.1, h.2.2.2.1, h.2.2.2.2.1, fun b hb => absurd hb (Nat.not_lt_zero _), h.2.2.2.2.2.2.1 (by omega), h.2.2.2.2.2.2.2 (by omega)⟩
theorem bg_358_0 {n : Nat} {r301 : hv_St → hv_St → Int32 → Int32 → Int32 → Int32 → Option (hv_St × hv_St)} {σ τ : hv_St} {B : Nat} (hB : B ≤ 11) (hs : τ.1 1 8 = nI B) {x4 x5 x6 x7 a b g : Int32} : ∀ (d k fuel : Nat), k + d = B → d < fuel → kQ_begins_358 n r301 fuel σ τ x4 x5 x6 x7 a b g 0 (nI k) = hv_b2 (mX7_bar n σ a b g) fun r s => kQ_begins_456 n r301 s τ x4 x5 x6 x7 a b g 0 (-1) r := by
  intro d
  induction d with
  | zero =>
    intro k fuel hk hf
    obtain ⟨fuel, rfl⟩ : ∃ q, fuel = q + 1 := ⟨fuel - 1, by omega⟩
    show kQ_begins_358_b n r301 _ σ τ x4 x5 x6 x7 a b g 0 (nI k) = _
    unfold kQ_begins_358_b
    rw [if_pos (by rw [hs]; exact nI_le (by omega) (by omega))]
    rfl
  | succ d ih =>
    intro k fuel hk hf
    obtain ⟨fuel, rfl⟩ : ∃ q, fuel = q + 1 := ⟨fuel - 1, by omega⟩
    show kQ_begins_358_b n r301 _ σ τ x4 x5 x6 x7 a b g 0 (nI k) = _
    unfold kQ_begins_358_b
    rw [if_neg (by rw [hs]; exact nI_ge (by omega) (by omega)), if_pos rfl]
    unfold kQ_begins_424 kQ_begins_425
    rw [nI_1]
    exact ih (k + 1) fuel (by omega) (by omega)
theorem bg_358_1 {n : Nat} {r301 : hv_St → hv_St → Int32 → Int32 → Int32 → Int32 → Option (hv_St × hv_St)} {σ τ : hv_St} {B : Nat} (hB : B ≤ 11) (hs : τ.1 1 8 = nI B) {x4 x5 x6 x7 a b g : Int32} : ∀ (d k fuel : Nat), k + d = B → d < fuel → (fBe (τ.1 6) (τ.1 7) B a b k → kQ_begins_358 n r301 fuel σ τ x4 x5 x6 x7 a b g 1 (nI k) = hv_b2 (mX7_bar n σ a b g) fun r s => kQ_begins_456 n r301 s τ x4 x5 x6 x7 a b g 0 (-1) r) ∧ ((¬ fBe (τ.1 6) (τ.1 7) B a b k) → kQ_begins_358 n r301 fuel σ τ x4 x5 x6 x7 a b g 1 (nI k) = hv_b2 (mX7_bar n σ a b g) fun r s => kQ_begins_456 n r301 s τ x4 x5 x6 x7 a b g 1 (τ.1 1 8) r) := by
  intro d
  induction d with
  | zero =>
    intro k fuel hk hf
    obtain ⟨fuel, rfl⟩ : ∃ q, fuel = q + 1 := ⟨fuel - 1, by omega⟩
    refine ⟨fun ⟨p, h1, h2, _⟩ => by omega, fun _ => ?_⟩
    show kQ_begins_358_b n r301 _ σ τ x4 x5 x6 x7 a b g 1 (nI k) = _
    unfold kQ_begins_358_b
    rw [if_pos (by rw [hs]; exact nI_le (by omega) (by omega))]
    rfl
  | succ d ih =>
    intro k fuel hk hf
    obtain ⟨fuel, rfl⟩ : ∃ q, fuel = q + 1 := ⟨fuel - 1, by omega⟩
    have hi := ih (k + 1) fuel (by omega) (by omega)
    have h0 := bg_358_0 (n := n) (r301 := r301) (σ := σ) (x4 := x4) (x5 := x5) (x6 := x6) (x7 := x7) (a := a) (b := b) (g := g) hB hs d (k + 1) fuel (by omega) (by omega)
    have e : kQ_begins_358 n r301 (fuel + 1) σ τ x4 x5 x6 x7 a b g 1 (nI k) = if (τ.1 6 k = a ∧ τ.1 7 k = b) ∨ (τ.1 6 k = b ∧ τ.1 7 k = a) then kQ_begins_358 n r301 fuel σ τ x4 x5 x6 x7 a b g 0 (nI (k + 1)) else kQ_begins_358 n r301 fuel σ τ x4 x5 x6 x7 a b g 1 (nI (k + 1)) := by
      show kQ_begins_358_b n r301 _ σ τ x4 x5 x6 x7 a b g 1 (nI k) = _
      unfold kQ_begins_358_b
      rw [if_neg (by rw [hs]; exact nI_ge (by omega) (by omega)), if_neg (by decide)]
      unfold kQ_begins_396 kQ_begins_424 kQ_begins_420 kQ_begins_425
      simp only [nI_1, hv_if_t (hv_ok_nI (show k < 11 by omega) (by decide)), nI_clamp (show k < 2 ^ 31 by omega)]
      exact bar_ite _ _
    rw [e]
    by_cases c : (τ.1 6 k = a ∧ τ.1 7 k = b) ∨ (τ.1 6 k = b ∧ τ.1 7 k = a)
    · rw [if_pos c]
      exact ⟨fun _ => h0, fun h => absurd ⟨k, Nat.le_refl _, by omega, c⟩ h⟩
    · rw [if_neg c]
      exact ⟨fun h => hi.1 (fBe_step c h), fun h => hi.2 (fun h2 => h (fBe_up h2))⟩
theorem or_pow : ∀ B : Fin 11, (2 ^ B.val - 1) ||| 2 ^ B.val = 2 ^ (B.val + 1) - 1 := by decide
theorem mod_other {N a c : Nat} (hN : 2 ≤ N) (ha : a < N) (hc : c < N - 1) : (a + 1 + c) % N ≠ a ∧ (a + 1 + c) % N < N := by
  refine ⟨?_, Nat.mod_lt _ (by omega)⟩
  by_cases h : a + 1 + c < N
  · rw [Nat.mod_eq_of_lt h]
    omega
  · rw [Nat.mod_eq_sub_mod (by omega), Nat.mod_eq_of_lt (by omega)]
    omega
/-- one try at a bar -/
theorem bg_bar {n : Nat} (hn : 100 < n) {N B M d t fuel : Nat} {σ τ : hv_St} {F : Nat → Nat → Int32} (hN3 : 3 ≤ N) (hN : N ≤ 5) (hM : M ≤ 11) (hB : B < M) (ht : t < 40) (h : bgB F N B σ τ) (hd : τ.1 0 0 = nI d) (x5 : Int32) : ∃ d' B' F' σ' τ', B ≤ B' ∧ B' ≤ B + 1 ∧ bgB F' N B' σ' τ' ∧ F' 3 = F 3 ∧ τ'.1 0 0 = nI d' ∧ kQ_begins_301 n (fuel + 1) σ τ (nI N) x5 (nI M) (nI t) = kQ_begins_301 n fuel σ' τ' (nI N) x5 (nI M) (nI (t + 1)) := by
  obtain ⟨hi, hx, hB1, hdp, h4, hdb, hz, ho⟩ := h
  have d1 : (hv_sI τ 0 0 (nI (lcF d))).1 0 0 = nI (lcF d) := by rw [hv_sI_rd, if_pos rfl]
  have d2 : (hv_sI (hv_sI τ 0 0 (nI (lcF d))) 0 0 (nI (lcF (lcF d)))).1 0 0 = nI (lcF (lcF d)) := by rw [hv_sI_rd, if_pos rfl]
  have d3 : (hv_sI (hv_sI (hv_sI τ 0 0 (nI (lcF d))) 0 0 (nI (lcF (lcF d)))) 0 0 (nI (lcF (lcF (lcF d))))).1 0 0 = nI (lcF (lcF (lcF d))) := by rw [hv_sI_rd, if_pos rfl]
  have t3 : tB F N B (2 ^ B - 1) (hv_sI (hv_sI (hv_sI τ 0 0 (nI (lcF d))) 0 0 (nI (lcF (lcF d)))) 0 0 (nI (lcF (lcF (lcF d))))) := tB_ne (tB_ne (tB_ne hB1 0 _ (Or.inl rfl)) 0 _ (Or.inl rfl)) 0 _ (Or.inl rfl)
  have k4 : ∀ q, (hv_sI (hv_sI (hv_sI τ 0 0 (nI (lcF d))) 0 0 (nI (lcF (lcF d)))) 0 0 (nI (lcF (lcF (lcF d))))).1 4 q = τ.1 4 q := fun q => by rw [hv_sI_ne _ _ _ (by decide), hv_sI_ne _ _ _ (by decide), hv_sI_ne _ _ _ (by decide)]
  have ha : lcF d / 65536 % N < N := Nat.mod_lt _ (by omega)
  have hc : lcF (lcF d) / 65536 % (N - 1) < N - 1 := Nat.mod_lt _ (by omega)
  have hg : lcF (lcF (lcF d)) / 65536 % 3 < 3 := Nat.mod_lt _ (by decide)
  have E : kQ_begins_301 n (fuel + 1) σ τ (nI N) x5 (nI M) (nI t) = kQ_begins_358 n (kQ_begins_301 n fuel) n σ (hv_sI (hv_sI (hv_sI τ 0 0 (nI (lcF d))) 0 0 (nI (lcF (lcF d)))) 0 0 (nI (lcF (lcF (lcF d))))) (nI N) x5 (nI M) (nI t) (nI (lcF d / 65536 % N)) (nI ((lcF d / 65536 % N + 1 + lcF (lcF d) / 65536 % (N - 1)) % N)) (nI (1 + lcF (lcF (lcF d)) / 65536 % 3)) 1 (nI 0) := by
    show kQ_begins_301_b n _ σ τ (nI N) x5 (nI M) (nI t) = _
    unfold kQ_begins_301_b
    have n1 : nI N - 1 = nI (N - 1) := by
      obtain ⟨N', rfl⟩ : ∃ q, N = q + 1 := ⟨N - 1, by omega⟩
      rw [nI_pred]
      rfl
    rw [if_neg (show ¬ (40 : Int32) ≤ nI t from nI_ge (b := 40) ht (by decide)), if_neg (by rw [hB1.2.1]; exact nI_ge hB (by omega)), lc_next hd (by omega) (by omega), hv_b2_e, n1, lc_next d1 (by omega) (by omega), hv_b2_e]
    have hN0 : ¬ nI N = 0 := fun e => by
      have := (nI_eq (b := 0) (by omega) (by decide)).mp e
      omega
    rw [hv_if_t (by simp [hN0])]
    rw [hv_let_e, nI_1, nI_add, pk_rem (by omega) (by omega) (by omega), show (3 : Int32) = nI 3 from rfl, lc_next d2 (by decide) (by decide), hv_b2_e, hv_let_e, show (1 : Int32) + nI (lcF (lcF (lcF d)) / 65536 % 3) = nI (1 + lcF (lcF (lcF d)) / 65536 % 3) from nI_add 1 _]
    rfl
  obtain ⟨m1, m2⟩ := mod_other (N := N) (by omega) ha hc
  generalize hv_sI (hv_sI (hv_sI τ 0 0 (nI (lcF d))) 0 0 (nI (lcF (lcF d)))) 0 0 (nI (lcF (lcF (lcF d)))) = τ3 at *
  generalize (lcF d / 65536 % N + 1 + lcF (lcF d) / 65536 % (N - 1)) % N = b at *
  generalize lcF d / 65536 % N = a at *
  generalize lcF (lcF (lcF d)) / 65536 % 3 = g at *
  have hvw : ¬ nI a = nI b := fun e => m1 ((nI_eq (by omega) (by omega)).mp e).symm
  have hgr : fRg 3 (nI (1 + g)) := ⟨nI_le (a := 1) (by omega) (by omega), nI_le (by omega) (by omega)⟩
  obtain ⟨b1, b2⟩ := xp_bar (n := n) (by omega) hi hx (by omega) (v := nI a) (w := nI b) ⟨a, ha, rfl⟩ ⟨b, m2, rfl⟩ hvw hgr
  obtain ⟨l1, l2⟩ := bg_358_1 (n := n) (r301 := kQ_begins_301 n fuel) (σ := σ) (x4 := nI N) (x5 := x5) (x6 := nI M) (x7 := nI t) (a := nI a) (b := nI b) (g := nI (1 + g)) (B := B) (by omega) t3.2.1 B 0 n (by omega) (by omega)
  have hit : fBe (τ3.1 6) (τ3.1 7) B (nI a) (nI b) 0 ↔ fBe (F 5) (F 6) B (nI a) (nI b) 0 := by
    constructor
    · rintro ⟨c, c1, c2, c3⟩
      have q := t3.2.2.2.2 c c2
      rw [q.1, q.2.1] at c3
      exact ⟨c, c1, c2, c3⟩
    · rintro ⟨c, c1, c2, c3⟩
      have q := t3.2.2.2.2 c c2
      rw [← q.1, ← q.2.1] at c3
      exact ⟨c, c1, c2, c3⟩
  by_cases hh : fBe (F 5) (F 6) B (nI a) (nI b) 0
  · refine ⟨_, B, F, σ, τ3, Nat.le_refl _, by omega, ⟨hi, hx, t3, hdp, fun q hq => (k4 q).trans (h4 q hq), hdb, hz, ho⟩, rfl, d3, ?_⟩
    rw [E, l1 (hit.mpr hh), b1 hh, hv_b2_e]
    unfold kQ_begins_456 kQ_begins_524
    rw [if_pos rfl, if_pos rfl, nI_1]
  · obtain ⟨σ', e1, e2, e3⟩ := b2 hh
    have eO := or_pow ⟨B, by omega⟩
    simp only at eO
    rw [eO] at e2 e3
    have Fo : ∀ j, j ≠ 5 → j ≠ 6 → j ≠ 7 → j ≠ 8 → j ≠ 0 → fU (fU (fU (fU (fU (fU F 5 B (nI a)) 6 B (nI b)) 7 B (nI (1 + g))) 8 B 99) 0 11 (nI (2 ^ (B + 1) - 1))) 0 6 (nI (B + 1)) j = F j := fun j h5 h6 h7 h8 h0 => by
      rw [fU_ne _ _ _ h0, fU_ne _ _ _ h0, fU_ne _ _ _ h8, fU_ne _ _ _ h7, fU_ne _ _ _ h6, fU_ne _ _ _ h5]
    have F5 : ∀ c, fU (fU (fU (fU (fU (fU F 5 B (nI a)) 6 B (nI b)) 7 B (nI (1 + g))) 8 B 99) 0 11 (nI (2 ^ (B + 1) - 1))) 0 6 (nI (B + 1)) 5 c = if c = B then nI a else F 5 c := fun c => by
      rw [fU_ne _ _ _ (by decide), fU_ne _ _ _ (by decide), fU_ne _ _ _ (by decide), fU_ne _ _ _ (by decide), fU_ne _ _ _ (by decide), fU_at]
    have F6 : ∀ c, fU (fU (fU (fU (fU (fU F 5 B (nI a)) 6 B (nI b)) 7 B (nI (1 + g))) 8 B 99) 0 11 (nI (2 ^ (B + 1) - 1))) 0 6 (nI (B + 1)) 6 c = if c = B then nI b else F 6 c := fun c => by
      rw [fU_ne _ _ _ (by decide), fU_ne _ _ _ (by decide), fU_ne _ _ _ (by decide), fU_ne _ _ _ (by decide), fU_at, fU_ne _ _ _ (by decide)]
    have F7 : ∀ c, fU (fU (fU (fU (fU (fU F 5 B (nI a)) 6 B (nI b)) 7 B (nI (1 + g))) 8 B 99) 0 11 (nI (2 ^ (B + 1) - 1))) 0 6 (nI (B + 1)) 7 c = if c = B then nI (1 + g) else F 7 c := fun c => by
      rw [fU_ne _ _ _ (by decide), fU_ne _ _ _ (by decide), fU_ne _ _ _ (by decide), fU_at, fU_ne _ _ _ (by decide), fU_ne _ _ _ (by decide)]
    generalize fU (fU (fU (fU (fU (fU F 5 B (nI a)) 6 B (nI b)) 7 B (nI (1 + g))) 8 B 99) 0 11 (nI (2 ^ (B + 1) - 1))) 0 6 (nI (B + 1)) = F' at *
    have s1 : (hv_sI τ3 6 B (nI a)).1 1 8 = nI B := by rw [hv_sI_ne _ _ _ (by decide)]; exact t3.2.1
    have s2 : (hv_sI (hv_sI τ3 6 B (nI a)) 7 B (nI b)).1 1 8 = nI B := by rw [hv_sI_ne _ _ _ (by decide)]; exact s1
    have s3 : (hv_sI (hv_sI (hv_sI τ3 6 B (nI a)) 7 B (nI b)) 8 B (nI (1 + g))).1 1 8 = nI B := by rw [hv_sI_ne _ _ _ (by decide)]; exact s2
    have s4 : (hv_sI (hv_sI (hv_sI τ3 6 B (nI a)) 7 B (nI b)) 8 B (nI (1 + g))).1 1 9 = nI (2 ^ B - 1) := by rw [hv_sI_ne _ _ _ (by decide), hv_sI_ne _ _ _ (by decide), hv_sI_ne _ _ _ (by decide)]; exact t3.2.2.1
    have s5 : (hv_sI (hv_sI (hv_sI (hv_sI τ3 6 B (nI a)) 7 B (nI b)) 8 B (nI (1 + g))) 1 9 (nI (2 ^ (B + 1) - 1))).1 1 8 = nI B := by rw [hv_sI_rd, if_neg (by decide)]; exact s3
    refine ⟨lcF (lcF (lcF d)), B + 1, F', σ', hv_sI (hv_sI (hv_sI (hv_sI (hv_sI τ3 6 B (nI a)) 7 B (nI b)) 8 B (nI (1 + g))) 1 9 (nI (2 ^ (B + 1) - 1))) 1 8 (nI (B + 1)), by omega, Nat.le_refl _, ⟨e2, e3, ⟨?_, ?_, ?_, fun p hp => ?_, fun c hc => ?_⟩, fun p q hpq hq => ?_, fun q hq => ?_, fun c hc => ?_, ?_, ?_⟩, ?_, ?_, ?_⟩
    · rw [hv_sI_rd, if_neg (by decide), hv_sI_rd, if_neg (by decide), hv_sI_ne _ _ _ (by decide), hv_sI_ne _ _ _ (by decide), hv_sI_ne _ _ _ (by decide)]
      exact t3.1
    · rw [hv_sI_rd, if_pos rfl]
    · rw [hv_sI_rd, if_neg (by decide), hv_sI_rd, if_pos rfl]
    · rw [hv_sI_ne _ _ _ (by decide), hv_sI_ne _ _ _ (by decide), hv_sI_ne _ _ _ (by decide), hv_sI_ne _ _ _ (by decide), hv_sI_ne _ _ _ (by decide), hv_sI_ne _ _ _ (by decide), hv_sI_ne _ _ _ (by decide), hv_sI_ne _ _ _ (by decide), hv_sI_ne _ _ _ (by decide), hv_sI_ne _ _ _ (by decide), Fo 1 (by decide) (by decide) (by decide) (by decide) (by decide), Fo 2 (by decide) (by decide) (by decide) (by decide) (by decide)]
      exact t3.2.2.2.1 p hp
    · have c6 : (hv_sI (hv_sI (hv_sI (hv_sI (hv_sI τ3 6 B (nI a)) 7 B (nI b)) 8 B (nI (1 + g))) 1 9 (nI (2 ^ (B + 1) - 1))) 1 8 (nI (B + 1))).1 6 c = if c = B then nI a else τ3.1 6 c := by
        rw [hv_sI_ne _ _ _ (by decide), hv_sI_ne _ _ _ (by decide), hv_sI_ne _ _ _ (by decide), hv_sI_ne _ _ _ (by decide), hv_sI_rd]
      have c7 : (hv_sI (hv_sI (hv_sI (hv_sI (hv_sI τ3 6 B (nI a)) 7 B (nI b)) 8 B (nI (1 + g))) 1 9 (nI (2 ^ (B + 1) - 1))) 1 8 (nI (B + 1))).1 7 c = if c = B then nI b else τ3.1 7 c := by
        rw [hv_sI_ne _ _ _ (by decide), hv_sI_ne _ _ _ (by decide), hv_sI_ne _ _ _ (by decide), hv_sI_rd, hv_sI_ne _ _ _ (by decide)]
      have c8 : (hv_sI (hv_sI (hv_sI (hv_sI (hv_sI τ3 6 B (nI a)) 7 B (nI b)) 8 B (nI (1 + g))) 1 9 (nI (2 ^ (B + 1) - 1))) 1 8 (nI (B + 1))).1 8 c = if c = B then nI (1 + g) else τ3.1 8 c := by
        rw [hv_sI_ne _ _ _ (by decide), hv_sI_ne _ _ _ (by decide), hv_sI_rd, hv_sI_ne _ _ _ (by decide), hv_sI_ne _ _ _ (by decide)]
      rw [c6, c7, c8, F5, F6, F7]
      by_cases e : c = B
      · rw [if_pos e, if_pos e, if_pos e, if_pos e, if_pos e, if_pos e]
        exact ⟨rfl, rfl, rfl⟩
      · rw [if_neg e, if_neg e, if_neg e, if_neg e, if_neg e, if_neg e]
        exact t3.2.2.2.2 c (by omega)
    · rw [Fo 1 (by decide) (by decide) (by decide) (by decide) (by decide), Fo 2 (by decide) (by decide) (by decide) (by decide) (by decide)]
      exact hdp p q hpq hq
    · rw [hv_sI_ne _ _ _ (by decide), hv_sI_ne _ _ _ (by decide), hv_sI_ne _ _ _ (by decide), hv_sI_ne _ _ _ (by decide), hv_sI_ne _ _ _ (by decide), Fo 3 (by decide) (by decide) (by decide) (by decide) (by decide), k4]
      exact h4 q hq
    · rw [F5, F6]
      by_cases e : c = B
      · rw [if_pos e, if_pos e]
        refine ⟨hvw, fun c' hc' => ?_⟩
        rw [F5, F6, if_neg (show ¬ c' = B by omega), if_neg (show ¬ c' = B by omega)]
        intro r
        exact hh ⟨c', Nat.zero_le _, by omega, r⟩
      · rw [if_neg e, if_neg e]
        obtain ⟨q1, q2⟩ := hdb c (by omega)
        refine ⟨q1, fun c' hc' => ?_⟩
        rw [F5, F6, if_neg (show ¬ c' = B by omega), if_neg (show ¬ c' = B by omega)]
        exact q2 c' hc'
    · rw [Fo 3 (by decide) (by decide) (by decide) (by decide) (by decide)]
      exact hz
    · rw [Fo 3 (by decide) (by decide) (by decide) (by decide) (by decide)]
      exact ho
    · exact Fo 3 (by decide) (by decide) (by decide) (by decide) (by decide)
    · rw [hv_sI_ne _ _ _ (by decide), hv_sI_ne _ _ _ (by decide), hv_sI_ne _ _ _ (by decide), hv_sI_ne _ _ _ (by decide), hv_sI_ne _ _ _ (by decide)]
      exact d3
    · rw [E, l2 (fun q => hh (hit.mp q)), e1, hv_b2_e]
      unfold kQ_begins_456 kQ_begins_524
      rw [if_pos t3.2.1.symm, if_neg (by decide)]
      simp only [t3.2.1, hv_if_t (hv_ok_nI (show B < 11 by omega) (by decide)), nI_clamp (show B < 2 ^ 31 by omega), hv_let_e, s1, s2, s3, s4, nI_shl (show B < 31 by omega), nI_or, eO, s5, nI_1]
theorem bg_bars {n : Nat} (hn : 100 < n) {N M : Nat} (hN3 : 3 ≤ N) (hN : N ≤ 5) (hM : M ≤ 11) (x5 : Int32) : ∀ (k t B d fuel : Nat) (σ τ : hv_St) (F : Nat → Nat → Int32), t + k = 40 → k < fuel → B ≤ M → bgB F N B σ τ → τ.1 0 0 = nI d → ∃ d' B' F' σ' τ', B' ≤ M ∧ bgB F' N B' σ' τ' ∧ F' 3 = F 3 ∧ τ'.1 0 0 = nI d' ∧ kQ_begins_301 n fuel σ τ (nI N) x5 (nI M) (nI t) = kQ_begins_533 n n σ' τ' (nI N) x5 (nI 0) := by
  intro k
  induction k with
  | zero =>
    intro t B d fuel σ τ F hk hf hB h hd
    obtain ⟨fuel, rfl⟩ : ∃ q, fuel = q + 1 := ⟨fuel - 1, by omega⟩
    refine ⟨d, B, F, σ, τ, hB, h, rfl, hd, ?_⟩
    show kQ_begins_301_b n _ σ τ (nI N) x5 (nI M) (nI t) = _
    unfold kQ_begins_301_b
    rw [if_pos (show (40 : Int32) ≤ nI t from nI_le (a := 40) (by omega) (by omega))]
    rfl
  | succ k ih =>
    intro t B d fuel σ τ F hk hf hB h hd
    obtain ⟨fuel, rfl⟩ : ∃ q, fuel = q + 1 := ⟨fuel - 1, by omega⟩
    by_cases c : B < M
    · obtain ⟨d', B', F', σ', τ', u1, u2, u3, u4, u5, u6⟩ := bg_bar (t := t) (fuel := fuel) hn hN3 hN hM c (by omega) h hd x5
      obtain ⟨d2, B2, F2, σ2, τ2, v1, v2, v3, v4, v5⟩ := ih (t + 1) B' d' fuel σ' τ' F' (by omega) (by omega) (by omega) u3 u5
      exact ⟨d2, B2, F2, σ2, τ2, v1, v2, v3.trans u4, v4, u6.trans v5⟩
    · refine ⟨d, B, F, σ, τ, hB, h, rfl, hd, ?_⟩
      show kQ_begins_301_b n _ σ τ (nI N) x5 (nI M) (nI t) = _
      unfold kQ_begins_301_b
      rw [if_neg (show ¬ (40 : Int32) ≤ nI t from nI_ge (b := 40) (by omega) (by decide)), if_pos (by rw [h.2.2.1.2.1]; exact nI_le (by omega) (by omega))]
      rfl
theorem ld19 : ∀ v : Fin 19, fLd (nI v.val - 9) := by
  unfold fLd
  decide
def bgL (F : Nat → Nat → Int32) (N B p : Nat) (σ τ : hv_St) : Prop := bgB F N B σ τ ∧ ∀ s, s < 2 * p → τ.1 5 s = F 4 s
theorem bg_load {n : Nat} {N B p d fuel : Nat} {σ τ : hv_St} {F : Nat → Nat → Int32} (hN : N ≤ 5) (hp : p < N) (h : bgL F N B p σ τ) (hd : τ.1 0 0 = nI d) (x5 : Int32) : ∃ d' F' σ' τ', bgL F' N B (p + 1) σ' τ' ∧ F' 3 = F 3 ∧ τ'.1 0 0 = nI d' ∧ kQ_begins_533 n (fuel + 1) σ τ (nI N) x5 (nI p) = kQ_begins_533 n fuel σ' τ' (nI N) x5 (nI (p + 1)) := by
  obtain ⟨⟨hi, hx, ht, hdp, h4, hdb, hz, ho⟩, hl⟩ := h
  have main : ∀ (X Y : Int32) (τ1 : hv_St) (d1 : Nat), fLd X → fLd Y → tB F N B (2 ^ B - 1) τ1 → (∀ q, τ1.1 4 q = τ.1 4 q) → (∀ s, τ1.1 5 s = if s = 2 * p then X else τ.1 5 s) → τ1.1 0 0 = nI d1 → ∃ d' F' σ' τ', bgL F' N B (p + 1) σ' τ' ∧ F' 3 = F 3 ∧ τ'.1 0 0 = nI d' ∧ kQ_begins_589 n (kQ_begins_533 n fuel) σ τ1 (nI N) x5 (nI p) Y (((2 : Int32) * nI p) + 1) = kQ_begins_533 n fuel σ' τ' (nI N) x5 (nI (p + 1)) := by
    intro X Y τ1 d1 lX lY t1 q4 q5 e1
    obtain ⟨σ', s1, s2, s3⟩ := xp_load (n := n) hi hx hp lX lY
    have Fo : ∀ j, j ≠ 4 → fU (fU F 4 (2 * p) X) 4 (2 * p + 1) Y j = F j := fun j hj => by rw [fU_ne _ _ _ hj, fU_ne _ _ _ hj]
    have F4 : ∀ s, fU (fU F 4 (2 * p) X) 4 (2 * p + 1) Y 4 s = if s = 2 * p + 1 then Y else if s = 2 * p then X else F 4 s := fun s => by rw [fU_at, fU_at]
    have a1 : (hv_sI τ1 5 (2 * p + 1) Y).1 5 (2 * p) = X := by rw [hv_sI_rd, if_neg (by omega), q5, if_pos rfl]
    have a2 : (hv_sI τ1 5 (2 * p + 1) Y).1 5 (2 * p + 1) = Y := by rw [hv_sI_rd, if_pos rfl]
    generalize fU (fU F 4 (2 * p) X) 4 (2 * p + 1) Y = F' at *
    refine ⟨d1, F', σ', hv_sI τ1 5 (2 * p + 1) Y, ⟨⟨s2, s3, ?_, ?_, fun q hq => ?_, ?_, ?_, ?_⟩, fun s hs => ?_⟩, Fo 3 (by decide), ?_, ?_⟩
    · have t2 := tB_ne t1 (2 * p + 1) Y (Or.inr (Or.inr rfl))
      refine ⟨t2.1, t2.2.1, t2.2.2.1, fun q hq => ?_, fun b hb => ?_⟩
      · rw [Fo 1 (by decide), Fo 2 (by decide)]
        exact t2.2.2.2.1 q hq
      · rw [Fo 5 (by decide), Fo 6 (by decide), Fo 7 (by decide)]
        exact t2.2.2.2.2 b hb
    · intro a b hab hb
      rw [Fo 1 (by decide), Fo 2 (by decide)]
      exact hdp a b hab hb
    · rw [hv_sI_ne _ _ _ (by decide), q4, Fo 3 (by decide)]
      exact h4 q hq
    · intro b hb
      rw [Fo 5 (by decide), Fo 6 (by decide)]
      exact hdb b hb
    · rw [Fo 3 (by decide)]
      exact hz
    · rw [Fo 3 (by decide)]
      exact ho
    · rw [hv_sI_rd, F4]
      by_cases c1 : s = 2 * p + 1
      · rw [if_pos c1, if_pos c1]
      · rw [if_neg c1, if_neg c1, q5]
        by_cases c2 : s = 2 * p
        · rw [if_pos c2, if_pos c2]
        · rw [if_neg c2, if_neg c2]
          exact hl s (by omega)
    · rw [hv_sI_ne _ _ _ (by decide)]
      exact e1
    · unfold kQ_begins_589
      simp only [nI_2, nI_1, hv_if_t (hv_ok_nI (show 2 * p + 1 < 12 by omega) (by decide)), hv_if_t (hv_ok_nI (show 2 * p < 12 by omega) (by decide)), nI_clamp (show 2 * p + 1 < 2 ^ 31 by omega), nI_clamp (show 2 * p < 2 ^ 31 by omega), hv_let_e, a1, a2, s1, hv_b2_e]
      rw [if_neg (by decide)]
  show ∃ d' F' σ' τ', bgL F' N B (p + 1) σ' τ' ∧ F' 3 = F 3 ∧ τ'.1 0 0 = nI d' ∧ kQ_begins_533_b n (kQ_begins_533 n fuel) σ τ (nI N) x5 (nI p) = _
  unfold kQ_begins_533_b
  have ok1 : hv_ok ((2 : Int32) * nI p) 12 = true := by rw [nI_2]; exact hv_ok_nI (by omega) (by decide)
  have cl1 : ((2 : Int32) * nI p).toNatClampNeg = 2 * p := by rw [nI_2]; exact nI_clamp (by omega)
  have e1 : (hv_sI (hv_sI τ 0 0 (nI (lcF d))) 5 (2 * p) (nI (lcF d / 65536 % 19) - 9)).1 0 0 = nI (lcF d) := by rw [hv_sI_ne _ _ _ (by decide), hv_sI_rd, if_pos rfl]
  have t1 := tB_ne (tB_ne ht 0 (nI (lcF d)) (Or.inl rfl)) (2 * p) (nI (lcF d / 65536 % 19) - 9) (Or.inr (Or.inr rfl))
  have lx : fLd (nI (lcF d / 65536 % 19) - 9) := ld19 ⟨lcF d / 65536 % 19, Nat.mod_lt _ (by decide)⟩
  have q4 : ∀ (v w : Int32) q, (hv_sI (hv_sI (hv_sI τ 0 0 (nI (lcF d))) 5 (2 * p) v) 0 0 w).1 4 q = τ.1 4 q := fun v w q => by rw [hv_sI_ne _ _ _ (by decide), hv_sI_ne _ _ _ (by decide), hv_sI_ne _ _ _ (by decide)]
  have q5 : ∀ (v w : Int32) s, (hv_sI (hv_sI (hv_sI τ 0 0 (nI (lcF d))) 5 (2 * p) v) 0 0 w).1 5 s = if s = 2 * p then v else τ.1 5 s := fun v w s => by rw [hv_sI_ne _ _ _ (by decide), hv_sI_rd, hv_sI_ne _ _ _ (by decide)]
  rw [if_neg (nI_ge hp (by omega)), show (19 : Int32) = nI 19 from rfl, lc_next hd (by decide) (by decide), hv_b2_e, hv_if_t ok1, cl1, hv_let_e, show (3 : Int32) = nI 3 from rfl, lc_next e1 (by decide) (by decide), hv_b2_e]
  have e2 : (hv_sI (hv_sI (hv_sI τ 0 0 (nI (lcF d))) 5 (2 * p) (nI (lcF d / 65536 % 19) - 9)) 0 0 (nI (lcF (lcF d)))).1 0 0 = nI (lcF (lcF d)) := by rw [hv_sI_rd, if_pos rfl]
  have t2 := tB_ne t1 0 (nI (lcF (lcF d))) (Or.inl rfl)
  by_cases c : nI (lcF (lcF d) / 65536 % 3) = 0
  · rw [if_pos c]
    exact main _ 0 _ _ lx (by unfold fLd; decide) t2 (q4 _ _) (q5 _ _) e2
  · rw [if_neg c, lc_next e2 (by decide) (by decide), hv_b2_e]
    have ly : fLd (nI (lcF (lcF (lcF d)) / 65536 % 19) - 9) := ld19 ⟨lcF (lcF (lcF d)) / 65536 % 19, Nat.mod_lt _ (by decide)⟩
    refine main _ _ _ (lcF (lcF (lcF d))) lx ly (tB_ne t2 0 _ (Or.inl rfl)) (fun q => ?_) (fun s => ?_) (by rw [hv_sI_rd, if_pos rfl])
    · rw [hv_sI_ne _ _ _ (by decide)]
      exact q4 _ _ q
    · rw [hv_sI_ne _ _ _ (by decide)]
      exact q5 _ _ s
theorem bg_loads {n : Nat} (hn : 200 ≤ n) {N B : Nat} (hN : N ≤ 5) {x5 : Int32} : ∀ (k p d fuel : Nat) (σ τ : hv_St) (F : Nat → Nat → Int32), p + k = N → k < fuel → x5 = nI (fN' F N) → bgL F N B p σ τ → τ.1 0 0 = nI d → ∃ d' F' σ' τ', bgL F' N B N σ' τ' ∧ F' 3 = F 3 ∧ τ'.1 0 0 = nI d' ∧ kQ_begins_533 n fuel σ τ (nI N) x5 (nI p) = some (σ', τ') := by
  intro k
  induction k with
  | zero =>
    intro p d fuel σ τ F hk hf h5 h hd
    obtain ⟨fuel, rfl⟩ : ∃ q, fuel = q + 1 := ⟨fuel - 1, by omega⟩
    have ep : p = N := by omega
    subst ep
    have hi := h.1.1
    obtain ⟨Eb, Es, hE⟩ := fSe_ex hi h.1.2.1
    obtain ⟨s0, c0, x0⟩ := xp_count hn hE hi h.1.2.1 0 (by decide)
    obtain ⟨s1, c1, x1⟩ := xp_count hn hE hi x0 1 (by decide)
    obtain ⟨s2, c2, x2⟩ := xp_count hn hE hi x1 2 (by decide)
    obtain ⟨s3, c3, x3⟩ := xp_count hn hE hi x2 3 (by decide)
    refine ⟨d, F, s3, τ, ⟨⟨hi, x3, h.1.2.2⟩, h.2⟩, rfl, hd, ?_⟩
    show kQ_begins_533_b n _ σ τ (nI p) x5 (nI p) = _
    unfold kQ_begins_533_b
    have ht := h.1.2.2.1
    rw [if_pos (nI_le (Nat.le_refl _) (by omega)), show (0 : Int32) = nI 0 from rfl, c0, hv_b2_e, if_pos (show xcR F p B (2 ^ B - 1) Eb Es (nI 0) = nI p from rfl), show (1 : Int32) = nI 1 from rfl, c1, hv_b2_e, ht.2.1, if_pos (show xcR F p B (2 ^ B - 1) Eb Es (nI 1) = nI B from rfl), show (2 : Int32) = nI 2 from rfl, c2, hv_b2_e, ht.2.2.1, if_pos (show xcR F p B (2 ^ B - 1) Eb Es (nI 2) = nI (2 ^ B - 1) from rfl), show (3 : Int32) = nI 3 from rfl, c3, hv_b2_e, if_pos (show xcR F p B (2 ^ B - 1) Eb Es (nI 3) = x5 from h5.symm)]
  | succ k ih =>
    intro p d fuel σ τ F hk hf h5 h hd
    obtain ⟨fuel, rfl⟩ : ∃ q, fuel = q + 1 := ⟨fuel - 1, by omega⟩
    obtain ⟨d', F', σ', τ', u1, u2, u3, u4⟩ := bg_load (n := n) (fuel := fuel) hN (by omega) h hd x5
    have e5 : fN' F' N = fN' F N := by
      unfold fN' fL fFree
      rw [u2]
    obtain ⟨d2, F2, σ2, τ2, v1, v2, v3, v4⟩ := ih (p + 1) d' fuel σ' τ' F' (by omega) (by omega) (by rw [e5]; exact h5) u1 u3
    exact ⟨d2, F2, σ2, τ2, v1, v2.trans u2, v3, u4.trans v4⟩
