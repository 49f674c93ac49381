/-! begins, all of it -/
theorem nI_ex (x : Int32) : ∃ d, x = nI d := by
  rcases x with ⟨u⟩
  exact ⟨u.toNat, by unfold nI; rw [show Int32.ofNat u.toNat = ⟨UInt32.ofNat u.toNat⟩ from rfl, UInt32.ofNat_toNat]⟩
theorem bg_7 {F : Nat → Nat → Int32} {N : Nat} (h0 : F 3 0 = nI 3) (h1 : ¬ F 3 1 = 0) (h4 : fN 4 (F 3 1)) (hN3 : 3 ≤ N) : fN' F N ≤ 2 * N - 3 := by
  have key : ∀ k, (fL F (4 + k)).length ≤ 1 + k := by
    intro k
    induction k with
    | zero =>
      obtain ⟨m, hm, em⟩ := h4
      have e0 : fFree F 0 = false := by
        unfold fFree
        rw [show 0 / 2 = 0 from rfl, h0]
        decide
      have e1 : fFree F 1 = false := by
        unfold fFree
        rw [show 1 / 2 = 0 from rfl, h0]
        decide
      have e2 : fFree F 2 = decide ((nI m >>> nI 0) &&& 1 = 0) := by
        unfold fFree
        rw [show 2 / 2 = 1 from rfl, em]
      have e3 : fFree F 3 = decide ((nI m >>> nI 1) &&& 1 = 0) := by
        unfold fFree
        rw [show 3 / 2 = 1 from rfl, em]
      unfold fL
      rw [show List.range (4 + 0) = [0, 1, 2, 3] from rfl]
      rw [em] at h1
      rcases (show m = 0 ∨ m = 1 ∨ m = 2 ∨ m = 3 by omega) with rfl | rfl | rfl | rfl
      · exact absurd rfl h1
      · simp only [List.filter_cons, List.filter_nil, e0, e1, e2, e3]
        decide
      · simp only [List.filter_cons, List.filter_nil, e0, e1, e2, e3]
        decide
      · simp only [List.filter_cons, List.filter_nil, e0, e1, e2, e3]
        decide
    | succ k ih =>
      unfold fL at ih ⊢
      rw [← Nat.add_assoc, List.range_succ, List.filter_append, List.length_append]
      have : ((List.filter (fFree F) [4 + k]).length) ≤ 1 := Nat.le_trans (List.length_filter_le _ _) (Nat.le_refl _)
      omega
  have := key (2 * N - 4)
  unfold fN'
  rw [show 4 + (2 * N - 4) = 2 * N by omega] at this
  omega
theorem bg_n3 {n : Nat} {d P B O : Nat} {τ : hv_St} {F : Nat → Nat → Int32} (ht : tB F P B O τ) (hd : τ.1 0 0 = nI d) : ∃ c d' τ', c < 3 ∧ τ'.1 0 0 = nI d' ∧ tB F P B O τ' ∧ (∀ q, τ'.1 4 q = τ.1 4 q) ∧ mX8_next n τ (nI 3) = some (nI c, τ') := by
  refine ⟨lcF d / 65536 % 3, lcF d, hv_sI τ 0 0 (nI (lcF d)), Nat.mod_lt _ (by decide), ?_, tB_ne ht 0 _ (Or.inl rfl), fun q => ?_, lc_next hd (by decide) (by decide)⟩
  · rw [hv_sI_rd, if_pos rfl]
  · rw [hv_sI_ne _ _ _ (by decide)]
/-- begins, from a new object's cells -/
theorem bg_al0 {n : Nat} (hn : 200 ≤ n) {J : Nat} (hJ : 5 * J < n) (hl : ∀ P, P ≤ 4 → ∀ (d : Nat) (px py : Nat → Nat), ∃ j, j < J ∧ ∀ p, p < P → ¬ (px p = lcX (lcI (2 * j + 1) d) ∧ py p = lcY (lcI (2 * j + 2) d))) {d : Nat} {σ τ : hv_St} {F : Nat → Nat → Int32} (h : bgP F 0 σ τ) (hd : τ.1 0 0 = nI d) : ∃ N B F' σ' τ' d', 3 ≤ N ∧ N ≤ 5 ∧ B ≤ 11 ∧ B ≤ fN' F' N + 2 ∧ fN' F' N ≤ 7 ∧ bgL F' N B N σ' τ' ∧ τ'.1 0 0 = nI d' ∧ mQ_begins n σ τ 5 = some (σ', τ') := by
  obtain ⟨hi, hx, ht, hdp, h3⟩ := h
  obtain ⟨c, d0, τ1, hc, d1, ht1, -, En⟩ := bg_n3 (n := n) ht hd
  have E : mQ_begins n σ τ 5 = kQ_begins_19 n n σ τ1 (nI (3 + c)) := by
    unfold mQ_begins
    rw [show (5 : Int32) - 2 = nI 3 from rfl, En, hv_b2_e, hv_let_e, show (3 : Int32) = nI 3 from rfl, nI_add]
  rw [E]
  clear E En
  have hf : (3 + c) * J < n := Nat.lt_of_le_of_lt (Nat.mul_le_mul_right J (show 3 + c ≤ 5 by omega)) hJ
  obtain ⟨d2, F2, σ2, τ2, u1, u2, u3⟩ := bg_pins (n := n) (by omega) hl (N := 3 + c) (by omega) (3 + c) 0 d0 n σ τ1 F (Nat.zero_add _) hf ⟨hi, hx, ht1, hdp, h3⟩ d1
  rw [u3]
  clear hf u3
  obtain ⟨i2, x2, t2, p2, z2⟩ := u1
  obtain ⟨d3, F3, σ3, τ3, v1, v2, v3⟩ := bg_holds (n := n) (by omega) (N := 3 + c) (by omega) (by omega) (3 + c) 0 d2 n σ2 τ2 F2 (Nat.zero_add _) (by omega) ⟨i2, x2, t2, p2, fun q hq => absurd hq (Nat.not_lt_zero _), fun q _ => z2 q, fun h => absurd h (Nat.lt_irrefl _), fun h => absurd h (Nat.not_lt_zero _)⟩ u2
  have el : 2 * (3 + c) - 2 * 0 + (fL F2 (2 * 0)).length = 2 * (3 + c) := rfl
  rw [el] at v3
  rw [v3]
  clear v3 el
  obtain ⟨i3, x3, t3, p3, h4, -, hz, ho⟩ := v1
  obtain ⟨g, d4, τ4, hr, e4, t4, q5, En⟩ := bg_n3 (n := n) t3 v2
  have q4 : ∀ q, q < 3 + c → τ4.1 4 q = F3 3 q := fun q hq => (q5 q).trans (h4 q hq)
  rw [En, hv_b2_e]
  have hfr : fN' F3 (3 + c) ≤ 2 * (3 + c) - 3 := bg_7 (hz (by omega)) (ho (by omega)) (i3.2.2.2.2.2.2.2.2.1 1 (by decide)) (by omega)
  obtain ⟨M, hM1, hM2, hM⟩ : ∃ M, M ≤ 11 ∧ M ≤ fN' F3 (3 + c) + 2 ∧ (if nI (fN' F3 (3 + c)) + nI g < (11 : Int32) then nI (fN' F3 (3 + c)) + nI g else (11 : Int32)) = nI M := by
    rw [nI_add]
    by_cases q : nI (fN' F3 (3 + c) + g) < (11 : Int32)
    · refine ⟨fN' F3 (3 + c) + g, by omega, by omega, ?_⟩
      rw [if_pos q]
    · refine ⟨11, by decide, ?_, ?_⟩
      · refine Classical.byContradiction (fun h => q ?_)
        exact nI_lt (b := 11) (by omega) (by decide)
      · rw [if_neg q]
        rfl
  rw [hM, hv_let_e]
  have b0 : bgB F3 (3 + c) 0 σ3 τ4 := ⟨i3, x3, t4, p3, q4, fun b hb => absurd hb (Nat.not_lt_zero _), hz (by omega), ho (by omega)⟩
  obtain ⟨d5, B, F5, σ5, τ5, w1, w2, w3, w4, w5⟩ := bg_bars (n := n) (by omega) (N := 3 + c) (M := M) (by omega) (by omega) hM1 (nI (fN' F3 (3 + c))) 40 0 0 d4 n σ3 τ4 F3 rfl (by omega) (Nat.zero_le _) b0 e4
  rw [show (0 : Int32) = nI 0 from rfl, w5]
  have e53 : fN' F5 (3 + c) = fN' F3 (3 + c) := by
    unfold fN' fL fFree
    rw [w3]
  obtain ⟨d6, F6, σ6, τ6, y1, y2, y3, y4⟩ := bg_loads (n := n) hn (N := 3 + c) (B := B) (by omega) (x5 := nI (fN' F3 (3 + c))) (3 + c) 0 d5 n σ5 τ5 F5 (Nat.zero_add _) (by omega) (by rw [e53]) ⟨w2, fun s hs => absurd hs (Nat.not_lt_zero _)⟩ w4
  have e63 : fN' F6 (3 + c) = fN' F3 (3 + c) := by
    rw [← e53]
    unfold fN' fL fFree
    rw [y2]
  exact ⟨3 + c, B, F6, σ6, τ6, d6, by omega, by omega, by omega, by rw [e63]; omega, by rw [e63]; omega, y1, y3, y4⟩
theorem bg_all {n : Nat} (hn : 200 ≤ n) (hJ : 5 * 2147483649 < n) {d : Nat} {σ τ : hv_St} {F : Nat → Nat → Int32} (h : bgP F 0 σ τ) (hd : τ.1 0 0 = nI d) : ∃ N B F' σ' τ' d', 3 ≤ N ∧ N ≤ 5 ∧ B ≤ 11 ∧ B ≤ fN' F' N + 2 ∧ fN' F' N ≤ 7 ∧ bgL F' N B N σ' τ' ∧ τ'.1 0 0 = nI d' ∧ mQ_begins n σ τ 5 = some (σ', τ') :=
  bg_al0 hn hJ (fun P hP d px py => (lc_new hP d px py).elim fun j h => ⟨j, Nat.lt_succ_of_le h.1, h.2⟩) h hd
