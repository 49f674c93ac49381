/-! the loop, and its start -/
theorem law_next {n L : Nat} {xs : Nat → Int32} {r23 : hv_St → Int32 → Option Unit} {x : Nat} (h : ∀ σ', lR σ' → r23 σ' (nI (x + 5)) = some ()) : ∀ σ', lR σ' → kL_law_1699 n L xs r23 σ' (nI x) = some () := fun σ' hs => by
  unfold kL_law_1699
  rw [show nI x + (5 : Int32) = nI (x + 5) from nI_add x 5]
  exact h σ' hs
theorem law_in {n L : Nat} (hn : 2100 ≤ n) (hL : L ≤ 2560) {xs : Nat → Int32} {r23 : hv_St → Int32 → Option Unit} {σ : hv_St} {x : Nat} (hx : x + 5 ≤ L) (h : lR σ) (nx : ∀ σ', lR σ' → kL_law_1699 n L xs r23 σ' (nI x) = some ()) : kL_law_23_b n L xs r23 σ (nI x) = some () := by
  have o0 : hv_ok (nI x) L = true := hv_ok_nI (by omega) (by omega)
  have o1 : hv_ok (nI x + 1) L = true := by rw [nI_1]; exact hv_ok_nI (by omega) (by omega)
  have o2 : hv_ok (nI x + 2) L = true := by rw [show nI x + (2 : Int32) = nI (x + 2) from nI_add x 2]; exact hv_ok_nI (by omega) (by omega)
  have o3 : hv_ok (nI x + 3) L = true := by rw [show nI x + (3 : Int32) = nI (x + 3) from nI_add x 3]; exact hv_ok_nI (by omega) (by omega)
  have o4 : hv_ok (nI x + 4) L = true := by rw [show nI x + (4 : Int32) = nI (x + 4) from nI_add x 4]; exact hv_ok_nI (by omega) (by omega)
  unfold kL_law_23_b
  have c0 : ¬ (Int32.ofNat L) - (5 : Int32) < nI x := by
    show ¬ nI L - nI 5 < nI x
    rw [pk_sub (show 5 ≤ L by omega)]
    exact nI_nlt (by omega) (by omega)
  rw [if_neg c0, hv_if_t o0, hv_let_e]
  by_cases c1 : xs (nI x).toNatClampNeg &&& (31 : Int32) = (0 : Int32)
  · rw [if_pos c1]
    exact br_pin hn o1 o2 o3 o4 h nx
  rw [if_neg c1]
  by_cases c2 : xs (nI x).toNatClampNeg &&& (31 : Int32) = (1 : Int32)
  · rw [if_pos c2]
    exact br_place hn o1 o2 o3 o4 h nx
  rw [if_neg c2]
  by_cases c3 : xs (nI x).toNatClampNeg &&& (31 : Int32) = (2 : Int32)
  · rw [if_pos c3]
    exact br_bar hn o1 o2 o3 o4 h nx
  rw [if_neg c3]
  by_cases c4 : xs (nI x).toNatClampNeg &&& (31 : Int32) = (3 : Int32)
  · rw [if_pos c4]
    exact br_turn hn o1 o2 o3 o4 h nx
  rw [if_neg c4]
  by_cases c5 : xs (nI x).toNatClampNeg &&& (31 : Int32) = (4 : Int32)
  · rw [if_pos c5]
    exact br_alter hn o1 o2 o3 o4 h nx
  rw [if_neg c5]
  by_cases c6 : xs (nI x).toNatClampNeg &&& (31 : Int32) = (5 : Int32)
  · rw [if_pos c6]
    exact br_hold hn o1 o2 o3 o4 h nx
  rw [if_neg c6]
  by_cases c7 : xs (nI x).toNatClampNeg &&& (31 : Int32) = (6 : Int32)
  · rw [if_pos c7]
    exact br_load hn o1 o2 o3 o4 h nx
  rw [if_neg c7]
  by_cases c8 : xs (nI x).toNatClampNeg &&& (31 : Int32) = (7 : Int32)
  · rw [if_pos c8]
    exact br_unload hn o1 o2 o3 o4 h nx
  rw [if_neg c8]
  by_cases c9 : xs (nI x).toNatClampNeg &&& (31 : Int32) = (8 : Int32)
  · rw [if_pos c9]
    exact br_deck hn o1 o2 o3 o4 h nx
  rw [if_neg c9]
  by_cases c10 : xs (nI x).toNatClampNeg &&& (31 : Int32) = (9 : Int32)
  · rw [if_pos c10]
    exact br_strip hn o1 o2 o3 o4 h nx
  rw [if_neg c10]
  by_cases c11 : xs (nI x).toNatClampNeg &&& (31 : Int32) = (10 : Int32)
  · rw [if_pos c11]
    exact br_train hn o1 o2 o3 o4 h nx
  rw [if_neg c11]
  by_cases c12 : xs (nI x).toNatClampNeg &&& (31 : Int32) = (11 : Int32)
  · rw [if_pos c12]
    exact br_count hn o1 o2 o3 o4 h nx
  rw [if_neg c12]
  by_cases c13 : xs (nI x).toNatClampNeg &&& (31 : Int32) = (12 : Int32)
  · rw [if_pos c13]
    exact br_of hn o1 o2 o3 o4 h nx
  rw [if_neg c13]
  by_cases c14 : xs (nI x).toNatClampNeg &&& (31 : Int32) = (13 : Int32)
  · rw [if_pos c14]
    exact br_at hn o1 o2 o3 o4 h nx
  rw [if_neg c14]
  by_cases c15 : xs (nI x).toNatClampNeg &&& (31 : Int32) = (14 : Int32)
  · rw [if_pos c15]
    exact br_pull hn o1 o2 o3 o4 h nx
  rw [if_neg c15]
  by_cases c16 : xs (nI x).toNatClampNeg &&& (31 : Int32) = (15 : Int32)
  · rw [if_pos c16]
    exact br_state hn o1 o2 o3 o4 h nx
  rw [if_neg c16]
  by_cases c17 : xs (nI x).toNatClampNeg &&& (31 : Int32) = (16 : Int32)
  · rw [if_pos c17]
    exact br_flex hn o1 o2 o3 o4 h nx
  rw [if_neg c17]
  by_cases c18 : xs (nI x).toNatClampNeg &&& (31 : Int32) = (17 : Int32)
  · rw [if_pos c18]
    exact br_force hn o1 o2 o3 o4 h nx
  rw [if_neg c18]
  by_cases c19 : xs (nI x).toNatClampNeg &&& (31 : Int32) = (18 : Int32)
  · rw [if_pos c19]
    exact br_influence hn o1 o2 o3 o4 h nx
  rw [if_neg c19]
  by_cases c20 : xs (nI x).toNatClampNeg &&& (31 : Int32) = (19 : Int32)
  · rw [if_pos c20]
    exact br_cut hn o1 o2 o3 o4 h nx
  rw [if_neg c20]
  by_cases c21 : xs (nI x).toNatClampNeg &&& (31 : Int32) = (20 : Int32)
  · rw [if_pos c21]
    exact br_joint hn o1 o2 o3 o4 h nx
  rw [if_neg c21]
  by_cases c22 : xs (nI x).toNatClampNeg &&& (31 : Int32) = (21 : Int32)
  · rw [if_pos c22]
    exact br_painted hn o1 o2 o3 o4 h nx
  rw [if_neg c22]
  by_cases c23 : xs (nI x).toNatClampNeg &&& (31 : Int32) = (22 : Int32)
  · rw [if_pos c23]
    exact br_times hn o1 o2 o3 o4 h nx
  rw [if_neg c23]
  by_cases c24 : xs (nI x).toNatClampNeg &&& (31 : Int32) = (23 : Int32)
  · rw [if_pos c24]
    exact br_riding hn o1 o2 o3 o4 h nx
  rw [if_neg c24]
  by_cases c25 : xs (nI x).toNatClampNeg &&& (31 : Int32) = (24 : Int32)
  · rw [if_pos c25]
    exact br_worst hn o1 o2 o3 o4 h nx
  rw [if_neg c25]
  by_cases c26 : xs (nI x).toNatClampNeg &&& (31 : Int32) = (25 : Int32)
  · rw [if_pos c26]
    exact br_without hn o1 o2 o3 o4 h nx
  rw [if_neg c26]
  by_cases c27 : xs (nI x).toNatClampNeg &&& (31 : Int32) = (26 : Int32)
  · rw [if_pos c27]
    exact br_left hn o1 o2 o3 o4 h nx
  rw [if_neg c27]
  by_cases c28 : xs (nI x).toNatClampNeg &&& (31 : Int32) = (27 : Int32)
  · rw [if_pos c28]
    exact br_keys hn o1 o2 o3 o4 h nx
  rw [if_neg c28]
  by_cases c29 : xs (nI x).toNatClampNeg &&& (31 : Int32) = (28 : Int32)
  · rw [if_pos c29]
    exact br_mend hn o1 o2 o3 o4 h nx
  rw [if_neg c29]
  exact nx σ h
theorem law_out {n L : Nat} (hL : L ≤ 2560) {xs : Nat → Int32} {r23 : hv_St → Int32 → Option Unit} {σ : hv_St} {x : Nat} (hx : ¬ x + 5 ≤ L) (hx2 : x ≤ 10000) : kL_law_23_b n L xs r23 σ (nI x) = some () := by
  unfold kL_law_23_b
  have e : (Int32.ofNat L) - (5 : Int32) = iI ((L : Int) - 5) := by
    show nI L - nI 5 = _
    rw [nI_iI, nI_iI, iI_sub]
    rfl
  have c : (Int32.ofNat L) - (5 : Int32) < nI x := by
    rw [e, Int32.lt_iff_toInt_lt, iI_toInt ⟨by omega, by omega⟩, nI_toInt (by omega)]
    omega
  rw [if_pos c]
theorem law_loop {n L : Nat} (hn : 2100 ≤ n) (hL : L ≤ 2560) (xs : Nat → Int32) : ∀ (d x fuel : Nat) (σ : hv_St), L ≤ x + 5 * d → x ≤ L + 5 → d < fuel → lR σ → kL_law_23 n L xs fuel σ (nI x) = some () := by
  intro d
  induction d with
  | zero =>
    intro x fuel σ h1 h2 h3 h
    obtain ⟨fuel, rfl⟩ : ∃ q, fuel = q + 1 := ⟨fuel - 1, by omega⟩
    show kL_law_23_b n L xs _ _ _ = _
    exact law_out hL (by omega) (by omega)
  | succ d ih =>
    intro x fuel σ h1 h2 h3 h
    obtain ⟨fuel, rfl⟩ : ∃ q, fuel = q + 1 := ⟨fuel - 1, by omega⟩
    show kL_law_23_b n L xs _ _ _ = _
    by_cases c : x + 5 ≤ L
    · exact law_in hn hL c h (law_next (fun σ' hs => ih (x + 5) fuel σ' (by omega) (by omega) (by omega) hs))
    · exact law_out hL c (by omega)
theorem lR_0 : lR hv_0 := by
  refine ⟨fun _ _ => 0, 0, 0, 0, 0, 0, ⟨⟨rfl, by decide⟩, ⟨rfl, by decide⟩, ⟨rfl, by decide⟩, ⟨rfl, by decide⟩, ⟨rfl, by decide⟩, fun p hp => absurd hp (Nat.not_lt_zero _), fun p hp => absurd hp (Nat.not_lt_zero _), fun s _ => ⟨0, rfl, by decide, by decide⟩, fun p _ => ⟨0, by decide, rfl⟩, fun p hp => absurd hp (Nat.not_lt_zero _), fun p _ hp => absurd hp (Nat.not_lt_zero _), fun p hp => absurd hp (Nat.not_lt_zero _)⟩, ⟨⟨rfl, rfl, rfl, rfl, rfl⟩, fun p _ => ⟨rfl, rfl⟩, fun s _ => rfl, fun p w _ hw => ?_, fun b _ => ⟨rfl, rfl, rfl, rfl⟩, fun i _ => rfl, fun i _ => rfl⟩, ⟨⟨rfl, rfl, rfl, rfl, rfl⟩, fun k _ _ => rfl⟩⟩
  show (0 : Int32) = ((0 : Int32) >>> nI w) &&& 1
  rcases (show w = 0 ∨ w = 1 by omega) with rfl | rfl <;> decide
theorem whole_pure (L : Nat) (hL : L ≤ 2560) (xs : Nat → Int32) : ∃ n i, i ≤ 100000 ∧ kL_law_23 n L xs i hv_0 0 = some () := ⟨3000, 600, by decide, law_loop (by decide) hL xs 512 0 600 hv_0 (by omega) (by omega) (by decide) lR_0⟩
