/-! the law's loop -/
def lR (σ : hv_St) : Prop := ∃ F P B O D W, hR F P B O D W σ (hv_sh 56 σ)
theorem sh0 (σ : hv_St) : hv_sh 0 σ = σ := rfl
theorem sh_mg {k : Nat} (hk : k ≤ 56) (σ τ : hv_St) : hv_sh 56 (hv_mg 0 k σ τ) = hv_sh 56 σ := by
  unfold hv_sh hv_mg
  refine Prod.ext (funext fun j => ?_) (funext fun j => ?_)
  · exact if_neg (by omega)
  · exact if_neg (by omega)
theorem lR_of {F : Nat → Nat → Int32} {P B O D W : Nat} {τX τM σ : hv_St} (h : hR F P B O D W τX τM) (h1 : ∀ j, j < 25 → σ.1 j = τX.1 j) (h2 : ∀ j, j < 11 → σ.1 (j + 56) = τM.1 j) : lR σ := by
  obtain ⟨hi, hx, hm⟩ := h
  refine ⟨F, P, B, O, D, W, hi, rX_1 hx (fun k hk => h1 k (by omega)), rM_fr (A := fun k => 11 ≤ k) (B := fun _ => True) hm ⟨fun k hk => h2 k (by omega), fun k hk => absurd trivial hk⟩ (fun k hk => hk)⟩
theorem lR_pl {F : Nat → Nat → Int32} {P B O D W : Nat} {τX τM : hv_St} (h : hR F P B O D W τX τM) (σ : hv_St) : lR (hv_mg 56 23 (hv_mg 0 55 σ τX) τM) := by
  refine lR_of h (fun j hj => ?_) (fun j hj => ?_)
  · show (if 56 ≤ j ∧ j < 56 + 23 then _ else if 0 ≤ j ∧ j < 0 + 55 then τX.1 (j - 0) else _) = _
    rw [if_neg (by omega), if_pos (by omega)]
    rfl
  · show (if 56 ≤ j + 56 ∧ j + 56 < 56 + 23 then τM.1 (j + 56 - 56) else _) = _
    rw [if_pos (by omega), Nat.add_sub_cancel]
theorem lR_th {F : Nat → Nat → Int32} {P B O D W : Nat} {τX τM : hv_St} (h : hR F P B O D W τX τM) (σ S : hv_St) (hS : ∀ j, j < 25 → S.1 j = τX.1 j) : lR (hv_mg 56 23 (hv_mg 56 23 (hv_mg 0 56 σ S) τM) (hv_sh 56 (hv_mg 56 23 (hv_mg 0 56 σ S) τM))) := by
  refine lR_of h (fun j hj => ?_) (fun j hj => ?_)
  · show (if 56 ≤ j ∧ j < 56 + 23 then _ else if 56 ≤ j ∧ j < 56 + 23 then _ else if 0 ≤ j ∧ j < 0 + 56 then S.1 (j - 0) else _) = _
    rw [if_neg (by omega), if_neg (by omega), if_pos (by omega)]
    exact hS j hj
  · show (if 56 ≤ j + 56 ∧ j + 56 < 56 + 23 then (if 56 ≤ j + 56 - 56 + 56 ∧ j + 56 - 56 + 56 < 56 + 23 then τM.1 (j + 56 - 56 + 56 - 56) else _) else _) = _
    rw [if_pos (by omega), if_pos (by omega), show j + 56 - 56 + 56 - 56 = j by omega]
theorem mg_hi (S τ : hv_St) : (hv_mg 56 23 S τ).2 55 = S.2 55 := (if_neg (by omega) : (if 56 ≤ 55 ∧ 55 < 56 + 23 then τ.2 (55 - 56) else S.2 55) = S.2 55)
theorem mg_lo (S τ : hv_St) : (hv_mg 0 56 S τ).2 55 = τ.2 55 := (if_pos (by omega) : (if 0 ≤ 55 ∧ 55 < 0 + 56 then τ.2 (55 - 0) else S.2 55) = τ.2 (55 - 0))
theorem pln {F : Nat → Nat → Int32} {P B O D W : Nat} {σ τX τM : hv_St} {r : Int32} {A : Option (Int32 × hv_St)} {M : hv_St → Option (Int32 × hv_St)} {K : hv_St → Option Unit} (e1 : A = some (r, τX)) (e2 : M (hv_sh 56 σ) = some (r, τM)) (h : hR F P B O D W τX τM) (nx : ∀ σ', lR σ' → K σ' = some ()) : (hv_b2 A fun r t => hv_b2 (M (hv_sh 56 (hv_mg 0 55 σ t))) fun r' t' => if r = r' then K (hv_mg 56 23 (hv_mg 0 55 σ t) t') else none) = some () := by
  rw [e1, hv_b2_e, sh_mg (by decide), e2, hv_b2_e, if_pos rfl]
  exact nx _ (lR_pl h σ)
theorem thr {n : Nat} {ρ : Type} {F : Nat → Nat → Int32} {P B O D W : Nat} {σ : hv_St} {A : Option (Option ρ × hv_St)} {M : hv_St → Option (ρ × hv_St)} {f : ρ → Int64} {K : hv_St → Option Unit} (h : hT F P B O D W A (M (hv_sh 56 σ))) (nx : ∀ σ', lR σ' → K σ' = some ()) : (hv_b2 (hv_by A (fun τ => some ((1 : Int32), hv_mg 0 55 σ τ)) (fun v τ => some ((0 : Int32), hv_sJ (hv_mg 0 55 σ τ) 55 (0 : Int32).toNatClampNeg (f v)))) fun r t => hv_b2 (M (hv_sh 56 (hv_mg 0 56 σ t))) fun r' t' => hv_b2 (mX8_thrown n (hv_sh 56 (hv_mg 56 23 (hv_mg 0 56 σ t) t'))) fun r'' t'' => if r'' = r then (if r = 0 then (if lg_cmp ((hv_mg 56 23 (hv_mg 56 23 (hv_mg 0 56 σ t) t') t'').2 55 (0 : Int32).toNatClampNeg) (f r') = 0 then K (hv_mg 56 23 (hv_mg 56 23 (hv_mg 0 56 σ t) t') t'') else none) else K (hv_mg 56 23 (hv_mg 56 23 (hv_mg 0 56 σ t) t') t'')) else none) = some () := by
  have low : ∀ (S' τM : hv_St), (hv_sh 56 (hv_mg 56 23 S' τM)).1 0 0 = τM.1 0 0 := fun S' τM => by
    show (if 56 ≤ 0 + 56 ∧ 0 + 56 < 56 + 23 then τM.1 (0 + 56 - 56) else S'.1 (0 + 56)) 0 = _
    rw [if_pos (by omega)]
  obtain ⟨τX, τM, hr, ⟨r, e1, e2, c0⟩ | ⟨r, e1, e2, c1⟩⟩ := h
  · rw [e1]
    show (hv_b2 (some ((0 : Int32), hv_sJ (hv_mg 0 55 σ τX) 55 (0 : Int32).toNatClampNeg (f r))) _) = _
    rw [hv_b2_e, sh_mg (by decide), e2, hv_b2_e]
    unfold mX8_thrown
    rw [hv_b2_e, low, c0, if_pos rfl, if_pos rfl]
    have l55 : (hv_mg 56 23 (hv_mg 56 23 (hv_mg 0 56 σ (hv_sJ (hv_mg 0 55 σ τX) 55 (0 : Int32).toNatClampNeg (f r))) τM) (hv_sh 56 (hv_mg 56 23 (hv_mg 0 56 σ (hv_sJ (hv_mg 0 55 σ τX) 55 (0 : Int32).toNatClampNeg (f r))) τM))).2 55 (0 : Int32).toNatClampNeg = f r := by
      rw [mg_hi, mg_hi, mg_lo, hv_sJ_rd, if_pos rfl]
    rw [l55, if_pos ((lg_cmp0 _ _).mpr rfl)]
    exact nx _ (lR_th hr σ _ (fun j hj => by
      show (if 0 ≤ j ∧ j < 0 + 55 then τX.1 (j - 0) else _) = _
      rw [if_pos (by omega)]
      rfl))
  · rw [e1]
    show (hv_b2 (some ((1 : Int32), hv_mg 0 55 σ τX)) _) = _
    rw [hv_b2_e, sh_mg (by decide), e2, hv_b2_e]
    unfold mX8_thrown
    rw [hv_b2_e, low, c1, if_pos rfl, if_neg (by decide)]
    exact nx _ (lR_th hr σ _ (fun j hj => by
      show (if 0 ≤ j ∧ j < 0 + 55 then τX.1 (j - 0) else _) = _
      rw [if_pos (by omega)]
      rfl))
theorem br_pin {n L : Nat} (hn : 2100 ≤ n) {xs : Nat → Int32} {r23 : hv_St → Int32 → Option Unit} {σ : hv_St} {x : Nat} (o1 : hv_ok (nI x + 1) L = true) (o2 : hv_ok (nI x + 2) L = true) (o3 : hv_ok (nI x + 3) L = true) (o4 : hv_ok (nI x + 4) L = true) (h : lR σ) (nx : ∀ σ', lR σ' → kL_law_1699 n L xs r23 σ' (nI x) = some ()) : kL_law_168 n L xs r23 σ (nI x) = some () := by
  obtain ⟨F, P, B, O, D, W, h⟩ := h
  obtain ⟨r, τX, τM, f0, f1, e1, e2, h'⟩ := op_pin (n := n) (by omega) h (xs (nI x + 1).toNatClampNeg) (xs (nI x + 2).toNatClampNeg)
  unfold kL_law_168
  simp only [hv_if_t o1, hv_if_t o2, hv_if_t o3, hv_if_t o4, sh0]
  exact pln (M := fun s => mX8_pin n s (xs (nI x + 1).toNatClampNeg) (xs (nI x + 2).toNatClampNeg)) (K := fun s => kL_law_1699 n L xs r23 s (nI x)) e1 e2 h' nx
theorem br_place {n L : Nat} (hn : 2100 ≤ n) {xs : Nat → Int32} {r23 : hv_St → Int32 → Option Unit} {σ : hv_St} {x : Nat} (o1 : hv_ok (nI x + 1) L = true) (o2 : hv_ok (nI x + 2) L = true) (o3 : hv_ok (nI x + 3) L = true) (o4 : hv_ok (nI x + 4) L = true) (h : lR σ) (nx : ∀ σ', lR σ' → kL_law_1699 n L xs r23 σ' (nI x) = some ()) : kL_law_205 n L xs r23 σ (nI x) = some () := by
  obtain ⟨F, P, B, O, D, W, h⟩ := h
  obtain ⟨r, τX, τM, f0, e1, e2, h'⟩ := op_place (n := n) (by omega) h (xs (nI x + 1).toNatClampNeg) (xs (nI x + 2).toNatClampNeg) (xs (nI x + 3).toNatClampNeg)
  unfold kL_law_205
  simp only [hv_if_t o1, hv_if_t o2, hv_if_t o3, hv_if_t o4, sh0]
  exact pln (M := fun s => mX8_place n s (xs (nI x + 1).toNatClampNeg) (xs (nI x + 2).toNatClampNeg) (xs (nI x + 3).toNatClampNeg)) (K := fun s => kL_law_1699 n L xs r23 s (nI x)) e1 e2 h' nx
theorem br_bar {n L : Nat} (hn : 2100 ≤ n) {xs : Nat → Int32} {r23 : hv_St → Int32 → Option Unit} {σ : hv_St} {x : Nat} (o1 : hv_ok (nI x + 1) L = true) (o2 : hv_ok (nI x + 2) L = true) (o3 : hv_ok (nI x + 3) L = true) (o4 : hv_ok (nI x + 4) L = true) (h : lR σ) (nx : ∀ σ', lR σ' → kL_law_1699 n L xs r23 σ' (nI x) = some ()) : kL_law_254 n L xs r23 σ (nI x) = some () := by
  obtain ⟨F, P, B, O, D, W, h⟩ := h
  obtain ⟨r, τX, τM, f0, f1, f2, e1, e2, h'⟩ := op_bar (n := n) (by omega) h (xs (nI x + 1).toNatClampNeg) (xs (nI x + 2).toNatClampNeg) (xs (nI x + 3).toNatClampNeg)
  unfold kL_law_254
  simp only [hv_if_t o1, hv_if_t o2, hv_if_t o3, hv_if_t o4, sh0]
  exact pln (M := fun s => mX8_bar n s (xs (nI x + 1).toNatClampNeg) (xs (nI x + 2).toNatClampNeg) (xs (nI x + 3).toNatClampNeg)) (K := fun s => kL_law_1699 n L xs r23 s (nI x)) e1 e2 h' nx
theorem br_load {n L : Nat} (hn : 2100 ≤ n) {xs : Nat → Int32} {r23 : hv_St → Int32 → Option Unit} {σ : hv_St} {x : Nat} (o1 : hv_ok (nI x + 1) L = true) (o2 : hv_ok (nI x + 2) L = true) (o3 : hv_ok (nI x + 3) L = true) (o4 : hv_ok (nI x + 4) L = true) (h : lR σ) (nx : ∀ σ', lR σ' → kL_law_1699 n L xs r23 σ' (nI x) = some ()) : kL_law_486 n L xs r23 σ (nI x) = some () := by
  obtain ⟨F, P, B, O, D, W, h⟩ := h
  obtain ⟨r, τX, τM, f0, e1, e2, h'⟩ := op_load (n := n) h (xs (nI x + 1).toNatClampNeg) (xs (nI x + 2).toNatClampNeg) (xs (nI x + 3).toNatClampNeg)
  unfold kL_law_486
  simp only [hv_if_t o1, hv_if_t o2, hv_if_t o3, hv_if_t o4, sh0]
  exact pln (M := fun s => mX8_load n s (xs (nI x + 1).toNatClampNeg) (xs (nI x + 2).toNatClampNeg) (xs (nI x + 3).toNatClampNeg)) (K := fun s => kL_law_1699 n L xs r23 s (nI x)) e1 e2 h' nx
theorem br_unload {n L : Nat} (hn : 2100 ≤ n) {xs : Nat → Int32} {r23 : hv_St → Int32 → Option Unit} {σ : hv_St} {x : Nat} (o1 : hv_ok (nI x + 1) L = true) (o2 : hv_ok (nI x + 2) L = true) (o3 : hv_ok (nI x + 3) L = true) (o4 : hv_ok (nI x + 4) L = true) (h : lR σ) (nx : ∀ σ', lR σ' → kL_law_1699 n L xs r23 σ' (nI x) = some ()) : kL_law_535 n L xs r23 σ (nI x) = some () := by
  obtain ⟨F, P, B, O, D, W, h⟩ := h
  obtain ⟨r, τX, τM, f0, e1, e2, h'⟩ := op_unload (n := n) (by omega) h 
  unfold kL_law_535
  simp only [hv_if_t o1, hv_if_t o2, hv_if_t o3, hv_if_t o4, sh0]
  exact pln (M := fun s => mX8_unload n s ) (K := fun s => kL_law_1699 n L xs r23 s (nI x)) e1 e2 h' nx
theorem br_deck {n L : Nat} (hn : 2100 ≤ n) {xs : Nat → Int32} {r23 : hv_St → Int32 → Option Unit} {σ : hv_St} {x : Nat} (o1 : hv_ok (nI x + 1) L = true) (o2 : hv_ok (nI x + 2) L = true) (o3 : hv_ok (nI x + 3) L = true) (o4 : hv_ok (nI x + 4) L = true) (h : lR σ) (nx : ∀ σ', lR σ' → kL_law_1699 n L xs r23 σ' (nI x) = some ()) : kL_law_548 n L xs r23 σ (nI x) = some () := by
  obtain ⟨F, P, B, O, D, W, h⟩ := h
  obtain ⟨r, τX, τM, f0, f1, e1, e2, h'⟩ := op_deck (n := n) (by omega) h (xs (nI x + 1).toNatClampNeg)
  unfold kL_law_548
  simp only [hv_if_t o1, hv_if_t o2, hv_if_t o3, hv_if_t o4, sh0]
  exact pln (M := fun s => mX8_deck n s (xs (nI x + 1).toNatClampNeg)) (K := fun s => kL_law_1699 n L xs r23 s (nI x)) e1 e2 h' nx
theorem br_strip {n L : Nat} (hn : 2100 ≤ n) {xs : Nat → Int32} {r23 : hv_St → Int32 → Option Unit} {σ : hv_St} {x : Nat} (o1 : hv_ok (nI x + 1) L = true) (o2 : hv_ok (nI x + 2) L = true) (o3 : hv_ok (nI x + 3) L = true) (o4 : hv_ok (nI x + 4) L = true) (h : lR σ) (nx : ∀ σ', lR σ' → kL_law_1699 n L xs r23 σ' (nI x) = some ()) : kL_law_573 n L xs r23 σ (nI x) = some () := by
  obtain ⟨F, P, B, O, D, W, h⟩ := h
  obtain ⟨r, τX, τM, f0, e1, e2, h'⟩ := op_strip (n := n) h 
  unfold kL_law_573
  simp only [hv_if_t o1, hv_if_t o2, hv_if_t o3, hv_if_t o4, sh0]
  exact pln (M := fun s => mX8_strip n s ) (K := fun s => kL_law_1699 n L xs r23 s (nI x)) e1 e2 h' nx
theorem br_train {n L : Nat} (hn : 2100 ≤ n) {xs : Nat → Int32} {r23 : hv_St → Int32 → Option Unit} {σ : hv_St} {x : Nat} (o1 : hv_ok (nI x + 1) L = true) (o2 : hv_ok (nI x + 2) L = true) (o3 : hv_ok (nI x + 3) L = true) (o4 : hv_ok (nI x + 4) L = true) (h : lR σ) (nx : ∀ σ', lR σ' → kL_law_1699 n L xs r23 σ' (nI x) = some ()) : kL_law_586 n L xs r23 σ (nI x) = some () := by
  obtain ⟨F, P, B, O, D, W, h⟩ := h
  obtain ⟨r, τX, τM, f0, f1, e1, e2, h'⟩ := op_train (n := n) (by omega) h (xs (nI x + 1).toNatClampNeg)
  unfold kL_law_586
  simp only [hv_if_t o1, hv_if_t o2, hv_if_t o3, hv_if_t o4, sh0]
  exact pln (M := fun s => mX8_train n s (xs (nI x + 1).toNatClampNeg)) (K := fun s => kL_law_1699 n L xs r23 s (nI x)) e1 e2 h' nx
theorem br_count {n L : Nat} (hn : 2100 ≤ n) {xs : Nat → Int32} {r23 : hv_St → Int32 → Option Unit} {σ : hv_St} {x : Nat} (o1 : hv_ok (nI x + 1) L = true) (o2 : hv_ok (nI x + 2) L = true) (o3 : hv_ok (nI x + 3) L = true) (o4 : hv_ok (nI x + 4) L = true) (h : lR σ) (nx : ∀ σ', lR σ' → kL_law_1699 n L xs r23 σ' (nI x) = some ()) : kL_law_611 n L xs r23 σ (nI x) = some () := by
  obtain ⟨F, P, B, O, D, W, h⟩ := h
  obtain ⟨r, τX, τM, e1, e2, h'⟩ := op_count (n := n) (by omega) h (xs (nI x + 1).toNatClampNeg)
  unfold kL_law_611
  simp only [hv_if_t o1, hv_if_t o2, hv_if_t o3, hv_if_t o4, sh0]
  exact pln (M := fun s => mX8_count n s (xs (nI x + 1).toNatClampNeg)) (K := fun s => kL_law_1699 n L xs r23 s (nI x)) e1 e2 h' nx
theorem br_joint {n L : Nat} (hn : 2100 ≤ n) {xs : Nat → Int32} {r23 : hv_St → Int32 → Option Unit} {σ : hv_St} {x : Nat} (o1 : hv_ok (nI x + 1) L = true) (o2 : hv_ok (nI x + 2) L = true) (o3 : hv_ok (nI x + 3) L = true) (o4 : hv_ok (nI x + 4) L = true) (h : lR σ) (nx : ∀ σ', lR σ' → kL_law_1699 n L xs r23 σ' (nI x) = some ()) : kL_law_1342 n L xs r23 σ (nI x) = some () := by
  obtain ⟨F, P, B, O, D, W, h⟩ := h
  obtain ⟨r, τX, τM, e1, e2, h'⟩ := op_joint (n := n) (by omega) h (xs (nI x + 1).toNatClampNeg)
  unfold kL_law_1342
  simp only [hv_if_t o1, hv_if_t o2, hv_if_t o3, hv_if_t o4, sh0]
  exact pln (M := fun s => mX8_joint n s (xs (nI x + 1).toNatClampNeg)) (K := fun s => kL_law_1699 n L xs r23 s (nI x)) e1 e2 h' nx
theorem br_painted {n L : Nat} (hn : 2100 ≤ n) {xs : Nat → Int32} {r23 : hv_St → Int32 → Option Unit} {σ : hv_St} {x : Nat} (o1 : hv_ok (nI x + 1) L = true) (o2 : hv_ok (nI x + 2) L = true) (o3 : hv_ok (nI x + 3) L = true) (o4 : hv_ok (nI x + 4) L = true) (h : lR σ) (nx : ∀ σ', lR σ' → kL_law_1699 n L xs r23 σ' (nI x) = some ()) : kL_law_1367 n L xs r23 σ (nI x) = some () := by
  obtain ⟨F, P, B, O, D, W, h⟩ := h
  obtain ⟨r, τX, τM, e1, e2, h'⟩ := op_painted (n := n) (by omega) h (xs (nI x + 1).toNatClampNeg)
  unfold kL_law_1367
  simp only [hv_if_t o1, hv_if_t o2, hv_if_t o3, hv_if_t o4, sh0]
  exact pln (M := fun s => mX8_painted n s (xs (nI x + 1).toNatClampNeg)) (K := fun s => kL_law_1699 n L xs r23 s (nI x)) e1 e2 h' nx
theorem br_times {n L : Nat} (hn : 2100 ≤ n) {xs : Nat → Int32} {r23 : hv_St → Int32 → Option Unit} {σ : hv_St} {x : Nat} (o1 : hv_ok (nI x + 1) L = true) (o2 : hv_ok (nI x + 2) L = true) (o3 : hv_ok (nI x + 3) L = true) (o4 : hv_ok (nI x + 4) L = true) (h : lR σ) (nx : ∀ σ', lR σ' → kL_law_1699 n L xs r23 σ' (nI x) = some ()) : kL_law_1392 n L xs r23 σ (nI x) = some () := by
  obtain ⟨F, P, B, O, D, W, h⟩ := h
  obtain ⟨r, τX, τM, e1, e2, h'⟩ := op_times (n := n) (by omega) h 
  unfold kL_law_1392
  simp only [hv_if_t o1, hv_if_t o2, hv_if_t o3, hv_if_t o4, sh0]
  exact pln (M := fun s => mX8_times n s ) (K := fun s => kL_law_1699 n L xs r23 s (nI x)) e1 e2 h' nx
theorem br_worst {n L : Nat} (hn : 2100 ≤ n) {xs : Nat → Int32} {r23 : hv_St → Int32 → Option Unit} {σ : hv_St} {x : Nat} (o1 : hv_ok (nI x + 1) L = true) (o2 : hv_ok (nI x + 2) L = true) (o3 : hv_ok (nI x + 3) L = true) (o4 : hv_ok (nI x + 4) L = true) (h : lR σ) (nx : ∀ σ', lR σ' → kL_law_1699 n L xs r23 σ' (nI x) = some ()) : kL_law_1500 n L xs r23 σ (nI x) = some () := by
  obtain ⟨F, P, B, O, D, W, h⟩ := h
  obtain ⟨r, τX, τM, e1, e2, h'⟩ := op_worst (n := n) (by omega) h (xs (nI x + 1).toNatClampNeg)
  unfold kL_law_1500
  simp only [hv_if_t o1, hv_if_t o2, hv_if_t o3, hv_if_t o4, sh0]
  exact pln (M := fun s => mX8_worst n s (xs (nI x + 1).toNatClampNeg)) (K := fun s => kL_law_1699 n L xs r23 s (nI x)) e1 e2 h' nx
theorem br_without {n L : Nat} (hn : 2100 ≤ n) {xs : Nat → Int32} {r23 : hv_St → Int32 → Option Unit} {σ : hv_St} {x : Nat} (o1 : hv_ok (nI x + 1) L = true) (o2 : hv_ok (nI x + 2) L = true) (o3 : hv_ok (nI x + 3) L = true) (o4 : hv_ok (nI x + 4) L = true) (h : lR σ) (nx : ∀ σ', lR σ' → kL_law_1699 n L xs r23 σ' (nI x) = some ()) : kL_law_1525 n L xs r23 σ (nI x) = some () := by
  obtain ⟨F, P, B, O, D, W, h⟩ := h
  obtain ⟨r, τX, τM, e1, e2, h'⟩ := op_without (n := n) (by omega) h (xs (nI x + 1).toNatClampNeg)
  unfold kL_law_1525
  simp only [hv_if_t o1, hv_if_t o2, hv_if_t o3, hv_if_t o4, sh0]
  exact pln (M := fun s => mX8_without n s (xs (nI x + 1).toNatClampNeg)) (K := fun s => kL_law_1699 n L xs r23 s (nI x)) e1 e2 h' nx
theorem br_keys {n L : Nat} (hn : 2100 ≤ n) {xs : Nat → Int32} {r23 : hv_St → Int32 → Option Unit} {σ : hv_St} {x : Nat} (o1 : hv_ok (nI x + 1) L = true) (o2 : hv_ok (nI x + 2) L = true) (o3 : hv_ok (nI x + 3) L = true) (o4 : hv_ok (nI x + 4) L = true) (h : lR σ) (nx : ∀ σ', lR σ' → kL_law_1699 n L xs r23 σ' (nI x) = some ()) : kL_law_1645 n L xs r23 σ (nI x) = some () := by
  obtain ⟨F, P, B, O, D, W, h⟩ := h
  obtain ⟨r, τX, τM, e1, e2, h'⟩ := op_keys (n := n) (by omega) h 
  unfold kL_law_1645
  simp only [hv_if_t o1, hv_if_t o2, hv_if_t o3, hv_if_t o4, sh0]
  exact pln (M := fun s => mX8_keys n s ) (K := fun s => kL_law_1699 n L xs r23 s (nI x)) e1 e2 h' nx
theorem br_turn {n L : Nat} (hn : 2100 ≤ n) {xs : Nat → Int32} {r23 : hv_St → Int32 → Option Unit} {σ : hv_St} {x : Nat} (o1 : hv_ok (nI x + 1) L = true) (o2 : hv_ok (nI x + 2) L = true) (o3 : hv_ok (nI x + 3) L = true) (o4 : hv_ok (nI x + 4) L = true) (h : lR σ) (nx : ∀ σ', lR σ' → kL_law_1699 n L xs r23 σ' (nI x) = some ()) : kL_law_303 n L xs r23 σ (nI x) = some () := by
  obtain ⟨F, P, B, O, D, W, h⟩ := h
  by_cases c : xs (nI x + 2).toNatClampNeg = 0
  · obtain ⟨r, τX, τM, f0, f1, e1, e2, h'⟩ := op_turn (n := n) h (xs (nI x + 1).toNatClampNeg) (0 : Int32) (Or.inl rfl)
    unfold kL_law_303 kL_law_324 kL_law_348
    simp only [hv_if_t o1, hv_if_t o2, hv_if_t o3, hv_if_t o4, sh0, if_pos c]
    exact pln (M := fun s => mX8_turn n s (xs (nI x + 1).toNatClampNeg) (0 : Int32)) (K := fun s => kL_law_1699 n L xs r23 s (nI x)) e1 e2 h' nx
  · obtain ⟨r, τX, τM, f0, f1, e1, e2, h'⟩ := op_turn (n := n) h (xs (nI x + 1).toNatClampNeg) (1 : Int32) (Or.inr rfl)
    unfold kL_law_303 kL_law_324 kL_law_348
    simp only [hv_if_t o1, hv_if_t o2, hv_if_t o3, hv_if_t o4, sh0, if_neg c]
    exact pln (M := fun s => mX8_turn n s (xs (nI x + 1).toNatClampNeg) (1 : Int32)) (K := fun s => kL_law_1699 n L xs r23 s (nI x)) e1 e2 h' nx
theorem br_alter {n L : Nat} (hn : 2100 ≤ n) {xs : Nat → Int32} {r23 : hv_St → Int32 → Option Unit} {σ : hv_St} {x : Nat} (o1 : hv_ok (nI x + 1) L = true) (o2 : hv_ok (nI x + 2) L = true) (o3 : hv_ok (nI x + 3) L = true) (o4 : hv_ok (nI x + 4) L = true) (h : lR σ) (nx : ∀ σ', lR σ' → kL_law_1699 n L xs r23 σ' (nI x) = some ()) : kL_law_356 n L xs r23 σ (nI x) = some () := by
  obtain ⟨F, P, B, O, D, W, h⟩ := h
  by_cases c : xs (nI x + 2).toNatClampNeg = 0
  · obtain ⟨r, τX, τM, f0, e1, e2, h'⟩ := op_alter (n := n) h (xs (nI x + 1).toNatClampNeg) (0 : Int32) (xs (nI x + 3).toNatClampNeg)
    unfold kL_law_356 kL_law_377 kL_law_407
    simp only [hv_if_t o1, hv_if_t o2, hv_if_t o3, hv_if_t o4, sh0, if_pos c]
    exact pln (M := fun s => mX8_alter n s (xs (nI x + 1).toNatClampNeg) (0 : Int32) (xs (nI x + 3).toNatClampNeg)) (K := fun s => kL_law_1699 n L xs r23 s (nI x)) e1 e2 h' nx
  · obtain ⟨r, τX, τM, f0, e1, e2, h'⟩ := op_alter (n := n) h (xs (nI x + 1).toNatClampNeg) (1 : Int32) (xs (nI x + 3).toNatClampNeg)
    unfold kL_law_356 kL_law_377 kL_law_407
    simp only [hv_if_t o1, hv_if_t o2, hv_if_t o3, hv_if_t o4, sh0, if_neg c]
    exact pln (M := fun s => mX8_alter n s (xs (nI x + 1).toNatClampNeg) (1 : Int32) (xs (nI x + 3).toNatClampNeg)) (K := fun s => kL_law_1699 n L xs r23 s (nI x)) e1 e2 h' nx
theorem br_hold {n L : Nat} (hn : 2100 ≤ n) {xs : Nat → Int32} {r23 : hv_St → Int32 → Option Unit} {σ : hv_St} {x : Nat} (o1 : hv_ok (nI x + 1) L = true) (o2 : hv_ok (nI x + 2) L = true) (o3 : hv_ok (nI x + 3) L = true) (o4 : hv_ok (nI x + 4) L = true) (h : lR σ) (nx : ∀ σ', lR σ' → kL_law_1699 n L xs r23 σ' (nI x) = some ()) : kL_law_421 n L xs r23 σ (nI x) = some () := by
  obtain ⟨F, P, B, O, D, W, h⟩ := h
  by_cases c : xs (nI x + 3).toNatClampNeg = 0
  · obtain ⟨r, τX, τM, f0, e1, e2, h'⟩ := op_hold (n := n) h (xs (nI x + 1).toNatClampNeg) (xs (nI x + 2).toNatClampNeg) (0 : Int32) (Or.inl rfl)
    unfold kL_law_421 kL_law_448 kL_law_478
    simp only [hv_if_t o1, hv_if_t o2, hv_if_t o3, hv_if_t o4, sh0, if_pos c]
    exact pln (M := fun s => mX8_hold n s (xs (nI x + 1).toNatClampNeg) (xs (nI x + 2).toNatClampNeg) (0 : Int32)) (K := fun s => kL_law_1699 n L xs r23 s (nI x)) e1 e2 h' nx
  · obtain ⟨r, τX, τM, f0, e1, e2, h'⟩ := op_hold (n := n) h (xs (nI x + 1).toNatClampNeg) (xs (nI x + 2).toNatClampNeg) (1 : Int32) (Or.inr rfl)
    unfold kL_law_421 kL_law_448 kL_law_478
    simp only [hv_if_t o1, hv_if_t o2, hv_if_t o3, hv_if_t o4, sh0, if_neg c]
    exact pln (M := fun s => mX8_hold n s (xs (nI x + 1).toNatClampNeg) (xs (nI x + 2).toNatClampNeg) (1 : Int32)) (K := fun s => kL_law_1699 n L xs r23 s (nI x)) e1 e2 h' nx
theorem br_mend {n L : Nat} (hn : 2100 ≤ n) {xs : Nat → Int32} {r23 : hv_St → Int32 → Option Unit} {σ : hv_St} {x : Nat} (o1 : hv_ok (nI x + 1) L = true) (o2 : hv_ok (nI x + 2) L = true) (o3 : hv_ok (nI x + 3) L = true) (o4 : hv_ok (nI x + 4) L = true) (h : lR σ) (nx : ∀ σ', lR σ' → kL_law_1699 n L xs r23 σ' (nI x) = some ()) : kL_law_1658 n L xs r23 σ (nI x) = some () := by
  obtain ⟨F, P, B, O, D, W, h⟩ := h
  by_cases c : xs (nI x + 1).toNatClampNeg = 0
  · obtain ⟨r, τX, τM, e1, e2, h'⟩ := op_mend (n := n) (by omega) h (0 : Int32)
    unfold kL_law_1658 kL_law_1673 kL_law_1691
    simp only [hv_if_t o1, hv_if_t o2, hv_if_t o3, hv_if_t o4, sh0, if_pos c]
    exact pln (M := fun s => mX8_mend n s (0 : Int32)) (K := fun s => kL_law_1699 n L xs r23 s (nI x)) e1 e2 h' nx
  · obtain ⟨r, τX, τM, e1, e2, h'⟩ := op_mend (n := n) (by omega) h (1 : Int32)
    unfold kL_law_1658 kL_law_1673 kL_law_1691
    simp only [hv_if_t o1, hv_if_t o2, hv_if_t o3, hv_if_t o4, sh0, if_neg c]
    exact pln (M := fun s => mX8_mend n s (1 : Int32)) (K := fun s => kL_law_1699 n L xs r23 s (nI x)) e1 e2 h' nx
theorem br_of {n L : Nat} (hn : 2100 ≤ n) {xs : Nat → Int32} {r23 : hv_St → Int32 → Option Unit} {σ : hv_St} {x : Nat} (o1 : hv_ok (nI x + 1) L = true) (o2 : hv_ok (nI x + 2) L = true) (o3 : hv_ok (nI x + 3) L = true) (o4 : hv_ok (nI x + 4) L = true) (h : lR σ) (nx : ∀ σ', lR σ' → kL_law_1699 n L xs r23 σ' (nI x) = some ()) : kL_law_636 n L xs r23 σ (nI x) = some () := by
  obtain ⟨F, P, B, O, D, W, h⟩ := h
  have t := op_of (n := n) (by omega) h (xs (nI x + 1).toNatClampNeg) (xs (nI x + 2).toNatClampNeg)
  unfold kL_law_636 mL_of kL_law_701
  simp only [hv_if_t o1, hv_if_t o2, hv_if_t o3, hv_if_t o4, sh0]
  exact thr (n := n) (M := fun s => mX8_of n s (xs (nI x + 1).toNatClampNeg) (xs (nI x + 2).toNatClampNeg)) (f := Int32.toInt64) (K := fun s => kL_law_1699 n L xs r23 s (nI x)) t nx
theorem br_at {n L : Nat} (hn : 2100 ≤ n) {xs : Nat → Int32} {r23 : hv_St → Int32 → Option Unit} {σ : hv_St} {x : Nat} (o1 : hv_ok (nI x + 1) L = true) (o2 : hv_ok (nI x + 2) L = true) (o3 : hv_ok (nI x + 3) L = true) (o4 : hv_ok (nI x + 4) L = true) (h : lR σ) (nx : ∀ σ', lR σ' → kL_law_1699 n L xs r23 σ' (nI x) = some ()) : kL_law_704 n L xs r23 σ (nI x) = some () := by
  obtain ⟨F, P, B, O, D, W, h⟩ := h
  have t := op_at (n := n) (by omega) h (xs (nI x + 1).toNatClampNeg) (xs (nI x + 2).toNatClampNeg)
  unfold kL_law_704 mL_at kL_law_769
  simp only [hv_if_t o1, hv_if_t o2, hv_if_t o3, hv_if_t o4, sh0]
  exact thr (n := n) (M := fun s => mX8_at n s (xs (nI x + 1).toNatClampNeg) (xs (nI x + 2).toNatClampNeg)) (f := Int32.toInt64) (K := fun s => kL_law_1699 n L xs r23 s (nI x)) t nx
theorem br_pull {n L : Nat} (hn : 2100 ≤ n) {xs : Nat → Int32} {r23 : hv_St → Int32 → Option Unit} {σ : hv_St} {x : Nat} (o1 : hv_ok (nI x + 1) L = true) (o2 : hv_ok (nI x + 2) L = true) (o3 : hv_ok (nI x + 3) L = true) (o4 : hv_ok (nI x + 4) L = true) (h : lR σ) (nx : ∀ σ', lR σ' → kL_law_1699 n L xs r23 σ' (nI x) = some ()) : kL_law_772 n L xs r23 σ (nI x) = some () := by
  obtain ⟨F, P, B, O, D, W, h⟩ := h
  by_cases c : xs (nI x + 2).toNatClampNeg = 0
  · have t := op_pull (n := n) (by omega) h (xs (nI x + 1).toNatClampNeg) (0 : Int32)
    unfold kL_law_772 kL_law_793 kL_law_820 kL_law_852 mL_pull
    simp only [hv_if_t o1, hv_if_t o2, hv_if_t o3, hv_if_t o4, sh0, if_pos c]
    exact thr (n := n) (M := fun s => mX8_pull n s (xs (nI x + 1).toNatClampNeg) (0 : Int32)) (f := fun v => v) (K := fun s => kL_law_1699 n L xs r23 s (nI x)) t nx
  · have t := op_pull (n := n) (by omega) h (xs (nI x + 1).toNatClampNeg) (1 : Int32)
    unfold kL_law_772 kL_law_793 kL_law_820 kL_law_852 mL_pull
    simp only [hv_if_t o1, hv_if_t o2, hv_if_t o3, hv_if_t o4, sh0, if_neg c]
    exact thr (n := n) (M := fun s => mX8_pull n s (xs (nI x + 1).toNatClampNeg) (1 : Int32)) (f := fun v => v) (K := fun s => kL_law_1699 n L xs r23 s (nI x)) t nx
theorem br_state {n L : Nat} (hn : 2100 ≤ n) {xs : Nat → Int32} {r23 : hv_St → Int32 → Option Unit} {σ : hv_St} {x : Nat} (o1 : hv_ok (nI x + 1) L = true) (o2 : hv_ok (nI x + 2) L = true) (o3 : hv_ok (nI x + 3) L = true) (o4 : hv_ok (nI x + 4) L = true) (h : lR σ) (nx : ∀ σ', lR σ' → kL_law_1699 n L xs r23 σ' (nI x) = some ()) : kL_law_855 n L xs r23 σ (nI x) = some () := by
  obtain ⟨F, P, B, O, D, W, h⟩ := h
  by_cases c : xs (nI x + 3).toNatClampNeg = 0
  · have t := op_state (n := n) (by omega) h (xs (nI x + 1).toNatClampNeg) (xs (nI x + 2).toNatClampNeg) (0 : Int32)
    unfold kL_law_855 kL_law_882 kL_law_915 kL_law_947 mL_state
    simp only [hv_if_t o1, hv_if_t o2, hv_if_t o3, hv_if_t o4, sh0, if_pos c]
    exact thr (n := n) (M := fun s => mX8_state n s (xs (nI x + 1).toNatClampNeg) (xs (nI x + 2).toNatClampNeg) (0 : Int32)) (f := fun v => v) (K := fun s => kL_law_1699 n L xs r23 s (nI x)) t nx
  · have t := op_state (n := n) (by omega) h (xs (nI x + 1).toNatClampNeg) (xs (nI x + 2).toNatClampNeg) (1 : Int32)
    unfold kL_law_855 kL_law_882 kL_law_915 kL_law_947 mL_state
    simp only [hv_if_t o1, hv_if_t o2, hv_if_t o3, hv_if_t o4, sh0, if_neg c]
    exact thr (n := n) (M := fun s => mX8_state n s (xs (nI x + 1).toNatClampNeg) (xs (nI x + 2).toNatClampNeg) (1 : Int32)) (f := fun v => v) (K := fun s => kL_law_1699 n L xs r23 s (nI x)) t nx
theorem br_flex {n L : Nat} (hn : 2100 ≤ n) {xs : Nat → Int32} {r23 : hv_St → Int32 → Option Unit} {σ : hv_St} {x : Nat} (o1 : hv_ok (nI x + 1) L = true) (o2 : hv_ok (nI x + 2) L = true) (o3 : hv_ok (nI x + 3) L = true) (o4 : hv_ok (nI x + 4) L = true) (h : lR σ) (nx : ∀ σ', lR σ' → kL_law_1699 n L xs r23 σ' (nI x) = some ()) : kL_law_950 n L xs r23 σ (nI x) = some () := by
  obtain ⟨F, P, B, O, D, W, h⟩ := h
  by_cases c : xs (nI x + 3).toNatClampNeg = 0
  · have t := op_flex (n := n) (by omega) h (xs (nI x + 1).toNatClampNeg) (xs (nI x + 2).toNatClampNeg) (0 : Int32)
    unfold kL_law_950 kL_law_977 kL_law_1010 kL_law_1042 mL_flex
    simp only [hv_if_t o1, hv_if_t o2, hv_if_t o3, hv_if_t o4, sh0, if_pos c]
    exact thr (n := n) (M := fun s => mX8_flex n s (xs (nI x + 1).toNatClampNeg) (xs (nI x + 2).toNatClampNeg) (0 : Int32)) (f := fun v => v) (K := fun s => kL_law_1699 n L xs r23 s (nI x)) t nx
  · have t := op_flex (n := n) (by omega) h (xs (nI x + 1).toNatClampNeg) (xs (nI x + 2).toNatClampNeg) (1 : Int32)
    unfold kL_law_950 kL_law_977 kL_law_1010 kL_law_1042 mL_flex
    simp only [hv_if_t o1, hv_if_t o2, hv_if_t o3, hv_if_t o4, sh0, if_neg c]
    exact thr (n := n) (M := fun s => mX8_flex n s (xs (nI x + 1).toNatClampNeg) (xs (nI x + 2).toNatClampNeg) (1 : Int32)) (f := fun v => v) (K := fun s => kL_law_1699 n L xs r23 s (nI x)) t nx
theorem br_force {n L : Nat} (hn : 2100 ≤ n) {xs : Nat → Int32} {r23 : hv_St → Int32 → Option Unit} {σ : hv_St} {x : Nat} (o1 : hv_ok (nI x + 1) L = true) (o2 : hv_ok (nI x + 2) L = true) (o3 : hv_ok (nI x + 3) L = true) (o4 : hv_ok (nI x + 4) L = true) (h : lR σ) (nx : ∀ σ', lR σ' → kL_law_1699 n L xs r23 σ' (nI x) = some ()) : kL_law_1045 n L xs r23 σ (nI x) = some () := by
  obtain ⟨F, P, B, O, D, W, h⟩ := h
  by_cases c : xs (nI x + 3).toNatClampNeg = 0
  · have t := op_force (n := n) (by omega) h (xs (nI x + 1).toNatClampNeg) (xs (nI x + 2).toNatClampNeg) (0 : Int32)
    unfold kL_law_1045 kL_law_1072 kL_law_1105 kL_law_1137 mL_force
    simp only [hv_if_t o1, hv_if_t o2, hv_if_t o3, hv_if_t o4, sh0, if_pos c]
    exact thr (n := n) (M := fun s => mX8_force n s (xs (nI x + 1).toNatClampNeg) (xs (nI x + 2).toNatClampNeg) (0 : Int32)) (f := fun v => v) (K := fun s => kL_law_1699 n L xs r23 s (nI x)) t nx
  · have t := op_force (n := n) (by omega) h (xs (nI x + 1).toNatClampNeg) (xs (nI x + 2).toNatClampNeg) (1 : Int32)
    unfold kL_law_1045 kL_law_1072 kL_law_1105 kL_law_1137 mL_force
    simp only [hv_if_t o1, hv_if_t o2, hv_if_t o3, hv_if_t o4, sh0, if_neg c]
    exact thr (n := n) (M := fun s => mX8_force n s (xs (nI x + 1).toNatClampNeg) (xs (nI x + 2).toNatClampNeg) (1 : Int32)) (f := fun v => v) (K := fun s => kL_law_1699 n L xs r23 s (nI x)) t nx
theorem br_influence {n L : Nat} (hn : 2100 ≤ n) {xs : Nat → Int32} {r23 : hv_St → Int32 → Option Unit} {σ : hv_St} {x : Nat} (o1 : hv_ok (nI x + 1) L = true) (o2 : hv_ok (nI x + 2) L = true) (o3 : hv_ok (nI x + 3) L = true) (o4 : hv_ok (nI x + 4) L = true) (h : lR σ) (nx : ∀ σ', lR σ' → kL_law_1699 n L xs r23 σ' (nI x) = some ()) : kL_law_1140 n L xs r23 σ (nI x) = some () := by
  obtain ⟨F, P, B, O, D, W, h⟩ := h
  by_cases c : xs (nI x + 4).toNatClampNeg = 0
  · have t := op_influence (n := n) (by omega) h (xs (nI x + 1).toNatClampNeg) (xs (nI x + 2).toNatClampNeg) (xs (nI x + 3).toNatClampNeg) (0 : Int32)
    unfold kL_law_1140 kL_law_1173 kL_law_1212 kL_law_1244 mL_influence
    simp only [hv_if_t o1, hv_if_t o2, hv_if_t o3, hv_if_t o4, sh0, if_pos c]
    exact thr (n := n) (M := fun s => mX8_influence n s (xs (nI x + 1).toNatClampNeg) (xs (nI x + 2).toNatClampNeg) (xs (nI x + 3).toNatClampNeg) (0 : Int32)) (f := fun v => v) (K := fun s => kL_law_1699 n L xs r23 s (nI x)) t nx
  · have t := op_influence (n := n) (by omega) h (xs (nI x + 1).toNatClampNeg) (xs (nI x + 2).toNatClampNeg) (xs (nI x + 3).toNatClampNeg) (1 : Int32)
    unfold kL_law_1140 kL_law_1173 kL_law_1212 kL_law_1244 mL_influence
    simp only [hv_if_t o1, hv_if_t o2, hv_if_t o3, hv_if_t o4, sh0, if_neg c]
    exact thr (n := n) (M := fun s => mX8_influence n s (xs (nI x + 1).toNatClampNeg) (xs (nI x + 2).toNatClampNeg) (xs (nI x + 3).toNatClampNeg) (1 : Int32)) (f := fun v => v) (K := fun s => kL_law_1699 n L xs r23 s (nI x)) t nx
theorem br_cut {n L : Nat} (hn : 2100 ≤ n) {xs : Nat → Int32} {r23 : hv_St → Int32 → Option Unit} {σ : hv_St} {x : Nat} (o1 : hv_ok (nI x + 1) L = true) (o2 : hv_ok (nI x + 2) L = true) (o3 : hv_ok (nI x + 3) L = true) (o4 : hv_ok (nI x + 4) L = true) (h : lR σ) (nx : ∀ σ', lR σ' → kL_law_1699 n L xs r23 σ' (nI x) = some ()) : kL_law_1247 n L xs r23 σ (nI x) = some () := by
  obtain ⟨F, P, B, O, D, W, h⟩ := h
  by_cases c : xs (nI x + 3).toNatClampNeg = 0
  · have t := op_cut (n := n) (by omega) h (xs (nI x + 1).toNatClampNeg) (xs (nI x + 2).toNatClampNeg) (0 : Int32)
    unfold kL_law_1247 kL_law_1274 kL_law_1307 kL_law_1339 mL_cut
    simp only [hv_if_t o1, hv_if_t o2, hv_if_t o3, hv_if_t o4, sh0, if_pos c]
    exact thr (n := n) (M := fun s => mX8_cut n s (xs (nI x + 1).toNatClampNeg) (xs (nI x + 2).toNatClampNeg) (0 : Int32)) (f := fun v => v) (K := fun s => kL_law_1699 n L xs r23 s (nI x)) t nx
  · have t := op_cut (n := n) (by omega) h (xs (nI x + 1).toNatClampNeg) (xs (nI x + 2).toNatClampNeg) (1 : Int32)
    unfold kL_law_1247 kL_law_1274 kL_law_1307 kL_law_1339 mL_cut
    simp only [hv_if_t o1, hv_if_t o2, hv_if_t o3, hv_if_t o4, sh0, if_neg c]
    exact thr (n := n) (M := fun s => mX8_cut n s (xs (nI x + 1).toNatClampNeg) (xs (nI x + 2).toNatClampNeg) (1 : Int32)) (f := fun v => v) (K := fun s => kL_law_1699 n L xs r23 s (nI x)) t nx
theorem br_riding {n L : Nat} (hn : 2100 ≤ n) {xs : Nat → Int32} {r23 : hv_St → Int32 → Option Unit} {σ : hv_St} {x : Nat} (o1 : hv_ok (nI x + 1) L = true) (o2 : hv_ok (nI x + 2) L = true) (o3 : hv_ok (nI x + 3) L = true) (o4 : hv_ok (nI x + 4) L = true) (h : lR σ) (nx : ∀ σ', lR σ' → kL_law_1699 n L xs r23 σ' (nI x) = some ()) : kL_law_1405 n L xs r23 σ (nI x) = some () := by
  obtain ⟨F, P, B, O, D, W, h⟩ := h
  by_cases c : xs (nI x + 3).toNatClampNeg = 0
  · have t := op_riding (n := n) (by omega) h (xs (nI x + 1).toNatClampNeg) (xs (nI x + 2).toNatClampNeg) (0 : Int32)
    unfold kL_law_1405 kL_law_1432 kL_law_1465 kL_law_1497 mL_riding
    simp only [hv_if_t o1, hv_if_t o2, hv_if_t o3, hv_if_t o4, sh0, if_pos c]
    exact thr (n := n) (M := fun s => mX8_riding n s (xs (nI x + 1).toNatClampNeg) (xs (nI x + 2).toNatClampNeg) (0 : Int32)) (f := fun v => v) (K := fun s => kL_law_1699 n L xs r23 s (nI x)) t nx
  · have t := op_riding (n := n) (by omega) h (xs (nI x + 1).toNatClampNeg) (xs (nI x + 2).toNatClampNeg) (1 : Int32)
    unfold kL_law_1405 kL_law_1432 kL_law_1465 kL_law_1497 mL_riding
    simp only [hv_if_t o1, hv_if_t o2, hv_if_t o3, hv_if_t o4, sh0, if_neg c]
    exact thr (n := n) (M := fun s => mX8_riding n s (xs (nI x + 1).toNatClampNeg) (xs (nI x + 2).toNatClampNeg) (1 : Int32)) (f := fun v => v) (K := fun s => kL_law_1699 n L xs r23 s (nI x)) t nx
theorem br_left {n L : Nat} (hn : 2100 ≤ n) {xs : Nat → Int32} {r23 : hv_St → Int32 → Option Unit} {σ : hv_St} {x : Nat} (o1 : hv_ok (nI x + 1) L = true) (o2 : hv_ok (nI x + 2) L = true) (o3 : hv_ok (nI x + 3) L = true) (o4 : hv_ok (nI x + 4) L = true) (h : lR σ) (nx : ∀ σ', lR σ' → kL_law_1699 n L xs r23 σ' (nI x) = some ()) : kL_law_1550 n L xs r23 σ (nI x) = some () := by
  obtain ⟨F, P, B, O, D, W, h⟩ := h
  by_cases c : xs (nI x + 3).toNatClampNeg = 0
  · have t := op_left (n := n) (by omega) h (xs (nI x + 1).toNatClampNeg) (xs (nI x + 2).toNatClampNeg) (0 : Int32)
    unfold kL_law_1550 kL_law_1577 kL_law_1610 kL_law_1642 mL_left
    simp only [hv_if_t o1, hv_if_t o2, hv_if_t o3, hv_if_t o4, sh0, if_pos c]
    exact thr (n := n) (M := fun s => mX8_left n s (xs (nI x + 1).toNatClampNeg) (xs (nI x + 2).toNatClampNeg) (0 : Int32)) (f := fun v => v) (K := fun s => kL_law_1699 n L xs r23 s (nI x)) t nx
  · have t := op_left (n := n) (by omega) h (xs (nI x + 1).toNatClampNeg) (xs (nI x + 2).toNatClampNeg) (1 : Int32)
    unfold kL_law_1550 kL_law_1577 kL_law_1610 kL_law_1642 mL_left
    simp only [hv_if_t o1, hv_if_t o2, hv_if_t o3, hv_if_t o4, sh0, if_neg c]
    exact thr (n := n) (M := fun s => mX8_left n s (xs (nI x + 1).toNatClampNeg) (xs (nI x + 2).toNatClampNeg) (1 : Int32)) (f := fun v => v) (K := fun s => kL_law_1699 n L xs r23 s (nI x)) t nx
