/-! free directions; the columns; both sides lay them -/
def fFree (F : Nat → Nat → Int32) (s : Nat) : Bool := decide ((F 3 (s / 2) >>> nI (s % 2)) &&& 1 = 0)
def fL (F : Nat → Nat → Int32) (k : Nat) : List Nat := (List.range k).filter (fFree F)
def fCol (F : Nat → Nat → Int32) (P b : Nat) : md_V := fun k => fBr F b ((fL F (2 * P)).getD k 0 / 2) ((fL F (2 * P)).getD k 0 % 2)
def fXc (F : Nat → Nat → Int32) (P B c : Nat) : md_V := if c < B then fCol F P c else md_e (c - B)
theorem fL_le (F : Nat → Nat → Int32) (k : Nat) : (fL F k).length ≤ k := by
  have := List.length_filter_le (fFree F) (List.range k)
  rw [List.length_range] at this
  exact this
theorem fL_succ (F : Nat → Nat → Int32) (k : Nat) : fL F (k + 1) = if fFree F k = true then fL F k ++ [k] else fL F k := by
  unfold fL
  rw [List.range_succ, List.filter_append]
  by_cases h : fFree F k = true
  · rw [if_pos h, List.filter_cons_of_pos h, List.filter_nil]
  · rw [if_neg h, List.filter_cons_of_neg h, List.filter_nil, List.append_nil]
theorem fL_lt {F : Nat → Nat → Int32} {k j : Nat} (h : j < (fL F k).length) : (fL F k).getD j 0 < k ∧ fFree F ((fL F k).getD j 0) = true := by
  rw [List.getD_eq_getElem?_getD, List.getElem?_eq_getElem h, Option.getD_some]
  have q := List.mem_filter.mp (List.getElem_mem h)
  exact ⟨List.mem_range.mp q.1, q.2⟩
theorem getD_app_lt {l : List Nat} {x j : Nat} (h : j < l.length) : (l ++ [x]).getD j 0 = l.getD j 0 := by
  simp [List.getD_eq_getElem?_getD, List.getElem?_append_left h]
theorem getD_app_at {l : List Nat} {x : Nat} : (l ++ [x]).getD l.length 0 = x := by
  simp [List.getD_eq_getElem?_getD]
theorem sI9_rd {σ : hv_St} {i j : Nat} {v : Int32} (h : j ≠ i) (c : Nat) : (hv_sI σ c i v).1 c j = σ.1 c j := by
  rw [hv_sI_rd, if_neg h]
theorem x0_findFree_loop {n : Nat} {F : Nat → Nat → Int32} {P : Nat} (hP : P ≤ 6) (hF : F 0 1 = nI P) : ∀ (d k fuel : Nat) (σ : hv_St), k + d = 2 * P → d < fuel → rX F σ → σ.1 9 4 = nI (fL F k).length → (∀ j, j < (fL F k).length → σ.1 11 j = nI ((fL F k).getD j 0)) → ∃ τ, kX0_findFree_7 n fuel σ (nI k) = some τ ∧ fr (fun c => c = 9 ∨ c = 11) (fun _ => False) σ τ ∧ τ.1 9 4 = nI (fL F (2 * P)).length ∧ ∀ j, j < (fL F (2 * P)).length → τ.1 11 j = nI ((fL F (2 * P)).getD j 0) := by
  intro d
  induction d with
  | zero =>
    intro k fuel σ hk hf hx h1 h2
    obtain ⟨fuel, rfl⟩ : ∃ q, fuel = q + 1 := ⟨fuel - 1, by omega⟩
    obtain rfl : k = 2 * P := by omega
    refine ⟨σ, ?_, fr_rfl, h1, h2⟩
    show kX0_findFree_7_b n _ _ _ = _
    unfold kX0_findFree_7_b
    rw [hx.1.1, hF, nI_2, if_pos (nI_le (Nat.le_refl _) (by omega))]
  | succ d ih =>
    intro k fuel σ hk hf hx h1 h2
    obtain ⟨fuel, rfl⟩ : ∃ q, fuel = q + 1 := ⟨fuel - 1, by omega⟩
    have hl := fL_le F k
    have e4 : σ.1 4 k = (F 3 (k / 2) >>> nI (k % 2)) &&& 1 := by
      have q := hx.2.2.2.1 (k / 2) (k % 2) (by omega) (by omega)
      rw [show 2 * (k / 2) + k % 2 = k by omega] at q
      exact q
    have e : kX0_findFree_7 n (fuel + 1) σ (nI k) = if fFree F k = true then kX0_findFree_7 n fuel (hv_sI (hv_sI σ 11 (fL F k).length (nI k)) 9 4 (nI ((fL F k).length + 1))) (nI (k + 1)) else kX0_findFree_7 n fuel σ (nI (k + 1)) := by
      show kX0_findFree_7_b n _ _ _ = _
      unfold kX0_findFree_7_b kX0_findFree_52
      rw [hx.1.1, hF, nI_2, if_neg (nI_ge (by omega) (by omega)), hv_if_t (hv_ok_nI (show k < 12 by omega) (by decide)), nI_clamp (by omega), nI_1, e4]
      by_cases h : (F 3 (k / 2) >>> nI (k % 2)) &&& 1 = 0
      · rw [if_pos h, if_pos (show fFree F k = true from decide_eq_true h), h1, hv_if_t (hv_ok_nI (show (fL F k).length < 12 by omega) (by decide)), nI_clamp (by omega), hv_let_e, hv_let_e, hv_sI_ne _ _ _ (by decide), h1, nI_1]
      · rw [if_neg h, if_neg (show ¬ fFree F k = true from fun q => h (of_decide_eq_true q))]
    rw [e]
    have es := fL_succ F k
    by_cases h : fFree F k = true
    · rw [if_pos h]
      rw [if_pos h] at es
      have hx2 : rX F (hv_sI (hv_sI σ 11 (fL F k).length (nI k)) 9 4 (nI ((fL F k).length + 1))) := rX_1 hx (fun q hq => by
        rw [hv_sI_ne _ _ _ (by omega), hv_sI_ne _ _ _ (by omega)])
      obtain ⟨τ, t1, t2, t3, t4⟩ := ih (k + 1) fuel _ (by omega) (by omega) hx2 (by
        rw [hv_sI_rd, if_pos rfl, es, List.length_append]
        rfl) (fun j hj => by
        rw [hv_sI_ne _ _ _ (by decide), hv_sI_rd, es]
        rw [es, List.length_append, List.length_singleton] at hj
        by_cases ej : j = (fL F k).length
        · rw [if_pos ej, ej, getD_app_at]
        · rw [if_neg ej, getD_app_lt (by omega), h2 j (by omega)])
      exact ⟨τ, t1, fr_tr (fr_I' (fr_I (Or.inr rfl) _ _) (Or.inl rfl) _ _) t2, t3, t4⟩
    · rw [if_neg h]
      rw [if_neg h] at es
      exact ih (k + 1) fuel σ (by omega) (by omega) hx (by rw [es]; exact h1) (by rw [es]; exact h2)
theorem x0_findFree {n : Nat} (hn : 12 < n) {F : Nat → Nat → Int32} {P : Nat} (hP : P ≤ 6) (hF : F 0 1 = nI P) {σ : hv_St} (hx : rX F σ) : ∃ τ, mX0_findFree n σ = some τ ∧ fr (fun c => c = 9 ∨ c = 11) (fun _ => False) σ τ ∧ τ.1 9 4 = nI (fL F (2 * P)).length ∧ ∀ j, j < (fL F (2 * P)).length → τ.1 11 j = nI ((fL F (2 * P)).getD j 0) := by
  obtain ⟨τ, t1, t2, t3, t4⟩ := x0_findFree_loop (n := n) hP hF (2 * P) 0 n (hv_sI σ 9 4 0) (by omega) (by omega) (rX_1 hx (fun q hq => by rw [hv_sI_ne _ _ _ (by omega)])) (by rw [hv_sI_rd, if_pos rfl]; rfl) (fun j hj => absurd hj (Nat.not_lt_zero _))
  exact ⟨τ, t1, fr_tr (fr_I (Or.inl rfl) _ _) t2, t3, t4⟩
/-- the reference's -/
def rFr (F : Nat → Nat → Int32) (P : Nat) (σ : hv_St) : Prop := σ.1 0 18 = nI (fL F (2 * P)).length ∧ ∀ j, j < (fL F (2 * P)).length → σ.1 11 j = nI ((fL F (2 * P)).getD j 0 / 2) ∧ σ.1 12 j = nI ((fL F (2 * P)).getD j 0 % 2)
def rFk (F : Nat → Nat → Int32) (k : Nat) (σ : hv_St) : Prop := σ.1 0 18 = nI (fL F k).length ∧ ∀ j, j < (fL F k).length → σ.1 11 j = nI ((fL F k).getD j 0 / 2) ∧ σ.1 12 j = nI ((fL F k).getD j 0 % 2)
theorem r8_free_step {n : Nat} {F : Nat → Nat → Int32} {P B O D W : Nat} (hi : hI F P B O D W) {r7 : hv_St → Int32 → Option hv_St} {p w fuel : Nat} {σ : hv_St} (hp : p < P) (hw : w < 2) (hm : rM F σ) (hk : rFk F (2 * p + w) σ) : ∃ τ, kX8_laysFree_17 n r7 (fuel + 1) σ (nI p) (nI w) = kX8_laysFree_17 n r7 fuel τ (nI p) (nI (w + 1)) ∧ rM F τ ∧ rFk F (2 * p + w + 1) τ ∧ fr (fun c => c = 0 ∨ c = 11 ∨ c = 12) (fun _ => False) σ τ ∧ ∀ i, i ≠ 18 → τ.1 0 i = σ.1 0 i := by
  have hP := hi.1.2
  have hl := fL_le F (2 * p + w)
  obtain ⟨m, hm4, em⟩ := hi.2.2.2.2.2.2.2.2.1 p (by omega)
  obtain ⟨b1, -, b3, -⟩ := bit_p hm4 hw
  have ef : fFree F (2 * p + w) = decide ((nI m >>> nI w) &&& 1 = 0) := by
    unfold fFree
    rw [show (2 * p + w) / 2 = p by omega, show (2 * p + w) % 2 = w by omega, em]
  have e : kX8_laysFree_17 n r7 (fuel + 1) σ (nI p) (nI w) = if fFree F (2 * p + w) = true then kX8_laysFree_17 n r7 fuel (hv_sI (hv_sI (hv_sI σ 11 (fL F (2 * p + w)).length (nI p)) 12 (fL F (2 * p + w)).length (nI w)) 0 18 (nI ((fL F (2 * p + w)).length + 1))) (nI p) (nI (w + 1)) else kX8_laysFree_17 n r7 fuel σ (nI p) (nI (w + 1)) := by
    show kX8_laysFree_17_b n r7 _ _ _ _ = _
    unfold kX8_laysFree_17_b kX8_laysFree_65
    rw [if_neg (show ¬ (2 : Int32) ≤ nI w from nI_ge (b := 2) (by omega) (by decide)), hv_if_t (hv_ok_nI (show p < 6 by omega) (by decide)), nI_clamp (by omega), hm.2 3 (by decide) (by decide), em, nI_1, ef]
    rw [b3] at b1
    rcases b1 with q | q
    · rw [(r8_isOn (nI m) (nI w)).2 (fun h => by unfold fB at h; rw [b3, q] at h; exact absurd h (by decide)), hv_b2_e, if_pos rfl, if_pos (decide_eq_true q), hk.1, hv_if_t (hv_ok_nI (show (fL F (2 * p + w)).length < 12 by omega) (by decide)), nI_clamp (by omega), hv_let_e, hv_sI_ne _ _ _ (by decide), hk.1, hv_if_t (hv_ok_nI (show (fL F (2 * p + w)).length < 12 by omega) (by decide)), nI_clamp (by omega), hv_let_e, hv_let_e, hv_sI_ne _ _ _ (by decide), hv_sI_ne _ _ _ (by decide), hk.1, nI_1]
    · rw [(r8_isOn (nI m) (nI w)).1 (by unfold fB; rw [b3, q]), hv_b2_e, if_neg (by decide), if_neg (by rw [q]; decide)]
  rw [e]
  have es := fL_succ F (2 * p + w)
  by_cases h : fFree F (2 * p + w) = true
  · rw [if_pos h]
    rw [if_pos h] at es
    refine ⟨_, rfl, rM_sc (rM_sI (rM_sI hm (by decide) _ _) (by decide) _ _) (by decide) _, ⟨?_, fun j hj => ?_⟩, fr_I' (fr_I' (fr_I (Or.inr (Or.inl rfl)) _ _) (Or.inr (Or.inr rfl)) _ _) (Or.inl rfl) _ _, fun i hi' => ?_⟩
    · rw [hv_sI_rd, if_pos rfl, es, List.length_append]
      rfl
    · rw [es, List.length_append, List.length_singleton] at hj
      rw [hv_sI_ne _ _ _ (by decide), hv_sI_ne _ _ _ (by decide), hv_sI_rd, hv_sI_ne _ _ _ (by decide), hv_sI_rd, es]
      by_cases ej : j = (fL F (2 * p + w)).length
      · rw [if_pos ej, if_pos ej, ej, getD_app_at, show (2 * p + w) / 2 = p by omega, show (2 * p + w) % 2 = w by omega]
        exact ⟨rfl, rfl⟩
      · rw [if_neg ej, if_neg ej, getD_app_lt (by omega)]
        exact hk.2 j (by omega)
    · rw [hv_sI_rd, if_neg hi', hv_sI_ne _ _ _ (by decide), hv_sI_ne _ _ _ (by decide)]
  · rw [if_neg h]
    rw [if_neg h] at es
    refine ⟨σ, rfl, hm, ?_, fr_rfl, fun _ _ => rfl⟩
    unfold rFk
    rw [es]
    exact hk
theorem r8_free_loop {n : Nat} (hn : 12 < n) {F : Nat → Nat → Int32} {P B O D W : Nat} (hi : hI F P B O D W) : ∀ (d p fuel : Nat) (σ : hv_St), p + d = P → d < fuel → rM F σ → rFk F (2 * p) σ → ∃ τ, kX8_laysFree_7 n fuel σ (nI p) = some τ ∧ rM F τ ∧ rFr F P τ ∧ fr (fun c => c = 0 ∨ c = 11 ∨ c = 12) (fun _ => False) σ τ ∧ ∀ i, i ≠ 18 → τ.1 0 i = σ.1 0 i := by
  have hP := hi.1.2
  intro d
  induction d with
  | zero =>
    intro p fuel σ hp hf hm hk
    obtain ⟨fuel, rfl⟩ : ∃ q, fuel = q + 1 := ⟨fuel - 1, by omega⟩
    obtain rfl : p = P := by omega
    refine ⟨σ, ?_, hm, hk, fr_rfl, fun _ _ => rfl⟩
    show kX8_laysFree_7_b n _ _ _ = _
    unfold kX8_laysFree_7_b
    rw [hm.1.1, hi.1.1, if_pos (nI_le (Nat.le_refl _) (by omega))]
  | succ d ih =>
    intro p fuel σ hp hf hm hk
    obtain ⟨fuel, rfl⟩ : ∃ q, fuel = q + 1 := ⟨fuel - 1, by omega⟩
    obtain ⟨n', rfl⟩ : ∃ q, n = q + 3 := ⟨n - 3, by omega⟩
    obtain ⟨τ1, a1, a2, a3, a4, a5⟩ := r8_free_step (n := n' + 3) (r7 := kX8_laysFree_7 (n' + 3) fuel) (fuel := n' + 2) hi (show p < P by omega) (show 0 < 2 by omega) hm hk
    obtain ⟨τ2, b1, b2, b3, b4, b5⟩ := r8_free_step (n := n' + 3) (r7 := kX8_laysFree_7 (n' + 3) fuel) (fuel := n' + 1) hi (show p < P by omega) (show 1 < 2 by omega) a2 a3
    obtain ⟨τ, c1, c2, c3, c4, c5⟩ := ih (p + 1) fuel τ2 (by omega) (by omega) b2 (by rw [show 2 * (p + 1) = 2 * p + 1 + 1 by omega]; exact b3)
    refine ⟨τ, ?_, c2, c3, fr_tr (fr_tr a4 b4) c4, fun i hi' => (c5 i hi').trans ((b5 i hi').trans (a5 i hi'))⟩
    show kX8_laysFree_7_b (n' + 3) _ _ _ = _
    unfold kX8_laysFree_7_b
    rw [hm.1.1, hi.1.1, if_neg (nI_ge (by omega) (by omega))]
    show kX8_laysFree_17 (n' + 3) (kX8_laysFree_7 (n' + 3) fuel) (n' + 2 + 1) σ (nI p) (nI 0) = _
    rw [a1]
    show kX8_laysFree_17 (n' + 3) (kX8_laysFree_7 (n' + 3) fuel) (n' + 1 + 1) τ1 (nI p) (nI 1) = _
    rw [b1]
    show kX8_laysFree_17_b (n' + 3) _ _ _ _ _ = _
    unfold kX8_laysFree_17_b
    rw [if_pos (show (2 : Int32) ≤ nI (1 + 1) by decide), nI_1]
    exact c1
theorem r8_laysFree {n : Nat} (hn : 12 < n) {F : Nat → Nat → Int32} {P B O D W : Nat} (hi : hI F P B O D W) {σ : hv_St} (hm : rM F σ) : ∃ τ, mX8_laysFree n σ = some τ ∧ rM F τ ∧ rFr F P τ ∧ fr (fun c => c = 0 ∨ c = 11 ∨ c = 12) (fun _ => False) σ τ ∧ ∀ i, i ≠ 18 → τ.1 0 i = σ.1 0 i := by
  have hP := hi.1.2
  obtain ⟨τ, a1, a2, a3, a4, a5⟩ := r8_free_loop hn hi P 0 n (hv_sI σ 0 18 0) (by omega) (by omega) (rM_sc hm (by decide) 0) ⟨by rw [hv_sI_rd, if_pos rfl]; rfl, fun j hj => absurd hj (Nat.not_lt_zero _)⟩
  exact ⟨τ, a1, a2, a3, fr_tr (fr_I (Or.inl rfl) _ _) a4, fun i hi' => (a5 i hi').trans (by rw [hv_sI_rd, if_neg hi'])⟩
