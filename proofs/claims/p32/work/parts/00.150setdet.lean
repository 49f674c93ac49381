/-! the reference's determinant of a set of bars, one column another -/
theorem md_W_box {n M : Nat} {v : md_V} (h : ∀ k, k < n → (v k).natAbs ≤ M) : md_W (List.range n) v (M * n) := by
  have key : ∀ j, j ≤ n → md_W (List.range n) (fun k => if k < j then v k else 0) (M * j) := by
    intro j
    induction j with
    | zero =>
      intro _
      exact md_W_on md_W_zero (fun r _ => by rw [if_neg (Nat.not_lt_zero r)])
    | succ j ih =>
      intro hj
      have q := md_W_lin (ih (by omega)) (md_W_net (md_net_e (n := n) j)) 1 (v j)
      refine md_W_on (md_W_le q ?_) (fun r _ => ?_)
      · have := h j (by omega)
        have e : M * (j + 1) = M * j + M := Nat.mul_succ M j
        show 1 * (M * j) + (v j).natAbs * 1 ≤ M * (j + 1)
        omega
      · unfold md_e
        by_cases e : r = j
        · rw [if_pos (show r < j + 1 by omega), if_neg (show ¬ r < j by omega), if_pos e, e]
          omega
        · by_cases l : r < j
          · rw [if_pos (show r < j + 1 by omega), if_pos l, if_neg e]
            omega
          · rw [if_neg (show ¬ r < j + 1 by omega), if_neg l, if_neg e]
            omega
  exact md_W_on (key n (Nat.le_refl n)) (fun r hr => by rw [if_pos (List.mem_range.mp hr)])
theorem fBl_succ (S k : Nat) : fBl S (k + 1) = if S.testBit k = true then fBl S k ++ [k] else fBl S k := by
  unfold fBl
  rw [List.range_succ, List.filter_append]
  by_cases h : S.testBit k = true
  · rw [if_pos h, List.filter_cons_of_pos h, List.filter_nil]
  · rw [if_neg h, List.filter_cons_of_neg h, List.filter_nil, List.append_nil]
theorem fBl_mono (S : Nat) {j k : Nat} (h : j ≤ k) : (fBl S j).length ≤ (fBl S k).length := by
  induction k with
  | zero =>
    obtain rfl : j = 0 := by omega
    exact Nat.le_refl _
  | succ k ih =>
    by_cases e : j = k + 1
    · rw [e]
      exact Nat.le_refl _
    · have q := ih (by omega)
      rw [fBl_succ]
      by_cases c : S.testBit k = true
      · rw [if_pos c, List.length_append]
        omega
      · rw [if_neg c]
        exact q
theorem md_cl_map (G : Nat → md_V) : ∀ (l pre : List Nat), md_cl (fun c => G ((pre ++ l).getD c 0)) pre.length l.length = l.map G
  | [], _ => rfl
  | b :: l, pre => by
    show G ((pre ++ b :: l).getD pre.length 0) :: md_cl _ (pre.length + 1) l.length = G b :: l.map G
    have e : pre ++ b :: l = (pre ++ [b]) ++ l := by simp
    have q := md_cl_map G l (pre ++ [b])
    rw [← e, List.length_append, List.length_singleton] at q
    rw [q]
    congr 1
    congr 1
    simp [List.getD_eq_getElem?_getD]
theorem md_dt_map (R : List Nat) (G : Nat → md_V) (l : List Nat) : md_dt R (fun c => G (l.getD c 0)) l.length = md_D R (l.map G) := by
  have q := md_cl_map G l []
  unfold md_dt
  exact congrArg (md_D R) q
/-- a set's columns, some (e) being another -/
def gC (F : Nat → Nat → Int32) (P : Nat) (e : Nat → Bool) (col : md_V) : Nat → md_V := fun b => if e b = true then col else fCol F P b
def dS (F : Nat → Nat → Int32) (P B S : Nat) (e : Nat → Bool) (col : md_V) : Int := md_D (fR F P) ((fBl S B).map (gC F P e col))
theorem r8_sd29 {n : Nat} {F : Nat → Nat → Int32} {P B O D W : Nat} (hi : hI F P B O D W) {r5 : hv_St → Int32 → Int32 → Int32 → Int32 → Option (Int64 × hv_St)} {σ : hv_St} (hm : rM F σ) (hfr : rFr F P σ) {e : Nat → Bool} {but : Int32} (he : ∀ b, b < B → (nI b = but ↔ e b = true)) {col : md_V} (hcol : ∀ k, k < fN' F P → σ.1 14 k = iI (col k) ∧ (col k).natAbs ≤ 2 ^ 20) {c b : Nat} (hc : c < 12) (hb : b < B) (S : Int32) : ∀ (d k fuel : Nat) (f : Nat → Int64), k + d = fN' F P → d < fuel → (∀ a, a < k → f (12 * a + c) = iL (gC F P e col b a)) → ∃ g, kX8_setDeterminant_29 n r5 fuel (hv_wJ σ 13 f) S but (nI c) (nI b) (nI k) = r5 (hv_wJ σ 13 g) S but (nI (c + 1)) (nI (b + 1)) ∧ (∀ a, a < fN' F P → g (12 * a + c) = iL (gC F P e col b a)) ∧ ∀ a j, j < 12 → j ≠ c → g (12 * a + j) = f (12 * a + j) := by
  have hP := hi.1.2
  have hB := hi.2.1.2
  have eN : fN' F P = (fL F (2 * P)).length := rfl
  have hl : fN' F P ≤ 2 * P := fL_le F (2 * P)
  intro d
  induction d with
  | zero =>
    intro k fuel f hk hf hg
    obtain ⟨fuel, rfl⟩ : ∃ q, fuel = q + 1 := ⟨fuel - 1, by omega⟩
    refine ⟨f, ?_, fun a ha => hg a (by omega), fun _ _ _ _ => rfl⟩
    show kX8_setDeterminant_29_b n r5 _ _ _ _ _ _ _ = _
    unfold kX8_setDeterminant_29_b kX8_setDeterminant_97
    rw [hv_wJ_1, hfr.1, if_pos (nI_le (by omega) (by omega)), nI_1, nI_1]
  | succ d ih =>
    intro k fuel f hk hf hg
    obtain ⟨fuel, rfl⟩ : ∃ q, fuel = q + 1 := ⟨fuel - 1, by omega⟩
    have hkN : k < (fL F (2 * P)).length := by omega
    have hs := (fL_lt hkN).1
    have hfk := hfr.2 k hkN
    have hbl := fBr_le hi hb ((fL F (2 * P)).getD k 0 / 2) ((fL F (2 * P)).getD k 0 % 2)
    have hck := hcol k (by omega)
    obtain ⟨g, g1, g2, g3⟩ := ih (k + 1) fuel (vp_updL f (12 * k + c) (iL (gC F P e col b k))) (by omega) (by omega) (fun a ha => by
      by_cases ea : a = k
      · rw [ea, pk_uLs]
      · rw [pk_uLn (by omega)]
        exact hg a (by omega))
    refine ⟨g, ?_, g2, fun a j hj hjc => ?_⟩
    · show kX8_setDeterminant_29_b n r5 _ _ _ _ _ _ _ = _
      unfold kX8_setDeterminant_29_b kX8_setDeterminant_87
      have hm2 : rM F (hv_wJ σ 13 f) := hm
      rw [hv_wJ_1, hfr.1, if_neg (nI_ge (by omega) (by omega)), nI_12, nI_1]
      by_cases ee : e b = true
      · have eg : gC F P e col b k = col k := by unfold gC; rw [if_pos ee]
        rw [if_pos ((he b hb).mpr ee), hv_if_t (hv_ok_nI (show k < 12 by omega) (by decide)), hv_if_t (hv_ok_nI (show 12 * k + c < 144 by omega) (by decide)), nI_clamp (show k < 2 ^ 31 by omega), nI_clamp (show 12 * k + c < 2 ^ 31 by omega), hck.1, iI_L ⟨by omega, by omega⟩, hv_let_e, hv_sJ_wJ, ← eg]
        exact g1
      · have eg : gC F P e col b k = fCol F P b k := by unfold gC; rw [if_neg ee]
        rw [if_neg (fun q => ee ((he b hb).mp q)), hv_if_t (hv_ok_nI (show k < 12 by omega) (by decide)), hv_if_t (hv_ok_nI (show k < 12 by omega) (by decide)), nI_clamp (show k < 2 ^ 31 by omega), hfk.1, hfk.2, r8_brings hi hm2 hb (by omega) (by omega), hv_b2_e, hv_if_t (hv_ok_nI (show 12 * k + c < 144 by omega) (by decide)), nI_clamp (show 12 * k + c < 2 ^ 31 by omega), iI_L ⟨by omega, by omega⟩, hv_let_e, hv_sJ_wJ]
        rw [eg] at g1
        exact g1
    · rw [g3 a j hj hjc, pk_uLn (by omega)]
theorem gC_bd {F : Nat → Nat → Int32} {P B O D W : Nat} (hi : hI F P B O D W) (hN : fN' F P ≤ 11) {e : Nat → Bool} {col : md_V} (hcw : md_W (fR F P) col 108) {l : List Nat} (hl : ∀ b, b ∈ l → b < B) (hll : l.length = fN' F P) (hu : ∀ b c, b ∈ l → c ∈ l → e b = true → e c = true → b = c) : ∀ A, md_of (fN' F P) (fun c => gC F P e col (l.getD c 0)) A → (md_dt (fR F P) A (fN' F P)).natAbs ≤ 2 ^ 30 := by
  intro A hA
  have hmem : ∀ b, b < fN' F P → l.getD b 0 ∈ l := fun b hb => by
    rw [List.getD_eq_getElem?_getD, List.getElem?_eq_getElem (by omega), Option.getD_some]
    exact List.getElem_mem _
  have h5 : ∀ k, k < fN' F P → md_W (fR F P) (A k) 5 ∨ A k = col := fun k hk => by
    rcases hA k hk with ⟨b, hb, h⟩ | ⟨j, -, h⟩
    · by_cases ee : e (l.getD b 0) = true
      · refine Or.inr ?_
        rw [h]
        show gC F P e col (l.getD b 0) = col
        unfold gC
        rw [if_pos ee]
      · refine Or.inl ?_
        rw [h]
        show md_W _ (gC F P e col (l.getD b 0)) 5
        unfold gC
        rw [if_neg ee]
        exact fCol_W hi (hl _ (hmem b hb))
    · refine Or.inl ?_
      rw [h]
      exact md_W_le (md_W_net (md_net_e _)) (by decide)
  by_cases hall : ∀ k, k < fN' F P → md_W (fR F P) (A k) 5
  · refine Nat.le_trans (md_dt_W (nd_range _) hall) (Nat.le_trans (Nat.pow_le_pow_right (by decide) hN) (by decide))
  · have h1 : ∃ k, k < fN' F P ∧ A k = col := Classical.byContradiction fun hn => hall fun k hk => (h5 k hk).resolve_right fun q => hn ⟨k, hk, q⟩
    obtain ⟨k, hk, hkc⟩ := h1
    by_cases h2 : ∃ j, j < fN' F P ∧ j ≠ k ∧ A j = col
    · obtain ⟨j, hj, hjk, hjc⟩ := h2
      rw [md_dt_eq (fR F P) A hjk hj hk (hjc.trans hkc.symm)]
      decide
    · have q := md_dt_W2 (R := fR F P) (nd_range _) (w := 5) (z := 108) (A := md_up A k (md_e 0)) (i := k) hk (fun j hj => by
        by_cases ej : j = k
        · rw [ej, md_up_at]
          exact md_W_le (md_W_net (md_net_e _)) (by decide)
        · rw [md_up_ne _ _ ej]
          exact (h5 j hj).resolve_right fun q => h2 ⟨j, hj, ej, q⟩) (x := A k) (by rw [hkc]; exact hcw)
      rw [md_up_up, md_up_self] at q
      refine Nat.le_trans q (Nat.le_trans (Nat.mul_le_mul_left 108 (Nat.pow_le_pow_right (show 0 < 5 by decide) (show fN' F P - 1 ≤ 10 by omega))) (by decide))
theorem r8_setDet {n : Nat} (hn : 12 < n) {F : Nat → Nat → Int32} {P B O D W : Nat} (hi : hI F P B O D W) {σ : hv_St} (hm : rM F σ) (hfr : rFr F P σ) {e : Nat → Bool} {but : Int32} (he : ∀ b, b < B → (nI b = but ↔ e b = true)) (hu : ∀ b c, b < B → c < B → e b = true → e c = true → b = c) {col : md_V} (hcol : ∀ k, k < fN' F P → σ.1 14 k = iI (col k) ∧ (col k).natAbs ≤ 2 ^ 20) (hcw : md_W (fR F P) col 108) {S : Nat} (hS : S < 2 ^ 31) (hSl : (fBl S B).length = fN' F P) : ∃ g, mX8_setDeterminant n σ (nI S) but = some (iL (dS F P B S e col), hv_wJ σ 13 g) := by
  have hP := hi.1.2
  have hB := hi.2.1.2
  have eN : fN' F P = (fL F (2 * P)).length := rfl
  have hl : fN' F P ≤ 2 * P := fL_le F (2 * P)
  have bM : σ.1 0 6 = nI B := hm.1.2.1.trans hi.2.1.1
  have hlB : (fBl S B).length ≤ B := by
    have h2 := List.length_filter_le (fun j => S.testBit j) (List.range B)
    rw [List.length_range] at h2
    exact h2
  have loop : ∀ (d b fuel : Nat) (f : Nat → Int64), b + d = B → d < fuel → (∀ a j, a < fN' F P → j < (fBl S b).length → f (12 * a + j) = iL (gC F P e col ((fBl S b).getD j 0) a)) → ∃ g, kX8_setDeterminant_5 n fuel (hv_wJ σ 13 f) (nI S) but (nI (fBl S b).length) (nI b) = some (iL (dS F P B S e col), hv_wJ σ 13 g) := by
    intro d
    induction d with
    | zero =>
      intro b fuel f hb hf hinv
      obtain ⟨fuel, rfl⟩ : ∃ q, fuel = q + 1 := ⟨fuel - 1, by omega⟩
      obtain rfl : b = B := by omega
      obtain ⟨g, hg⟩ := r8_determinant (n := n) (σ := σ) (N := fN' F P) (by omega) hn (m := fun c => gC F P e col ((fBl S b).getD c 0)) (gC_bd hi (by omega) hcw (fun x hx => (fBl_mem.mp hx).1) hSl (fun x y hx hy h1 h2 => hu x y (fBl_mem.mp hx).1 (fBl_mem.mp hy).1 h1 h2)) (f := f) (fun a c ha hc => hinv a c ha (by omega))
      refine ⟨g, ?_⟩
      show kX8_setDeterminant_5_b n _ _ _ _ _ _ = _
      unfold kX8_setDeterminant_5_b
      rw [hv_wJ_1, bM, if_pos (nI_le (Nat.le_refl _) (by omega)), hfr.1, hg, hv_b2_e]
      have e2 := md_dt_map (fR F P) (gC F P e col) (fBl S b)
      rw [hSl] at e2
      unfold dS
      rw [← e2]
    | succ d ih =>
      intro b fuel f hb hf hinv
      obtain ⟨fuel, rfl⟩ : ∃ q, fuel = q + 1 := ⟨fuel - 1, by omega⟩
      have fb := fB_iff (k := b) hS (by omega)
      have es := fBl_succ S b
      have hmono := fBl_mono S (show b + 1 ≤ B by omega)
      by_cases h : S.testBit b = true
      · rw [if_pos h] at es
        rw [es, List.length_append, List.length_singleton] at hmono
        obtain ⟨g, g1, g2, g3⟩ := r8_sd29 (n := n) (r5 := kX8_setDeterminant_5 n fuel) hi hm hfr he hcol (c := (fBl S b).length) (b := b) (by omega) (by omega) (nI S) (fN' F P) 0 n f (by omega) (by omega) (fun a ha => absurd ha (Nat.not_lt_zero _))
        obtain ⟨g', k1⟩ := ih (b + 1) fuel g (by omega) (by omega) (fun a j ha hj => by
          rw [es, List.length_append, List.length_singleton] at hj
          rw [es]
          by_cases ej : j = (fBl S b).length
          · rw [ej, getD_app_at]
            exact g2 a ha
          · rw [getD_app_lt (by omega), g3 a j (by omega) ej]
            exact hinv a j ha (by omega))
        refine ⟨g', ?_⟩
        show kX8_setDeterminant_5_b n _ _ _ _ _ _ = _
        unfold kX8_setDeterminant_5_b
        rw [hv_wJ_1, bM, if_neg (nI_ge (by omega) (by omega)), (r8_isOn _ _).1 (fb.mpr h), hv_b2_e, if_neg (by decide)]
        rw [es, List.length_append, List.length_singleton] at k1
        exact g1.trans k1
      · rw [if_neg h] at es
        obtain ⟨g', k1⟩ := ih (b + 1) fuel f (by omega) (by omega) (by rw [es]; exact hinv)
        refine ⟨g', ?_⟩
        show kX8_setDeterminant_5_b n _ _ _ _ _ _ = _
        unfold kX8_setDeterminant_5_b kX8_setDeterminant_97
        rw [hv_wJ_1, bM, if_neg (nI_ge (by omega) (by omega)), (r8_isOn _ _).2 (fun q => h (fb.mp q)), hv_b2_e, if_pos rfl, nI_1]
        rw [es] at k1
        exact k1
  obtain ⟨g, hg⟩ := loop B 0 n (σ.2 13) (by omega) (by omega) (fun a j ha hj => absurd hj (Nat.not_lt_zero _))
  rw [hv_wJ_self] at hg
  exact ⟨g, hg⟩
