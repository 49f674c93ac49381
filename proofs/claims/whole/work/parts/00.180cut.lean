/-! cut told -/
theorem cL_cross {F : Nat → Nat → Int32} {O S k i : Nat} (h : i < (cL F O S k).length) : S.testBit (fA F ((cL F O S k).getD i 0)) ≠ S.testBit (fC F ((cL F O S k).getD i 0)) := by
  have := getD_mem h
  unfold cL at this
  have q := (List.mem_filter.mp this).2
  rw [Bool.and_eq_true] at q
  intro e
  unfold cL at e
  rw [e] at q
  simp at q
noncomputable def rC (F : Nat → Nat → Int32) (P B O S : Nat) (c r : Nat) : Int := if c < 3 then cC F S ((cL F O S B).getD c 0) r else -(lC F S P r)
theorem r8_laysSums {n : Nat} (hn : 30 < n) {F : Nat → Nat → Int32} {P B O D W : Nat} (hi : hI F P B O D W) {S : Nat} (hS : S < 2 ^ P) {σ : hv_St} (hm : rM F σ) (hg : gCut F P B O S) (h20 : ∀ i, i < 3 → σ.1 20 i = nI ((cL F O S B).getD i 0)) : ∃ τ, mX8_laysSums n σ (nI S) = some τ ∧ τ.1 = σ.1 ∧ ∀ c r, c < 4 → r < 3 → τ.2 21 (3 * c + r) = iL (rC F P B O S c r) := by
  have hbi : ∀ i, i < 3 → (cL F O S B).getD i 0 < B := fun i h => cL_mem (by rw [hg.1]; exact h)
  have hcr : ∀ i, i < 3 → S.testBit (fA F ((cL F O S B).getD i 0)) ≠ S.testBit (fC F ((cL F O S B).getD i 0)) := fun i h => cL_cross (by rw [hg.1]; exact h)
  obtain ⟨f, rfl⟩ : ∃ f, n = f + 4 := ⟨n - 4, by omega⟩
  -- after three steps
  have steps : ∃ u, kX8_laysSums_2 (f + 4) (f + 4) σ (nI S) (nI 0) = kX8_laysSums_2 (f + 4) (f + 1) u (nI S) (nI 3) ∧ u.1 = σ.1 ∧ ∀ c r, c < 3 → r < 3 → u.2 21 (3 * c + r) = iL (cC F S ((cL F O S B).getD c 0) r) := by
    refine ⟨_, (r8_sumStep (n := f + 4) hi hS hm (i := 0) (by omega) (hbi 0 (by omega)) (h20 0 (by omega)) (hcr 0 (by omega)) (f + 3)).trans ((r8_sumStep (n := f + 4) hi hS (σ := hv_sJ (hv_sJ (hv_sJ σ 21 (3 * 0) (iL (cC F S ((cL F O S B).getD 0 0) 0))) 21 (3 * 0 + 1) (iL (cC F S ((cL F O S B).getD 0 0) 1))) 21 (3 * 0 + 2) (iL (cC F S ((cL F O S B).getD 0 0) 2))) hm (i := 1) (by omega) (hbi 1 (by omega)) (h20 1 (by omega)) (hcr 1 (by omega)) (f + 2)).trans (r8_sumStep (n := f + 4) hi hS (σ := hv_sJ (hv_sJ (hv_sJ (hv_sJ (hv_sJ (hv_sJ σ 21 (3 * 0) (iL (cC F S ((cL F O S B).getD 0 0) 0))) 21 (3 * 0 + 1) (iL (cC F S ((cL F O S B).getD 0 0) 1))) 21 (3 * 0 + 2) (iL (cC F S ((cL F O S B).getD 0 0) 2))) 21 (3 * 1) (iL (cC F S ((cL F O S B).getD 1 0) 0))) 21 (3 * 1 + 1) (iL (cC F S ((cL F O S B).getD 1 0) 1))) 21 (3 * 1 + 2) (iL (cC F S ((cL F O S B).getD 1 0) 2))) hm (i := 2) (by omega) (hbi 2 (by omega)) (h20 2 (by omega)) (hcr 2 (by omega)) (f + 1))), rfl, fun c r hc hr => ?_⟩
    rcases (show c = 0 ∨ c = 1 ∨ c = 2 by omega) with rfl | rfl | rfl <;> rcases (show r = 0 ∨ r = 1 ∨ r = 2 by omega) with rfl | rfl | rfl <;> simp only [hv_sJ_rd] <;> rfl
  obtain ⟨u, u1, u2, u3⟩ := steps
  have hmu : rM F u := by unfold rM; rw [u2]; exact hm
  have z117 : ∀ (k g : Nat) (s : hv_St), 9 ≤ k → k < 12 → kX8_laysSums_117 (f + 4) (g + 1) s (nI S) (nI k) = kX8_laysSums_117 (f + 4) g (hv_sJ s 21 k 0) (nI S) (nI (k + 1)) := fun k g s hk hk2 => by
    show kX8_laysSums_117_b (f + 4) _ _ _ _ = _
    unfold kX8_laysSums_117_b
    rw [if_neg (show ¬ (12 : Int32) ≤ nI k from nI_ge (b := 12) hk2 (by decide)), hv_if_t (hv_ok_nI hk2 (by decide)), hv_let_e, nI_clamp (show k < 2 ^ 31 by omega), nI_1]
  have e117 : kX8_laysSums_117 (f + 4) (f + 4) u (nI S) (nI 9) = kX8_laysSums_138 (f + 4) (f + 4) (hv_sJ (hv_sJ (hv_sJ u 21 9 0) 21 10 0) 21 11 0) (nI S) (0 : Int32) := by
    rw [z117 9 (f + 3) _ (by omega) (by omega), z117 10 (f + 2) _ (by omega) (by omega), z117 11 (f + 1) _ (by omega) (by omega)]
    show kX8_laysSums_117_b (f + 4) _ _ _ _ = _
    unfold kX8_laysSums_117_b
    rw [if_pos (show (12 : Int32) ≤ nI (11 + 1) by decide)]
  obtain ⟨τ, t1, t2, t3, t4, t5, t6⟩ := r8_load138 (n := f + 4) hi hS P 0 (f + 4) (hv_sJ (hv_sJ (hv_sJ u 21 9 0) 21 10 0) 21 11 0) (by omega) (by have := hi.1.2; omega) hmu (by rw [hv_sJ_rd, if_neg (by decide), hv_sJ_rd, if_neg (by decide), hv_sJ_rd, if_pos rfl]; rfl) (by rw [hv_sJ_rd, if_neg (by decide), hv_sJ_rd, if_pos rfl]; rfl) (by rw [hv_sJ_rd, if_pos rfl]; rfl)
  refine ⟨τ, ?_, t2.trans u2, fun c r hc hr => ?_⟩
  · unfold mX8_laysSums
    refine u1.trans ?_
    show kX8_laysSums_2_b (f + 4) _ _ _ _ = _
    unfold kX8_laysSums_2_b
    rw [if_pos (show (3 : Int32) ≤ nI 3 by decide)]
    exact e117.trans t1
  · unfold rC
    by_cases c3 : c < 3
    · rw [if_pos c3, t3 (3 * c + r) (by omega), hv_sJ_rd, if_neg (by omega), hv_sJ_rd, if_neg (by omega), hv_sJ_rd, if_neg (by omega)]
      exact u3 c r c3 hr
    · obtain rfl : c = 3 := by omega
      rw [if_neg c3]
      rcases (show r = 0 ∨ r = 1 ∨ r = 2 by omega) with rfl | rfl | rfl
      · exact t4
      · exact t5
      · exact t6
theorem r8_cutBy21 {n : Nat} {σ : hv_St} {r2 : hv_St → Int32 → Int32 → Option (Int64 × hv_St)} {x1 : Int32} {c s : Nat} (hc : c < 3) (hs : s < 4) (g : Nat → Int64) (f : Nat) : ∃ g', kX8_cutBy_21 n r2 (f + 4) (hv_wJ σ 13 g) x1 (nI c) (nI s) (nI 0) = r2 (hv_wJ σ 13 g') x1 (nI (c + 1)) ∧ (∀ r, r < 3 → g' (12 * r + c) = σ.2 21 (3 * s + r)) ∧ ∀ r c', c' < 12 → c' ≠ c → g' (12 * r + c') = g (12 * r + c') := by
  have st : ∀ (k f : Nat) (g : Nat → Int64), k < 3 → kX8_cutBy_21 n r2 (f + 1) (hv_wJ σ 13 g) x1 (nI c) (nI s) (nI k) = kX8_cutBy_21 n r2 f (hv_wJ σ 13 (vp_updL g (12 * k + c) (σ.2 21 (3 * s + k)))) x1 (nI c) (nI s) (nI (k + 1)) := fun k f g hk => by
    show kX8_cutBy_21_b n _ _ _ _ _ _ _ = _
    unfold kX8_cutBy_21_b
    rw [if_neg (show ¬ (3 : Int32) ≤ nI k from nI_ge (b := 3) hk (by decide)), nI_3, nI_add, nI_12, hv_if_t (hv_ok_nI (show 3 * s + k < 12 by omega) (by decide)), hv_if_t (hv_ok_nI (show 12 * k + c < 144 by omega) (by decide)), hv_let_e, nI_clamp (show 3 * s + k < 2 ^ 31 by omega), nI_clamp (show 12 * k + c < 2 ^ 31 by omega), hv_wJ_ne _ _ (show 21 ≠ 13 by decide), hv_sJ_wJ, nI_1]
  refine ⟨vp_updL (vp_updL (vp_updL g (12 * 0 + c) (σ.2 21 (3 * s + 0))) (12 * 1 + c) (σ.2 21 (3 * s + 1))) (12 * 2 + c) (σ.2 21 (3 * s + 2)), ?_, fun r hr => ?_, fun r c' hc' hne => ?_⟩
  · rw [st 0 (f + 3) _ (by omega), st 1 (f + 2) _ (by omega), st 2 (f + 1) _ (by omega)]
    show kX8_cutBy_21_b n _ _ _ _ _ _ _ = _
    unfold kX8_cutBy_21_b
    rw [if_pos (show (3 : Int32) ≤ nI (2 + 1) by decide), nI_1]
  · rcases (show r = 0 ∨ r = 1 ∨ r = 2 by omega) with rfl | rfl | rfl
    · rw [pk_uLn (by omega), pk_uLn (by omega), pk_uLs]
    · rw [pk_uLn (by omega), pk_uLs]
    · rw [pk_uLs]
  · rw [pk_uLn (by omega), pk_uLn (by omega), pk_uLn (by omega)]
noncomputable def rMx (F : Nat → Nat → Int32) (P B O S : Nat) (x : Int32) (c : Nat) : md_V := if nI c = x then rC F P B O S 3 else rC F P B O S c
theorem rC_bd {F : Nat → Nat → Int32} {P B O D W : Nat} (hi : hI F P B O D W) {S : Nat} (hg : gCut F P B O S) {c : Nat} (hc : c < 4) (r : Nat) : (rC F P B O S c r).natAbs ≤ 270 := by
  have hP := hi.1.2
  unfold rC
  by_cases c3 : c < 3
  · rw [if_pos c3]
    have := cC_bd hi S (cL_mem (F := F) (O := O) (S := S) (k := B) (i := c) (by rw [hg.1]; exact c3)) r
    omega
  · rw [if_neg c3]
    have := lC_bd hi S r P (Nat.le_refl _)
    omega
theorem rMx_bd {F : Nat → Nat → Int32} {P B O D W : Nat} (hi : hI F P B O D W) {S : Nat} (hg : gCut F P B O S) (x : Int32) {c : Nat} (hc : c < 3) (r : Nat) : (rMx F P B O S x c r).natAbs ≤ 270 := by
  unfold rMx
  by_cases e : nI c = x
  · rw [if_pos e]; exact rC_bd hi hg (by decide) r
  · rw [if_neg e]; exact rC_bd hi hg (by omega) r
theorem r8_cutBy {n : Nat} (hn : 30 < n) {F : Nat → Nat → Int32} {P B O D W : Nat} (hi : hI F P B O D W) {S : Nat} (hg : gCut F P B O S) {σ : hv_St} (h21 : ∀ c r, c < 4 → r < 3 → σ.2 21 (3 * c + r) = iL (rC F P B O S c r)) (x : Int32) : ∃ g, mX8_cutBy n σ x = some (iL (d3f (rMx F P B O S x 0) (rMx F P B O S x 1) (rMx F P B O S x 2)), hv_wJ σ 13 g) := by
  obtain ⟨f, rfl⟩ : ∃ f, n = f + 4 := ⟨n - 4, by omega⟩
  have step : ∀ (c fuel : Nat) (g : Nat → Int64), c < 3 → (∀ r c', r < 3 → c' < c → g (12 * r + c') = iL (rMx F P B O S x c' r)) → ∃ g', kX8_cutBy_2 (f + 4) (fuel + 1) (hv_wJ σ 13 g) x (nI c) = kX8_cutBy_2 (f + 4) fuel (hv_wJ σ 13 g') x (nI (c + 1)) ∧ ∀ r c', r < 3 → c' < c + 1 → g' (12 * r + c') = iL (rMx F P B O S x c' r) := fun c fuel g hc hg' => by
    by_cases e : nI c = x
    · obtain ⟨g', g1, g2, g3⟩ := r8_cutBy21 (n := f + 4) (σ := σ) (r2 := kX8_cutBy_2 (f + 4) fuel) (x1 := x) hc (s := 3) (by decide) g f
      refine ⟨g', ?_, fun r c' hr hc' => ?_⟩
      · refine Eq.trans ?_ g1
        show kX8_cutBy_2_b (f + 4) _ _ _ _ = _
        unfold kX8_cutBy_2_b kX8_cutBy_17
        rw [if_neg (show ¬ (3 : Int32) ≤ nI c from nI_ge (b := 3) hc (by decide)), if_pos e]
        rfl
      · by_cases ec : c' = c
        · rw [ec, g2 r hr, h21 3 r (by decide) hr]
          unfold rMx
          rw [if_pos e]
        · rw [g3 r c' (by omega) ec]
          exact hg' r c' hr (by omega)
    · obtain ⟨g', g1, g2, g3⟩ := r8_cutBy21 (n := f + 4) (σ := σ) (r2 := kX8_cutBy_2 (f + 4) fuel) (x1 := x) hc (s := c) (by omega) g f
      refine ⟨g', ?_, fun r c' hr hc' => ?_⟩
      · refine Eq.trans ?_ g1
        show kX8_cutBy_2_b (f + 4) _ _ _ _ = _
        unfold kX8_cutBy_2_b kX8_cutBy_17
        rw [if_neg (show ¬ (3 : Int32) ≤ nI c from nI_ge (b := 3) hc (by decide)), if_neg e]
        rfl
      · by_cases ec : c' = c
        · rw [ec, g2 r hr, h21 c r (by omega) hr]
          unfold rMx
          rw [if_neg e]
        · rw [g3 r c' (by omega) ec]
          exact hg' r c' hr (by omega)
  obtain ⟨g0, a1, a2⟩ := step 0 (f + 3) (σ.2 13) (by omega) (fun r c' _ h => absurd h (Nat.not_lt_zero _))
  obtain ⟨g1, b1, b2⟩ := step 1 (f + 2) g0 (by omega) a2
  obtain ⟨g2, c1, c2⟩ := step 2 (f + 1) g1 (by omega) b2
  obtain ⟨g, hd⟩ := r8_determinant (n := f + 4) (σ := σ) (N := 3) (by decide) (by omega) (m := rMx F P B O S x) (fun A hA => by
    have q := md_dt_W (R := List.range 3) (nd_range _) (w := 810) (n := 3) (A := A) (fun k hk => by
      rcases hA k hk with ⟨b, hb, e⟩ | ⟨j, hj, e⟩
      · rw [e]
        exact col_W (fun r _ => rMx_bd hi hg x hb r) (Nat.le_refl _)
      · rw [e]
        exact md_W_le (md_W_net (md_net_e _)) (by decide))
    exact Nat.le_trans q (by decide)) (f := g2) (fun a b ha hb => c2 a b ha (by omega))
  refine ⟨g, ?_⟩
  unfold mX8_cutBy
  have q := a1.trans (b1.trans c1)
  rw [hv_wJ_self] at q
  refine q.trans ?_
  show kX8_cutBy_2_b (f + 4) _ _ _ _ = _
  unfold kX8_cutBy_2_b
  rw [if_pos (show (3 : Int32) ≤ nI (2 + 1) by decide), show mX8_determinant (f + 4) (hv_wJ σ 13 g2) (3 : Int32) = _ from hd, hv_b2_e, d3f_dt]
