/-! the reference's bare and unit pulls -/
theorem sub_filter {l L : List Nat} (h : l.Sublist L) (hn : L.Nodup) : L.filter (fun j => decide (j ∈ l)) = l := by
  induction h with
  | slnil => rfl
  | @cons l L a h ih =>
    have hn' := List.nodup_cons.mp hn
    have na : a ∉ l := fun q => hn'.1 (h.subset q)
    rw [List.filter_cons, if_neg (by simp [na])]
    exact ih hn'.2
  | @cons_cons l L a h ih =>
    have hn' := List.nodup_cons.mp hn
    rw [List.filter_cons, if_pos (by simp)]
    congr 1
    have e : L.filter (fun j => decide (j ∈ a :: l)) = L.filter (fun j => decide (j ∈ l)) := List.filter_congr (fun x hx => by
      have : x ≠ a := fun q => hn'.1 (q ▸ hx)
      simp [this])
    rw [e]
    exact ih hn'.2
theorem fBase_Eb {F : Nat → Nat → Int32} {P B S Eb : Nat} (h : ∀ b, Eb.testBit b = true ↔ b ∈ fBase F P (fBl S B)) : fBl Eb B = fBase F P (fBl S B) := by
  have s : List.Sublist (fBase F P (fBl S B)) (List.range B) := (fBase_sub F P _).trans List.filter_sublist
  have q := sub_filter s List.nodup_range
  unfold fBl
  refine Eq.trans (List.filter_congr (fun b hb => ?_)) q
  by_cases c : Eb.testBit b = true
  · rw [c, decide_eq_true ((h b).mp c)]
  · have c' : Eb.testBit b = false := by
      cases e : Eb.testBit b
      · rfl
      · exact absurd e c
    rw [c', decide_eq_false (fun z => c ((h b).mpr z))]
theorem dN_base {F : Nat → Nat → Int32} {P B S Eb : Nat} {A : Nat → md_V} (h : zF F P B S A) (hE : fBl Eb B = fBase F P (fBl S B)) : dN F P B Eb = md_dt (fR F P) A (fN' F P) := by
  unfold dN dS
  rw [hE, ← md_dt_map, h.1]
  refine md_dt_congr (fun j hj => ?_)
  rw [h.2 j hj]
  rfl
theorem dS_base {F : Nat → Nat → Int32} {P B S Eb : Nat} {A : Nat → md_V} (h : zF F P B S A) (hE : fBl Eb B = fBase F P (fBl S B)) (col : md_V) {j : Nat} (hj : j < fN' F P) : dS F P B Eb (eB ((fBase F P (fBl S B)).getD j 0)) col = md_T (fR F P) (fN' F P) A col j := by
  unfold dS md_T
  rw [hE, ← md_dt_map, h.1]
  refine md_dt_congr (fun c hc => ?_)
  unfold gC eB
  by_cases e : c = j
  · rw [e, if_pos (decide_eq_true rfl), md_up_at]
  · rw [md_up_ne _ _ e, if_neg (by
      rw [decide_eq_true_iff]
      exact fun q => e (getD_inj (fBase_nd F P S B) (by rw [h.1]; exact hc) (by rw [h.1]; exact hj) q)), h.2 c hc]
def yS (F : Nat → Nat → Int32) (P B Eb : Nat) (col : md_V) (b : Nat) : Int := if Eb.testBit b = true then dS F P B Eb (eB b) col else 0
theorem yS_in {F : Nat → Nat → Int32} {P B S Eb : Nat} {A : Nat → md_V} (h : zF F P B S A) (hm : ∀ b, Eb.testBit b = true ↔ b ∈ fBase F P (fBl S B)) (col : md_V) {j : Nat} (hj : j < fN' F P) : yS F P B Eb col ((fBase F P (fBl S B)).getD j 0) = md_T (fR F P) (fN' F P) A col j := by
  unfold yS
  rw [if_pos ((hm _).mpr (getD_mem (by rw [h.1]; exact hj))), dS_base h (fBase_Eb hm) col hj]
theorem yS_V {F : Nat → Nat → Int32} {P B S Eb : Nat} {A : Nat → md_V} (h : zF F P B S A) (hm : ∀ b, Eb.testBit b = true ↔ b ∈ fBase F P (fBl S B)) (z : Nat → Int) (b : Nat) : yS F P B Eb (fCo F P z) b = vV F P B S A 1 z b := by
  by_cases hb : b ∈ fBase F P (fBl S B)
  · obtain ⟨j, hj, rfl⟩ := mem_getD hb
    have hj' : j < fN' F P := by rw [← h.1]; exact hj
    have zl := zI_lo h hj'
    rw [yS_in h hm _ hj', vV_at zl.1, zl.2, t_all.2.1 _ j hj', Int.one_mul]
  · have e0 : yS F P B Eb (fCo F P z) b = 0 := if_neg (fun q => hb ((hm b).mp q))
    rw [e0]
    by_cases hz : b ∈ zL F P B S
    · obtain ⟨i, hi, rfl⟩ := mem_getD (fSp_mem.mpr ⟨zL_mem.mp hz, hb⟩)
      have zh := zI_hi h hi
      rw [vV_at zh.1, zh.2, t_all.2.2.1 _ i hi, Int.mul_zero]
    · rw [vV_no hz]
theorem T_neg {R : List Nat} {n : Nat} (A : Nat → md_V) (X : md_V) {j : Nat} (hj : j < n) : md_T R n A (fun r => -(X r)) j = -(md_T R n A X j) := by
  have q := md_dt_lin R A (i := j) (n := n) hj (-1) 0 X X
  have e : (fun r => (-1) * X r + 0 * X r) = fun r => -(X r) := funext fun r => by omega
  rw [e] at q
  unfold md_T
  dsimp only at q
  rw [q]
  omega
/-- a spare one's column, turned -/
def fCn (F : Nat → Nat → Int32) (P a : Nat) : md_V := fun r => -(fCol F P a r)
theorem yS_U {F : Nat → Nat → Int32} {P B S Eb : Nat} {A : Nat → md_V} (h : zF F P B S A) (hm : ∀ b, Eb.testBit b = true ↔ b ∈ fBase F P (fBl S B)) {i : Nat} (hi : i < (fSp F P B S).length) (b : Nat) : (if b = (fSp F P B S).getD i 0 then dN F P B Eb else yS F P B Eb (fCn F P ((fSp F P B S).getD i 0)) b) = uU F P B S A 1 i b := by
  have hs := (fSp_mem.mp (getD_mem hi)).2
  by_cases hb : b ∈ fBase F P (fBl S B)
  · rw [if_neg (fun q => hs (by rw [← q]; exact hb))]
    obtain ⟨j, hj, rfl⟩ := mem_getD hb
    have hj' : j < fN' F P := by rw [← h.1]; exact hj
    have zl := zI_lo h hj'
    rw [yS_in h hm _ hj', uU_at i zl.1, zl.2, t_all.2.2.2.1 i j hi hj', Int.one_mul]
    exact T_neg A _ hj'
  · have e0 : yS F P B Eb (fCn F P ((fSp F P B S).getD i 0)) b = 0 := if_neg (fun q => hb ((hm b).mp q))
    rw [e0, dN_base h (fBase_Eb hm)]
    by_cases hz : b ∈ zL F P B S
    · obtain ⟨k, hk, rfl⟩ := mem_getD (fSp_mem.mpr ⟨zL_mem.mp hz, hb⟩)
      have zh := zI_hi h hk
      rw [uU_at i zh.1, zh.2, t_all.2.2.2.2 i k hi hk, Int.one_mul]
      by_cases e : i = k
      · rw [e, if_pos rfl, if_pos rfl]
      · rw [if_neg e, if_neg (fun q => e (getD_inj (fSp_nd F P B S) hi hk q.symm))]
    · rw [uU_no i hz, if_neg (fun q => hz (by rw [q]; exact (zI_hi h hi).1))]
theorem vV_e {F : Nat → Nat → Int32} {P B S : Nat} {A : Nat → md_V} {e : Int} {z : Nat → Int} (b : Nat) : vV F P B S A e z b = e * vV F P B S A 1 z b := by
  by_cases h : b ∈ zL F P B S
  · rw [vV_at h, vV_at h, Int.one_mul]
  · rw [vV_no h, vV_no h, Int.mul_zero]
theorem uU_e {F : Nat → Nat → Int32} {P B S : Nat} {A : Nat → md_V} {e : Int} (k b : Nat) : uU F P B S A e k b = e * uU F P B S A 1 k b := by
  by_cases h : b ∈ zL F P B S
  · rw [uU_at k h, uU_at k h, Int.one_mul]
  · rw [uU_no k h, uU_no k h, Int.mul_zero]
theorem r8_lays15 {n : Nat} (hn : 12 < n) {F : Nat → Nat → Int32} {P B O D W : Nat} (hi : hI F P B O D W) {q : Nat} (hq : q = 17 ∨ q = 18 ∨ q = 19) {col : md_V} (hcw : md_W (fR F P) col 108) {Eb : Nat} (hE : Eb < 2 ^ B) (hEl : (fBl Eb B).length = fN' F P) {σ₀ : hv_St} (h0 : rB F P col σ₀) (h20 : σ₀.1 0 20 = nI Eb) : ∀ (d b fuel : Nat) (σ : hv_St), b + d = 11 → d < fuel → σ.1 = σ₀.1 → (∀ j, j ≠ 13 → j ≠ q → σ.2 j = σ₀.2 j) → (∀ c, c < b → σ.2 q c = iL (yS F P B Eb col c)) → ∃ τ, kX8_laysState_15 q n fuel σ (nI b) = some τ ∧ τ.1 = σ₀.1 ∧ (∀ j, j ≠ 13 → j ≠ q → τ.2 j = σ₀.2 j) ∧ ∀ c, c < 11 → τ.2 q c = iL (yS F P B Eb col c) := by
  have hB := hi.2.1.2
  have e31 : Eb < 2 ^ 31 := by have := p2048 hB hE; omega
  intro d
  induction d with
  | zero =>
    intro b fuel σ h1 h2 h3 h4 h5
    obtain ⟨fuel, rfl⟩ : ∃ q, fuel = q + 1 := ⟨fuel - 1, by omega⟩
    refine ⟨σ, ?_, h3, h4, fun c hc => h5 c (by omega)⟩
    show kX8_laysState_15_b q n _ _ _ = _
    unfold kX8_laysState_15_b
    rw [if_pos (show (11 : Int32) ≤ nI b from nI_le (a := 11) (by omega) (by omega))]
  | succ d ih =>
    intro b fuel σ h1 h2 h3 h4 h5
    obtain ⟨fuel, rfl⟩ : ∃ q, fuel = q + 1 := ⟨fuel - 1, by omega⟩
    have fb := fB_iff (s := Eb) (k := b) e31 (by omega)
    have step : ∀ (v : Int) (g : Nat → Int64), v = yS F P B Eb col b → ∃ τ, kX8_laysState_15 q n fuel (hv_sJ (hv_wJ σ 13 g) q b (iL v)) (nI (b + 1)) = some τ ∧ τ.1 = σ₀.1 ∧ (∀ j, j ≠ 13 → j ≠ q → τ.2 j = σ₀.2 j) ∧ ∀ c, c < 11 → τ.2 q c = iL (yS F P B Eb col c) := fun v g hv => ih (b + 1) fuel _ (by omega) (by omega) h3 (fun j j1 j2 => by rw [hv_sJ_ne _ _ _ j2, hv_wJ_ne _ _ j1]; exact h4 j j1 j2) (fun c hc => by
      rw [hv_sJ_rd]
      by_cases e : c = b
      · rw [if_pos e, hv, e]
      · rw [if_neg e, hv_wJ_ne _ _ (by omega)]
        exact h5 c (by omega))
    by_cases hb : Eb.testBit b = true
    · have hbB : b < B := Classical.byContradiction fun q => by
        have := Nat.testBit_lt_two_pow (i := b) (Nat.lt_of_lt_of_le hE (Nat.pow_le_pow_right (by decide) (by omega : B ≤ b)))
        rw [hb] at this
        cases this
      obtain ⟨g, hg⟩ := r8_setDetB hn hi (rB_1 h0 h3) hcw hbB e31 hEl
      obtain ⟨τ, t1, t2⟩ := step (dS F P B Eb (eB b) col) g (by unfold yS; rw [if_pos hb])
      refine ⟨τ, ?_, t2⟩
      rw [← t1]
      show kX8_laysState_15_b q n _ _ _ = _
      unfold kX8_laysState_15_b kX8_laysState_47
      rw [if_neg (show ¬ (11 : Int32) ≤ nI b from nI_ge (b := 11) (by omega) (by decide)), h3, h20, (r8_isOn _ _).1 (fb.mpr hb), hv_b2_e, if_neg (by decide), h3, h20, hg, hv_b2_e, hv_if_t (hv_ok_nI (show b < 11 by omega) (by decide)), hv_let_e, nI_clamp (by omega), nI_1]
    · obtain ⟨τ, t1, t2⟩ := step 0 (σ.2 13) (by unfold yS; rw [if_neg hb])
      refine ⟨τ, ?_, t2⟩
      rw [← t1, hv_wJ_self]
      show kX8_laysState_15_b q n _ _ _ = _
      unfold kX8_laysState_15_b kX8_laysState_47
      rw [if_neg (show ¬ (11 : Int32) ≤ nI b from nI_ge (b := 11) (by omega) (by decide)), h3, h20, (r8_isOn _ _).2 (fun z => hb (fb.mp z)), hv_b2_e, if_pos rfl, hv_if_t (hv_ok_nI (show b < 11 by omega) (by decide)), hv_let_e, nI_clamp (by omega), nI_1]
      rfl
theorem r8_laysState {n : Nat} (hn : 12 < n) {F : Nat → Nat → Int32} {P B O D W : Nat} (hi : hI F P B O D W) {q : Nat} (hq : q = 17 ∨ q = 18 ∨ q = 19) {col : md_V} (hcw : md_W (fR F P) col 108) {Eb : Nat} (hE : Eb < 2 ^ B) (hEl : (fBl Eb B).length = fN' F P) {σ : hv_St} (h0 : rB F P col σ) (h20 : σ.1 0 20 = nI Eb) : ∃ τ, mX8_laysState n σ q = some τ ∧ τ.1 = σ.1 ∧ τ.2 0 29 = iL (dN F P B Eb) ∧ (∀ c, c < 11 → τ.2 q c = iL (yS F P B Eb col c)) ∧ ∀ j, j ≠ 0 → j ≠ 13 → j ≠ q → τ.2 j = σ.2 j := by
  have hB := hi.2.1.2
  have e31 : Eb < 2 ^ 31 := by have := p2048 hB hE; omega
  obtain ⟨g, hg⟩ := r8_setDetN hn hi h0 hcw e31 hEl
  obtain ⟨τ, t1, t2, t3, t4⟩ := r8_lays15 (n := n) hn hi hq hcw hE hEl (σ₀ := hv_sJ (hv_wJ σ 13 g) 0 29 (iL (dN F P B Eb))) (rB_1 h0 rfl) h20 11 0 n _ rfl (by omega) rfl (fun _ _ _ => rfl) (fun c hc => absurd hc (Nat.not_lt_zero _))
  refine ⟨τ, ?_, t2, ?_, t4, fun j j0 j1 j2 => ?_⟩
  · unfold mX8_laysState
    rw [h20, hg, hv_b2_e, hv_let_e]
    exact t1
  · rw [t3 0 (by decide) (by omega), hv_sJ_rd, if_pos rfl]
  · rw [t3 j j1 j2, hv_sJ_ne _ _ _ j0, hv_wJ_ne _ _ j1]
