/-! overs; bounds of the reference's sums -/
def qA (F : Nat → Nat → Int32) (P B S : Nat) (k w : Int) (A : Nat → md_V) (e : Int) (τ : hv_St) : Prop := tX F P B τ (fBase F P (fBl S B)) A e ∧ zF F P B S A ∧ (∀ j, j < fN' F P → τ.1 11 j = nI ((fL F (2 * P)).getD j 0)) ∧ (fSp F P B S).length ≤ 2 ∧ pc S = fN' F P + (fSp F P B S).length ∧ gF F B τ ∧ τ.1 13 5 = nI (fSp F P B S).length ∧ (∀ i b, i < (fSp F P B S).length → b < B → τ.2 (39 + i) b = iL (uU F P B S A e i b)) ∧ ((fSp F P B S).length = 2 → ∀ a b, a < B → b < B → τ.2 (41 + a) b = iL (pP F P B S A e a b)) ∧ τ.2 13 6 = iL w ∧ k = (if (fSp F P B S).length = 0 then e * md_dt (fR F P) A (fN' F P) else 1) ∧ uSum F P B S = k * w
/-- .. and the bare pulls by the loads z -/
def oX (F : Nat → Nat → Int32) (P B S : Nat) (k w : Int) (z : Nat → Int) (τ : hv_St) : Prop := ∃ A e, qA F P B S k w A e τ ∧ ∀ b, b < B → τ.2 14 b = iL (vV F P B S A e z b)
theorem qA_mono {F : Nat → Nat → Int32} {P B S : Nat} {k w : Int} {A : Nat → md_V} {e : Int} {σ τ : hv_St} (hB : B ≤ 11) (hP : P ≤ 6) (h : qA F P B S k w A e σ) (h1 : ∀ j, j ≠ 25 → τ.1 j = σ.1 j) (h2 : ∀ j, j ≠ 14 → j ≠ 26 → τ.2 j = σ.2 j) : qA F P B S k w A e τ := by
  obtain ⟨⟨a1, a2, a3, a4, a5, a6, a7, a8, a9⟩, b, c, d, e', ⟨g1, g2, g3⟩, u, v, p, w', kk, uu⟩ := h
  refine ⟨⟨a1, a2, a3, a4, fun j hj => ?_, ?_, ?_, ?_, fun r c hr hc => ?_⟩, b, fun j hj => ?_, d, e', ⟨?_, g2, fun b hb => ?_⟩, ?_, fun i b hi hb => ?_, fun q a b ha hb => ?_, ?_, kk, uu⟩
  · rw [h1 12 (by decide)]; exact a5 j hj
  · rw [h1 9 (by decide)]; exact a6
  · rw [h1 9 (by decide)]; exact a7
  · rw [h2 9 (by decide) (by decide)]; exact a8
  · rw [h2 (27 + r) (by omega) (by omega)]; exact a9 r c hr hc
  · rw [h1 11 (by decide)]; exact c j hj
  · rw [h1 1 (by decide)]; exact g1
  · rw [h1 7 (by decide)]; exact g3 b hb
  · rw [h1 13 (by decide)]; exact u
  · rw [h2 (39 + i) (by omega) (by omega)]; exact v i b hi hb
  · rw [h2 (41 + a) (by omega) (by omega)]; exact p q a b ha hb
  · rw [h2 13 (by decide) (by decide)]; exact w'
theorem oX_mono {F : Nat → Nat → Int32} {P B S : Nat} {k w : Int} {z : Nat → Int} {σ τ : hv_St} (hB : B ≤ 11) (hP : P ≤ 6) (h : oX F P B S k w z σ) (h1 : ∀ j, j ≠ 25 → τ.1 j = σ.1 j) (h2 : ∀ j, j ≠ 26 → τ.2 j = σ.2 j) : oX F P B S k w z τ := by
  obtain ⟨A, e, q, v⟩ := h
  exact ⟨A, e, qA_mono hB hP q h1 (fun j _ j2 => h2 j j2), fun b hb => by rw [h2 14 (by decide)]; exact v b hb⟩
theorem vV_bd {F : Nat → Nat → Int32} {P B O D W : Nat} (hi : hI F P B O D W) {S : Nat} {A : Nat → md_V} (h : zF F P B S A) (hA : fXs F P B A) (hN : fN' F P ≤ 11) {e : Int} (he : e = 1 ∨ e = -1) {z : Nat → Int} (hz : ∀ s, s < 12 → (z s).natAbs ≤ 9) (b : Nat) : (vV F P B S A e z b).natAbs ≤ 2 ^ 30 := by
  by_cases hb : b ∈ zL F P B S
  · have hp := (zI_P hb).1
    have hl := zL_len h
    rw [vV_at hb, natAbs_pm he]
    by_cases l : zI F P B S b < fN' F P
    · rw [t_all.2.1 _ _ l]
      have q := md_dt_W2 (R := fR F P) (nd_range _) (w := 5) (z := 108) (A := A) l (fun k hk => by
        obtain ⟨c, -, ec⟩ := hA k hk
        rw [ec]
        exact fXc_W hi c) (fCo_W hi.1.2 hz)
      refine Nat.le_trans q (Nat.le_trans (Nat.mul_le_mul_left 108 (Nat.pow_le_pow_right (show 0 < 5 by decide) (show fN' F P - 1 ≤ 10 by omega))) (by decide))
    · obtain ⟨j, hj⟩ : ∃ j, zI F P B S b = fN' F P + j := ⟨zI F P B S b - fN' F P, by omega⟩
      rw [hj, t_all.2.2.1 _ j (by omega)]
      decide
  · rw [vV_no hb]
    decide
theorem dN_bd {F : Nat → Nat → Int32} {P B O D W : Nat} (hi : hI F P B O D W) {S T : Nat} (hT : T < 2 ^ B) (h : bC F P S T = true) : (dN F P B T).natAbs ≤ 5 ^ fN' F P := dS_rL hi (by rw [← pc_fBl hi.2.1.2 hT]; exact (bC_iff.mp h).2)
theorem pP_bd {F : Nat → Nat → Int32} {P B O D W : Nat} (hi : hI F P B O D W) {S : Nat} (hS : S < 2 ^ B) {A : Nat → md_V} (h : zF F P B S A) (hm : (fSp F P B S).length = 2) (hN : pc S = fN' F P + 2) {e : Int} (he : e = 1 ∨ e = -1) (a b : Nat) : (pP F P B S A e a b).natAbs ≤ 2 ^ 28 := by
  have hB := hi.2.1.2
  have hl : fN' F P ≤ 2 * P := fL_le F (2 * P)
  have hP := hi.1.2
  have key : ∀ a b, a < b → a ∈ zL F P B S → b ∈ zL F P B S → (pP F P B S A e a b).natAbs ≤ 2 ^ 28 := fun a b hab ha hb => by
    obtain ⟨s, hs, q, -⟩ := r_min2 h hm (zI_P ha) (zI_P hb) (zI_ne ha hb (by omega))
    have bc : bC F P S (andn S (2 ^ a ||| 2 ^ b)) = true := (bC_2 hB hS hN).mpr ⟨a, b, hab, (zL_mem.mp hb).1, (zL_mem.mp ha).2, (zL_mem.mp hb).2, rfl⟩
    have d := dN_bd hi (andn_lt hS) bc
    rw [q, natAbs_pm hs] at d
    rw [pP_at ⟨ha, hb, by omega⟩, natAbs_pm he]
    exact Nat.le_trans d (pow5 (by omega))
  by_cases c : a ∈ zL F P B S ∧ b ∈ zL F P B S ∧ a ≠ b
  · rcases Nat.lt_or_gt_of_ne c.2.2 with l | l
    · exact key a b l c.1 c.2.1
    · rw [pP_anti h, Int.natAbs_neg]
      exact key b a l c.2.1 c.1
  · rw [pP_no c]
    decide
theorem x_bear {n : Nat} (hn : 20 < n) {F : Nat → Nat → Int32} {P B O D W : Nat} (hi : hI F P B O D W) {S : Nat} {k w : Int} {A : Nat → md_V} {e : Int} {τ : hv_St} (h : qA F P B S k w A e τ) {q : Nat} {z : Nat → Int} (hz : ∀ s, s < 12 → τ.1 q s = iI (z s) ∧ (z s).natAbs ≤ 9) : ∃ g, mX5_bear n τ q = some (hv_wJ τ 14 g) ∧ qA F P B S k w A e (hv_wJ τ 14 g) ∧ ∀ b, b < B → (hv_wJ τ 14 g).2 14 b = iL (vV F P B S A e z b) := by
  have hB := hi.2.1.2
  have hP := hi.1.2
  have hl : fN' F P ≤ 2 * P := fL_le F (2 * P)
  have eN : fN' F P = (fL F (2 * P)).length := rfl
  have hq := h
  obtain ⟨⟨h1, h2, h3, h4, h5, h6, h7, h8, h9⟩, hzf, hsl, -, -, hg, -⟩ := h
  have hbs : xBs τ (fBase F P (fBl S B)) := ⟨h7, by omega, fBase_nd F P S B, fun j hj => ⟨(h5 j hj).2.2, by have := (h5 j hj).2.1; omega⟩⟩
  obtain ⟨g, g1, g2⟩ := x5_bear (n := n) hn (σ := τ) (q := q) (N := fN' F P) (B := B) h6 (by omega) hg.1 hbs (sl := fun c => (fL F (2 * P)).getD c 0) (fun c hc => ⟨hsl c hc, by have := (fL_lt hc).1; omega⟩) hz (M := fun j c => e * md_T (fR F P) (fN' F P) A (md_e c) j) (fun j c hj hc => by
    have := h9 j (B + c) (by omega) (by omega)
    rw [this]
    unfold fXc
    rw [if_neg (by omega), Nat.add_sub_cancel_left]) (V := vV F P B S A e z) (fun j hj => by
    have hjN : j < fN' F P := by omega
    have zl := zI_lo hzf hjN
    have ls := lin_sum (n := fN' F P) (md_dt_lin (fR F P) A (i := j) (n := fN' F P) hjN) (md_dt_on (fR F P) A (i := j) (n := fN' F P) hjN) (fCo F P z)
    have ls' : md_T (fR F P) (fN' F P) A (fCo F P z) j = sumK (fun c => fCo F P z c * md_T (fR F P) (fN' F P) A (md_e c) j) (fN' F P) := ls
    rw [vV_at zl.1, zl.2, t_all.2.1 _ j hjN, ls']
    have gen : ∀ m, e * sumK (fun c => fCo F P z c * md_T (fR F P) (fN' F P) A (md_e c) j) m = -(sumK (fun c => e * md_T (fR F P) (fN' F P) A (md_e c) j * z ((fL F (2 * P)).getD c 0)) m) := fun m => by
      induction m with
      | zero => show e * 0 = -0; omega
      | succ m ih =>
        show e * (_ + fCo F P z m * _) = -(_ + e * _ * z ((fL F (2 * P)).getD m 0))
        rw [Int.mul_add, ih]
        have ec : fCo F P z m = -(z ((fL F (2 * P)).getD m 0)) := rfl
        rw [ec]
        grind
    exact gen _) (fun b hb hba => by
    by_cases hbz : b ∈ zL F P B S
    · have hbs : b ∈ fSp F P B S := fSp_mem.mpr ⟨zL_mem.mp hbz, hba⟩
      obtain ⟨i, hi', rfl⟩ := mem_getD hbs
      have zh := zI_hi hzf hi'
      rw [vV_at zh.1, zh.2, t_all.2.2.1 _ i hi', Int.mul_zero]
    · exact vV_no hbz)
  refine ⟨g, g1, qA_mono (σ := τ) hB hP hq (fun _ _ => rfl) (fun j j1 _ => hv_wJ_ne _ _ j1), fun b hb => ?_⟩
  rw [hv_wJ_at]
  exact g2 b (by omega)
theorem over_of {n : Nat} (hn : 20 < n) {F : Nat → Nat → Int32} {P B O D W : Nat} (hi : hI F P B O D W) {S : Nat} (hS : S < 2 ^ B) {k w : Int} {z : Nat → Int} (hz : ∀ s, s < 12 → (z s).natAbs ≤ 9) {τ : hv_St} (h : oX F P B S k w z τ) {c : Nat} (hc : c < B) (hcs : S.testBit c = true) : ∃ oc, oSum F P B S z c = k * oc ∧ mX5_overOf n τ (nI c) = some (iL oc, τ) := by
  have hB := hi.2.1.2
  obtain ⟨A, e, ⟨ht, hzf, hsl, hm2, hpc, hg, hm, hu, hp, hw, hk, -⟩, hv⟩ := h
  obtain ⟨h1, h2, h3, h4, h5, h6, h7, h8, h9⟩ := ht
  have hcL := (zL_mem (F := F) (P := P)).mpr ⟨hc, hcs⟩
  have l0 : e * md_dt (fR F P) A (fN' F P) ≠ 0 := pm_ne h1 h2
  have lr : rL (e * md_dt (fR F P) A (fN' F P)) := pm_rL h1 (fXs_bd28 hi h3)
  have hN11 : fN' F P ≤ 11 := by
    have q1 := pc_fBl hB hS
    have q2 := List.length_filter_le (fun j => S.testBit j) (List.range B)
    rw [List.length_range] at q2
    have q3 : (fBl S B).length ≤ B := q2
    omega
  have vb : ∀ b, (vV F P B S A e z b).natAbs ≤ 2 ^ 30 := fun b => vV_bd hi hzf h3 hN11 h1 hz b
  unfold mX5_overOf
  rcases (show (fSp F P B S).length = 0 ∨ (fSp F P B S).length = 1 ∨ (fSp F P B S).length = 2 by omega) with m | m | m
  · refine ⟨vV F P B S A e z c, ?_, ?_⟩
    · rw [(u_0 hB hS hzf m (by omega)).2 z c hcL, hk, if_pos m, vV_at hcL, pr_pm h1]
    · rw [hm, m, if_pos (show nI 0 = 0 from rfl), hv_if_t (hv_ok_nI (show c < 11 by omega) (by decide)), nI_clamp (by omega), hv c hc]
  · refine ⟨sumK (fun a => gv F a * uU F P B S A e 0 a * aA1 F P B S A e z c a) B, ?_, ?_⟩
    · rw [hk, if_neg (by omega), Int.one_mul]
      exact o_1 hB hS hzf m (by omega) h1 z hcL
    · have ub : ∀ b, (uU F P B S A e 0 b).natAbs ≤ 2 ^ 28 := fun b => uU_bd hi hzf h3 h1 (by omega) b
      rw [hm, m, if_neg (show ¬ nI 1 = 0 by decide), if_pos (show nI 1 = (1 : Int32) from rfl), x5_over1 (n := n) hn hg (U := uU F P B S A e 0) (V := vV F P B S A e z) (al := aA1 F P B S A e z c) hc (fun b hb => hu 0 b (by omega) hb) hv h8 l0 lr (fun a ha => ⟨id_1 hzf h1 z hcL a, rL_of ?_⟩), hv_b2_e]
      have b1 : (vV F P B S A e z c * uU F P B S A e 0 a).natAbs ≤ 2 ^ 58 := by
        rw [Int.natAbs_mul]
        exact Nat.le_trans (Nat.mul_le_mul (vb c) (ub a)) (by decide)
      have b2 : (vV F P B S A e z a * uU F P B S A e 0 c).natAbs ≤ 2 ^ 58 := by
        rw [Int.natAbs_mul]
        exact Nat.le_trans (Nat.mul_le_mul (vb a) (ub c)) (by decide)
      omega
  · refine ⟨o2 F B (pP F P B S A e) (aA2 F P B S A e z c), ?_, ?_⟩
    · rw [hk, if_neg (by omega), Int.one_mul]
      exact o_2 hB hS hzf m (by omega) h1 z hcL
    · have pb : ∀ a b, (pP F P B S A e a b).natAbs ≤ 2 ^ 28 := fun a b => pP_bd hi hS hzf m (by omega) h1 a b
      rw [hm, m, if_neg (show ¬ nI 2 = 0 by decide), if_neg (show ¬ nI 2 = (1 : Int32) by decide), x5_over2 (n := n) hn hg (V := vV F P B S A e z) (pr := pP F P B S A e) (al := aA2 F P B S A e z c) hc (hp m) hv h8 l0 lr (fun a b hab hb => ⟨id_3 hzf h1 z hcL (by omega), rL_of ?_⟩), hv_b2_e]
      have b1 : ∀ x y y', (vV F P B S A e z x * pP F P B S A e y y').natAbs ≤ 2 ^ 58 := fun x y y' => by
        rw [Int.natAbs_mul]
        exact Nat.le_trans (Nat.mul_le_mul (vb x) (pb y y')) (by decide)
      have c1 := b1 c a b
      have c2 := b1 a c b
      have c3 := b1 b c a
      omega
