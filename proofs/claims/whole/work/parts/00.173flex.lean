/-! flex told -/
theorem op_flex {n : Nat} (hn : 2100 ≤ n) {F : Nat → Nat → Int32} {P B O D W : Nat} {σX σM : hv_St} (h : hR F P B O D W σX σM) (v w u : Int32) : hT F P B O D W (mX7_flex n σX v w u) (mX8_flex n σM v w u) := by
  obtain ⟨hi, hx, hm⟩ := h
  have hB := hi.2.1.2
  have hP := hi.1.2
  have hO := hi.2.2.1
  have o2 := p2048 hB hO.2
  have o31 : O < 2 ^ 31 := by omega
  have hlN : fN' F P ≤ 2 * P := fL_le F (2 * P)
  have oX' : σX.1 1 2 = nI O := hx.1.2.2.1.trans hO.1
  have oM : σM.1 0 11 = nI O := hm.1.2.2.1.trans hO.1
  obtain ⟨τX, x1, x2, x3, x4⟩ := x7_bears hn hi hO.2 hx (Or.inl rfl) (ldX hi hx)
  obtain ⟨τM, m1, m2, m3, m4, m5⟩ := r8_kindOf (n := n) (by omega) hi o31 hm
  have hk4 := fKind_le F P B O
  have no : ∀ y y', kX8_flex_75 n τM w u y y' = some (0, hv_sI τM 0 0 1) := fun y y' => by
    unfold kX8_flex_75 kX8_flex_76
    rw [hv_let_e, hv_sI_rd, if_pos rfl, if_neg (by decide)]
  have hno : mX7_flex n σX v w u = some (none, τX) → mX8_flex n σM v w u = some (0, hv_sI τM 0 0 1) → hT F P B O D W (mX7_flex n σX v w u) (mX8_flex n σM v w u) := fun e1 e2 => ⟨τX, _, ⟨hi, x1, rM_sc m2 (by decide) 1⟩, Or.inr ⟨0, e1, e2, by rw [hv_sI_rd, if_pos rfl]⟩⟩
  have e8 : mX8_flex n σM v w u = hv_b2 (mX8_isFirm n τM (nI (fKind F P B O))) fun r8 s8 => if r8 = 0 then (kX8_flex_30 n s8 w u r8) else (if v < 0 then (kX8_flex_30 n s8 w u r8) else (hv_b2 (mX8_spareAt n s8 v) fun r24 s24 => kX8_flex_31 n s24 w u r8 r24)) := by
    unfold mX8_flex
    rw [oM, m1, hv_b2_e]
  obtain ⟨mfr, Eb, Es, s1, s2, s3, s4, s5, s6⟩ := m3
  by_cases hf : fFirm F P B O
  · obtain ⟨y1, y2, k, q, y3, y4, A, e, y5, y6⟩ := x3 hf
    obtain ⟨ht, hzf, -, hm2, hpc, hg, hm13, hU, -⟩ := y5
    have hzE : zE F P B O Eb (hv_sI τM 0 0 0) := ⟨rM_sc m2 (by decide) 0, rFr_of mfr (by rw [hv_sI_rd, if_neg (by decide)]) (hv_sI_ne _ _ _ (by decide)) (hv_sI_ne _ _ _ (by decide)), by rw [hv_sI_rd, if_neg (by decide)]; exact s1, s2, s3⟩
    have e0 : (hv_sI τM 0 0 0).1 0 0 = 0 := by rw [hv_sI_rd, if_pos rfl]
    have dNe := dN_base hzf (fBase_Eb s3)
    have d0 : md_dt (fR F P) A (fN' F P) ≠ 0 := ht.2.1
    have d28 : (md_dt (fR F P) A (fN' F P)).natAbs ≤ 2 ^ 28 := fXs_bd28 hi ht.2.2.1
    have sc : τX.2 9 8 = iL (e * md_dt (fR F P) A (fN' F P)) := ht.2.2.2.2.2.2.2.1
    have he := ht.1
    have pl := pc_leB hB hO.2
    have sp7 := fun z => x5_isSpare (n := n) hm2 hm13 z
    have e7 : mX7_flex n σX v w u = hv_b2 (mX5_isSpare n τX v) fun r26 s26 => if r26 = 0 then (kX7_flex_52 n s26 v w u) else (if w = (-1 : Int32) then (kX7_flex_48 n s26 v w u) else (hv_b2 (mX5_isSpare n s26 w) fun r42 s42 => if r42 = 0 then (kX7_flex_52 n s42 v w u) else (kX7_flex_48 n s42 v w u))) := by
      unfold mX7_flex
      rw [oX', y1, hv_b2_e, if_neg (by decide)]
    have e52 : kX7_flex_52 n τX v w u = some (none, τX) := by
      unfold kX7_flex_52 kX7_flex_53
      rw [need_0]
    have e8' : mX8_flex n σM v w u = (if v < 0 then (kX8_flex_30 n τM w u 1) else (hv_b2 (mX8_spareAt n τM v) fun r24 s24 => kX8_flex_31 n s24 w u 1 r24)) := by
      rw [e8, (r8_isFirm hk4).1 hf, hv_b2_e, if_neg (by decide)]
    have spv := fun (z : Int32) hz => r8_spareAt (n := n) (by omega) hi m2 s4 s5 s6 (v := z) hz
    -- with no first spare one, the reference throws
    have e31 : kX8_flex_31 n τM w u 1 (-1) = some (0, hv_sI τM 0 0 1) := by
      unfold kX8_flex_31 kX8_flex_50 kX8_flex_51
      rw [if_neg (by decide), if_pos rfl, no]
      by_cases wn : w < 0
      · rw [if_pos wn]
      · rw [if_neg wn]
        obtain ⟨r, hr⟩ : ∃ r, mX8_spareAt n τM w = some (r, τM) := by
          by_cases c : fN (fSp F P B O).length w
          · obtain ⟨j, hj, ej⟩ := c
            exact ⟨_, (spv w wn).1 j hj ej⟩
          · exact ⟨_, (spv w wn).2 c⟩
        rw [hr, hv_b2_e, if_pos rfl, no]
    by_cases hv : fN (fSp F P B O).length v
    · obtain ⟨i, hil, rfl⟩ := hv
      have sI := (sp7 (nI i)).1 ⟨i, hil, rfl⟩
      have hN10 : fN' F P ≤ 10 := by omega
      have aB : (fSp F P B O).getD i 0 < B := (fSp_mem.mp (getD_mem hil)).1.1
      have e24 := (spv (nI i) (nI_pos (by omega))).1 i hil rfl
      have e8a : mX8_flex n σM (nI i) w u = kX8_flex_31 n τM w u 1 (nI ((fSp F P B O).getD i 0)) := by
        rw [e8', if_neg (nI_pos (by omega)), e24, hv_b2_e]
      have n1 : ¬ nI ((fSp F P B O).getD i 0) = (-1 : Int32) := nI_n1 (by omega)
      obtain ⟨τ1, l1, l2, l3, l4, l5, l6⟩ := r8_laysUnit (n := n) (by omega) hi hzE hzf.1 aB (Or.inl rfl)
      have uX : ∀ b, b < B → mX5_stateOf n τX (nI i) (nI b) = some (iL (uU F P B O A e i b), τX) := fun b hb => (x5_stateOf (n := n) hB hm2 hm13 (k := i) hb (v := uU F P B O A e i b)).1 hil (hU i b hil hb)
      -- both tell the same sum
      have fin : ∀ (Y Y1 : Nat → Int) (τ : hv_St), (∀ b, b < B → mX5_stateOf n τX w (nI b) = some (iL (Y b), τX)) → (∀ b, Y b = e * Y1 b) → (∀ b, (Y1 b).natAbs ≤ 2 ^ 28) → rM F τ → τ.1 0 0 = 0 → (∀ b, b < B → τ.2 18 b = iL (uU F P B O A 1 i b)) → (∀ b, b < B → τ.2 (if w = -1 then 17 else 19) b = iL (Y1 b)) → τ.2 0 29 = iL (md_dt (fR F P) A (fN' F P)) → mX7_flex n σX (nI i) w u = kX7_flex_48 n τX (nI i) w u → mX8_flex n σM (nI i) w u = kX8_flex_120 n τ w u → hT F P B O D W (mX7_flex n σX (nI i) w u) (mX8_flex n σM (nI i) w u) := fun Y Y1 τ z1 z2 z3 z4 z5 z6 z7 z8 z9 z10 => by
        have es := sum_e (F := F) he (X := uU F P B O A e i) (Y := Y) (X1 := uU F P B O A 1 i) (Y1 := Y1) (fun b => uU_e i b) z2 B
        have sb : (sumK (fun b => gv F b * uU F P B O A 1 i b * Y1 b) B).natAbs ≤ B * (3 * 2 ^ 28 * 2 ^ 28) := sumK_bd B (fun b hb => by
          rw [Int.natAbs_mul, Int.natAbs_mul]
          have gb := gv_e hi hb
          exact Nat.mul_le_mul (Nat.mul_le_mul (by omega) (uU_bd hi hzf ht.2.2.1 (e := 1) (Or.inl rfl) hil b)) (z3 b))
        have sr : rL (sumK (fun b => gv F b * uU F P B O A 1 i b * Y1 b) B) := rL_of (Nat.le_trans sb (Nat.le_trans (Nat.mul_le_mul_right _ hB) (by decide)))
        have ss : (md_dt (fR F P) A (fN' F P) * md_dt (fR F P) A (fN' F P)).natAbs ≤ 2 ^ 56 := by
          rw [Int.natAbs_mul]
          exact Nat.le_trans (Nat.mul_le_mul d28 d28) (by decide)
        have ss0 : md_dt (fR F P) A (fN' F P) * md_dt (fR F P) A (fN' F P) ≠ 0 := fun z => by rcases Int.mul_eq_zero.mp z with z | z <;> exact d0 z
        have ee : e * md_dt (fR F P) A (fN' F P) * (e * md_dt (fR F P) A (fN' F P)) = md_dt (fR F P) A (fN' F P) * md_dt (fR F P) A (fN' F P) := by
          rcases he with rfl | rfl <;> grind
        have gi := x5_giving (n := n) (by omega) hg (x := nI i) (y := w) uX z1
        rw [es] at gi
        obtain ⟨τ', tl, t2⟩ : ∃ τ', mX7_told n τX (iL (sumK (fun b => gv F b * uU F P B O A 1 i b * Y1 b) B)) (iL (md_dt (fR F P) A (fN' F P) * md_dt (fR F P) A (fN' F P))) u = some (iL (tlN (sumK (fun b => gv F b * uU F P B O A 1 i b * Y1 b) B) (md_dt (fR F P) A (fN' F P) * md_dt (fR F P) A (fN' F P)) (if u = 0 then sumK (fun b => gv F b * uU F P B O A 1 i b * Y1 b) B else md_dt (fR F P) A (fN' F P) * md_dt (fR F P) A (fN' F P))), τ') ∧ τ'.1 = τX.1 := ⟨_, x7_told (n := n) (by omega) (σ := τX) sr (rL_of (Nat.le_trans ss (by decide))) ss0 u, rfl⟩
        have f126 := r8_flex126 (n := n) hn hi z4 (v := w) z6 z7 z8 d0 d28 sr u B 0 n (by omega) (by omega)
        refine ⟨τ', τ, ⟨hi, rX_1 x1 (fun j _ => by rw [t2]), z4⟩, Or.inl ⟨iL (tlN (sumK (fun b => gv F b * uU F P B O A 1 i b * Y1 b) B) (md_dt (fR F P) A (fN' F P) * md_dt (fR F P) A (fN' F P)) (if u = 0 then sumK (fun b => gv F b * uU F P B O A 1 i b * Y1 b) B else md_dt (fR F P) A (fN' F P) * md_dt (fR F P) A (fN' F P))), ?_, z10.trans f126, z5⟩⟩
        · rw [z9]
          unfold kX7_flex_48 kX7_flex_53
          rw [need_1, gi, hv_b2_e, sc, iL_mul, ee, tl, hv_b2_e]
      by_cases w1 : w = -1
      · have nsp : ¬ fN (fSp F P B O).length w := fun z => by
          rw [w1] at z
          exact ((fN_iff (by omega) _).mp z).1 (by decide)
        obtain ⟨τ2, k1, k2, k3, k4, k5, k6⟩ := r8_laysBare (n := n) (by omega) hi l2 hzf.1
        refine fin (vV F P B O A e (ldz F)) (vV F P B O A 1 (ldz F)) τ2 (fun b hb => (x5_stateOf (n := n) hB hm2 hm13 (k := 0) hb (v := vV F P B O A e (ldz F) b)).2 w nsp (y6 b hb)) (fun b => vV_e b) (fun b => vV_bd28 hi hzf ht.2.2.1 hN10 (Or.inl rfl) (fun s hs => (ldz_e hi hs).2) b) k2.1 ?_ (fun b hb => ?_) (fun b hb => ?_) ?_ ?_ ?_
        · rw [k3 0 (by decide) (by decide), l3 0 (by decide)]
          exact e0
        · rw [k6 18 (by decide) (by decide) (by decide), l5 b (by omega), yS_U hzf s3 hil]
        · rw [if_pos w1, k5 b (by omega), yS_V hzf s3]
        · rw [k4, dNe]
        · rw [e7, sI, hv_b2_e, if_neg (by decide), if_pos w1]
        · rw [e8a]
          unfold kX8_flex_31 kX8_flex_50 kX8_flex_51 kX8_flex_71 kX8_flex_76
          rw [if_neg (by decide), if_pos (show w < 0 by rw [w1]; decide), if_neg n1, if_pos w1, hv_let_e, e0, if_pos (by decide), l1, hv_bd_e, if_pos w1, k1, hv_bd_e]
      · by_cases hw : fN (fSp F P B O).length w
        · have hw' := hw
          obtain ⟨j, hjl, ej⟩ := hw
          have wn : ¬ w < 0 := by rw [ej]; exact nI_pos (by omega)
          have bB : (fSp F P B O).getD j 0 < B := (fSp_mem.mp (getD_mem hjl)).1.1
          have e44 := (spv w wn).1 j hjl ej
          obtain ⟨τ2, k1, k2, k3, k4, k5, k6⟩ := r8_laysUnit (n := n) (by omega) hi l2 hzf.1 bB (Or.inr rfl)
          refine fin (uU F P B O A e j) (uU F P B O A 1 j) τ2 (fun b hb => ?_) (fun b => uU_e j b) (fun b => uU_bd hi hzf ht.2.2.1 (e := 1) (Or.inl rfl) hjl b) k2.1 ?_ (fun b hb => ?_) (fun b hb => ?_) ?_ ?_ ?_
          · rw [ej]
            exact (x5_stateOf (n := n) hB hm2 hm13 (k := j) hb (v := uU F P B O A e j b)).1 hjl (hU j b hjl hb)
          · rw [k3 0 (by decide), l3 0 (by decide)]
            exact e0
          · rw [k6 18 (by decide) (by decide) (by decide), l5 b (by omega), yS_U hzf s3 hil]
          · rw [if_neg w1, k5 b (by omega), yS_U hzf s3 hjl]
          · rw [k4, dNe]
          · rw [e7, sI, hv_b2_e, if_neg (by decide), if_neg w1, (sp7 w).1 hw', hv_b2_e, if_neg (by decide)]
          · rw [e8a]
            unfold kX8_flex_31 kX8_flex_51 kX8_flex_71 kX8_flex_76
            rw [if_neg (by decide), if_neg wn, e44, hv_b2_e, if_neg n1, if_neg w1, if_neg (nI_n1 (by omega)), hv_let_e, e0, if_pos (by decide), l1, hv_bd_e, if_neg w1, k1, hv_bd_e]
        · refine hno ?_ ?_
          · rw [e7, sI, hv_b2_e, if_neg (by decide), if_neg w1, (sp7 w).2 hw, hv_b2_e, if_pos rfl, e52]
          · rw [e8a]
            unfold kX8_flex_31 kX8_flex_50 kX8_flex_51
            rw [if_neg (by decide)]
            by_cases wn : w < 0
            · rw [if_pos wn, if_neg n1, if_neg w1, if_pos rfl, no]
            · rw [if_neg wn, (spv w wn).2 hw, hv_b2_e, if_neg n1, if_neg w1, if_pos rfl, no]
    · refine hno ?_ ?_
      · rw [e7, (sp7 v).2 hv, hv_b2_e, if_pos rfl, e52]
      · rw [e8']
        by_cases vn : v < 0
        · rw [if_pos vn]
          unfold kX8_flex_30
          exact e31
        · rw [if_neg vn, (spv v vn).2 hv, hv_b2_e, e31]
  · refine hno ?_ ?_
    · unfold mX7_flex kX7_flex_52 kX7_flex_53
      rw [oX', x4 hf, hv_b2_e, if_pos rfl, need_0]
    · rw [e8, (r8_isFirm hk4).2 hf, hv_b2_e, if_pos rfl]
      unfold kX8_flex_30 kX8_flex_31 kX8_flex_50 kX8_flex_51
      rw [if_pos rfl, if_pos rfl, no]
