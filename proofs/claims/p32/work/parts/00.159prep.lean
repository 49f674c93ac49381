/-! the class prepared: its cells hold those numbers -/
def qX (F : Nat → Nat → Int32) (P B S : Nat) (k w : Int) (τ : hv_St) : Prop := ∃ A e, tX F P B τ (fBase F P (fBl S B)) A e ∧ zF F P B S A ∧ (∀ j, j < fN' F P → τ.1 11 j = nI ((fL F (2 * P)).getD j 0)) ∧ (fSp F P B S).length ≤ 2 ∧ pc S = fN' F P + (fSp F P B S).length ∧ gF F B τ ∧ τ.1 13 5 = nI (fSp F P B S).length ∧ (∀ i b, i < (fSp F P B S).length → b < B → τ.2 (39 + i) b = iL (uU F P B S A e i b)) ∧ ((fSp F P B S).length = 2 → ∀ a b, a < B → b < B → τ.2 (41 + a) b = iL (pP F P B S A e a b)) ∧ τ.2 13 6 = iL w ∧ k = (if (fSp F P B S).length = 0 then e * md_dt (fR F P) A (fN' F P) else 1) ∧ uSum F P B S = k * w
theorem zI_lo {F : Nat → Nat → Int32} {P B S : Nat} {A : Nat → md_V} (h : zF F P B S A) {j : Nat} (hj : j < fN' F P) : (fBase F P (fBl S B)).getD j 0 ∈ zL F P B S ∧ zI F P B S ((fBase F P (fBl S B)).getD j 0) = j := by
  have hl := zL_len h
  refine ⟨?_, ?_⟩
  · rw [← zL_lo h hj]
    exact getD_mem (by omega)
  · rw [← zL_lo h hj]
    exact idx_at (zL_nd F P B S) (by omega)
theorem zI_hi {F : Nat → Nat → Int32} {P B S : Nat} {A : Nat → md_V} (h : zF F P B S A) {i : Nat} (hi : i < (fSp F P B S).length) : (fSp F P B S).getD i 0 ∈ zL F P B S ∧ zI F P B S ((fSp F P B S).getD i 0) = fN' F P + i := by
  have hl := zL_len h
  refine ⟨?_, ?_⟩
  · rw [← zL_hi h]
    exact getD_mem (by omega)
  · rw [← zL_hi h]
    exact idx_at (zL_nd F P B S) (by omega)
theorem uU_bd {F : Nat → Nat → Int32} {P B O D W : Nat} (hi : hI F P B O D W) {S : Nat} {A : Nat → md_V} (h : zF F P B S A) (hA : fXs F P B A) {e : Int} (he : e = 1 ∨ e = -1) {k : Nat} (hk : k < (fSp F P B S).length) (b : Nat) : (uU F P B S A e k b).natAbs ≤ 2 ^ 28 := by
  by_cases hb : b ∈ zL F P B S
  · have hp := (zI_P hb).1
    have hl := zL_len h
    rw [uU_at k hb, natAbs_pm he]
    by_cases l : zI F P B S b < fN' F P
    · have hq : (fSp F P B S).getD k 0 < B := (fSp_mem.mp (getD_mem hk)).1.1
      rw [t_all.2.2.2.1 k _ hk l, Int.natAbs_neg]
      have q := tX_bd hi hA (c := (fSp F P B S).getD k 0) (r := zI F P B S b) (by omega)
      rw [fXc_bar hq] at q
      exact q
    · obtain ⟨j, hj⟩ : ∃ j, zI F P B S b = fN' F P + j := ⟨zI F P B S b - fN' F P, by omega⟩
      rw [hj, t_all.2.2.2.2 k j hk (by omega)]
      by_cases c : k = j
      · rw [if_pos c]
        exact fXs_bd28 hi hA
      · rw [if_neg c]
        decide
  · rw [uU_no k hb]
    decide
theorem lin_sum {n : Nat} {u : md_V → Int} (hl : md_lin u) (ho : md_on (List.range n) u) (v : md_V) : u v = sumK (fun c => v c * u (md_e c)) n := by
  have key : ∀ k, k ≤ n → u (fun r => if r < k then v r else 0) = sumK (fun c => v c * u (md_e c)) k := by
    intro k
    induction k with
    | zero =>
      intro _
      have q := hl 0 0 (fun _ => 0) (fun _ => 0)
      have e : (fun r : Nat => if r < 0 then v r else 0) = fun r => (0 : Int) * (fun _ => 0) r + 0 * (fun _ : Nat => (0 : Int)) r := funext fun r => by
        rw [if_neg (Nat.not_lt_zero r)]
        rfl
      rw [e, q]
      show (0 : Int) * _ + 0 * _ = 0
      omega
    | succ k ih =>
      intro hk
      have q := hl 1 (v k) (fun r => if r < k then v r else 0) (md_e k)
      have e : (fun r : Nat => if r < k + 1 then v r else 0) = fun r => 1 * (if r < k then v r else 0) + v k * md_e k r := funext fun r => by
        unfold md_e
        by_cases e1 : r = k
        · rw [if_pos (show r < k + 1 by omega), if_neg (show ¬ r < k by omega), if_pos e1, e1]
          omega
        · by_cases e2 : r < k
          · rw [if_pos (show r < k + 1 by omega), if_pos e2, if_neg e1]
            omega
          · rw [if_neg (show ¬ r < k + 1 by omega), if_neg e2, if_neg e1]
            omega
      rw [e, q, ih (by omega), Int.one_mul]
      rfl
  rw [← key n (Nat.le_refl n)]
  exact ho _ _ (fun r hr => (if_pos (List.mem_range.mp hr)).symm)
theorem fSp_Es {F : Nat → Nat → Int32} {P B S Es : Nat} (h : ∀ b, Es.testBit b = true ↔ (b < B ∧ S.testBit b = true) ∧ b ∉ fBase F P (fBl S B)) : fBl Es B = fSp F P B S := by
  show (List.range B).filter (fun j => Es.testBit j) = ((List.range B).filter (fun j => S.testBit j)).filter (fun j => decide (j ∉ fBase F P (fBl S B)))
  rw [List.filter_filter]
  refine List.filter_congr (fun b hb => ?_)
  have hb' := List.mem_range.mp hb
  have q := h b
  by_cases c : Es.testBit b = true
  · have q' := q.mp c
    rw [c, q'.1.2, decide_eq_true q'.2]
    rfl
  · have c' : Es.testBit b = false := by
      cases e : Es.testBit b
      · rfl
      · exact absurd e c
    rw [c']
    symm
    rw [Bool.and_eq_false_iff]
    by_cases s : S.testBit b = true
    · left
      refine decide_eq_false (fun hn => c (q.mpr ⟨⟨hb', s⟩, hn⟩))
    · right
      cases e : S.testBit b
      · rfl
      · exact absurd e s
theorem firm_len {F : Nat → Nat → Int32} {P B S : Nat} (hB : B ≤ 11) (hS : S < 2 ^ B) (hle : (fBase F P (fBl S B)).length ≤ fN' F P) (hf : fFirm F P B S) : (fBase F P (fBl S B)).length = fN' F P ∧ (fSp F P B S).length ≤ 2 ∧ pc S = fN' F P + (fSp F P B S).length := by
  unfold fFirm fKind kdN at hf
  have h1 : ¬ (fBase F P (fBl S B)).length < fN' F P := fun c => by
    rw [if_pos c] at hf
    omega
  rw [if_neg h1] at hf
  have h2 : (fSp F P B S).length ≤ 2 := Classical.byContradiction fun c => by
    rw [if_neg c] at hf
    omega
  refine ⟨by omega, h2, ?_⟩
  have p : (zL F P B S).Perm (fBl S B) := (List.perm_ext_iff_of_nodup (zL_nd F P B S) (fBl_nd S B)).mpr (fun b => by rw [zL_mem, fBl_mem])
  have q := p.length_eq
  unfold zL at q
  rw [List.length_append] at q
  rw [pc_fBl hB hS]
  omega
theorem gF_of {F : Nat → Nat → Int32} {P B O D W : Nat} (hi : hI F P B O D W) {σ : hv_St} (hx : rX F σ) : gF F B σ := by
  have hB := hi.2.1.2
  refine ⟨hx.1.2.1.trans hi.2.1.1, hB, fun b hb => ?_⟩
  have q := gv_e hi hb
  exact ⟨(hx.2.2.2.2.1 b (by omega)).2.2.1.trans q.1, q.2⟩
theorem x5_prepare {n : Nat} (hn : 30 < n) {F : Nat → Nat → Int32} {P B O D W : Nat} (hi : hI F P B O D W) {S : Nat} (hS : S < 2 ^ B) {σ : hv_St} (hx : rX F σ) (hz : zX F P B S σ) (hf : fFirm F P B S) : ∃ τ k w, mX5_prepare n σ = some τ ∧ qX F P B S k w τ ∧ (∀ j, j ≠ 13 → τ.1 j = σ.1 j) ∧ ∀ j, j ≠ 13 → j < 39 → τ.2 j = σ.2 j := by
  have hB := hi.2.1.2
  have hP := hi.1.2
  have hN12 : fN' F P ≤ 12 := by
    have hl : fN' F P ≤ 2 * P := fL_le F (2 * P)
    omega
  obtain ⟨A, e, ht, ⟨Eb, Es, s1, s2, s3, s4, s5, s6⟩, hsl⟩ := hz
  have ht' := ht
  obtain ⟨h1, h2, h3, h4, h5, h6, h7, h8, h9⟩ := ht
  obtain ⟨k1, k2, k3⟩ := firm_len hB hS h4 hf
  have hzf : zF F P B S A := ⟨k1, fun j hj => (h5 j (by omega)).1⟩
  have eE := fSp_Es s6
  have hbs : xBs (hv_sI σ 13 5 0) (fBase F P (fBl S B)) := ⟨by rw [hv_sI_ne _ _ _ (by decide)]; exact h7, by omega, fBase_nd F P S B, fun j hj => by
    rw [hv_sI_ne _ _ _ (by decide)]
    exact ⟨(h5 j hj).2.2, by have := (h5 j hj).2.1; omega⟩⟩
  have sc : σ.2 9 8 = iL (e * md_dt (fR F P) A (fN' F P)) := h8
  have l0 : e * md_dt (fR F P) A (fN' F P) ≠ 0 := pm_ne h1 h2
  have lr : rL (e * md_dt (fR F P) A (fN' F P)) := pm_rL h1 (fXs_bd28 hi h3)
  obtain ⟨τ1, t1, t2, t3, t4, t5⟩ := x5_prep_loop (n := n) (by omega) hB s5 (σ₀ := hv_sI σ 13 5 0) (by rw [hv_sI_ne _ _ _ (by decide)]; exact hx.1.2.1.trans hi.2.1.1) (by rw [hv_sI_ne _ _ _ (by decide)]; exact s4) hbs (fun b hb => ((s6 b).mp hb).2) (by rw [eE]; exact k2) (U := uU F P B S A e) (fun k j hk hj => by
    rw [eE] at hk ⊢
    have hq := (fSp_mem.mp (getD_mem hk)).1.1
    have hjN : j < fN' F P := by omega
    have zl := zI_lo hzf hjN
    show σ.2 (27 + j) _ = _
    rw [h9 j _ hjN (by omega), uU_at k zl.1, zl.2, t_all.2.2.2.1 k j hk hjN, fXc_bar hq, Int.mul_neg, Int.neg_neg]) (fun k hk => by
    rw [eE] at hk ⊢
    have zh := zI_hi hzf hk
    show σ.2 9 8 = _
    rw [sc, uU_at k zh.1, zh.2, t_all.2.2.2.2 k k hk hk, if_pos rfl]) (fun k b hk hb hba hbq => by
    rw [eE] at hk hbq
    by_cases hbz : b ∈ zL F P B S
    · have hbs : b ∈ fSp F P B S := fSp_mem.mpr ⟨zL_mem.mp hbz, hba⟩
      obtain ⟨i, hi', rfl⟩ := mem_getD hbs
      have zh := zI_hi hzf hi'
      rw [uU_at k zh.1, zh.2, t_all.2.2.2.2 k i hk hi', if_neg (fun q => hbq (by rw [q])), Int.mul_zero]
    · exact uU_no k hbz) B 0 n (hv_sI σ 13 5 0) (by omega) (by omega) (fun _ _ => rfl) (fun _ _ _ => rfl) (by rw [hv_sI_rd, if_pos rfl]; rfl) (fun k c hk => absurd hk (Nat.not_lt_zero _))
  rw [eE] at t4 t5
  have f1 : ∀ j, j ≠ 13 → τ1.1 j = σ.1 j := fun j hj => (t2 j hj).trans (hv_sI_ne _ _ _ hj)
  have f2 : ∀ j, j ≠ 39 → j ≠ 40 → τ1.2 j = σ.2 j := fun j a b => t3 j a b
  have hg : gF F B τ1 := ⟨by rw [f1 1 (by decide)]; exact (gF_of hi hx).1, hB, fun b hb => by rw [f1 7 (by decide)]; exact (gF_of hi hx).2.2 b hb⟩
  have t0 : mX5_prepare n σ = _ := t1
  -- the table stands through it
  have tab : ∀ τ : hv_St, (∀ j, j ≠ 13 → τ.1 j = σ.1 j) → (∀ j, j ≠ 13 → j < 39 → τ.2 j = σ.2 j) → tX F P B τ (fBase F P (fBl S B)) A e ∧ ∀ j, j < fN' F P → τ.1 11 j = nI ((fL F (2 * P)).getD j 0) := fun τ g1 g2 => by
    refine ⟨⟨h1, h2, h3, h4, fun j hj => ?_, ?_, ?_, ?_, fun r c hr hc => ?_⟩, fun j hj => ?_⟩
    · rw [g1 12 (by decide)]; exact h5 j hj
    · rw [g1 9 (by decide)]; exact h6
    · rw [g1 9 (by decide)]; exact h7
    · rw [g2 9 (by decide) (by decide)]; exact h8
    · have hr' : r < fN' F P := hr
      rw [g2 (27 + r) (by omega) (by omega)]; exact h9 r c hr hc
    · rw [g1 11 (by decide)]; exact hsl j hj
  rcases (show (fSp F P B S).length = 0 ∨ (fSp F P B S).length = 1 ∨ (fSp F P B S).length = 2 by omega) with hm | hm | hm
  · refine ⟨hv_sJ τ1 13 6 (τ1.2 9 8), e * md_dt (fR F P) A (fN' F P), e * md_dt (fR F P) A (fN' F P), ?_, ?_, f1, fun j j1 j2 => ?_⟩
    · rw [t0, t4, hm, if_pos (show nI 0 = 0 from rfl)]
      rfl
    · obtain ⟨a1, a2⟩ := tab (hv_sJ τ1 13 6 (τ1.2 9 8)) f1 (fun j j1 j2 => by rw [hv_sJ_ne _ _ _ j1]; exact f2 j (by omega) (by omega))
      refine ⟨A, e, a1, hzf, a2, k2, k3, hg, t4, fun i b hi' => by omega, fun q => by omega, ?_, by rw [if_pos hm], ?_⟩
      · rw [hv_sJ_rd, if_pos rfl, f2 9 (by decide) (by decide)]
        exact sc
      · rw [(u_0 hB hS hzf hm (by omega)).1, sq_pm h1]
    · rw [hv_sJ_ne _ _ _ j1]
      exact f2 j (by omega) (by omega)
  · have st : ∀ b, b < B → mX5_stateOf n τ1 0 (nI b) = some (iL (uU F P B S A e 0 b), τ1) := fun b hb => (x5_stateOf (n := n) hB (m := 1) (by decide) (by rw [t4, hm]) (k := 0) (b := b) hb).1 (by decide) (t5 0 b (by omega) (by omega))
    refine ⟨hv_sJ τ1 13 6 (iL (sumK (fun b => gv F b * uU F P B S A e 0 b * uU F P B S A e 0 b) B)), 1, sumK (fun b => gv F b * uU F P B S A e 0 b * uU F P B S A e 0 b) B, ?_, ?_, f1, fun j j1 j2 => ?_⟩
    · rw [t0, t4, hm, if_neg (show ¬ nI 1 = 0 by decide), if_pos (show nI 1 = (1 : Int32) from rfl), x5_giving (n := n) (by omega) hg st st, hv_b2_e, hv_let_e]
    · obtain ⟨a1, a2⟩ := tab (hv_sJ τ1 13 6 (iL (sumK (fun b => gv F b * uU F P B S A e 0 b * uU F P B S A e 0 b) B))) f1 (fun j j1 j2 => by rw [hv_sJ_ne _ _ _ j1]; exact f2 j (by omega) (by omega))
      refine ⟨A, e, a1, hzf, a2, k2, k3, hg, t4, fun i b hi' hb => ?_, fun q => by omega, by rw [hv_sJ_rd, if_pos rfl], by rw [if_neg (by omega)], by rw [Int.one_mul]; exact u_1 hB hS hzf hm (by omega) h1⟩
      rw [hv_sJ_ne _ _ _ (by omega)]
      exact t5 i b hi' (by omega)
    · rw [hv_sJ_ne _ _ _ j1]
      exact f2 j (by omega) (by omega)
  · have bd : ∀ k b, k < 2 → (uU F P B S A e k b).natAbs ≤ 2 ^ 28 := fun k b hk => uU_bd hi hzf h3 h1 (by omega) b
    obtain ⟨τ, p1, p2, p3, p4, p5⟩ := x5_layPairs (n := n) (by omega) hg (U0 := uU F P B S A e 0) (U1 := uU F P B S A e 1) (fun b hb => t5 0 b (by omega) (by omega)) (fun b hb => t5 1 b (by omega) (by omega)) (l := e * md_dt (fR F P) A (fN' F P)) (by rw [f2 9 (by decide) (by decide)]; exact sc) l0 lr (pr := pP F P B S A e) (fun a b ha hb => ⟨id_2 hzf h1 a b, rL_of (rL_56 (bd 0 a (by decide)) (bd 1 b (by decide)) (bd 0 b (by decide)) (bd 1 a (by decide)))⟩)
    have g1 : ∀ j, j ≠ 13 → τ.1 j = σ.1 j := fun j hj => by rw [p2]; exact f1 j hj
    have g2 : ∀ j, j ≠ 13 → j < 39 → τ.2 j = σ.2 j := fun j j1 j2 => by
      rw [p3 j (by omega) j1]
      exact f2 j (by omega) (by omega)
    refine ⟨τ, 1, w2 F B (pP F P B S A e), ?_, ?_, g1, g2⟩
    · rw [t0, t4, hm, if_neg (show ¬ nI 2 = 0 by decide), if_neg (show ¬ nI 2 = (1 : Int32) by decide), p1]
      rfl
    · obtain ⟨a1, a2⟩ := tab τ g1 g2
      refine ⟨A, e, a1, hzf, a2, k2, k3, ⟨by rw [p2]; exact hg.1, hB, fun b hb => by rw [p2]; exact hg.2.2 b hb⟩, by rw [p2]; exact t4, fun i b hi' hb => ?_, fun _ => p5, p4, by rw [if_neg (by omega)], by rw [Int.one_mul]; exact u_2 hB hS hzf hm (by omega) h1⟩
      rw [p3 (39 + i) (by omega) (by omega)]
      exact t5 i b hi' (by omega)
