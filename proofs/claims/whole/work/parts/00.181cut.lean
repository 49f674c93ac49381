/-! cut told, both sides -/
theorem rMx_n1 {F : Nat → Nat → Int32} {P B O S : Nat} : d3f (rMx F P B O S (-1) 0) (rMx F P B O S (-1) 1) (rMx F P B O S (-1) 2) = kU F B O S := by
  have e : ∀ c, c < 3 → rMx F P B O S (-1) c = cC F S ((cL F O S B).getD c 0) := fun c hc => by
    unfold rMx
    rw [if_neg (nI_n1 (by omega))]
    funext r
    unfold rC
    rw [if_pos hc]
  rw [e 0 (by decide), e 1 (by decide), e 2 (by decide)]
  rfl
theorem rMx_i {F : Nat → Nat → Int32} {P B O S : Nat} {i : Nat} (hi : i < 3) : d3f (rMx F P B O S (nI i) 0) (rMx F P B O S (nI i) 1) (rMx F P B O S (nI i) 2) = -(d3f (kM F P B O S i 0) (kM F P B O S i 1) (kM F P B O S i 2)) := by
  have e : ∀ c, c < 3 → rMx F P B O S (nI i) c = if c = i then (fun r => -(lC F S P r)) else cC F S ((cL F O S B).getD c 0) := fun c hc => by
    unfold rMx
    by_cases h : c = i
    · rw [if_pos ((nI_eq (by omega) (by omega)).mpr h), if_pos h]
      rfl
    · rw [if_neg (fun q => h ((nI_eq (by omega) (by omega)).mp q)), if_neg h]
      funext r
      unfold rC
      rw [if_pos hc]
  rw [e 0 (by decide), e 1 (by decide), e 2 (by decide)]
  unfold kM
  rcases (show i = 0 ∨ i = 1 ∨ i = 2 by omega) with rfl | rfl | rfl
  · rw [if_pos rfl, if_pos rfl, if_neg (by decide), if_neg (by decide), if_neg (by decide), if_neg (by decide)]
    unfold d3f
    grind
  · have a : ¬ (0 : Nat) = 1 := by decide
    have b : ¬ (2 : Nat) = 1 := by decide
    have c : (1 : Nat) = 1 := rfl
    rw [if_neg a, if_neg a, if_pos c, if_pos c, if_neg b, if_neg b]
    unfold d3f
    grind
  · have a : ¬ (0 : Nat) = 2 := by decide
    have b : ¬ (1 : Nat) = 2 := by decide
    have c : (2 : Nat) = 2 := rfl
    rw [if_neg a, if_neg a, if_neg b, if_neg b, if_pos c, if_pos c]
    unfold d3f
    grind
theorem op_cut {n : Nat} (hn : 2100 ≤ n) {F : Nat → Nat → Int32} {P B O D W : Nat} {σX σM : hv_St} (h : hR F P B O D W σX σM) (v w u : Int32) : hT F P B O D W (mX7_cut n σX v w u) (mX8_cut n σM v w u) := by
  obtain ⟨hi, hx, hm⟩ := h
  have hB := hi.2.1.2
  have hP := hi.1.2
  have p64 : 2 ^ P ≤ 64 := Nat.le_trans (Nat.pow_le_pow_right (by decide) hP) (by decide)
  have pX : σX.1 1 0 = nI P := hx.1.1.trans hi.1.1
  have m1 : rM F (hv_sI σM 0 0 1) := rM_sc hm (by decide) 1
  have e1 : (hv_sI σM 0 0 1).1 0 0 = 1 := by rw [hv_sI_rd, if_pos rfl]
  have pM : (hv_sI σM 0 0 1).1 0 1 = nI P := m1.1.1.trans hi.1.1
  have hin : mX8_in n (hv_sI σM 0 0 1) v.toInt64 (1 : Int64) ((nI (2 ^ P) - (1 : Int32)).toInt64) = some (if (1 : Int32) ≤ v ∧ v ≤ nI (2 ^ P) - 1 then 1 else 0, hv_sI σM 0 0 1) := by
    rw [show (1 : Int64) = (1 : Int32).toInt64 from rfl, r8_in32]
  have none7 : ∀ τ, mX1_divides n σX v = some (0, τ) → mX7_cut n σX v w u = some (none, τ) := fun τ e => by
    unfold mX7_cut
    rw [e, hv_b2_e, need_0]
  rcases cut_in hP v with ⟨S, S0, hS, rfl⟩ | ⟨vb, vn⟩
  · have s31 : S < 2 ^ 31 := by omega
    have inr : (1 : Int32) ≤ nI S ∧ nI S ≤ nI (2 ^ P) - 1 := by
      have f := (fN_in (N := 2 ^ P) (by omega) (nI S)).mp ⟨S, hS, rfl⟩
      exact ⟨show nI 1 ≤ nI S from nI_le S0 s31, f.2⟩
    obtain ⟨τX, x1, x2, x3⟩ := x1_divides (n := n) (by omega) hi S0 hS hx
    obtain ⟨τ, t1, t2, t3, t4, t5⟩ := r8_cuts24 (n := n) (by omega) hi hS B 0 n (hv_sI σM 0 0 1) (by omega) (by omega) m1 (Nat.zero_le _) (fun i h => absurd h (Nat.not_lt_zero _))
    have ec : mX8_cuts n (hv_sI σM 0 0 1) (nI S) = kX8_cuts_24 n n (hv_sI σM 0 0 1) (nI S) 0 0 := by
      unfold mX8_cuts
      rw [pM, nI_shl (by omega), hin, if_pos inr, hv_b2_e, if_neg (by decide)]
    have c0 : τ.1 0 0 = 1 := by rw [t3]; exact e1
    by_cases g : gCut F P B O S
    · obtain ⟨y1, y2, y3, y4, y5, y6⟩ := x2 g
      obtain ⟨q1, q2⟩ := t4 g
      obtain ⟨τ1, l1, l2, l3⟩ := r8_laysSums (n := n) (by omega) hi hS t1 g q2
      obtain ⟨g0, k1⟩ := r8_cutBy (n := n) (by omega) hi g l3 (-1)
      rw [rMx_n1] at k1
      have e8 : mX8_cut n σM (nI S) w u = kX8_cut_30 n n (hv_wJ τ1 13 g0) w u (iL (kU F B O S)) 0 := by
        unfold mX8_cut
        rw [hv_let_e, ec, show kX8_cuts_24 n n (hv_sI σM 0 0 1) (nI S) 0 0 = _ from q1, hv_b2_e, if_neg (by decide), l1, hv_bd_e, k1, hv_b2_e]
      have hm1 : rM F (hv_wJ τ1 13 g0) := by
        have : rM F τ1 := by unfold rM; rw [l2]; exact t1
        exact this
      have c1 : (hv_wJ τ1 13 g0).1 0 0 = 1 := by show τ1.1 0 0 = 1; rw [l2]; exact c0
      have h20 : ∀ i, i < 3 → (hv_wJ τ1 13 g0).1 20 i = nI ((cL F O S B).getD i 0) := fun i h => by show τ1.1 20 i = _; rw [l2]; exact q2 i h
      have bi : ∀ i, i < 3 → (cL F O S B).getD i 0 < B := fun i h => cL_mem (by rw [g.1]; exact h)
      have ub : (kU F B O S).natAbs ≤ 2 ^ 30 := d3_bd (m := fun c => cC F S ((cL F O S B).getD c 0)) (fun c hc k _ => by have := cC_bd hi S (bi c hc) k; omega)
      have ur : rL (kU F B O S) := rL_of (Nat.le_trans ub (by decide))
      obtain ⟨f, hf⟩ : ∃ f, n = f + 4 := ⟨n - 4, by omega⟩
      by_cases U0 : kU F B O S = 0
      · refine ⟨τX, hv_wJ τ1 13 g0, ⟨hi, x1, hm1⟩, Or.inr ⟨0, none7 τX (y5 U0), ?_, c1⟩⟩
        rw [e8]
        have : kX8_cut_30 n (f + 3 + 1) (hv_wJ τ1 13 g0) w u (iL (kU F B O S)) 0 = some (0, hv_wJ τ1 13 g0) := by
          show kX8_cut_30_b n _ _ _ _ _ _ = _
          unfold kX8_cut_30_b
          rw [if_neg (show ¬ (3 : Int32) ≤ 0 by decide), if_pos ((iL_0 ur).mpr U0)]
        rw [show f + 3 + 1 = n by omega] at this
        exact this
      · have nz : ¬ lg_cmp (iL (kU F B O S)) (0 : Int64) = 0 := fun q => U0 ((iL_0 ur).mp q)
        have st : ∀ i f, i < 3 → (hv_wJ τ1 13 g0).1 20 i ≠ w → kX8_cut_30 n (f + 1) (hv_wJ τ1 13 g0) w u (iL (kU F B O S)) (nI i) = kX8_cut_30 n f (hv_wJ τ1 13 g0) w u (iL (kU F B O S)) (nI (i + 1)) := fun i f h3 hne => by
          show kX8_cut_30_b n _ _ _ _ _ _ = _
          unfold kX8_cut_30_b
          rw [if_neg (show ¬ (3 : Int32) ≤ nI i from nI_ge (b := 3) h3 (by decide)), if_neg nz, hv_if_t (hv_ok_nI h3 (by decide)), nI_clamp (show i < 2 ^ 31 by omega), if_neg hne, nI_1]
        have out : ∀ f, kX8_cut_30 n (f + 1) (hv_wJ τ1 13 g0) w u (iL (kU F B O S)) (nI 3) = some (0, hv_wJ τ1 13 g0) := fun f => by
          show kX8_cut_30_b n _ _ _ _ _ _ = _
          unfold kX8_cut_30_b
          rw [if_pos (show (3 : Int32) ≤ nI 3 by decide)]
        have e7 : mX7_cut n σX (nI S) w u = hv_b2 (mX1_indexOf n τX w) fun r16 s16 => if r16 = (-1 : Int32) then (kX7_cut_32 n s16 u r16 ((0 : Int32))) else (kX7_cut_32 n s16 u r16 ((1 : Int32))) := by
          unfold mX7_cut
          rw [y6 U0, hv_b2_e, need_1]
        rw [x1_index (n := n) (by omega), hv_b2_e, y1 0 (by decide), y1 1 (by decide), y1 2 (by decide)] at e7
        -- where the bar is the i-th that crosses
        have hit : ∀ i, i < 3 → nI ((cL F O S B).getD i 0) = w → mX7_cut n σX (nI S) w u = kX7_cut_32 n τX u (nI i) 1 → (∃ f, mX8_cut n σM (nI S) w u = kX8_cut_30 n (f + 1) (hv_wJ τ1 13 g0) w u (iL (kU F B O S)) (nI i)) → hT F P B O D W (mX7_cut n σX (nI S) w u) (mX8_cut n σM (nI S) w u) := fun i h3 hw e7' ⟨f', e8'⟩ => by
          have vb : (-(d3f (kM F P B O S i 0) (kM F P B O S i 1) (kM F P B O S i 2))).natAbs ≤ 2 ^ 30 := by
            rw [← rMx_i h3]
            exact d3_bd (m := rMx F P B O S (nI i)) (fun c hc k _ => rMx_bd hi g (nI i) hc k)
          have vr : rL (-(d3f (kM F P B O S i 0) (kM F P B O S i 1) (kM F P B O S i 2))) := rL_of (Nat.le_trans vb (by decide))
          have ov := x1_over (n := n) y2 y3 h3
          obtain ⟨τ', tl, tl2⟩ : ∃ τ', mX7_told n τX (iL (-(d3f (kM F P B O S i 0) (kM F P B O S i 1) (kM F P B O S i 2)))) (iL (kU F B O S)) u = some (iL (tlN (-(d3f (kM F P B O S i 0) (kM F P B O S i 1) (kM F P B O S i 2))) (kU F B O S) (if u = 0 then -(d3f (kM F P B O S i 0) (kM F P B O S i 1) (kM F P B O S i 2)) else kU F B O S)), τ') ∧ τ'.1 = τX.1 := ⟨_, x7_told (n := n) (by omega) (σ := τX) vr ur U0 u, rfl⟩
          obtain ⟨g1, k2⟩ := r8_cutBy (n := n) (by omega) hi g (σ := hv_sI (hv_wJ τ1 13 g0) 0 0 0) (fun c r hc hr => by
            show (hv_wJ τ1 13 g0).2 21 (3 * c + r) = _
            rw [hv_wJ_ne _ _ (by decide)]
            exact l3 c r hc hr) (nI i)
          rw [rMx_i h3] at k2
          have hm2 : rM F (hv_sI (hv_wJ τ1 13 g0) 0 0 0) := rM_sc hm1 (by decide) 0
          refine ⟨τ', hv_wJ (hv_sI (hv_wJ τ1 13 g0) 0 0 0) 13 g1, ⟨hi, rX_1 x1 (fun j _ => by rw [tl2]), hm2⟩, Or.inl ⟨iL (tlN (-(d3f (kM F P B O S i 0) (kM F P B O S i 1) (kM F P B O S i 2))) (kU F B O S) (if u = 0 then -(d3f (kM F P B O S i 0) (kM F P B O S i 1) (kM F P B O S i 2)) else kU F B O S)), ?_, ?_, ?_⟩⟩
          · rw [e7']
            unfold kX7_cut_32
            rw [need_1, ov, hv_b2_e, y4, tl, hv_b2_e]
          · rw [e8']
            show kX8_cut_30_b n _ _ _ _ _ _ = _
            unfold kX8_cut_30_b
            rw [if_neg (show ¬ (3 : Int32) ≤ nI i from nI_ge (b := 3) h3 (by decide)), if_neg nz, hv_if_t (hv_ok_nI h3 (by decide)), nI_clamp (show i < 2 ^ 31 by omega), h20 i h3, if_pos hw, hv_let_e, k2, hv_b2_e, r8_told (n := n) (by omega) vr ur U0 u, hv_b2_e]
          · show (hv_sI (hv_wJ τ1 13 g0) 0 0 0).1 0 0 = 0
            rw [hv_sI_rd, if_pos rfl]
        have inj : ∀ i j, i < 3 → j < 3 → nI ((cL F O S B).getD i 0) = w → nI ((cL F O S B).getD j 0) = w → i = j := fun i j h1 h2 e1 e2 => by
          have b1 := bi i h1
          have b2 := bi j h2
          exact getD_inj (cL_nd F O S B) (by rw [g.1]; exact h1) (by rw [g.1]; exact h2) ((nI_eq (by omega) (by omega)).mp (e1.trans e2.symm))
        have e8n : mX8_cut n σM (nI S) w u = kX8_cut_30 n (f + 3 + 1) (hv_wJ τ1 13 g0) w u (iL (kU F B O S)) (nI 0) := by
          rw [e8, show f + 3 + 1 = n by omega]
          rfl
        by_cases w2 : nI ((cL F O S B).getD 2 0) = w
        · have n1 : nI ((cL F O S B).getD 1 0) ≠ w := fun q => absurd (inj 1 2 (by decide) (by decide) q w2) (by decide)
          have n0 : nI ((cL F O S B).getD 0 0) ≠ w := fun q => absurd (inj 0 2 (by decide) (by decide) q w2) (by decide)
          refine hit 2 (by decide) w2 ?_ ⟨f + 1, ?_⟩
          · rw [e7, if_pos w2, if_neg (by decide)]
            rfl
          · rw [e8n, st 0 (f + 3) (by decide) (by rw [h20 0 (by decide)]; exact n0), st 1 (f + 2) (by decide) (by rw [h20 1 (by decide)]; exact n1)]
        · by_cases w1 : nI ((cL F O S B).getD 1 0) = w
          · have n0 : nI ((cL F O S B).getD 0 0) ≠ w := fun q => absurd (inj 0 1 (by decide) (by decide) q w1) (by decide)
            refine hit 1 (by decide) w1 ?_ ⟨f + 2, ?_⟩
            · rw [e7, if_neg w2, if_pos w1, if_neg (by decide)]
              rfl
            · rw [e8n, st 0 (f + 3) (by decide) (by rw [h20 0 (by decide)]; exact n0)]
          · by_cases w0 : nI ((cL F O S B).getD 0 0) = w
            · refine hit 0 (by decide) w0 ?_ ⟨f + 3, e8n⟩
              rw [e7, if_neg w2, if_neg w1, if_pos w0, if_neg (by decide)]
              rfl
            · refine ⟨τX, hv_wJ τ1 13 g0, ⟨hi, x1, hm1⟩, Or.inr ⟨0, ?_, ?_, c1⟩⟩
              · rw [e7, if_neg w2, if_neg w1, if_neg w0, if_pos rfl]
                unfold kX7_cut_32
                rw [need_0]
              · rw [e8n, st 0 (f + 3) (by decide) (by rw [h20 0 (by decide)]; exact w0), st 1 (f + 2) (by decide) (by rw [h20 1 (by decide)]; exact w1), st 2 (f + 1) (by decide) (by rw [h20 2 (by decide)]; exact w2), out]
    · refine ⟨τX, τ, ⟨hi, x1, t1⟩, Or.inr ⟨0, none7 τX (x3 g), ?_, c0⟩⟩
      unfold mX8_cut
      rw [hv_let_e, ec, show kX8_cuts_24 n n (hv_sI σM 0 0 1) (nI S) 0 0 = _ from t5 g, hv_b2_e, if_pos rfl]
  · refine ⟨σX, hv_sI σM 0 0 1, ⟨hi, hx, m1⟩, Or.inr ⟨0, none7 σX ?_, ?_, e1⟩⟩
    · unfold mX1_divides
      by_cases c : v ≤ 0
      · rw [if_pos c]
      · rw [if_neg c, pX, nI_shl (by omega), if_pos (vb.resolve_left c)]
    · unfold mX8_cut mX8_cuts
      rw [hv_let_e, pM, nI_shl (by omega), hin, if_neg vn, hv_b2_e, if_pos rfl, hv_b2_e, if_pos rfl]
