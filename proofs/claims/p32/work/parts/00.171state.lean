/-! state -/
theorem tl_pm {e : Int} (he : e = 1 ∨ e = -1) {n : Nat} (hn : 200 ≤ n) {σ : hv_St} {v s : Int} (hv : rL v) (hs : rL s) (s0 : s ≠ 0) (u : Int32) : ∃ τ, mX7_told n σ (iL (e * v)) (iL (e * s)) u = some (iL (tlN v s (if u = 0 then v else s)), τ) ∧ τ.1 = σ.1 := by
  have e0 : e ≠ 0 := by omega
  have hv1 := hv.1
  have hv2 := hv.2
  have hs1 := hs.1
  have hs2 := hs.2
  have rv : rL (e * v) := by
    rcases he with rfl | rfl
    · rw [Int.one_mul]; exact hv
    · exact ⟨by omega, by omega⟩
  have rs : rL (e * s) := by
    rcases he with rfl | rfl
    · rw [Int.one_mul]; exact hs
    · exact ⟨by omega, by omega⟩
  have q := x7_told (n := n) hn (σ := σ) rv rs (pm_ne he s0) u
  have ev : tlN (e * v) (e * s) (if u = 0 then e * v else e * s) = tlN v s (if u = 0 then v else s) := by
    by_cases u0 : u = 0
    · rw [if_pos u0, if_pos u0, tlN_scale e0]
    · rw [if_neg u0, if_neg u0, tlN_scale e0]
  rw [ev] at q
  exact ⟨_, q, rfl⟩
theorem op_state {n : Nat} (hn : 2100 ≤ n) {F : Nat → Nat → Int32} {P B O D W : Nat} {σX σM : hv_St} (h : hR F P B O D W σX σM) (v w u : Int32) : hT F P B O D W (mX7_state n σX v w u) (mX8_state n σM v w u) := by
  obtain ⟨hi, hx, hm⟩ := h
  have hB := hi.2.1.2
  have hP := hi.1.2
  have hO := hi.2.2.1
  have o2 := p2048 hB hO.2
  have o31 : O < 2 ^ 31 := by omega
  have hlN : fN' F P ≤ 2 * P := fL_le F (2 * P)
  have bX : σX.1 1 1 = nI B := hx.1.2.1.trans hi.2.1.1
  have oX' : σX.1 1 2 = nI O := hx.1.2.2.1.trans hO.1
  have bM : σM.1 0 6 = nI B := hm.1.2.1.trans hi.2.1.1
  have oM : σM.1 0 11 = nI O := hm.1.2.2.1.trans hO.1
  have on_iff : fO B (σX.1 1 2) w ↔ fN B w ∧ fB (nI O) w := by rw [oX']; rfl
  have no : ∀ τX τM y, rX F τX → rM F τM → kX8_state_81 n τM v w u y = some (0, hv_sI τM 0 0 1) ∧ hR F P B O D W τX (hv_sI τM 0 0 1) ∧ (hv_sI τM 0 0 1).1 0 0 = 1 := fun τX τM y h1 h2 => by
    refine ⟨?_, ⟨hi, h1, rM_sc h2 (by decide) 1⟩, by rw [hv_sI_rd, if_pos rfl]⟩
    unfold kX8_state_81 kX8_state_82
    rw [hv_let_e, hv_sI_rd, if_pos rfl, if_neg (by decide)]
  have hno : ∀ τX τM, rX F τX → rM F τM → mX7_state n σX v w u = some (none, τX) → mX8_state n σM v w u = kX8_state_37 n τM v w u → hT F P B O D W (mX7_state n σX v w u) (mX8_state n σM v w u) := fun τX τM h1 h2 e1 e2 => by
    obtain ⟨q1, q2, q3⟩ := no τX τM (-1) h1 h2
    refine ⟨τX, _, q2, Or.inr ⟨0, e1, ?_, q3⟩⟩
    rw [e2]
    unfold kX8_state_37 kX8_state_38 kX8_state_57 kX8_state_58
    rw [if_pos rfl, if_pos rfl, q1]
  by_cases hw : fN B w
  · by_cases hon : fB (nI O) w
    · have c1 := (x3_isOn (n := n) (by omega) bX w).1 (on_iff.mpr ⟨hw, hon⟩)
      obtain ⟨τX, x1, x2, x3, x4⟩ := x7_bears hn hi hO.2 hx (Or.inl rfl) (ldX hi hx)
      obtain ⟨τM, m1, m2, m3, m4, m5⟩ := r8_kindOf (n := n) (by omega) hi o31 hm
      have hk4 := fKind_le F P B O
      have e8 : mX8_state n σM v w u = hv_b2 (mX8_isFirm n τM (nI (fKind F P B O))) fun r27 s27 => if r27 = 0 then (kX8_state_37 n s27 v w u) else (kX8_state_38 n s27 v w u ((1 : Int32))) := by
        unfold mX8_state
        rw [(r8_isBar (by omega) bM w).1 hw, hv_b2_e, if_neg (by decide), oM, (r8_isOn _ _).1 hon, hv_b2_e, if_neg (by decide), oM, m1, hv_b2_e]
      by_cases hf : fFirm F P B O
      · obtain ⟨y1, y2, k, q, y3, y4, A, e, y5, y6⟩ := x3 hf
        obtain ⟨ht, hzf, -, hm2, hpc, -, hm13, hU, -⟩ := y5
        obtain ⟨b, hb, rfl⟩ := hw
        obtain ⟨mfr, Eb, Es, s1, s2, s3, s4, s5, s6⟩ := m3
        have hzE : zE F P B O Eb (hv_sI τM 0 0 0) := ⟨rM_sc m2 (by decide) 0, rFr_of mfr (by rw [hv_sI_rd, if_neg (by decide)]) (hv_sI_ne _ _ _ (by decide)) (hv_sI_ne _ _ _ (by decide)), by rw [hv_sI_rd, if_neg (by decide)]; exact s1, s2, s3⟩
        have e0 : (hv_sI τM 0 0 0).1 0 0 = 0 := by rw [hv_sI_rd, if_pos rfl]
        have dNe := dN_base hzf (fBase_Eb s3)
        have d0 : md_dt (fR F P) A (fN' F P) ≠ 0 := ht.2.1
        have d28 : (md_dt (fR F P) A (fN' F P)).natAbs ≤ 2 ^ 28 := fXs_bd28 hi ht.2.2.1
        have dr : rL (md_dt (fR F P) A (fN' F P)) := rL_of (Nat.le_trans d28 (by decide))
        have sc : τX.2 9 8 = iL (e * md_dt (fR F P) A (fN' F P)) := ht.2.2.2.2.2.2.2.1
        have he := ht.1
        have hN11 : fN' F P ≤ 11 := by have := pc_leB hB hO.2; omega
        have e7 : mX7_state n σX v (nI b) u = if v = (-1 : Int32) then (kX7_state_48 n τX v (nI b) u) else (hv_b2 (mX5_isSpare n τX v) fun r42 s42 => if r42 = 0 then (kX7_state_52 n s42 v (nI b) u) else (kX7_state_48 n s42 v (nI b) u)) := by
          unfold mX7_state
          rw [c1, hv_b2_e, if_neg (by decide), oX', y1, hv_b2_e, if_neg (by decide)]
        have e8' : mX8_state n σM v (nI b) u = kX8_state_38 n τM v (nI b) u 1 := by
          rw [e8, (r8_isFirm hk4).1 hf, hv_b2_e, if_neg (by decide)]
        by_cases v1 : v = -1
        · have nsp : ¬ fN (fSp F P B O).length v := fun z => by
            rw [v1] at z
            exact ((fN_iff (by omega) _).mp z).1 (by decide)
          have so := (x5_stateOf (n := n) hB hm2 hm13 (k := 0) hb (v := vV F P B O A e (ldz F) b)).2 v nsp (y6 b hb)
          have vb := vV_bd hi hzf ht.2.2.1 hN11 (e := 1) (Or.inl rfl) (fun s hs => (ldz_e hi hs).2) b
          have vr : rL (vV F P B O A 1 (ldz F) b) := rL_of (Nat.le_trans vb (by decide))
          obtain ⟨τ', t1, t2⟩ := tl_pm he (n := n) (by omega) (σ := τX) vr dr d0 u
          obtain ⟨τ, l1, l2, l3, l4, l5, l6⟩ := r8_laysBare (n := n) (by omega) hi hzE hzf.1
          refine ⟨τ', τ, ⟨hi, rX_1 x1 (fun j _ => by rw [t2]), l2.1⟩, Or.inl ⟨iL (tlN (vV F P B O A 1 (ldz F) b) (md_dt (fR F P) A (fN' F P)) (if u = 0 then vV F P B O A 1 (ldz F) b else md_dt (fR F P) A (fN' F P))), ?_, ?_, ?_⟩⟩
          · rw [e7, if_pos v1]
            unfold kX7_state_48 kX7_state_53
            rw [need_1, so, hv_b2_e, sc, vV_e, t1, hv_b2_e]
          · rw [e8']
            unfold kX8_state_38 kX8_state_57 kX8_state_58 kX8_state_77 kX8_state_82
            rw [if_neg (by decide), if_pos (show v < 0 by rw [v1]; decide), if_neg (by decide), if_pos v1, hv_let_e, e0, if_pos (by decide), if_pos v1, l1, hv_bd_e, hv_if_t (hv_ok_nI (show b < 11 by omega) (by decide)), nI_clamp (by omega), l5 b (by omega), l4, yS_V hzf s3, dNe, r8_told (n := n) (by omega) vr dr d0 u, hv_b2_e]
          · rw [l3 0 (by decide) (by decide)]
            exact e0
        · by_cases hs : fN (fSp F P B O).length v
          · obtain ⟨i, hil, rfl⟩ := hs
            have sp := (x5_isSpare (n := n) hm2 hm13 (nI i)).1 ⟨i, hil, rfl⟩
            have so := (x5_stateOf (n := n) hB hm2 hm13 (k := i) hb (v := uU F P B O A e i b)).1 hil (hU i b hil hb)
            have ub := uU_bd hi hzf ht.2.2.1 (e := 1) (Or.inl rfl) hil b
            have ur : rL (uU F P B O A 1 i b) := rL_of (Nat.le_trans ub (by decide))
            obtain ⟨τ', t1, t2⟩ := tl_pm he (n := n) (by omega) (σ := τX) ur dr d0 u
            have aB : (fSp F P B O).getD i 0 < B := (fSp_mem.mp (getD_mem hil)).1.1
            obtain ⟨τ, l1, l2, l3, l4, l5, l6⟩ := r8_laysUnit (n := n) (by omega) hi hzE hzf.1 aB (Or.inl rfl)
            have spa : mX8_spareAt n τM (nI i) = some (nI ((fSp F P B O).getD i 0), τM) := by
              have q := r8_spAt (n := n) hB (m2.1.2.1.trans hi.2.1.1) (show Es < 2 ^ 31 by have := p2048 hB s5; omega) s4 (show i < 2 ^ 31 by omega) B 0 n (by omega) (by omega) (Nat.zero_le _)
              rw [fSp_Es s6, if_pos hil] at q
              exact q
            refine ⟨τ', τ, ⟨hi, rX_1 x1 (fun j _ => by rw [t2]), l2.1⟩, Or.inl ⟨iL (tlN (uU F P B O A 1 i b) (md_dt (fR F P) A (fN' F P)) (if u = 0 then uU F P B O A 1 i b else md_dt (fR F P) A (fN' F P))), ?_, ?_, ?_⟩⟩
            · rw [e7, if_neg v1, sp, hv_b2_e, if_neg (by decide)]
              unfold kX7_state_48 kX7_state_53
              rw [need_1, so, hv_b2_e, sc, uU_e, t1, hv_b2_e]
            · rw [e8']
              unfold kX8_state_38 kX8_state_58 kX8_state_77 kX8_state_82
              rw [if_neg (by decide), if_neg (nI_pos (by omega)), spa, hv_b2_e, if_neg (by decide), if_neg v1, if_neg (nI_n1 (by omega)), hv_let_e, e0, if_pos (by decide), if_neg v1, l1, hv_bd_e, hv_if_t (hv_ok_nI (show b < 11 by omega) (by decide)), nI_clamp (by omega), l5 b (by omega), l4, yS_U hzf s3 hil, dNe, r8_told (n := n) (by omega) ur dr d0 u, hv_b2_e]
            · rw [l3 0 (by decide)]
              exact e0
          · have sp := (x5_isSpare (n := n) hm2 hm13 v).2 hs
            obtain ⟨q1, q2, q3⟩ := no τX τM (-1) x1 m2
            refine ⟨τX, _, q2, Or.inr ⟨0, ?_, ?_, q3⟩⟩
            · rw [e7, if_neg v1, sp, hv_b2_e, if_pos rfl]
              unfold kX7_state_52 kX7_state_53
              rw [need_0]
            · rw [e8']
              unfold kX8_state_38 kX8_state_57
              have e58 : kX8_state_58 n τM v (nI b) u 1 (-1) = some (0, hv_sI τM 0 0 1) := by
                unfold kX8_state_58
                rw [if_neg (by decide), if_neg v1, if_pos rfl, q1]
              rw [if_neg (by decide)]
              by_cases vn : v < 0
              · rw [if_pos vn, e58]
              · obtain ⟨i, hi31, rfl⟩ := nI_of vn
                have hil : ¬ i < (fSp F P B O).length := fun z => hs ⟨i, z, rfl⟩
                have q := r8_spAt (n := n) hB (m2.1.2.1.trans hi.2.1.1) (show Es < 2 ^ 31 by have := p2048 hB s5; omega) s4 hi31 B 0 n (by omega) (by omega) (Nat.zero_le _)
                rw [fSp_Es s6, if_neg hil] at q
                have spa : mX8_spareAt n τM (nI i) = some (-1, τM) := q
                rw [if_neg vn, spa, hv_b2_e, e58]
      · refine hno τX τM x1 m2 ?_ ?_
        · unfold mX7_state kX7_state_52 kX7_state_53
          rw [c1, hv_b2_e, if_neg (by decide), oX', x4 hf, hv_b2_e, if_pos rfl, need_0]
        · rw [e8, (r8_isFirm hk4).2 hf, hv_b2_e, if_pos rfl]
    · refine hno σX σM hx hm ?_ ?_
      · unfold mX7_state kX7_state_52 kX7_state_53
        rw [(x3_isOn (by omega) bX w).2 (fun q => hon (on_iff.mp q).2), hv_b2_e, if_pos rfl, need_0]
      · unfold mX8_state
        rw [(r8_isBar (by omega) bM w).1 hw, hv_b2_e, if_neg (by decide), oM, (r8_isOn _ _).2 hon, hv_b2_e, if_pos rfl]
  · refine hno σX σM hx hm ?_ ?_
    · unfold mX7_state kX7_state_52 kX7_state_53
      rw [(x3_isOn (by omega) bX w).2 (fun q => hw (on_iff.mp q).1), hv_b2_e, if_pos rfl, need_0]
    · unfold mX8_state
      rw [(r8_isBar (by omega) bM w).2 hw, hv_b2_e, if_pos rfl]
