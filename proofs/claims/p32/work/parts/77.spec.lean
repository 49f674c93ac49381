/-! what the class answers, as numbers -/
theorem hv_by_s {τ ρ : Type} (t : τ) (σ : hv_St) (k0 : hv_St → Option ρ) (k1 : τ → hv_St → Option ρ) : hv_by (some (some t, σ)) k0 k1 = k1 t σ := rfl
theorem hv_by_n {τ ρ : Type} (σ : hv_St) (k0 : hv_St → Option ρ) (k1 : τ → hv_St → Option ρ) : hv_by (some (none, σ)) k0 k1 = k0 σ := rfl
theorem hv_ox_s {α ρ : Type} (x : α) (k0 : Option ρ) (k1 : α → Option ρ) : hv_ox (some x) k0 k1 = k1 x := rfl
theorem hv_ox_n {α ρ : Type} (k0 : Option ρ) (k1 : α → Option ρ) : hv_ox none k0 k1 = k0 := rfl
theorem bF_mk {F : Nat → Nat → Int32} {P B O D W : Nat} (hi : hI F P B O D W) {S : Nat} (hS : S < 2 ^ B) {z : Nat → Int} (hz : ∀ s, s < 12 → (z s).natAbs ≤ 9) {τ : hv_St} {k w : Int} (hk : k ≠ 0) (hkw : uSum F P B S = k * w) (ho : oX F P B S k w z τ) (hup : 0 < uSum F P B S) : ∃ τM, bF F P B S z τ τM := by
  obtain ⟨m1, m2, -⟩ := oX_m ho
  have hp := pc_leB hi.2.1.2 hS
  have hB := hi.2.1.2
  refine ⟨(fun _ _ => 0, fun q i => if q = 0 then iL (uSum F P B S) else iL (oSum F P B S z i)), ⟨k, w, hk, hkw, ho⟩, rfl, fun c _ => rfl, hup, uS_bd hi hS m1 m2 (by omega), fun c => oS_bd hi hS m1 m2 (by omega) hz c⟩
/-- O's bits and the cell -/
theorem on_cell {F : Nat → Nat → Int32} {P B O D W : Nat} (hi : hI F P B O D W) {σ : hv_St} (hx : rX F σ) (v : Int32) : fO B (σ.1 1 2) v ↔ ∃ b, v = nI b ∧ b < B ∧ O.testBit b = true := by
  have hB := hi.2.1.2
  have o31 : O < 2 ^ 31 := by have := p2048 hB hi.2.2.1.2; omega
  rw [hx.1.2.2.1.trans hi.2.2.1.1]
  constructor
  · rintro ⟨⟨b, hb, rfl⟩, h2⟩
    exact ⟨b, rfl, hb, (fB_iff o31 (by omega)).mp h2⟩
  · rintro ⟨b, rfl, hb, h2⟩
    exact ⟨⟨b, hb, rfl⟩, (fB_iff o31 (by omega)).mpr h2⟩
theorem x_pull1 {n : Nat} (hn : 2100 ≤ n) {F : Nat → Nat → Int32} {P B O D W : Nat} (hi : hI F P B O D W) {σ : hv_St} (hx : rX F σ) {b : Nat} (hb : b < B) (hon : O.testBit b = true) (hf : fFirm F P B O) (u : Int32) : ∃ τ, rX F τ ∧ mX7_pull n σ (nI b) u = some (some (iL (pv F P B O (ldz F) b u)), τ) := by
  have hB := hi.2.1.2
  have hO := hi.2.2.1
  have bX : σ.1 1 1 = nI B := hx.1.2.1.trans hi.2.1.1
  have oX' : σ.1 1 2 = nI O := hx.1.2.2.1.trans hO.1
  have c1 := (x3_isOn (n := n) (by omega) bX (nI b)).1 ((on_cell hi hx _).mpr ⟨b, rfl, hb, hon⟩)
  obtain ⟨τX, x1, x2, x3, x4⟩ := x7_bears hn hi hO.2 hx (Or.inl rfl) (ldX hi hx)
  obtain ⟨y1, y2, k, w, hk, hkw, ho⟩ := x3 hf
  obtain ⟨τM, y3⟩ := bF_mk hi hO.2 (fun s hs => (ldz_e hi hs).2) hk hkw ho y2
  obtain ⟨τ', t1, t2⟩ := tp_X hn hi hO.2 (fun s hs => (ldz_e hi hs).2) y3 hb hon u
  refine ⟨τ', rX_1 x1 (fun k _ => by rw [t2]), ?_⟩
  unfold mX7_pull kX7_pull_37
  rw [c1, hv_b2_e, if_neg (by decide), oX', y1, hv_b2_e, if_neg (by decide), need_1, t1, hv_b2_e]
theorem xp_pull {n : Nat} (hn : 2100 ≤ n) {F : Nat → Nat → Int32} {P B O D W : Nat} (hi : hI F P B O D W) {σ : hv_St} (hx : rX F σ) {b : Nat} (hb : b < B) (hon : O.testBit b = true) (hf : fFirm F P B O) : ∃ τ, rX F τ ∧ mQ_pull n σ (nI b) = some (some (frQ (oSum F P B O (ldz F) b) (uSum F P B O)), τ) := by
  obtain ⟨τ1, a1, a2⟩ := x_pull1 hn hi hx hb hon hf 0
  obtain ⟨τ2, b1, b2⟩ := x_pull1 hn hi a1 hb hon hf 1
  refine ⟨τ2, b1, ?_⟩
  unfold mQ_pull
  rw [a2, hv_by_s, b2, hv_by_s]
  unfold pv frQ
  rw [if_pos rfl, if_neg (by decide)]
theorem xp_pull0 {n : Nat} (hn : 2100 ≤ n) {F : Nat → Nat → Int32} {P B O D W : Nat} (hi : hI F P B O D W) {σ : hv_St} (hx : rX F σ) {v : Int32} (h : ¬ ((∃ b, v = nI b ∧ b < B ∧ O.testBit b = true) ∧ fFirm F P B O)) : ∃ τ, rX F τ ∧ mQ_pull n σ v = some (none, τ) := by
  have hB := hi.2.1.2
  have hO := hi.2.2.1
  have bX : σ.1 1 1 = nI B := hx.1.2.1.trans hi.2.1.1
  have oX' : σ.1 1 2 = nI O := hx.1.2.2.1.trans hO.1
  have key : ∃ τ, rX F τ ∧ mX7_pull n σ v 0 = some (none, τ) := by
    by_cases c : ∃ b, v = nI b ∧ b < B ∧ O.testBit b = true
    · have hf : ¬ fFirm F P B O := fun q => h ⟨c, q⟩
      have c1 := (x3_isOn (n := n) (by omega) bX v).1 ((on_cell hi hx _).mpr c)
      obtain ⟨τX, x1, x2, x3, x4⟩ := x7_bears hn hi hO.2 hx (Or.inl rfl) (ldX hi hx)
      refine ⟨τX, x1, ?_⟩
      unfold mX7_pull kX7_pull_36 kX7_pull_37
      rw [c1, hv_b2_e, if_neg (by decide), oX', x4 hf, hv_b2_e, if_pos rfl, need_0]
    · refine ⟨σ, hx, ?_⟩
      unfold mX7_pull kX7_pull_36 kX7_pull_37
      rw [(x3_isOn (n := n) (by omega) bX v).2 (fun q => c ((on_cell hi hx _).mp q)), hv_b2_e, if_pos rfl, need_0]
  obtain ⟨τ, t1, t2⟩ := key
  refine ⟨τ, t1, ?_⟩
  unfold mQ_pull
  rw [t2, hv_by_n]
/-- two bases' numbers are one -/
theorem v_uni {F : Nat → Nat → Int32} {P B S Eb Es : Nat} {A A' : Nat → md_V} (hE : fSe F P B S Eb Es) (h : zF F P B S A) (h' : zF F P B S A') (e : Int) : md_dt (fR F P) A' (fN' F P) = md_dt (fR F P) A (fN' F P) ∧ (∀ z b, vV F P B S A' e z b = vV F P B S A e z b) ∧ ∀ i b, i < (fSp F P B S).length → uU F P B S A' e i b = uU F P B S A e i b := by
  have m := hE.2.2.1
  refine ⟨?_, fun z b => ?_, fun i b hi => ?_⟩
  · rw [← dN_base h (fBase_Eb m), ← dN_base h' (fBase_Eb m)]
  · rw [vV_e, vV_e (A := A), ← yS_V h m, ← yS_V h' m]
  · rw [uU_e, uU_e (A := A), ← yS_U h m hi, ← yS_U h' m hi]
theorem pm_sq {e : Int} (he : e = 1 ∨ e = -1) : e ≠ 0 := by omega
/-- state: i = -1 the bare one -/
theorem x_state1 {n : Nat} (hn : 2100 ≤ n) {F : Nat → Nat → Int32} {P B O D W Eb Es : Nat} (hE : fSe F P B O Eb Es) (hi : hI F P B O D W) {σ : hv_St} (hx : rX F σ) {A : Nat → md_V} (hA : zF F P B O A) {b : Nat} (hb : b < B) (hon : O.testBit b = true) (hf : fFirm F P B O) (u : Int32) : (∃ τ, rX F τ ∧ mX7_state n σ (-1) (nI b) u = some (some (iL (tlN (vV F P B O A 1 (ldz F) b) (md_dt (fR F P) A (fN' F P)) (if u = 0 then vV F P B O A 1 (ldz F) b else md_dt (fR F P) A (fN' F P)))), τ)) ∧ ∀ i, i < (fSp F P B O).length → ∃ τ, rX F τ ∧ mX7_state n σ (nI i) (nI b) u = some (some (iL (tlN (uU F P B O A 1 i b) (md_dt (fR F P) A (fN' F P)) (if u = 0 then uU F P B O A 1 i b else md_dt (fR F P) A (fN' F P)))), τ) := by
  have hB := hi.2.1.2
  have hP := hi.1.2
  have hO := hi.2.2.1
  have o2 := p2048 hB hO.2
  have o31 : O < 2 ^ 31 := by omega
  have hlN : fN' F P ≤ 2 * P := fL_le F (2 * P)
  have bX : σ.1 1 1 = nI B := hx.1.2.1.trans hi.2.1.1
  have oX' : σ.1 1 2 = nI O := hx.1.2.2.1.trans hO.1
  have c1 := (x3_isOn (n := n) (by omega) bX (nI b)).1 ((on_cell hi hx _).mpr ⟨b, rfl, hb, hon⟩)
  obtain ⟨τX, x1, x2, x3, x4⟩ := x7_bears hn hi hO.2 hx (Or.inl rfl) (ldX hi hx)
  obtain ⟨y1, y2, k, q, y3, y4, A', e, y5, y6⟩ := x3 hf
  obtain ⟨ht, hzf, -, hm2, hpc, -, hm13, hU, -⟩ := y5
  obtain ⟨w1, w2, w3⟩ := v_uni hE hA hzf 1
  have d0 : md_dt (fR F P) A' (fN' F P) ≠ 0 := ht.2.1
  have d28 : (md_dt (fR F P) A' (fN' F P)).natAbs ≤ 2 ^ 28 := fXs_bd28 hi ht.2.2.1
  have dr : rL (md_dt (fR F P) A' (fN' F P)) := rL_of (Nat.le_trans d28 (by decide))
  have sc : τX.2 9 8 = iL (e * md_dt (fR F P) A' (fN' F P)) := ht.2.2.2.2.2.2.2.1
  have he := ht.1
  have hN11 : fN' F P ≤ 11 := by have := pc_leB hB hO.2; omega
  have e7 : ∀ v, mX7_state n σ v (nI b) u = if v = (-1 : Int32) then (kX7_state_48 n τX v (nI b) u) else (hv_b2 (mX5_isSpare n τX v) fun r42 s42 => if r42 = 0 then (kX7_state_52 n s42 v (nI b) u) else (kX7_state_48 n s42 v (nI b) u)) := fun v => by
    unfold mX7_state
    rw [c1, hv_b2_e, if_neg (by decide), oX', y1, hv_b2_e, if_neg (by decide)]
  constructor
  · have nsp : ¬ fN (fSp F P B O).length (-1) := fun z => ((fN_iff (by omega) _).mp z).1 (by decide)
    have so := (x5_stateOf (n := n) hB hm2 hm13 (k := 0) hb (v := vV F P B O A' e (ldz F) b)).2 (-1) nsp (y6 b hb)
    have vb := vV_bd hi hzf ht.2.2.1 hN11 (e := 1) (Or.inl rfl) (fun s hs => (ldz_e hi hs).2) b
    have vr : rL (vV F P B O A' 1 (ldz F) b) := rL_of (Nat.le_trans vb (by decide))
    obtain ⟨τ', t1, t2⟩ := tl_pm he (n := n) (by omega) (σ := τX) vr dr d0 u
    refine ⟨τ', rX_1 x1 (fun j _ => by rw [t2]), ?_⟩
    rw [e7, if_pos rfl]
    unfold kX7_state_48 kX7_state_53
    rw [need_1, so, hv_b2_e, sc, vV_e, t1, hv_b2_e, w1, w2]
  · intro i hil
    have v1 : ¬ nI i = (-1 : Int32) := nI_n1 (by omega)
    have sp := (x5_isSpare (n := n) hm2 hm13 (nI i)).1 ⟨i, hil, rfl⟩
    have so := (x5_stateOf (n := n) hB hm2 hm13 (k := i) hb (v := uU F P B O A' e i b)).1 hil (hU i b hil hb)
    have ub := uU_bd hi hzf ht.2.2.1 (e := 1) (Or.inl rfl) hil b
    have ur : rL (uU F P B O A' 1 i b) := rL_of (Nat.le_trans ub (by decide))
    obtain ⟨τ', t1, t2⟩ := tl_pm he (n := n) (by omega) (σ := τX) ur dr d0 u
    refine ⟨τ', rX_1 x1 (fun j _ => by rw [t2]), ?_⟩
    rw [e7, if_neg v1, sp, hv_b2_e, if_neg (by decide)]
    unfold kX7_state_48 kX7_state_53
    rw [need_1, so, hv_b2_e, sc, uU_e, t1, hv_b2_e, w1, w3 i b hil]
theorem xp_state {n : Nat} (hn : 2100 ≤ n) {F : Nat → Nat → Int32} {P B O D W Eb Es : Nat} (hE : fSe F P B O Eb Es) (hi : hI F P B O D W) {σ : hv_St} (hx : rX F σ) {A : Nat → md_V} (hA : zF F P B O A) (hd : md_dt (fR F P) A (fN' F P) ≠ 0) {e : Int} (he : e = 1 ∨ e = -1) {b : Nat} (hb : b < B) (hon : O.testBit b = true) (hf : fFirm F P B O) : (∃ τ, rX F τ ∧ mQ_state n σ (-1) (nI b) = some (some (frQ (vV F P B O A e (ldz F) b) (e * md_dt (fR F P) A (fN' F P))), τ)) ∧ ∀ i, i < (fSp F P B O).length → ∃ τ, rX F τ ∧ mQ_state n σ (nI i) (nI b) = some (some (frQ (uU F P B O A e i b) (e * md_dt (fR F P) A (fN' F P))), τ) := by
  have e0 := pm_sq he
  have sc : ∀ v : Int, frQ (e * v) (e * md_dt (fR F P) A (fN' F P)) = frQ v (md_dt (fR F P) A (fN' F P)) := fun v => frQ_eq (Int.mul_ne_zero e0 hd) hd (by grind)
  constructor
  · obtain ⟨τ1, a1, a2⟩ := (x_state1 hn hE hi hx hA hb hon hf 0).1
    obtain ⟨τ2, b1, b2⟩ := (x_state1 hn hE hi a1 hA hb hon hf 1).1
    refine ⟨τ2, b1, ?_⟩
    unfold mQ_state
    rw [a2, hv_by_s, b2, hv_by_s, vV_e (e := e), sc]
    unfold frQ
    rw [if_pos rfl, if_neg (by decide)]
  · intro i hil
    obtain ⟨τ1, a1, a2⟩ := (x_state1 hn hE hi hx hA hb hon hf 0).2 i hil
    obtain ⟨τ2, b1, b2⟩ := (x_state1 hn hE hi a1 hA hb hon hf 1).2 i hil
    refine ⟨τ2, b1, ?_⟩
    unfold mQ_state
    rw [a2, hv_by_s, b2, hv_by_s, uU_e (e := e), sc]
    unfold frQ
    rw [if_pos rfl, if_neg (by decide)]
theorem xp_state0 {n : Nat} (hn : 2100 ≤ n) {F : Nat → Nat → Int32} {P B O D W : Nat} (hi : hI F P B O D W) {σ : hv_St} (hx : rX F σ) {v w : Int32} (h : ¬ ((∃ b, w = nI b ∧ b < B ∧ O.testBit b = true) ∧ (v = -1 ∨ fN (fSp F P B O).length v))) : ∃ τ, rX F τ ∧ mQ_state n σ v w = some (none, τ) := by
  have hB := hi.2.1.2
  have hO := hi.2.2.1
  have bX : σ.1 1 1 = nI B := hx.1.2.1.trans hi.2.1.1
  have oX' : σ.1 1 2 = nI O := hx.1.2.2.1.trans hO.1
  have key : ∃ τ, rX F τ ∧ mX7_state n σ v w 0 = some (none, τ) := by
    by_cases c : ∃ b, w = nI b ∧ b < B ∧ O.testBit b = true
    · have h2 : ¬ (v = -1 ∨ fN (fSp F P B O).length v) := fun q => h ⟨c, q⟩
      have c1 := (x3_isOn (n := n) (by omega) bX w).1 ((on_cell hi hx _).mpr c)
      obtain ⟨τX, x1, x2, x3, x4⟩ := x7_bears hn hi hO.2 hx (Or.inl rfl) (ldX hi hx)
      refine ⟨τX, x1, ?_⟩
      by_cases hf : fFirm F P B O
      · obtain ⟨y1, y2, k, q, y3, y4, A', e, y5, y6⟩ := x3 hf
        obtain ⟨ht, hzf, -, hm2, hpc, -, hm13, hU, -⟩ := y5
        unfold mX7_state kX7_state_52 kX7_state_53
        rw [c1, hv_b2_e, if_neg (by decide), oX', y1, hv_b2_e, if_neg (by decide), if_neg (fun q => h2 (Or.inl q)), (x5_isSpare (n := n) hm2 hm13 v).2 (fun q => h2 (Or.inr q)), hv_b2_e, if_pos rfl, need_0]
      · unfold mX7_state kX7_state_52 kX7_state_53
        rw [c1, hv_b2_e, if_neg (by decide), oX', x4 hf, hv_b2_e, if_pos rfl, need_0]
    · refine ⟨σ, hx, ?_⟩
      unfold mX7_state kX7_state_52 kX7_state_53
      rw [(x3_isOn (n := n) (by omega) bX w).2 (fun q => c ((on_cell hi hx _).mp q)), hv_b2_e, if_pos rfl, need_0]
  obtain ⟨τ, t1, t2⟩ := key
  refine ⟨τ, t1, ?_⟩
  unfold mQ_state
  rw [t2, hv_by_n]
