/-! worst -/
theorem lg_le {a b : Int} (ha : rL a) (hb : rL b) : lg_cmp (iL a) (iL b) ≤ 0 ↔ a ≤ b := by
  have l := iL_lt (a := b) (b := a) hb ha
  unfold lg_cmp
  by_cases h1 : iL b < iL a
  · rw [if_pos h1]
    have := l.mp h1
    exact ⟨fun q => absurd q (by decide), fun q => by omega⟩
  · rw [if_neg h1]
    have h2 : ¬ b < a := fun q => h1 (l.mpr q)
    by_cases h3 : iL a = iL b
    · rw [if_pos h3]
      exact ⟨fun _ => by omega, fun _ => by decide⟩
    · rw [if_neg h3]
      exact ⟨fun _ => by omega, fun _ => by decide⟩
theorem nI_n1 {t : Nat} (h : t < 2 ^ 31) : nI t ≠ -1 := fun q => nI_pos h (by rw [q]; decide)
theorem fSt_at {D W t : Nat} (ht : t < 2 ^ 31) (hD : D ≤ 6) (hW : W ≤ 4) (d0 : 0 < D) (w0 : 0 < W) : fSt D W (nI t) ↔ t < D + W - 1 := by
  constructor
  · intro h
    obtain ⟨j, hj, q⟩ := h.2.2
    have := (nI_eq ht (by omega)).mp q
    omega
  · intro h
    exact ⟨d0, w0, t, h, rfl⟩
theorem wst {n : Nat} (hn : 2100 ≤ n) {F : Nat → Nat → Int32} {P B O D W : Nat} (hi : hI F P B O D W) (d0 : 0 < D) (w0 : 0 < W) (hf : fFirm F P B O) {k w : Int} {A : Nat → md_V} {e : Int} (hk : k ≠ 0) {c : Nat} (hc : c < B) (hcs : O.testBit c = true) : ∀ (d t fx fm : Nat) (σX σM : hv_St) (wo : Int32) (m M : Int), t + d = D + W - 1 → d < fx → d < fm → rX F σX → rM F σM → qA F P B O k w A e σX → ((wo = -1 ∧ m = -1 ∧ M = 0) ∨ (wo ≠ -1 ∧ 0 ≤ m ∧ M = k.natAbs * m ∧ m ≤ 2 ^ 57 ∧ M ≤ 2 ^ 57)) → ∃ r τX τM, kX7_worst_55 n fx σX (nI c) wo (iL m) (nI t) = some (r, τX) ∧ kX8_worst_41 n fm σM (nI c) wo (iL M) (nI t) = some (r, τM) ∧ rX F τX ∧ rM F τM := by
  have hB := hi.2.1.2
  have hO := hi.2.2.1
  have hD := hi.2.2.2.1
  have hW := hi.2.2.2.2.1
  have hD6 : D ≤ 6 := by have := hi.1.2; omega
  intro d
  induction d with
  | zero =>
    intro t fx fm σX σM wo m M h1 h2 h3 hx hm hq hw
    obtain ⟨fx, rfl⟩ : ∃ q, fx = q + 1 := ⟨fx - 1, by omega⟩
    obtain ⟨fm, rfl⟩ : ∃ q, fm = q + 1 := ⟨fm - 1, by omega⟩
    have ns : ¬ fSt D W (nI t) := fun q => by
      have := (fSt_at (by omega) hD6 hW.2 d0 w0).mp q
      omega
    refine ⟨wo, σX, σM, ?_, ?_, hx, hm⟩
    · show kX7_worst_55_b n _ _ _ _ _ _ = _
      unfold kX7_worst_55_b
      rw [if_neg (show ¬ (10 : Int32) ≤ nI t from nI_ge (b := 10) (by omega) (by decide)), (x6_stands (n := n) hD6 hW.2 (hx.1.2.2.2.1.trans hD.1) (hx.1.2.2.2.2.trans hW.1) (nI t)).2 ns, hv_b2_e, if_pos rfl]
    · show kX8_worst_41_b n _ _ _ _ _ _ = _
      unfold kX8_worst_41_b
      rw [(r8_isRide (n := n) hD6 hW.2 (hm.1.2.2.2.1.trans hD.1) (hm.1.2.2.2.2.trans hW.1) (nI t)).2 ns, hv_b2_e, if_pos rfl]
  | succ d ih =>
    intro t fx fm σX σM wo m M h1 h2 h3 hx hm hq hw
    obtain ⟨fx, rfl⟩ : ∃ q, fx = q + 1 := ⟨fx - 1, by omega⟩
    obtain ⟨fm, rfl⟩ : ∃ q, fm = q + 1 := ⟨fm - 1, by omega⟩
    have ys : fSt D W (nI t) := (fSt_at (by omega) hD6 hW.2 d0 w0).mpr (by omega)
    have zb : ∀ s, s < 12 → (zr F D t W s).natAbs ≤ 9 := fun s _ => zr_bd hi t s W (Nat.le_refl _)
    obtain ⟨g, g1, g2⟩ := x6_loadsAt (n := n) (by omega) hi hx (t := t) (by omega)
    have hq1 : qA F P B O k w A e (hv_wI σX 25 g) := qA_mono hB hi.1.2 hq (fun j hj => hv_wI_ne _ _ hj) (fun _ _ _ => rfl)
    obtain ⟨v, v1, v2, v3⟩ := x_bear (n := n) (by omega) hi hq1 (q := 25) (z := zr F D t W) (fun s hs => ⟨by rw [hv_wI_at]; exact g2 s hs, zb s hs⟩)
    obtain ⟨oc, o1, o2⟩ := over_of (n := n) (by omega) hi hO.2 zb ⟨A, e, v2, v3⟩ hc hcs
    obtain ⟨f, f1, f2⟩ := r8_rides (n := n) (by omega) hi hm (t := t) (by omega)
    have m2 := rM_16 hm f
    obtain ⟨τM, q1, -, -, -, q5, -⟩ := r8_bears hn hi hO.2 m2 zb (fun s hs => by rw [hv_wI_at]; exact f2 s hs)
    obtain ⟨y1, y2, y3⟩ := q5 hf
    have hx1 : rX F (hv_wJ (hv_wI σX 25 g) 14 v) := rX_1 (rX_25 hx g) (fun _ _ => rfl)
    have pl := pc_leB hB hO.2
    have ob : (oSum F P B O (zr F D t W) c).natAbs ≤ 2 ^ 57 := by
      obtain ⟨-, -, -, hm2, hpc, -⟩ := hq
      exact oS_bd hi hO.2 hm2 hpc (by omega) zb c
    have ocb : oc.natAbs ≤ 2 ^ 57 := Nat.le_trans (k_le hk o1) ob
    have eab : ((oSum F P B O (zr F D t W) c).natAbs : Int) = k.natAbs * (oc.natAbs : Int) := by
      rw [o1, Int.natAbs_mul]
      exact Int.natCast_mul _ _
    have rl1 : rL oc := rL_of (Nat.le_trans ocb (by decide))
    have rl2 : rL (oSum F P B O (zr F D t W) c) := rL_of (Nat.le_trans ob (by decide))
    have e7 : kX7_worst_55 n (fx + 1) σX (nI c) wo (iL m) (nI t) = if lg_cmp (iL (oc.natAbs : Int)) (iL m) ≤ 0 then kX7_worst_55 n fx (hv_wJ (hv_wI σX 25 g) 14 v) (nI c) wo (iL m) (nI (t + 1)) else kX7_worst_55 n fx (hv_wJ (hv_wI σX 25 g) 14 v) (nI c) (nI t) (iL (oc.natAbs : Int)) (nI (t + 1)) := by
      show kX7_worst_55_b n _ _ _ _ _ _ = _
      unfold kX7_worst_55_b kX7_worst_116
      rw [if_neg (show ¬ (10 : Int32) ≤ nI t from nI_ge (b := 10) (by omega) (by decide)), (x6_stands (n := n) hD6 hW.2 (hx.1.2.2.2.1.trans hD.1) (hx.1.2.2.2.2.trans hW.1) (nI t)).1 ys, hv_b2_e, if_neg (by decide), g1, hv_bd_e, v1, hv_bd_e, o2, hv_b2_e, iL_abs rl1, hv_let_e, nI_1]
    have e8 : kX8_worst_41 n (fm + 1) σM (nI c) wo (iL M) (nI t) = if wo = -1 then kX8_worst_41 n fm τM (nI c) (nI t) (iL ((oSum F P B O (zr F D t W) c).natAbs : Int)) (nI (t + 1)) else if lg_cmp (iL ((oSum F P B O (zr F D t W) c).natAbs : Int)) (iL M) ≤ 0 then kX8_worst_41 n fm τM (nI c) wo (iL M) (nI (t + 1)) else kX8_worst_41 n fm τM (nI c) (nI t) (iL ((oSum F P B O (zr F D t W) c).natAbs : Int)) (nI (t + 1)) := by
      show kX8_worst_41_b n _ _ _ _ _ _ = _
      unfold kX8_worst_41_b kX8_worst_101 kX8_worst_88 kX8_worst_101
      rw [(r8_isRide (n := n) hD6 hW.2 (hm.1.2.2.2.1.trans hD.1) (hm.1.2.2.2.2.trans hW.1) (nI t)).1 ys, hv_b2_e, if_neg (by decide), f1, hv_bd_e, m2.1.2.2.1.trans hO.1, y1, hv_b2_e, if_neg (by decide), hv_if_t (hv_ok_nI (show c < 11 by omega) (by decide)), hv_if_t (hv_ok_nI (show c < 11 by omega) (by decide)), nI_clamp (by omega), y3 c hc, r8_abs rl2, hv_b2_e, hv_b2_e, hv_if_t (hv_ok_nI (show c < 11 by omega) (by decide)), y3 c hc, r8_abs rl2, hv_b2_e, nI_1]
    have take : ∃ r τX τM', kX7_worst_55 n fx (hv_wJ (hv_wI σX 25 g) 14 v) (nI c) (nI t) (iL (oc.natAbs : Int)) (nI (t + 1)) = some (r, τX) ∧ kX8_worst_41 n fm τM (nI c) (nI t) (iL ((oSum F P B O (zr F D t W) c).natAbs : Int)) (nI (t + 1)) = some (r, τM') ∧ rX F τX ∧ rM F τM' := ih (t + 1) fx fm _ τM (nI t) _ _ (by omega) (by omega) (by omega) hx1 q1 v2 (Or.inr ⟨nI_n1 (by omega), by omega, eab, by omega, by omega⟩)
    rw [e7, e8]
    rcases hw with ⟨rfl, rfl, rfl⟩ | ⟨hw1, hw2, hw3, hw4, hw5⟩
    · rw [if_pos rfl, if_neg (fun q => by
        have := (lg_le (a := (oc.natAbs : Int)) (b := -1) (rL_of (by omega)) ⟨by decide, by decide⟩).mp q
        omega)]
      exact take
    · have kp : 0 < (k.natAbs : Int) := by omega
      have cmp : (oc.natAbs : Int) ≤ m ↔ ((oSum F P B O (zr F D t W) c).natAbs : Int) ≤ M := by
        rw [eab, hw3]
        exact ⟨fun q => Int.mul_le_mul_of_nonneg_left q (by omega), fun q => Int.le_of_mul_le_mul_left q kp⟩
      have l1 := lg_le (a := (oc.natAbs : Int)) (b := m) (rL_of (by omega)) (rL_of (by omega))
      have hM0 : 0 ≤ M := by rw [hw3]; exact Int.mul_nonneg (by omega) hw2
      have l2 := lg_le (a := ((oSum F P B O (zr F D t W) c).natAbs : Int)) (b := M) (rL_of (by omega)) (rL_of (by omega))
      rw [if_neg hw1]
      by_cases q : (oc.natAbs : Int) ≤ m
      · rw [if_pos (l1.mpr q), if_pos (l2.mpr (cmp.mp q))]
        exact ih (t + 1) fx fm _ τM wo m M (by omega) (by omega) (by omega) hx1 q1 v2 (Or.inr ⟨hw1, hw2, hw3, hw4, hw5⟩)
      · rw [if_neg (fun z => q (l1.mp z)), if_neg (fun z => q (cmp.mpr (l2.mp z)))]
        exact take
theorem op_worst {n : Nat} (hn : 2100 ≤ n) {F : Nat → Nat → Int32} {P B O D W : Nat} {σX σM : hv_St} (h : hR F P B O D W σX σM) (v : Int32) : ∃ r σX' σM', mX7_worst n σX v = some (r, σX') ∧ mX8_worst n σM v = some (r, σM') ∧ hR F P B O D W σX' σM' := by
  obtain ⟨hi, hx, hm⟩ := h
  have hB := hi.2.1.2
  have hP := hi.1.2
  have hO := hi.2.2.1
  have hD := hi.2.2.2.1
  have hW := hi.2.2.2.2.1
  have o31 : O < 2 ^ 31 := by have := p2048 hB hO.2; omega
  have bX : σX.1 1 1 = nI B := hx.1.2.1.trans hi.2.1.1
  have oX' : σX.1 1 2 = nI O := hx.1.2.2.1.trans hO.1
  have dX : σX.1 22 0 = nI D := hx.1.2.2.2.1.trans hD.1
  have wX : σX.1 22 1 = nI W := hx.1.2.2.2.2.trans hW.1
  have m1 := rM0 hm
  have bM : (hv_sI σM 0 0 0).1 0 6 = nI B := m1.1.2.1.trans hi.2.1.1
  have oM : (hv_sI σM 0 0 0).1 0 11 = nI O := m1.1.2.2.1.trans hO.1
  have dM : (hv_sI σM 0 0 0).1 0 13 = nI D := m1.1.2.2.2.1.trans hD.1
  have wM : (hv_sI σM 0 0 0).1 0 15 = nI W := m1.1.2.2.2.2.trans hW.1
  have sX := x6_stands (n := n) (by omega) hW.2 dX wX (0 : Int32)
  have sM' := r8_isRide (n := n) (by omega) hW.2 dM wM (0 : Int32)
  have on_iff : fO B (σX.1 1 2) v ↔ fN B v ∧ fB (nI O) v := by rw [oX']; rfl
  by_cases hv : fN B v
  · by_cases hon : fB (nI O) v
    · have c1 := (x3_isOn (n := n) (by omega) bX v).1 (on_iff.mpr ⟨hv, hon⟩)
      by_cases hs : fSt D W (0 : Int32)
      · obtain ⟨b, hb, rfl⟩ := hv
        have hbs : O.testBit b = true := (fB_iff o31 (by omega)).mp hon
        have zb : ∀ s, s < 12 → (zr F D 0 W s).natAbs ≤ 9 := fun s _ => zr_bd hi 0 s W (Nat.le_refl _)
        obtain ⟨g, g1, g2⟩ := x6_loadsAt (n := n) (by omega) hi hx (t := 0) (by omega)
        obtain ⟨τX, x1, x2, x3, x4⟩ := x7_bears hn hi hO.2 (rX_25 hx g) (Or.inr rfl) (z := zr F D 0 W) (fun s hs => ⟨by rw [hv_wI_at]; exact g2 s hs, zb s hs⟩)
        have e8 : mX8_worst n σM (nI b) = kX8_worst_41 n n (hv_sI σM 0 0 0) (nI b) (-1) (0 : Int64) (0 : Int32) := by
          unfold mX8_worst
          rw [hv_let_e, (r8_isBar (by omega) bM (nI b)).1 ⟨b, hb, rfl⟩, hv_b2_e, if_neg (by decide), oM, (r8_isOn _ _).1 hon, hv_b2_e, if_neg (by decide), sM'.1 hs, hv_b2_e, if_neg (by decide)]
        by_cases hf : fFirm F P B O
        · obtain ⟨y1, y2, k, w, y3, y4, A, e, y5, -⟩ := x3 hf
          obtain ⟨r, τX', τM, r1, r2, r3, r4⟩ := wst hn hi hs.1 hs.2.1 hf (k := k) (w := w) (A := A) (e := e) y3 hb hbs (D + W - 1) 0 n n τX (hv_sI σM 0 0 0) (-1) (-1) 0 (by omega) (by omega) (by omega) x1 m1 y5 (Or.inl ⟨rfl, rfl, rfl⟩)
          refine ⟨r, τX', τM, ?_, e8.trans r2, hi, r3, r4⟩
          unfold mX7_worst
          rw [c1, hv_b2_e, if_neg (by decide), sX.1 hs, hv_b2_e, if_neg (by decide), show mX6_loadsAt n σX (0 : Int32) = _ from g1, hv_bd_e, oX', y1, hv_b2_e, if_neg (by decide)]
          exact r1
        · obtain ⟨f, f1, f2⟩ := r8_rides (n := n) (by omega) hi m1 (t := 0) (by omega)
          have m2 := rM_16 m1 f
          obtain ⟨τM, q1, -, -, -, -, q6⟩ := r8_bears hn hi hO.2 m2 zb (fun s hs => by rw [hv_wI_at]; exact f2 s hs)
          refine ⟨-1, τX, τM, ?_, ?_, hi, x1, q1⟩
          · unfold mX7_worst
            rw [c1, hv_b2_e, if_neg (by decide), sX.1 hs, hv_b2_e, if_neg (by decide), show mX6_loadsAt n σX (0 : Int32) = _ from g1, hv_bd_e, oX', x4 hf, hv_b2_e, if_pos rfl]
          · rw [e8]
            obtain ⟨fm, hfm⟩ : ∃ q, n = q + 1 := ⟨n - 1, by omega⟩
            have : kX8_worst_41 n (fm + 1) (hv_sI σM 0 0 0) (nI b) (-1) (0 : Int64) (0 : Int32) = some (-1, τM) := by
              show kX8_worst_41_b n _ _ _ _ _ _ = _
              unfold kX8_worst_41_b
              rw [sM'.1 hs, hv_b2_e, if_neg (by decide), show mX8_rides n (hv_sI σM 0 0 0) (0 : Int32) = _ from f1, hv_bd_e, m2.1.2.2.1.trans hO.1, q6 hf, hv_b2_e, if_pos rfl]
            rw [← hfm] at this
            exact this
      · refine ⟨-1, σX, hv_sI σM 0 0 0, ?_, ?_, hi, hx, m1⟩
        · unfold mX7_worst
          rw [c1, hv_b2_e, if_neg (by decide), sX.2 hs, hv_b2_e, if_pos rfl]
        · unfold mX8_worst
          rw [hv_let_e, (r8_isBar (by omega) bM v).1 hv, hv_b2_e, if_neg (by decide), oM, (r8_isOn _ _).1 hon, hv_b2_e, if_neg (by decide), sM'.2 hs, hv_b2_e, if_pos rfl]
    · refine ⟨-1, σX, hv_sI σM 0 0 0, ?_, ?_, hi, hx, m1⟩
      · unfold mX7_worst
        rw [(x3_isOn (by omega) bX v).2 (fun q => hon (on_iff.mp q).2), hv_b2_e, if_pos rfl]
      · unfold mX8_worst
        rw [hv_let_e, (r8_isBar (by omega) bM v).1 hv, hv_b2_e, if_neg (by decide), oM, (r8_isOn _ _).2 hon, hv_b2_e, if_pos rfl]
  · refine ⟨-1, σX, hv_sI σM 0 0 0, ?_, ?_, hi, hx, m1⟩
    · unfold mX7_worst
      rw [(x3_isOn (by omega) bX v).2 (fun q => hv (on_iff.mp q).1), hv_b2_e, if_pos rfl]
    · unfold mX8_worst
      rw [hv_let_e, (r8_isBar (by omega) bM v).2 hv, hv_b2_e, if_pos rfl]
