/-! the train: where it stands, its loads; riding -/
def fSt (D W : Nat) (t : Int32) : Prop := 0 < D ∧ 0 < W ∧ fN (D + W - 1) t
theorem x6_stands {n : Nat} {σ : hv_St} {D W : Nat} (hD : D ≤ 6) (hW : W ≤ 4) (h1 : σ.1 22 0 = nI D) (h2 : σ.1 22 1 = nI W) (t : Int32) : (fSt D W t → mX6_stands n σ t = some (1, σ)) ∧ (¬ fSt D W t → mX6_stands n σ t = some (0, σ)) := by
  unfold mX6_stands kX6_stands_37
  rw [h1, h2]
  by_cases d0 : D = 0
  · rw [d0, if_pos (show nI 0 ≤ 0 by decide)]
    exact ⟨fun h => absurd h.1 (by omega), fun _ => rfl⟩
  · rw [if_neg (nI_nle (by omega) (by omega))]
    by_cases w0 : W = 0
    · rw [w0, if_pos (show nI 0 ≤ 0 by decide)]
      exact ⟨fun h => absurd h.2.1 (by omega), fun _ => rfl⟩
    · rw [if_neg (nI_nle (by omega) (by omega)), nI_add, show (2 : Int32) = nI 2 from rfl, pk_sub (by omega)]
      by_cases c1 : t < 0
      · rw [if_pos c1]
        exact ⟨fun h => absurd c1 ((fN_iff (by omega) t).mp h.2.2).1, fun _ => rfl⟩
      · rw [if_neg c1]
        obtain ⟨j, hj, rfl⟩ := nI_of c1
        have e : nI (D + W - 2) < nI j ↔ D + W - 2 < j := nI_ltI (by omega) hj
        by_cases c2 : D + W - 2 < j
        · rw [if_pos (e.mpr c2)]
          refine ⟨fun h => ?_, fun _ => rfl⟩
          obtain ⟨i, hi, q⟩ := h.2.2
          have := (nI_eq hj (by omega)).mp q
          omega
        · rw [if_neg (fun q => c2 (e.mp q))]
          exact ⟨fun _ => rfl, fun h => absurd ⟨by omega, by omega, j, by omega, rfl⟩ h⟩
theorem r8_isRide {n : Nat} {σ : hv_St} {D W : Nat} (hD : D ≤ 6) (hW : W ≤ 4) (h1 : σ.1 0 13 = nI D) (h2 : σ.1 0 15 = nI W) (t : Int32) : (fSt D W t → mX8_isRide n σ t = some (1, σ)) ∧ (¬ fSt D W t → mX8_isRide n σ t = some (0, σ)) := by
  unfold mX8_isRide kX8_isRide_39
  rw [h1, h2]
  by_cases d0 : D = 0
  · rw [d0, if_pos (show nI 0 ≤ 0 by decide)]
    exact ⟨fun h => absurd h.1 (by omega), fun _ => rfl⟩
  · rw [if_neg (nI_nle (by omega) (by omega))]
    by_cases w0 : W = 0
    · rw [w0, if_pos (show nI 0 ≤ 0 by decide)]
      exact ⟨fun h => absurd h.2.1 (by omega), fun _ => rfl⟩
    · have ep : nI (D + W - 1) - 1 = nI (D + W - 2) := by
        have := nI_pred (D + W - 2)
        rw [show D + W - 2 + 1 = D + W - 1 by omega] at this
        exact this
      have hx := fN_in (N := D + W - 1) (by omega) t
      rw [ep] at hx
      rw [if_neg (nI_nle (by omega) (by omega)), nI_add, show (2 : Int32) = nI 2 from rfl, pk_sub (by omega), show (0 : Int64) = (0 : Int32).toInt64 from rfl, r8_in32, hv_b2_e]
      by_cases c : fN (D + W - 1) t
      · rw [if_pos (hx.mp c), if_neg (by decide)]
        exact ⟨fun _ => rfl, fun h => absurd ⟨by omega, by omega, c⟩ h⟩
      · rw [if_neg (fun q => c (hx.mpr q)), if_pos rfl]
        exact ⟨fun h => absurd h.2.2 c, fun _ => rfl⟩
/-- the train's loads at t, behind k weights -/
def zr (F : Nat → Nat → Int32) (D t : Nat) : Nat → Nat → Int
  | 0 => fun _ => 0
  | i + 1 => if i ≤ t ∧ t - i < D then (fun s => if s = 2 * (F 9 (t - i)).toNatClampNeg + 1 then -((F 10 i).toInt) else zr F D t i s) else zr F D t i
theorem zr_wt {F : Nat → Nat → Int32} {P B O D W : Nat} (hi : hI F P B O D W) {i : Nat} (h : i < W) : F 10 i = iI (F 10 i).toInt ∧ 1 ≤ (F 10 i).toInt ∧ (F 10 i).toInt ≤ 9 := by
  obtain ⟨w, e, w1, w2⟩ := hi.2.2.2.2.2.2.2.2.2.2.2 i h
  refine ⟨iI_of _, ?_, ?_⟩ <;> · rw [e, nI_toInt (by omega)]; omega
theorem zr_pin {F : Nat → Nat → Int32} {P B O D W : Nat} (hi : hI F P B O D W) {i : Nat} (h : i < D) : F 9 i = nI (F 9 i).toNatClampNeg ∧ (F 9 i).toNatClampNeg < 6 := by
  have hP := hi.1.2
  have q := fN_e (by omega) (hi.2.2.2.2.2.2.2.2.2.1 i h)
  exact ⟨q.1, by omega⟩
theorem zr_bd {F : Nat → Nat → Int32} {P B O D W : Nat} (hi : hI F P B O D W) (t s : Nat) : ∀ i, i ≤ W → (zr F D t i s).natAbs ≤ 9
  | 0, _ => by
    show (0 : Int).natAbs ≤ 9
    decide
  | i + 1, h => by
    have q := zr_bd hi t s i (by omega)
    have w := zr_wt hi (show i < W by omega)
    show ((if i ≤ t ∧ t - i < D then (fun s => if s = 2 * (F 9 (t - i)).toNatClampNeg + 1 then -((F 10 i).toInt) else zr F D t i s) else zr F D t i) s).natAbs ≤ 9
    by_cases c : i ≤ t ∧ t - i < D
    · rw [if_pos c]
      by_cases e : s = 2 * (F 9 (t - i)).toNatClampNeg + 1
      · rw [if_pos e]; omega
      · rw [if_neg e]; exact q
    · rw [if_neg c]
      exact q
theorem sub_cases {t i D : Nat} (ht : t < 100) (hi : i < 100) (hD : D < 100) : (i ≤ t → ¬ nI t - nI i < 0 ∧ (nI D ≤ nI t - nI i ↔ D ≤ t - i) ∧ nI t - nI i = nI (t - i)) ∧ (t < i → nI t - nI i < 0) := by
  refine ⟨fun h => ?_, fun h => pk_sneg (by omega) h⟩
  rw [pk_sub h]
  exact ⟨nI_pos (by omega), nI_leI (by omega) (by omega), rfl⟩
theorem x6_lAt {n : Nat} {F : Nat → Nat → Int32} {P B O D W : Nat} (hi : hI F P B O D W) {σ : hv_St} (hx : rX F σ) {t : Nat} (ht : t < 100) : ∀ (d i fuel : Nat) (g : Nat → Int32), i + d = W → d < fuel → (∀ s, s < 12 → g s = iI (zr F D t i s)) → ∃ g', kX6_loadsAt_6 n fuel (hv_wI σ 25 g) (nI t) (nI i) = some (hv_wI σ 25 g') ∧ ∀ s, s < 12 → g' s = iI (zr F D t W s) := by
  have hW := hi.2.2.2.2.1
  have hD := hi.2.2.2.1
  have hP := hi.1.2
  have dX : σ.1 22 0 = nI D := hx.1.2.2.2.1.trans hD.1
  have wX : σ.1 22 1 = nI W := hx.1.2.2.2.2.trans hW.1
  intro d
  induction d with
  | zero =>
    intro i fuel g h1 h2 h3
    obtain ⟨fuel, rfl⟩ : ∃ q, fuel = q + 1 := ⟨fuel - 1, by omega⟩
    obtain rfl : i = W := by omega
    refine ⟨g, ?_, h3⟩
    show kX6_loadsAt_6_b n _ _ _ _ = _
    unfold kX6_loadsAt_6_b
    rw [hv_wI_ne _ _ (show 22 ≠ 25 by decide), wX, if_pos (nI_le (Nat.le_refl _) (by omega))]
  | succ d ih =>
    intro i fuel g h1 h2 h3
    obtain ⟨fuel, rfl⟩ : ∃ q, fuel = q + 1 := ⟨fuel - 1, by omega⟩
    have sc := sub_cases (t := t) (i := i) (D := D) ht (by omega) (by omega)
    have wt := zr_wt hi (show i < W by omega)
    have ez : zr F D t (i + 1) = if i ≤ t ∧ t - i < D then (fun s => if s = 2 * (F 9 (t - i)).toNatClampNeg + 1 then -((F 10 i).toInt) else zr F D t i s) else zr F D t i := rfl
    have skip : ¬ (i ≤ t ∧ t - i < D) → kX6_loadsAt_6 n (fuel + 1) (hv_wI σ 25 g) (nI t) (nI i) = kX6_loadsAt_6 n fuel (hv_wI σ 25 g) (nI t) (nI (i + 1)) := fun hn => by
      show kX6_loadsAt_6_b n _ _ _ _ = _
      unfold kX6_loadsAt_6_b kX6_loadsAt_52
      rw [hv_wI_ne _ _ (show 22 ≠ 25 by decide), wX, dX, if_neg (nI_ge (by omega) (by omega)), hv_let_e, nI_1]
      by_cases c : i ≤ t
      · rw [if_neg (sc.1 c).1, if_pos ((sc.1 c).2.1.mpr (by omega))]
      · rw [if_pos (sc.2 (by omega))]
    by_cases c : i ≤ t ∧ t - i < D
    · have pn := zr_pin hi c.2
      obtain ⟨g', k1, k2⟩ := ih (i + 1) fuel (upd g (2 * (F 9 (t - i)).toNatClampNeg + 1) (iI (-((F 10 i).toInt)))) (by omega) (by omega) (fun s hs => by
        rw [ez, if_pos c]
        by_cases e : s = 2 * (F 9 (t - i)).toNatClampNeg + 1
        · rw [if_pos e, e, pk_us]
        · rw [if_neg e, pk_un e]
          exact h3 s hs)
      refine ⟨g', ?_, k2⟩
      rw [← k1]
      show kX6_loadsAt_6_b n _ _ _ _ = _
      unfold kX6_loadsAt_6_b kX6_loadsAt_52
      have e23 : (hv_wI σ 25 g).1 23 (t - i) = nI (F 9 (t - i)).toNatClampNeg := by
        rw [hv_wI_ne _ _ (by decide), hx.2.2.2.2.2.1 (t - i) (by omega)]
        exact pn.1
      have e24 : (hv_wI σ 25 g).1 24 i = iI (F 10 i).toInt := by
        rw [hv_wI_ne _ _ (by decide), hx.2.2.2.2.2.2 i (by omega)]
        exact wt.1
      rw [hv_wI_ne _ _ (show 22 ≠ 25 by decide), wX, dX, if_neg (nI_ge (by omega) (by omega)), hv_let_e, if_neg (sc.1 c.1).1, if_neg (fun q => by have := (sc.1 c.1).2.1.mp q; omega), (sc.1 c.1).2.2, nI_clamp (show t - i < 2 ^ 31 by omega), e23, nI_2, nI_1, nI_1, hv_if_t (hv_ok_nI (show t - i < 6 by omega) (by decide)), hv_if_t (hv_ok_nI (show i < 4 by omega) (by decide)), hv_if_t (hv_ok_nI (show 2 * (F 9 (t - i)).toNatClampNeg + 1 < 12 by omega) (by decide)), nI_clamp (show i < 2 ^ 31 by omega), e24, iI_neg, hv_let_e, nI_clamp (by omega), hv_sI_wI]
    · obtain ⟨g', k1, k2⟩ := ih (i + 1) fuel g (by omega) (by omega) (by rw [ez, if_neg c]; exact h3)
      exact ⟨g', (skip c).trans k1, k2⟩
theorem x6_loadsAt {n : Nat} (hn : 20 < n) {F : Nat → Nat → Int32} {P B O D W : Nat} (hi : hI F P B O D W) {σ : hv_St} (hx : rX F σ) {t : Nat} (ht : t < 100) : ∃ g, mX6_loadsAt n σ (nI t) = some (hv_wI σ 25 g) ∧ ∀ s, s < 12 → g s = iI (zr F D t W s) := by
  have hW := hi.2.2.2.2.1
  obtain ⟨f, f1, f2⟩ := x6_clearLoads (n := n) hn (σ := σ)
  obtain ⟨g, g1, g2⟩ := x6_lAt (n := n) hi hx ht W 0 n f (by omega) (by omega) (fun s hs => by rw [f2 s hs]; rfl)
  refine ⟨g, ?_, g2⟩
  unfold mX6_loadsAt
  rw [f1, hv_bd_e]
  exact g1
theorem r8_rid {n : Nat} {F : Nat → Nat → Int32} {P B O D W : Nat} (hi : hI F P B O D W) {σ : hv_St} (hm : rM F σ) {t : Nat} (ht : t < 100) : ∀ (d i fuel : Nat) (g : Nat → Int32), i + d = W → d < fuel → (∀ s, s < 12 → g s = iI (zr F D t i s)) → ∃ g', kX8_rides_6 n fuel (hv_wI σ 16 g) (nI t) (nI i) = some (hv_wI σ 16 g') ∧ ∀ s, s < 12 → g' s = iI (zr F D t W s) := by
  have hW := hi.2.2.2.2.1
  have hD := hi.2.2.2.1
  have hP := hi.1.2
  have dM : σ.1 0 13 = nI D := hm.1.2.2.2.1.trans hD.1
  have wM : σ.1 0 15 = nI W := hm.1.2.2.2.2.trans hW.1
  intro d
  induction d with
  | zero =>
    intro i fuel g h1 h2 h3
    obtain ⟨fuel, rfl⟩ : ∃ q, fuel = q + 1 := ⟨fuel - 1, by omega⟩
    obtain rfl : i = W := by omega
    refine ⟨g, ?_, h3⟩
    show kX8_rides_6_b n _ _ _ _ = _
    unfold kX8_rides_6_b
    rw [hv_wI_ne _ _ (show 0 ≠ 16 by decide), wM, if_pos (nI_le (Nat.le_refl _) (by omega))]
  | succ d ih =>
    intro i fuel g h1 h2 h3
    obtain ⟨fuel, rfl⟩ : ∃ q, fuel = q + 1 := ⟨fuel - 1, by omega⟩
    have sc := sub_cases (t := t) (i := i) (D := D) ht (by omega) (by omega)
    have wt := zr_wt hi (show i < W by omega)
    have ez : zr F D t (i + 1) = if i ≤ t ∧ t - i < D then (fun s => if s = 2 * (F 9 (t - i)).toNatClampNeg + 1 then -((F 10 i).toInt) else zr F D t i s) else zr F D t i := rfl
    have hin : mX8_in n (hv_wI σ 16 g) ((nI t - nI i).toInt64) (0 : Int64) ((nI D - (1 : Int32)).toInt64) = some (if i ≤ t ∧ t - i < D then 1 else 0, hv_wI σ 16 g) := by
      rw [show (0 : Int64) = (0 : Int32).toInt64 from rfl, r8_in32]
      have hx := fN_in (N := D) (by omega) (nI t - nI i)
      by_cases c : i ≤ t
      · rw [(sc.1 c).2.2] at hx ⊢
        by_cases c2 : t - i < D
        · rw [if_pos (hx.mp ⟨t - i, c2, rfl⟩), if_pos ⟨c, c2⟩]
        · rw [if_neg (fun q => by
            obtain ⟨k, hk, e⟩ := hx.mpr q
            have := (nI_eq (by omega) (by omega)).mp e
            omega), if_neg (fun q => c2 q.2)]
      · rw [if_neg (fun q => by
          have q1 := sc.2 (by omega)
          exact absurd q1 (Int32.not_lt.mpr q.1)), if_neg (fun q => c q.1)]
    by_cases c : i ≤ t ∧ t - i < D
    · have pn := zr_pin hi c.2
      obtain ⟨g', k1, k2⟩ := ih (i + 1) fuel (upd g (2 * (F 9 (t - i)).toNatClampNeg + 1) (iI (-((F 10 i).toInt)))) (by omega) (by omega) (fun s hs => by
        rw [ez, if_pos c]
        by_cases e : s = 2 * (F 9 (t - i)).toNatClampNeg + 1
        · rw [if_pos e, e, pk_us]
        · rw [if_neg e, pk_un e]
          exact h3 s hs)
      refine ⟨g', ?_, k2⟩
      rw [← k1]
      show kX8_rides_6_b n _ _ _ _ = _
      unfold kX8_rides_6_b kX8_rides_56
      have e9 : (hv_wI σ 16 g).1 9 (t - i) = nI (F 9 (t - i)).toNatClampNeg := by
        rw [hv_wI_ne _ _ (by decide), hm.2 9 (by decide) (by decide)]
        exact pn.1
      have e10 : (hv_wI σ 16 g).1 10 i = iI (F 10 i).toInt := by
        rw [hv_wI_ne _ _ (by decide), hm.2 10 (by decide) (by decide)]
        exact wt.1
      rw [hv_wI_ne _ _ (show 0 ≠ 16 by decide), wM, dM, if_neg (nI_ge (by omega) (by omega)), hin, if_pos c, hv_b2_e, if_neg (by decide), (sc.1 c.1).2.2, nI_clamp (show t - i < 2 ^ 31 by omega), e9, nI_2, nI_1, nI_1, hv_if_t (hv_ok_nI (show t - i < 6 by omega) (by decide)), hv_if_t (hv_ok_nI (show i < 4 by omega) (by decide)), hv_if_t (hv_ok_nI (show 2 * (F 9 (t - i)).toNatClampNeg + 1 < 12 by omega) (by decide)), nI_clamp (show i < 2 ^ 31 by omega), e10, iI_neg, hv_let_e, nI_clamp (by omega), hv_sI_wI]
    · obtain ⟨g', k1, k2⟩ := ih (i + 1) fuel g (by omega) (by omega) (by rw [ez, if_neg c]; exact h3)
      refine ⟨g', ?_, k2⟩
      rw [← k1]
      show kX8_rides_6_b n _ _ _ _ = _
      unfold kX8_rides_6_b kX8_rides_56
      rw [hv_wI_ne _ _ (show 0 ≠ 16 by decide), wM, dM, if_neg (nI_ge (by omega) (by omega)), hin, if_neg c, hv_b2_e, if_pos rfl, nI_1]
theorem r8_rides {n : Nat} (hn : 20 < n) {F : Nat → Nat → Int32} {P B O D W : Nat} (hi : hI F P B O D W) {σ : hv_St} (hm : rM F σ) {t : Nat} (ht : t < 100) : ∃ g, mX8_rides n σ (nI t) = some (hv_wI σ 16 g) ∧ ∀ s, s < 12 → g s = iI (zr F D t W s) := by
  have hW := hi.2.2.2.2.1
  obtain ⟨f, f1, f2⟩ := r8_takesNone (n := n) hn (σ := σ)
  obtain ⟨g, g1, g2⟩ := r8_rid (n := n) hi hm ht W 0 n f (by omega) (by omega) (fun s hs => by rw [f2 s hs]; rfl)
  refine ⟨g, ?_, g2⟩
  unfold mX8_rides
  rw [f1, hv_bd_e]
  exact g1
theorem op_riding {n : Nat} (hn : 2100 ≤ n) {F : Nat → Nat → Int32} {P B O D W : Nat} {σX σM : hv_St} (h : hR F P B O D W σX σM) (v p u : Int32) : hT F P B O D W (mX7_riding n σX v p u) (mX8_riding n σM v p u) := by
  obtain ⟨hi, hx, hm⟩ := h
  have hB := hi.2.1.2
  have hP := hi.1.2
  have hO := hi.2.2.1
  have hD := hi.2.2.2.1
  have hW := hi.2.2.2.2.1
  have o31 : O < 2 ^ 31 := by have := p2048 hB hO.2; omega
  have bX : σX.1 1 1 = nI B := hx.1.2.1.trans hi.2.1.1
  have oX' : σX.1 1 2 = nI O := hx.1.2.2.1.trans hO.1
  have dX : σX.1 22 0 = nI D := hx.1.2.2.2.1.trans hD.1
  have wX : σX.1 22 1 = nI W := hx.1.2.2.2.2.trans hW.1
  have m1 : rM F (hv_sI σM 0 0 1) := rM_sc hm (by decide) 1
  have e1 : (hv_sI σM 0 0 1).1 0 0 = 1 := by rw [hv_sI_rd, if_pos rfl]
  have bM : (hv_sI σM 0 0 1).1 0 6 = nI B := m1.1.2.1.trans hi.2.1.1
  have oM : (hv_sI σM 0 0 1).1 0 11 = nI O := m1.1.2.2.1.trans hO.1
  have dM : (hv_sI σM 0 0 1).1 0 13 = nI D := m1.1.2.2.2.1.trans hD.1
  have wM : (hv_sI σM 0 0 1).1 0 15 = nI W := m1.1.2.2.2.2.trans hW.1
  have sX := x6_stands (n := n) (by omega) hW.2 dX wX p
  have sM' := r8_isRide (n := n) (by omega) hW.2 dM wM p
  have hno : mX7_riding n σX v p u = some (none, σX) → mX8_riding n σM v p u = some (0, hv_sI σM 0 0 1) → hT F P B O D W (mX7_riding n σX v p u) (mX8_riding n σM v p u) := fun a b => ⟨σX, _, ⟨hi, hx, m1⟩, Or.inr ⟨0, a, b, e1⟩⟩
  have on_iff : fO B (σX.1 1 2) v ↔ fN B v ∧ fB (nI O) v := by rw [oX']; rfl
  by_cases hv : fN B v
  · by_cases hon : fB (nI O) v
    · have c1 := (x3_isOn (n := n) (by omega) bX v).1 (on_iff.mpr ⟨hv, hon⟩)
      by_cases hs : fSt D W p
      · have hs' := hs
        obtain ⟨-, -, t, ht, rfl⟩ := hs'
        obtain ⟨b, hb, rfl⟩ := hv
        have hbs : O.testBit b = true := (fB_iff o31 (by omega)).mp hon
        obtain ⟨g, g1, g2⟩ := x6_loadsAt (n := n) (by omega) hi hx (t := t) (by omega)
        obtain ⟨f, f1, f2⟩ := r8_rides (n := n) (by omega) hi m1 (t := t) (by omega)
        have m2 := rM_16 m1 f
        obtain ⟨τX, τM, r1, r2, -, -, -, r4⟩ := both_bears hn hi hO.2 (rX_25 hx g) m2 (Or.inr rfl) (z := zr F D t W) (fun s hs => ⟨by rw [hv_wI_at]; exact g2 s hs, zr_bd hi t s W (Nat.le_refl _)⟩) (fun s hs => by rw [hv_wI_at]; exact f2 s hs)
        have h27 : mX7_riding n σX (nI b) (nI t) u = kX7_riding_27 n σX (nI b) (nI t) u 1 := by
          unfold mX7_riding
          rw [c1, hv_b2_e, if_neg (by decide), sX.1 hs, hv_b2_e, if_neg (by decide)]
        have h56 : ∀ o, mX8_bears n (hv_wI (hv_sI σM 0 0 1) 16 f) (nI O) = o → mX8_riding n σM (nI b) (nI t) u = hv_b2 o fun r45 s45 => if r45 = 0 then (kX8_riding_56 n s45 (nI b) u ((1 : Int32))) else (kX8_riding_56 n s45 (nI b) u ((0 : Int32))) := fun o ho => by
          unfold mX8_riding
          rw [hv_let_e, (r8_isBar (by omega) bM (nI b)).1 ⟨b, hb, rfl⟩, hv_b2_e, if_neg (by decide), oM, (r8_isOn _ _).1 hon, hv_b2_e, if_neg (by decide), sM'.1 hs, hv_b2_e, if_neg (by decide), f1, hv_bd_e, m2.1.2.2.1, hO.1, ho]
        rw [h27]
        rcases r4 with ⟨y1, y2, -⟩ | ⟨y1, y2, -, y3⟩
        · refine ⟨τX, hv_sI τM 0 0 1, ⟨hi, r1, rM_sc r2 (by decide) 1⟩, Or.inr ⟨0, ?_, ?_, by rw [hv_sI_rd, if_pos rfl]⟩⟩
          · unfold kX7_riding_27
            rw [need_1, g1, hv_bd_e, oX', y1, hv_b2_e, need_0]
          · rw [h56 _ y2, hv_b2_e, if_pos rfl]
            unfold kX8_riding_56
            rw [hv_let_e, hv_sI_rd, if_pos rfl, if_neg (by decide)]
        · obtain ⟨τ', t1, t2⟩ := tp_X hn hi hO.2 (fun s _ => zr_bd hi t s W (Nat.le_refl _)) y3 hb hbs u
          have e0 : (hv_sI τM 0 0 0).1 0 0 = 0 := by rw [hv_sI_rd, if_pos rfl]
          refine ⟨τ', hv_sI τM 0 0 0, ⟨hi, rX_1 r1 (fun k _ => by rw [t2]), rM_sc r2 (by decide) 0⟩, Or.inl ⟨iL (pv F P B O (zr F D t W) b u), ?_, ?_, e0⟩⟩
          · unfold kX7_riding_27
            rw [need_1, g1, hv_bd_e, oX', y1, hv_b2_e, need_1, t1, hv_b2_e]
          · rw [h56 _ y2, hv_b2_e, if_neg (by decide)]
            unfold kX8_riding_56
            rw [hv_let_e, e0, if_pos (by decide), hv_if_t (hv_ok_nI (show b < 11 by omega) (by decide)), nI_clamp (by omega)]
            show (hv_b2 (mX8_told n _ (τM.2 15 b) (τM.2 0 24) u) fun r65 s65 => some (r65, s65)) = _
            rw [y3.2.2.1 b hb, y3.2.1, tp_M hn y3 b u, hv_b2_e]
      · refine hno ?_ ?_
        · unfold mX7_riding kX7_riding_26 kX7_riding_27
          rw [c1, hv_b2_e, if_neg (by decide), sX.2 hs, hv_b2_e, if_pos rfl, need_0]
        · unfold mX8_riding
          rw [hv_let_e, (r8_isBar (by omega) bM v).1 hv, hv_b2_e, if_neg (by decide), oM, (r8_isOn _ _).1 hon, hv_b2_e, if_neg (by decide), sM'.2 hs, hv_b2_e, if_pos rfl]
    · refine hno ?_ ?_
      · unfold mX7_riding kX7_riding_26 kX7_riding_27
        rw [(x3_isOn (by omega) bX v).2 (fun q => hon (on_iff.mp q).2), hv_b2_e, if_pos rfl, need_0]
      · unfold mX8_riding
        rw [hv_let_e, (r8_isBar (by omega) bM v).1 hv, hv_b2_e, if_neg (by decide), oM, (r8_isOn _ _).2 hon, hv_b2_e, if_pos rfl]
  · refine hno ?_ ?_
    · unfold mX7_riding kX7_riding_26 kX7_riding_27
      rw [(x3_isOn (by omega) bX v).2 (fun q => hv (on_iff.mp q).1), hv_b2_e, if_pos rfl, need_0]
    · unfold mX8_riding
      rw [hv_let_e, (r8_isBar (by omega) bM v).2 hv, hv_b2_e, if_pos rfl]
