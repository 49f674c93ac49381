/-! painted -/
def bX (F : Nat → Nat → Int32) (P B S : Nat) (z : Nat → Int) (τ : hv_St) : Prop := (∃ k w, k ≠ 0 ∧ uSum F P B S = k * w ∧ oX F P B S k w z τ) ∧ 0 < uSum F P B S ∧ (uSum F P B S).natAbs ≤ 2 ^ 52 ∧ ∀ c, (oSum F P B S z c).natAbs ≤ 2 ^ 57
theorem bX_of {F : Nat → Nat → Int32} {P B S : Nat} {z : Nat → Int} {τX τM : hv_St} (h : bF F P B S z τX τM) : bX F P B S z τX := ⟨h.1, h.2.2.2⟩
theorem bX_mono {F : Nat → Nat → Int32} {P B S : Nat} {z : Nat → Int} {σ τ : hv_St} (hB : B ≤ 11) (hP : P ≤ 6) (h : bX F P B S z σ) (h1 : ∀ j, j ≠ 25 → τ.1 j = σ.1 j) (h2 : ∀ j, j ≠ 26 → τ.2 j = σ.2 j) : bX F P B S z τ := by
  obtain ⟨⟨k, w, h3, h4, h5⟩, q⟩ := h
  exact ⟨⟨k, w, h3, h4, oX_mono hB hP h5 h1 h2⟩, q⟩
theorem nI_L {s : Nat} (h : s < 2 ^ 31) : (nI s).toInt64 = iL (s : Int) := by
  rw [nI_iI, iI_L ⟨by omega, by omega⟩]
theorem red_X {n : Nat} (hn : 2100 ≤ n) {F : Nat → Nat → Int32} {P B O D W : Nat} (hi : hI F P B O D W) {S : Nat} (hS : S < 2 ^ B) {z : Nat → Int} (hz : ∀ s, s < 12 → (z s).natAbs ≤ 9) {τ : hv_St} (h : bX F P B S z τ) {c : Nat} (hc : c < B) (hcs : S.testBit c = true) : ∃ oc g x y, mX5_overOf n τ (nI c) = some (iL oc, τ) ∧ mX2_reduce n τ (iL oc) (τ.2 13 6) = some (hv_sJ (hv_sJ τ 26 0 (iL x)) 26 1 (iL y)) ∧ 0 < g ∧ oSum F P B S z c = g * x ∧ uSum F P B S = g * y ∧ 0 < y ∧ bX F P B S z (hv_sJ (hv_sJ τ 26 0 (iL x)) 26 1 (iL y)) := by
  have h' := h
  obtain ⟨⟨k, w, hk, hkw, ho⟩, hup, hub, hob⟩ := h
  obtain ⟨oc, e1, e2⟩ := over_of (n := n) (by omega) hi hS hz ho hc hcs
  have hw := (oX_m ho).2.2
  have bw : w.natAbs ≤ 2 ^ 62 := Nat.le_trans (k_le hk hkw) (Nat.le_trans hub (by decide))
  have bo : oc.natAbs ≤ 2 ^ 62 := Nat.le_trans (k_le hk e1) (Nat.le_trans (hob c) (by decide))
  have w0 : w ≠ 0 := fun q => by rw [hkw, q, Int.mul_zero] at hup; omega
  have gp : 0 < Int.gcd (oSum F P B S z c) (uSum F P B S) := Int.gcd_pos_of_ne_zero_right _ (by omega)
  have sg : (uSum F P B S).sign = 1 := Int.sign_eq_one_of_pos hup
  have ex : tlN oc w oc = oSum F P B S z c / ((Int.gcd (oSum F P B S z c) (uSum F P B S) : Nat) : Int) := by
    rw [← tlN_scale hk oc w oc, ← e1, ← hkw]
    unfold tlN
    rw [sg, Int.one_mul]
  have ey : tlN oc w w = uSum F P B S / ((Int.gcd (oSum F P B S z c) (uSum F P B S) : Nat) : Int) := by
    rw [← tlN_scale hk oc w w, ← e1, ← hkw]
    unfold tlN
    rw [sg, Int.one_mul]
  have mx : oSum F P B S z c = ((Int.gcd (oSum F P B S z c) (uSum F P B S) : Nat) : Int) * tlN oc w oc := by
    rw [ex]
    exact (Int.mul_ediv_cancel' (Int.gcd_dvd_left ..)).symm
  have my : uSum F P B S = ((Int.gcd (oSum F P B S z c) (uSum F P B S) : Nat) : Int) * tlN oc w w := by
    rw [ey]
    exact (Int.mul_ediv_cancel' (Int.gcd_dvd_right ..)).symm
  have gp' : (0 : Int) < ((Int.gcd (oSum F P B S z c) (uSum F P B S) : Nat) : Int) := by omega
  refine ⟨oc, ((Int.gcd (oSum F P B S z c) (uSum F P B S) : Nat) : Int), tlN oc w oc, tlN oc w w, e2, ?_, gp', mx, my, ?_, ?_⟩
  · rw [hw, x2_reduce (n := n) (by omega) (rL_of bo) (rL_of bw) w0]
  · refine Int.lt_of_not_ge (fun q => ?_)
    have := Int.mul_nonpos_of_nonneg_of_nonpos (Int.le_of_lt gp') q
    omega
  · exact bX_mono hi.2.1.2 hi.1.2 h' (fun _ _ => rfl) (fun j hj => by rw [hv_sJ_ne _ _ _ hj, hv_sJ_ne _ _ _ hj])
def ptQ (o u s : Int) (v : Int32) : Prop := if v = -1 then o < 0 else if v = 0 then o = 0 else if v = 1 then 0 < o else s * u < o.natAbs
theorem lg_ge0 {a : Int} (h : rL a) : 0 ≤ lg_cmp (iL a) (0 : Int64) ↔ 0 ≤ a := lg_cmp_ge0 h
theorem lg_le0 {a : Int} (h : rL a) : lg_cmp (iL a) (0 : Int64) ≤ 0 ↔ a ≤ 0 := lg_le (b := 0) h ⟨by decide, by decide⟩
theorem g_le {g x o b : Int} (hg : 0 < g) (h : o = g * x) (ho : o.natAbs ≤ b) : x.natAbs ≤ b := by
  have := k_le (by omega : g ≠ 0) h
  omega
theorem x7_isPainted {n : Nat} (hn : 2100 ≤ n) {F : Nat → Nat → Int32} {P B O D W : Nat} (hi : hI F P B O D W) {S : Nat} (hS : S < 2 ^ B) {z : Nat → Int} (hz : ∀ s, s < 12 → (z s).natAbs ≤ 9) {τ : hv_St} (hx : rX F τ) (h : bX F P B S z τ) {c : Nat} (hc : c < B) (hcs : S.testBit c = true) (v : Int32) : ∃ τ', τ'.1 = τ.1 ∧ bX F P B S z τ' ∧ (ptQ (oSum F P B S z c) (uSum F P B S) (F 8 c).toInt v → mX7_isPainted n τ (nI c) v = some (1, τ')) ∧ (¬ ptQ (oSum F P B S z c) (uSum F P B S) (F 8 c).toInt v → mX7_isPainted n τ (nI c) v = some (0, τ')) := by
  have hB := hi.2.1.2
  obtain ⟨oc, g, x, y, a1, a2, a3, a4, a5, a6, a7⟩ := red_X hn hi hS hz h hc hcs
  have xb : (x.natAbs : Int) ≤ 2 ^ 57 := g_le a3 a4 (by have := h.2.2.2 c; omega)
  have yb : (y.natAbs : Int) ≤ 2 ^ 52 := g_le a3 a5 (by have := h.2.2.1; omega)
  have xr : rL x := ⟨by omega, by omega⟩
  obtain ⟨-, -, -, s, es, s1, s2⟩ := hi.2.2.2.2.2.2.1 c hc
  have e8 : τ.1 8 c = nI s := (hx.2.2.2.2.1 c (by omega)).2.2.2.trans es
  have fs : (F 8 c).toInt = (s : Int) := by rw [es, nI_toInt (by omega)]
  refine ⟨hv_sJ (hv_sJ τ 26 0 (iL x)) 26 1 (iL y), rfl, a7, ?_⟩
  have sy : (s : Int) * y ≤ 999 * 2 ^ 52 := Int.mul_le_mul (by omega) (by omega) (by omega) (by omega)
  have sy0 : 0 ≤ (s : Int) * y := Int.mul_nonneg (by omega) (by omega)
  rw [fs]
  unfold mX7_isPainted ptQ
  rw [a1, hv_b2_e, a2, hv_bd_e]
  have r0 : ∀ p q, (hv_sJ (hv_sJ τ 26 0 p) 26 1 q).2 26 0 = p := fun p q => by
    rw [hv_sJ_rd, if_neg (by decide), hv_sJ_rd, if_pos rfl]
  have r1 : ∀ p q, (hv_sJ (hv_sJ τ 26 0 p) 26 1 q).2 26 1 = q := fun p q => by
    rw [hv_sJ_rd, if_pos rfl]
  have r8 : ∀ p q, (hv_sJ (hv_sJ τ 26 0 p) 26 1 q).1 8 c = nI s := fun _ _ => e8
  rw [r0, r1]
  have px : 0 ≤ x ↔ 0 ≤ oSum F P B S z c := by
    rw [a4]
    exact ⟨fun q => Int.mul_nonneg (by omega) q, fun q => Int.le_of_mul_le_mul_left (by rw [Int.mul_zero]; exact q) a3⟩
  have nx : x ≤ 0 ↔ oSum F P B S z c ≤ 0 := by
    rw [a4]
    exact ⟨fun q => Int.mul_nonpos_of_nonneg_of_nonpos (by omega) q, fun q => Int.le_of_mul_le_mul_left (by rw [Int.mul_zero]; exact q) a3⟩
  by_cases v1 : v = -1
  · rw [if_pos v1, if_pos v1]
    by_cases q : 0 ≤ x
    · rw [if_pos ((lg_ge0 xr).mpr q)]
      have := px.mp q
      exact ⟨fun z => by omega, fun _ => rfl⟩
    · rw [if_neg (fun z => q ((lg_ge0 xr).mp z))]
      have : ¬ 0 ≤ oSum F P B S z c := fun z => q (px.mpr z)
      exact ⟨fun _ => rfl, fun z => by omega⟩
  · rw [if_neg v1, if_neg v1]
    by_cases v2 : v = 0
    · rw [if_pos v2, if_pos v2]
      by_cases q : x = 0
      · rw [if_pos ((iL_0 xr).mpr q)]
        have := px.mp (by omega)
        have := nx.mp (by omega)
        exact ⟨fun _ => rfl, fun z => by omega⟩
      · rw [if_neg (fun z => q ((iL_0 xr).mp z))]
        exact ⟨fun z => by
          have := px.mpr (by omega)
          have := nx.mpr (by omega)
          omega, fun _ => rfl⟩
    · rw [if_neg v2, if_neg v2]
      by_cases v3 : v = 1
      · rw [if_pos v3, if_pos v3]
        by_cases q : x ≤ 0
        · rw [if_pos ((lg_le0 xr).mpr q)]
          have := nx.mp q
          exact ⟨fun z => by omega, fun _ => rfl⟩
        · rw [if_neg (fun z => q ((lg_le0 xr).mp z))]
          have : ¬ oSum F P B S z c ≤ 0 := fun z => q (nx.mpr z)
          exact ⟨fun _ => rfl, fun z => by omega⟩
      · rw [if_neg v3, if_neg v3, iL_abs xr, hv_let_e, hv_if_t (hv_ok_nI (show c < 11 by omega) (by decide)), nI_clamp (by omega), r8, nI_L (by omega), iL_mul]
        have eo : ((oSum F P B S z c).natAbs : Int) = g * (x.natAbs : Int) := by
          rw [a4, Int.natAbs_mul, Int.natCast_mul, show ((g.natAbs : Nat) : Int) = g by omega]
        have eu : (s : Int) * uSum F P B S = g * (s * y) := by rw [a5]; grind
        have l := lg_le (a := (x.natAbs : Int)) (b := s * y) ⟨by omega, by omega⟩ ⟨by omega, by omega⟩
        rw [eo, eu]
        by_cases q : (x.natAbs : Int) ≤ s * y
        · rw [if_pos (l.mpr q)]
          have := Int.mul_le_mul_of_nonneg_left q (Int.le_of_lt a3)
          exact ⟨fun z => by omega, fun _ => rfl⟩
        · rw [if_neg (fun z => q (l.mp z))]
          refine ⟨fun _ => rfl, fun z => absurd (Int.mul_lt_mul_of_pos_left (by omega : (s : Int) * y < (x.natAbs : Int)) a3) z⟩
theorem pnt {n : Nat} (hn : 2100 ≤ n) {F : Nat → Nat → Int32} {P B O D W : Nat} (hi : hI F P B O D W) {z : Nat → Int} (hz : ∀ s, s < 12 → (z s).natAbs ≤ 9) {v : Int32} (hv : v = -1 ∨ v = 0 ∨ v = 1 ∨ v = 2) {σM : hv_St} (hm : rM F σM) (h24 : σM.2 0 24 = iL (uSum F P B O)) (h15 : ∀ c, c < B → σM.2 15 c = iL (oSum F P B O z c)) : ∀ (d b fx fm : Nat) (σX : hv_St) (acc : Int32), b + d = B → d < fx → d < fm → rX F σX → bX F P B O z σX → ∃ r τX, kX7_painted_37 n fx σX v acc (nI b) = some (r, τX) ∧ kX8_painted_40 n fm σM v acc (nI b) = some (r, σM) ∧ rX F τX := by
  have hB := hi.2.1.2
  have hO := hi.2.2.1
  have o31 : O < 2 ^ 31 := by have := p2048 hB hO.2; omega
  have bM : σM.1 0 6 = nI B := hm.1.2.1.trans hi.2.1.1
  have oM : σM.1 0 11 = nI O := hm.1.2.2.1.trans hO.1
  intro d
  induction d with
  | zero =>
    intro b fx fm σX acc h1 h2 h3 hx hb
    obtain ⟨fx, rfl⟩ : ∃ q, fx = q + 1 := ⟨fx - 1, by omega⟩
    obtain ⟨fm, rfl⟩ : ∃ q, fm = q + 1 := ⟨fm - 1, by omega⟩
    obtain rfl : b = B := by omega
    refine ⟨acc, σX, ?_, ?_, hx⟩
    · show kX7_painted_37_b n _ _ _ _ _ = _
      unfold kX7_painted_37_b
      rw [hx.1.2.1.trans hi.2.1.1, if_pos (nI_le (Nat.le_refl _) (by omega))]
    · show kX8_painted_40_b n _ _ _ _ _ = _
      unfold kX8_painted_40_b
      rw [bM, if_pos (nI_le (Nat.le_refl _) (by omega))]
  | succ d ih =>
    intro b fx fm σX acc h1 h2 h3 hx hb
    obtain ⟨fx, rfl⟩ : ∃ q, fx = q + 1 := ⟨fx - 1, by omega⟩
    obtain ⟨fm, rfl⟩ : ∃ q, fm = q + 1 := ⟨fm - 1, by omega⟩
    have hbB : b < B := by omega
    have bX' : σX.1 1 1 = nI B := hx.1.2.1.trans hi.2.1.1
    have oX' : σX.1 1 2 = nI O := hx.1.2.2.1.trans hO.1
    have fb := fB_iff (s := O) (k := b) o31 (by omega)
    have on_iff : fO B (σX.1 1 2) (nI b) ↔ fN B (nI b) ∧ fB (nI O) (nI b) := by rw [oX']; rfl
    obtain ⟨-, -, -, s, es, s1, s2⟩ := hi.2.2.2.2.2.2.1 b hbB
    have e8 : σM.1 8 b = nI s := (congrFun (hm.2 8 (by decide) (by decide)) b).trans es
    have fs : (F 8 b).toInt = (s : Int) := by rw [es, nI_toInt (by omega)]
    have ub := hb.2.2.1
    have ob := hb.2.2.2 b
    have su : (s : Int) * uSum F P B O ≤ 999 * 2 ^ 52 := Int.mul_le_mul (by omega) (by omega) (Int.le_of_lt hb.2.1) (by omega)
    have su0 : 0 ≤ (s : Int) * uSum F P B O := Int.mul_nonneg (by omega) (Int.le_of_lt hb.2.1)
    have or0 : rL (oSum F P B O z b) := ⟨by omega, by omega⟩
    -- the reference's step
    have e8a : (ptQ (oSum F P B O z b) (uSum F P B O) (F 8 b).toInt v → kX8_painted_40 n (fm + 1) σM v acc (nI b) = kX8_painted_126 n (kX8_painted_40 n fm) σM v acc (nI b) 1) ∧ (¬ ptQ (oSum F P B O z b) (uSum F P B O) (F 8 b).toInt v → kX8_painted_40 n (fm + 1) σM v acc (nI b) = kX8_painted_126 n (kX8_painted_40 n fm) σM v acc (nI b) 0) := by
      have st : kX8_painted_40 n (fm + 1) σM v acc (nI b) = if v = 2 then (if lg_cmp (iL ((oSum F P B O z b).natAbs : Int)) (iL (s * uSum F P B O)) ≤ 0 then kX8_painted_126 n (kX8_painted_40 n fm) σM v acc (nI b) 0 else kX8_painted_126 n (kX8_painted_40 n fm) σM v acc (nI b) 1) else (if lg_cmp (iL (oSum F P B O z b)) (0 : Int64) ≤ 0 then (if 0 ≤ lg_cmp (iL (oSum F P B O z b)) (0 : Int64) then kX8_painted_118 n (kX8_painted_40 n fm) σM v acc (nI b) 0 v else kX8_painted_118 n (kX8_painted_40 n fm) σM v acc (nI b) (-1) v) else kX8_painted_118 n (kX8_painted_40 n fm) σM v acc (nI b) 1 v) := by
        show kX8_painted_40_b n _ _ _ _ _ = _
        unfold kX8_painted_40_b
        rw [bM, if_neg (nI_ge hbB (by omega)), hv_if_t (hv_ok_nI (show b < 11 by omega) (by decide)), nI_clamp (by omega), h15 b hbB, r8_abs or0, hv_b2_e, hv_if_t (hv_ok_nI (show b < 11 by omega) (by decide)), e8, h24, nI_L (by omega), iL_mul, hv_if_t (hv_ok_nI (show b < 11 by omega) (by decide)), hv_if_t (hv_ok_nI (show b < 11 by omega) (by decide))]
      rw [st, fs]
      unfold ptQ
      have l := lg_le (a := ((oSum F P B O z b).natAbs : Int)) (b := s * uSum F P B O) ⟨by omega, by omega⟩ ⟨by omega, by omega⟩
      rcases hv with rfl | rfl | rfl | rfl
      · rw [if_neg (show ¬ (-1 : Int32) = 2 by decide), if_pos (show (-1 : Int32) = -1 from rfl)]
        unfold kX8_painted_118
        rw [if_neg (show ¬ (-1 : Int32) = 0 by decide), if_pos (show (-1 : Int32) = -1 from rfl), if_neg (show ¬ (-1 : Int32) = 1 by decide)]
        by_cases q1 : oSum F P B O z b ≤ 0
        · rw [if_pos ((lg_le0 or0).mpr q1)]
          by_cases q2 : 0 ≤ oSum F P B O z b
          · rw [if_pos ((lg_ge0 or0).mpr q2)]
            exact ⟨fun q => by omega, fun _ => rfl⟩
          · rw [if_neg (fun q => q2 ((lg_ge0 or0).mp q))]
            exact ⟨fun _ => rfl, fun q => by omega⟩
        · rw [if_neg (fun q => q1 ((lg_le0 or0).mp q))]
          exact ⟨fun q => by omega, fun _ => rfl⟩
      · rw [if_neg (show ¬ (0 : Int32) = 2 by decide), if_neg (show ¬ (0 : Int32) = -1 by decide), if_pos (show (0 : Int32) = 0 from rfl)]
        unfold kX8_painted_118
        rw [if_pos (show (0 : Int32) = 0 from rfl), if_neg (show ¬ (0 : Int32) = -1 by decide), if_neg (show ¬ (0 : Int32) = 1 by decide)]
        by_cases q1 : oSum F P B O z b ≤ 0
        · rw [if_pos ((lg_le0 or0).mpr q1)]
          by_cases q2 : 0 ≤ oSum F P B O z b
          · rw [if_pos ((lg_ge0 or0).mpr q2)]
            exact ⟨fun _ => rfl, fun q => by omega⟩
          · rw [if_neg (fun q => q2 ((lg_ge0 or0).mp q))]
            exact ⟨fun q => by omega, fun _ => rfl⟩
        · rw [if_neg (fun q => q1 ((lg_le0 or0).mp q))]
          exact ⟨fun q => by omega, fun _ => rfl⟩
      · rw [if_neg (show ¬ (1 : Int32) = 2 by decide), if_neg (show ¬ (1 : Int32) = -1 by decide), if_neg (show ¬ (1 : Int32) = 0 by decide), if_pos (show (1 : Int32) = 1 from rfl)]
        unfold kX8_painted_118
        rw [if_neg (show ¬ (1 : Int32) = 0 by decide), if_neg (show ¬ (1 : Int32) = -1 by decide), if_pos (show (1 : Int32) = 1 from rfl)]
        by_cases q1 : oSum F P B O z b ≤ 0
        · rw [if_pos ((lg_le0 or0).mpr q1)]
          refine ⟨fun q => by omega, fun _ => ?_⟩
          by_cases q2 : 0 ≤ lg_cmp (iL (oSum F P B O z b)) (0 : Int64)
          · rw [if_pos q2]
          · rw [if_neg q2]
        · rw [if_neg (fun q => q1 ((lg_le0 or0).mp q))]
          exact ⟨fun _ => rfl, fun q => by omega⟩
      · rw [if_pos (show (2 : Int32) = 2 from rfl), if_neg (show ¬ (2 : Int32) = -1 by decide), if_neg (show ¬ (2 : Int32) = 0 by decide), if_neg (show ¬ (2 : Int32) = 1 by decide)]
        by_cases q : ((oSum F P B O z b).natAbs : Int) ≤ s * uSum F P B O
        · rw [if_pos (l.mpr q)]
          exact ⟨fun z => by omega, fun _ => rfl⟩
        · rw [if_neg (fun z => q (l.mp z))]
          exact ⟨fun _ => rfl, fun z => by omega⟩
    by_cases hbs : O.testBit b = true
    · have c1 := (x3_isOn (n := n) (by omega) bX' (nI b)).1 (on_iff.mpr ⟨⟨b, hbB, rfl⟩, fb.mpr hbs⟩)
      obtain ⟨τ', t1, t2, t3, t4⟩ := x7_isPainted hn hi hO.2 hz hx hb hbB hbs v
      have hx' : rX F τ' := rX_1 hx (fun k _ => by rw [t1])
      by_cases pt : ptQ (oSum F P B O z b) (uSum F P B O) (F 8 b).toInt v
      · obtain ⟨r, τX, r1, r2, r3⟩ := ih (b + 1) fx fm τ' (acc ||| ((1 : Int32) <<< (nI b &&& 31))) (by omega) (by omega) (by omega) hx' t2
        refine ⟨r, τX, ?_, ?_, r3⟩
        · show kX7_painted_37_b n _ _ _ _ _ = _
          unfold kX7_painted_37_b kX7_painted_74
          rw [bX', if_neg (nI_ge hbB (by omega)), c1, hv_b2_e, if_neg (by decide), t3 pt, hv_b2_e, if_neg (by decide), hv_let_e, nI_1]
          exact r1
        · rw [e8a.1 pt]
          unfold kX8_painted_126 kX8_painted_152
          rw [if_neg (by decide), oM, (r8_isOn _ _).1 (fb.mpr hbs), hv_b2_e, if_neg (by decide), hv_let_e, nI_1]
          exact r2
      · obtain ⟨r, τX, r1, r2, r3⟩ := ih (b + 1) fx fm τ' acc (by omega) (by omega) (by omega) hx' t2
        refine ⟨r, τX, ?_, ?_, r3⟩
        · show kX7_painted_37_b n _ _ _ _ _ = _
          unfold kX7_painted_37_b kX7_painted_74
          rw [bX', if_neg (nI_ge hbB (by omega)), c1, hv_b2_e, if_neg (by decide), t4 pt, hv_b2_e, if_pos rfl, nI_1]
          exact r1
        · rw [e8a.2 pt]
          unfold kX8_painted_126 kX8_painted_151 kX8_painted_152
          rw [if_pos rfl, hv_let_e, Int32.or_zero, nI_1]
          exact r2
    · obtain ⟨r, τX, r1, r2, r3⟩ := ih (b + 1) fx fm σX acc (by omega) (by omega) (by omega) hx hb
      have e126 : ∀ f, kX8_painted_126 n (kX8_painted_40 n fm) σM v acc (nI b) f = some (r, σM) := fun f => by
        unfold kX8_painted_126 kX8_painted_151 kX8_painted_152
        by_cases q : f = 0
        · rw [if_pos q, hv_let_e, Int32.or_zero, nI_1]
          exact r2
        · rw [if_neg q, oM, (r8_isOn _ _).2 (fun z => hbs (fb.mp z)), hv_b2_e, if_pos rfl, hv_let_e, Int32.or_zero, nI_1]
          exact r2
      refine ⟨r, τX, ?_, ?_, r3⟩
      · show kX7_painted_37_b n _ _ _ _ _ = _
        unfold kX7_painted_37_b kX7_painted_74
        rw [bX', if_neg (nI_ge hbB (by omega)), (x3_isOn (n := n) (by omega) bX' (nI b)).2 (fun q => hbs (fb.mp (on_iff.mp q).2)), hv_b2_e, if_pos rfl, nI_1]
        exact r1
      · by_cases pt : ptQ (oSum F P B O z b) (uSum F P B O) (F 8 b).toInt v
        · rw [e8a.1 pt]; exact e126 1
        · rw [e8a.2 pt]; exact e126 0
theorem op_painted {n : Nat} (hn : 2100 ≤ n) {F : Nat → Nat → Int32} {P B O D W : Nat} {σX σM : hv_St} (h : hR F P B O D W σX σM) (v : Int32) : ∃ r σX' σM', mX7_painted n σX v = some (r, σX') ∧ mX8_painted n σM v = some (r, σM') ∧ hR F P B O D W σX' σM' := by
  obtain ⟨hi, hx, hm⟩ := h
  have hB := hi.2.1.2
  have hO := hi.2.2.1
  have oX' : σX.1 1 2 = nI O := hx.1.2.2.1.trans hO.1
  obtain ⟨g, g1, g2, g3⟩ := r8_takesLoads (n := n) (by omega) hi (rM0 hm)
  have oM : (hv_wI (hv_sI σM 0 0 0) 16 g).1 0 11 = nI O := g2.1.2.2.1.trans hO.1
  have hin : mX8_in n (hv_wI (hv_sI σM 0 0 0) 16 g) v.toInt64 (-1 : Int64) (2 : Int64) = some (if -1 ≤ v ∧ v ≤ 2 then 1 else 0, hv_wI (hv_sI σM 0 0 0) 16 g) := by
    rw [show (-1 : Int64) = (-1 : Int32).toInt64 from rfl, show (2 : Int64) = (2 : Int32).toInt64 from rfl, r8_in32]
  by_cases c : -1 ≤ v ∧ v ≤ 2
  · have hv : v = -1 ∨ v = 0 ∨ v = 1 ∨ v = 2 := by
      have q1 := Int32.le_iff_toInt_le.mp c.1
      have q2 := Int32.le_iff_toInt_le.mp c.2
      have e1 : (-1 : Int32).toInt = -1 := rfl
      have e2 : (2 : Int32).toInt = 2 := rfl
      rw [e1] at q1
      rw [e2] at q2
      have : v = iI v.toInt := iI_of v
      rcases (show v.toInt = -1 ∨ v.toInt = 0 ∨ v.toInt = 1 ∨ v.toInt = 2 by omega) with q | q | q | q <;> rw [q] at this
      · exact Or.inl this
      · exact Or.inr (Or.inl this)
      · exact Or.inr (Or.inr (Or.inl this))
      · exact Or.inr (Or.inr (Or.inr this))
    have d1 : ¬ v < -1 := Int32.not_lt.mpr c.1
    have d2 : ¬ (2 : Int32) < v := Int32.not_lt.mpr c.2
    obtain ⟨τX, τM, r1, r2, -, -, -, r4⟩ := both_bears hn hi hO.2 hx g2 (Or.inl rfl) (ldX hi hx) g3
    rcases r4 with ⟨y1, y2, -⟩ | ⟨y1, y2, -, y3⟩
    · refine ⟨-1, τX, τM, ?_, ?_, hi, r1, r2⟩
      · unfold mX7_painted
        rw [if_neg d1, if_neg d2, oX', y1, hv_b2_e, if_pos rfl]
      · unfold mX8_painted
        rw [hv_let_e, g1, hv_bd_e, hin, if_pos c, hv_b2_e, if_neg (by decide), oM, y2, hv_b2_e, if_pos rfl]
    · obtain ⟨r, τX', t1, t2, t3⟩ := pnt hn hi (fun s hs => (ldz_e hi hs).2) hv r2 y3.2.1 y3.2.2.1 B 0 n n τX 0 (by omega) (by omega) (by omega) r1 (bX_of y3)
      refine ⟨r, τX', τM, ?_, ?_, hi, t3, r2⟩
      · unfold mX7_painted
        rw [if_neg d1, if_neg d2, oX', y1, hv_b2_e, if_neg (by decide)]
        exact t1
      · unfold mX8_painted
        rw [hv_let_e, g1, hv_bd_e, hin, if_pos c, hv_b2_e, if_neg (by decide), oM, y2, hv_b2_e, if_neg (by decide)]
        exact t2
  · refine ⟨-1, σX, hv_wI (hv_sI σM 0 0 0) 16 g, ?_, ?_, hi, hx, g2⟩
    · unfold mX7_painted
      by_cases d1 : v < -1
      · rw [if_pos d1]
      · rw [if_neg d1]
        by_cases d2 : (2 : Int32) < v
        · rw [if_pos d2]
        · exact absurd ⟨Int32.not_lt.mp d1, Int32.not_lt.mp d2⟩ c
    · unfold mX8_painted
      rw [hv_let_e, g1, hv_bd_e, hin, if_neg c, hv_b2_e, if_pos rfl]
