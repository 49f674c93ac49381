/-! times -/
theorem oS_off {F : Nat → Nat → Int32} {P B S : Nat} {z : Nat → Int} {c : Nat} (h : ¬ S.testBit c = true) : oSum F P B S z c = 0 := by
  unfold oSum
  refine sumK_zero _ (fun T _ => ?_)
  unfold oS
  by_cases q : bC F P S T = true
  · rw [if_pos q]
    unfold oT
    rw [if_neg (fun t => h (sub_iff.mp (bC_iff.mp q).1 c t))]
  · rw [if_neg q]
theorem lg_ge {a b : Int} (ha : rL a) (hb : rL b) : 0 ≤ lg_cmp (iL a) (iL b) ↔ b ≤ a := by
  have l := iL_lt (a := b) (b := a) hb ha
  unfold lg_cmp
  by_cases h1 : iL b < iL a
  · rw [if_pos h1]
    have := l.mp h1
    exact ⟨fun _ => by omega, fun q => by decide⟩
  · rw [if_neg h1]
    have h2 : ¬ b < a := fun q => h1 (l.mpr q)
    by_cases h3 : iL a = iL b
    · rw [if_pos h3]
      have := (iL_eq ha hb).mp h3
      exact ⟨fun _ => by omega, fun _ => by decide⟩
    · rw [if_neg h3]
      have : a ≠ b := fun q => h3 (by rw [q])
      exact ⟨fun q => absurd q (by decide), fun q => by omega⟩
theorem ceil_g {g X Y : Int} (hg : 0 < g) (hY : 0 < Y) : (g * X + g * Y - 1) / (g * Y) = (X + Y - 1) / Y := by
  have gY : 0 < g * Y := Int.mul_pos hg hY
  refine Int.le_antisymm ?_ ?_
  · rw [Int.le_ediv_iff_mul_le hY]
    have := (Int.le_ediv_iff_mul_le gY).mp (Int.le_refl ((g * X + g * Y - 1) / (g * Y)))
    have e : (g * X + g * Y - 1) / (g * Y) * (g * Y) = g * ((g * X + g * Y - 1) / (g * Y) * Y) := by grind
    rw [e] at this
    have q : g * ((g * X + g * Y - 1) / (g * Y) * Y) < g * (X + Y) := by rw [Int.mul_add]; omega
    have := Int.lt_of_mul_lt_mul_left q (Int.le_of_lt hg)
    omega
  · rw [Int.le_ediv_iff_mul_le gY]
    have := (Int.le_ediv_iff_mul_le hY).mp (Int.le_refl ((X + Y - 1) / Y))
    have e : (X + Y - 1) / Y * (g * Y) = g * ((X + Y - 1) / Y * Y) := by grind
    rw [e]
    have q := Int.mul_le_mul_of_nonneg_left this (Int.le_of_lt hg)
    rw [Int.mul_sub, Int.mul_add, Int.mul_one] at q
    omega
theorem iL_I (a : Int) : (iL a).toInt32 = iI a := Int64.toInt32_ofInt
def Qc (o u : Int) : Int := ((o.natAbs : Int) + u - 1) / u
theorem Qc_le {o u : Int} (hu : 0 < u) : 0 ≤ Qc o u ∧ Qc o u ≤ (o.natAbs : Int) + u := by
  unfold Qc
  have h1 := Int.ediv_nonneg (a := (o.natAbs : Int) + u - 1) (b := u) (by omega) (by omega)
  have h2 := Int.ediv_le_self (a := (o.natAbs : Int) + u - 1) u (by omega)
  omega
theorem Qc_0 {u : Int} (hu : 0 < u) : Qc 0 u = 0 := by
  unfold Qc
  exact Int.ediv_eq_zero_of_lt (by omega) (by show (0 : Int) + u - 1 < u; omega)
def Tv (o u s : Int) : Int := if Qc o u = 0 then 999 else s.tdiv (Qc o u)
theorem Tv_le {o u : Int} (hu : 0 < u) {s : Nat} (hs : s ≤ 999) : 0 ≤ Tv o u s ∧ Tv o u s ≤ 999 := by
  unfold Tv
  by_cases q : Qc o u = 0
  · rw [if_pos q]; omega
  · rw [if_neg q]
    have q0 := (Qc_le (o := o) hu).1
    rw [Int.tdiv_eq_ediv_of_nonneg (by omega)]
    have h1 := Int.ediv_nonneg (a := (s : Int)) (b := Qc o u) (by omega) (by omega)
    have h2 := Int.ediv_le_self (a := (s : Int)) (Qc o u) (by omega)
    omega
theorem x7_timesOf {n : Nat} (hn : 2100 ≤ n) {F : Nat → Nat → Int32} {P B O D W : Nat} (hi : hI F P B O D W) {S : Nat} (hS : S < 2 ^ B) {z : Nat → Int} (hz : ∀ s, s < 12 → (z s).natAbs ≤ 9) {τ : hv_St} (hx : rX F τ) (h : bX F P B S z τ) {c : Nat} (hc : c < B) (hcs : S.testBit c = true) : ∃ τ', τ'.1 = τ.1 ∧ bX F P B S z τ' ∧ mX7_timesOf n τ (nI c) = some (iL (Tv (oSum F P B S z c) (uSum F P B S) (F 8 c).toInt), τ') := by
  have hB := hi.2.1.2
  obtain ⟨oc, g, x, y, a1, a2, a3, a4, a5, a6, a7⟩ := red_X hn hi hS hz h hc hcs
  have xb : (x.natAbs : Int) ≤ 2 ^ 57 := g_le a3 a4 (by have := h.2.2.2 c; omega)
  have yb : (y.natAbs : Int) ≤ 2 ^ 52 := g_le a3 a5 (by have := h.2.2.1; omega)
  have xr : rL x := ⟨by omega, by omega⟩
  have yr : rL y := ⟨by omega, by omega⟩
  obtain ⟨-, -, -, s, es, s1, s2⟩ := hi.2.2.2.2.2.2.1 c hc
  have e8 : τ.1 8 c = nI s := (hx.2.2.2.2.1 c (by omega)).2.2.2.trans es
  have fs : (F 8 c).toInt = (s : Int) := by rw [es, nI_toInt (by omega)]
  have eq : Qc (oSum F P B S z c) (uSum F P B S) = ((x.natAbs : Int) + y - 1).tdiv y := by
    rw [Int.tdiv_eq_ediv_of_nonneg (by omega)]
    unfold Qc
    rw [a4, Int.natAbs_mul, Int.natCast_mul, show ((g.natAbs : Nat) : Int) = g by omega, a5, ceil_g a3 a6]
  have qr := Qc_le (o := oSum F P B S z c) h.2.1
  have qr2 : Qc (oSum F P B S z c) (uSum F P B S) ≤ (x.natAbs : Int) + y := by
    rw [eq, Int.tdiv_eq_ediv_of_nonneg (by omega)]
    have h2 := Int.ediv_le_self (a := (x.natAbs : Int) + y - 1) y (by omega)
    omega
  have qrl : rL (Qc (oSum F P B S z c) (uSum F P B S)) := ⟨by omega, by omega⟩
  have r0 : ∀ p q, (hv_sJ (hv_sJ τ 26 0 p) 26 1 q).2 26 0 = p := fun p q => by
    rw [hv_sJ_rd, if_neg (by decide), hv_sJ_rd, if_pos rfl]
  have r1 : ∀ p q, (hv_sJ (hv_sJ τ 26 0 p) 26 1 q).2 26 1 = q := fun p q => by
    rw [hv_sJ_rd, if_pos rfl]
  have r8 : ∀ p q, (hv_sJ (hv_sJ τ 26 0 p) 26 1 q).1 8 c = nI s := fun _ _ => e8
  refine ⟨hv_sJ (hv_sJ τ 26 0 (iL x)) 26 1 (iL y), rfl, a7, ?_⟩
  rw [fs]
  unfold mX7_timesOf Tv
  rw [a1, hv_b2_e, a2, hv_bd_e, r0, r1, iL_abs xr, hv_let_e, iL_add, show (1 : Int64) = iL 1 from rfl, iL_sub, x7_quotient (a := (x.natAbs : Int) + y - 1) ⟨by omega, by omega⟩ yr (by omega), hv_b2_e, ← eq]
  by_cases q : Qc (oSum F P B S z c) (uSum F P B S) = 0
  · rw [if_pos ((iL_0 qrl).mpr q), if_pos q]
    rfl
  · rw [if_neg (fun t => q ((iL_0 qrl).mp t)), if_neg q, hv_if_t (hv_ok_nI (show c < 11 by omega) (by decide)), nI_clamp (by omega), r8, nI_L (by omega), x7_quotient (a := (s : Int)) ⟨by omega, by omega⟩ qrl q, hv_b2_e]
theorem tms {n : Nat} (hn : 2100 ≤ n) {F : Nat → Nat → Int32} {P B O D W : Nat} (hi : hI F P B O D W) {z : Nat → Int} (hz : ∀ s, s < 12 → (z s).natAbs ≤ 9) {σM : hv_St} (hm : rM F σM) (h24 : σM.2 0 24 = iL (uSum F P B O)) (h15 : ∀ c, c < B → σM.2 15 c = iL (oSum F P B O z c)) : ∀ (d b fx fm : Nat) (σX : hv_St) (a : Int), b + d = B → d < fx → d < fm → rX F σX → bX F P B O z σX → 0 ≤ a → a ≤ 999 → ∃ r τX, kX7_times_29 n fx σX (iL a) (nI b) = some (r, τX) ∧ kX8_times_28 n fm σM (iI a) (nI b) = some (r, σM) ∧ rX F τX := by
  have hB := hi.2.1.2
  have hO := hi.2.2.1
  have o31 : O < 2 ^ 31 := by have := p2048 hB hO.2; omega
  have bM : σM.1 0 6 = nI B := hm.1.2.1.trans hi.2.1.1
  intro d
  induction d with
  | zero =>
    intro b fx fm σX a h1 h2 h3 hx hb a0 a9
    obtain ⟨fx, rfl⟩ : ∃ q, fx = q + 1 := ⟨fx - 1, by omega⟩
    obtain ⟨fm, rfl⟩ : ∃ q, fm = q + 1 := ⟨fm - 1, by omega⟩
    obtain rfl : b = B := by omega
    refine ⟨iI a, σX, ?_, ?_, hx⟩
    · show kX7_times_29_b n _ _ _ _ = _
      unfold kX7_times_29_b
      rw [hx.1.2.1.trans hi.2.1.1, if_pos (nI_le (Nat.le_refl _) (by omega)), iL_I]
    · show kX8_times_28_b n _ _ _ _ = _
      unfold kX8_times_28_b
      rw [bM, if_pos (nI_le (Nat.le_refl _) (by omega))]
  | succ d ih =>
    intro b fx fm σX a h1 h2 h3 hx hb a0 a9
    obtain ⟨fx, rfl⟩ : ∃ q, fx = q + 1 := ⟨fx - 1, by omega⟩
    obtain ⟨fm, rfl⟩ : ∃ q, fm = q + 1 := ⟨fm - 1, by omega⟩
    have hbB : b < B := by omega
    have bX' : σX.1 1 1 = nI B := hx.1.2.1.trans hi.2.1.1
    have oX' : σX.1 1 2 = nI O := hx.1.2.2.1.trans hO.1
    have fb := fB_iff (s := O) (k := b) o31 (by omega)
    have on_iff : fO B (σX.1 1 2) (nI b) ↔ fN B (nI b) ∧ fB (nI O) (nI b) := by rw [oX']; rfl
    obtain ⟨-, -, -, s, es, s1, s2⟩ := hi.2.2.2.2.2.2.1 b hbB
    have e8 : σM.1 8 b = nI s := (congrFun (hm.2 8 (by decide) (by decide)) b).trans es
    have fs : (F 8 b).toInt = (s : Int) := by rw [es, nI_toInt (by omega)]
    have up := hb.2.1
    have ub := hb.2.2.1
    have ob := hb.2.2.2 b
    have or0 : rL (oSum F P B O z b) := ⟨by omega, by omega⟩
    have ur0 : rL (uSum F P B O) := ⟨by omega, by omega⟩
    have qr := Qc_le (o := oSum F P B O z b) up
    have qrl : rL (Qc (oSum F P B O z b) (uSum F P B O)) := ⟨by omega, by omega⟩
    have tv := Tv_le (o := oSum F P B O z b) up (s := s) s2
    have tvr : rL (Tv (oSum F P B O z b) (uSum F P B O) s) := ⟨by omega, by omega⟩
    have un0 : iL (uSum F P B O) ≠ 0 := fun q => by
      have := (iL_eq ur0 (b := 0) ⟨by decide, by decide⟩).mp q
      omega
    have e8 : kX8_times_28 n (fm + 1) σM (iI a) (nI b) = if Qc (oSum F P B O z b) (uSum F P B O) = 0 then kX8_times_28 n fm σM (iI a) (nI (b + 1)) else if a ≤ Tv (oSum F P B O z b) (uSum F P B O) s then kX8_times_28 n fm σM (iI a) (nI (b + 1)) else kX8_times_28 n fm σM (iI (Tv (oSum F P B O z b) (uSum F P B O) s)) (nI (b + 1)) := by
      show kX8_times_28_b n _ _ _ _ = _
      unfold kX8_times_28_b kX8_times_90
      rw [bM, if_neg (nI_ge hbB (by omega)), hv_if_t (hv_ok_nI (show b < 11 by omega) (by decide)), nI_clamp (by omega), h15 b hbB, r8_abs or0, hv_b2_e, h24, hv_if_t (decide_eq_true un0), iL_add, show (1 : Int64) = iL 1 from rfl, iL_sub, iL_div (a := ((oSum F P B O z b).natAbs : Int) + uSum F P B O - 1) ⟨by omega, by omega⟩ ur0, Int.tdiv_eq_ediv_of_nonneg (by omega), show (((oSum F P B O z b).natAbs : Int) + uSum F P B O - 1) / uSum F P B O = Qc (oSum F P B O z b) (uSum F P B O) from rfl, hv_let_e]
      by_cases q : Qc (oSum F P B O z b) (uSum F P B O) = 0
      · rw [if_pos ((lg_le0 qrl).mpr (by omega)), if_pos q, nI_1]
      · have qn0 : iL (Qc (oSum F P B O z b) (uSum F P B O)) ≠ 0 := fun t => q ((iL_eq qrl (b := 0) ⟨by decide, by decide⟩).mp t)
        have et : Tv (oSum F P B O z b) (uSum F P B O) s = (s : Int).tdiv (Qc (oSum F P B O z b) (uSum F P B O)) := by
          unfold Tv
          rw [if_neg q]
        rw [if_neg (fun t => q (by have := (lg_le0 qrl).mp t; omega)), if_neg q, hv_if_t (hv_ok_nI (show b < 11 by omega) (by decide)), hv_if_t (decide_eq_true qn0), e8, nI_L (by omega), iL_div (a := (s : Int)) ⟨by omega, by omega⟩ qrl, ← et, iI_L ⟨by omega, by omega⟩, hv_if_t (hv_ok_nI (show b < 11 by omega) (by decide)), hv_if_t (decide_eq_true qn0), hv_let_e, iL_I, nI_1]
        have l := lg_ge (a := Tv (oSum F P B O z b) (uSum F P B O) s) (b := a) tvr ⟨by omega, by omega⟩
        by_cases t : a ≤ Tv (oSum F P B O z b) (uSum F P B O) s
        · rw [if_pos (l.mpr t), if_pos t]
        · rw [if_neg (fun t' => t (l.mp t')), if_neg t]
    by_cases hbs : O.testBit b = true
    · have c1 := (x3_isOn (n := n) (by omega) bX' (nI b)).1 (on_iff.mpr ⟨⟨b, hbB, rfl⟩, fb.mpr hbs⟩)
      obtain ⟨τ', t1, t2, t3⟩ := x7_timesOf hn hi hO.2 hz hx hb hbB hbs
      rw [fs] at t3
      have hx' : rX F τ' := rX_1 hx (fun k _ => by rw [t1])
      have e7 : kX7_times_29 n (fx + 1) σX (iL a) (nI b) = kX7_times_29 n fx τ' (iL (if Tv (oSum F P B O z b) (uSum F P B O) s < a then Tv (oSum F P B O z b) (uSum F P B O) s else a)) (nI (b + 1)) := by
        show kX7_times_29_b n _ _ _ _ = _
        unfold kX7_times_29_b kX7_times_61
        rw [bX', if_neg (nI_ge hbB (by omega)), c1, hv_b2_e, if_neg (by decide), t3, hv_b2_e, hv_let_e, nI_1]
        have l := iL_lt (a := Tv (oSum F P B O z b) (uSum F P B O) s) (b := a) tvr ⟨by omega, by omega⟩
        by_cases t : Tv (oSum F P B O z b) (uSum F P B O) s < a
        · rw [if_pos (l.mpr t), if_pos t]
        · rw [if_neg (fun t' => t (l.mp t')), if_neg t]
      rw [e7, e8]
      by_cases q : Qc (oSum F P B O z b) (uSum F P B O) = 0
      · have et : Tv (oSum F P B O z b) (uSum F P B O) s = 999 := by
          unfold Tv
          rw [if_pos q]
        rw [if_pos q, et, if_neg (by omega)]
        exact ih (b + 1) fx fm τ' a (by omega) (by omega) (by omega) hx' t2 a0 a9
      · rw [if_neg q]
        by_cases t : a ≤ Tv (oSum F P B O z b) (uSum F P B O) s
        · rw [if_pos t, if_neg (by omega)]
          exact ih (b + 1) fx fm τ' a (by omega) (by omega) (by omega) hx' t2 a0 a9
        · rw [if_neg t, if_pos (by omega)]
          exact ih (b + 1) fx fm τ' _ (by omega) (by omega) (by omega) hx' t2 (by omega) (by omega)
    · have q : Qc (oSum F P B O z b) (uSum F P B O) = 0 := by rw [oS_off hbs, Qc_0 up]
      obtain ⟨r, τX, r1, r2, r3⟩ := ih (b + 1) fx fm σX a (by omega) (by omega) (by omega) hx hb a0 a9
      refine ⟨r, τX, ?_, ?_, r3⟩
      · show kX7_times_29_b n _ _ _ _ = _
        unfold kX7_times_29_b kX7_times_61
        rw [bX', if_neg (nI_ge hbB (by omega)), (x3_isOn (n := n) (by omega) bX' (nI b)).2 (fun q => hbs (fb.mp (on_iff.mp q).2)), hv_b2_e, if_pos rfl, nI_1]
        exact r1
      · rw [e8, if_pos q]
        exact r2
theorem op_times {n : Nat} (hn : 2100 ≤ n) {F : Nat → Nat → Int32} {P B O D W : Nat} {σX σM : hv_St} (h : hR F P B O D W σX σM) : ∃ r σX' σM', mX7_times n σX = some (r, σX') ∧ mX8_times n σM = some (r, σM') ∧ hR F P B O D W σX' σM' := by
  obtain ⟨hi, hx, hm⟩ := h
  have hB := hi.2.1.2
  have hO := hi.2.2.1
  have oX' : σX.1 1 2 = nI O := hx.1.2.2.1.trans hO.1
  obtain ⟨g, g1, g2, g3⟩ := r8_takesLoads (n := n) (by omega) hi (rM0 hm)
  have oM : (hv_wI (hv_sI σM 0 0 0) 16 g).1 0 11 = nI O := g2.1.2.2.1.trans hO.1
  obtain ⟨τX, τM, r1, r2, -, -, -, r4⟩ := both_bears hn hi hO.2 hx g2 (Or.inl rfl) (ldX hi hx) g3
  rcases r4 with ⟨y1, y2, -⟩ | ⟨y1, y2, -, y3⟩
  · refine ⟨-1, τX, τM, ?_, ?_, hi, r1, r2⟩
    · unfold mX7_times
      rw [oX', y1, hv_b2_e, if_pos rfl]
    · unfold mX8_times
      rw [hv_let_e, g1, hv_bd_e, oM, y2, hv_b2_e, if_pos rfl]
  · obtain ⟨r, τX', t1, t2, t3⟩ := tms hn hi (fun s hs => (ldz_e hi hs).2) r2 y3.2.1 y3.2.2.1 B 0 n n τX 999 (by omega) (by omega) (by omega) r1 (bX_of y3) (by omega) (by omega)
    refine ⟨r, τX', τM, ?_, ?_, hi, t3, r2⟩
    · unfold mX7_times
      rw [oX', y1, hv_b2_e, if_neg (by decide)]
      exact t1
    · unfold mX8_times
      rw [hv_let_e, g1, hv_bd_e, oM, y2, hv_b2_e, if_neg (by decide)]
      exact t2
