/-! force -/
theorem frc {n : Nat} (hn : 2100 ≤ n) {F : Nat → Nat → Int32} {P B O D W : Nat} (hi : hI F P B O D W) {z : Nat → Int} (hz : ∀ s, s < 12 → (z s).natAbs ≤ 9) {σM : hv_St} (hm : rM F σM) (h24 : σM.2 0 24 = iL (uSum F P B O)) (h15 : ∀ c, c < B → σM.2 15 c = iL (oSum F P B O z c)) {σX : hv_St} (hx : rX F σX) {k w : Int} (hk : k ≠ 0) (hkw : uSum F P B O = k * w) (ho : oX F P B O k w z σX) (hup : 0 < uSum F P B O) (hub : (uSum F P B O).natAbs ≤ 2 ^ 52) (hob : ∀ c, (oSum F P B O z c).natAbs ≤ 2 ^ 57) {p d : Nat} (hp : p < 6) (hd : d < 2) (u : Int32) : ∀ (q b fx fm : Nat) (s : Int), b + q = B → q < fx → q < fm → (k * s).natAbs ≤ 144115188075855872 + b * 432345564227567616 → ∃ r τX, kX7_force_99 n fx σX u (nI (2 * p + d)) (iL s) (nI b) = some (some r, τX) ∧ kX8_force_85 n fm σM (nI p) (nI d) u (iL (k * s)) (nI b) = some (r, σM) ∧ τX.1 = σX.1 := by
  have hB := hi.2.1.2
  have hO := hi.2.2.1
  have o31 : O < 2 ^ 31 := by have := p2048 hB hO.2; omega
  have bM : σM.1 0 6 = nI B := hm.1.2.1.trans hi.2.1.1
  have bX' : σX.1 1 1 = nI B := hx.1.2.1.trans hi.2.1.1
  have oX' : σX.1 1 2 = nI O := hx.1.2.2.1.trans hO.1
  have hw := (oX_m ho).2.2
  have bw : w.natAbs ≤ 2 ^ 62 := Nat.le_trans (k_le hk hkw) (Nat.le_trans hub (by decide))
  have w0 : w ≠ 0 := fun q => by rw [hkw, q, Int.mul_zero] at hup; omega
  intro q
  induction q with
  | zero =>
    intro b fx fm s h1 h2 h3 h4
    obtain ⟨fx, rfl⟩ : ∃ q, fx = q + 1 := ⟨fx - 1, by omega⟩
    obtain ⟨fm, rfl⟩ : ∃ q, fm = q + 1 := ⟨fm - 1, by omega⟩
    obtain rfl : b = B := by omega
    have sb : s.natAbs ≤ (k * s).natAbs := k_le hk rfl
    have r1 : rL (-s) := ⟨by omega, by omega⟩
    have r2 : rL (-(k * s)) := ⟨by omega, by omega⟩
    refine ⟨iL (tlN (-s) w (if u = 0 then -s else w)), hv_sJ (hv_sJ σX 26 0 (iL (tlN (-s) w (-s)))) 26 1 (iL (tlN (-s) w w)), ?_, ?_, ?_⟩
    · show kX7_force_99_b n _ _ _ _ _ _ = _
      unfold kX7_force_99_b
      rw [bX', if_pos (nI_le (Nat.le_refl _) (by omega)), iL_neg, hw, x7_told (n := n) (by omega) r1 (rL_of bw) w0 u, hv_b2_e]
    · show kX8_force_85_b n _ _ _ _ _ _ _ = _
      unfold kX8_force_85_b
      rw [bM, if_pos (nI_le (Nat.le_refl _) (by omega)), iL_neg, h24, r8_told (n := n) (by omega) r2 (rL_of (Nat.le_trans hub (by decide))) (by omega) u, hv_b2_e]
      have e1 : -(k * s) = k * -s := by grind
      rw [e1, hkw]
      by_cases u0 : u = 0
      · rw [if_pos u0, if_pos u0, tlN_scale hk]
      · rw [if_neg u0, if_neg u0, tlN_scale hk]
    · rfl
  | succ q ih =>
    intro b fx fm s h1 h2 h3 h4
    obtain ⟨fx, rfl⟩ : ∃ q, fx = q + 1 := ⟨fx - 1, by omega⟩
    obtain ⟨fm, rfl⟩ : ∃ q, fm = q + 1 := ⟨fm - 1, by omega⟩
    have hbB : b < B := by omega
    have fb := fB_iff (s := O) (k := b) o31 (by omega)
    have on_iff : fO B (σX.1 1 2) (nI b) ↔ fN B (nI b) ∧ fB (nI O) (nI b) := by rw [oX']; rfl
    have br := fBr_le hi hbB p d
    have e8 : kX8_force_85 n (fm + 1) σM (nI p) (nI d) u (iL (k * s)) (nI b) = kX8_force_85 n fm σM (nI p) (nI d) u (iL (k * s + oSum F P B O z b * fBr F b p d)) (nI (b + 1)) := by
      show kX8_force_85_b n _ _ _ _ _ _ _ = _
      unfold kX8_force_85_b
      rw [bM, if_neg (nI_ge hbB (by omega)), hv_if_t (hv_ok_nI (show b < 11 by omega) (by decide)), r8_brings hi hm hbB hp hd, hv_b2_e, nI_clamp (by omega), h15 b hbB, iI_L ⟨by omega, by omega⟩, iL_mul, iL_add, hv_let_e, nI_1]
    by_cases hbs : O.testBit b = true
    · have c1 := (x3_isOn (n := n) (by omega) bX' (nI b)).1 (on_iff.mpr ⟨⟨b, hbB, rfl⟩, fb.mpr hbs⟩)
      obtain ⟨oc, e1, e2⟩ := over_of (n := n) (by omega) hi hO.2 hz ho hbB hbs
      have st : kX7_force_99 n (fx + 1) σX u (nI (2 * p + d)) (iL s) (nI b) = kX7_force_99 n fx σX u (nI (2 * p + d)) (iL (s + fBr F b p d * oc)) (nI (b + 1)) := by
        show kX7_force_99_b n _ _ _ _ _ _ = _
        unfold kX7_force_99_b kX7_force_164
        rw [bX', if_neg (nI_ge hbB (by omega)), c1, hv_b2_e, if_neg (by decide), x3_brings hi hx hbB hp hd, hv_b2_e]
        by_cases z0 : fBr F b p d = 0
        · rw [if_pos ((iI_0 (by omega)).mpr z0), z0, Int.zero_mul, Int.add_zero, nI_1]
        · rw [if_neg (fun t => z0 ((iI_0 (by omega)).mp t)), x3_brings hi hx hbB hp hd, hv_b2_e, e2, hv_b2_e, iI_L ⟨by omega, by omega⟩, iL_mul, iL_add, hv_let_e, nI_1]
      have ek : k * s + oSum F P B O z b * fBr F b p d = k * (s + fBr F b p d * oc) := by rw [e1]; grind
      rw [st, e8, ek]
      refine ih (b + 1) fx fm _ (by omega) (by omega) (by omega) ?_
      rw [← ek]
      have m1 : (oSum F P B O z b * fBr F b p d).natAbs ≤ 2 ^ 57 * 3 := by
        rw [Int.natAbs_mul]
        exact Nat.mul_le_mul (hob b) (by omega)
      have m2 := Int.natAbs_add_le (k * s) (oSum F P B O z b * fBr F b p d)
      omega
    · have st : kX7_force_99 n (fx + 1) σX u (nI (2 * p + d)) (iL s) (nI b) = kX7_force_99 n fx σX u (nI (2 * p + d)) (iL s) (nI (b + 1)) := by
        show kX7_force_99_b n _ _ _ _ _ _ = _
        unfold kX7_force_99_b kX7_force_164
        rw [bX', if_neg (nI_ge hbB (by omega)), (x3_isOn (n := n) (by omega) bX' (nI b)).2 (fun q => hbs (fb.mp (on_iff.mp q).2)), hv_b2_e, if_pos rfl, nI_1]
      rw [st, e8, oS_off hbs, Int.zero_mul, Int.add_zero]
      refine ih (b + 1) fx fm s (by omega) (by omega) (by omega) ?_
      exact Nat.le_trans h4 (Nat.add_le_add_left (Nat.mul_le_mul_right _ (Nat.le_succ b)) _)
theorem op_force {n : Nat} (hn : 2100 ≤ n) {F : Nat → Nat → Int32} {P B O D W : Nat} {σX σM : hv_St} (h : hR F P B O D W σX σM) (p d u : Int32) : hT F P B O D W (mX7_force n σX p d u) (mX8_force n σM p d u) := by
  obtain ⟨hi, hx, hm⟩ := h
  have hB := hi.2.1.2
  have hP := hi.1.2
  have hO := hi.2.2.1
  have pX : σX.1 1 0 = nI P := hx.1.1.trans hi.1.1
  have oX' : σX.1 1 2 = nI O := hx.1.2.2.1.trans hO.1
  obtain ⟨g, g1, hm1, g3⟩ := r8_takesLoads (n := n) (by omega) hi hm
  have pM : (hv_wI σM 16 g).1 0 1 = nI P := hm1.1.1.trans hi.1.1
  have oM : (hv_wI σM 16 g).1 0 11 = nI O := hm1.1.2.2.1.trans hO.1
  have no : ∀ τX τM, rX F τX → rM F τM → kX8_force_51 n τM p d u = some (0, hv_sI τM 0 0 1) ∧ hR F P B O D W τX (hv_sI τM 0 0 1) ∧ (hv_sI τM 0 0 1).1 0 0 = 1 := fun τX τM h1 h2 => by
    refine ⟨?_, ⟨hi, h1, rM_sc h2 (by decide) 1⟩, by rw [hv_sI_rd, if_pos rfl]⟩
    unfold kX8_force_51 kX8_force_52
    rw [hv_let_e, hv_sI_rd, if_pos rfl, if_neg (by decide)]
  have hno : mX7_force n σX p d u = some (none, σX) → mX8_force n σM p d u = kX8_force_51 n (hv_wI σM 16 g) p d u → hT F P B O D W (mX7_force n σX p d u) (mX8_force n σM p d u) := fun e1 e2 => by
    obtain ⟨q1, q2, q3⟩ := no σX _ hx hm1
    exact ⟨σX, _, q2, Or.inr ⟨0, e1, e2.trans q1, q3⟩⟩
  by_cases hp : fN P p
  · by_cases hd : fN 2 d
    · obtain ⟨a, ha, rfl⟩ := hp
      obtain ⟨e, he, rfl⟩ := hd
      have ix : (2 : Int32) * nI a + nI e = nI (2 * a + e) := by rw [nI_2, nI_add]
      have hX := held_X hx (show a < 6 by omega) he
      have hM := held_M (n := n) hi (σ := hv_wI σM 16 g) (show a < 6 by omega) he
      have e3 : (hv_wI σM 16 g).1 3 = F 3 := hm1.2 3 (by decide) (by decide)
      have e7 : mX7_force n σX (nI a) (nI e) u = if σX.1 4 (2 * a + e) = 0 then some (none, σX) else (hv_b2 (mX7_bears n σX (nI O) 3) fun r61 s61 => if r61 = 0 then (kX7_force_71 n s61 u (nI (2 * a + e))) else (kX7_force_72 n s61 u (nI (2 * a + e)) ((1 : Int32)))) := by
        unfold mX7_force kX7_force_23
        rw [(x3_isPin (by omega) pX (nI a)).1 ⟨a, ha, rfl⟩, hv_b2_e, if_neg (by decide), (x7_isDirection (nI e)).1 ⟨e, he, rfl⟩, hv_b2_e, if_neg (by decide), need_1, ix, hv_let_e, hv_if_t (hv_ok_nI (show 2 * a + e < 12 by omega) (by decide)), nI_clamp (by omega), oX']
        by_cases c : σX.1 4 (2 * a + e) = 0
        · rw [if_pos c, if_pos c]
          unfold kX7_force_71 kX7_force_72
          rw [need_0]
        · rw [if_neg c, if_neg c]
      by_cases fr : fFree F (2 * a + e) = true
      · refine hno ?_ ?_
        · rw [e7, if_pos (hX.mpr fr)]
        · unfold mX8_force
          rw [g1, hv_bd_e, (r8_isPin (by omega) pM (nI a)).1 ⟨a, ha, rfl⟩, hv_b2_e, if_neg (by decide), (r8_inDir (nI e)).1 ⟨e, he, rfl⟩, hv_b2_e, if_neg (by decide), hv_if_t (hv_ok_nI (show a < 6 by omega) (by decide)), nI_clamp (by omega), e3, hM.1 fr, hv_b2_e, if_pos rfl]
      · have e8 : mX8_force n σM (nI a) (nI e) u = hv_b2 (mX8_bears n (hv_wI σM 16 g) (nI O)) fun r41 s41 => if r41 = 0 then (kX8_force_51 n s41 (nI a) (nI e) u) else (kX8_force_52 n s41 (nI a) (nI e) u ((0 : Int32))) := by
          unfold mX8_force
          rw [g1, hv_bd_e, (r8_isPin (by omega) pM (nI a)).1 ⟨a, ha, rfl⟩, hv_b2_e, if_neg (by decide), (r8_inDir (nI e)).1 ⟨e, he, rfl⟩, hv_b2_e, if_neg (by decide), hv_if_t (hv_ok_nI (show a < 6 by omega) (by decide)), nI_clamp (by omega), e3, hM.2 fr, hv_b2_e, if_neg (by decide), oM]
        rw [e7, e8, if_neg (fun q => fr (hX.mp q))]
        obtain ⟨τX, τM, r1, r2, -, -, -, r4⟩ := both_bears hn hi hO.2 hx hm1 (Or.inl rfl) (ldX hi hx) g3
        rcases r4 with ⟨y1, y2, -⟩ | ⟨y1, y2, -, y3⟩
        · obtain ⟨q1, q2, q3⟩ := no τX τM r1 r2
          refine ⟨τX, hv_sI τM 0 0 1, q2, Or.inr ⟨0, ?_, ?_, q3⟩⟩
          · rw [y1, hv_b2_e, if_pos rfl]
            unfold kX7_force_71 kX7_force_72
            rw [need_0]
          · rw [y2, hv_b2_e, if_pos rfl, q1]
        · obtain ⟨⟨k, w, hk, hkw, ho⟩, z24, z15, hup, hub, hob⟩ := y3
          have m0 : rM F (hv_sI τM 0 0 0) := rM_sc r2 (by decide) 0
          have e0 : (hv_sI τM 0 0 0).1 0 0 = 0 := by rw [hv_sI_rd, if_pos rfl]
          obtain ⟨le, lb⟩ := ldz_e hi (show 2 * a + e < 12 by omega)
          have ek : ldz F (2 * a + e) * uSum F P B O = k * (ldz F (2 * a + e) * w) := by rw [hkw]; grind
          obtain ⟨r, τX', t1, t2, t3⟩ := frc hn hi (fun s hs => (ldz_e hi hs).2) m0 (show (hv_sI τM 0 0 0).2 0 24 = _ from z24) (fun c hc => z15 c hc) r1 hk hkw ho hup hub hob (show a < 6 by omega) he u B 0 n n (ldz F (2 * a + e) * w) (by omega) (by omega) (by omega) (by
            rw [← ek, Int.natAbs_mul]
            have := Nat.mul_le_mul lb hub
            omega)
          refine ⟨τX', hv_sI τM 0 0 0, ⟨hi, rX_1 r1 (fun j _ => by rw [t3]), m0⟩, Or.inl ⟨r, ?_, ?_, e0⟩⟩
          · rw [y1, hv_b2_e, if_neg (by decide)]
            unfold kX7_force_72
            rw [need_1, hv_if_t (hv_ok_nI (show 2 * a + e < 12 by omega) (by decide)), nI_clamp (by omega), r1.2.2.1 (2 * a + e) (by omega), le, iI_L ⟨by omega, by omega⟩, (oX_m ho).2.2, iL_mul, hv_let_e]
            exact t1
          · rw [y2, hv_b2_e, if_neg (by decide)]
            unfold kX8_force_52
            have e24 : (hv_sI τM 0 0 0).2 0 24 = iL (uSum F P B O) := z24
            have e4 : (hv_sI τM 0 0 0).1 4 (2 * a + e) = iI (ldz F (2 * a + e)) := (congrFun (m0.2 4 (by decide) (by decide)) _).trans le
            rw [hv_let_e, e0, if_pos (by decide), ix, hv_if_t (hv_ok_nI (show 2 * a + e < 12 by omega) (by decide)), nI_clamp (by omega), e4, iI_L ⟨by omega, by omega⟩, e24, iL_mul, hv_let_e, ek]
            exact t2
    · refine hno ?_ ?_
      · unfold mX7_force kX7_force_22 kX7_force_23
        rw [(x3_isPin (by omega) pX p).1 hp, hv_b2_e, if_neg (by decide), (x7_isDirection d).2 hd, hv_b2_e, if_pos rfl, need_0]
      · unfold mX8_force
        rw [g1, hv_bd_e, (r8_isPin (by omega) pM p).1 hp, hv_b2_e, if_neg (by decide), (r8_inDir d).2 hd, hv_b2_e, if_pos rfl]
  · refine hno ?_ ?_
    · unfold mX7_force kX7_force_22 kX7_force_23
      rw [(x3_isPin (by omega) pX p).2 hp, hv_b2_e, if_pos rfl, need_0]
    · unfold mX8_force
      rw [g1, hv_bd_e, (r8_isPin (by omega) pM p).2 hp, hv_b2_e, if_pos rfl]
