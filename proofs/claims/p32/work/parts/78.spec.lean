/-! what the holds bear; painted, times, turn -/
theorem sumK_s (f : Nat → Int) (k : Nat) : sumK f (k + 1) = sumK f k + f k := rfl
theorem sumK_z (f : Nat → Int) : sumK f 0 = 0 := rfl
theorem x_frc {n : Nat} (hn : 2100 ≤ n) {F : Nat → Nat → Int32} {P B O D W : Nat} (hi : hI F P B O D W) {z : Nat → Int} (hz : ∀ s, s < 12 → (z s).natAbs ≤ 9) {σX : hv_St} (hx : rX F σX) {k w : Int} (hk : k ≠ 0) (hkw : uSum F P B O = k * w) (ho : oX F P B O k w z σX) (hup : 0 < uSum F P B O) (hub : (uSum F P B O).natAbs ≤ 2 ^ 52) (hob : ∀ c, (oSum F P B O z c).natAbs ≤ 2 ^ 57) {p d : Nat} (hp : p < 6) (hd : d < 2) (u : Int32) (L : Int) (hL : L.natAbs ≤ 144115188075855872) : ∀ (q b fx : Nat) (s : Int), b + q = B → q < fx → k * s = L + sumK (fun j => oSum F P B O z j * fBr F j p d) b → ∃ τX, kX7_force_99 n fx σX u (nI (2 * p + d)) (iL s) (nI b) = some (some (iL (tlN (-(L + sumK (fun j => oSum F P B O z j * fBr F j p d) B)) (uSum F P B O) (if u = 0 then -(L + sumK (fun j => oSum F P B O z j * fBr F j p d) B) else uSum F P B O))), τX) ∧ τX.1 = σX.1 := by
  have hB := hi.2.1.2
  have hO := hi.2.2.1
  have o31 : O < 2 ^ 31 := by have := p2048 hB hO.2; omega
  have bX' : σX.1 1 1 = nI B := hx.1.2.1.trans hi.2.1.1
  have hw := (oX_m ho).2.2
  have bw : w.natAbs ≤ 2 ^ 62 := Nat.le_trans (k_le hk hkw) (Nat.le_trans hub (by decide))
  have w0 : w ≠ 0 := fun q => by rw [hkw, q, Int.mul_zero] at hup; omega
  have sb : ∀ b, b ≤ B → (sumK (fun j => oSum F P B O z j * fBr F j p d) b).natAbs ≤ b * 432345564227567616 := fun b hbB => by
    refine sumK_bd b (fun j hj => ?_)
    have br := fBr_le hi (show j < B by omega) p d
    rw [Int.natAbs_mul]
    exact Nat.mul_le_mul (hob j) (show (fBr F j p d).natAbs ≤ 3 by omega)
  intro q
  induction q with
  | zero =>
    intro b fx s h1 h2 h4
    obtain ⟨fx, rfl⟩ : ∃ q, fx = q + 1 := ⟨fx - 1, by omega⟩
    obtain rfl : b = B := by omega
    have ss : s.natAbs ≤ (k * s).natAbs := k_le hk rfl
    have q1 := sb b (Nat.le_refl _)
    rw [← h4]
    have q2 : (k * s).natAbs ≤ 144115188075855872 + 11 * 432345564227567616 := by
      rw [h4]
      have := Int.natAbs_add_le L (sumK (fun j => oSum F P b O z j * fBr F j p d) b)
      have : b * 432345564227567616 ≤ 11 * 432345564227567616 := Nat.mul_le_mul_right _ hB
      omega
    have r1 : rL (-s) := ⟨by omega, by omega⟩
    have e1 : -(k * s) = k * -s := by grind
    refine ⟨hv_sJ (hv_sJ σX 26 0 (iL (tlN (-s) w (-s)))) 26 1 (iL (tlN (-s) w w)), ?_, rfl⟩
    show kX7_force_99_b n _ _ _ _ _ _ = _
    unfold kX7_force_99_b
    rw [bX', if_pos (nI_le (Nat.le_refl _) (by omega)), iL_neg, hw, x7_told (n := n) (by omega) r1 (rL_of bw) w0 u, hv_b2_e, e1, hkw]
    by_cases u0 : u = 0
    · rw [if_pos u0, if_pos u0, tlN_scale hk]
    · rw [if_neg u0, if_neg u0, tlN_scale hk]
  | succ q ih =>
    intro b fx s h1 h2 h4
    obtain ⟨fx, rfl⟩ : ∃ q, fx = q + 1 := ⟨fx - 1, by omega⟩
    have hbB : b < B := by omega
    have br := fBr_le hi hbB p d
    by_cases hbs : O.testBit b = true
    · have c1 := (x3_isOn (n := n) (by omega) bX' (nI b)).1 ((on_cell hi hx _).mpr ⟨b, rfl, hbB, hbs⟩)
      obtain ⟨oc, e1, e2⟩ := over_of (n := n) (by omega) hi hO.2 hz ho hbB hbs
      have st : kX7_force_99 n (fx + 1) σX u (nI (2 * p + d)) (iL s) (nI b) = kX7_force_99 n fx σX u (nI (2 * p + d)) (iL (s + fBr F b p d * oc)) (nI (b + 1)) := by
        show kX7_force_99_b n _ _ _ _ _ _ = _
        unfold kX7_force_99_b kX7_force_164
        rw [bX', if_neg (nI_ge hbB (by omega)), c1, hv_b2_e, if_neg (by decide), x3_brings hi hx hbB hp hd, hv_b2_e]
        by_cases z0 : fBr F b p d = 0
        · rw [if_pos ((iI_0 (by omega)).mpr z0), z0, Int.zero_mul, Int.add_zero, nI_1]
        · rw [if_neg (fun t => z0 ((iI_0 (by omega)).mp t)), x3_brings hi hx hbB hp hd, hv_b2_e, e2, hv_b2_e, iI_L ⟨by omega, by omega⟩, iL_mul, iL_add, hv_let_e, nI_1]
      rw [st]
      refine ih (b + 1) fx _ (by omega) (by omega) ?_
      rw [sumK_s, Int.mul_add, h4]
      show _ = L + (_ + oSum F P B O z b * fBr F b p d)
      rw [e1]
      grind
    · have st : kX7_force_99 n (fx + 1) σX u (nI (2 * p + d)) (iL s) (nI b) = kX7_force_99 n fx σX u (nI (2 * p + d)) (iL s) (nI (b + 1)) := by
        show kX7_force_99_b n _ _ _ _ _ _ = _
        unfold kX7_force_99_b kX7_force_164
        rw [bX', if_neg (nI_ge hbB (by omega)), (x3_isOn (n := n) (by omega) bX' (nI b)).2 (fun q => by
          obtain ⟨c, c1, c2, c3⟩ := (on_cell hi hx _).mp q
          rw [(nI_eq (by omega) (by omega)).mp c1] at hbs
          exact hbs c3), hv_b2_e, if_pos rfl, nI_1]
      rw [st]
      refine ih (b + 1) fx s (by omega) (by omega) ?_
      rw [sumK_s, h4]
      show _ = L + (_ + oSum F P B O z b * fBr F b p d)
      rw [oS_off hbs, Int.zero_mul, Int.add_zero]
/-- what a hold bears, over UNDER -/
def fcN (F : Nat → Nat → Int32) (P B O p d : Nat) : Int := -(ldz F (2 * p + d) * uSum F P B O + sumK (fun j => oSum F P B O (ldz F) j * fBr F j p d) B)
theorem x_force1 {n : Nat} (hn : 2100 ≤ n) {F : Nat → Nat → Int32} {P B O D W : Nat} (hi : hI F P B O D W) {σ : hv_St} (hx : rX F σ) {p d : Nat} (hp : p < P) (hd : d < 2) (u : Int32) : (fFree F (2 * p + d) = true → mX7_force n σ (nI p) (nI d) u = some (none, σ)) ∧ (¬ fFree F (2 * p + d) = true → fFirm F P B O → ∃ τ, rX F τ ∧ mX7_force n σ (nI p) (nI d) u = some (some (iL (tlN (fcN F P B O p d) (uSum F P B O) (if u = 0 then fcN F P B O p d else uSum F P B O))), τ)) := by
  have hB := hi.2.1.2
  have hP := hi.1.2
  have hO := hi.2.2.1
  have pX : σ.1 1 0 = nI P := hx.1.1.trans hi.1.1
  have oX' : σ.1 1 2 = nI O := hx.1.2.2.1.trans hO.1
  have ix : (2 : Int32) * nI p + nI d = nI (2 * p + d) := by rw [nI_2, nI_add]
  have hX := held_X hx (show p < 6 by omega) hd
  have e7 : mX7_force n σ (nI p) (nI d) u = if σ.1 4 (2 * p + d) = 0 then some (none, σ) else (hv_b2 (mX7_bears n σ (nI O) 3) fun r61 s61 => if r61 = 0 then (kX7_force_71 n s61 u (nI (2 * p + d))) else (kX7_force_72 n s61 u (nI (2 * p + d)) ((1 : Int32)))) := by
    unfold mX7_force kX7_force_23
    rw [(x3_isPin (by omega) pX (nI p)).1 ⟨p, hp, rfl⟩, hv_b2_e, if_neg (by decide), (x7_isDirection (nI d)).1 ⟨d, hd, rfl⟩, hv_b2_e, if_neg (by decide), need_1, ix, hv_let_e, hv_if_t (hv_ok_nI (show 2 * p + d < 12 by omega) (by decide)), nI_clamp (by omega), oX']
    by_cases c : σ.1 4 (2 * p + d) = 0
    · rw [if_pos c, if_pos c]
      unfold kX7_force_71 kX7_force_72
      rw [need_0]
    · rw [if_neg c, if_neg c]
  constructor
  · intro fr
    rw [e7, if_pos (hX.mpr fr)]
  · intro fr hf
    obtain ⟨τX, x1, x2, x3, x4⟩ := x7_bears hn hi hO.2 hx (Or.inl rfl) (ldX hi hx)
    obtain ⟨y1, y2, k, w, hk, hkw, ho⟩ := x3 hf
    have hm := oX_m ho
    have hpc := pc_leB hB hO.2
    have hub := uS_bd hi hO.2 hm.1 hm.2.1 (by omega)
    have hob := fun c => oS_bd hi hO.2 hm.1 hm.2.1 (by omega) (fun s hs => (ldz_e hi hs).2) c
    obtain ⟨le, lb⟩ := ldz_e hi (show 2 * p + d < 12 by omega)
    obtain ⟨τ', t1, t2⟩ := x_frc hn hi (fun s hs => (ldz_e hi hs).2) x1 hk hkw ho y2 hub hob (show p < 6 by omega) hd u (ldz F (2 * p + d) * uSum F P B O) (by
      rw [Int.natAbs_mul]
      have := Nat.mul_le_mul lb hub
      omega) B 0 n (ldz F (2 * p + d) * w) (by omega) (by omega) (by rw [sumK_z, Int.add_zero, hkw]; grind)
    refine ⟨τ', rX_1 x1 (fun j _ => by rw [t2]), ?_⟩
    rw [e7, if_neg (fun q => fr (hX.mp q)), y1, hv_b2_e, if_neg (by decide)]
    unfold kX7_force_72
    rw [need_1, hv_if_t (hv_ok_nI (show 2 * p + d < 12 by omega) (by decide)), nI_clamp (by omega), x1.2.2.1 (2 * p + d) (by omega), le, iI_L ⟨by omega, by omega⟩, hm.2.2, iL_mul, hv_let_e]
    exact t1
theorem xp_force {n : Nat} (hn : 2100 ≤ n) {F : Nat → Nat → Int32} {P B O D W : Nat} (hi : hI F P B O D W) {σ : hv_St} (hx : rX F σ) {p d : Nat} (hp : p < P) (hd : d < 2) : (fFree F (2 * p + d) = true → mQ_force n σ (nI p) (nI d) = some (none, σ)) ∧ (¬ fFree F (2 * p + d) = true → fFirm F P B O → ∃ τ, rX F τ ∧ mQ_force n σ (nI p) (nI d) = some (some (frQ (fcN F P B O p d) (uSum F P B O)), τ)) := by
  constructor
  · intro fr
    unfold mQ_force
    rw [(x_force1 hn hi hx hp hd 0).1 fr, hv_by_n]
  · intro fr hf
    obtain ⟨τ1, a1, a2⟩ := (x_force1 hn hi hx hp hd 0).2 fr hf
    obtain ⟨τ2, b1, b2⟩ := (x_force1 hn hi a1 hp hd 1).2 fr hf
    refine ⟨τ2, b1, ?_⟩
    unfold mQ_force
    rw [a2, hv_by_s, b2, hv_by_s]
    unfold frQ
    rw [if_pos rfl, if_neg (by decide)]
theorem xp_loose {n : Nat} (hn : 2100 ≤ n) {F : Nat → Nat → Int32} {P B O D W : Nat} (hi : hI F P B O D W) {σ : hv_St} (hx : rX F σ) (hf : ¬ fFirm F P B O) : (∃ τ, rX F τ ∧ mX7_painted n σ 0 = some (-1, τ)) ∧ ∃ τ, rX F τ ∧ mX7_times n σ = some (-1, τ) := by
  have hO := hi.2.2.1
  have oX' : σ.1 1 2 = nI O := hx.1.2.2.1.trans hO.1
  obtain ⟨τX, x1, x2, x3, x4⟩ := x7_bears hn hi hO.2 hx (Or.inl rfl) (ldX hi hx)
  refine ⟨⟨τX, x1, ?_⟩, τX, x1, ?_⟩
  · unfold mX7_painted
    rw [if_neg (by decide), if_neg (by decide), oX', x4 hf, hv_b2_e, if_pos rfl]
  · unfold mX7_times
    rw [oX', x4 hf, hv_b2_e, if_pos rfl]
theorem xp_painted1 {n : Nat} (hn : 2100 ≤ n) {F : Nat → Nat → Int32} {P D W : Nat} (hi : hI F P 0 0 D W) {σ : hv_St} (hx : rX F σ) (hf : fFirm F P 0 0) : ∃ τ, rX F τ ∧ mX7_painted n σ 1 = some (0, τ) := by
  have hO := hi.2.2.1
  have oX' : σ.1 1 2 = nI 0 := hx.1.2.2.1.trans hO.1
  obtain ⟨τX, x1, x2, x3, x4⟩ := x7_bears hn hi hO.2 hx (Or.inl rfl) (ldX hi hx)
  refine ⟨τX, x1, ?_⟩
  unfold mX7_painted
  rw [if_neg (by decide), if_neg (by decide), oX', (x3 hf).1, hv_b2_e, if_neg (by decide)]
  obtain ⟨n, rfl⟩ : ∃ q, n = q + 1 := ⟨n - 1, by omega⟩
  show kX7_painted_37_b (n + 1) _ _ _ _ _ = _
  unfold kX7_painted_37_b
  rw [x1.1.2.1.trans hi.2.1.1, if_pos (show nI 0 ≤ 0 by decide)]
