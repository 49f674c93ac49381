/-! cut: the class's columns -/
def mcX (σ : hv_St) (c : Nat) (a0 a1 a2 : Int) : Prop := σ.2 52 c = iL a0 ∧ σ.2 53 c = iL a1 ∧ σ.2 54 c = iL a2
theorem x1_clear {n : Nat} (hn : 12 < n) {σ : hv_St} {c : Nat} (hc : c < 4) : mX1_clear n σ (nI c) = some (hv_sJ (hv_sJ (hv_sJ σ 52 c 0) 53 c 0) 54 c 0) := by
  have key : ∀ fuel, kX1_clear_2 n (fuel + 4) σ (nI c) (nI 0) = some (hv_sJ (hv_sJ (hv_sJ σ 52 c 0) 53 c 0) 54 c 0) := fun fuel => by
    have st : ∀ (k : Nat) (f : Nat) (s : hv_St), k < 3 → kX1_clear_2 n (f + 1) s (nI c) (nI k) = kX1_clear_2 n f (hv_sJ s (52 + k) c 0) (nI c) (nI (k + 1)) := fun k f s hk => by
      show kX1_clear_2_b n _ _ _ _ = _
      unfold kX1_clear_2_b
      rw [if_neg (show ¬ (3 : Int32) ≤ nI k from nI_ge (b := 3) hk (by decide)), hv_if_t (hv_ok_nI (show k < 3 by omega) (by decide)), hv_if_t (hv_ok_nI (show c < 4 by omega) (by decide)), hv_let_e, nI_clamp (show k < 2 ^ 31 by omega), nI_clamp (show c < 2 ^ 31 by omega), nI_1]
    rw [st 0 (fuel + 3) _ (by omega), st 1 (fuel + 2) _ (by omega), st 2 (fuel + 1) _ (by omega)]
    show kX1_clear_2_b n _ _ _ _ = _
    unfold kX1_clear_2_b
    rw [if_pos (show (3 : Int32) ≤ nI (2 + 1) by decide)]
  obtain ⟨f, rfl⟩ : ∃ f, n = f + 4 := ⟨n - 4, by omega⟩
  exact key f
theorem mcX_clear (σ : hv_St) (c : Nat) : mcX (hv_sJ (hv_sJ (hv_sJ σ 52 c 0) 53 c 0) 54 c 0) c 0 0 0 := by
  refine ⟨?_, ?_, ?_⟩
  · rw [hv_sJ_ne _ _ _ (by decide), hv_sJ_ne _ _ _ (by decide), hv_sJ_rd, if_pos rfl]; rfl
  · rw [hv_sJ_ne _ _ _ (by decide), hv_sJ_rd, if_pos rfl]; rfl
  · rw [hv_sJ_rd, if_pos rfl]; rfl
theorem mcX_ne {σ : hv_St} {c d : Nat} (h : d ≠ c) {a0 a1 a2 : Int} (hm : mcX σ d a0 a1 a2) (x y z : Int64) : mcX (hv_sJ (hv_sJ (hv_sJ σ 52 c x) 53 c y) 54 c z) d a0 a1 a2 := by
  refine ⟨?_, ?_, ?_⟩
  · rw [hv_sJ_ne _ _ _ (by decide), hv_sJ_ne _ _ _ (by decide), hv_sJ_rd, if_neg h]; exact hm.1
  · rw [hv_sJ_ne _ _ _ (by decide), hv_sJ_rd, if_neg h, hv_sJ_ne _ _ _ (by decide)]; exact hm.2.1
  · rw [hv_sJ_rd, if_neg h, hv_sJ_ne _ _ _ (by decide), hv_sJ_ne _ _ _ (by decide)]; exact hm.2.2
def mom (F : Nat → Nat → Int32) (p : Nat) (x y : Int) : Int := fX F p 0 * y - fX F p 1 * x
theorem fX_I0 (F : Nat → Nat → Int32) (p : Nat) : F 1 p = iI (fX F p 0) := iI_of _
theorem fX_I1 (F : Nat → Nat → Int32) (p : Nat) : F 2 p = iI (fX F p 1) := iI_of _
theorem mom_bd {F : Nat → Nat → Int32} {P B O D W : Nat} (hi : hI F P B O D W) {p : Nat} (hp : p < P) {x y : Int} {M : Nat} (hx : x.natAbs ≤ M) (hy : y.natAbs ≤ M) : (mom F p x y).natAbs ≤ 5 * M := by
  have h0 := fX_le hi hp 0
  have h1 := fX_le hi hp 1
  rw [if_pos rfl] at h0
  rw [if_neg (by decide)] at h1
  unfold mom
  have m0 : (fX F p 0 * y).natAbs ≤ 3 * M := by rw [Int.natAbs_mul]; exact Nat.mul_le_mul (by omega) hy
  have m1 : (fX F p 1 * x).natAbs ≤ 2 * M := by rw [Int.natAbs_mul]; exact Nat.mul_le_mul (by omega) hx
  omega
theorem x1_add {n : Nat} {F : Nat → Nat → Int32} {P B O D W : Nat} (hi : hI F P B O D W) {σ : hv_St} (hx : rX F σ) {c p : Nat} (hc : c < 4) (hp : p < P) {x y a0 a1 a2 : Int} (bx : x.natAbs ≤ 9) (by' : y.natAbs ≤ 9) (hm : mcX σ c a0 a1 a2) : ∃ u v w, mX1_add n σ (nI c) (nI p) (iI x) (iI y) = some (hv_sJ (hv_sJ (hv_sJ σ 52 c u) 53 c v) 54 c w) ∧ mcX (hv_sJ (hv_sJ (hv_sJ σ 52 c u) 53 c v) 54 c w) c (a0 + x) (a1 + y) (a2 + mom F p x y) := by
  have hP := hi.1.2
  have k0 : hv_ok (0 : Int32) 3 = true := rfl
  have k1 : hv_ok (1 : Int32) 3 = true := rfl
  have k2 : hv_ok (2 : Int32) 3 = true := rfl
  have kc : hv_ok (nI c) 4 = true := hv_ok_nI hc (by decide)
  have ka : hv_ok (nI (2 * p)) 12 = true := hv_ok_nI (by omega) (by decide)
  have kb : hv_ok (nI (2 * p + 1)) 12 = true := hv_ok_nI (by omega) (by decide)
  have mb := mom_bd hi hp bx by'
  have t0 : (52 + (0 : Int32).toNatClampNeg) = 52 := rfl
  have t1 : (52 + (1 : Int32).toNatClampNeg) = 53 := rfl
  have t2 : (52 + (2 : Int32).toNatClampNeg) = 54 := rfl
  have e20 : σ.1 2 (2 * p) = iI (fX F p 0) := ((hx.2.1 p (by omega)).1).trans (fX_I0 F p)
  have e21 : σ.1 2 (2 * p + 1) = iI (fX F p 1) := ((hx.2.1 p (by omega)).2).trans (fX_I1 F p)
  refine ⟨iL (a0 + x), iL (a1 + y), iL (a2 + mom F p x y), ?_, ?_, ?_, ?_⟩
  · unfold mX1_add
    rw [nI_2, nI_ld, hv_if_t k0, hv_if_t kc, hv_if_t kc, t0, t1, t2, nI_clamp (show c < 2 ^ 31 by omega), hm.1, iI_L ⟨by omega, by omega⟩, iL_add, hv_let_e, hv_if_t k1, hv_if_t kc, hv_if_t kc, hv_sJ_ne _ _ _ (show (53 : Nat) ≠ 52 by decide), hm.2.1, iI_L (a := y) ⟨by omega, by omega⟩, iL_add, hv_let_e, hv_if_t k2, hv_if_t kc, hv_if_t ka, hv_if_t kb, hv_if_t kc, hv_sJ_ne _ _ _ (show (54 : Nat) ≠ 53 by decide), hv_sJ_ne _ _ _ (show (54 : Nat) ≠ 52 by decide), hm.2.2, nI_clamp (show 2 * p < 2 ^ 31 by omega), nI_clamp (show 2 * p + 1 < 2 ^ 31 by omega)]
    show (hv_let (hv_sJ _ 54 c (iL a2 + (σ.1 2 (2 * p) * iI y - σ.1 2 (2 * p + 1) * iI x).toInt64)) fun s68 => some s68) = _
    rw [e20, e21, iI_mul, iI_mul, iI_sub]
    show (hv_let (hv_sJ _ 54 c (iL a2 + (iI (mom F p x y)).toInt64)) fun s68 => some s68) = _
    rw [iI_L ⟨by omega, by omega⟩, iL_add, hv_let_e]
  · rw [hv_sJ_ne _ _ _ (by decide), hv_sJ_ne _ _ _ (by decide), hv_sJ_rd, if_pos rfl]
  · rw [hv_sJ_ne _ _ _ (by decide), hv_sJ_rd, if_pos rfl]
  · rw [hv_sJ_rd, if_pos rfl]
def d3f (a b c : Nat → Int) : Int := a 0 * (b 1 * c 2 - c 1 * b 2) + b 0 * (c 1 * a 2 - a 1 * c 2) + c 0 * (a 1 * b 2 - b 1 * a 2)
def mcF (σ : hv_St) (c : Nat) (a : Nat → Int) : Prop := mcX σ c (a 0) (a 1) (a 2)
theorem x1_det {n : Nat} {σ : hv_St} {p q r : Nat} (hp : p < 4) (hq : q < 4) (hr : r < 4) {a b c : Nat → Int} (ha : mcF σ p a) (hb : mcF σ q b) (hc : mcF σ r c) : mX1_determinant n σ (nI p) (nI q) (nI r) = some (iL (d3f a b c), σ) := by
  have k0 : hv_ok (0 : Int32) 3 = true := rfl
  have k1 : hv_ok (1 : Int32) 3 = true := rfl
  have k2 : hv_ok (2 : Int32) 3 = true := rfl
  have kp : hv_ok (nI p) 4 = true := hv_ok_nI hp (by decide)
  have kq : hv_ok (nI q) 4 = true := hv_ok_nI hq (by decide)
  have kr : hv_ok (nI r) 4 = true := hv_ok_nI hr (by decide)
  have t0 : (52 + (0 : Int32).toNatClampNeg) = 52 := rfl
  have t1 : (52 + (1 : Int32).toNatClampNeg) = 53 := rfl
  have t2 : (52 + (2 : Int32).toNatClampNeg) = 54 := rfl
  unfold mX1_determinant
  simp only [hv_if_t k0, hv_if_t k1, hv_if_t k2, hv_if_t kp, hv_if_t kq, hv_if_t kr, hv_let_e, t0, t1, t2, nI_clamp (show p < 2 ^ 31 by omega), nI_clamp (show q < 2 ^ 31 by omega), nI_clamp (show r < 2 ^ 31 by omega)]
  rw [ha.1, ha.2.1, ha.2.2, hb.1, hb.2.1, hb.2.2, hc.1, hc.2.1, hc.2.2]
  simp only [iL_mul, iL_sub, iL_add]
  rfl
theorem d3f_dt (m : Nat → md_V) : md_dt (List.range 3) m 3 = d3f (m 0) (m 1) (m 2) := by
  show md_D [0, 1, 2] [m 0, m 1, m 2] = _
  simp only [md_D, md_alt]
  unfold d3f
  grind
