/-! cut: the class divides -/
def cC (F : Nat → Nat → Int32) (S b : Nat) : Nat → Int := fun r => if r = 0 then fBr F b (fE F S b) 0 else if r = 1 then fBr F b (fE F S b) 1 else mom F (fE F S b) (fBr F b (fE F S b) 0) (fBr F b (fE F S b) 1)
def lO (F : Nat → Nat → Int32) (p r : Nat) : Int := if r = 0 then ldz F (2 * p) else if r = 1 then ldz F (2 * p + 1) else mom F p (ldz F (2 * p)) (ldz F (2 * p + 1))
def lC (F : Nat → Nat → Int32) (S : Nat) : Nat → Nat → Int
  | 0 => fun _ => 0
  | k + 1 => fun r => lC F S k r + if S.testBit k = true then lO F k r else 0
def wr (c : Nat) (σ τ : hv_St) : Prop := τ.1 = σ.1 ∧ ∀ j d, d ≠ c → τ.2 j d = σ.2 j d
theorem wr_tr {c : Nat} {σ τ υ : hv_St} (h : wr c σ τ) (g : wr c τ υ) : wr c σ υ := ⟨g.1.trans h.1, fun j d hd => (g.2 j d hd).trans (h.2 j d hd)⟩
theorem wr_J {c k : Nat} {σ τ : hv_St} (h : wr c σ τ) (v : Int64) : wr c σ (hv_sJ τ k c v) := ⟨h.1, fun j d hd => by
  by_cases e : j = k
  · rw [e, hv_sJ_rd, if_neg hd]
    exact h.2 k d hd
  · rw [hv_sJ_ne _ _ _ e]
    exact h.2 j d hd⟩
theorem wr_rfl (c : Nat) (σ : hv_St) : wr c σ σ := ⟨rfl, fun _ _ _ => rfl⟩
theorem wr_F {c d : Nat} {σ τ : hv_St} (h : wr c σ τ) (hd : d ≠ c) {a : Nat → Int} (hm : mcF σ d a) : mcF τ d a := by
  refine ⟨?_, ?_, ?_⟩
  · rw [h.2 52 d hd]; exact hm.1
  · rw [h.2 53 d hd]; exact hm.2.1
  · rw [h.2 54 d hd]; exact hm.2.2
theorem fE_lt {F : Nat → Nat → Int32} {P B O D W : Nat} (hi : hI F P B O D W) (S : Nat) {b : Nat} (hb : b < B) : fE F S b < P := by
  obtain ⟨a1, a2, a3, a4⟩ := hI_ends hi hb
  unfold fE
  by_cases t : S.testBit (fA F b) = true
  · rw [if_pos t]; exact a2
  · rw [if_neg t]; exact a4
theorem x1_e90 {n : Nat} {F : Nat → Nat → Int32} {P B O D W : Nat} (hi : hI F P B O D W) {S : Nat} (hS : S < 2 ^ P) {σ : hv_St} (hx : rX F σ) {i b : Nat} (hi3 : i < 3) (hb : b < B) (h20 : σ.1 20 i = nI b) (fuel : Nat) : kX1_divides_44 n (fuel + 1) σ (nI S) (nI i) = kX1_divides_90 n (kX1_divides_44 n fuel) σ (nI S) (nI i) (nI (fE F S b)) := by
  have hP := hi.1.2
  have hB := hi.2.1.2
  have s31 : S < 2 ^ 31 := Nat.lt_of_lt_of_le hS (Nat.pow_le_pow_right (by decide) (by omega))
  obtain ⟨a1, a2, a3, a4⟩ := hI_ends hi hb
  have e5 : σ.1 5 b = nI (fA F b) := ((hx.2.2.2.2.1 b (by omega)).1).trans a1
  have e6 : σ.1 6 b = nI (fC F b) := ((hx.2.2.2.2.1 b (by omega)).2.1).trans a3
  have fa := fB_iff (s := S) (k := fA F b) s31 (by omega)
  show kX1_divides_44_b n _ _ _ _ = _
  unfold kX1_divides_44_b
  rw [if_neg (show ¬ (3 : Int32) ≤ nI i from nI_ge (b := 3) hi3 (by decide)), hv_if_t (hv_ok_nI hi3 (by decide)), nI_clamp (show i < 2 ^ 31 by omega), h20, hv_if_t (hv_ok_nI (show b < 11 by omega) (by decide)), nI_clamp (show b < 2 ^ 31 by omega), e5, hv_let_e]
  unfold fE
  by_cases c : S.testBit (fA F b) = true
  · rw [(x7_has _ _).1 (fa.mpr c), hv_b2_e, if_neg (by decide), if_pos c]
  · rw [(x7_has _ _).2 (fun z => c (fa.mp z)), hv_b2_e, if_pos rfl, if_neg c, hv_if_t (hv_ok_nI hi3 (by decide)), h20, hv_if_t (hv_ok_nI (show b < 11 by omega) (by decide)), nI_clamp (show b < 2 ^ 31 by omega), e6]
theorem x1_c90 {n : Nat} (hn : 12 < n) {F : Nat → Nat → Int32} {P B O D W : Nat} (hi : hI F P B O D W) {S : Nat} {r44 : hv_St → Int32 → Int32 → Option (Int32 × hv_St)} {σ σ' : hv_St} {i b : Nat} (hi3 : i < 3) (hc : mX1_clear n σ (nI i) = some σ') (hx : rX F σ') (hb : b < B) (h20 : σ'.1 20 i = nI b) (hz : mcX σ' i 0 0 0) (hw : wr i σ σ') : ∃ τ, kX1_divides_90 n r44 σ (nI S) (nI i) (nI (fE F S b)) = r44 τ (nI S) (nI (i + 1)) ∧ wr i σ τ ∧ mcF τ i (cC F S b) := by
  have hP := hi.1.2
  have el := fE_lt hi S hb
  have r0 := x3_brings (n := n) hi hx hb (p := fE F S b) (w := 0) (by omega) (by decide)
  have r1 := x3_brings (n := n) hi hx hb (p := fE F S b) (w := 1) (by omega) (by decide)
  rw [Nat.add_zero] at r0
  have b0 := fBr_le hi hb (fE F S b) 0
  have b1 := fBr_le hi hb (fE F S b) 1
  obtain ⟨u, v, w, t1, t2⟩ := x1_add (n := n) hi hx (c := i) (by omega) el (x := fBr F b (fE F S b) 0) (y := fBr F b (fE F S b) 1) (by omega) (by omega) hz
  rw [Int.zero_add, Int.zero_add, Int.zero_add] at t2
  refine ⟨hv_sJ (hv_sJ (hv_sJ σ' 52 i u) 53 i v) 54 i w, ?_, wr_J (wr_J (wr_J hw _) _) _, ?_⟩
  rotate_left
  · have e0 : cC F S b 0 = fBr F b (fE F S b) 0 := if_pos rfl
    have e1 : cC F S b 1 = fBr F b (fE F S b) 1 := (if_neg (by decide)).trans (if_pos rfl)
    have e2 : cC F S b 2 = mom F (fE F S b) (fBr F b (fE F S b) 0) (fBr F b (fE F S b) 1) := (if_neg (by decide)).trans (if_neg (by decide))
    unfold mcF
    rw [e0, e1, e2]
    exact t2
  unfold kX1_divides_90
  rw [hc, hv_bd_e, hv_if_t (hv_ok_nI hi3 (by decide)), nI_clamp (show i < 2 ^ 31 by omega), h20, nI_2, r0, hv_b2_e, hv_if_t (hv_ok_nI hi3 (by decide)), h20, nI_ld, r1, hv_b2_e, t1, hv_bd_e, nI_1]
theorem x1_step {n : Nat} (hn : 12 < n) {F : Nat → Nat → Int32} {P B O D W : Nat} (hi : hI F P B O D W) {S : Nat} (hS : S < 2 ^ P) {σ : hv_St} (hx : rX F σ) {i b : Nat} (hi3 : i < 3) (hb : b < B) (h20 : σ.1 20 i = nI b) (fuel : Nat) : ∃ τ, kX1_divides_44 n (fuel + 1) σ (nI S) (nI i) = kX1_divides_44 n fuel τ (nI S) (nI (i + 1)) ∧ wr i σ τ ∧ mcF τ i (cC F S b) := by
  rw [x1_e90 hi hS hx hi3 hb h20 fuel]
  exact x1_c90 hn hi hi3 (x1_clear hn (by omega)) (rX_1 hx (fun _ _ => rfl)) hb h20 (mcX_clear σ i) (wr_J (wr_J (wr_J (wr_rfl i σ) _) _) _)
theorem x1_loads {n : Nat} {F : Nat → Nat → Int32} {P B O D W : Nat} (hi : hI F P B O D W) {S : Nat} (hS : S < 2 ^ P) : ∀ (d p fuel : Nat) (σ : hv_St), p + d = P → d < fuel → rX F σ → mcF σ 3 (lC F S p) → ∃ τ, kX1_addLoads_7 n fuel σ (nI S) (nI p) = some τ ∧ wr 3 σ τ ∧ mcF τ 3 (lC F S P) := by
  have hP := hi.1.2
  have s31 : S < 2 ^ 31 := Nat.lt_of_lt_of_le hS (Nat.pow_le_pow_right (by decide) (by omega))
  intro d
  induction d with
  | zero =>
    intro p fuel σ h1 h2 hx hm
    obtain ⟨fuel, rfl⟩ : ∃ q, fuel = q + 1 := ⟨fuel - 1, by omega⟩
    obtain rfl : p = P := by omega
    refine ⟨σ, ?_, wr_rfl 3 σ, hm⟩
    show kX1_addLoads_7_b n _ _ _ _ = _
    unfold kX1_addLoads_7_b
    rw [hx.1.1.trans hi.1.1, if_pos (nI_le (Nat.le_refl _) (by omega))]
  | succ d ih =>
    intro p fuel σ h1 h2 hx hm
    obtain ⟨fuel, rfl⟩ : ∃ q, fuel = q + 1 := ⟨fuel - 1, by omega⟩
    have fb := fB_iff (s := S) (k := p) s31 (by omega)
    have pX : σ.1 1 0 = nI P := hx.1.1.trans hi.1.1
    have es : lC F S (p + 1) = fun r => lC F S p r + if S.testBit p = true then lO F p r else 0 := rfl
    by_cases c : S.testBit p = true
    · have l0 := ldX hi hx (2 * p) (by omega)
      have l1 := ldX hi hx (2 * p + 1) (by omega)
      obtain ⟨u, v, w, t1, t2⟩ := x1_add (n := n) hi hx (c := 3) (by omega) (show p < P by omega) (x := ldz F (2 * p)) (y := ldz F (2 * p + 1)) l0.2 l1.2 hm
      obtain ⟨τ, k1, k2, k3⟩ := ih (p + 1) fuel (hv_sJ (hv_sJ (hv_sJ σ 52 3 u) 53 3 v) 54 3 w) (by omega) (by omega) (rX_1 hx (fun _ _ => rfl)) (by
        rw [es]
        unfold mcF
        dsimp only
        have e0 : lO F p 0 = ldz F (2 * p) := if_pos rfl
        have e1 : lO F p 1 = ldz F (2 * p + 1) := (if_neg (by decide)).trans (if_pos rfl)
        have e2 : lO F p 2 = mom F p (ldz F (2 * p)) (ldz F (2 * p + 1)) := (if_neg (by decide)).trans (if_neg (by decide))
        rw [if_pos c, if_pos c, if_pos c, e0, e1, e2]
        exact t2)
      refine ⟨τ, ?_, wr_tr (wr_J (wr_J (wr_J (wr_rfl 3 σ) _) _) _) k2, k3⟩
      rw [← k1]
      show kX1_addLoads_7_b n _ _ _ _ = _
      unfold kX1_addLoads_7_b kX1_addLoads_56
      rw [pX, if_neg (nI_ge (by omega) (by omega)), (x7_has _ _).1 (fb.mpr c), hv_b2_e, if_neg (by decide), nI_2, nI_ld, hv_if_t (hv_ok_nI (show 2 * p < 12 by omega) (by decide)), hv_if_t (hv_ok_nI (show 2 * p + 1 < 12 by omega) (by decide)), nI_clamp (show 2 * p < 2 ^ 31 by omega), nI_clamp (show 2 * p + 1 < 2 ^ 31 by omega), l0.1, l1.1]
      have t1' : mX1_add n σ (3 : Int32) (nI p) (iI (ldz F (2 * p))) (iI (ldz F (2 * p + 1))) = _ := t1
      rw [t1', hv_bd_e, nI_1]
    · obtain ⟨τ, k1, k2, k3⟩ := ih (p + 1) fuel σ (by omega) (by omega) hx (by
        rw [es]
        unfold mcF
        dsimp only
        rw [if_neg c, if_neg c, if_neg c, Int.add_zero, Int.add_zero, Int.add_zero]
        exact hm)
      refine ⟨τ, ?_, k2, k3⟩
      rw [← k1]
      show kX1_addLoads_7_b n _ _ _ _ = _
      unfold kX1_addLoads_7_b kX1_addLoads_56
      rw [pX, if_neg (nI_ge (by omega) (by omega)), (x7_has _ _).2 (fun z => c (fb.mp z)), hv_b2_e, if_pos rfl, nI_1]
theorem cC_bd {F : Nat → Nat → Int32} {P B O D W : Nat} (hi : hI F P B O D W) (S : Nat) {b : Nat} (hb : b < B) (r : Nat) : (cC F S b r).natAbs ≤ 15 := by
  have b0 := fBr_le hi hb (fE F S b) 0
  have b1 := fBr_le hi hb (fE F S b) 1
  have m := mom_bd hi (fE_lt hi S hb) (x := fBr F b (fE F S b) 0) (y := fBr F b (fE F S b) 1) (M := 3) (by omega) (by omega)
  unfold cC
  by_cases r0 : r = 0
  · rw [if_pos r0]; omega
  · rw [if_neg r0]
    by_cases r1 : r = 1
    · rw [if_pos r1]; omega
    · rw [if_neg r1]; omega
theorem lO_bd {F : Nat → Nat → Int32} {P B O D W : Nat} (hi : hI F P B O D W) {p : Nat} (hp : p < P) (r : Nat) : (lO F p r).natAbs ≤ 45 := by
  have hP := hi.1.2
  have l0 := (ldz_e hi (show 2 * p < 12 by omega)).2
  have l1 := (ldz_e hi (show 2 * p + 1 < 12 by omega)).2
  have m := mom_bd hi hp l0 l1
  unfold lO
  by_cases r0 : r = 0
  · rw [if_pos r0]; omega
  · rw [if_neg r0]
    by_cases r1 : r = 1
    · rw [if_pos r1]; omega
    · rw [if_neg r1]; omega
theorem lC_bd {F : Nat → Nat → Int32} {P B O D W : Nat} (hi : hI F P B O D W) (S r : Nat) : ∀ k, k ≤ P → (lC F S k r).natAbs ≤ 45 * k
  | 0, _ => by
    show (0 : Int).natAbs ≤ _
    simp
  | k + 1, h => by
    have q := lC_bd hi S r k (by omega)
    have l := lO_bd hi (show k < P by omega) r
    show (lC F S k r + if S.testBit k = true then lO F k r else 0).natAbs ≤ _
    by_cases c : S.testBit k = true
    · rw [if_pos c]; omega
    · rw [if_neg c]; omega
theorem col_W {M : Nat} {v : md_V} (h : ∀ k, k < 3 → (v k).natAbs ≤ M) (hM : M ≤ 270) : md_W (List.range 3) v 810 := md_W_le (md_W_box h) (by omega)
theorem d3_bd {m : Nat → md_V} (h : ∀ c, c < 3 → ∀ k, k < 3 → (m c k).natAbs ≤ 270) : (d3f (m 0) (m 1) (m 2)).natAbs ≤ 2 ^ 30 := by
  rw [← d3f_dt]
  have q := md_dt_W (R := List.range 3) (nd_range _) (w := 810) (n := 3) (A := m) (fun k hk => col_W (h k hk) (Nat.le_refl _))
  exact Nat.le_trans q (by decide)
