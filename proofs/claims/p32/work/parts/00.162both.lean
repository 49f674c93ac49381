/-! both sides bear alike -/
theorem x7_bears {n : Nat} (hn : 2100 ≤ n) {F : Nat → Nat → Int32} {P B O D W : Nat} (hi : hI F P B O D W) {S : Nat} (hS : S < 2 ^ B) {σ : hv_St} (hx : rX F σ) {q : Nat} (hq : q = 3 ∨ q = 25) {z : Nat → Int} (hz : ∀ s, s < 12 → σ.1 q s = iI (z s) ∧ (z s).natAbs ≤ 9) : ∃ τ, rX F τ ∧ (∀ j, j ≠ 9 → j ≠ 11 → j ≠ 12 → j ≠ 13 → τ.1 j = σ.1 j) ∧ (fFirm F P B S → mX7_bears n σ (nI S) q = some (1, τ) ∧ 0 < uSum F P B S ∧ ∃ k w, k ≠ 0 ∧ uSum F P B S = k * w ∧ oX F P B S k w z τ) ∧ (¬ fFirm F P B S → mX7_bears n σ (nI S) q = some (0, τ)) := by
  have hB := hi.2.1.2
  have h2B : 2 ^ B ≤ 2048 := Nat.le_trans (Nat.pow_le_pow_right (by decide) hB) (by decide)
  obtain ⟨τ1, a1, a2, a3, a4⟩ := x0_settle (n := n) (by omega) hi (show S < 2 ^ 31 by omega) hx
  have ek := x0_kind (n := n) hi a4
  have hk4 := fKind_le F P B S
  have f1 : ∀ j, j ≠ 9 → j ≠ 11 → j ≠ 12 → τ1.1 j = σ.1 j := fun j j1 j2 j3 => a2.1 j (fun q => by rcases q with q | q | q <;> omega)
  by_cases hf : fFirm F P B S
  · obtain ⟨τ2, k, w, p1, ⟨A, e, hqA⟩, p3, p4⟩ := x5_prepare (n := n) (by omega) hi hS a3 a4 hf
    obtain ⟨g, g1, g2, g3⟩ := x_bear (n := n) (by omega) hi (S := S) (k := k) (w := w) (A := A) (e := e) (τ := τ2) hqA (q := q) (z := z) (fun s hs => by
      rw [p3 q (by omega), f1 q (by omega) (by omega) (by omega)]
      exact hz s hs)
    have hqA' := hqA
    obtain ⟨ht, hzf, -, hm2, hpc, -, -, -, -, -, hk, hu⟩ := hqA'
    refine ⟨hv_wJ τ2 14 g, rX_1 a3 (fun j hj => p3 j (by omega)), fun j j1 j2 j3 j4 => (p3 j j4).trans (f1 j j1 j2 j3), fun _ => ⟨?_, uS_pos hi hS hzf ht.2.1 hm2 hpc, k, w, ?_, hu, A, e, g2, g3⟩, fun q => absurd hf q⟩
    · unfold mX7_bears
      have n0 : ¬ nI (fKind F P B S) = 0 := fun q => by
        have := (nI_0e (by omega)).mp q
        have := hf.1
        omega
      have n4 : ¬ nI (fKind F P B S) = (4 : Int32) := fun q => by
        have := (nI_eq (b := 4) (by omega) (by decide)).mp q
        have := hf.2
        omega
      rw [a1, hv_bd_e, ek, hv_b2_e, if_neg n0, if_neg n4, p1, hv_bd_e, g1, hv_bd_e]
    · rw [hk]
      by_cases m : (fSp F P B S).length = 0
      · rw [if_pos m]
        exact pm_ne ht.1 ht.2.1
      · rw [if_neg m]
        decide
  · refine ⟨τ1, a3, fun j j1 j2 j3 _ => f1 j j1 j2 j3, fun q => absurd q hf, fun _ => ?_⟩
    unfold mX7_bears
    rw [a1, hv_bd_e, ek, hv_b2_e]
    by_cases c0 : fKind F P B S = 0
    · rw [c0, if_pos (show nI 0 = 0 from rfl)]
    · have c4 : fKind F P B S = 4 := by
        unfold fFirm at hf
        omega
      rw [c4, if_neg (show ¬ nI 4 = 0 by decide), if_pos (show nI 4 = (4 : Int32) from rfl)]
def bF (F : Nat → Nat → Int32) (P B S : Nat) (z : Nat → Int) (τX τM : hv_St) : Prop := (∃ k w, k ≠ 0 ∧ uSum F P B S = k * w ∧ oX F P B S k w z τX) ∧ τM.2 0 24 = iL (uSum F P B S) ∧ (∀ c, c < B → τM.2 15 c = iL (oSum F P B S z c)) ∧ 0 < uSum F P B S ∧ (uSum F P B S).natAbs ≤ 2 ^ 52 ∧ ∀ c, (oSum F P B S z c).natAbs ≤ 2 ^ 57
theorem oX_m {F : Nat → Nat → Int32} {P B S : Nat} {k w : Int} {z : Nat → Int} {τ : hv_St} (h : oX F P B S k w z τ) : (fSp F P B S).length ≤ 2 ∧ pc S = fN' F P + (fSp F P B S).length ∧ τ.2 13 6 = iL w := by
  obtain ⟨A, e, ⟨-, -, -, hm2, hpc, -, -, -, -, hw, -, -⟩, -⟩ := h
  exact ⟨hm2, hpc, hw⟩
theorem pc_leB {B S : Nat} (hB : B ≤ 11) (hS : S < 2 ^ B) : pc S ≤ B := by
  have q2 := List.length_filter_le (fun j => S.testBit j) (List.range B)
  rw [List.length_range] at q2
  rw [pc_fBl hB hS]
  exact q2
theorem both_bears {n : Nat} (hn : 2100 ≤ n) {F : Nat → Nat → Int32} {P B O D W : Nat} (hi : hI F P B O D W) {S : Nat} (hS : S < 2 ^ B) {σX σM : hv_St} (hx : rX F σX) (hm : rM F σM) {q : Nat} (hq : q = 3 ∨ q = 25) {z : Nat → Int} (hz : ∀ s, s < 12 → σX.1 q s = iI (z s) ∧ (z s).natAbs ≤ 9) (ht : tkM z σM) : ∃ τX τM, rX F τX ∧ rM F τM ∧ (∀ i, i ≠ 18 → i ≠ 20 → i ≠ 21 → τM.1 0 i = σM.1 0 i) ∧ (∀ j, j ≠ 9 → j ≠ 11 → j ≠ 12 → j ≠ 13 → τX.1 j = σX.1 j) ∧ (∀ j, ¬ frB0 j → τM.1 j = σM.1 j) ∧ ((mX7_bears n σX (nI S) q = some (0, τX) ∧ mX8_bears n σM (nI S) = some (0, τM) ∧ ¬ fFirm F P B S) ∨ (mX7_bears n σX (nI S) q = some (1, τX) ∧ mX8_bears n σM (nI S) = some (1, τM) ∧ fFirm F P B S ∧ bF F P B S z τX τM)) := by
  have hB := hi.2.1.2
  obtain ⟨τX, x1, x2, x3, x4⟩ := x7_bears hn hi hS hx hq hz
  obtain ⟨τM, m1, m2, m3, m4, m5, m6⟩ := r8_bears hn hi hS hm (fun s hs => (hz s hs).2) ht
  refine ⟨τX, τM, x1, m1, m4, x2, m3.1, ?_⟩
  by_cases hf : fFirm F P B S
  · obtain ⟨y1, y2, k, w, y3, y4, y5⟩ := x3 hf
    obtain ⟨w1, w2, w3⟩ := m5 hf
    obtain ⟨o1, o2, -⟩ := oX_m y5
    have pl := pc_leB hB hS
    exact Or.inr ⟨y1, w1, hf, ⟨k, w, y3, y4, y5⟩, w2, w3, y2, uS_bd hi hS o1 o2 (by omega), fun c => oS_bd hi hS o1 o2 (by omega) (fun s hs => (hz s hs).2) c⟩
  · exact Or.inl ⟨x4 hf, m6 hf, hf⟩
/-- a pull, told -/
def pv (F : Nat → Nat → Int32) (P B S : Nat) (z : Nat → Int) (c : Nat) (u : Int32) : Int := tlN (oSum F P B S z c) (uSum F P B S) (if u = 0 then oSum F P B S z c else uSum F P B S)
theorem k_le {k w u : Int} (hk : k ≠ 0) (h : u = k * w) : w.natAbs ≤ u.natAbs := by
  rw [h, Int.natAbs_mul]
  exact Nat.le_mul_of_pos_left _ (by omega)
theorem tp_X {n : Nat} (hn : 2100 ≤ n) {F : Nat → Nat → Int32} {P B O D W : Nat} (hi : hI F P B O D W) {S : Nat} (hS : S < 2 ^ B) {z : Nat → Int} (hz : ∀ s, s < 12 → (z s).natAbs ≤ 9) {τX τM : hv_St} (h : bF F P B S z τX τM) {c : Nat} (hc : c < B) (hcs : S.testBit c = true) (u : Int32) : ∃ τ', mX7_toldPull n τX (nI c) u = some (iL (pv F P B S z c u), τ') ∧ τ'.1 = τX.1 := by
  obtain ⟨⟨k, w, hk, hkw, ho⟩, -, -, hup, hub, hob⟩ := h
  obtain ⟨oc, e1, e2⟩ := over_of (n := n) (by omega) hi hS hz ho hc hcs
  have hw := (oX_m ho).2.2
  have bw : w.natAbs ≤ 2 ^ 62 := Nat.le_trans (k_le hk hkw) (Nat.le_trans hub (by decide))
  have bo : oc.natAbs ≤ 2 ^ 62 := Nat.le_trans (k_le hk e1) (Nat.le_trans (hob c) (by decide))
  have w0 : w ≠ 0 := fun q => by rw [hkw, q, Int.mul_zero] at hup; omega
  have ep : pv F P B S z c u = tlN oc w (if u = 0 then oc else w) := by
    unfold pv
    rw [e1, hkw]
    by_cases u0 : u = 0
    · rw [if_pos u0, if_pos u0, tlN_scale hk]
    · rw [if_neg u0, if_neg u0, tlN_scale hk]
  unfold mX7_toldPull
  rw [e2, hv_b2_e, hw, x7_told (n := n) (by omega) (rL_of bo) (rL_of bw) w0 u, hv_b2_e, ep]
  exact ⟨_, rfl, rfl⟩
theorem tp_M {n : Nat} (hn : 2100 ≤ n) {F : Nat → Nat → Int32} {P B S : Nat} {z : Nat → Int} {τX τM : hv_St} (h : bF F P B S z τX τM) (c : Nat) (u : Int32) (σ : hv_St) : mX8_told n σ (iL (oSum F P B S z c)) (iL (uSum F P B S)) u = some (iL (pv F P B S z c u), σ) := by
  obtain ⟨-, -, -, hup, hub, hob⟩ := h
  exact r8_told (n := n) (by omega) (rL_of (Nat.le_trans (hob c) (by decide))) (rL_of (Nat.le_trans hub (by decide))) (by omega) u
/-! the loads taken -/
theorem r8_takes {n : Nat} {σ : hv_St} : ∀ (d k fuel : Nat) (f : Nat → Int32), k + d = 12 → d < fuel → (∀ s, s < k → f s = σ.1 4 s) → ∃ g, kX8_takesLoads_2 n fuel (hv_wI σ 16 f) (nI k) = some (hv_wI σ 16 g) ∧ ∀ s, s < 12 → g s = σ.1 4 s := by
  intro d
  induction d with
  | zero =>
    intro k fuel f hk hf hg
    obtain ⟨fuel, rfl⟩ : ∃ q, fuel = q + 1 := ⟨fuel - 1, by omega⟩
    refine ⟨f, ?_, fun s hs => hg s (by omega)⟩
    show kX8_takesLoads_2_b n _ _ _ = _
    unfold kX8_takesLoads_2_b
    rw [if_pos (show (12 : Int32) ≤ nI k from nI_le (a := 12) (by omega) (by omega))]
  | succ d ih =>
    intro k fuel f hk hf hg
    obtain ⟨fuel, rfl⟩ : ∃ q, fuel = q + 1 := ⟨fuel - 1, by omega⟩
    obtain ⟨g, g1, g2⟩ := ih (k + 1) fuel (upd f k (σ.1 4 k)) (by omega) (by omega) (fun s hs => by
      by_cases e : s = k
      · rw [e, pk_us]
      · rw [pk_un e]
        exact hg s (by omega))
    refine ⟨g, ?_, g2⟩
    show kX8_takesLoads_2_b n _ _ _ = _
    unfold kX8_takesLoads_2_b
    rw [if_neg (show ¬ (12 : Int32) ≤ nI k from nI_ge (b := 12) (by omega) (by decide)), hv_if_t (hv_ok_nI (show k < 12 by omega) (by decide)), hv_if_t (hv_ok_nI (show k < 12 by omega) (by decide)), hv_let_e, nI_clamp (by omega), hv_wI_ne _ _ (show 4 ≠ 16 by decide), hv_sI_wI, nI_1]
    exact g1
def ldz (F : Nat → Nat → Int32) (s : Nat) : Int := (F 4 s).toInt
theorem ldz_e {F : Nat → Nat → Int32} {P B O D W : Nat} (hi : hI F P B O D W) {s : Nat} (hs : s < 12) : F 4 s = iI (ldz F s) ∧ (ldz F s).natAbs ≤ 9 := by
  obtain ⟨v, e, h1, h2⟩ := hi.2.2.2.2.2.2.2.1 s hs
  refine ⟨iI_of _, ?_⟩
  unfold ldz
  rw [e, iI_toInt ⟨by omega, by omega⟩]
  omega
theorem rM_16 {F : Nat → Nat → Int32} {σ : hv_St} (h : rM F σ) (g : Nat → Int32) : rM F (hv_wI σ 16 g) := rM_fr (A := fun k => k = 16) (B := fun _ => True) h ⟨fun k hk => hv_wI_ne _ _ hk, fun k hk => absurd trivial hk⟩ (fun k hk => by omega)
theorem r8_takesLoads {n : Nat} (hn : 20 < n) {F : Nat → Nat → Int32} {P B O D W : Nat} (hi : hI F P B O D W) {σ : hv_St} (hm : rM F σ) : ∃ g, mX8_takesLoads n σ = some (hv_wI σ 16 g) ∧ rM F (hv_wI σ 16 g) ∧ tkM (ldz F) (hv_wI σ 16 g) := by
  obtain ⟨g, g1, g2⟩ := r8_takes (n := n) (σ := σ) 12 0 n (σ.1 16) rfl (by omega) (fun s hs => absurd hs (Nat.not_lt_zero _))
  rw [hv_wI_self] at g1
  refine ⟨g, g1, rM_16 hm g, fun s hs => ?_⟩
  rw [hv_wI_at, g2 s hs, hm.2 4 (by decide) (by decide)]
  exact (ldz_e hi hs).1
theorem ldX {F : Nat → Nat → Int32} {P B O D W : Nat} (hi : hI F P B O D W) {σ : hv_St} (hx : rX F σ) : ∀ s, s < 12 → σ.1 3 s = iI (ldz F s) ∧ (ldz F s).natAbs ≤ 9 := fun s hs => by
  rw [hx.2.2.1 s hs]
  exact ldz_e hi hs
theorem op_pull {n : Nat} (hn : 2100 ≤ n) {F : Nat → Nat → Int32} {P B O D W : Nat} {σX σM : hv_St} (h : hR F P B O D W σX σM) (v u : Int32) : hT F P B O D W (mX7_pull n σX v u) (mX8_pull n σM v u) := by
  obtain ⟨hi, hx, hm⟩ := h
  have hB := hi.2.1.2
  have hO := hi.2.2.1
  have o31 : O < 2 ^ 31 := by have := p2048 hB hO.2; omega
  have bX : σX.1 1 1 = nI B := hx.1.2.1.trans hi.2.1.1
  have oX' : σX.1 1 2 = nI O := hx.1.2.2.1.trans hO.1
  obtain ⟨g, g1, g2, g3⟩ := r8_takesLoads (n := n) (by omega) hi hm
  have bM : (hv_wI σM 16 g).1 0 6 = nI B := g2.1.2.1.trans hi.2.1.1
  have oM : (hv_wI σM 16 g).1 0 11 = nI O := g2.1.2.2.1.trans hO.1
  have no : ∀ τX τM, rX F τX → rM F τM → kX8_pull_39 n τM v u = some (0, hv_sI τM 0 0 1) ∧ hR F P B O D W τX (hv_sI τM 0 0 1) ∧ (hv_sI τM 0 0 1).1 0 0 = 1 := fun τX τM h1 h2 => by
    refine ⟨?_, ⟨hi, h1, rM_sc h2 (by decide) 1⟩, by rw [hv_sI_rd, if_pos rfl]⟩
    unfold kX8_pull_39 kX8_pull_40
    rw [hv_let_e, hv_sI_rd, if_pos rfl, if_neg (by decide)]
  by_cases hv : fN B v
  · obtain ⟨b, hb, rfl⟩ := hv
    have fb := fB_iff (s := O) (k := b) o31 (by omega)
    by_cases hon : O.testBit b = true
    · have c1 := (x3_isOn (n := n) (by omega) bX (nI b)).1 ⟨⟨b, hb, rfl⟩, by rw [oX']; exact fb.mpr hon⟩
      obtain ⟨τX, τM, r1, r2, -, -, -, r4⟩ := both_bears hn hi hO.2 hx g2 (Or.inl rfl) (ldX hi hx) g3
      rcases r4 with ⟨y1, y2, -⟩ | ⟨y1, y2, -, y3⟩
      · obtain ⟨q1, q2, q3⟩ := no τX τM r1 r2
        refine ⟨τX, hv_sI τM 0 0 1, q2, Or.inr ⟨0, ?_, ?_, q3⟩⟩
        · unfold mX7_pull kX7_pull_36 kX7_pull_37
          rw [c1, hv_b2_e, if_neg (by decide), oX', y1, hv_b2_e, if_pos rfl, need_0]
        · unfold mX8_pull
          rw [g1, hv_bd_e, (r8_isBar (by omega) bM (nI b)).1 ⟨b, hb, rfl⟩, hv_b2_e, if_neg (by decide), oM, (r8_isOn _ _).1 (fb.mpr hon), hv_b2_e, if_neg (by decide), oM, y2, hv_b2_e, if_pos rfl, q1]
      · obtain ⟨τ', t1, t2⟩ := tp_X hn hi hO.2 (fun s hs => (ldz_e hi hs).2) y3 hb hon u
        have m0 : rM F (hv_sI τM 0 0 0) := rM_sc r2 (by decide) 0
        have e0 : (hv_sI τM 0 0 0).1 0 0 = 0 := by rw [hv_sI_rd, if_pos rfl]
        refine ⟨τ', hv_sI τM 0 0 0, ⟨hi, rX_1 r1 (fun k _ => by rw [t2]), m0⟩, Or.inl ⟨iL (pv F P B O (ldz F) b u), ?_, ?_, e0⟩⟩
        · unfold mX7_pull kX7_pull_37
          rw [c1, hv_b2_e, if_neg (by decide), oX', y1, hv_b2_e, if_neg (by decide), need_1, t1, hv_b2_e]
        · unfold mX8_pull kX8_pull_40
          rw [g1, hv_bd_e, (r8_isBar (by omega) bM (nI b)).1 ⟨b, hb, rfl⟩, hv_b2_e, if_neg (by decide), oM, (r8_isOn _ _).1 (fb.mpr hon), hv_b2_e, if_neg (by decide), oM, y2, hv_b2_e, if_neg (by decide), hv_let_e, e0, if_pos (by decide), hv_if_t (hv_ok_nI (show b < 11 by omega) (by decide)), nI_clamp (by omega)]
          show (hv_b2 (mX8_told n _ (τM.2 15 b) (τM.2 0 24) u) fun r65 s65 => some (r65, s65)) = _
          rw [y3.2.2.1 b hb, y3.2.1, tp_M hn y3 b u, hv_b2_e]
    · obtain ⟨q1, q2, q3⟩ := no σX _ hx g2
      refine ⟨σX, _, q2, Or.inr ⟨0, ?_, ?_, q3⟩⟩
      · unfold mX7_pull kX7_pull_36 kX7_pull_37
        rw [(x3_isOn (by omega) bX (nI b)).2 (fun z => hon (fb.mp (by rw [← oX']; exact z.2))), hv_b2_e, if_pos rfl, need_0]
      · unfold mX8_pull
        rw [g1, hv_bd_e, (r8_isBar (by omega) bM (nI b)).1 ⟨b, hb, rfl⟩, hv_b2_e, if_neg (by decide), oM, (r8_isOn _ _).2 (fun z => hon (fb.mp z)), hv_b2_e, if_pos rfl, q1]
  · obtain ⟨q1, q2, q3⟩ := no σX _ hx g2
    refine ⟨σX, _, q2, Or.inr ⟨0, ?_, ?_, q3⟩⟩
    · unfold mX7_pull kX7_pull_36 kX7_pull_37
      rw [(x3_isOn (by omega) bX v).2 (fun z => hv z.1), hv_b2_e, if_pos rfl, need_0]
    · unfold mX8_pull
      rw [g1, hv_bd_e, (r8_isBar (by omega) bM v).2 hv, hv_b2_e, if_pos rfl, q1]
