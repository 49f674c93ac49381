/-! the reference's sums over sets -/
def gv (F : Nat → Nat → Int32) (b : Nat) : Int := (F 7 b).toInt
def gPr (F : Nat → Nat → Int32) (U : Nat) : Nat → Int
  | 0 => 1
  | k + 1 => gPr F U k * if U.testBit k = true then gv F k else 1
theorem gv_e {F : Nat → Nat → Int32} {P B O D W : Nat} (hi : hI F P B O D W) {b : Nat} (hb : b < B) : F 7 b = iI (gv F b) ∧ 1 ≤ gv F b ∧ gv F b ≤ 3 := by
  obtain ⟨g, e, g1, g2⟩ := (hi.2.2.2.2.2.2.1 b hb).2.2.1
  refine ⟨iI_of _, ?_, ?_⟩ <;> · unfold gv; rw [e, nI_toInt (by omega)]; omega
theorem pcK_hi {s B : Nat} (h : s < 2 ^ B) : ∀ d, pcK s (B + d) = pcK s B
  | 0 => rfl
  | d + 1 => by
    rw [← Nat.add_assoc, pcK_succ, pcK_hi h d]
    have : s.testBit (B + d) = false := Nat.testBit_lt_two_pow (Nat.lt_of_lt_of_le h (Nat.pow_le_pow_right (by decide) (Nat.le_add_right _ _)))
    rw [this]
    simp
theorem pc_fBl {s B : Nat} (hB : B ≤ 11) (h : s < 2 ^ B) : pc s = (fBl s B).length := by
  have := pcK_hi h (12 - B)
  rw [show B + (12 - B) = 12 by omega] at this
  exact this
def eN : Nat → Bool := fun _ => false
def eB (b : Nat) : Nat → Bool := fun j => decide (j = b)
/-- the load's column -/
def fCo (F : Nat → Nat → Int32) (P : Nat) (z : Nat → Int) : md_V := fun k => -(z ((fL F (2 * P)).getD k 0))
theorem fCo_W {F : Nat → Nat → Int32} {P : Nat} (hP : P ≤ 6) {z : Nat → Int} (hz : ∀ s, s < 12 → (z s).natAbs ≤ 9) : md_W (fR F P) (fCo F P z) 108 := by
  have hl := fL_le F (2 * P)
  refine md_W_le (md_W_box (M := 9) (fun k hk => ?_)) (by omega)
  have := (fL_lt hk).1
  have h9 := hz ((fL F (2 * P)).getD k 0) (by omega)
  show (-(z ((fL F (2 * P)).getD k 0))).natAbs ≤ 9
  omega
theorem r8_col_loop {n : Nat} {F : Nat → Nat → Int32} {P B O D W : Nat} (hi : hI F P B O D W) {σ : hv_St} (hfr : rFr F P σ) {z : Nat → Int} (hz : ∀ s, s < 12 → σ.1 16 s = iI (z s)) : ∀ (d k fuel : Nat) (f : Nat → Int32), k + d = fN' F P → d < fuel → (∀ j, j < k → f j = iI (fCo F P z j)) → ∃ g, kX8_laysColumn_2 n fuel (hv_wI σ 14 f) (nI k) = some (hv_wI σ 14 g) ∧ ∀ j, j < fN' F P → g j = iI (fCo F P z j) := by
  have hP := hi.1.2
  have eN : fN' F P = (fL F (2 * P)).length := rfl
  have hl : fN' F P ≤ 2 * P := fL_le F (2 * P)
  intro d
  induction d with
  | zero =>
    intro k fuel f hk hf hg
    obtain ⟨fuel, rfl⟩ : ∃ q, fuel = q + 1 := ⟨fuel - 1, by omega⟩
    refine ⟨f, ?_, fun j hj => hg j (by omega)⟩
    show kX8_laysColumn_2_b n _ _ _ = _
    unfold kX8_laysColumn_2_b
    rw [hv_wI_ne _ _ (by decide), hfr.1, if_pos (nI_le (by omega) (by omega))]
  | succ d ih =>
    intro k fuel f hk hf hg
    obtain ⟨fuel, rfl⟩ : ∃ q, fuel = q + 1 := ⟨fuel - 1, by omega⟩
    have hkN : k < (fL F (2 * P)).length := by omega
    have hs := (fL_lt hkN).1
    have hfk := hfr.2 k hkN
    obtain ⟨g, g1, g2⟩ := ih (k + 1) fuel (upd f k (iI (fCo F P z k))) (by omega) (by omega) (fun j hj => by
      by_cases e : j = k
      · rw [e, pk_us]
      · rw [pk_un e]
        exact hg j (by omega))
    refine ⟨g, ?_, g2⟩
    show kX8_laysColumn_2_b n _ _ _ = _
    unfold kX8_laysColumn_2_b
    rw [hv_wI_ne _ _ (show 0 ≠ 14 by decide), hfr.1, if_neg (nI_ge (by omega) (by omega)), hv_if_t (hv_ok_nI (show k < 12 by omega) (by decide)), hv_if_t (hv_ok_nI (show k < 12 by omega) (by decide)), nI_clamp (show k < 2 ^ 31 by omega), hv_wI_ne _ _ (show 11 ≠ 14 by decide), hv_wI_ne _ _ (show 12 ≠ 14 by decide), hfk.1, hfk.2, nI_2, nI_add, show 2 * ((fL F (2 * P)).getD k 0 / 2) + (fL F (2 * P)).getD k 0 % 2 = (fL F (2 * P)).getD k 0 by omega, hv_if_t (hv_ok_nI (show (fL F (2 * P)).getD k 0 < 12 by omega) (by decide)), hv_if_t (hv_ok_nI (show k < 12 by omega) (by decide)), nI_clamp (by omega), hv_let_e, hv_wI_ne _ _ (show 16 ≠ 14 by decide), hz _ (by omega), iI_neg, hv_sI_wI, nI_1]
    exact g1
theorem r8_laysColumn {n : Nat} (hn : 12 < n) {F : Nat → Nat → Int32} {P B O D W : Nat} (hi : hI F P B O D W) {σ : hv_St} (hfr : rFr F P σ) {z : Nat → Int} (hz : ∀ s, s < 12 → σ.1 16 s = iI (z s)) : ∃ g, mX8_laysColumn n σ = some (hv_wI σ 14 g) ∧ ∀ j, j < fN' F P → g j = iI (fCo F P z j) := by
  have hP := hi.1.2
  have hl : fN' F P ≤ 2 * P := fL_le F (2 * P)
  have q := r8_col_loop (n := n) hi hfr hz (fN' F P) 0 n (σ.1 14) (by omega) (by omega) (fun j hj => absurd hj (Nat.not_lt_zero _))
  rw [hv_wI_self] at q
  exact q
/-- what stands while sets are summed -/
def rB (F : Nat → Nat → Int32) (P : Nat) (col : md_V) (σ : hv_St) : Prop := rM F σ ∧ rFr F P σ ∧ ∀ k, k < fN' F P → σ.1 14 k = iI (col k) ∧ (col k).natAbs ≤ 2 ^ 20
theorem rB_1 {F : Nat → Nat → Int32} {P : Nat} {col : md_V} {σ τ : hv_St} (h : rB F P col σ) (e : τ.1 = σ.1) : rB F P col τ := by
  unfold rB rM rFr
  rw [e]
  exact h
theorem dS_rL {F : Nat → Nat → Int32} {P B O D W : Nat} (hi : hI F P B O D W) {T : Nat} (hTl : (fBl T B).length = fN' F P) : (dS F P B T eN (fun _ => 0)).natAbs ≤ 5 ^ fN' F P := by
  unfold dS
  have q := md_D_W (R := fR F P) (nd_range _) (w := 5) (c := (fBl T B).map (gC F P eN (fun _ => 0))) (fun v hv => by
    obtain ⟨b, hb, rfl⟩ := List.mem_map.mp hv
    unfold gC eN
    rw [if_neg (by decide)]
    exact fCol_W hi (fBl_mem.mp hb).1)
  rw [List.length_map, hTl] at q
  exact q
theorem dS_eN (F : Nat → Nat → Int32) (P B T : Nat) (c c' : md_V) : dS F P B T eN c = dS F P B T eN c' := rfl
def dN (F : Nat → Nat → Int32) (P B T : Nat) : Int := dS F P B T eN (fun _ => 0)
theorem r8_setDetN {n : Nat} (hn : 12 < n) {F : Nat → Nat → Int32} {P B O D W : Nat} (hi : hI F P B O D W) {col : md_V} {σ : hv_St} (h : rB F P col σ) (hcw : md_W (fR F P) col 108) {T : Nat} (hT : T < 2 ^ 31) (hTl : (fBl T B).length = fN' F P) : ∃ g, mX8_setDeterminant n σ (nI T) (-1) = some (iL (dN F P B T), hv_wJ σ 13 g) := by
  have hB := hi.2.1.2
  exact r8_setDet hn hi h.1 h.2.1 (e := eN) (fun b hb => ⟨fun q => absurd (nI_pos (n := b) (by omega)) (fun z => z (by rw [q]; decide)), fun q => by cases q⟩) (fun b c _ _ q => by cases q) h.2.2 hcw hT hTl
theorem r8_setDetB {n : Nat} (hn : 12 < n) {F : Nat → Nat → Int32} {P B O D W : Nat} (hi : hI F P B O D W) {col : md_V} {σ : hv_St} (h : rB F P col σ) (hcw : md_W (fR F P) col 108) {T b : Nat} (hb : b < B) (hT : T < 2 ^ 31) (hTl : (fBl T B).length = fN' F P) : ∃ g, mX8_setDeterminant n σ (nI T) (nI b) = some (iL (dS F P B T (eB b) col), hv_wJ σ 13 g) := by
  have hB := hi.2.1.2
  exact r8_setDet hn hi h.1 h.2.1 (e := eB b) (fun c hc => by
    unfold eB
    rw [decide_eq_true_iff]
    exact nI_eq (by omega) (by omega)) (fun c d _ _ q r => by
    unfold eB at q r
    rw [decide_eq_true_iff] at q r
    rw [q, r]) h.2.2 hcw hT hTl
def oT (F : Nat → Nat → Int32) (P B : Nat) (col : md_V) (T : Nat) (g : Int) (b : Nat) : Int := if T.testBit b = true then g * dN F P B T * dS F P B T (eB b) col else 0
theorem r8_adds75 {n : Nat} (hn : 12 < n) {F : Nat → Nat → Int32} {P B O D W : Nat} (hi : hI F P B O D W) {col : md_V} (hcw : md_W (fR F P) col 108) {T : Nat} (hT : T < 2 ^ 31) (hTl : (fBl T B).length = fN' F P) {σ₀ : hv_St} (h0 : rB F P col σ₀) {g : Int} {o : Nat → Int} : ∀ (d b fuel : Nat) (σ : hv_St), b + d = B → d < fuel → σ.1 = σ₀.1 → (∀ q, q ≠ 13 → q ≠ 15 → σ.2 q = σ₀.2 q) → (∀ c, c < B → σ.2 15 c = iL (o c + if c < b then oT F P B col T g c else 0)) → ∃ τ, kX8_addsSet_75 n fuel σ (nI T) (iL g) (iL (dN F P B T)) (nI b) = some τ ∧ τ.1 = σ₀.1 ∧ (∀ q, q ≠ 13 → q ≠ 15 → τ.2 q = σ₀.2 q) ∧ ∀ c, c < B → τ.2 15 c = iL (o c + oT F P B col T g c) := by
  have hB := hi.2.1.2
  have hdr : rL (dN F P B T) := rL_of (Nat.le_trans (dS_rL hi hTl) (by
    have hP := hi.1.2
    have hl : fN' F P ≤ 2 * P := fL_le F (2 * P)
    exact Nat.le_trans (Nat.pow_le_pow_right (by decide) (show fN' F P ≤ 12 by omega)) (by decide)))
  intro d
  induction d with
  | zero =>
    intro b fuel σ hb hf h1 h2 h3
    obtain ⟨fuel, rfl⟩ : ∃ q, fuel = q + 1 := ⟨fuel - 1, by omega⟩
    refine ⟨σ, ?_, h1, h2, fun c hc => by rw [h3 c hc, if_pos (by omega)]⟩
    have bM : σ.1 0 6 = nI B := (rB_1 h0 h1).1.1.2.1.trans hi.2.1.1
    show kX8_addsSet_75_b n _ _ _ _ _ _ = _
    unfold kX8_addsSet_75_b
    rw [bM, if_pos (nI_le (by omega) (by omega))]
  | succ d ih =>
    intro b fuel σ hb hf h1 h2 h3
    obtain ⟨fuel, rfl⟩ : ∃ q, fuel = q + 1 := ⟨fuel - 1, by omega⟩
    have hσ := rB_1 h0 h1
    have bM : σ.1 0 6 = nI B := hσ.1.1.2.1.trans hi.2.1.1
    have fb := fB_iff (k := b) hT (by omega)
    by_cases hd : dN F P B T = 0
    · have z : ∀ c, oT F P B col T g c = 0 := fun c => by
        unfold oT
        rw [hd, Int.mul_zero, Int.zero_mul]
        by_cases q : T.testBit c = true
        · rw [if_pos q]
        · rw [if_neg q]
      refine ⟨σ, ?_, h1, h2, fun c hc => ?_⟩
      · show kX8_addsSet_75_b n _ _ _ _ _ _ = _
        unfold kX8_addsSet_75_b
        rw [bM, if_neg (nI_ge (by omega) (by omega)), if_pos ((iL_0 hdr).mpr hd)]
      · rw [h3 c hc, z c]
        by_cases q : c < b
        · rw [if_pos q]
        · rw [if_neg q]
    · have hob : σ.2 15 b = iL (o b) := by rw [h3 b (by omega), if_neg (Nat.lt_irrefl b), Int.add_zero]
      have step : ∀ σ', σ'.1 = σ₀.1 → (∀ q, q ≠ 13 → q ≠ 15 → σ'.2 q = σ₀.2 q) → σ'.2 15 = σ.2 15 → ∃ τ, kX8_addsSet_75 n fuel (hv_sJ σ' 15 b (iL (o b + oT F P B col T g b))) (nI T) (iL g) (iL (dN F P B T)) (nI (b + 1)) = some τ ∧ τ.1 = σ₀.1 ∧ (∀ q, q ≠ 13 → q ≠ 15 → τ.2 q = σ₀.2 q) ∧ ∀ c, c < B → τ.2 15 c = iL (o c + oT F P B col T g c) := fun σ' k1 k2 k3 => ih (b + 1) fuel _ (by omega) (by omega) k1 (fun q q1 q2 => by rw [hv_sJ_ne _ _ _ q2]; exact k2 q q1 q2) (fun c hc => by
        rw [hv_sJ_rd, k3]
        by_cases ec : c = b
        · rw [if_pos ec, ec, if_pos (by omega)]
        · rw [if_neg ec, h3 c hc]
          by_cases q : c < b
          · rw [if_pos q, if_pos (by omega)]
          · rw [if_neg q, if_neg (by omega)])
      by_cases ht : T.testBit b = true
      · obtain ⟨f, hf'⟩ := r8_setDetB (n := n) hn hi hσ hcw (show b < B by omega) hT hTl
        obtain ⟨τ, t1, t2, t3, t4⟩ := step (hv_wJ σ 13 f) h1 (fun q q1 q2 => by rw [hv_wJ_ne _ _ q1]; exact h2 q q1 q2) (hv_wJ_ne _ _ (by decide))
        refine ⟨τ, ?_, t2, t3, t4⟩
        show kX8_addsSet_75_b n _ _ _ _ _ _ = _
        unfold kX8_addsSet_75_b kX8_addsSet_124
        rw [bM, if_neg (nI_ge (by omega) (by omega)), if_neg (fun q => hd ((iL_0 hdr).mp q)), hv_if_t (hv_ok_nI (show b < 11 by omega) (by decide)), (r8_isOn _ _).1 (fb.mpr ht), hv_b2_e, if_neg (by decide), hf', hv_b2_e, hv_if_t (hv_ok_nI (show b < 11 by omega) (by decide)), hv_let_e, nI_clamp (by omega), hob, iL_mul, iL_mul, iL_add, nI_1]
        have eo : oT F P B col T g b = g * dN F P B T * dS F P B T (eB b) col := by unfold oT; rw [if_pos ht]
        rw [eo] at t1
        exact t1
      · obtain ⟨τ, t1, t2, t3, t4⟩ := step σ h1 h2 rfl
        refine ⟨τ, ?_, t2, t3, t4⟩
        show kX8_addsSet_75_b n _ _ _ _ _ _ = _
        unfold kX8_addsSet_75_b kX8_addsSet_124
        rw [bM, if_neg (nI_ge (by omega) (by omega)), if_neg (fun q => hd ((iL_0 hdr).mp q)), hv_if_t (hv_ok_nI (show b < 11 by omega) (by decide)), (r8_isOn _ _).2 (fun q => ht (fb.mp q)), hv_b2_e, if_pos rfl, hv_if_t (hv_ok_nI (show b < 11 by omega) (by decide)), hv_let_e, nI_clamp (by omega), hob, show (0 : Int64) = iL 0 from rfl, iL_add, nI_1]
        have eo : oT F P B col T g b = 0 := by unfold oT; rw [if_neg ht]
        rw [eo] at t1
        exact t1
theorem r8_addsSet {n : Nat} (hn : 12 < n) {F : Nat → Nat → Int32} {P B O D W : Nat} (hi : hI F P B O D W) {col : md_V} (hcw : md_W (fR F P) col 108) {T S : Nat} (hT : T < 2 ^ 31) (hS : S < 2 ^ B) (hTl : (fBl T B).length = fN' F P) {σ : hv_St} (h : rB F P col σ) {u : Int} {o : Nat → Int} (hu : σ.2 0 24 = iL u) (ho : ∀ c, c < B → σ.2 15 c = iL (o c)) : ∃ τ, mX8_addsSet n σ (nI T) (nI S) = some τ ∧ τ.1 = σ.1 ∧ (∀ q, q ≠ 0 → q ≠ 13 → q ≠ 15 → τ.2 q = σ.2 q) ∧ τ.2 0 24 = iL (u + gPr F (andn S T) B * dN F P B T * dN F P B T) ∧ ∀ c, c < B → τ.2 15 c = iL (o c + oT F P B col T (gPr F (andn S T) B) c) := by
  have hB := hi.2.1.2
  have bM : σ.1 0 6 = nI B := h.1.1.2.1.trans hi.2.1.1
  have ok31 := p2048 hB (andn_lt (b := T) hS)
  have loop : ∀ (d b fuel : Nat), b + d = B → d < fuel → kX8_addsSet_5 n fuel σ (nI T) (nI S) (iL (gPr F (andn S T) b)) (nI b) = (hv_b2 (mX8_setDeterminant n σ (nI T) ((-1 : Int32))) fun r51 s51 => hv_let (hv_sJ s51 0 24 ((s51.2 0 24) + (((iL (gPr F (andn S T) B)) * (r51)) * (r51)))) fun s69 => kX8_addsSet_75 n n s69 (nI T) (iL (gPr F (andn S T) B)) (r51) ((0 : Int32))) := by
    intro d
    induction d with
    | zero =>
      intro b fuel hb hf
      obtain ⟨fuel, rfl⟩ : ∃ q, fuel = q + 1 := ⟨fuel - 1, by omega⟩
      obtain rfl : b = B := by omega
      show kX8_addsSet_5_b n _ _ _ _ _ _ = _
      unfold kX8_addsSet_5_b
      rw [bM, if_pos (nI_le (Nat.le_refl _) (by omega))]
    | succ d ih =>
      intro b fuel hb hf
      obtain ⟨fuel, rfl⟩ : ∃ q, fuel = q + 1 := ⟨fuel - 1, by omega⟩
      have fb := fB_iff (s := andn S T) (k := b) (by omega) (by omega)
      have eg := gv_e hi (show b < B by omega)
      rw [← ih (b + 1) fuel (by omega) (by omega)]
      show kX8_addsSet_5_b n _ _ _ _ _ _ = _
      unfold kX8_addsSet_5_b kX8_addsSet_40
      rw [bM, if_neg (nI_ge (by omega) (by omega)), nI_andn]
      show _ = kX8_addsSet_5 n fuel σ (nI T) (nI S) (iL (gPr F (andn S T) b * if (andn S T).testBit b = true then gv F b else 1)) (nI (b + 1))
      by_cases ht : (andn S T).testBit b = true
      · rw [(r8_isOn _ _).1 (fb.mpr ht), hv_b2_e, if_neg (by decide), hv_if_t (hv_ok_nI (show b < 11 by omega) (by decide)), hv_let_e, nI_clamp (by omega), h.1.2 7 (by decide) (by decide), eg.1, iI_L ⟨by omega, by omega⟩, iL_mul, nI_1, if_pos ht]
      · rw [(r8_isOn _ _).2 (fun q => ht (fb.mp q)), hv_b2_e, if_pos rfl, hv_let_e, show (1 : Int64) = iL 1 from rfl, iL_mul, nI_1, if_neg ht]
  obtain ⟨f, hf⟩ := r8_setDetN (n := n) hn hi h hcw hT hTl
  have l0 := loop B 0 n (by omega) (by omega)
  rw [hf, hv_b2_e, hv_let_e, hv_wJ_ne _ _ (show 0 ≠ 13 by decide), hu, iL_mul, iL_mul, iL_add] at l0
  obtain ⟨τ, t1, t2, t3, t4⟩ := r8_adds75 (n := n) hn hi hcw hT hTl (σ₀ := hv_sJ (hv_wJ σ 13 f) 0 24 (iL (u + gPr F (andn S T) B * dN F P B T * dN F P B T))) (rB_1 h rfl) (g := gPr F (andn S T) B) (o := o) B 0 n _ (by omega) (by omega) rfl (fun _ _ _ => rfl) (fun c hc => by
    rw [if_neg (Nat.not_lt_zero c), Int.add_zero, hv_sJ_ne _ _ _ (by decide), hv_wJ_ne _ _ (by decide)]
    exact ho c hc)
  refine ⟨τ, ?_, t2, fun q q0 q1 q2 => ?_, ?_, t4⟩
  · exact l0.trans t1
  · rw [t3 q q1 q2, hv_sJ_ne _ _ _ q0, hv_wJ_ne _ _ q1]
  · rw [t3 0 (by decide) (by decide), hv_sJ_rd, if_pos rfl]
