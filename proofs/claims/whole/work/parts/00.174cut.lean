/-! cut: the held pins, the bars that cross -/
def hdS (F : Nat → Nat → Int32) (P S : Nat) : Prop := ∃ p, p < P ∧ S.testBit p = true ∧ ¬ F 3 p = 0
theorem x1_held {n : Nat} {F : Nat → Nat → Int32} {P B O D W : Nat} (hi : hI F P B O D W) {σ : hv_St} (hx : rX F σ) {S : Nat} (hS : S < 2 ^ P) : ∀ (d k fuel : Nat), k + d = 2 * P → d < fuel → ((∃ s, k ≤ s ∧ s < 2 * P ∧ S.testBit (s / 2) = true ∧ ¬ fFree F s = true) → kX1_isHeld_2 n fuel σ (nI S) (nI k) = some (1, σ)) ∧ ((¬ ∃ s, k ≤ s ∧ s < 2 * P ∧ S.testBit (s / 2) = true ∧ ¬ fFree F s = true) → kX1_isHeld_2 n fuel σ (nI S) (nI k) = some (0, σ)) := by
  have hP := hi.1.2
  have s31 : S < 2 ^ 31 := Nat.lt_of_lt_of_le hS (Nat.pow_le_pow_right (by decide) (by omega))
  have pX : σ.1 1 0 = nI P := hx.1.1.trans hi.1.1
  intro d
  induction d with
  | zero =>
    intro k fuel h1 h2
    obtain ⟨fuel, rfl⟩ : ∃ q, fuel = q + 1 := ⟨fuel - 1, by omega⟩
    have e : kX1_isHeld_2 n (fuel + 1) σ (nI S) (nI k) = some (0, σ) := by
      show kX1_isHeld_2_b n _ _ _ _ = _
      unfold kX1_isHeld_2_b
      rw [pX, nI_2, if_pos (nI_le (by omega) (by omega))]
    exact ⟨fun ⟨s, q1, q2, _⟩ => by omega, fun _ => e⟩
  | succ d ih =>
    intro k fuel h1 h2
    obtain ⟨fuel, rfl⟩ : ∃ q, fuel = q + 1 := ⟨fuel - 1, by omega⟩
    have i1 := ih (k + 1) fuel (by omega) (by omega)
    have hd : nI k / (2 : Int32) = nI (k / 2) := pk_div (by omega) (by decide) (by decide)
    have fb := fB_iff (s := S) (k := k / 2) s31 (by omega)
    have e4 : σ.1 4 k = 0 ↔ fFree F k = true := by
      have q := held_X hx (p := k / 2) (w := k % 2) (by omega) (by omega)
      rw [show 2 * (k / 2) + k % 2 = k by omega] at q
      exact q
    by_cases c1 : S.testBit (k / 2) = true
    · by_cases c2 : fFree F k = true
      · have e : kX1_isHeld_2 n (fuel + 1) σ (nI S) (nI k) = kX1_isHeld_2 n fuel σ (nI S) (nI (k + 1)) := by
          show kX1_isHeld_2_b n _ _ _ _ = _
          unfold kX1_isHeld_2_b kX1_isHeld_39
          rw [pX, nI_2, if_neg (nI_ge (by omega) (by omega)), hd, (x7_has _ _).1 (fb.mpr c1), hv_b2_e, if_neg (by decide), hv_if_t (hv_ok_nI (show k < 12 by omega) (by decide)), nI_clamp (by omega), if_pos (e4.mpr c2), nI_1]
        rw [e]
        exact ⟨fun ⟨s, q1, q2, q3, q4⟩ => i1.1 ⟨s, by rcases Nat.lt_or_ge k s with l | l; exact l; exact absurd (by rw [show s = k by omega]; exact c2) q4, q2, q3, q4⟩, fun q => i1.2 (fun ⟨s, q1, q2⟩ => q ⟨s, by omega, q2⟩)⟩
      · have e : kX1_isHeld_2 n (fuel + 1) σ (nI S) (nI k) = some (1, σ) := by
          show kX1_isHeld_2_b n _ _ _ _ = _
          unfold kX1_isHeld_2_b
          rw [pX, nI_2, if_neg (nI_ge (by omega) (by omega)), hd, (x7_has _ _).1 (fb.mpr c1), hv_b2_e, if_neg (by decide), hv_if_t (hv_ok_nI (show k < 12 by omega) (by decide)), nI_clamp (by omega), if_neg (fun q => c2 (e4.mp q))]
        exact ⟨fun _ => e, fun q => absurd ⟨k, Nat.le_refl _, by omega, c1, c2⟩ q⟩
    · have e : kX1_isHeld_2 n (fuel + 1) σ (nI S) (nI k) = kX1_isHeld_2 n fuel σ (nI S) (nI (k + 1)) := by
        show kX1_isHeld_2_b n _ _ _ _ = _
        unfold kX1_isHeld_2_b kX1_isHeld_39
        rw [pX, nI_2, if_neg (nI_ge (by omega) (by omega)), hd, (x7_has _ _).2 (fun z => c1 (fb.mp z)), hv_b2_e, if_pos rfl, nI_1]
      rw [e]
      exact ⟨fun ⟨s, q1, q2, q3, q4⟩ => i1.1 ⟨s, by rcases Nat.lt_or_ge k s with l | l; exact l; exact absurd (by rw [show k = s by omega]; exact q3) c1, q2, q3, q4⟩, fun q => i1.2 (fun ⟨s, q1, q2⟩ => q ⟨s, by omega, q2⟩)⟩
theorem hd_iff {F : Nat → Nat → Int32} {P B O D W : Nat} (hi : hI F P B O D W) {S : Nat} : (∃ s, 0 ≤ s ∧ s < 2 * P ∧ S.testBit (s / 2) = true ∧ ¬ fFree F s = true) ↔ hdS F P S := by
  have hP := hi.1.2
  constructor
  · rintro ⟨s, -, q2, q3, q4⟩
    refine ⟨s / 2, by omega, q3, fun z => ?_⟩
    have h0 := (held_0 hi (show s / 2 < 6 by omega)).mp z
    rcases (show s = 2 * (s / 2) ∨ s = 2 * (s / 2) + 1 by omega) with e | e
    · rw [e] at q4; exact q4 h0.1
    · rw [e] at q4; exact q4 h0.2
  · rintro ⟨p, q1, q2, q3⟩
    have h0 := held_0 hi (show p < 6 by omega)
    by_cases c : fFree F (2 * p) = true
    · by_cases c' : fFree F (2 * p + 1) = true
      · exact absurd (h0.mpr ⟨c, c'⟩) q3
      · exact ⟨2 * p + 1, by omega, by omega, by rw [show (2 * p + 1) / 2 = p by omega]; exact q2, c'⟩
    · exact ⟨2 * p, by omega, by omega, by rw [show 2 * p / 2 = p by omega]; exact q2, c⟩
def cL (F : Nat → Nat → Int32) (O S k : Nat) : List Nat := (List.range k).filter (fun b => O.testBit b && (S.testBit (fA F b) != S.testBit (fC F b)))
theorem cL_succ (F : Nat → Nat → Int32) (O S k : Nat) : cL F O S (k + 1) = if (O.testBit k && (S.testBit (fA F k) != S.testBit (fC F k))) = true then cL F O S k ++ [k] else cL F O S k := by
  unfold cL
  rw [List.range_succ, List.filter_append]
  by_cases h : (O.testBit k && (S.testBit (fA F k) != S.testBit (fC F k))) = true
  · rw [if_pos h, List.filter_cons, if_pos h]
    rfl
  · rw [if_neg h, List.filter_cons, if_neg h]
    simp
theorem cL_len (F : Nat → Nat → Int32) (O S k : Nat) : (cL F O S k).length ≤ k := by
  have h2 := List.length_filter_le (fun b => O.testBit b && (S.testBit (fA F b) != S.testBit (fC F b))) (List.range k)
  rw [List.length_range] at h2
  exact h2
theorem x1_find {n : Nat} (hn : 12 < n) {F : Nat → Nat → Int32} {P B O D W : Nat} (hi : hI F P B O D W) {S : Nat} (hS : S < 2 ^ P) : ∀ (d b fuel : Nat) (σ : hv_St), b + d = B → d < fuel → rX F σ → σ.1 19 2 = nI (cL F O S b).length → (∀ i, i < 3 → i < (cL F O S b).length → σ.1 20 i = nI ((cL F O S b).getD i 0)) → ∃ τ, kX1_findBars_7 n fuel σ (nI S) (nI b) = some τ ∧ rX F τ ∧ τ.2 = σ.2 ∧ τ.1 19 2 = nI (cL F O S B).length ∧ ∀ i, i < 3 → i < (cL F O S B).length → τ.1 20 i = nI ((cL F O S B).getD i 0) := by
  have hP := hi.1.2
  have hB := hi.2.1.2
  have hO := hi.2.2.1
  have o31 : O < 2 ^ 31 := by have := p2048 hB hO.2; omega
  have s31 : S < 2 ^ 31 := Nat.lt_of_lt_of_le hS (Nat.pow_le_pow_right (by decide) (by omega))
  intro d
  induction d with
  | zero =>
    intro b fuel σ h1 h2 hx h3 h4
    obtain ⟨fuel, rfl⟩ : ∃ q, fuel = q + 1 := ⟨fuel - 1, by omega⟩
    obtain rfl : b = B := by omega
    refine ⟨σ, ?_, hx, rfl, h3, h4⟩
    show kX1_findBars_7_b n _ _ _ _ = _
    unfold kX1_findBars_7_b
    rw [hx.1.2.1.trans hi.2.1.1, if_pos (nI_le (Nat.le_refl _) (by omega))]
  | succ d ih =>
    intro b fuel σ h1 h2 hx h3 h4
    obtain ⟨fuel, rfl⟩ : ∃ q, fuel = q + 1 := ⟨fuel - 1, by omega⟩
    have hbB : b < B := by omega
    have bX' : σ.1 1 1 = nI B := hx.1.2.1.trans hi.2.1.1
    have oX' : σ.1 1 2 = nI O := hx.1.2.2.1.trans hO.1
    obtain ⟨a1, a2, a3, a4⟩ := hI_ends hi hbB
    have fo := fB_iff (s := O) (k := b) o31 (by omega)
    have fa := fB_iff (s := S) (k := fA F b) s31 (by omega)
    have fc := fB_iff (s := S) (k := fC F b) s31 (by omega)
    have e5 : σ.1 5 b = nI (fA F b) := ((hx.2.2.2.2.1 b (by omega)).1).trans a1
    have e6 : σ.1 6 b = nI (fC F b) := ((hx.2.2.2.2.1 b (by omega)).2.1).trans a3
    have on_iff : fO B (σ.1 1 2) (nI b) ↔ fN B (nI b) ∧ fB (nI O) (nI b) := by rw [oX']; rfl
    have ll := cL_len F O S b
    have skip : ¬ (O.testBit b && (S.testBit (fA F b) != S.testBit (fC F b))) = true → kX1_findBars_7 n (fuel + 1) σ (nI S) (nI b) = kX1_findBars_7 n fuel σ (nI S) (nI (b + 1)) → ∃ τ, kX1_findBars_7 n (fuel + 1) σ (nI S) (nI b) = some τ ∧ rX F τ ∧ τ.2 = σ.2 ∧ τ.1 19 2 = nI (cL F O S B).length ∧ ∀ i, i < 3 → i < (cL F O S B).length → τ.1 20 i = nI ((cL F O S B).getD i 0) := fun hn e => by
      have es : cL F O S (b + 1) = cL F O S b := by rw [cL_succ, if_neg hn]
      rw [e]
      exact ih (b + 1) fuel σ (by omega) (by omega) hx (by rw [es]; exact h3) (by rw [es]; exact h4)
    by_cases c1 : O.testBit b = true
    · have on1 := (x3_isOn (n := n) (by omega) bX' (nI b)).1 (on_iff.mpr ⟨⟨b, hbB, rfl⟩, fo.mpr c1⟩)
      have hasr : ∀ k : Nat, k < P → mX7_has n σ (nI S) (nI k) = some (if S.testBit k = true then 1 else 0, σ) := fun k hk => by
        have f := fB_iff (s := S) (k := k) s31 (by omega)
        by_cases c : S.testBit k = true
        · rw [(x7_has _ _).1 (f.mpr c), if_pos c]
        · rw [(x7_has _ _).2 (fun z => c (f.mp z)), if_neg c]
      have e7 : kX1_findBars_7 n (fuel + 1) σ (nI S) (nI b) = if (if S.testBit (fA F b) = true then (1 : Int32) else 0) = (if S.testBit (fC F b) = true then (1 : Int32) else 0) then (kX1_findBars_86 n (kX1_findBars_7 n fuel) σ (nI S) (nI b)) else (if (3 : Int32) ≤ σ.1 19 2 then (kX1_findBars_76 n (kX1_findBars_7 n fuel) σ (nI S) (nI b)) else (hv_if (hv_ok (σ.1 19 2) 3) (hv_let (hv_sI σ (20) (σ.1 19 2).toNatClampNeg (nI b)) fun s75 => kX1_findBars_76 n (kX1_findBars_7 n fuel) s75 (nI S) (nI b)))) := by
        show kX1_findBars_7_b n _ _ _ _ = _
        unfold kX1_findBars_7_b
        rw [bX', if_neg (nI_ge hbB (by omega)), on1, hv_b2_e, if_neg (by decide), hv_if_t (hv_ok_nI (show b < 11 by omega) (by decide)), nI_clamp (by omega), e5, hasr _ a2, hv_b2_e, hv_if_t (hv_ok_nI (show b < 11 by omega) (by decide)), e6, hasr _ a4, hv_b2_e]
      by_cases c2 : S.testBit (fA F b) = S.testBit (fC F b)
      · refine skip (by rw [c1, c2]; simp) ?_
        rw [e7, c2, if_pos rfl]
        unfold kX1_findBars_86
        rw [nI_1]
      · have cr : (O.testBit b && (S.testBit (fA F b) != S.testBit (fC F b))) = true := by rw [c1]; simp [c2]
        have es : cL F O S (b + 1) = cL F O S b ++ [b] := by rw [cL_succ, if_pos cr]
        have el : (cL F O S (b + 1)).length = (cL F O S b).length + 1 := by rw [es, List.length_append]; rfl
        have ne : ¬ (if S.testBit (fA F b) = true then (1 : Int32) else 0) = (if S.testBit (fC F b) = true then (1 : Int32) else 0) := fun q => by
          cases x : S.testBit (fA F b) <;> cases y : S.testBit (fC F b) <;> rw [x, y] at q c2 <;> first | exact c2 rfl | exact absurd q (by decide)
        rw [e7, if_neg ne]
        by_cases c3 : 3 ≤ (cL F O S b).length
        · rw [h3, if_pos (show (3 : Int32) ≤ nI (cL F O S b).length from nI_le (a := 3) c3 (by omega))]
          unfold kX1_findBars_76 kX1_findBars_86
          rw [hv_let_e, h3, nI_1, nI_1]
          refine ih (b + 1) fuel _ (by omega) (by omega) (rX_1 hx (fun k hk => hv_sI_ne _ _ _ (by omega))) (by rw [hv_sI_rd, if_pos rfl, el]) (fun i h3' hil => ?_)
          rw [hv_sI_ne _ _ _ (show (20 : Nat) ≠ 19 by decide), es, getD_app_lt (by omega)]
          exact h4 i h3' (by omega)
        · rw [h3, if_neg (show ¬ (3 : Int32) ≤ nI (cL F O S b).length from nI_ge (b := 3) (by omega) (by decide)), hv_if_t (hv_ok_nI (show (cL F O S b).length < 3 by omega) (by decide)), hv_let_e, nI_clamp (by omega)]
          unfold kX1_findBars_76 kX1_findBars_86
          rw [hv_let_e, hv_sI_ne _ _ _ (show (19 : Nat) ≠ 20 by decide), h3, nI_1, nI_1]
          refine ih (b + 1) fuel _ (by omega) (by omega) (rX_1 hx (fun k hk => by rw [hv_sI_ne _ _ _ (by omega), hv_sI_ne _ _ _ (by omega)])) (by rw [hv_sI_rd, if_pos rfl, el]) (fun i h3' hil => ?_)
          rw [hv_sI_ne _ _ _ (show (20 : Nat) ≠ 19 by decide), hv_sI_rd, es]
          by_cases ei : i = (cL F O S b).length
          · rw [if_pos ei, ei, getD_app_at]
          · rw [if_neg ei, getD_app_lt (by omega)]
            exact h4 i h3' (by omega)
    · refine skip (by simp [c1]) ?_
      show kX1_findBars_7_b n _ _ _ _ = _
      unfold kX1_findBars_7_b kX1_findBars_86
      rw [bX', if_neg (nI_ge hbB (by omega)), (x3_isOn (n := n) (by omega) bX' (nI b)).2 (fun q => c1 (fo.mp (on_iff.mp q).2)), hv_b2_e, if_pos rfl, nI_1]
def fE (F : Nat → Nat → Int32) (S b : Nat) : Nat := if S.testBit (fA F b) = true then fA F b else fC F b
theorem r8_endIn {n : Nat} {F : Nat → Nat → Int32} {P B O D W : Nat} (hi : hI F P B O D W) {S : Nat} (hS : S < 2 ^ P) {σ : hv_St} (hm : rM F σ) {b : Nat} (hb : b < B) : mX8_endIn n σ (nI b) (nI S) = some (if S.testBit (fA F b) = S.testBit (fC F b) then -1 else nI (fE F S b), σ) := by
  have hP := hi.1.2
  have hB := hi.2.1.2
  have s31 : S < 2 ^ 31 := Nat.lt_of_lt_of_le hS (Nat.pow_le_pow_right (by decide) (by omega))
  obtain ⟨a1, a2, a3, a4⟩ := hI_ends hi hb
  have e5 : σ.1 5 b = nI (fA F b) := (congrFun (hm.2 5 (by decide) (by decide)) b).trans a1
  have e6 : σ.1 6 b = nI (fC F b) := (congrFun (hm.2 6 (by decide) (by decide)) b).trans a3
  have onr : ∀ k : Nat, k < P → mX8_isOn n σ (nI S) (nI k) = some (if S.testBit k = true then 1 else 0, σ) := fun k hk => by
    have f := fB_iff (s := S) (k := k) s31 (by omega)
    by_cases c : S.testBit k = true
    · rw [(r8_isOn _ _).1 (f.mpr c), if_pos c]
    · rw [(r8_isOn _ _).2 (fun z => c (f.mp z)), if_neg c]
  unfold mX8_endIn fE
  rw [hv_if_t (hv_ok_nI (show b < 11 by omega) (by decide)), nI_clamp (by omega), e5, onr _ a2, hv_b2_e, hv_if_t (hv_ok_nI (show b < 11 by omega) (by decide)), e6, onr _ a4, hv_b2_e, hv_if_t (hv_ok_nI (show b < 11 by omega) (by decide)), hv_if_t (hv_ok_nI (show b < 11 by omega) (by decide)), e5, e6]
  cases x : S.testBit (fA F b) <;> cases y : S.testBit (fC F b) <;> rfl
