/-! cut: the reference's cuts; the class's columns -/
theorem r8_cuts78 {n : Nat} {F : Nat → Nat → Int32} {P B O D W : Nat} (hi : hI F P B O D W) {S : Nat} (hS : S < 2 ^ P) {σ : hv_St} (hm : rM F σ) {c : Nat} (hc : c ≤ 3) : ∀ (d p fuel : Nat), p + d = P → d < fuel → ((∃ q, p ≤ q ∧ q < P ∧ S.testBit q = true ∧ ¬ F 3 q = 0) → kX8_cuts_78 n fuel σ (nI S) (nI c) (nI p) = some (0, σ)) ∧ ((¬ ∃ q, p ≤ q ∧ q < P ∧ S.testBit q = true ∧ ¬ F 3 q = 0) → kX8_cuts_78 n fuel σ (nI S) (nI c) (nI p) = some (if c = 3 then 1 else 0, σ)) := by
  have hP := hi.1.2
  have s31 : S < 2 ^ 31 := Nat.lt_of_lt_of_le hS (Nat.pow_le_pow_right (by decide) (by omega))
  have pM : σ.1 0 1 = nI P := hm.1.1.trans hi.1.1
  have e3 : σ.1 3 = F 3 := hm.2 3 (by decide) (by decide)
  intro d
  induction d with
  | zero =>
    intro p fuel h1 h2
    obtain ⟨fuel, rfl⟩ : ∃ q, fuel = q + 1 := ⟨fuel - 1, by omega⟩
    refine ⟨fun ⟨q, q1, q2, _⟩ => by omega, fun _ => ?_⟩
    show kX8_cuts_78_b n _ _ _ _ _ = _
    unfold kX8_cuts_78_b
    rw [pM, if_pos (nI_le (by omega) (by omega))]
    by_cases c3 : c = 3
    · rw [c3, if_pos (show nI 3 = (3 : Int32) from rfl), if_pos rfl]
    · rw [if_neg (show ¬ nI c = (3 : Int32) from fun q => c3 ((nI_eq (b := 3) (by omega) (by decide)).mp q)), if_neg c3]
  | succ d ih =>
    intro p fuel h1 h2
    obtain ⟨fuel, rfl⟩ : ∃ q, fuel = q + 1 := ⟨fuel - 1, by omega⟩
    have i1 := ih (p + 1) fuel (by omega) (by omega)
    have fb := fB_iff (s := S) (k := p) s31 (by omega)
    by_cases c1 : S.testBit p = true
    · by_cases c2 : F 3 p = 0
      · have e : kX8_cuts_78 n (fuel + 1) σ (nI S) (nI c) (nI p) = kX8_cuts_78 n fuel σ (nI S) (nI c) (nI (p + 1)) := by
          show kX8_cuts_78_b n _ _ _ _ _ = _
          unfold kX8_cuts_78_b kX8_cuts_105
          rw [pM, if_neg (nI_ge (by omega) (by omega)), (r8_isOn _ _).1 (fb.mpr c1), hv_b2_e, if_neg (by decide), hv_if_t (hv_ok_nI (show p < 6 by omega) (by decide)), nI_clamp (by omega), e3, if_pos c2, nI_1]
        rw [e]
        exact ⟨fun ⟨s, q1, q2, q3, q4⟩ => i1.1 ⟨s, by rcases Nat.lt_or_ge p s with l | l; exact l; exact absurd (by rw [show s = p by omega]; exact c2) q4, q2, q3, q4⟩, fun q => i1.2 (fun ⟨s, q1, q2⟩ => q ⟨s, by omega, q2⟩)⟩
      · refine ⟨fun _ => ?_, fun q => absurd ⟨p, Nat.le_refl _, by omega, c1, c2⟩ q⟩
        show kX8_cuts_78_b n _ _ _ _ _ = _
        unfold kX8_cuts_78_b
        rw [pM, if_neg (nI_ge (by omega) (by omega)), (r8_isOn _ _).1 (fb.mpr c1), hv_b2_e, if_neg (by decide), hv_if_t (hv_ok_nI (show p < 6 by omega) (by decide)), nI_clamp (by omega), e3, if_neg c2]
    · have e : kX8_cuts_78 n (fuel + 1) σ (nI S) (nI c) (nI p) = kX8_cuts_78 n fuel σ (nI S) (nI c) (nI (p + 1)) := by
        show kX8_cuts_78_b n _ _ _ _ _ = _
        unfold kX8_cuts_78_b kX8_cuts_105
        rw [pM, if_neg (nI_ge (by omega) (by omega)), (r8_isOn _ _).2 (fun z => c1 (fb.mp z)), hv_b2_e, if_pos rfl, nI_1]
      rw [e]
      exact ⟨fun ⟨s, q1, q2, q3, q4⟩ => i1.1 ⟨s, by rcases Nat.lt_or_ge p s with l | l; exact l; exact absurd (by rw [show p = s by omega]; exact q3) c1, q2, q3, q4⟩, fun q => i1.2 (fun ⟨s, q1, q2⟩ => q ⟨s, by omega, q2⟩)⟩
theorem cL_mono (F : Nat → Nat → Int32) (O S k : Nat) : ∀ m, (cL F O S k).length ≤ (cL F O S (k + m)).length
  | 0 => Nat.le_refl _
  | m + 1 => by
    refine Nat.le_trans (cL_mono F O S k m) ?_
    rw [← Nat.add_assoc, cL_succ]
    by_cases h : (O.testBit (k + m) && (S.testBit (fA F (k + m)) != S.testBit (fC F (k + m)))) = true
    · rw [if_pos h, List.length_append]; omega
    · rw [if_neg h]; omega
def gCut (F : Nat → Nat → Int32) (P B O S : Nat) : Prop := (cL F O S B).length = 3 ∧ ¬ hdS F P S
theorem r8_cuts24 {n : Nat} (hn : 12 < n) {F : Nat → Nat → Int32} {P B O D W : Nat} (hi : hI F P B O D W) {S : Nat} (hS : S < 2 ^ P) : ∀ (d b fuel : Nat) (σ : hv_St), b + d = B → d < fuel → rM F σ → (cL F O S b).length ≤ 3 → (∀ i, i < (cL F O S b).length → σ.1 20 i = nI ((cL F O S b).getD i 0)) → ∃ τ, rM F τ ∧ τ.2 = σ.2 ∧ τ.1 0 = σ.1 0 ∧ (gCut F P B O S → kX8_cuts_24 n fuel σ (nI S) (nI (cL F O S b).length) (nI b) = some (1, τ) ∧ ∀ i, i < 3 → τ.1 20 i = nI ((cL F O S B).getD i 0)) ∧ (¬ gCut F P B O S → kX8_cuts_24 n fuel σ (nI S) (nI (cL F O S b).length) (nI b) = some (0, τ)) := by
  have hP := hi.1.2
  have hB := hi.2.1.2
  have hO := hi.2.2.1
  have o31 : O < 2 ^ 31 := by have := p2048 hB hO.2; omega
  intro d
  induction d with
  | zero =>
    intro b fuel σ h1 h2 hm h3 h4
    obtain ⟨fuel, rfl⟩ : ∃ q, fuel = q + 1 := ⟨fuel - 1, by omega⟩
    obtain rfl : b = B := by omega
    have q := r8_cuts78 (n := n) hi hS hm h3 P 0 n (by omega) (by omega)
    have e : kX8_cuts_24 n (fuel + 1) σ (nI S) (nI (cL F O S b).length) (nI b) = kX8_cuts_78 n n σ (nI S) (nI (cL F O S b).length) (nI 0) := by
      show kX8_cuts_24_b n _ _ _ _ _ = _
      unfold kX8_cuts_24_b
      rw [hm.1.2.1.trans hi.2.1.1, if_pos (nI_le (Nat.le_refl _) (by omega))]
      rfl
    rw [e]
    refine ⟨σ, hm, rfl, rfl, fun g => ⟨?_, fun i hi' => h4 i (by rw [g.1]; exact hi')⟩, fun g => ?_⟩
    · rw [q.2 (fun ⟨p, _, p2, p3, p4⟩ => g.2 ⟨p, p2, p3, p4⟩), if_pos g.1]
    · by_cases hh : hdS F P S
      · obtain ⟨p, p2, p3, p4⟩ := hh
        exact q.1 ⟨p, Nat.zero_le _, p2, p3, p4⟩
      · rw [q.2 (fun ⟨p, _, p2, p3, p4⟩ => hh ⟨p, p2, p3, p4⟩), if_neg (fun z => g ⟨z, hh⟩)]
  | succ d ih =>
    intro b fuel σ h1 h2 hm h3 h4
    obtain ⟨fuel, rfl⟩ : ∃ q, fuel = q + 1 := ⟨fuel - 1, by omega⟩
    have hbB : b < B := by omega
    have bM : σ.1 0 6 = nI B := hm.1.2.1.trans hi.2.1.1
    have oM : σ.1 0 11 = nI O := hm.1.2.2.1.trans hO.1
    have fo := fB_iff (s := O) (k := b) o31 (by omega)
    have skip : ¬ (O.testBit b && (S.testBit (fA F b) != S.testBit (fC F b))) = true → kX8_cuts_24 n (fuel + 1) σ (nI S) (nI (cL F O S b).length) (nI b) = kX8_cuts_24 n fuel σ (nI S) (nI (cL F O S b).length) (nI (b + 1)) → ∃ τ, rM F τ ∧ τ.2 = σ.2 ∧ τ.1 0 = σ.1 0 ∧ (gCut F P B O S → kX8_cuts_24 n (fuel + 1) σ (nI S) (nI (cL F O S b).length) (nI b) = some (1, τ) ∧ ∀ i, i < 3 → τ.1 20 i = nI ((cL F O S B).getD i 0)) ∧ (¬ gCut F P B O S → kX8_cuts_24 n (fuel + 1) σ (nI S) (nI (cL F O S b).length) (nI b) = some (0, τ)) := fun hn e => by
      have es : cL F O S (b + 1) = cL F O S b := by rw [cL_succ, if_neg hn]
      rw [e]
      have := ih (b + 1) fuel σ (by omega) (by omega) hm (by rw [es]; exact h3) (by rw [es]; exact h4)
      rw [es] at this
      exact this
    by_cases c1 : O.testBit b = true
    · have en := r8_endIn (n := n) hi hS hm hbB
      by_cases c2 : S.testBit (fA F b) = S.testBit (fC F b)
      · refine skip (by rw [c1, c2]; simp) ?_
        show kX8_cuts_24_b n _ _ _ _ _ = _
        unfold kX8_cuts_24_b kX8_cuts_70
        rw [bM, if_neg (nI_ge hbB (by omega)), oM, (r8_isOn _ _).1 (fo.mpr c1), hv_b2_e, if_neg (by decide), en, if_pos c2, hv_b2_e, if_pos rfl, nI_1]
      · have cr : (O.testBit b && (S.testBit (fA F b) != S.testBit (fC F b))) = true := by rw [c1]; simp [c2]
        have es : cL F O S (b + 1) = cL F O S b ++ [b] := by rw [cL_succ, if_pos cr]
        have el : (cL F O S (b + 1)).length = (cL F O S b).length + 1 := by rw [es, List.length_append]; rfl
        have fe : fE F S b < P := by
          obtain ⟨a1, a2, a3, a4⟩ := hI_ends hi hbB
          unfold fE
          by_cases t : S.testBit (fA F b) = true
          · rw [if_pos t]; exact a2
          · rw [if_neg t]; exact a4
        have e7 : kX8_cuts_24 n (fuel + 1) σ (nI S) (nI (cL F O S b).length) (nI b) = if nI (cL F O S b).length = (3 : Int32) then (some ((0 : Int32), σ)) else (hv_if (hv_ok (nI (cL F O S b).length) 3) (hv_let (hv_sI σ (20) (nI (cL F O S b).length).toNatClampNeg (nI b)) fun s66 => kX8_cuts_70 n (kX8_cuts_24 n fuel) s66 (nI S) (nI (cL F O S b).length + 1) (nI b))) := by
          show kX8_cuts_24_b n _ _ _ _ _ = _
          unfold kX8_cuts_24_b
          rw [bM, if_neg (nI_ge hbB (by omega)), oM, (r8_isOn _ _).1 (fo.mpr c1), hv_b2_e, if_neg (by decide), en, if_neg c2, hv_b2_e, if_neg (nI_n1 (by omega))]
        by_cases c3 : (cL F O S b).length = 3
        · have ng : ¬ gCut F P B O S := fun g => by
            have q := cL_mono F O S (b + 1) (B - (b + 1))
            rw [show b + 1 + (B - (b + 1)) = B by omega] at q
            have := g.1
            omega
          refine ⟨σ, hm, rfl, rfl, fun g => absurd g ng, fun _ => ?_⟩
          rw [e7, c3, if_pos (show nI 3 = (3 : Int32) from rfl)]
        · rw [e7, if_neg (show ¬ nI (cL F O S b).length = (3 : Int32) from fun q => c3 ((nI_eq (b := 3) (by omega) (by decide)).mp q)), hv_if_t (hv_ok_nI (show (cL F O S b).length < 3 by omega) (by decide)), hv_let_e, nI_clamp (by omega)]
          unfold kX8_cuts_70
          rw [nI_1, nI_1, ← el]
          obtain ⟨τ, t1, t2, t3, t4⟩ := ih (b + 1) fuel (hv_sI σ 20 (cL F O S b).length (nI b)) (by omega) (by omega) (rM_sI hm (by decide) _ _) (by omega) (fun i hil => by
            rw [hv_sI_rd, es]
            by_cases ei : i = (cL F O S b).length
            · rw [if_pos ei, ei, getD_app_at]
            · rw [if_neg ei, getD_app_lt (by omega)]
              exact h4 i (by omega))
          exact ⟨τ, t1, t2, t3, t4⟩
    · refine skip (by simp [c1]) ?_
      show kX8_cuts_24_b n _ _ _ _ _ = _
      unfold kX8_cuts_24_b kX8_cuts_70
      rw [bM, if_neg (nI_ge hbB (by omega)), oM, (r8_isOn _ _).2 (fun q => c1 (fo.mp q)), hv_b2_e, if_pos rfl, nI_1]
theorem cut_in {P : Nat} (hP : P ≤ 6) (v : Int32) : (∃ S, 0 < S ∧ S < 2 ^ P ∧ v = nI S) ∨ ((v ≤ 0 ∨ nI (2 ^ P) ≤ v) ∧ ¬ ((1 : Int32) ≤ v ∧ v ≤ nI (2 ^ P) - 1)) := by
  have p64 : 2 ^ P ≤ 64 := Nat.le_trans (Nat.pow_le_pow_right (by decide) hP) (by decide)
  have hin := fN_in (N := 2 ^ P) (by omega) v
  have hif := fN_iff (N := 2 ^ P) (by omega) v
  by_cases c : v ≤ 0
  · refine Or.inr ⟨Or.inl c, fun q => ?_⟩
    have q1 := Int32.le_iff_toInt_le.mp q.1
    have q2 := Int32.le_iff_toInt_le.mp c
    have e1 : (1 : Int32).toInt = 1 := rfl
    have e0 : (0 : Int32).toInt = 0 := rfl
    rw [e1] at q1
    rw [e0] at q2
    omega
  · by_cases c2 : nI (2 ^ P) ≤ v
    · refine Or.inr ⟨Or.inr c2, fun q => ?_⟩
      have f := hin.mpr ⟨Int32.le_iff_toInt_le.mpr (by
        have q1 := Int32.le_iff_toInt_le.mp q.1
        have e1 : (1 : Int32).toInt = 1 := rfl
        have e0 : (0 : Int32).toInt = 0 := rfl
        rw [e1] at q1
        rw [e0]
        omega), q.2⟩
      exact (hif.mp f).2 c2
    · have vn : ¬ v < 0 := fun q => c (Int32.le_of_lt q)
      obtain ⟨S, hS, e⟩ := hif.mpr ⟨vn, c2⟩
      refine Or.inl ⟨S, Nat.pos_of_ne_zero (fun z => c ?_), hS, e⟩
      rw [e, z]
      decide
