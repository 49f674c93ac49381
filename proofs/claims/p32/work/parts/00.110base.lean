/-! the small tests of both sides; what is kept of a frame: F, the reference's own numbers -/
theorem i64_le {a b : Int32} : a.toInt64 ≤ b.toInt64 ↔ a ≤ b := by
  rw [Int64.le_iff_toInt_le, Int32.le_iff_toInt_le, Int32.toInt_toInt64, Int32.toInt_toInt64]
theorem r8_in {n : Nat} {σ : hv_St} (v a b : Int64) : mX8_in n σ v a b = some (if a ≤ v ∧ v ≤ b then 1 else 0, σ) := by
  unfold mX8_in
  by_cases h1 : v < a
  · rw [if_pos ((lg_cmp_lt v a).mpr h1), if_neg (fun h => Int64.not_lt.mpr h.1 h1)]
    rfl
  · rw [if_neg (fun h => h1 ((lg_cmp_lt v a).mp h))]
    by_cases h2 : b < v
    · rw [if_pos ((lg_cmp_gt v b).mpr h2), if_neg (fun h => Int64.not_lt.mpr h.2 h2)]
      rfl
    · rw [if_neg (fun h => h2 ((lg_cmp_gt v b).mp h)), if_pos ⟨Int64.not_lt.mp h1, Int64.not_lt.mp h2⟩]
theorem r8_in32 {n : Nat} {σ : hv_St} (v a b : Int32) : mX8_in n σ v.toInt64 a.toInt64 b.toInt64 = some (if a ≤ v ∧ v ≤ b then 1 else 0, σ) := by
  rw [r8_in]
  by_cases h : a ≤ v ∧ v ≤ b
  · rw [if_pos h, if_pos ⟨i64_le.mpr h.1, i64_le.mpr h.2⟩]
  · rw [if_neg h, if_neg (fun q => h ⟨i64_le.mp q.1, i64_le.mp q.2⟩)]
/-- v is one of the first N numbers -/
def fN (N : Nat) (v : Int32) : Prop := ∃ k, k < N ∧ v = nI k
theorem fN_iff {N : Nat} (hN : N < 2 ^ 31) (v : Int32) : fN N v ↔ ¬ v < 0 ∧ ¬ nI N ≤ v := by
  constructor
  · rintro ⟨k, hk, rfl⟩
    exact ⟨nI_pos (by omega), nI_ge hk hN⟩
  · rintro ⟨h1, h2⟩
    obtain ⟨j, hj, rfl⟩ := nI_of h1
    exact ⟨j, Nat.lt_of_not_le (fun q => h2 ((nI_leI hN hj).mpr q)), rfl⟩
theorem fN_in {N : Nat} (hN : N < 2 ^ 31) (v : Int32) : fN N v ↔ 0 ≤ v ∧ v ≤ nI N - 1 := by
  rw [fN_iff hN]
  have e0 : (nI N).toInt = N := nI_toInt hN
  have e1 : (nI N - 1).toInt = (N : Int) - 1 := by
    rw [nI_iI, show (1 : Int32) = iI 1 from rfl, iI_sub, iI_toInt ⟨by omega, by omega⟩]
  rw [Int32.lt_iff_toInt_lt, Int32.le_iff_toInt_le, Int32.le_iff_toInt_le, Int32.le_iff_toInt_le, e0, e1, show (0 : Int32).toInt = 0 from rfl]
  omega
def rM (F : Nat → Nat → Int32) (σ : hv_St) : Prop := (σ.1 0 1 = F 0 1 ∧ σ.1 0 6 = F 0 6 ∧ σ.1 0 11 = F 0 11 ∧ σ.1 0 13 = F 0 13 ∧ σ.1 0 15 = F 0 15) ∧ ∀ k, 1 ≤ k → k ≤ 10 → σ.1 k = F k
def rX (F : Nat → Nat → Int32) (σ : hv_St) : Prop := (σ.1 1 0 = F 0 1 ∧ σ.1 1 1 = F 0 6 ∧ σ.1 1 2 = F 0 11 ∧ σ.1 22 0 = F 0 13 ∧ σ.1 22 1 = F 0 15) ∧ (∀ p, p < 6 → σ.1 2 (2 * p) = F 1 p ∧ σ.1 2 (2 * p + 1) = F 2 p) ∧ (∀ s, s < 12 → σ.1 3 s = F 4 s) ∧ (∀ p w, p < 6 → w < 2 → σ.1 4 (2 * p + w) = ((F 3 p) >>> nI w) &&& 1) ∧ (∀ b, b < 11 → σ.1 5 b = F 5 b ∧ σ.1 6 b = F 6 b ∧ σ.1 7 b = F 7 b ∧ σ.1 8 b = F 8 b) ∧ (∀ i, i < 6 → σ.1 23 i = F 9 i) ∧ ∀ i, i < 4 → σ.1 24 i = F 10 i
theorem r8_isPin {n : Nat} {σ : hv_St} {P : Nat} (hP : P < 2 ^ 31) (hs : σ.1 0 1 = nI P) (v : Int32) : (fN P v → mX8_isPin n σ v = some (1, σ)) ∧ (¬ fN P v → mX8_isPin n σ v = some (0, σ)) := by
  have e : mX8_isPin n σ v = some (if 0 ≤ v ∧ v ≤ nI P - 1 then 1 else 0, σ) := by
    unfold mX8_isPin
    rw [hs, show (0 : Int64) = (0 : Int32).toInt64 from rfl, r8_in32, hv_b2_e]
    refine hv_if_t ?_ _
    by_cases h : 0 ≤ v ∧ v ≤ nI P - 1
    · rw [if_pos h]; decide
    · rw [if_neg h]; decide
  rw [e]
  constructor
  · intro h
    rw [if_pos ((fN_in hP v).mp h)]
  · intro h
    rw [if_neg (fun q => h ((fN_in hP v).mpr q))]
theorem r8_isBar {n : Nat} {σ : hv_St} {P : Nat} (hP : P < 2 ^ 31) (hs : σ.1 0 6 = nI P) (v : Int32) : (fN P v → mX8_isBar n σ v = some (1, σ)) ∧ (¬ fN P v → mX8_isBar n σ v = some (0, σ)) := by
  have e : mX8_isBar n σ v = some (if 0 ≤ v ∧ v ≤ nI P - 1 then 1 else 0, σ) := by
    unfold mX8_isBar
    rw [hs, show (0 : Int64) = (0 : Int32).toInt64 from rfl, r8_in32, hv_b2_e]
    refine hv_if_t ?_ _
    by_cases h : 0 ≤ v ∧ v ≤ nI P - 1
    · rw [if_pos h]; decide
    · rw [if_neg h]; decide
  rw [e]
  constructor
  · intro h
    rw [if_pos ((fN_in hP v).mp h)]
  · intro h
    rw [if_neg (fun q => h ((fN_in hP v).mpr q))]
theorem x3_isPin {n : Nat} {σ : hv_St} {P : Nat} (hP : P < 2 ^ 31) (hs : σ.1 1 0 = nI P) (v : Int32) : (fN P v → mX3_isPin n σ v = some (1, σ)) ∧ (¬ fN P v → mX3_isPin n σ v = some (0, σ)) := by
  unfold mX3_isPin
  rw [hs]
  by_cases h1 : v < 0
  · rw [if_pos h1]
    exact ⟨fun h => absurd h1 ((fN_iff hP v).mp h).1, fun _ => rfl⟩
  · rw [if_neg h1]
    by_cases h2 : nI P ≤ v
    · rw [if_pos h2]
      exact ⟨fun h => absurd h2 ((fN_iff hP v).mp h).2, fun _ => rfl⟩
    · rw [if_neg h2]
      exact ⟨fun _ => rfl, fun h => absurd ((fN_iff hP v).mpr ⟨h1, h2⟩) h⟩
theorem x3_isBar {n : Nat} {σ : hv_St} {P : Nat} (hP : P < 2 ^ 31) (hs : σ.1 1 1 = nI P) (v : Int32) : (fN P v → mX3_isBar n σ v = some (1, σ)) ∧ (¬ fN P v → mX3_isBar n σ v = some (0, σ)) := by
  unfold mX3_isBar
  rw [hs]
  by_cases h1 : v < 0
  · rw [if_pos h1]
    exact ⟨fun h => absurd h1 ((fN_iff hP v).mp h).1, fun _ => rfl⟩
  · rw [if_neg h1]
    by_cases h2 : nI P ≤ v
    · rw [if_pos h2]
      exact ⟨fun h => absurd h2 ((fN_iff hP v).mp h).2, fun _ => rfl⟩
    · rw [if_neg h2]
      exact ⟨fun _ => rfl, fun h => absurd ((fN_iff hP v).mpr ⟨h1, h2⟩) h⟩
/-- bit k of a set -/
def fB (s k : Int32) : Prop := (s >>> (k &&& 31)) &&& 1 = 1
theorem r8_isOn {n : Nat} {σ : hv_St} (s k : Int32) : (fB s k → mX8_isOn n σ s k = some (1, σ)) ∧ (¬ fB s k → mX8_isOn n σ s k = some (0, σ)) := by
  unfold mX8_isOn fB
  exact ⟨fun h => if_pos h, fun h => if_neg h⟩
theorem x7_has {n : Nat} {σ : hv_St} (s k : Int32) : (fB s k → mX7_has n σ s k = some (1, σ)) ∧ (¬ fB s k → mX7_has n σ s k = some (0, σ)) := by
  unfold mX7_has fB
  exact ⟨fun h => if_pos h, fun h => if_neg h⟩
/-- a bar that is on: of the first B, its bit set -/
def fO (B : Nat) (s v : Int32) : Prop := fN B v ∧ fB s v
theorem x3_isOn {n : Nat} {σ : hv_St} {B : Nat} (hB : B < 2 ^ 31) (hs : σ.1 1 1 = nI B) (v : Int32) : (fO B (σ.1 1 2) v → mX3_isOn n σ v = some (1, σ)) ∧ (¬ fO B (σ.1 1 2) v → mX3_isOn n σ v = some (0, σ)) := by
  unfold mX3_isOn
  by_cases h1 : fN B v
  · rw [(x3_isBar hB hs v).1 h1, hv_b2_e, if_neg (by decide)]
    by_cases h2 : fB (σ.1 1 2) v
    · rw [(x7_has _ v).1 h2, hv_b2_e, if_neg (by decide)]
      exact ⟨fun _ => rfl, fun h => absurd ⟨h1, h2⟩ h⟩
    · rw [(x7_has _ v).2 h2, hv_b2_e, if_pos rfl]
      exact ⟨fun h => absurd h.2 h2, fun _ => rfl⟩
  · rw [(x3_isBar hB hs v).2 h1, hv_b2_e, if_pos rfl]
    exact ⟨fun h => absurd h.1 h1, fun _ => rfl⟩
