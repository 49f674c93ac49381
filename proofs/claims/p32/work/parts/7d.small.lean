/-! the law's small methods at such a state -/
def nz74 (x0 x1 : Int32) : Int32 := (x1) + (((x0).toUInt32 >>> (((1 : Int32)).toUInt32 &&& Int32.toUInt32 31)).toInt32)
def nz62 (x0 x1 : Int32) : Int32 := if x0 ≤ (4 : Int32) then nz74 x0 x1 else nz74 (((x0).toUInt32 >>> (((2 : Int32)).toUInt32 &&& Int32.toUInt32 31)).toInt32) (x1 + 2)
def nz49 (x0 x1 : Int32) : Int32 := if x0 ≤ (16 : Int32) then nz62 x0 x1 else nz62 (((x0).toUInt32 >>> (((4 : Int32)).toUInt32 &&& Int32.toUInt32 31)).toInt32) (x1 + 4)
def nz34 (x0 x1 : Int32) : Int32 := if x0 ≤ (256 : Int32) then nz49 x0 x1 else nz49 (((x0).toUInt32 >>> (((8 : Int32)).toUInt32 &&& Int32.toUInt32 31)).toInt32) (x1 + 8)
def nzV (x : Int32) : Int32 := if 0 < ((x) ^^^ ((-1 : Int32))) &&& ((x) - ((1 : Int32))) then (if ((x) ^^^ ((-1 : Int32))) &&& ((x) - ((1 : Int32))) ≤ (65536 : Int32) then nz34 (((x) ^^^ ((-1 : Int32))) &&& ((x) - ((1 : Int32)))) 1 else nz34 (((((x) ^^^ ((-1 : Int32))) &&& ((x) - ((1 : Int32)))).toUInt32 >>> (((16 : Int32)).toUInt32 &&& Int32.toUInt32 31)).toInt32) (((1 : Int32)) + 16)) else (((x) ^^^ ((-1 : Int32))) &&& ((x) - ((1 : Int32)))) &&& ((32 : Int32))
theorem nz62_e (n : Nat) (σ : hv_St) (x0 x1 : Int32) : kJ6_numberOfTrailingZeros_0f7a4_62 n σ x0 x1 = some (nz62 x0 x1, σ) := by
  unfold kJ6_numberOfTrailingZeros_0f7a4_62 nz62
  by_cases c : x0 ≤ (4 : Int32)
  · rw [if_pos c, if_pos c]; rfl
  · rw [if_neg c, if_neg c]; rfl
theorem nz49_e (n : Nat) (σ : hv_St) (x0 x1 : Int32) : kJ6_numberOfTrailingZeros_0f7a4_49 n σ x0 x1 = some (nz49 x0 x1, σ) := by
  unfold kJ6_numberOfTrailingZeros_0f7a4_49 nz49
  by_cases c : x0 ≤ (16 : Int32)
  · rw [if_pos c, if_pos c]; exact nz62_e n σ _ _
  · rw [if_neg c, if_neg c]; exact nz62_e n σ _ _
theorem nz34_e (n : Nat) (σ : hv_St) (x0 x1 : Int32) : kJ6_numberOfTrailingZeros_0f7a4_34 n σ x0 x1 = some (nz34 x0 x1, σ) := by
  unfold kJ6_numberOfTrailingZeros_0f7a4_34 nz34
  by_cases c : x0 ≤ (256 : Int32)
  · rw [if_pos c, if_pos c]; exact nz49_e n σ _ _
  · rw [if_neg c, if_neg c]; exact nz49_e n σ _ _
theorem nzV_e (n : Nat) (σ : hv_St) (x : Int32) : mJ6_numberOfTrailingZeros_0f7a4 n σ x = some (nzV x, σ) := by
  unfold mJ6_numberOfTrailingZeros_0f7a4 nzV
  rw [hv_let_e]
  by_cases c : 0 < ((x) ^^^ ((-1 : Int32))) &&& ((x) - ((1 : Int32)))
  · rw [if_pos c, if_pos c]
    by_cases d : ((x) ^^^ ((-1 : Int32))) &&& ((x) - ((1 : Int32))) ≤ (65536 : Int32)
    · rw [if_pos d, if_pos d]; exact nz34_e n σ _ _
    · rw [if_neg d, if_neg d]; exact nz34_e n σ _ _
  · rw [if_neg c, if_neg c]
theorem nz_fin : ∀ s : Fin 2048, s.val ≠ 0 → nzV (nI s.val) = nI ((fBl s.val 11).getD 0 0) := by decide +kernel
theorem lb_fin : ∀ s : Fin 2048, s.val ≠ 0 → (nI s.val &&& (nI s.val - 1)) = nI (s.val &&& (s.val - 1)) ∧ s.val &&& (s.val - 1) < 2048 ∧ fBl (s.val &&& (s.val - 1)) 11 = (fBl s.val 11).tail := by decide +kernel
theorem fBl_11 {s B : Nat} (hB : B ≤ 11) (h : s < 2 ^ B) : fBl s 11 = fBl s B := by
  have key : ∀ d, fBl s (B + d) = fBl s B := fun d => by
    induction d with
    | zero => rfl
    | succ d ih =>
      rw [← Nat.add_assoc, fBl_succ, if_neg (by
        rw [Nat.testBit_lt_two_pow (Nat.lt_of_lt_of_le h (Nat.pow_le_pow_right (show 0 < 2 by decide) (Nat.le_add_right B d)))]
        decide), ih]
  have := key (11 - B)
  rw [show B + (11 - B) = 11 by omega] at this
  exact this
theorem l_spareAt {n : Nat} (hn : 200 ≤ n) {F : Nat → Nat → Int32} {P B O D W Eb Es : Nat} (hE : fSe F P B O Eb Es) (hi : hI F P B O D W) {σ : hv_St} (hx : rX F σ) {i : Nat} (hil : i < (fSp F P B O).length) (hm : (fSp F P B O).length ≤ 2) : ∃ τ, rX F τ ∧ mL_spareAt n σ (nI i) = some (nI ((fSp F P B O).getD i 0), τ) := by
  have hB := hi.2.1.2
  obtain ⟨τ, c6, x6⟩ := xp_count hn hE hi hx 6 (by decide)
  have e6 : xcR F P B O Eb Es (nI 6) = nI Es := rfl
  have hs := p2048 hB hE.2.1
  have el : fBl Es 11 = fSp F P B O := by
    rw [fBl_11 hB hE.2.1]
    exact fSp_Es (fun b => (hE.2.2.2 b).trans fSp_mem)
  have n0 : Es ≠ 0 := fun q => by
    rw [q] at el
    rw [← el] at hil
    exact absurd hil (by rw [show (fBl 0 11).length = 0 from rfl]; omega)
  refine ⟨τ, x6, ?_⟩
  unfold mL_spareAt
  rw [show (6 : Int32) = nI 6 from rfl, c6, hv_b2_e, e6]
  obtain ⟨n, rfl⟩ : ∃ q, n = q + 2 := ⟨n - 2, by omega⟩
  show kL_spareAt_9_b (n + 2) _ _ _ _ _ = _
  unfold kL_spareAt_9_b
  rcases (show i = 0 ∨ i = 1 by omega) with rfl | rfl
  · rw [if_pos (show nI 0 ≤ 0 by decide), nzV_e, hv_b2_e, nz_fin ⟨Es, hs⟩ n0, el]
  · obtain ⟨b1, b2, b3⟩ := lb_fin ⟨Es, hs⟩ n0
    rw [if_neg (show ¬ nI 1 ≤ 0 by decide), hv_let_e, b1]
    show kL_spareAt_9_b (n + 2) _ _ _ _ _ = _
    unfold kL_spareAt_9_b
    rw [el] at b3
    have n1 : Es &&& (Es - 1) ≠ 0 := fun q => by
      have b4 := b3
      simp only at b4
      rw [q] at b4
      have : (fSp F P B O).tail.length = 0 := by rw [← b4]; rfl
      rw [List.length_tail] at this
      omega
    rw [if_pos (show nI 1 ≤ 0 + 1 by decide), nzV_e, hv_b2_e, nz_fin ⟨Es &&& (Es - 1), b2⟩ n1]
    simp only at b3 ⊢
    rw [b3]
    congr 2
    cases (fSp F P B O) with
    | nil => rfl
    | cons a l => cases l <;> rfl
theorem l_isOn (n : Nat) (σ : hv_St) {s k : Nat} (hs : s < 2 ^ 31) (hk : k < 31) : (s.testBit k = true → mL_isOn n σ (nI s) (nI k) = some (1, σ)) ∧ (¬ s.testBit k = true → mL_isOn n σ (nI s) (nI k) = some (0, σ)) := by
  have q := fB_iff hs hk
  unfold fB at q
  unfold mL_isOn
  exact ⟨fun h => if_pos (q.mpr h), fun h => if_neg (fun r => h (q.mp r))⟩
theorem l_isFirm (n : Nat) (σ : hv_St) {k : Nat} (hk : k ≤ 4) : (1 ≤ k ∧ k ≤ 3 → mL_isFirm n σ (nI k) = some (1, σ)) ∧ (¬ (1 ≤ k ∧ k ≤ 3) → mL_isFirm n σ (nI k) = some (0, σ)) := by
  rcases (show k = 0 ∨ k = 1 ∨ k = 2 ∨ k = 3 ∨ k = 4 by omega) with rfl | rfl | rfl | rfl | rfl
  · exact ⟨fun h => by omega, fun _ => rfl⟩
  · exact ⟨fun h => rfl, fun h => by omega⟩
  · exact ⟨fun h => rfl, fun h => by omega⟩
  · exact ⟨fun h => rfl, fun h => by omega⟩
  · exact ⟨fun h => by omega, fun _ => rfl⟩
/-- the frame as the law keeps it -/
def tF (F : Nat → Nat → Int32) (P B O : Nat) (τ : hv_St) : Prop := tB F P B O τ ∧ (∀ q, q < P → τ.1 4 q = F 3 q) ∧ ∀ s, s < 2 * P → τ.1 5 s = F 4 s
theorem l_brings {n : Nat} {F : Nat → Nat → Int32} {P B O D W : Nat} (hi : hI F P B O D W) {τ : hv_St} (ht : tF F P B O τ) {b p d : Nat} (hb : b < B) (hp : p < P) (hd : d < 2) : mL_brings n τ (nI b) (nI p) (nI d) = some (iI (fBr F b p d), τ) := by
  have hB := hi.2.1.2
  have hP := hi.1.2
  obtain ⟨e1, e2, e3, e4⟩ := hI_ends hi hb
  obtain ⟨⟨-, -, -, t4, t5⟩, -, -⟩ := ht
  obtain ⟨q1, q2, -⟩ := t5 b hb
  obtain ⟨pa0, pa1⟩ := t4 (fA F b) e2
  obtain ⟨pc0, pc1⟩ := t4 (fC F b) e4
  have x0 : ∀ p, F 1 p = iI (fX F p 0) := fun p => iI_of (F 1 p)
  have x1 : ∀ p, F 2 p = iI (fX F p 1) := fun p => iI_of (F 2 p)
  have k22 : kL_brings_22 n τ (nI b) (nI p) (nI d) = some (if fA F b = p then iI (fX F (fC F b) d - fX F (fA F b) d) else -iI (fX F (fC F b) d - fX F (fA F b) d), τ) := by
    have k75 : ∀ z, kL_brings_75 n τ (nI b) (nI p) z = some (if fA F b = p then z else -z, τ) := fun z => by
      unfold kL_brings_75
      rw [hv_if_t (hv_ok_nI (show b < 11 by omega) (by decide)), nI_clamp (by omega), q1, e1]
      by_cases c : fA F b = p
      · rw [if_pos (by rw [c]), if_pos c]
      · rw [if_neg (fun r => c ((nI_eq (by omega) (by omega)).mp r)), if_neg c]
    unfold kL_brings_22
    rcases (show d = 0 ∨ d = 1 by omega) with rfl | rfl
    · rw [if_pos (show nI 0 = 0 from rfl), hv_if_t (hv_ok_nI (show b < 11 by omega) (by decide)), nI_clamp (by omega), q2, e3, hv_if_t (hv_ok_nI (show fC F b < 6 by omega) (by decide)), hv_if_t (hv_ok_nI (show b < 11 by omega) (by decide)), q1, e1, hv_if_t (hv_ok_nI (show fA F b < 6 by omega) (by decide)), nI_clamp (by omega), nI_clamp (by omega), pa0, pc0, x0, x0, iI_sub, k75]
    · rw [if_neg (show ¬ nI 1 = 0 by decide), hv_if_t (hv_ok_nI (show b < 11 by omega) (by decide)), nI_clamp (by omega), q2, e3, hv_if_t (hv_ok_nI (show fC F b < 6 by omega) (by decide)), hv_if_t (hv_ok_nI (show b < 11 by omega) (by decide)), q1, e1, hv_if_t (hv_ok_nI (show fA F b < 6 by omega) (by decide)), nI_clamp (by omega), nI_clamp (by omega), pa1, pc1, x1, x1, iI_sub, k75]
  unfold mL_brings fBr
  rw [hv_if_t (hv_ok_nI (show b < 11 by omega) (by decide)), nI_clamp (by omega), q1, e1, q2, e3]
  by_cases c1 : fA F b = p
  · rw [if_pos (by rw [c1]), if_pos c1, k22, if_pos c1]
  · rw [if_neg (fun e => c1 ((nI_eq (by omega) (by omega)).mp e)), if_neg c1, hv_if_t (hv_ok_nI (show b < 11 by omega) (by decide))]
    by_cases c2 : fC F b = p
    · rw [if_pos (by rw [c2]), if_pos c2, k22, if_neg c1, iI_neg]
    · rw [if_neg (fun e => c2 ((nI_eq (by omega) (by omega)).mp e)), if_neg c2]
      rfl
theorem l_ld {F : Nat → Nat → Int32} {P B O D W : Nat} (hi : hI F P B O D W) {τ : hv_St} (ht : tF F P B O τ) {s : Nat} (hs : s < 2 * P) : (τ.1 5 s).toInt64 = iL (ldz F s) := by
  have hP := hi.1.2
  obtain ⟨le, lb⟩ := ldz_e hi (show s < 12 by omega)
  rw [ht.2.2 s hs, le, iI_L ⟨by omega, by omega⟩]
theorem l_held {n : Nat} {F : Nat → Nat → Int32} {P B O D W : Nat} (hi : hI F P B O D W) {τ : hv_St} (ht : tF F P B O τ) {p d : Nat} (hp : p < P) (hd : d < 2) (σ : hv_St) : (fFree F (2 * p + d) = true → mL_isOn n σ (τ.1 4 p) (nI d) = some (0, σ)) ∧ (¬ fFree F (2 * p + d) = true → mL_isOn n σ (τ.1 4 p) (nI d) = some (1, σ)) := by
  have hP := hi.1.2
  obtain ⟨m, hm, em⟩ := hi.2.2.2.2.2.2.2.2.1 p (by omega)
  rw [ht.2.1 p hp]
  unfold fFree mL_isOn
  rw [show (2 * p + d) / 2 = p by omega, show (2 * p + d) % 2 = d by omega, em]
  rcases (show m = 0 ∨ m = 1 ∨ m = 2 ∨ m = 3 by omega) with rfl | rfl | rfl | rfl <;> rcases (show d = 0 ∨ d = 1 by omega) with rfl | rfl
  · exact ⟨fun _ => rfl, fun h => absurd (by decide) h⟩
  · exact ⟨fun _ => rfl, fun h => absurd (by decide) h⟩
  · exact ⟨fun h => absurd h (by decide), fun _ => rfl⟩
  · exact ⟨fun _ => rfl, fun h => absurd (by decide) h⟩
  · exact ⟨fun _ => rfl, fun h => absurd (by decide) h⟩
  · exact ⟨fun h => absurd h (by decide), fun _ => rfl⟩
  · exact ⟨fun h => absurd h (by decide), fun _ => rfl⟩
  · exact ⟨fun h => absurd h (by decide), fun _ => rfl⟩
