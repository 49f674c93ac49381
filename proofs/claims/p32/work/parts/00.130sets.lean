/-! sets of bars as numbers; what a bar brings; frames of states -/
theorem sh_fin : ∀ k : Fin 31, ((nI k.val &&& 31).toBitVec.smod 32).toNat = k.val := by decide +kernel
theorem nI_shr {s k : Nat} (hs : s < 2 ^ 31) (hk : k < 31) : nI s >>> (nI k &&& 31) = nI (s / 2 ^ k) := pk_shrN hs _ k (sh_fin ⟨k, hk⟩)
theorem nI_bit {s k : Nat} (hs : s < 2 ^ 31) (hk : k < 31) : (nI s >>> (nI k &&& 31)) &&& 1 = nI (if s.testBit k = true then 1 else 0) := by
  rw [nI_shr hs hk, show (1 : Int32) = nI 1 from rfl, nI_and, Nat.and_one_is_mod, Nat.testBit_eq_decide_div_mod_eq]
  by_cases h : s / 2 ^ k % 2 = 1
  · rw [h]
    rfl
  · rw [if_neg (by simpa using h), show s / 2 ^ k % 2 = 0 by omega]
theorem fB_iff {s k : Nat} (hs : s < 2 ^ 31) (hk : k < 31) : fB (nI s) (nI k) ↔ s.testBit k = true := by
  unfold fB
  rw [nI_bit hs hk]
  by_cases h : s.testBit k = true
  · rw [if_pos h]
    exact ⟨fun _ => h, fun _ => rfl⟩
  · rw [if_neg h]
    exact ⟨fun q => absurd q (by decide), fun q => absurd q h⟩
def pcK (s k : Nat) : Nat := ((List.range k).filter (fun j => s.testBit j)).length
def pc (s : Nat) : Nat := pcK s 12
theorem pcK_succ (s k : Nat) : pcK s (k + 1) = pcK s k + if s.testBit k = true then 1 else 0 := by
  unfold pcK
  rw [List.range_succ, List.filter_append, List.length_append]
  by_cases h : s.testBit k = true
  · rw [if_pos h, List.filter_cons_of_pos h]
    rfl
  · rw [if_neg h, List.filter_cons_of_neg h]
    rfl
theorem pcK_le (s : Nat) : ∀ k, pcK s k ≤ k
  | 0 => Nat.le_refl _
  | k + 1 => by
    have := pcK_le s k
    rw [pcK_succ]
    by_cases h : s.testBit k = true
    · rw [if_pos h]; omega
    · rw [if_neg h]; omega
def bcF (p0 : Int32) : Int32 :=
  let y0 := p0 - ((p0.toUInt32 >>> ((1 : Int32).toUInt32 &&& Int32.toUInt32 31)).toInt32 &&& 1431655765)
  let y1 := (y0 &&& 858993459) + ((y0.toUInt32 >>> ((2 : Int32).toUInt32 &&& Int32.toUInt32 31)).toInt32 &&& 858993459)
  let y2 := (y1 + (y1.toUInt32 >>> ((4 : Int32).toUInt32 &&& Int32.toUInt32 31)).toInt32) &&& 252645135
  let y3 := y2 + (y2.toUInt32 >>> ((8 : Int32).toUInt32 &&& Int32.toUInt32 31)).toInt32
  let y4 := y3 + (y3.toUInt32 >>> ((16 : Int32).toUInt32 &&& Int32.toUInt32 31)).toInt32
  y4 &&& 63
theorem bc_fin : ∀ s : Fin 2048, bcF (nI s.val) = nI (pc s.val) := by decide +kernel
theorem x_bitCount {n : Nat} {σ : hv_St} {s : Nat} (h : s < 2048) : mJ6_bitCount_0f7a4 n σ (nI s) = some (nI (pc s), σ) := by
  rw [← bc_fin ⟨s, h⟩]
  rfl
theorem r8_bits_loop {n : Nat} {σ : hv_St} {s : Nat} (hs : s < 2 ^ 31) : ∀ (d k fuel : Nat), k + d = 12 → d < fuel → kX8_bits_4 n fuel σ (nI s) (nI (pcK s k)) (nI k) = some (nI (pc s), σ) := by
  intro d
  induction d with
  | zero =>
    intro k fuel hk hf
    obtain ⟨fuel, rfl⟩ : ∃ q, fuel = q + 1 := ⟨fuel - 1, by omega⟩
    obtain rfl : k = 12 := by omega
    rfl
  | succ d ih =>
    intro k fuel hk hf
    obtain ⟨fuel, rfl⟩ : ∃ q, fuel = q + 1 := ⟨fuel - 1, by omega⟩
    show kX8_bits_4_b n _ _ _ _ _ = _
    unfold kX8_bits_4_b
    rw [if_neg (show ¬ (12 : Int32) ≤ nI k from nI_ge (b := 12) (by omega) (by decide)), hv_let_e, nI_bit hs (by omega), nI_add, nI_1, ← pcK_succ]
    exact ih (k + 1) fuel (by omega) (by omega)
theorem r8_bits {n : Nat} (hn : 12 < n) {σ : hv_St} {s : Nat} (hs : s < 2 ^ 31) : mX8_bits n σ (nI s) = some (nI (pc s), σ) := r8_bits_loop hs 12 0 n rfl hn
/-! frames -/
def fr (A B : Nat → Prop) (σ τ : hv_St) : Prop := (∀ k, ¬ A k → τ.1 k = σ.1 k) ∧ ∀ k, ¬ B k → τ.2 k = σ.2 k
theorem fr_rfl {A B : Nat → Prop} {σ : hv_St} : fr A B σ σ := ⟨fun _ _ => rfl, fun _ _ => rfl⟩
theorem fr_tr {A B : Nat → Prop} {σ τ υ : hv_St} (h : fr A B σ τ) (q : fr A B τ υ) : fr A B σ υ := ⟨fun k hk => (q.1 k hk).trans (h.1 k hk), fun k hk => (q.2 k hk).trans (h.2 k hk)⟩
theorem fr_mono {A B A' B' : Nat → Prop} {σ τ : hv_St} (h : fr A B σ τ) (a : ∀ k, A k → A' k) (b : ∀ k, B k → B' k) : fr A' B' σ τ := ⟨fun k hk => h.1 k (fun q => hk (a k q)), fun k hk => h.2 k (fun q => hk (b k q))⟩
theorem fr_I {A B : Nat → Prop} {σ : hv_St} {c : Nat} (h : A c) (k : Nat) (v : Int32) : fr A B σ (hv_sI σ c k v) := ⟨fun j hj => hv_sI_ne _ _ _ (fun e => hj (e ▸ h)), fun _ _ => rfl⟩
theorem fr_J {A B : Nat → Prop} {σ : hv_St} {c : Nat} (h : B c) (k : Nat) (v : Int64) : fr A B σ (hv_sJ σ c k v) := ⟨fun _ _ => rfl, fun j hj => hv_sJ_ne _ _ _ (fun e => hj (e ▸ h))⟩
theorem fr_wJ {A B : Nat → Prop} {σ : hv_St} {c : Nat} (h : B c) (f : Nat → Int64) : fr A B σ (hv_wJ σ c f) := ⟨fun _ _ => rfl, fun j hj => hv_wJ_ne _ _ (fun e => hj (e ▸ h))⟩
theorem fr_wI {A B : Nat → Prop} {σ : hv_St} {c : Nat} (h : A c) (f : Nat → Int32) : fr A B σ (hv_wI σ c f) := ⟨fun j hj => hv_wI_ne _ _ (fun e => hj (e ▸ h)), fun _ _ => rfl⟩
theorem fr_I' {A B : Nat → Prop} {σ τ : hv_St} (q : fr A B σ τ) {c : Nat} (h : A c) (k : Nat) (v : Int32) : fr A B σ (hv_sI τ c k v) := fr_tr q (fr_I h k v)
theorem fr_J' {A B : Nat → Prop} {σ τ : hv_St} (q : fr A B σ τ) {c : Nat} (h : B c) (k : Nat) (v : Int64) : fr A B σ (hv_sJ τ c k v) := fr_tr q (fr_J h k v)
theorem hv_sJ_rd (σ : hv_St) (k i j : Nat) (v : Int64) : (hv_sJ σ k i v).2 k j = if j = i then v else σ.2 k j := by
  rw [hv_sJ_at]
  rfl
theorem rX_fr {F : Nat → Nat → Int32} {A B : Nat → Prop} {σ τ : hv_St} (h : rX F σ) (q : fr A B σ τ) (hA : ∀ k, A k → (9 ≤ k ∧ k ≤ 21) ∨ 25 ≤ k) : rX F τ := rX_1 h (fun k hk => q.1 k (fun a => by have := hA k a; omega))
theorem rM_fr {F : Nat → Nat → Int32} {A B : Nat → Prop} {σ τ : hv_St} (h : rM F σ) (q : fr A B σ τ) (hA : ∀ k, A k → 11 ≤ k) : rM F τ := by
  have e : ∀ k, k ≤ 10 → τ.1 k = σ.1 k := fun k hk => q.1 k (fun a => by have := hA k a; omega)
  obtain ⟨h1, h2⟩ := h
  refine ⟨?_, fun k k1 k2 => (e k k2).trans (h2 k k1 k2)⟩
  rw [e 0 (by decide)]
  exact h1
/-! the frame's numbers -/
def fX (F : Nat → Nat → Int32) (p w : Nat) : Int := if w = 0 then (F 1 p).toInt else (F 2 p).toInt
def fA (F : Nat → Nat → Int32) (b : Nat) : Nat := (F 5 b).toNatClampNeg
def fC (F : Nat → Nat → Int32) (b : Nat) : Nat := (F 6 b).toNatClampNeg
def fBr (F : Nat → Nat → Int32) (b p w : Nat) : Int := if fA F b = p then fX F (fC F b) w - fX F (fA F b) w else if fC F b = p then -(fX F (fC F b) w - fX F (fA F b) w) else 0
theorem fN_e {N : Nat} (hN : N < 2 ^ 31) {v : Int32} (h : fN N v) : v = nI v.toNatClampNeg ∧ v.toNatClampNeg < N := by
  obtain ⟨k, hk, rfl⟩ := h
  rw [nI_clamp (by omega)]
  exact ⟨rfl, hk⟩
theorem hI_ends {F : Nat → Nat → Int32} {P B O D W : Nat} (h : hI F P B O D W) {b : Nat} (hb : b < B) : F 5 b = nI (fA F b) ∧ fA F b < P ∧ F 6 b = nI (fC F b) ∧ fC F b < P := by
  have h1 := h.1.2
  have q := h.2.2.2.2.2.2.1 b hb
  have q1 := fN_e (by omega) q.1
  have q2 := fN_e (by omega) q.2.1
  exact ⟨q1.1, q1.2, q2.1, q2.2⟩
theorem fX_0 (F : Nat → Nat → Int32) (p : Nat) : F 1 p = iI (fX F p 0) := iI_of _
theorem fX_1 (F : Nat → Nat → Int32) (p : Nat) : F 2 p = iI (fX F p 1) := iI_of _
theorem fX_le {F : Nat → Nat → Int32} {P B O D W : Nat} (h : hI F P B O D W) {p : Nat} (hp : p < P) (w : Nat) : 0 ≤ fX F p w ∧ (fX F p w ≤ if w = 0 then 3 else 2) := by
  obtain ⟨⟨a, a1, a2⟩, ⟨c, c1, c2⟩⟩ := h.2.2.2.2.2.1 p hp
  unfold fX
  by_cases e : w = 0
  · rw [if_pos e, if_pos e, a2, nI_toInt (by omega)]
    omega
  · rw [if_neg e, if_neg e, c2, nI_toInt (by omega)]
    omega
theorem hR_spot {F : Nat → Nat → Int32} {σ : hv_St} (h : rX F σ) {p w : Nat} (hp : p < 6) (hw : w < 2) : σ.1 2 (2 * p + w) = iI (fX F p w) := by
  have q := h.2.1 p hp
  rcases (show w = 0 ∨ w = 1 by omega) with rfl | rfl
  · exact q.1.trans (fX_0 F p)
  · exact q.2.trans (fX_1 F p)
theorem x3_brings {n : Nat} {F : Nat → Nat → Int32} {P B O D W : Nat} {σ : hv_St} (hi : hI F P B O D W) (hx : rX F σ) {b p w : Nat} (hb : b < B) (hp : p < 6) (hw : w < 2) : mX3_brings n σ (nI b) (nI (2 * p + w)) = some (iI (fBr F b p w), σ) := by
  have hB := hi.2.1.2
  have hP := hi.1.2
  obtain ⟨e1, e2, e3, e4⟩ := hI_ends hi hb
  have q := hx.2.2.2.2.1 b (by omega)
  unfold mX3_brings
  have d1 : nI (2 * p + w) / (2 : Int32) = nI p := by
    rw [show (2 : Int32) = nI 2 from rfl, pk_div (by omega) (by decide) (by decide), show (2 * p + w) / 2 = p by omega]
  have d2 : nI (2 * p + w) - nI p * (2 : Int32) = nI w := by
    rw [show (2 : Int32) = nI 2 from rfl, pk_mul, pk_sub (by omega), show 2 * p + w - p * 2 = w by omega]
  rw [hv_let_e, hv_let_e, d1, d2, hv_if_t (hv_ok_nI (show b < 11 by omega) (by decide)), nI_clamp (show b < 2 ^ 31 by omega), q.1, q.2.1, e1, e3, nI_2, nI_2, nI_add, nI_add, hv_if_t (hv_ok_nI (show 2 * fC F b + w < 12 by omega) (by decide)), hv_if_t (hv_ok_nI (show b < 11 by omega) (by decide)), hv_if_t (hv_ok_nI (show 2 * fA F b + w < 12 by omega) (by decide)), nI_clamp (by omega), nI_clamp (by omega), hR_spot hx (by omega) hw, hR_spot hx (by omega) hw, hv_let_e, iI_sub, hv_if_t (hv_ok_nI (show b < 11 by omega) (by decide)), hv_if_t (hv_ok_nI (show b < 11 by omega) (by decide))]
  unfold fBr
  by_cases c1 : fA F b = p
  · rw [if_pos ((nI_eq (by omega) (by omega)).mpr c1), if_pos c1]
  · rw [if_neg (fun e => c1 ((nI_eq (by omega) (by omega)).mp e)), if_neg c1]
    by_cases c2 : fC F b = p
    · rw [if_pos ((nI_eq (by omega) (by omega)).mpr c2), if_pos c2, iI_neg]
    · rw [if_neg (fun e => c2 ((nI_eq (by omega) (by omega)).mp e)), if_neg c2]
      rfl
theorem r8_brings {n : Nat} {F : Nat → Nat → Int32} {P B O D W : Nat} {σ : hv_St} (hi : hI F P B O D W) (hm : rM F σ) {b p w : Nat} (hb : b < B) (hp : p < 6) (hw : w < 2) : mX8_brings n σ (nI b) (nI p) (nI w) = some (iI (fBr F b p w), σ) := by
  have hB := hi.2.1.2
  have hP := hi.1.2
  obtain ⟨e1, e2, e3, e4⟩ := hI_ends hi hb
  unfold mX8_brings
  rw [hv_if_t (hv_ok_nI (show b < 11 by omega) (by decide)), hv_let_e, nI_clamp (show b < 2 ^ 31 by omega), hm.2 5 (by decide) (by decide), hm.2 6 (by decide) (by decide), e1, e3, hv_if_t (hv_ok_nI (show b < 11 by omega) (by decide)), hv_let_e]
  have e67 : kX8_brings_30 n σ (nI p) (nI w) (nI (fA F b)) (nI (fC F b)) = if fA F b = p then some (iI (fX F (fC F b) w - fX F (fA F b) w), σ) else some (iI (-(fX F (fC F b) w - fX F (fA F b) w)), σ) := by
    unfold kX8_brings_30 kX8_brings_67
    simp only [hv_if_t (hv_ok_nI (show fC F b < 6 by omega) (by decide)), hv_if_t (hv_ok_nI (show fA F b < 6 by omega) (by decide)), nI_clamp (show fC F b < 2 ^ 31 by omega), nI_clamp (show fA F b < 2 ^ 31 by omega), hm.2 1 (by decide) (by decide), hm.2 2 (by decide) (by decide), nI_eq (show p < 2 ^ 31 by omega) (show fA F b < 2 ^ 31 by omega)]
    rcases (show w = 0 ∨ w = 1 by omega) with rfl | rfl
    · rw [if_pos (show nI 0 = 0 from rfl), fX_0 F (fC F b), fX_0 F (fA F b), iI_sub, iI_neg]
      by_cases c : fA F b = p
      · rw [if_pos c.symm, if_pos c]
      · rw [if_neg (fun e => c e.symm), if_neg c]
    · rw [if_neg (show ¬ nI 1 = 0 by decide), fX_1 F (fC F b), fX_1 F (fA F b), iI_sub, iI_neg]
      by_cases c : fA F b = p
      · rw [if_pos c.symm, if_pos c]
      · rw [if_neg (fun e => c e.symm), if_neg c]
  rw [e67]
  unfold fBr
  by_cases c1 : fA F b = p
  · rw [if_pos ((nI_eq (by omega) (by omega)).mpr c1.symm), if_pos c1, if_pos c1]
  · rw [if_neg (fun e => c1 ((nI_eq (by omega) (by omega)).mp e).symm), if_neg c1, if_neg c1]
    by_cases c2 : fC F b = p
    · rw [if_pos ((nI_eq (by omega) (by omega)).mpr c2.symm), if_pos c2]
    · rw [if_neg (fun e => c2 ((nI_eq (by omega) (by omega)).mp e).symm), if_neg c2]
      rfl
theorem fBr_le {F : Nat → Nat → Int32} {P B O D W : Nat} (h : hI F P B O D W) {b : Nat} (hb : b < B) (p w : Nat) : -3 ≤ fBr F b p w ∧ fBr F b p w ≤ 3 := by
  obtain ⟨e1, e2, e3, e4⟩ := hI_ends h hb
  have q1 := fX_le h e2 w
  have q2 := fX_le h e4 w
  have q3 : (if w = 0 then (3 : Int) else 2) ≤ 3 := by by_cases e : w = 0 <;> simp [e]
  unfold fBr
  by_cases c1 : fA F b = p
  · rw [if_pos c1]; omega
  · rw [if_neg c1]
    by_cases c2 : fC F b = p
    · rw [if_pos c2]; omega
    · rw [if_neg c2]; omega
