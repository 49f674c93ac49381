/-! the reference's bears -/
def sumK (f : Nat → Int) : Nat → Int
  | 0 => 0
  | k + 1 => sumK f k + f k
def bC (F : Nat → Nat → Int32) (P S T : Nat) : Bool := decide (andn T S = 0) && decide (pc T = fN' F P)
theorem bC_iff {F : Nat → Nat → Int32} {P S T : Nat} : bC F P S T = true ↔ andn T S = 0 ∧ pc T = fN' F P := by
  unfold bC
  rw [Bool.and_eq_true, decide_eq_true_iff, decide_eq_true_iff]
def uS (F : Nat → Nat → Int32) (P B S T : Nat) : Int := if bC F P S T = true then gPr F (andn S T) B * dN F P B T * dN F P B T else 0
def oS (F : Nat → Nat → Int32) (P B : Nat) (col : md_V) (S c T : Nat) : Int := if bC F P S T = true then oT F P B col T (gPr F (andn S T) B) c else 0
theorem r8_bears_45 {n : Nat} (hn : 12 < n) {F : Nat → Nat → Int32} {P B O D W : Nat} (hi : hI F P B O D W) {col : md_V} (hcw : md_W (fR F P) col 108) {S : Nat} (hS : S < 2 ^ B) {σ₀ : hv_St} (h0 : rB F P col σ₀) : ∀ (d T fuel : Nat) (σ : hv_St), T + d = 2 ^ B → d < fuel → σ.1 = σ₀.1 → (∀ q, q ≠ 0 → q ≠ 13 → q ≠ 15 → σ.2 q = σ₀.2 q) → σ.2 0 24 = iL (sumK (uS F P B S) T) → (∀ c, c < B → σ.2 15 c = iL (sumK (oS F P B col S c) T)) → ∃ τ, kX8_bears_45 n fuel σ (nI S) (nI T) = some (1, τ) ∧ τ.1 = σ₀.1 ∧ (∀ q, q ≠ 0 → q ≠ 13 → q ≠ 15 → τ.2 q = σ₀.2 q) ∧ τ.2 0 24 = iL (sumK (uS F P B S) (2 ^ B)) ∧ ∀ c, c < B → τ.2 15 c = iL (sumK (oS F P B col S c) (2 ^ B)) := by
  have hB := hi.2.1.2
  have h2B : 2 ^ B ≤ 2048 := Nat.le_trans (Nat.pow_le_pow_right (by decide) hB) (by decide)
  intro d
  induction d with
  | zero =>
    intro T fuel σ hT hf h1 h2 h3 h4
    obtain ⟨fuel, rfl⟩ : ∃ q, fuel = q + 1 := ⟨fuel - 1, by omega⟩
    have hTB : T = 2 ^ B := by omega
    rw [hTB] at h3 h4
    refine ⟨σ, ?_, h1, h2, h3, h4⟩
    have bM : σ.1 0 6 = nI B := (rB_1 h0 h1).1.1.2.1.trans hi.2.1.1
    show kX8_bears_45_b n _ _ _ _ = _
    unfold kX8_bears_45_b
    rw [bM, nI_shl (by omega), if_pos (nI_le (by omega) (by omega))]
  | succ d ih =>
    intro T fuel σ hT hf h1 h2 h3 h4
    obtain ⟨fuel, rfl⟩ : ∃ q, fuel = q + 1 := ⟨fuel - 1, by omega⟩
    have hσ := rB_1 h0 h1
    have bM : σ.1 0 6 = nI B := hσ.1.1.2.1.trans hi.2.1.1
    have hTB : T < 2 ^ B := by omega
    have pl := pc_le T
    have e0 : nI (andn T S) = 0 ↔ andn T S = 0 := nI_0e (by have := andn_lt (b := S) hTB; omega)
    have su : sumK (uS F P B S) (T + 1) = sumK (uS F P B S) T + uS F P B S T := rfl
    have so : ∀ c, sumK (oS F P B col S c) (T + 1) = sumK (oS F P B col S c) T + oS F P B col S c T := fun c => rfl
    have hN : fN' F P ≤ 12 := by
      have hP := hi.1.2
      have hl : fN' F P ≤ 2 * P := fL_le F (2 * P)
      omega
    have ep : nI (pc T) = nI (fN' F P) ↔ pc T = fN' F P := nI_eq (by omega) (by omega)
    have hb := r8_bits (n := n) (σ := σ) hn (s := T) (by omega)
    have hfr18 : σ.1 0 18 = nI (fN' F P) := hσ.2.1.1
    by_cases hc : bC F P S T = true
    · obtain ⟨c1, c2⟩ := bC_iff.mp hc
      have hTl : (fBl T B).length = fN' F P := by rw [← pc_fBl hB hTB]; exact c2
      obtain ⟨τ1, a1, a2, a3, a4, a5⟩ := r8_addsSet (n := n) hn hi hcw (T := T) (S := S) (by omega) hS hTl hσ h3 h4
      obtain ⟨τ, t1, t2, t3, t4, t5⟩ := ih (T + 1) fuel τ1 (by omega) (by omega) (a2.trans h1) (fun q q0 q1 q2 => (a3 q q0 q1 q2).trans (h2 q q0 q1 q2)) (by
        rw [a4, su]
        unfold uS
        rw [if_pos hc]) (fun c hc' => by
        rw [a5 c hc', so]
        congr 2
        unfold oS
        rw [if_pos hc])
      refine ⟨τ, ?_, t2, t3, t4, t5⟩
      show kX8_bears_45_b n _ _ _ _ = _
      unfold kX8_bears_45_b kX8_bears_80
      rw [bM, nI_shl (by omega), if_neg (nI_ge hTB (by omega)), nI_andn, if_pos (e0.mpr c1), hb, hv_b2_e, hfr18, if_pos (ep.mpr c2), a1, hv_bd_e, nI_1]
      exact t1
    · have z1 : uS F P B S T = 0 := by unfold uS; rw [if_neg hc]
      have z2 : ∀ c, oS F P B col S c T = 0 := fun c => by unfold oS; rw [if_neg hc]
      obtain ⟨τ, t1, t2, t3, t4, t5⟩ := ih (T + 1) fuel σ (by omega) (by omega) h1 h2 (by rw [su, z1, Int.add_zero]; exact h3) (fun c hc' => by rw [so, z2, Int.add_zero]; exact h4 c hc')
      refine ⟨τ, ?_, t2, t3, t4, t5⟩
      show kX8_bears_45_b n _ _ _ _ = _
      unfold kX8_bears_45_b kX8_bears_80
      rw [bM, nI_shl (by omega), if_neg (nI_ge hTB (by omega)), nI_andn, nI_1]
      by_cases q1 : andn T S = 0
      · rw [if_pos (e0.mpr q1), hb, hv_b2_e, hfr18, if_neg (fun q => hc (bC_iff.mpr ⟨q1, ep.mp q⟩))]
        exact t1
      · rw [if_neg (fun q => q1 (e0.mp q))]
        exact t1
theorem r8_bears_24 {n : Nat} {σ : hv_St} {S : Int32} : ∀ (d k fuel : Nat) (f : Nat → Int64), k + d = 11 → d < fuel → (∀ j, j < k → f j = 0) → ∃ g, kX8_bears_24 n fuel (hv_wJ σ 15 f) S (nI k) = kX8_bears_45 n n (hv_wJ σ 15 g) S 0 ∧ ∀ j, j < 11 → g j = 0 := by
  intro d
  induction d with
  | zero =>
    intro k fuel f hk hf hg
    obtain ⟨fuel, rfl⟩ : ∃ q, fuel = q + 1 := ⟨fuel - 1, by omega⟩
    refine ⟨f, ?_, fun j hj => hg j (by omega)⟩
    show kX8_bears_24_b n _ _ _ _ = _
    unfold kX8_bears_24_b
    rw [if_pos (show (11 : Int32) ≤ nI k from nI_le (a := 11) (by omega) (by omega))]
  | succ d ih =>
    intro k fuel f hk hf hg
    obtain ⟨fuel, rfl⟩ : ∃ q, fuel = q + 1 := ⟨fuel - 1, by omega⟩
    obtain ⟨g, g1, g2⟩ := ih (k + 1) fuel (vp_updL f k 0) (by omega) (by omega) (fun j hj => by
      by_cases e : j = k
      · rw [e, pk_uLs]
      · rw [pk_uLn e]
        exact hg j (by omega))
    refine ⟨g, ?_, g2⟩
    show kX8_bears_24_b n _ _ _ _ = _
    unfold kX8_bears_24_b
    rw [if_neg (show ¬ (11 : Int32) ≤ nI k from nI_ge (b := 11) (by omega) (by decide)), hv_if_t (hv_ok_nI (show k < 11 by omega) (by decide)), hv_let_e, nI_clamp (by omega), hv_sJ_wJ, nI_1]
    exact g1
def fFirm (F : Nat → Nat → Int32) (P B S : Nat) : Prop := 1 ≤ fKind F P B S ∧ fKind F P B S ≤ 3
theorem fKind_le (F : Nat → Nat → Int32) (P B S : Nat) : fKind F P B S ≤ 4 := by
  unfold fKind kdN
  by_cases c : (fBase F P (fBl S B)).length < fN' F P
  · rw [if_pos c]; omega
  · rw [if_neg c]
    by_cases c2 : (fSp F P B S).length ≤ 2
    · rw [if_pos c2]; omega
    · rw [if_neg c2]; omega
/-- the loads taken, as integers -/
def tkM (z : Nat → Int) (σ : hv_St) : Prop := ∀ s, s < 12 → σ.1 16 s = iI (z s)
def uSum (F : Nat → Nat → Int32) (P B S : Nat) : Int := sumK (uS F P B S) (2 ^ B)
def oSum (F : Nat → Nat → Int32) (P B S : Nat) (z : Nat → Int) (c : Nat) : Int := sumK (oS F P B (fCo F P z) S c) (2 ^ B)
def frB0 (k : Nat) : Prop := k = 0 ∨ k = 11 ∨ k = 12 ∨ k = 14
def frB2 (k : Nat) : Prop := k = 0 ∨ k = 13 ∨ k = 15
theorem r8_bears {n : Nat} (hn : 2100 ≤ n) {F : Nat → Nat → Int32} {P B O D W : Nat} (hi : hI F P B O D W) {S : Nat} (hS : S < 2 ^ B) {σ : hv_St} (hm : rM F σ) {z : Nat → Int} (hz : ∀ s, s < 12 → (z s).natAbs ≤ 9) (ht : tkM z σ) : ∃ τ, rM F τ ∧ zM F P B S τ ∧ fr frB0 frB2 σ τ ∧ (∀ i, i ≠ 18 → i ≠ 20 → i ≠ 21 → τ.1 0 i = σ.1 0 i) ∧ (fFirm F P B S → mX8_bears n σ (nI S) = some (1, τ) ∧ τ.2 0 24 = iL (uSum F P B S) ∧ ∀ c, c < B → τ.2 15 c = iL (oSum F P B S z c)) ∧ (¬ fFirm F P B S → mX8_bears n σ (nI S) = some (0, τ)) := by
  have hB := hi.2.1.2
  have h2B : 2 ^ B ≤ 2048 := Nat.le_trans (Nat.pow_le_pow_right (by decide) hB) (by decide)
  obtain ⟨τ1, b1, b2, b3, b4, b5⟩ := r8_kindOf (n := n) (by omega) hi (show S < 2 ^ 31 by omega) hm
  have hk4 := fKind_le F P B S
  by_cases hf : fFirm F P B S
  · have ht1 : ∀ s, s < 12 → τ1.1 16 s = iI (z s) := fun s hs => by
      rw [b4.1 16 (by decide)]
      exact ht s hs
    obtain ⟨g, g1, g2⟩ := r8_laysColumn (n := n) (by omega) hi b3.1 ht1
    obtain ⟨f, f1, f2⟩ := r8_bears_24 (n := n) (σ := hv_sJ (hv_wI τ1 14 g) 0 24 0) (S := nI S) 11 0 n ((hv_sJ (hv_wI τ1 14 g) 0 24 0).2 15) (by omega) (by omega) (fun j hj => absurd hj (Nat.not_lt_zero _))
    rw [hv_wJ_self] at f1
    have hP := hi.1.2
    have hl := fL_le F (2 * P)
    have hrB : rB F P (fCo F P z) (hv_wJ (hv_sJ (hv_wI τ1 14 g) 0 24 0) 15 f) := by
      refine ⟨rM_fr (A := fun k => k = 14) (B := fun _ => True) b2 ⟨fun k hk => hv_wI_ne _ _ hk, fun k hk => absurd trivial hk⟩ (fun k hk => by omega), ⟨?_, fun j hj => ?_⟩, fun k hk => ⟨?_, ?_⟩⟩
      · show (hv_wI τ1 14 g).1 0 18 = _
        rw [hv_wI_ne _ _ (by decide)]
        exact b3.1.1
      · show (hv_wI τ1 14 g).1 11 j = _ ∧ (hv_wI τ1 14 g).1 12 j = _
        rw [hv_wI_ne _ _ (by decide), hv_wI_ne _ _ (by decide)]
        exact b3.1.2 j hj
      · show (hv_wI τ1 14 g).1 14 k = _
        rw [hv_wI_at]
        exact g2 k hk
      · have := (fL_lt hk).1
        have h9 := hz ((fL F (2 * P)).getD k 0) (by omega)
        show (-(z ((fL F (2 * P)).getD k 0))).natAbs ≤ _
        omega
    obtain ⟨τ, t1, t2, t3, t4, t5⟩ := r8_bears_45 (n := n) (by omega) hi (fCo_W hP hz) hS hrB (2 ^ B) 0 n _ (by omega) (by omega) rfl (fun _ _ _ _ => rfl) (by
      rw [hv_wJ_ne _ _ (by decide), hv_sJ_rd, if_pos rfl]
      rfl) (fun c hc => by
      rw [hv_wJ_at, f2 c (by omega)]
      rfl)
    have e1 : τ.1 = (hv_wI τ1 14 g).1 := t2
    refine ⟨τ, (rB_1 hrB t2).1, ⟨(rB_1 hrB t2).2.1, ?_⟩, ?_, fun i i1 i2 i3 => ?_, fun _ => ⟨?_, t4, t5⟩, fun q => absurd hf q⟩
    · unfold sM
      rw [e1, hv_wI_ne _ _ (show 0 ≠ 14 by decide)]
      exact b3.2
    · refine fr_tr (fr_mono b4 (fun k h => ?_) (fun k h => Or.inr (Or.inl h))) ⟨fun k hk => ?_, fun k hk => ?_⟩
      · rcases h with h | h | h
        · exact Or.inl h
        · exact Or.inr (Or.inl h)
        · exact Or.inr (Or.inr (Or.inl h))
      · rw [e1, hv_wI_ne _ _ (fun q => hk (Or.inr (Or.inr (Or.inr q))))]
      · have k0 : k ≠ 0 := fun q => hk (Or.inl q)
        have k13 : k ≠ 13 := fun q => hk (Or.inr (Or.inl q))
        have k15 : k ≠ 15 := fun q => hk (Or.inr (Or.inr q))
        rw [t3 k k0 k13 k15, hv_wJ_ne _ _ k15, hv_sJ_ne _ _ _ k0]
        rfl
    · rw [e1, hv_wI_ne _ _ (show 0 ≠ 14 by decide)]
      exact b5 i i1 i2 i3
    · unfold mX8_bears mX8_isFirm
      rw [b1, hv_b2_e, if_neg (nI_nle hf.1 (by omega)), if_neg (show ¬ (4 : Int32) ≤ nI (fKind F P B S) from nI_ge (b := 4) (by have := hf.2; omega) (by decide)), hv_b2_e, if_neg (by decide), g1, hv_bd_e, hv_let_e]
      exact f1.trans t1
  · refine ⟨τ1, b2, b3, fr_mono b4 (fun k h => ?_) (fun k h => Or.inr (Or.inl h)), b5, fun q => absurd q hf, fun _ => ?_⟩
    · rcases h with h | h | h
      · exact Or.inl h
      · exact Or.inr (Or.inl h)
      · exact Or.inr (Or.inr (Or.inl h))
    · unfold mX8_bears mX8_isFirm kX8_isFirm_13
      rw [b1, hv_b2_e]
      by_cases c0 : fKind F P B S = 0
      · rw [c0, if_pos (show nI 0 ≤ 0 by decide), hv_b2_e, if_pos rfl]
      · have c4 : fKind F P B S = 4 := by
          unfold fFirm at hf
          omega
        rw [c4, if_neg (show ¬ nI 4 ≤ 0 by decide), if_pos (show (4 : Int32) ≤ nI 4 by decide), hv_b2_e, if_pos rfl]
