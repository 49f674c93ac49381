/-! bare and unit pulls laid by the reference; its k-th spare one -/
theorem rM_14 {F : Nat → Nat → Int32} {σ : hv_St} (h : rM F σ) (g : Nat → Int32) : rM F (hv_wI σ 14 g) := rM_fr (A := fun k => k = 14) (B := fun _ => True) h ⟨fun k hk => hv_wI_ne _ _ hk, fun k hk => absurd trivial hk⟩ (fun k hk => by omega)
theorem rFr_of {F : Nat → Nat → Int32} {P : Nat} {σ τ : hv_St} (h : rFr F P σ) (h0 : τ.1 0 18 = σ.1 0 18) (h1 : τ.1 11 = σ.1 11) (h2 : τ.1 12 = σ.1 12) : rFr F P τ := by
  unfold rFr
  rw [h0, h1, h2]
  exact h
/-- the reference settled: base set Eb -/
def zE (F : Nat → Nat → Int32) (P B S Eb : Nat) (σ : hv_St) : Prop := rM F σ ∧ rFr F P σ ∧ σ.1 0 20 = nI Eb ∧ Eb < 2 ^ B ∧ (∀ b, Eb.testBit b = true ↔ b ∈ fBase F P (fBl S B))
theorem zE_of {F : Nat → Nat → Int32} {P B S Eb : Nat} {σ τ : hv_St} (h : zE F P B S Eb σ) (hm : rM F τ) (e : ∀ j, j = 0 ∨ j = 11 ∨ j = 12 → τ.1 j = σ.1 j) : zE F P B S Eb τ := by
  obtain ⟨h1, h2, h3, h4⟩ := h
  refine ⟨hm, rFr_of h2 (by rw [e 0 (by omega)]) (e 11 (by omega)) (e 12 (by omega)), ?_, h4⟩
  rw [e 0 (by omega)]
  exact h3
theorem zE_len {F : Nat → Nat → Int32} {P B S Eb : Nat} {σ : hv_St} (h : zE F P B S Eb σ) (hl : (fBase F P (fBl S B)).length = fN' F P) : (fBl Eb B).length = fN' F P := by
  rw [fBase_Eb h.2.2.2.2, hl]
theorem r8_laysBare {n : Nat} (hn : 20 < n) {F : Nat → Nat → Int32} {P B O D W : Nat} (hi : hI F P B O D W) {S Eb : Nat} {σ : hv_St} (h : zE F P B S Eb σ) (hl : (fBase F P (fBl S B)).length = fN' F P) : ∃ τ, mX8_laysBare n σ = some τ ∧ zE F P B S Eb τ ∧ (∀ j, j ≠ 14 → j ≠ 16 → τ.1 j = σ.1 j) ∧ τ.2 0 29 = iL (dN F P B Eb) ∧ (∀ c, c < 11 → τ.2 17 c = iL (yS F P B Eb (fCo F P (ldz F)) c)) ∧ ∀ j, j ≠ 0 → j ≠ 13 → j ≠ 17 → τ.2 j = σ.2 j := by
  have hP := hi.1.2
  obtain ⟨f, f1, f2, f3⟩ := r8_takesLoads (n := n) hn hi h.1
  have hz1 : zE F P B S Eb (hv_wI σ 16 f) := zE_of h f2 (fun j hj => hv_wI_ne _ _ (by omega))
  obtain ⟨g, g1, g2⟩ := r8_laysColumn (n := n) (by omega) hi hz1.2.1 f3
  have hm2 := rM_14 hz1.1 g
  have hz2 : zE F P B S Eb (hv_wI (hv_wI σ 16 f) 14 g) := zE_of hz1 hm2 (fun j hj => hv_wI_ne _ _ (by omega))
  have rb : rB F P (fCo F P (ldz F)) (hv_wI (hv_wI σ 16 f) 14 g) := ⟨hm2, hz2.2.1, fun k hk => by
    rw [hv_wI_at]
    refine ⟨g2 k hk, ?_⟩
    have := (fL_lt hk).1
    have h9 := (ldz_e hi (show (fL F (2 * P)).getD k 0 < 12 by omega)).2
    show (-(ldz F ((fL F (2 * P)).getD k 0))).natAbs ≤ 2 ^ 20
    omega⟩
  obtain ⟨τ, t1, t2, t3, t4, t5⟩ := r8_laysState (n := n) (by omega) hi (q := 17) (by omega) (fCo_W hP (fun s hs => (ldz_e hi hs).2)) h.2.2.2.1 (zE_len h hl) rb hz2.2.2.1
  refine ⟨τ, ?_, zE_of hz2 (by unfold rM; rw [t2]; exact hm2) (fun j _ => by rw [t2]), fun j j1 j2 => ?_, t3, t4, t5⟩
  · unfold mX8_laysBare
    rw [f1, hv_bd_e, g1, hv_bd_e, t1, hv_bd_e]
  · rw [t2, hv_wI_ne _ _ j1, hv_wI_ne _ _ j2]
theorem fCn_W {F : Nat → Nat → Int32} {P B O D W : Nat} (hi : hI F P B O D W) {a : Nat} (ha : a < B) : md_W (fR F P) (fCn F P a) 108 := by
  have q := md_W_lin (fCol_W hi ha) (md_W_zero (R := fR F P)) (-1) 0
  have e : (fun r => (-1) * fCol F P a r + 0 * 0) = fCn F P a := funext fun r => by
    show (-1) * fCol F P a r + 0 * 0 = -(fCol F P a r)
    omega
  rw [e] at q
  exact md_W_le q (by decide)
theorem r8_unit {n : Nat} {F : Nat → Nat → Int32} {P B O D W : Nat} (hi : hI F P B O D W) {q : Nat} {σ : hv_St} (hm : rM F σ) (hfr : rFr F P σ) {a : Nat} (ha : a < B) : ∀ (d k fuel : Nat) (f : Nat → Int32), k + d = fN' F P → d < fuel → (∀ j, j < k → f j = iI (fCn F P a j)) → ∃ g, kX8_laysUnit_2 q n fuel (hv_wI σ 14 f) (nI a) (nI k) = (hv_bd (mX8_laysState n (hv_wI σ 14 g) q) fun s42 => hv_if (hv_ok (nI a) 11) (hv_let (hv_sJ s42 q (nI a).toNatClampNeg (s42.2 0 29)) fun s51 => some s51)) ∧ ∀ j, j < fN' F P → g j = iI (fCn F P a j) := by
  have hP := hi.1.2
  have hB := hi.2.1.2
  have eN : fN' F P = (fL F (2 * P)).length := rfl
  have hl : fN' F P ≤ 2 * P := fL_le F (2 * P)
  intro d
  induction d with
  | zero =>
    intro k fuel f hk hf hg
    obtain ⟨fuel, rfl⟩ : ∃ q, fuel = q + 1 := ⟨fuel - 1, by omega⟩
    refine ⟨f, ?_, fun j hj => hg j (by omega)⟩
    show kX8_laysUnit_2_b q n _ _ _ _ = _
    unfold kX8_laysUnit_2_b
    rw [hv_wI_ne _ _ (show 0 ≠ 14 by decide), hfr.1, if_pos (nI_le (by omega) (by omega))]
  | succ d ih =>
    intro k fuel f hk hf hg
    obtain ⟨fuel, rfl⟩ : ∃ q, fuel = q + 1 := ⟨fuel - 1, by omega⟩
    have hkN : k < (fL F (2 * P)).length := by omega
    have hs := (fL_lt hkN).1
    have hfk := hfr.2 k hkN
    obtain ⟨g, g1, g2⟩ := ih (k + 1) fuel (upd f k (iI (fCn F P a k))) (by omega) (by omega) (fun j hj => by
      by_cases e : j = k
      · rw [e, pk_us]
      · rw [pk_un e]
        exact hg j (by omega))
    refine ⟨g, ?_, g2⟩
    rw [← g1]
    show kX8_laysUnit_2_b q n _ _ _ _ = _
    unfold kX8_laysUnit_2_b
    rw [hv_wI_ne _ _ (show 0 ≠ 14 by decide), hfr.1, if_neg (nI_ge (by omega) (by omega)), hv_if_t (hv_ok_nI (show k < 12 by omega) (by decide)), hv_if_t (hv_ok_nI (show k < 12 by omega) (by decide)), nI_clamp (show k < 2 ^ 31 by omega), hv_wI_ne _ _ (show 11 ≠ 14 by decide), hv_wI_ne _ _ (show 12 ≠ 14 by decide), hfk.1, hfk.2, r8_brings hi (rM_14 hm f) ha (show (fL F (2 * P)).getD k 0 / 2 < 6 by omega) (by omega), hv_b2_e, hv_if_t (hv_ok_nI (show k < 12 by omega) (by decide)), hv_let_e, iI_neg, hv_sI_wI, nI_1]
    rfl
theorem r8_laysUnit {n : Nat} (hn : 20 < n) {F : Nat → Nat → Int32} {P B O D W : Nat} (hi : hI F P B O D W) {S Eb : Nat} {σ : hv_St} (h : zE F P B S Eb σ) (hl : (fBase F P (fBl S B)).length = fN' F P) {a : Nat} (ha : a < B) {q : Nat} (hq : q = 18 ∨ q = 19) : ∃ τ, mX8_laysUnit n σ (nI a) q = some τ ∧ zE F P B S Eb τ ∧ (∀ j, j ≠ 14 → τ.1 j = σ.1 j) ∧ τ.2 0 29 = iL (dN F P B Eb) ∧ (∀ c, c < 11 → τ.2 q c = iL (if c = a then dN F P B Eb else yS F P B Eb (fCn F P a) c)) ∧ ∀ j, j ≠ 0 → j ≠ 13 → j ≠ q → τ.2 j = σ.2 j := by
  have hP := hi.1.2
  have hB := hi.2.1.2
  have hlN : fN' F P ≤ 2 * P := fL_le F (2 * P)
  obtain ⟨g, g1, g2⟩ := r8_unit (n := n) hi (q := q) h.1 h.2.1 ha (fN' F P) 0 n (σ.1 14) (by omega) (by omega) (fun j hj => absurd hj (Nat.not_lt_zero _))
  rw [hv_wI_self] at g1
  have hm2 := rM_14 h.1 g
  have hz2 : zE F P B S Eb (hv_wI σ 14 g) := zE_of h hm2 (fun j hj => hv_wI_ne _ _ (by omega))
  have rb : rB F P (fCn F P a) (hv_wI σ 14 g) := ⟨hm2, hz2.2.1, fun k hk => by
    rw [hv_wI_at]
    refine ⟨g2 k hk, ?_⟩
    have := fBr_le hi ha ((fL F (2 * P)).getD k 0 / 2) ((fL F (2 * P)).getD k 0 % 2)
    show (-(fBr F a ((fL F (2 * P)).getD k 0 / 2) ((fL F (2 * P)).getD k 0 % 2))).natAbs ≤ 2 ^ 20
    omega⟩
  obtain ⟨τ, t1, t2, t3, t4, t5⟩ := r8_laysState (n := n) (by omega) hi (q := q) (by omega) (fCn_W hi ha) h.2.2.2.1 (zE_len h hl) rb hz2.2.2.1
  refine ⟨hv_sJ τ q a (iL (dN F P B Eb)), ?_, zE_of hz2 (show rM F τ from by unfold rM; rw [t2]; exact hm2) (fun j _ => by show τ.1 j = _; rw [t2]), fun j j1 => ?_, ?_, fun c hc => ?_, fun j j0 j1 j2 => ?_⟩
  · unfold mX8_laysUnit
    refine g1.trans ?_
    rw [t1, hv_bd_e, hv_if_t (hv_ok_nI (show a < 11 by omega) (by decide)), hv_let_e, nI_clamp (by omega), t3]
  · show τ.1 j = _
    rw [t2, hv_wI_ne _ _ j1]
  · rw [hv_sJ_ne _ _ _ (by omega), t3]
  · rw [hv_sJ_rd]
    by_cases e : c = a
    · rw [if_pos e, if_pos e]
    · rw [if_neg e, if_neg e]
      exact t4 c hc
  · rw [hv_sJ_ne _ _ _ j2, t5 j j0 j1 j2]
    rfl
theorem r8_spAt {n : Nat} {B : Nat} (hB : B ≤ 11) {σ : hv_St} (hb : σ.1 0 6 = nI B) {Es : Nat} (hE : Es < 2 ^ 31) (h21 : σ.1 0 21 = nI Es) {i : Nat} (hi : i < 2 ^ 31) : ∀ (d b fuel : Nat), b + d = B → d < fuel → (fBl Es b).length ≤ i → kX8_spareAt_4 n fuel σ (nI i) (nI (fBl Es b).length) (nI b) = some (if i < (fBl Es B).length then nI ((fBl Es B).getD i 0) else -1, σ) := by
  intro d
  induction d with
  | zero =>
    intro b fuel h1 h2 h3
    obtain ⟨fuel, rfl⟩ : ∃ q, fuel = q + 1 := ⟨fuel - 1, by omega⟩
    obtain rfl : b = B := by omega
    show kX8_spareAt_4_b n _ _ _ _ _ = _
    unfold kX8_spareAt_4_b
    rw [hb, if_pos (nI_le (Nat.le_refl _) (by omega)), if_neg (by omega)]
  | succ d ih =>
    intro b fuel h1 h2 h3
    obtain ⟨fuel, rfl⟩ : ∃ q, fuel = q + 1 := ⟨fuel - 1, by omega⟩
    have fb := fB_iff (s := Es) (k := b) hE (by omega)
    have hlb : (fBl Es b).length ≤ b := by
      have h2 := List.length_filter_le (fun j => Es.testBit j) (List.range b)
      rw [List.length_range] at h2
      exact h2
    show kX8_spareAt_4_b n _ _ _ _ _ = _
    unfold kX8_spareAt_4_b kX8_spareAt_33
    rw [hb, if_neg (nI_ge (by omega) (by omega)), h21]
    by_cases hbs : Es.testBit b = true
    · rw [(r8_isOn _ _).1 (fb.mpr hbs), hv_b2_e, if_neg (by decide)]
      have es : fBl Es (b + 1) = fBl Es b ++ [b] := by rw [fBl_succ, if_pos hbs]
      have el : (fBl Es (b + 1)).length = (fBl Es b).length + 1 := by rw [es, List.length_append]; rfl
      by_cases c : (fBl Es b).length = i
      · have hp := fBl_pre (S := Es) (b := b + 1) B (by omega) i (by omega)
        have hlt : i < (fBl Es B).length := by
          have q : ∀ m, (fBl Es (b + 1)).length ≤ (fBl Es (b + 1 + m)).length := fun m => by
            induction m with
            | zero => exact Nat.le_refl _
            | succ m ihm =>
              refine Nat.le_trans ihm ?_
              rw [← Nat.add_assoc, fBl_succ]
              by_cases t : Es.testBit (b + 1 + m) = true
              · rw [if_pos t, List.length_append]; omega
              · rw [if_neg t]; omega
          have := q (B - (b + 1))
          rw [show b + 1 + (B - (b + 1)) = B by omega] at this
          omega
        rw [if_pos ((nI_eq (by omega) hi).mpr c), if_pos hlt, hp, es, ← c, getD_app_at]
      · rw [if_neg (fun q => c ((nI_eq (by omega) hi).mp q)), nI_1, nI_1, ← el]
        exact ih (b + 1) fuel (by omega) (by omega) (by omega)
    · rw [(r8_isOn _ _).2 (fun z => hbs (fb.mp z)), hv_b2_e, if_pos rfl, nI_1]
      have es : fBl Es (b + 1) = fBl Es b := by rw [fBl_succ, if_neg hbs]
      have := ih (b + 1) fuel (by omega) (by omega) (by rw [es]; exact h3)
      rw [es] at this
      exact this
theorem r8_isFirm {n : Nat} {σ : hv_St} {k : Nat} (hk : k ≤ 4) : (1 ≤ k ∧ k ≤ 3 → mX8_isFirm n σ (nI k) = some (1, σ)) ∧ (¬ (1 ≤ k ∧ k ≤ 3) → mX8_isFirm n σ (nI k) = some (0, σ)) := by
  unfold mX8_isFirm kX8_isFirm_13
  by_cases c0 : k = 0
  · rw [c0, if_pos (show nI 0 ≤ 0 by decide)]
    exact ⟨fun q => by omega, fun _ => rfl⟩
  · rw [if_neg (nI_nle (by omega) (by omega))]
    by_cases c4 : k = 4
    · rw [c4, if_pos (show (4 : Int32) ≤ nI 4 by decide)]
      exact ⟨fun q => by omega, fun _ => rfl⟩
    · rw [if_neg (show ¬ (4 : Int32) ≤ nI k from nI_ge (b := 4) (by omega) (by decide))]
      exact ⟨fun _ => rfl, fun q => by omega⟩
