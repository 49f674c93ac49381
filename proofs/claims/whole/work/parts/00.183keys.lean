/-! keys -/
theorem fBl_andn {O B b : Nat} {j : Nat} : j ∈ fBl (andn O (2 ^ b)) B ↔ (j < B ∧ O.testBit j = true) ∧ j ≠ b := by
  rw [fBl_mem, andn_bit, tb_pow]
  exact ⟨fun h => ⟨⟨h.1, h.2.1⟩, h.2.2⟩, fun h => ⟨h.1.1, h.1.2, h.2⟩⟩
theorem need_iff {F : Nat → Nat → Int32} {P B O : Nat} {τ : hv_St} {A : Nat → md_V} {e : Int} (ht : tX F P B τ (fBase F P (fBl O B)) A e) (hl : (fBase F P (fBl O B)).length = fN' F P) {r : Nat} (hr : r < fN' F P) : ¬ Fc F P B (andn O (2 ^ (fBase F P (fBl O B)).getD r 0)) ↔ ∀ a, a ∈ fSp F P B O → md_T (fR F P) (fN' F P) A (fCol F P a) r = 0 := by
  have tb := tX_tb ht
  have nd := fBase_nd F P O B
  have hA : ∀ j, j < fN' F P → A j = fCol F P ((fBase F P (fBl O B)).getD j 0) := fun j hj => (tb.2.1 j (by rw [hl]; exact hj)).2
  constructor
  · intro hn a ha
    refine Classical.byContradiction fun hT => hn (fun X => ?_)
    have hd : md_dt (fR F P) (md_up A r (fCol F P a)) (fN' F P) ≠ 0 := hT
    have q := (md_in_iff (L := fun v => ∃ k, k < fN' F P ∧ True ∧ md_up A r (fCol F P a) k = v) (I := fun _ => True) hd (fun v => Iff.rfl) X).mpr (fun k _ hI => absurd trivial hI)
    refine md_in_mono q (fun v hv => ?_)
    obtain ⟨k, hk, -, rfl⟩ := hv
    by_cases ek : k = r
    · rw [ek, md_up_at]
      refine md_in_of ⟨a, fBl_andn.mpr ⟨(fSp_mem.mp ha).1, fun q => (fSp_mem.mp ha).2 ?_⟩, rfl⟩
      rw [q]
      exact getD_mem (by rw [hl]; exact hr)
    · rw [md_up_ne _ _ ek, hA k hk]
      have mk : (fBase F P (fBl O B)).getD k 0 ∈ fBase F P (fBl O B) := getD_mem (by rw [hl]; exact hk)
      exact md_in_of ⟨_, fBl_andn.mpr ⟨fBase_mem mk, fun q => ek (getD_inj nd (by rw [hl]; exact hk) (by rw [hl]; exact hr) q)⟩, rfl⟩
  · intro h0 hf
    have q := hf (A r) (fun v => md_dt (fR F P) (md_up A r v) (fN' F P)) (md_dt_Z _ A hr) (fun v hv => ?_)
    · have q' : md_T (fR F P) (fN' F P) A (A r) r = 0 := q
      rw [md_T_own] at q'
      exact tb.1 q'
    · obtain ⟨j, hj, rfl⟩ := hv
      have hj' := fBl_andn.mp hj
      by_cases jb : j ∈ fBase F P (fBl O B)
      · obtain ⟨k, hk, rfl⟩ := mem_getD jb
        have hk' : k < fN' F P := by rw [← hl]; exact hk
        have kr : k ≠ r := fun q => hj'.2 (by rw [q])
        rw [← hA k hk']
        exact md_T_other A kr hk' hr
      · exact h0 j (fSp_mem.mpr ⟨hj'.1, jb⟩)
theorem spare_full {F : Nat → Nat → Int32} {P B O : Nat} (hf : Fc F P B O) {b : Nat} (hb : b ∉ fBase F P (fBl O B)) : Fc F P B (andn O (2 ^ b)) := by
  obtain ⟨A, pos, h⟩ := gr_tb (N := fN' F P) (C := fCol F P) (fBl O B) [] md_e (fun j => j) (tb0 _ _)
  have q := (tb_full_iff h).mpr (Fc_iff.mp hf)
  exact full_congr (fun j hj => fBl_andn.mpr ⟨fBase_mem hj, fun e => hb (by rw [← e]; exact hj)⟩) q
theorem x0_meets {n : Nat} {F : Nat → Nat → Int32} {P B O D W : Nat} (hi : hI F P B O D W) {S : Nat} {τ : hv_St} (hx : rX F τ) {A : Nat → md_V} {e : Int} (ht : tX F P B τ (fBase F P (fBl S B)) A e) {Es : Nat} (h7 : τ.1 9 7 = nI Es) (hE : Es < 2 ^ B) (hEs : ∀ b, Es.testBit b = true ↔ (b < B ∧ S.testBit b = true) ∧ b ∉ fBase F P (fBl S B)) {r : Nat} (hr : r < fN' F P) : ∀ (d b fuel : Nat), b + d = B → d < fuel → ((∃ a, b ≤ a ∧ a ∈ fSp F P B S ∧ md_T (fR F P) (fN' F P) A (fCol F P a) r ≠ 0) → kX0_meetsSpares_2 n fuel τ (nI r) (nI b) = some (1, τ)) ∧ ((¬ ∃ a, b ≤ a ∧ a ∈ fSp F P B S ∧ md_T (fR F P) (fN' F P) A (fCol F P a) r ≠ 0) → kX0_meetsSpares_2 n fuel τ (nI r) (nI b) = some (0, τ)) := by
  have hB := hi.2.1.2
  have hP := hi.1.2
  have hlN : fN' F P ≤ 2 * P := fL_le F (2 * P)
  have bX' : τ.1 1 1 = nI B := hx.1.2.1.trans hi.2.1.1
  obtain ⟨h1, -, h3, -, -, -, -, -, h9⟩ := ht
  have e31 : Es < 2 ^ 31 := by have := p2048 hB hE; omega
  intro d
  induction d with
  | zero =>
    intro b fuel k1 k2
    obtain ⟨fuel, rfl⟩ : ∃ q, fuel = q + 1 := ⟨fuel - 1, by omega⟩
    refine ⟨fun ⟨a, a1, a2, _⟩ => by have := (fSp_mem.mp a2).1.1; omega, fun _ => ?_⟩
    show kX0_meetsSpares_2_b n _ _ _ _ = _
    unfold kX0_meetsSpares_2_b
    rw [bX', if_pos (nI_le (by omega) (by omega))]
  | succ d ih =>
    intro b fuel k1 k2
    obtain ⟨fuel, rfl⟩ : ∃ q, fuel = q + 1 := ⟨fuel - 1, by omega⟩
    have i1 := ih (b + 1) fuel (by omega) (by omega)
    have fb := fB_iff (s := Es) (k := b) e31 (by omega)
    have hbB : b < B := by omega
    have cell := h9 r b hr (by omega)
    rw [fXc_bar hbB] at cell
    have T28 := tX_bd hi h3 (c := b) (r := r) (by omega)
    rw [fXc_bar hbB] at T28
    have T0 : lg_cmp (iL (e * md_T (fR F P) (fN' F P) A (fCol F P b) r)) (0 : Int64) = 0 ↔ md_T (fR F P) (fN' F P) A (fCol F P b) r = 0 := by
      rw [iL_0 (pm_rL h1 T28)]
      constructor
      · intro q
        refine Classical.byContradiction fun z => pm_ne h1 z q
      · intro q
        rw [q, Int.mul_zero]
    by_cases c1 : Es.testBit b = true
    · have hs : b ∈ fSp F P B S := fSp_mem.mpr ((hEs b).mp c1)
      by_cases c2 : md_T (fR F P) (fN' F P) A (fCol F P b) r = 0
      · have st : kX0_meetsSpares_2 n (fuel + 1) τ (nI r) (nI b) = kX0_meetsSpares_2 n fuel τ (nI r) (nI (b + 1)) := by
          show kX0_meetsSpares_2_b n _ _ _ _ = _
          unfold kX0_meetsSpares_2_b kX0_meetsSpares_39
          rw [bX', if_neg (nI_ge hbB (by omega)), h7, (x7_has _ _).1 (fb.mpr c1), hv_b2_e, if_neg (by decide), hv_if_t (hv_ok_nI (show r < 12 by omega) (by decide)), hv_if_t (hv_ok_nI (show b < 23 by omega) (by decide)), nI_clamp (show r < 2 ^ 31 by omega), nI_clamp (show b < 2 ^ 31 by omega), cell, if_pos (T0.mpr c2), nI_1]
        rw [st]
        exact ⟨fun ⟨a, q1, q2, q3⟩ => i1.1 ⟨a, by rcases Nat.lt_or_ge b a with l | l; exact l; exact absurd (by rw [show a = b by omega]; exact c2) q3, q2, q3⟩, fun q => i1.2 (fun ⟨a, q1, q2⟩ => q ⟨a, by omega, q2⟩)⟩
      · have st : kX0_meetsSpares_2 n (fuel + 1) τ (nI r) (nI b) = some (1, τ) := by
          show kX0_meetsSpares_2_b n _ _ _ _ = _
          unfold kX0_meetsSpares_2_b
          rw [bX', if_neg (nI_ge hbB (by omega)), h7, (x7_has _ _).1 (fb.mpr c1), hv_b2_e, if_neg (by decide), hv_if_t (hv_ok_nI (show r < 12 by omega) (by decide)), hv_if_t (hv_ok_nI (show b < 23 by omega) (by decide)), nI_clamp (show r < 2 ^ 31 by omega), nI_clamp (show b < 2 ^ 31 by omega), cell, if_neg (fun z => c2 (T0.mp z))]
        exact ⟨fun _ => st, fun q => absurd ⟨b, Nat.le_refl _, hs, c2⟩ q⟩
    · have st : kX0_meetsSpares_2 n (fuel + 1) τ (nI r) (nI b) = kX0_meetsSpares_2 n fuel τ (nI r) (nI (b + 1)) := by
        show kX0_meetsSpares_2_b n _ _ _ _ = _
        unfold kX0_meetsSpares_2_b kX0_meetsSpares_39
        rw [bX', if_neg (nI_ge hbB (by omega)), h7, (x7_has _ _).2 (fun z => c1 (fb.mp z)), hv_b2_e, if_pos rfl, nI_1]
      rw [st]
      exact ⟨fun ⟨a, q1, q2, q3⟩ => i1.1 ⟨a, by rcases Nat.lt_or_ge b a with l | l; exact l; exact absurd ((hEs b).mpr (by rw [show b = a by omega]; exact fSp_mem.mp q2)) c1, q2, q3⟩, fun q => i1.2 (fun ⟨a, q1, q2⟩ => q ⟨a, by omega, q2⟩)⟩
theorem x0_need {n : Nat} (hn : 20 < n) {F : Nat → Nat → Int32} {P B O D W : Nat} (hi : hI F P B O D W) {τ : hv_St} (hx : rX F τ) {A : Nat → md_V} {e : Int} (ht : tX F P B τ (fBase F P (fBl O B)) A e) {Es : Nat} (h7 : τ.1 9 7 = nI Es) (hE : Es < 2 ^ B) (hEs : ∀ b, Es.testBit b = true ↔ (b < B ∧ O.testBit b = true) ∧ b ∉ fBase F P (fBl O B)) : ∀ (d r fuel s : Nat), r + d = (fBase F P (fBl O B)).length → d < fuel → (∀ j, s.testBit j = true ↔ ∃ k, k < r ∧ j = (fBase F P (fBl O B)).getD k 0 ∧ ∀ a, a ∈ fSp F P B O → md_T (fR F P) (fN' F P) A (fCol F P a) k = 0) → ∃ s', kX0_neededBars_4 n fuel τ (nI s) (nI r) = some (if (fBase F P (fBl O B)).length = fN' F P then nI s' else 0, τ) ∧ ∀ j, s'.testBit j = true ↔ ∃ k, k < (fBase F P (fBl O B)).length ∧ j = (fBase F P (fBl O B)).getD k 0 ∧ ∀ a, a ∈ fSp F P B O → md_T (fR F P) (fN' F P) A (fCol F P a) k = 0 := by
  have hB := hi.2.1.2
  have hP := hi.1.2
  have hlN : fN' F P ≤ 2 * P := fL_le F (2 * P)
  have hle : (fBase F P (fBl O B)).length ≤ fN' F P := gr_len (N := fN' F P) (fBl O B)
  have ht' := ht
  obtain ⟨h1, -, h3, h4, h5, h6, h7', -, -⟩ := ht'
  intro d
  induction d with
  | zero =>
    intro r fuel s k1 k2 hs
    obtain ⟨fuel, rfl⟩ : ∃ q, fuel = q + 1 := ⟨fuel - 1, by omega⟩
    obtain rfl : r = (fBase F P (fBl O B)).length := by omega
    refine ⟨s, ?_, hs⟩
    show kX0_neededBars_4_b n _ _ _ _ = _
    unfold kX0_neededBars_4_b
    rw [h6, h7', if_pos (nI_le (Nat.le_refl _) (by omega))]
    have eN : fN' F P = (fL F (2 * P)).length := rfl
    by_cases c : (fBase F P (fBl O B)).length = fN' F P
    · rw [if_pos c, if_pos (nI_le (by omega) (by omega))]
    · rw [if_neg c, if_neg (nI_ge (show (fBase F P (fBl O B)).length < fN' F P by omega) (by omega))]
  | succ d ih =>
    intro r fuel s k1 k2 hs
    obtain ⟨fuel, rfl⟩ : ∃ q, fuel = q + 1 := ⟨fuel - 1, by omega⟩
    have hr : r < (fBase F P (fBl O B)).length := by omega
    have m := x0_meets (n := n) hi hx ht h7 hE hEs (r := r) (by omega) B 0 n (by omega) (by omega)
    have hb5 := h5 r hr
    by_cases c : ∃ a, 0 ≤ a ∧ a ∈ fSp F P B O ∧ md_T (fR F P) (fN' F P) A (fCol F P a) r ≠ 0
    · obtain ⟨s', q1, q2⟩ := ih (r + 1) fuel s (by omega) (by omega) (fun j => by
        rw [hs j]
        constructor
        · rintro ⟨k, a, b⟩
          exact ⟨k, by omega, b⟩
        · rintro ⟨k, a, b, b2⟩
          refine ⟨k, ?_, b, b2⟩
          rcases Nat.lt_or_ge k r with l | l
          · exact l
          · obtain ⟨x, -, x2, x3⟩ := c
            exact absurd (by have := b2 x x2; rw [show k = r by omega] at this; exact this) x3)
      refine ⟨s', ?_, q2⟩
      rw [← q1]
      show kX0_neededBars_4_b n _ _ _ _ = _
      unfold kX0_neededBars_4_b kX0_neededBars_31
      rw [h7', if_neg (nI_ge hr (by omega)), show mX0_meetsSpares n τ (nI r) = _ from m.1 c, hv_b2_e, if_neg (by decide), nI_1]
    · have all0 : ∀ a, a ∈ fSp F P B O → md_T (fR F P) (fN' F P) A (fCol F P a) r = 0 := fun a ha => Classical.byContradiction fun z => c ⟨a, Nat.zero_le _, ha, z⟩
      obtain ⟨s', q1, q2⟩ := ih (r + 1) fuel (s ||| 2 ^ (fBase F P (fBl O B)).getD r 0) (by omega) (by omega) (fun j => by
        rw [Nat.testBit_or, Bool.or_eq_true, hs j, tb_pow]
        constructor
        · rintro (⟨k, a, b⟩ | b)
          · exact ⟨k, by omega, b⟩
          · exact ⟨r, by omega, b, all0⟩
        · rintro ⟨k, a, b, b2⟩
          rcases Nat.lt_or_ge k r with l | l
          · exact Or.inl ⟨k, l, b, b2⟩
          · exact Or.inr (by rw [b, show k = r by omega]))
      refine ⟨s', ?_, q2⟩
      rw [← q1]
      show kX0_neededBars_4_b n _ _ _ _ = _
      unfold kX0_neededBars_4_b kX0_neededBars_31
      rw [h7', if_neg (nI_ge hr (by omega)), show mX0_meetsSpares n τ (nI r) = _ from m.2 c, hv_b2_e, if_pos rfl, hv_if_t (hv_ok_nI (show r < 12 by omega) (by decide)), nI_clamp (show r < 2 ^ 31 by omega), hb5.2.2, nI_shl (by omega), nI_or, hv_let_e, nI_1]
