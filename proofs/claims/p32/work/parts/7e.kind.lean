/-! kind, base and spares hang together -/
theorem base_le {F : Nat → Nat → Int32} {P B O D W : Nat} (hi : hI F P B O D W) {σ : hv_St} (hx : rX F σ) : (fBase F P (fBl O B)).length ≤ fN' F P := by
  have o31 : O < 2 ^ 31 := by have := p2048 hi.2.1.2 hi.2.2.1.2; omega
  obtain ⟨τX, a1, a2, a3, A, e, ht, -⟩ := x0_settle (n := 200) (by omega) hi o31 hx
  exact ht.2.2.2.1
theorem frm {F : Nat → Nat → Int32} {P B O D W : Nat} (hi : hI F P B O D W) {σ : hv_St} (hx : rX F σ) (hf : fFirm F P B O) : ∃ A e, zF F P B O A ∧ md_dt (fR F P) A (fN' F P) ≠ 0 ∧ (e = 1 ∨ e = -1) ∧ 0 < e * md_dt (fR F P) A (fN' F P) ∧ (fSp F P B O).length ≤ 2 ∧ pc O = fN' F P + (fSp F P B O).length := by
  obtain ⟨τX, x1, x2, x3, x4⟩ := x7_bears (n := 2100) (Nat.le_refl _) hi hi.2.2.1.2 hx (Or.inl rfl) (ldX hi hx)
  obtain ⟨y1, y2, k, q, y3, y4, A', e, y5, y6⟩ := x3 hf
  obtain ⟨ht, hzf, -, hm2, hpc, -⟩ := y5
  have d0 : md_dt (fR F P) A' (fN' F P) ≠ 0 := ht.2.1
  rcases Int.lt_or_gt_of_ne d0 with l | l
  · exact ⟨A', -1, hzf, d0, Or.inr rfl, by omega, hm2, hpc⟩
  · exact ⟨A', 1, hzf, d0, Or.inl rfl, by omega, hm2, hpc⟩
theorem pc_sp {F : Nat → Nat → Int32} {P B O Eb Es : Nat} (hB : B ≤ 11) (hE : fSe F P B O Eb Es) : pc Eb = (fBase F P (fBl O B)).length ∧ pc Es = (fSp F P B O).length := by
  refine ⟨Eb_pc hB hE.2.2.1, ?_⟩
  rw [pc_fBl hB hE.2.1, fSp_Es (fun b => (hE.2.2.2 b).trans fSp_mem)]
theorem Q_isKind {n : Nat} (hn : 2100 ≤ n) {F : Nat → Nat → Int32} {P B O D W : Nat} (hi : hI F P B O D W) {σ τ : hv_St} (hx : rX F σ) (ht : tF F P B O τ) : ∃ σ', rX F σ' ∧ mQ_isKind n σ τ = some (σ', τ) := by
  have hB := hi.2.1.2
  have hP := hi.1.2
  have hO := hi.2.2.1.2
  obtain ⟨Eb, Es, hE⟩ := fSe_ex hi hx
  have hlN : fN' F P ≤ 2 * P := fL_le F (2 * P)
  have hle := base_le hi hx
  have hm := fSp_le F P B O
  obtain ⟨p1, p2⟩ := pc_sp hB hE
  obtain ⟨s1, c5, x1⟩ := xp_count (n := n) (by omega) hE hi hx 5 (by decide)
  obtain ⟨s2, c6, x2⟩ := xp_count (n := n) (by omega) hE hi x1 6 (by decide)
  obtain ⟨s3, c3, x3⟩ := xp_count (n := n) (by omega) hE hi x2 3 (by decide)
  obtain ⟨s4, c4, x4⟩ := xp_count (n := n) (by omega) hE hi x3 4 (by decide)
  obtain ⟨s5, c7, x5⟩ := xp_count (n := n) (by omega) hE hi x4 7 (by decide)
  have e5 : xcR F P B O Eb Es (nI 5) = nI Eb := rfl
  have e6 : xcR F P B O Eb Es (nI 6) = nI Es := rfl
  have e3 : xcR F P B O Eb Es (nI 3) = nI (fN' F P) := rfl
  have e4 : xcR F P B O Eb Es (nI 4) = nI (fKind F P B O) := rfl
  have e7 : xcR F P B O Eb Es (nI 7) = nI (fN' F P) - nI (fBase F P (fBl O B)).length := rfl
  have b5 : ∀ σ, mJ6_bitCount_0f7a4 n σ (nI Eb) = some (nI (pc Eb), σ) := fun σ => x_bitCount (p2048 hB hE.1)
  have b6 : ∀ σ, mJ6_bitCount_0f7a4 n σ (nI Es) = some (nI (pc Es), σ) := fun σ => x_bitCount (p2048 hB hE.2.1)
  have h133 : ¬ fFirm F P B O → ∀ σ, rX F σ → ∃ σ', rX F σ' ∧ kQ_isKind_133 n σ τ = some (σ', τ) := fun hf σ hσ => by
    obtain ⟨⟨t1, q1, q2⟩, -⟩ := xp_loose hn hi hσ hf
    obtain ⟨-, t2, r1, r2⟩ := xp_loose hn hi q1 hf
    refine ⟨t2, r1, ?_⟩
    unfold kQ_isKind_133 kQ_isKind_150
    rw [q2, hv_b2_e, if_pos rfl, r2, hv_b2_e, if_pos rfl]
  have h58 : ∃ σ', rX F σ' ∧ kQ_isKind_58 n s4 τ (nI Eb) (nI Es) (nI (fN' F P)) (nI (fKind F P B O)) (nI (fKind F P B O)) = some (σ', τ) := by
    have a0 : Eb &&& Es = 0 := bit_ext (fun j => by
      rw [Nat.testBit_and, Nat.zero_testBit, Bool.and_eq_true, hE.2.2.1, hE.2.2.2]
      exact ⟨fun q => absurd q.1 (fSp_mem.mp q.2).2, fun q => absurd q (by decide)⟩)
    have o0 : Eb ||| Es = O := bit_ext (fun j => by
      rw [Nat.testBit_or, Bool.or_eq_true, hE.2.2.1, hE.2.2.2]
      constructor
      · rintro (q | q)
        · exact (fBase_mem q).2
        · exact (fSp_mem.mp q).1.2
      · intro q
        have hj : j < B := Nat.lt_of_not_le fun r => by
          rw [Nat.testBit_lt_two_pow (Nat.lt_of_lt_of_le hO (Nat.pow_le_pow_right (show 0 < 2 by decide) r))] at q
          exact absurd q (by decide)
        by_cases c : j ∈ fBase F P (fBl O B)
        · exact Or.inl c
        · exact Or.inr (fSp_mem.mpr ⟨⟨hj, q⟩, c⟩))
    have nlt : ¬ nI (fN' F P) < nI (pc Eb) := fun q => by
      have := Int32.lt_iff_toInt_lt.mp q
      rw [nI_toInt (by omega), nI_toInt (by omega)] at this
      omega
    unfold kQ_isKind_58
    rw [nI_and, a0, if_pos (show nI 0 = 0 from rfl), nI_or, o0, ht.1.2.2.1, if_pos rfl, b5, hv_b2_e, if_neg nlt, if_pos rfl, show (7 : Int32) = nI 7 from rfl, c7, hv_b2_e, b5, hv_b2_e, e7, p1, if_pos rfl]
    have hk4 := fKind_le F P B O
    by_cases hf : fFirm F P B O
    · refine ⟨s5, x5, ?_⟩
      rw [(l_isFirm n hv_0 hk4).1 hf, hv_b2_e, if_neg (by decide)]
      rfl
    · rw [(l_isFirm n hv_0 hk4).2 hf, hv_b2_e, if_pos rfl, ht.1.2.1]
      by_cases b0 : B = 0
      · rw [if_pos (by rw [b0]; rfl)]
        exact h133 hf s5 x5
      · rw [if_neg (fun q => b0 ((nI_0e (by omega)).mp q))]
        obtain ⟨t, t1, t2⟩ := xp_pull0 hn hi x5 (v := 0) (fun q => hf q.2)
        rw [t2, hv_b2_e, hv_ox_n]
        exact h133 hf t t1
  unfold mQ_isKind
  rw [show (5 : Int32) = nI 5 from rfl, c5, hv_b2_e, show (6 : Int32) = nI 6 from rfl, c6, hv_b2_e, show (3 : Int32) = nI 3 from rfl, c3, hv_b2_e, show (4 : Int32) = nI 4 from rfl, c4, hv_b2_e, e5, e6, e3, e4, b5, hv_b2_e]
  have kd : fKind F P B O = kdN (fN' F P) (fBase F P (fBl O B)).length (fSp F P B O).length := rfl
  unfold kdN at kd
  by_cases c : fN' F P ≤ pc Eb
  · rw [if_pos (nI_le c (by omega)), b6, hv_b2_e]
    rw [if_neg (show ¬ (fBase F P (fBl O B)).length < fN' F P by omega)] at kd
    by_cases d : pc Es ≤ 2
    · rw [if_pos (show nI (pc Es) ≤ 2 from nI_le (b := 2) d (by decide)), b6, hv_b2_e, show (1 : Int32) = nI 1 from rfl, nI_add]
      rw [if_pos (show (fSp F P B O).length ≤ 2 by omega), ← p2] at kd
      rw [← kd]
      exact h58
    · rw [if_neg (show ¬ nI (pc Es) ≤ 2 from nI_ge (a := 2) (b := pc Es) (by omega) (by omega))]
      rw [if_neg (show ¬ (fSp F P B O).length ≤ 2 by omega)] at kd
      rw [← kd]
      exact h58
  · rw [if_neg (nI_ge (by omega) (by omega))]
    rw [if_pos (show (fBase F P (fBl O B)).length < fN' F P by omega)] at kd
    rw [show (0 : Int32) = nI 0 from rfl, ← kd]
    exact h58
