/-! the law's loop -/
theorem tF_F {F G : Nat → Nat → Int32} {P B O : Nat} {τ : hv_St} (h : tF F P B O τ) (e : ∀ j, j ≠ 0 → G j = F j) : tF G P B O τ := by
  obtain ⟨⟨h1, h2, h3, h4, h5⟩, h6, h7⟩ := h
  refine ⟨⟨h1, h2, h3, fun p hp => ?_, fun b hb => ?_⟩, fun q hq => ?_, fun s hs => ?_⟩
  · rw [e 1 (by decide), e 2 (by decide)]
    exact h4 p hp
  · rw [e 5 (by decide), e 6 (by decide), e 7 (by decide)]
    exact h5 b hb
  · rw [e 3 (by decide)]
    exact h6 q hq
  · rw [e 4 (by decide)]
    exact h7 s hs
def lf (F : Nat → Nat → Int32) (N B O : Nat) (σ τ : hv_St) : Prop := hI F N B O 0 0 ∧ rX F σ ∧ tF F N B O τ ∧ fDp F N ∧ fDb F B ∧ N ≤ 5 ∧ fN' F N ≤ 7 ∧ B ≤ 9 ∧ ∃ d, τ.1 0 0 = nI d
theorem lf_of {F : Nat → Nat → Int32} {N B d : Nat} {σ τ : hv_St} (h : bgL F N B N σ τ) (h5 : N ≤ 5) (h7 : fN' F N ≤ 7) (h9 : B ≤ 9) (hd : τ.1 0 0 = nI d) : lf F N B (2 ^ B - 1) σ τ := by
  obtain ⟨⟨hi, hx, ht, hdp, h4, hdb, -, -⟩, hl⟩ := h
  exact ⟨hi, hx, ⟨ht, h4, hl⟩, hdp, hdb, h5, h7, h9, d, hd⟩
/-- the checks of one state of one frame -/
theorem lf_chk {n : Nat} (hn : 2100 ≤ n) {F : Nat → Nat → Int32} {N B O : Nat} {σ τ : hv_St} (h : lf F N B O σ τ) {r2 : Int32 → Option Unit} {r106 : hv_St → hv_St → Int32 → Int32 → Option (Unit)} {x1 x5 : Int32} (h3 : ¬ (3 : Int32) ≤ x5) : ∃ σ', lf F N B O σ' τ ∧ kQ_law_106_b n r2 r106 σ τ x1 x5 = kQ_law_152 n r2 r106 σ' τ x1 x5 := by
  obtain ⟨hi, hx, ht, hdp, hdb, h5, h7, h9, hd⟩ := h
  obtain ⟨s1, x1', k1⟩ := Q_isKind hn hi hx ht
  obtain ⟨Eb, Es, hE⟩ := fSe_ex hi hx
  obtain ⟨s2, c4, x2⟩ := xp_count (n := n) (by omega) hE hi x1' 4 (by decide)
  have e4 : xcR F N B O Eb Es (nI 4) = nI (fKind F N B O) := rfl
  have hk4 := fKind_le F N B O
  by_cases hf : fFirm F N B O
  · obtain ⟨A, e, hA, hdd, he, hD, hm, hpc⟩ := frm hi hx hf
    have hW := heavy_2 hi hdp hdb
    have g : gd F N B O Eb Es A e := ⟨hE, hA, hdd, he, hD, hm, hpc, hW, h7, h9, hf⟩
    obtain ⟨s3, x3, k3⟩ := Q_isBalance hn hi h5 x2 ht hf
    obtain ⟨s4, x4, k4⟩ := Q_areStates hn hi h5 x3 ht g
    refine ⟨s4, ⟨hi, x4, ht, hdp, hdb, h5, h7, h9, hd⟩, ?_⟩
    unfold kQ_law_106_b
    rw [if_neg h3, k1, hv_bd_e, show (4 : Int32) = nI 4 from rfl, c4, hv_b2_e, e4, (l_isFirm n hv_0 hk4).1 hf, hv_b2_e, if_neg (by decide), k3, hv_bd_e, k4, hv_bd_e]
  · refine ⟨s2, ⟨hi, x2, ht, hdp, hdb, h5, h7, h9, hd⟩, ?_⟩
    unfold kQ_law_106_b
    rw [if_neg h3, k1, hv_bd_e, show (4 : Int32) = nI 4 from rfl, c4, hv_b2_e, e4, (l_isFirm n hv_0 hk4).2 hf, hv_b2_e, if_pos rfl]
theorem lf_set {F : Nat → Nat → Int32} {N B O O' : Nat} {σ τ σ' : hv_St} (h : lf F N B O σ τ) (hi' : hI (fU F 0 11 (nI O')) N B O' 0 0) (hx' : rX (fU F 0 11 (nI O')) σ') {d' : Nat} {τ1 : hv_St} (h1 : ∀ j, j ≠ 0 → τ1.1 j = τ.1 j) (hd' : τ1.1 0 0 = nI d') : lf (fU F 0 11 (nI O')) N B O' σ' (hv_sI τ1 1 9 (nI O')) := by
  obtain ⟨hi, hx, ⟨⟨t1, t2, t3, t4, t5⟩, t6, t7⟩, hdp, hdb, h5, h7, h9, hd⟩ := h
  have e : ∀ j, j ≠ 0 → fU F 0 11 (nI O') j = F j := fun j hj => fU_ne _ _ _ hj
  have eN : fN' (fU F 0 11 (nI O')) N = fN' F N := by
    unfold fN' fL fFree
    rw [e 3 (by decide)]
  refine ⟨hi', hx', ⟨⟨?_, ?_, ?_, fun p hp => ?_, fun b hb => ?_⟩, fun q hq => ?_, fun s hs => ?_⟩, fun p q hpq hq => ?_, fun b hb => ?_, h5, by rw [eN]; exact h7, h9, d', ?_⟩
  · rw [hv_sI_rd, if_neg (by decide), h1 1 (by decide)]
    exact t1
  · rw [hv_sI_rd, if_neg (by decide), h1 1 (by decide)]
    exact t2
  · rw [hv_sI_rd, if_pos rfl]
  · rw [e 1 (by decide), e 2 (by decide), hv_sI_ne _ _ _ (by decide), hv_sI_ne _ _ _ (by decide), h1 2 (by decide), h1 3 (by decide)]
    exact t4 p hp
  · rw [e 5 (by decide), e 6 (by decide), e 7 (by decide), hv_sI_ne _ _ _ (by decide), hv_sI_ne _ _ _ (by decide), hv_sI_ne _ _ _ (by decide), h1 6 (by decide), h1 7 (by decide), h1 8 (by decide)]
    exact t5 b hb
  · rw [e 3 (by decide), hv_sI_ne _ _ _ (by decide), h1 4 (by decide)]
    exact t6 q hq
  · rw [e 4 (by decide), hv_sI_ne _ _ _ (by decide), h1 5 (by decide)]
    exact t7 s hs
  · rw [e 1 (by decide), e 2 (by decide)]
    exact hdp p q hpq hq
  · rw [e 5 (by decide), e 6 (by decide)]
    exact hdb b hb
  · rw [hv_sI_ne _ _ _ (by decide)]
    exact hd'
/-- one turn -/
theorem lf_turn {n : Nat} {F : Nat → Nat → Int32} {N B O : Nat} {σ τ : hv_St} (h : lf F N B O σ τ) {r2 : Int32 → Option Unit} {r106 : hv_St → hv_St → Int32 → Int32 → Option (Unit)} {x1 x5 : Int32} : ∃ F' O' σ' τ', lf F' N B O' σ' τ' ∧ kQ_law_152 n r2 r106 σ τ x1 x5 = r106 σ' τ' x1 (x5 + 1) := by
  have h0 := h
  obtain ⟨hi, hx, ht, hdp, hdb, h5, h7, h9, d, hd⟩ := h
  have hB := hi.2.1.2
  have hO := hi.2.2.1.2
  have o31 : O < 2 ^ 31 := by have := p2048 hB hO; omega
  have hr : lcF d / 65536 % 11 < 11 := Nat.mod_lt _ (by decide)
  have nx := lc_next (n := n) (τ := τ) (d := d) (m := 11) hd (by decide) (by decide)
  obtain ⟨τ1, eτ⟩ : ∃ τ1, τ1 = hv_sI τ 0 0 (nI (lcF d)) := ⟨_, rfl⟩
  have q1 : ∀ j, j ≠ 0 → τ1.1 j = τ.1 j := fun j hj => by rw [eτ, hv_sI_ne _ _ _ hj]
  obtain ⟨d1, hd1⟩ : ∃ d1, τ1.1 0 0 = nI d1 := ⟨lcF d, by rw [eτ, hv_sI_rd, if_pos rfl]⟩
  rw [← eτ] at nx
  clear eτ
  generalize lcF d / 65536 % 11 = b at *
  have eO : τ1.1 1 9 = nI O := by rw [q1 1 (by decide)]; exact ht.1.2.2.1
  have eB : τ1.1 1 8 = nI B := by rw [q1 1 (by decide)]; exact ht.1.2.1
  have E : kQ_law_152 n r2 r106 σ τ x1 x5 = hv_b2 (mL_isOn n hv_0 (nI O) (nI b)) fun r167 _ => if r167 = 0 then (kQ_law_185 n r2 r106 σ τ1 x1 x5 (nI b) r167 1 (nI b)) else (kQ_law_185 n r2 r106 σ τ1 x1 x5 (nI b) r167 0 (nI b)) := by
    unfold kQ_law_152
    rw [show (11 : Int32) = nI 11 from rfl, nx, hv_b2_e, eO]
  rw [E]
  clear E
  by_cases hb : b < B
  · have fb := fB_iff (s := O) (k := b) o31 (by omega)
    have eO' : nI O ^^^ ((1 : Int32) <<< (nI b &&& 31)) = nI (O ^^^ 2 ^ b) := by
      rw [nI_shl (show b < 31 by omega), nI_xor]
    have lt' : O ^^^ 2 ^ b < 2 ^ B := Nat.xor_lt_two_pow hO (Nat.pow_lt_pow_right (by decide) hb)
    have o31' : O ^^^ 2 ^ b < 2 ^ 31 := by have := p2048 hB lt'; omega
    have fb' := fB_iff (s := O ^^^ 2 ^ b) (k := b) o31' (by omega)
    have tb : (O ^^^ 2 ^ b).testBit b = !(O.testBit b) := by
      rw [Nat.testBit_xor, Nat.testBit_two_pow_self]
      cases O.testBit b <;> rfl
    by_cases hon : O.testBit b = true
    · obtain ⟨σ1, t1, t2, t3⟩ := ((xp_turn (n := n) hi hx (nI b) 0 (Or.inl rfl)).2 b hb rfl).2 (fun q => absurd (q.mp (fb.mpr hon)) (by decide))
      have t4 := ((xp_turn (n := n) t2 t3 (nI b) 0 (Or.inl rfl)).2 b hb rfl).1 ⟨fun q => by
        have := fb'.mp q
        rw [tb, hon] at this
        exact absurd this (by decide), fun q => absurd q (by decide)⟩
      refine ⟨_, _, σ1, _, lf_set h0 t2 t3 q1 hd1, ?_⟩
      rw [(l_isOn n hv_0 o31 (show b < 31 by omega)).1 hon, hv_b2_e, if_neg (by decide)]
      unfold kQ_law_185 kQ_law_203 kQ_law_229 kQ_law_237 kQ_law_261
      rw [t1, hv_b2_e, eB, if_neg (nI_ge hb (by omega)), if_pos rfl, if_neg (nI_ge hb (by omega)), if_neg (by decide), t4, hv_b2_e, if_pos rfl, if_neg (nI_ge hb (by omega)), hv_let_e, eO, eO']
    · obtain ⟨σ1, t1, t2, t3⟩ := ((xp_turn (n := n) hi hx (nI b) 1 (Or.inr rfl)).2 b hb rfl).2 (fun q => hon (fb.mp (q.mpr rfl)))
      have t4 := ((xp_turn (n := n) t2 t3 (nI b) 1 (Or.inr rfl)).2 b hb rfl).1 ⟨fun _ => rfl, fun _ => fb'.mpr (by rw [tb]; simpa using hon)⟩
      refine ⟨_, _, σ1, _, lf_set h0 t2 t3 q1 hd1, ?_⟩
      rw [(l_isOn n hv_0 o31 (show b < 31 by omega)).2 hon, hv_b2_e, if_pos rfl]
      unfold kQ_law_185 kQ_law_203 kQ_law_229 kQ_law_237 kQ_law_261
      rw [t1, hv_b2_e, eB, if_neg (nI_ge hb (by omega)), if_pos rfl, if_neg (nI_ge hb (by omega)), if_pos rfl, t4, hv_b2_e, if_pos rfl, if_neg (nI_ge hb (by omega)), hv_let_e, eO, eO']
  · have hoff : ¬ O.testBit b = true := fun q => by
      rw [Nat.testBit_lt_two_pow (Nat.lt_of_lt_of_le hO (Nat.pow_le_pow_right (show 0 < 2 by decide) (show B ≤ b by omega)))] at q
      exact absurd q (by decide)
    have t1 := (xp_turn (n := n) hi hx (nI b) 1 (Or.inr rfl)).1 (fun ⟨c, c1, c2⟩ => hb (by rw [(nI_eq (by omega) (by omega)).mp c2]; exact c1))
    have fs : fU F 0 11 (nI O) = F := fU_self hi.2.2.1.1
    have ls := lf_set (O' := O) (σ' := σ) h0 (by rw [fs]; exact hi) (by rw [fs]; exact hx) q1 hd1
    refine ⟨_, _, σ, _, ls, ?_⟩
    rw [(l_isOn n hv_0 o31 (show b < 31 by omega)).2 hoff, hv_b2_e, if_pos rfl]
    unfold kQ_law_185 kQ_law_203 kQ_law_229 kQ_law_237 kQ_law_261
    rw [t1, hv_b2_e, eB, if_pos (nI_le (by omega) (by omega)), if_pos rfl, if_pos (nI_le (by omega) (by omega)), if_pos (nI_le (by omega) (by omega)), hv_let_e, eO, show nI O ^^^ (0 : Int32) = nI O from by rw [show (0 : Int32) = nI 0 from rfl, nI_xor, Nat.xor_zero]]
theorem lf_106 {n : Nat} (hn : 2100 ≤ n) {r2 : Int32 → Option Unit} {x1 : Int32} : ∀ (d k fuel : Nat) (F : Nat → Nat → Int32) (N B O : Nat) (σ τ : hv_St), k + d = 3 → d < fuel → lf F N B O σ τ → kQ_law_106 n r2 fuel σ τ x1 (nI k) = r2 (x1 + 1) := by
  intro d
  induction d with
  | zero =>
    intro k fuel F N B O σ τ hk hfu h
    obtain ⟨fuel, rfl⟩ : ∃ q, fuel = q + 1 := ⟨fuel - 1, by omega⟩
    obtain rfl : k = 3 := by omega
    show kQ_law_106_b n r2 _ σ τ x1 (nI 3) = _
    unfold kQ_law_106_b
    rw [if_pos (by decide)]
  | succ d ih =>
    intro k fuel F N B O σ τ hk hfu h
    obtain ⟨fuel, rfl⟩ : ∃ q, fuel = q + 1 := ⟨fuel - 1, by omega⟩
    have h3 : ¬ (3 : Int32) ≤ nI k := nI_ge (b := 3) (by omega) (by decide)
    obtain ⟨σ1, l1, e1⟩ := lf_chk hn h (r2 := r2) (r106 := kQ_law_106 n r2 fuel) (x1 := x1) h3
    obtain ⟨F2, O2, σ2, τ2, l2, e2⟩ := lf_turn (n := n) l1 (r2 := r2) (r106 := kQ_law_106 n r2 fuel) (x1 := x1) (x5 := nI k)
    show kQ_law_106_b n r2 _ σ τ x1 (nI k) = _
    rw [e1, e2, nI_1]
    exact ih (k + 1) fuel F2 N B O2 σ2 τ2 (by omega) (by omega) l2
