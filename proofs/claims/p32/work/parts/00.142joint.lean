/-! joints: the two tests answer alike -/
theorem held_X {F : Nat → Nat → Int32} {σ : hv_St} (hx : rX F σ) {p w : Nat} (hp : p < 6) (hw : w < 2) : σ.1 4 (2 * p + w) = 0 ↔ fFree F (2 * p + w) = true := by
  unfold fFree
  rw [hx.2.2.2.1 p w hp hw, decide_eq_true_iff, show (2 * p + w) / 2 = p by omega, show (2 * p + w) % 2 = w by omega]
theorem held_M {n : Nat} {F : Nat → Nat → Int32} {P B O D W : Nat} (hi : hI F P B O D W) {σ : hv_St} {p w : Nat} (hp : p < 6) (hw : w < 2) : (fFree F (2 * p + w) = true → mX8_isOn n σ (F 3 p) (nI w) = some (0, σ)) ∧ (¬ fFree F (2 * p + w) = true → mX8_isOn n σ (F 3 p) (nI w) = some (1, σ)) := by
  obtain ⟨m, hm4, em⟩ := hi.2.2.2.2.2.2.2.2.1 p hp
  obtain ⟨b1, -, b3, -⟩ := bit_p hm4 hw
  unfold fFree
  rw [show (2 * p + w) / 2 = p by omega, show (2 * p + w) % 2 = w by omega, em, decide_eq_true_iff]
  rw [b3] at b1
  refine ⟨fun q => (r8_isOn _ _).2 (fun h => by unfold fB at h; rw [b3, q] at h; exact absurd h (by decide)), fun q => (r8_isOn _ _).1 ?_⟩
  unfold fB
  rw [b3]
  exact b1.resolve_left q
theorem held_fin : ∀ m : Fin 4, (nI m.val = 0) ↔ ((nI m.val >>> nI 0) &&& 1 = 0 ∧ (nI m.val >>> nI 1) &&& 1 = 0) := by decide +kernel
theorem held_0 {F : Nat → Nat → Int32} {P B O D W : Nat} (hi : hI F P B O D W) {p : Nat} (hp : p < 6) : F 3 p = 0 ↔ fFree F (2 * p) = true ∧ fFree F (2 * p + 1) = true := by
  obtain ⟨m, hm4, em⟩ := hi.2.2.2.2.2.2.2.2.1 p hp
  unfold fFree
  rw [show (2 * p) / 2 = p by omega, show (2 * p) % 2 = 0 by omega, show (2 * p + 1) / 2 = p by omega, show (2 * p + 1) % 2 = 1 by omega, em, decide_eq_true_iff, decide_eq_true_iff]
  exact held_fin ⟨m, hm4⟩
theorem iI_0 {z : Int} (h : -100 ≤ z ∧ z ≤ 100) : iI z = 0 ↔ z = 0 := iI_eq (b := 0) ⟨by omega, by omega⟩ ⟨by decide, by decide⟩
theorem pow_ltB {a B : Nat} (h : 2 ^ a < 2 ^ B) : a < B := (Nat.pow_lt_pow_iff_right (by decide)).mp h
theorem or_ltB {a c B : Nat} (h : 2 ^ a ||| 2 ^ c < 2 ^ B) : a < B ∧ c < B := by
  have h1 : 2 ^ a ≤ 2 ^ a ||| 2 ^ c := Nat.ge_two_pow_of_testBit (by rw [Nat.testBit_or, Nat.testBit_two_pow]; simp)
  have h2 : 2 ^ c ≤ 2 ^ a ||| 2 ^ c := Nat.ge_two_pow_of_testBit (by rw [Nat.testBit_or, Nat.testBit_two_pow, Nat.testBit_two_pow]; simp)
  exact ⟨pow_ltB (by omega), pow_ltB (by omega)⟩
theorem prod_le {a b : Int} (ha : -3 ≤ a ∧ a ≤ 3) (hb : -3 ≤ b ∧ b ≤ 3) : -9 ≤ a * b ∧ a * b ≤ 9 := by
  have h : (a * b).natAbs ≤ 9 := by
    rw [Int.natAbs_mul]
    exact Nat.mul_le_mul (show a.natAbs ≤ 3 by omega) (show b.natAbs ≤ 3 by omega)
  omega
theorem x4_turns {n : Nat} (hn : 12 < n) {F : Nat → Nat → Int32} {P B O D W : Nat} (hi : hI F P B O D W) {σ : hv_St} (hx : rX F σ) {p a c : Nat} (hp : p < 6) (hac : a < c) (hc : c < B) : (jCr F p a c → mX4_turns n σ (nI p) (nI (2 ^ a ||| 2 ^ c)) = some (1, σ)) ∧ (¬ jCr F p a c → mX4_turns n σ (nI p) (nI (2 ^ a ||| 2 ^ c)) = some (0, σ)) := by
  have hB := hi.2.1.2
  obtain ⟨t1, t2⟩ := two_low ⟨a, by omega⟩ ⟨c, by omega⟩ hac
  have u1 : 1 ≤ 2 ^ a ||| 2 ^ c := by
    have h1 : 2 ^ a ≤ 2 ^ a ||| 2 ^ c := Nat.ge_two_pow_of_testBit (by rw [Nat.testBit_or, Nat.testBit_two_pow]; simp)
    have := Nat.two_pow_pos a
    omega
  have pa : (2 : Nat) ^ a < 2 ^ 31 := Nat.pow_lt_pow_right (by decide) (by omega)
  have pc' : (2 : Nat) ^ c < 2 ^ 31 := Nat.pow_lt_pow_right (by decide) (by omega)
  have y3 : nI (2 ^ a ||| 2 ^ c) &&& (nI (2 ^ a ||| 2 ^ c) - 1) = nI (2 ^ c) := by
    rw [show (1 : Int32) = nI 1 from rfl, pk_sub u1, nI_and]
    exact congrArg nI t1
  have y4 : nI (2 ^ a ||| 2 ^ c) ^^^ nI (2 ^ c) = nI (2 ^ a) := by
    rw [nI_xor]
    exact congrArg nI t2
  have e : ∀ (k w : Nat), k < B → w < 2 → (2 : Nat) ^ k < 2 ^ 31 → mX4_across n σ (nI p) (nI w) (nI (2 ^ k)) = some (iI (fBr F k p w), σ) := fun k w hk hw h31 => by
    rw [x4_across hn hi hx h31 hp hw, acr_one, if_pos hk]
  have e0 : mX4_turns n σ (nI p) (nI (2 ^ a ||| 2 ^ c)) = if iI (fBr F a p 0 * fBr F c p 1) = iI (fBr F a p 1 * fBr F c p 0) then some (0, σ) else some (1, σ) := by
    unfold mX4_turns
    rw [hv_let_e, y3, hv_let_e, y4, show mX4_across n σ (nI p) 0 (nI (2 ^ a)) = _ from e a 0 (by omega) (by omega) pa, hv_b2_e, show mX4_across n σ (nI p) 1 (nI (2 ^ c)) = _ from e c 1 hc (by omega) pc', hv_b2_e, hv_let_e, show mX4_across n σ (nI p) 1 (nI (2 ^ a)) = _ from e a 1 (by omega) (by omega) pa, hv_b2_e, show mX4_across n σ (nI p) 0 (nI (2 ^ c)) = _ from e c 0 hc (by omega) pc', hv_b2_e, hv_let_e, iI_mul, iI_mul]
  have b1 := prod_le (fBr_le hi (show a < B by omega) p 0) (fBr_le hi hc p 1)
  have b2 := prod_le (fBr_le hi (show a < B by omega) p 1) (fBr_le hi hc p 0)
  rw [e0]
  unfold jCr
  refine ⟨fun h => if_neg (fun q => h ((iI_eq ⟨by omega, by omega⟩ ⟨by omega, by omega⟩).mp q)), fun h => if_pos ?_⟩
  exact (iI_eq ⟨by omega, by omega⟩ ⟨by omega, by omega⟩).mpr (Classical.byContradiction fun q => h q)
theorem jD_pc {F : Nat → Nat → Int32} {p U : Nat} (hU : U < 2048) (h : jD F p U) : pc U = 1 ∨ pc U = 2 := by
  rcases (jD_lt hU).mp h with ⟨a, h0, h1, -⟩ | ⟨a, c, h1, h0, h2, -⟩
  · rw [h1]
    exact Or.inl (pc_one ⟨a, h0⟩)
  · rw [h2]
    exact Or.inr (pc_two ⟨a, by omega⟩ ⟨c, h0⟩ h1)
theorem pc_le (U : Nat) : pc U ≤ 12 := pcK_le U 12
theorem x4_determines {n : Nat} (hn : 12 < n) {F : Nat → Nat → Int32} {P B O D W : Nat} (hi : hI F P B O D W) {σ : hv_St} (hx : rX F σ) {p U : Nat} (hp : p < 6) (hU : U < 2 ^ B) : (jD F p U → mX4_determines n σ (nI p) (nI U) = some (1, σ)) ∧ (¬ jD F p U → mX4_determines n σ (nI p) (nI U) = some (0, σ)) := by
  have hB := hi.2.1.2
  have hU' := p2048 hB hU
  have pl := pc_le U
  have e1 : mX4_determines n σ (nI p) (nI U) = kX4_determines_41 n σ (nI p) (nI U) (if fFree F (2 * p) = true then 1 else 0) (if fFree F (2 * p + 1) = true then 1 else 0) := by
    unfold mX4_determines kX4_determines_19
    simp only [nI_2, nI_1, hv_if_t (hv_ok_nI (show 2 * p < 12 by omega) (by decide)), hv_if_t (hv_ok_nI (show 2 * p + 1 < 12 by omega) (by decide)), nI_clamp (show 2 * p < 2 ^ 31 by omega), nI_clamp (show 2 * p + 1 < 2 ^ 31 by omega)]
    have h0 := held_X hx hp (show 0 < 2 by omega)
    have h1 := held_X hx hp (show 1 < 2 by omega)
    rw [Nat.add_zero] at h0
    by_cases c0 : fFree F (2 * p) = true
    · rw [if_pos (h0.mpr c0), if_pos c0]
      by_cases c1 : fFree F (2 * p + 1) = true
      · rw [if_pos (h1.mpr c1), if_pos c1]
      · rw [if_neg (fun q => c1 (h1.mp q)), if_neg c1]
    · rw [if_neg (fun q => c0 (h0.mp q)), if_neg c0]
      by_cases c1 : fFree F (2 * p + 1) = true
      · rw [if_pos (h1.mpr c1), if_pos c1]
      · rw [if_neg (fun q => c1 (h1.mp q)), if_neg c1]
  rw [e1]
  unfold kX4_determines_41
  rw [x_bitCount hU', hv_b2_e]
  have n1 : nI (pc U) = (1 : Int32) ↔ pc U = 1 := nI_eq (b := 1) (by omega) (by decide)
  have n2 : nI (pc U) = (2 : Int32) ↔ pc U = 2 := nI_eq (b := 2) (by omega) (by decide)
  by_cases q1 : pc U = 1
  · obtain ⟨a, ha⟩ := one_fin ⟨U, hU'⟩ q1
    have ha' : U = 2 ^ a.val := ha
    subst ha'
    have haB := pow_ltB hU
    have e : ∀ w, w < 2 → mX4_across n σ (nI p) (nI w) (nI (2 ^ a.val)) = some (iI (fBr F a.val p w), σ) := fun w hw => by
      rw [x4_across hn hi hx (by omega) hp hw, acr_one, if_pos haB]
    have f0 := fBr_le hi haB p 0
    have f1 := fBr_le hi haB p 1
    rw [if_pos (n1.mpr q1), jD_one (by omega)]
    unfold kX4_determines_86 kX4_determines_101 kX4_determines_105
    have A0 : mX4_across n σ (nI p) 0 (nI (2 ^ a.val)) = _ := e 0 (by omega)
    have A1 : mX4_across n σ (nI p) 1 (nI (2 ^ a.val)) = _ := e 1 (by omega)
    simp only [A0, A1, hv_b2_e, iI_0 (show -100 ≤ fBr F a.val p 0 ∧ fBr F a.val p 0 ≤ 100 by omega), iI_0 (show -100 ≤ fBr F a.val p 1 ∧ fBr F a.val p 1 ≤ 100 by omega)]
    by_cases c0 : fFree F (2 * p) = true <;> by_cases c1 : fFree F (2 * p + 1) = true <;> by_cases z0 : fBr F a.val p 0 = 0 <;> by_cases z1 : fBr F a.val p 1 = 0 <;> simp [c0, c1, z0, z1]
  · by_cases q2 : pc U = 2
    · obtain ⟨a, c, hac, ha⟩ := two_fin ⟨U, hU'⟩ q2
      have ha' : U = 2 ^ a.val ||| 2 ^ c.val := ha
      have hac' : a.val < c.val := hac
      subst ha'
      have hcB := (or_ltB hU).2
      have t := x4_turns (n := n) hn hi hx hp hac' hcB
      rw [if_neg (fun q => q1 (n1.mp q)), if_pos (n2.mpr q2), jD_two hac']
      unfold kX4_determines_129
      by_cases cr : jCr F p a.val c.val
      · rw [t.1 cr, hv_b2_e]
        by_cases c0 : fFree F (2 * p) = true <;> by_cases c1 : fFree F (2 * p + 1) = true <;> simp [c0, c1, cr]
      · rw [t.2 cr, hv_b2_e]
        by_cases c0 : fFree F (2 * p) = true <;> by_cases c1 : fFree F (2 * p + 1) = true <;> simp [c0, c1, cr]
    · rw [if_neg (fun q => q1 (n1.mp q)), if_neg (fun q => q2 (n2.mp q))]
      refine ⟨fun h => ?_, fun _ => rfl⟩
      rcases jD_pc hU' h with h | h
      · exact absurd h q1
      · exact absurd h q2
theorem r8_told_76 {n : Nat} {F : Nat → Nat → Int32} {P B O D W : Nat} (hi : hI F P B O D W) {σ : hv_St} (hm : rM F σ) {p a : Nat} (hp : p < 6) (ha : a < B) : ∀ (d k fuel : Nat), k + d = a → d < fuel → kX8_toldAt_76 n fuel σ (nI p) (nI (2 ^ a)) (nI k) = if (fFree F (2 * p) = true ∧ fBr F a p 0 ≠ 0) ∨ (fFree F (2 * p + 1) = true ∧ fBr F a p 1 ≠ 0) then some (nI (2 ^ a), σ) else some (0, σ) := by
  have hB := hi.2.1.2
  have pa : (2 : Nat) ^ a < 2 ^ 31 := Nat.pow_lt_pow_right (by decide) (by omega)
  intro d
  induction d with
  | zero =>
    intro k fuel hk hf
    obtain ⟨fuel, rfl⟩ : ∃ q, fuel = q + 1 := ⟨fuel - 1, by omega⟩
    obtain rfl : k = a := by omega
    show kX8_toldAt_76_b n _ _ _ _ _ = _
    unfold kX8_toldAt_76_b
    have f0 := fBr_le hi ha p 0
    have f1 := fBr_le hi ha p 1
    have h0 := held_M (n := n) (σ := σ) hi hp (show 0 < 2 by omega)
    have h1 := held_M (n := n) (σ := σ) hi hp (show 1 < 2 by omega)
    rw [Nat.add_zero] at h0
    rw [(r8_isOn _ _).1 ((fB_iff pa (by omega)).mpr (by rw [Nat.testBit_two_pow]; simp)), hv_b2_e, if_neg (by decide), hv_if_t (hv_ok_nI (show p < 6 by omega) (by decide)), nI_clamp (by omega), hm.2 3 (by decide) (by decide)]
    have e113 : kX8_toldAt_113 n σ (nI p) (nI (2 ^ k)) (nI k) = if fFree F (2 * p + 1) = true ∧ fBr F k p 1 ≠ 0 then some (nI (2 ^ k), σ) else some (0, σ) := by
      unfold kX8_toldAt_113 kX8_toldAt_140 kX8_toldAt_136 kX8_toldAt_141
      rw [hv_if_t (hv_ok_nI (show p < 6 by omega) (by decide)), nI_clamp (by omega), hm.2 3 (by decide) (by decide)]
      by_cases c1 : fFree F (2 * p + 1) = true
      · rw [show mX8_isOn n σ (F 3 p) 1 = _ from h1.1 c1, hv_b2_e, if_pos rfl, show mX8_brings n σ (nI k) (nI p) 1 = _ from r8_brings hi hm ha hp (show 1 < 2 by omega), hv_b2_e]
        by_cases z : fBr F k p 1 = 0
        · rw [if_pos ((iI_0 ⟨by omega, by omega⟩).mpr z), if_pos rfl, if_neg (fun q => q.2 z)]
        · rw [if_neg (fun q => z ((iI_0 ⟨by omega, by omega⟩).mp q)), if_neg (by decide), if_pos ⟨c1, z⟩]
      · rw [show mX8_isOn n σ (F 3 p) 1 = _ from h1.2 c1, hv_b2_e, if_neg (by decide), if_pos rfl, if_neg (fun q => c1 q.1)]
    by_cases c0 : fFree F (2 * p) = true
    · rw [show mX8_isOn n σ (F 3 p) 0 = _ from h0.1 c0, hv_b2_e, if_pos rfl, show mX8_brings n σ (nI k) (nI p) 0 = _ from r8_brings hi hm ha hp (show 0 < 2 by omega), hv_b2_e, e113]
      by_cases z : fBr F k p 0 = 0
      · rw [if_pos ((iI_0 ⟨by omega, by omega⟩).mpr z)]
        by_cases c1 : fFree F (2 * p + 1) = true ∧ fBr F k p 1 ≠ 0
        · rw [if_pos c1, if_pos (Or.inr c1)]
        · rw [if_neg c1, if_neg (fun q => q.elim (fun q => q.2 z) c1)]
      · rw [if_neg (fun q => z ((iI_0 ⟨by omega, by omega⟩).mp q)), if_pos (Or.inl ⟨c0, z⟩)]
        unfold kX8_toldAt_136 kX8_toldAt_141
        rw [if_neg (by decide)]
    · rw [show mX8_isOn n σ (F 3 p) 0 = _ from h0.2 c0, hv_b2_e, if_neg (by decide), e113]
      by_cases c1 : fFree F (2 * p + 1) = true ∧ fBr F k p 1 ≠ 0
      · rw [if_pos c1, if_pos (Or.inr c1)]
      · rw [if_neg c1, if_neg (fun q => q.elim (fun q => c0 q.1) c1)]
  | succ d ih =>
    intro k fuel hk hf
    obtain ⟨fuel, rfl⟩ : ∃ q, fuel = q + 1 := ⟨fuel - 1, by omega⟩
    rw [← ih (k + 1) fuel (by omega) (by omega)]
    show kX8_toldAt_76_b n _ _ _ _ _ = _
    unfold kX8_toldAt_76_b
    rw [(r8_isOn _ _).2 (fun q => by
      have q2 := (fB_iff pa (by omega)).mp q
      rw [Nat.testBit_two_pow, decide_eq_true_iff] at q2
      omega), hv_b2_e, if_pos rfl, nI_1]
theorem r8_told_194 {n : Nat} {F : Nat → Nat → Int32} {P B O D W : Nat} (hi : hI F P B O D W) {σ : hv_St} (hm : rM F σ) {p a c U : Nat} (hp : p < 6) (hac : a < c) (hc : c < B) (hU : U = 2 ^ a ||| 2 ^ c) : ∀ (d k fuel : Nat), a < k → k + d = c → d < fuel → (jCr F p a c → kX8_toldAt_194 n fuel σ (nI p) (nI U) (nI a) (nI k) = some (nI U, σ)) ∧ (¬ jCr F p a c → kX8_toldAt_194 n fuel σ (nI p) (nI U) (nI a) (nI k) = some (0, σ)) := by
  have hB := hi.2.1.2
  have pU : U < 2 ^ 31 := by
    rw [hU]
    exact Nat.or_lt_two_pow (Nat.pow_lt_pow_right (by decide) (by omega)) (Nat.pow_lt_pow_right (by decide) (by omega))
  have tb : ∀ j, U.testBit j = true ↔ j = a ∨ j = c := fun j => by
    rw [hU, Nat.testBit_or, Nat.testBit_two_pow, Nat.testBit_two_pow, Bool.or_eq_true, decide_eq_true_iff, decide_eq_true_iff]
    omega
  intro d
  induction d with
  | zero =>
    intro k fuel hak hk hf
    obtain ⟨fuel, rfl⟩ : ∃ q, fuel = q + 1 := ⟨fuel - 1, by omega⟩
    obtain rfl : k = c := by omega
    have e0 : kX8_toldAt_194 n (fuel + 1) σ (nI p) (nI U) (nI a) (nI k) = if iI (fBr F a p 0 * fBr F k p 1) = iI (fBr F a p 1 * fBr F k p 0) then some (0, σ) else some (nI U, σ) := by
      show kX8_toldAt_194_b n _ _ _ _ _ _ = _
      unfold kX8_toldAt_194_b
      rw [(r8_isOn _ _).1 ((fB_iff pU (by omega)).mpr ((tb k).mpr (Or.inr rfl))), hv_b2_e, if_neg (by decide), show mX8_brings n σ (nI a) (nI p) 0 = _ from r8_brings hi hm (by omega) hp (show 0 < 2 by omega), hv_b2_e, show mX8_brings n σ (nI k) (nI p) 1 = _ from r8_brings hi hm hc hp (show 1 < 2 by omega), hv_b2_e, show mX8_brings n σ (nI a) (nI p) 1 = _ from r8_brings hi hm (by omega) hp (show 1 < 2 by omega), hv_b2_e, show mX8_brings n σ (nI k) (nI p) 0 = _ from r8_brings hi hm hc hp (show 0 < 2 by omega), hv_b2_e, iI_mul, iI_mul]
    have b1 := prod_le (fBr_le hi (show a < B by omega) p 0) (fBr_le hi hc p 1)
    have b2 := prod_le (fBr_le hi (show a < B by omega) p 1) (fBr_le hi hc p 0)
    rw [e0]
    unfold jCr
    refine ⟨fun h => if_neg (fun q => h ((iI_eq ⟨by omega, by omega⟩ ⟨by omega, by omega⟩).mp q)), fun h => if_pos ?_⟩
    exact (iI_eq ⟨by omega, by omega⟩ ⟨by omega, by omega⟩).mpr (Classical.byContradiction fun q => h q)
  | succ d ih =>
    intro k fuel hak hk hf
    obtain ⟨fuel, rfl⟩ : ∃ q, fuel = q + 1 := ⟨fuel - 1, by omega⟩
    have e : kX8_toldAt_194 n (fuel + 1) σ (nI p) (nI U) (nI a) (nI k) = kX8_toldAt_194 n fuel σ (nI p) (nI U) (nI a) (nI (k + 1)) := by
      show kX8_toldAt_194_b n _ _ _ _ _ _ = _
      unfold kX8_toldAt_194_b
      rw [(r8_isOn _ _).2 (fun q => by
        have q2 := (tb k).mp ((fB_iff pU (by omega)).mp q)
        omega), hv_b2_e, if_pos rfl, nI_1]
    rw [e]
    exact ih (k + 1) fuel (by omega) (by omega) (by omega)
theorem r8_told_175 {n : Nat} (hn : 12 < n) {F : Nat → Nat → Int32} {P B O D W : Nat} (hi : hI F P B O D W) {σ : hv_St} (hm : rM F σ) {p a c U : Nat} (hp : p < 6) (hac : a < c) (hc : c < B) (hU : U = 2 ^ a ||| 2 ^ c) : ∀ (d k fuel : Nat), k + d = a → d < fuel → (jCr F p a c → kX8_toldAt_175 n fuel σ (nI p) (nI U) (nI k) = some (nI U, σ)) ∧ (¬ jCr F p a c → kX8_toldAt_175 n fuel σ (nI p) (nI U) (nI k) = some (0, σ)) := by
  have hB := hi.2.1.2
  have pU : U < 2 ^ 31 := by
    rw [hU]
    exact Nat.or_lt_two_pow (Nat.pow_lt_pow_right (by decide) (by omega)) (Nat.pow_lt_pow_right (by decide) (by omega))
  have tb : ∀ j, U.testBit j = true ↔ j = a ∨ j = c := fun j => by
    rw [hU, Nat.testBit_or, Nat.testBit_two_pow, Nat.testBit_two_pow, Bool.or_eq_true, decide_eq_true_iff, decide_eq_true_iff]
    omega
  intro d
  induction d with
  | zero =>
    intro k fuel hk hf
    obtain ⟨fuel, rfl⟩ : ∃ q, fuel = q + 1 := ⟨fuel - 1, by omega⟩
    obtain rfl : k = a := by omega
    have e : kX8_toldAt_175 n (fuel + 1) σ (nI p) (nI U) (nI k) = kX8_toldAt_194 n n σ (nI p) (nI U) (nI k) (nI (k + 1)) := by
      show kX8_toldAt_175_b n _ _ _ _ _ = _
      unfold kX8_toldAt_175_b
      rw [(r8_isOn _ _).1 ((fB_iff pU (by omega)).mpr ((tb k).mpr (Or.inl rfl))), hv_b2_e, if_neg (by decide), hv_let_e, nI_1]
    rw [e]
    exact r8_told_194 hi hm hp hac hc hU (c - (k + 1)) (k + 1) n (by omega) (by omega) (by omega)
  | succ d ih =>
    intro k fuel hk hf
    obtain ⟨fuel, rfl⟩ : ∃ q, fuel = q + 1 := ⟨fuel - 1, by omega⟩
    have e : kX8_toldAt_175 n (fuel + 1) σ (nI p) (nI U) (nI k) = kX8_toldAt_175 n fuel σ (nI p) (nI U) (nI (k + 1)) := by
      show kX8_toldAt_175_b n _ _ _ _ _ = _
      unfold kX8_toldAt_175_b
      rw [(r8_isOn _ _).2 (fun q => by
        have q2 := (tb k).mp ((fB_iff pU (by omega)).mp q)
        omega), hv_b2_e, if_pos rfl, nI_1]
    rw [e]
    exact ih (k + 1) fuel (by omega) (by omega)
theorem r8_toldEnd {n : Nat} (hn : 12 < n) {F : Nat → Nat → Int32} {P B O D W : Nat} (hi : hI F P B O D W) {σ : hv_St} (hm : rM F σ) {p U : Nat} (hp : p < 6) (hU : U < 2 ^ B) {o : Option (Int32 × hv_St)} (ho : o = (hv_b2 (mX8_bits n σ (nI U)) fun r67 s67 => if r67 = (1 : Int32) then (kX8_toldAt_76 n n s67 (nI p) (nI U) ((0 : Int32))) else (hv_b2 (mX8_bits n s67 (nI U)) fun r155 s155 => if r155 = (2 : Int32) then (hv_if (hv_ok (nI p) 6) (if s155.1 3 (nI p).toNatClampNeg = 0 then (kX8_toldAt_175 n n s155 (nI p) (nI U) ((0 : Int32))) else (some ((0 : Int32), s155)))) else (some ((0 : Int32), s155))))) : (jD F p U → o = some (nI U, σ)) ∧ (¬ jD F p U → o = some (0, σ)) := by
  have hB := hi.2.1.2
  have hU' := p2048 hB hU
  have pl := pc_le U
  have n1 : nI (pc U) = (1 : Int32) ↔ pc U = 1 := nI_eq (b := 1) (by omega) (by decide)
  have n2 : nI (pc U) = (2 : Int32) ↔ pc U = 2 := nI_eq (b := 2) (by omega) (by decide)
  rw [ho, r8_bits hn (by omega), hv_b2_e]
  by_cases q1 : pc U = 1
  · obtain ⟨a, ha⟩ := one_fin ⟨U, hU'⟩ q1
    have ha' : U = 2 ^ a.val := ha
    subst ha'
    have haB := pow_ltB hU
    rw [if_pos (n1.mpr q1), jD_one (by omega), show kX8_toldAt_76 n n σ (nI p) (nI (2 ^ a.val)) 0 = _ from r8_told_76 hi hm hp haB a.val 0 n (by omega) (by omega)]
    exact ⟨fun h => if_pos h, fun h => if_neg h⟩
  · rw [if_neg (fun q => q1 (n1.mp q)), r8_bits hn (by omega), hv_b2_e]
    by_cases q2 : pc U = 2
    · obtain ⟨a, c, hac, ha⟩ := two_fin ⟨U, hU'⟩ q2
      have ha' : U = 2 ^ a.val ||| 2 ^ c.val := ha
      have hac' : a.val < c.val := hac
      have hcB := (or_ltB (by rw [← ha']; exact hU)).2
      have t := r8_told_175 hn hi hm hp hac' hcB ha' a.val 0 n (by omega) (by omega)
      rw [if_pos (n2.mpr q2), hv_if_t (hv_ok_nI (show p < 6 by omega) (by decide)), nI_clamp (by omega), hm.2 3 (by decide) (by decide)]
      have ej : jD F p U ↔ F 3 p = 0 ∧ jCr F p a.val c.val := by
        rw [ha', jD_two hac', held_0 hi hp]
        exact ⟨fun h => ⟨⟨h.1, h.2.1⟩, h.2.2⟩, fun h => ⟨h.1.1, h.1.2, h.2⟩⟩
      rw [ej]
      by_cases z : F 3 p = 0
      · rw [if_pos z]
        exact ⟨fun h => t.1 h.2, fun h => t.2 (fun q => h ⟨z, q⟩)⟩
      · rw [if_neg z]
        exact ⟨fun h => absurd h.1 z, fun _ => rfl⟩
    · rw [if_neg (fun q => q2 (n2.mp q))]
      refine ⟨fun h => ?_, fun _ => rfl⟩
      rcases jD_pc hU' h with h | h
      · exact absurd h q1
      · exact absurd h q2
theorem r8_toldAt {n : Nat} (hn : 12 < n) {F : Nat → Nat → Int32} {P B O D W : Nat} (hi : hI F P B O D W) {σ : hv_St} (hm : rM F σ) {p K : Nat} (hp : p < 6) (hK : σ.1 0 32 = nI K) : (jD F p (bset (jA F (andn O K) p) B) → mX8_toldAt n σ (nI p) = some (nI (bset (jA F (andn O K) p) B), σ)) ∧ (¬ jD F p (bset (jA F (andn O K) p) B) → mX8_toldAt n σ (nI p) = some (0, σ)) := by
  have hB := hi.2.1.2
  have oM : σ.1 0 11 = nI O := hm.1.2.2.1.trans hi.2.2.1.1
  have bM : σ.1 0 6 = nI B := hm.1.2.1.trans hi.2.1.1
  have ok31 := p2048 hB (andn_lt (b := K) hi.2.2.1.2)
  have loop : ∀ (d k fuel : Nat), k + d = B → d < fuel → (jD F p (bset (jA F (andn O K) p) B) → kX8_toldAt_4 n fuel σ (nI p) (nI (bset (jA F (andn O K) p) k)) (nI k) = some (nI (bset (jA F (andn O K) p) B), σ)) ∧ (¬ jD F p (bset (jA F (andn O K) p) B) → kX8_toldAt_4 n fuel σ (nI p) (nI (bset (jA F (andn O K) p) k)) (nI k) = some (0, σ)) := by
    intro d
    induction d with
    | zero =>
      intro k fuel hk hf
      obtain ⟨fuel, rfl⟩ : ∃ q, fuel = q + 1 := ⟨fuel - 1, by omega⟩
      obtain rfl : k = B := by omega
      refine r8_toldEnd hn hi hm hp (bset_lt _ _) ?_
      show kX8_toldAt_4_b n _ _ _ _ _ = _
      unfold kX8_toldAt_4_b
      rw [bM, if_pos (nI_le (Nat.le_refl _) (by omega))]
    | succ d ih =>
      intro k fuel hk hf
      obtain ⟨fuel, rfl⟩ : ∃ q, fuel = q + 1 := ⟨fuel - 1, by omega⟩
      have hb := fB_iff (s := andn O K) (k := k) (by omega) (by omega)
      have st := bset_step (q := jA F (andn O K) p) (k := k) (by omega)
      have e : kX8_toldAt_4 n (fuel + 1) σ (nI p) (nI (bset (jA F (andn O K) p) k)) (nI k) = kX8_toldAt_4 n fuel σ (nI p) (nI (bset (jA F (andn O K) p) (k + 1))) (nI (k + 1)) := by
        show kX8_toldAt_4_b n _ _ _ _ _ = _
        unfold kX8_toldAt_4_b kX8_toldAt_57 kX8_toldAt_51 kX8_toldAt_58
        rw [bM, if_neg (nI_ge (by omega) (by omega)), oM, hK, nI_andn]
        by_cases h : (andn O K).testBit k = true
        · rw [(r8_isOn _ _).1 (hb.mpr h), hv_b2_e, if_neg (by decide), hv_if_t (hv_ok_nI (show k < 11 by omega) (by decide)), hv_if_t (hv_ok_nI (show k < 11 by omega) (by decide)), nI_clamp (by omega), hm.2 5 (by decide) (by decide), hm.2 6 (by decide) (by decide), hv_let_e, hv_let_e, jAt_ends hi (by omega) (by omega), nI_1]
          by_cases c : jAt F p k = true
          · rw [if_pos c, st.1 (by unfold jA; rw [h, c]; rfl)]
          · rw [if_neg c, nI_or0, st.2 (by unfold jA; rw [h]; exact c)]
        · rw [(r8_isOn _ _).2 (fun q => h (hb.mp q)), hv_b2_e, if_pos rfl, hv_let_e, nI_1, nI_or0, st.2 (fun q => h (by
            unfold jA at q
            rw [Bool.and_eq_true] at q
            exact q.1))]
      rw [e]
      exact ih (k + 1) fuel (by omega) (by omega)
  exact loop B 0 n (by omega) (by omega)
