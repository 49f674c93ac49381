/-! joints: the class's and the reference's tests of a pin -/
def bset (q : Nat → Bool) : Nat → Nat
  | 0 => 0
  | k + 1 => if q k = true then bset q k ||| 2 ^ k else bset q k
theorem bset_lt (q : Nat → Bool) : ∀ k, bset q k < 2 ^ k
  | 0 => by
    show 0 < 1
    decide
  | k + 1 => by
    show (if q k = true then bset q k ||| 2 ^ k else bset q k) < _
    have h := Nat.lt_of_lt_of_le (bset_lt q k) (Nat.pow_le_pow_right (show 0 < 2 by decide) (Nat.le_succ k))
    by_cases c : q k = true
    · rw [if_pos c]
      exact Nat.or_lt_two_pow h (Nat.pow_lt_pow_right (by decide) (by omega))
    · rw [if_neg c]
      exact h
theorem bset_bit (q : Nat → Bool) (j : Nat) : ∀ k, (bset q k).testBit j = true ↔ j < k ∧ q j = true
  | 0 => by
    show (0 : Nat).testBit j = true ↔ _
    simp
  | k + 1 => by
    show (if q k = true then bset q k ||| 2 ^ k else bset q k).testBit j = true ↔ _
    by_cases c : q k = true
    · rw [if_pos c, Nat.testBit_or, Nat.testBit_two_pow, Bool.or_eq_true, decide_eq_true_iff, bset_bit q j k]
      constructor
      · rintro (h | h)
        · exact ⟨by omega, h.2⟩
        · exact ⟨by omega, by rw [← h]; exact c⟩
      · rintro ⟨h1, h2⟩
        by_cases e : j = k
        · exact Or.inr e.symm
        · exact Or.inl ⟨by omega, h2⟩
    · rw [if_neg c, bset_bit q j k]
      constructor
      · rintro h
        exact ⟨by omega, h.2⟩
      · rintro ⟨h1, h2⟩
        by_cases e : j = k
        · rw [e] at h2
          exact absurd h2 c
        · exact ⟨by omega, h2⟩
theorem bit_ext {a b : Nat} (h : ∀ j, a.testBit j = true ↔ b.testBit j = true) : a = b := Nat.eq_of_testBit_eq (fun j => by
  have q := h j
  cases e : a.testBit j <;> cases e2 : b.testBit j
  · rfl
  · rw [e, e2] at q; exact absurd (q.mpr rfl) (by decide)
  · rw [e, e2] at q; exact absurd (q.mp rfl) (by decide)
  · rfl)
def jAt (F : Nat → Nat → Int32) (p b : Nat) : Bool := decide (fA F b = p) || decide (fC F b = p)
def jA (F : Nat → Nat → Int32) (S p : Nat) : Nat → Bool := fun b => S.testBit b && jAt F p b
theorem bset_andn (F : Nat → Nat → Int32) (O K p B : Nat) : andn (bset (jA F O p) B) K = bset (jA F (andn O K) p) B := bit_ext (fun j => by
  rw [andn_bit, bset_bit, bset_bit]
  unfold jA
  rw [Bool.and_eq_true, Bool.and_eq_true, andn_bit]
  constructor
  · rintro ⟨⟨h1, h2, h3⟩, h4⟩
    exact ⟨h1, ⟨h2, h4⟩, h3⟩
  · rintro ⟨h1, ⟨h2, h4⟩, h3⟩
    exact ⟨⟨h1, h2, h3⟩, h4⟩)
theorem jAt_ends {F : Nat → Nat → Int32} {P B O D W : Nat} (hi : hI F P B O D W) {b p : Nat} (hb : b < B) (hp : p < 2 ^ 31) {α : Type} (x y : α) : (if F 5 b = nI p then x else if F 6 b = nI p then x else y) = if jAt F p b = true then x else y := by
  have hP := hi.1.2
  obtain ⟨e1, e2, e3, e4⟩ := hI_ends hi hb
  have hj : jAt F p b = true ↔ fA F b = p ∨ fC F b = p := by
    unfold jAt
    rw [Bool.or_eq_true, decide_eq_true_iff, decide_eq_true_iff]
  rw [e1, e3]
  by_cases c1 : fA F b = p
  · rw [if_pos ((nI_eq (by omega) hp).mpr c1), if_pos (hj.mpr (Or.inl c1))]
  · rw [if_neg (fun q => c1 ((nI_eq (by omega) hp).mp q))]
    by_cases c2 : fC F b = p
    · rw [if_pos ((nI_eq (by omega) hp).mpr c2), if_pos (hj.mpr (Or.inr c2))]
    · rw [if_neg (fun q => c2 ((nI_eq (by omega) hp).mp q)), if_neg (fun q => (hj.mp q).elim c1 c2)]
theorem bset_step {q : Nat → Bool} {k : Nat} (hk : k < 31) : (q k = true → nI (bset q k) ||| ((1 : Int32) <<< (nI k &&& 31)) = nI (bset q (k + 1))) ∧ (¬ q k = true → nI (bset q k) = nI (bset q (k + 1))) := by
  refine ⟨fun h => ?_, fun h => ?_⟩
  · rw [nI_shl hk, nI_or]
    show _ = nI (if q k = true then bset q k ||| 2 ^ k else bset q k)
    rw [if_pos h]
  · show _ = nI (if q k = true then bset q k ||| 2 ^ k else bset q k)
    rw [if_neg h]
theorem x3_barsAt {n : Nat} {F : Nat → Nat → Int32} {P B O D W : Nat} (hi : hI F P B O D W) {σ : hv_St} (hx : rX F σ) {p : Nat} (hp : p < 2 ^ 31) : ∀ (d k fuel : Nat), k + d = B → d < fuel → kX3_barsAt_4 n fuel σ (nI p) (nI (bset (jA F O p) k)) (nI k) = some (nI (bset (jA F O p) B), σ) := by
  have hB := hi.2.1.2
  have hbX : σ.1 1 1 = nI B := hx.1.2.1.trans hi.2.1.1
  have oX : σ.1 1 2 = nI O := hx.1.2.2.1.trans hi.2.2.1.1
  have o31 := p2048 hB hi.2.2.1.2
  intro d
  induction d with
  | zero =>
    intro k fuel hk hf
    obtain ⟨fuel, rfl⟩ : ∃ q, fuel = q + 1 := ⟨fuel - 1, by omega⟩
    obtain rfl : k = B := by omega
    show kX3_barsAt_4_b n _ _ _ _ _ = _
    unfold kX3_barsAt_4_b
    rw [hbX, if_pos (nI_le (Nat.le_refl _) (by omega))]
  | succ d ih =>
    intro k fuel hk hf
    obtain ⟨fuel, rfl⟩ : ∃ q, fuel = q + 1 := ⟨fuel - 1, by omega⟩
    have q5 := hx.2.2.2.2.1 k (by omega)
    have hb := fB_iff (s := O) (k := k) (by omega) (by omega)
    have st := bset_step (q := jA F O p) (k := k) (by omega)
    have e : kX3_barsAt_4 n (fuel + 1) σ (nI p) (nI (bset (jA F O p) k)) (nI k) = kX3_barsAt_4 n fuel σ (nI p) (nI (bset (jA F O p) (k + 1))) (nI (k + 1)) := by
      show kX3_barsAt_4_b n _ _ _ _ _ = _
      unfold kX3_barsAt_4_b kX3_barsAt_43 kX3_barsAt_49
      rw [hbX, if_neg (nI_ge (by omega) (by omega)), oX]
      by_cases h : O.testBit k = true
      · rw [(x7_has _ _).1 (hb.mpr h), hv_b2_e, if_neg (by decide), hv_if_t (hv_ok_nI (show k < 11 by omega) (by decide)), hv_if_t (hv_ok_nI (show k < 11 by omega) (by decide)), nI_clamp (by omega), q5.1, q5.2.1, hv_let_e, jAt_ends hi (by omega) hp, nI_1]
        by_cases c : jAt F p k = true
        · rw [if_pos c, st.1 (by unfold jA; rw [h, c]; rfl)]
        · rw [if_neg c, st.2 (by unfold jA; rw [h]; exact c)]
      · rw [(x7_has _ _).2 (fun q => h (hb.mp q)), hv_b2_e, if_pos rfl, nI_1, st.2 (fun q => h (by
          unfold jA at q
          rw [Bool.and_eq_true] at q
          exact q.1))]
    rw [e]
    exact ih (k + 1) fuel (by omega) (by omega)
def acr (F : Nat → Nat → Int32) (S p w : Nat) : Nat → Int
  | 0 => 0
  | k + 1 => acr F S p w k + if S.testBit k = true then fBr F k p w else 0
theorem acr_one (F : Nat → Nat → Int32) (a p w : Nat) : ∀ k, acr F (2 ^ a) p w k = if a < k then fBr F a p w else 0
  | 0 => by rw [if_neg (Nat.not_lt_zero _)]; rfl
  | k + 1 => by
    show acr F (2 ^ a) p w k + (if (2 ^ a).testBit k = true then fBr F k p w else 0) = _
    have ht : (2 ^ a).testBit k = true ↔ a = k := by rw [Nat.testBit_two_pow, decide_eq_true_iff]
    rw [acr_one F a p w k]
    by_cases e : a = k
    · rw [if_neg (show ¬ a < k by omega), if_pos (ht.mpr e), if_pos (show a < k + 1 by omega), e, Int.zero_add]
    · rw [if_neg (fun q => e (ht.mp q)), Int.add_zero]
      by_cases l : a < k
      · rw [if_pos l, if_pos (by omega)]
      · rw [if_neg l, if_neg (by omega)]
theorem acr_le {F : Nat → Nat → Int32} {P B O D W : Nat} (hi : hI F P B O D W) (S p w : Nat) : ∀ k, k ≤ B → -(3 * k : Int) ≤ acr F S p w k ∧ acr F S p w k ≤ 3 * k
  | 0, _ => by
    show -(3 * (0 : Nat) : Int) ≤ 0 ∧ (0 : Int) ≤ 3 * (0 : Nat)
    omega
  | k + 1, h => by
    have q := acr_le hi S p w k (by omega)
    have r := fBr_le hi (show k < B by omega) p w
    show -(3 * ((k + 1 : Nat) : Int)) ≤ acr F S p w k + _ ∧ acr F S p w k + _ ≤ 3 * ((k + 1 : Nat) : Int)
    by_cases c : S.testBit k = true
    · rw [if_pos c]; omega
    · rw [if_neg c]; omega
theorem acr_rI {F : Nat → Nat → Int32} {P B O D W : Nat} (hi : hI F P B O D W) (S p w : Nat) : -33 ≤ acr F S p w B ∧ acr F S p w B ≤ 33 := by
  have hB := hi.2.1.2
  have q := acr_le hi S p w B (Nat.le_refl _)
  omega
theorem x4_across_loop {n : Nat} {F : Nat → Nat → Int32} {P B O D W : Nat} (hi : hI F P B O D W) {σ : hv_St} (hx : rX F σ) {S p w : Nat} (hS : S < 2 ^ 31) (hp : p < 6) (hw : w < 2) : ∀ (d k fuel : Nat), k + d = B → d < fuel → kX4_across_6 n fuel σ (nI p) (nI w) (nI S) (iI (acr F S p w k)) (nI k) = some (iI (acr F S p w B), σ) := by
  have hB := hi.2.1.2
  have hbX : σ.1 1 1 = nI B := hx.1.2.1.trans hi.2.1.1
  intro d
  induction d with
  | zero =>
    intro k fuel hk hf
    obtain ⟨fuel, rfl⟩ : ∃ q, fuel = q + 1 := ⟨fuel - 1, by omega⟩
    obtain rfl : k = B := by omega
    show kX4_across_6_b n _ _ _ _ _ _ _ = _
    unfold kX4_across_6_b
    rw [hbX, if_pos (nI_le (Nat.le_refl _) (by omega))]
  | succ d ih =>
    intro k fuel hk hf
    obtain ⟨fuel, rfl⟩ : ∃ q, fuel = q + 1 := ⟨fuel - 1, by omega⟩
    have hb := fB_iff (k := k) hS (by omega)
    have e : kX4_across_6 n (fuel + 1) σ (nI p) (nI w) (nI S) (iI (acr F S p w k)) (nI k) = kX4_across_6 n fuel σ (nI p) (nI w) (nI S) (iI (acr F S p w (k + 1))) (nI (k + 1)) := by
      show kX4_across_6_b n _ _ _ _ _ _ _ = _
      unfold kX4_across_6_b kX4_across_46
      rw [hbX, if_neg (nI_ge (by omega) (by omega))]
      have ea : acr F S p w (k + 1) = acr F S p w k + if S.testBit k = true then fBr F k p w else 0 := rfl
      by_cases h : S.testBit k = true
      · rw [(x7_has _ _).1 (hb.mpr h), hv_b2_e, if_neg (by decide), nI_2, nI_add, x3_brings hi hx (by omega) hp hw, hv_b2_e, hv_let_e, iI_add, nI_1, ea, if_pos h]
      · rw [(x7_has _ _).2 (fun q => h (hb.mp q)), hv_b2_e, if_pos rfl, nI_1, ea, if_neg h, Int.add_zero]
    rw [e]
    exact ih (k + 1) fuel (by omega) (by omega)
theorem x4_across {n : Nat} (hn : 12 < n) {F : Nat → Nat → Int32} {P B O D W : Nat} (hi : hI F P B O D W) {σ : hv_St} (hx : rX F σ) {S p w : Nat} (hS : S < 2 ^ 31) (hp : p < 6) (hw : w < 2) : mX4_across n σ (nI p) (nI w) (nI S) = some (iI (acr F S p w B), σ) := by
  have hB := hi.2.1.2
  exact x4_across_loop hi hx hS hp hw B 0 n (by omega) (by omega)
theorem one_fin : ∀ U : Fin 2048, pc U.val = 1 → ∃ a : Fin 11, U.val = 2 ^ a.val := by decide +kernel
theorem two_fin : ∀ U : Fin 2048, pc U.val = 2 → ∃ a c : Fin 11, a < c ∧ U.val = 2 ^ a.val ||| 2 ^ c.val := by decide +kernel
theorem two_low : ∀ a c : Fin 11, a < c → (2 ^ a.val ||| 2 ^ c.val) &&& ((2 ^ a.val ||| 2 ^ c.val) - 1) = 2 ^ c.val ∧ (2 ^ a.val ||| 2 ^ c.val) ^^^ (2 ^ c.val) = 2 ^ a.val := by decide +kernel
def jCr (F : Nat → Nat → Int32) (p a c : Nat) : Prop := fBr F a p 0 * fBr F c p 1 ≠ fBr F a p 1 * fBr F c p 0
/-- a pin's bars U are determined there -/
def jD (F : Nat → Nat → Int32) (p U : Nat) : Prop := (∃ a, U = 2 ^ a ∧ ((fFree F (2 * p) = true ∧ fBr F a p 0 ≠ 0) ∨ (fFree F (2 * p + 1) = true ∧ fBr F a p 1 ≠ 0))) ∨ ∃ a c, a < c ∧ U = 2 ^ a ||| 2 ^ c ∧ fFree F (2 * p) = true ∧ fFree F (2 * p + 1) = true ∧ jCr F p a c
theorem pc_one : ∀ a : Fin 11, pc (2 ^ a.val) = 1 := by decide +kernel
theorem pc_two : ∀ a c : Fin 11, a < c → pc (2 ^ a.val ||| 2 ^ c.val) = 2 := by decide +kernel
theorem jD_lt {F : Nat → Nat → Int32} {p U : Nat} (hU : U < 2048) : jD F p U ↔ (∃ a, a < 11 ∧ U = 2 ^ a ∧ ((fFree F (2 * p) = true ∧ fBr F a p 0 ≠ 0) ∨ (fFree F (2 * p + 1) = true ∧ fBr F a p 1 ≠ 0))) ∨ ∃ a c, a < c ∧ c < 11 ∧ U = 2 ^ a ||| 2 ^ c ∧ fFree F (2 * p) = true ∧ fFree F (2 * p + 1) = true ∧ jCr F p a c := by
  have hlt : ∀ a, U.testBit a = true → a < 11 := fun a h => by
    refine Nat.lt_of_not_le fun q => ?_
    have := Nat.ge_two_pow_of_testBit h
    have h2 := Nat.pow_le_pow_right (show 0 < 2 by decide) q
    have h3 : (2 : Nat) ^ 11 = 2048 := by decide
    omega
  unfold jD
  constructor
  · rintro (⟨a, h1, h2⟩ | ⟨a, c, h1, h2, h3⟩)
    · exact Or.inl ⟨a, hlt a (by rw [h1, Nat.testBit_two_pow]; simp), h1, h2⟩
    · exact Or.inr ⟨a, c, h1, hlt c (by rw [h2, Nat.testBit_or, Nat.testBit_two_pow, Nat.testBit_two_pow]; simp), h2, h3⟩
  · rintro (⟨a, h0, h1, h2⟩ | ⟨a, c, h1, h0, h2, h3⟩)
    · exact Or.inl ⟨a, h1, h2⟩
    · exact Or.inr ⟨a, c, h1, h2, h3⟩
theorem pow_inj {a c : Nat} (h : 2 ^ a = 2 ^ c) : a = c := by
  have q := congrArg (fun x : Nat => x.testBit a) h
  simp only [Nat.testBit_two_pow] at q
  simp at q
  omega
theorem or_inj {a c a' c' : Nat} (h1 : a < c) (h2 : a' < c') (h : 2 ^ a ||| 2 ^ c = 2 ^ a' ||| 2 ^ c') : a = a' ∧ c = c' := by
  have key : ∀ j, (j = a ∨ j = c) ↔ (j = a' ∨ j = c') := fun j => by
    have q := congrArg (fun x : Nat => x.testBit j) h
    simp only [Nat.testBit_or, Nat.testBit_two_pow] at q
    have e : (decide (a = j) || decide (c = j)) = true ↔ (decide (a' = j) || decide (c' = j)) = true := by rw [q]
    simp only [Bool.or_eq_true, decide_eq_true_iff] at e
    constructor
    · intro h
      have := e.mp (by omega)
      omega
    · intro h
      have := e.mpr (by omega)
      omega
  have k1 := (key a).mp (Or.inl rfl)
  have k2 := (key c).mp (Or.inr rfl)
  have k3 := (key a').mpr (Or.inl rfl)
  omega
theorem jD_one {F : Nat → Nat → Int32} {p a : Nat} (ha : a < 11) : jD F p (2 ^ a) ↔ ((fFree F (2 * p) = true ∧ fBr F a p 0 ≠ 0) ∨ (fFree F (2 * p + 1) = true ∧ fBr F a p 1 ≠ 0)) := by
  constructor
  · rintro (⟨b, h1, h2⟩ | ⟨b, c, h1, h2, h3⟩)
    · rw [pow_inj h1]
      exact h2
    · exfalso
      have q1 := congrArg (fun x : Nat => x.testBit b) h2
      have q2 := congrArg (fun x : Nat => x.testBit c) h2
      simp only [Nat.testBit_or, Nat.testBit_two_pow] at q1 q2
      simp at q1 q2
      omega
  · intro h
    exact Or.inl ⟨a, rfl, h⟩
theorem jD_two {F : Nat → Nat → Int32} {p a c : Nat} (hac : a < c) : jD F p (2 ^ a ||| 2 ^ c) ↔ fFree F (2 * p) = true ∧ fFree F (2 * p + 1) = true ∧ jCr F p a c := by
  constructor
  · rintro (⟨b, h1, h2⟩ | ⟨b, d, h1, h2, h3⟩)
    · exfalso
      have q1 := congrArg (fun x : Nat => x.testBit a) h1
      have q2 := congrArg (fun x : Nat => x.testBit c) h1
      simp only [Nat.testBit_or, Nat.testBit_two_pow] at q1 q2
      simp at q1 q2
      omega
    · obtain ⟨e1, e2⟩ := or_inj hac h1 h2
      rw [e1, e2]
      exact h3
  · intro h
    exact Or.inr ⟨a, c, hac, rfl, h⟩
