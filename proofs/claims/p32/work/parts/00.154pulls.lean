/-! the class's pulls: prepared; overs -/
theorem x7_quo {n : Nat} {σ : hv_St} {l x a : Int} (h : a = l * x) (ha : rL a) (hl : rL l) (l0 : l ≠ 0) : mX7_quotient n σ (iL a) (iL l) = some (iL x, σ) := by
  rw [x7_quotient ha hl l0, h, Int.mul_tdiv_cancel_left _ l0]
theorem fBl_pre {S : Nat} {b : Nat} : ∀ B, b ≤ B → ∀ k, k < (fBl S b).length → (fBl S B).getD k 0 = (fBl S b).getD k 0
  | 0, h, k, hk => by
    obtain rfl : b = 0 := by omega
    rfl
  | B + 1, h, k, hk => by
    by_cases e : b = B + 1
    · rw [e]
    · have q := fBl_pre B (show b ≤ B by omega) k hk
      have ml := fBl_mono S (show b ≤ B by omega)
      rw [fBl_succ]
      by_cases c : S.testBit B = true
      · rw [if_pos c, getD_app_lt (by omega)]
        exact q
      · rw [if_neg c]
        exact q
theorem sumK_congr {f g : Nat → Int} : ∀ k, (∀ i, i < k → f i = g i) → sumK f k = sumK g k
  | 0, _ => rfl
  | k + 1, h => by
    show sumK f k + f k = sumK g k + g k
    rw [sumK_congr k (fun i hi => h i (by omega)), h k (by omega)]
theorem sumK_zero {f : Nat → Int} : ∀ k, (∀ i, i < k → f i = 0) → sumK f k = 0
  | 0, _ => rfl
  | k + 1, h => by
    show sumK f k + f k = 0
    rw [sumK_zero k (fun i hi => h i (by omega)), h k (by omega)]
    rfl
theorem x5_prep_loop {n : Nat} (hn : 20 < n) {B Es : Nat} (hB : B ≤ 11) (hEs : Es < 2 ^ B) {σ₀ : hv_St} (hbX : σ₀.1 1 1 = nI B) (hs : σ₀.1 9 7 = nI Es) {acc : List Nat} (hb : xBs σ₀ acc) (hEa : ∀ b, Es.testBit b = true → b ∉ acc) (hm : (fBl Es B).length ≤ 2) {U : Nat → Nat → Int} (hM : ∀ k j, k < (fBl Es B).length → j < acc.length → σ₀.2 (27 + j) ((fBl Es B).getD k 0) = iL (-(U k (acc.getD j 0)))) (hl : ∀ k, k < (fBl Es B).length → σ₀.2 9 8 = iL (U k ((fBl Es B).getD k 0))) (hU : ∀ k b, k < (fBl Es B).length → b < 11 → b ∉ acc → b ≠ (fBl Es B).getD k 0 → U k b = 0) : ∀ (d b fuel : Nat) (σ : hv_St), b + d = B → d < fuel → (∀ k, k ≠ 13 → σ.1 k = σ₀.1 k) → (∀ k, k ≠ 39 → k ≠ 40 → σ.2 k = σ₀.2 k) → σ.1 13 5 = nI (fBl Es b).length → (∀ k c, k < (fBl Es b).length → c < 11 → σ.2 (39 + k) c = iL (U k c)) → ∃ τ, kX5_prepare_7 n fuel σ (nI b) = (if τ.1 13 5 = 0 then (hv_let (hv_sJ τ 13 6 (τ.2 9 8)) fun s80 => some s80) else (if τ.1 13 5 = (1 : Int32) then (hv_b2 (mX5_giving n τ ((0 : Int32)) ((0 : Int32))) fun r98 s98 => hv_let (hv_sJ s98 13 6 (r98)) fun s101 => some s101) else (hv_bd (mX5_layPairs n τ ) fun s108 => some s108))) ∧ (∀ k, k ≠ 13 → τ.1 k = σ₀.1 k) ∧ (∀ k, k ≠ 39 → k ≠ 40 → τ.2 k = σ₀.2 k) ∧ τ.1 13 5 = nI (fBl Es B).length ∧ ∀ k c, k < (fBl Es B).length → c < 11 → τ.2 (39 + k) c = iL (U k c) := by
  intro d
  induction d with
  | zero =>
    intro b fuel σ hb' hf h1 h2 h3 h4
    obtain ⟨fuel, rfl⟩ : ∃ q, fuel = q + 1 := ⟨fuel - 1, by omega⟩
    obtain rfl : b = B := by omega
    refine ⟨σ, ?_, h1, h2, h3, h4⟩
    show kX5_prepare_7_b n _ _ _ = _
    unfold kX5_prepare_7_b
    rw [h1 1 (by decide), hbX, if_pos (nI_le (Nat.le_refl _) (by omega))]
  | succ d ih =>
    intro b fuel σ hb' hf h1 h2 h3 h4
    obtain ⟨fuel, rfl⟩ : ∃ q, fuel = q + 1 := ⟨fuel - 1, by omega⟩
    have fb := fB_iff (s := Es) (k := b) (by have := p2048 hB hEs; omega) (by omega)
    have es := fBl_succ Es b
    have ml := fBl_mono Es (show b + 1 ≤ B by omega)
    have h97 : σ.1 9 7 = nI Es := by rw [h1 9 (by decide)]; exact hs
    have hb1 : σ.1 1 1 = nI B := by rw [h1 1 (by decide)]; exact hbX
    by_cases ht : Es.testBit b = true
    · rw [if_pos ht] at es
      have hlen : (fBl Es (b + 1)).length = (fBl Es b).length + 1 := by rw [es, List.length_append]; rfl
      have hq : (fBl Es B).getD (fBl Es b).length 0 = b := by
        rw [fBl_pre B (show b + 1 ≤ B by omega) _ (by omega), es, getD_app_at]
      have hbσ : xBs σ acc := ⟨by rw [h1 9 (by decide)]; exact hb.1, hb.2.1, hb.2.2.1, fun j hj => by rw [h1 12 (by decide)]; exact hb.2.2.2 j hj⟩
      obtain ⟨g, g1, g2⟩ := x5_layUnit (n := n) hn (σ := σ) (k := (fBl Es b).length) (q := b) (by omega) (by omega) hbσ (U := U (fBl Es b).length) (fun j hj => by
        have := hM (fBl Es b).length j (by omega) hj
        rw [hq] at this
        have hj12 := hb.2.1
        rw [h2 (27 + j) (by omega) (by omega)]
        exact this) (by
        have := hl (fBl Es b).length (by omega)
        rw [hq] at this
        rw [h2 9 (by decide) (by decide)]
        exact this) (fun c hc hca hcb => hU _ c (by omega) hc hca (by rw [hq]; exact hcb)) (hEa b ht)
      have k2 : (fBl Es b).length < 2 := by omega
      obtain ⟨τ, t1, t2⟩ := ih (b + 1) fuel (hv_sI (hv_wJ σ (39 + (fBl Es b).length) g) 13 5 (nI ((fBl Es b).length + 1))) (by omega) (by omega) (fun k hk => by rw [hv_sI_ne _ _ _ hk]; exact h1 k hk) (fun k hk1 hk2 => by
        show (hv_wJ σ (39 + (fBl Es b).length) g).2 k = _
        rw [hv_wJ_ne _ _ (by omega)]
        exact h2 k hk1 hk2) (by rw [hv_sI_rd, if_pos rfl, hlen]) (fun k c hk hc => by
        show (hv_wJ σ (39 + (fBl Es b).length) g).2 (39 + k) c = _
        rw [hlen] at hk
        by_cases ek : k = (fBl Es b).length
        · rw [ek, hv_wJ_at, g2 c hc]
        · rw [hv_wJ_ne _ _ (by omega)]
          exact h4 k c (by omega) hc)
      refine ⟨τ, ?_, t2⟩
      rw [← t1]
      show kX5_prepare_7_b n _ _ _ = _
      unfold kX5_prepare_7_b kX5_prepare_59
      rw [hb1, if_neg (nI_ge (by omega) (by omega)), h97, (x7_has _ _).1 (fb.mpr ht), hv_b2_e, if_neg (by decide), h3, if_neg (show ¬ (2 : Int32) ≤ nI (fBl Es b).length from nI_ge (b := 2) k2 (by decide)), g1, hv_bd_e, hv_let_e, nI_1, hv_wJ_1, h3, nI_1]
    · rw [if_neg ht] at es
      obtain ⟨τ, t1, t2⟩ := ih (b + 1) fuel σ (by omega) (by omega) h1 h2 (by rw [es]; exact h3) (by rw [es]; exact h4)
      refine ⟨τ, ?_, t2⟩
      rw [← t1]
      show kX5_prepare_7_b n _ _ _ = _
      unfold kX5_prepare_7_b kX5_prepare_59
      rw [hb1, if_neg (nI_ge (by omega) (by omega)), h97, (x7_has _ _).2 (fun q => ht (fb.mp q)), hv_b2_e, if_pos rfl, nI_1]
/-- pairs -/
theorem x5_pairs_in {n : Nat} {F : Nat → Nat → Int32} {B : Nat} {σ₀ : hv_St} (hg : gF F B σ₀) {U0 U1 : Nat → Int} (h0 : ∀ b, b < B → σ₀.2 39 b = iL (U0 b)) (h1 : ∀ b, b < B → σ₀.2 40 b = iL (U1 b)) {l : Int} (hl : σ₀.2 9 8 = iL l) (l0 : l ≠ 0) (lr : rL l) {pr : Nat → Nat → Int} (hpr : ∀ a b, a < B → b < B → U0 a * U1 b - U0 b * U1 a = l * pr a b ∧ rL (U0 a * U1 b - U0 b * U1 a)) {r7 : hv_St → Int32 → Option hv_St} {a : Nat} (ha : a < B) {w : Int} : ∀ (d b fuel : Nat) (σ : hv_St), b + d = B → d < fuel → σ.1 = σ₀.1 → (∀ k, k < 41 → k ≠ 13 → σ.2 k = σ₀.2 k) → σ.2 13 6 = iL (w + sumK (fun b => if a < b then gv F a * gv F b * pr a b * pr a b else 0) b) → (∀ c, c < b → σ.2 (41 + a) c = iL (pr a c)) → ∃ τ, kX5_layPairs_20 n r7 fuel σ (nI a) (nI b) = r7 τ (nI (a + 1)) ∧ τ.1 = σ₀.1 ∧ (∀ k, k < 41 → k ≠ 13 → τ.2 k = σ₀.2 k) ∧ τ.2 13 6 = iL (w + sumK (fun b => if a < b then gv F a * gv F b * pr a b * pr a b else 0) B) ∧ (∀ c, c < B → τ.2 (41 + a) c = iL (pr a c)) ∧ ∀ k, 41 ≤ k → k ≠ 41 + a → τ.2 k = σ.2 k := by
  obtain ⟨g1, g2, g3⟩ := hg
  intro d
  induction d with
  | zero =>
    intro b fuel σ hb hf k1 k2 k3 k4
    obtain ⟨fuel, rfl⟩ : ∃ q, fuel = q + 1 := ⟨fuel - 1, by omega⟩
    obtain rfl : b = B := by omega
    refine ⟨σ, ?_, k1, k2, k3, k4, fun _ _ _ => rfl⟩
    show kX5_layPairs_20_b n r7 _ _ _ _ = _
    unfold kX5_layPairs_20_b
    rw [k1, g1, if_pos (nI_le (Nat.le_refl _) (by omega)), nI_1]
  | succ d ih =>
    intro b fuel σ hb hf k1 k2 k3 k4
    obtain ⟨fuel, rfl⟩ : ∃ q, fuel = q + 1 := ⟨fuel - 1, by omega⟩
    have oa : hv_ok (nI a) 11 = true := hv_ok_nI (by omega) (by decide)
    have ob : hv_ok (nI b) 11 = true := hv_ok_nI (by omega) (by decide)
    have ca : (nI a).toNatClampNeg = a := nI_clamp (by omega)
    have cb : (nI b).toNatClampNeg = b := nI_clamp (by omega)
    have q := hpr a b ha (by omega)
    have e39 : σ.2 39 = σ₀.2 39 := k2 39 (by decide) (by decide)
    have e40 : σ.2 40 = σ₀.2 40 := k2 40 (by decide) (by decide)
    have e9 : σ.2 9 8 = iL l := by rw [k2 9 (by decide) (by decide)]; exact hl
    have es : sumK (fun b => if a < b then gv F a * gv F b * pr a b * pr a b else 0) (b + 1) = sumK (fun b => if a < b then gv F a * gv F b * pr a b * pr a b else 0) b + (if a < b then gv F a * gv F b * pr a b * pr a b else 0) := rfl
    have head : kX5_layPairs_20 n r7 (fuel + 1) σ (nI a) (nI b) = if nI b ≤ nI a then kX5_layPairs_20 n r7 fuel (hv_sJ σ (41 + a) b (iL (pr a b))) (nI a) (nI (b + 1)) else kX5_layPairs_20 n r7 fuel (hv_sJ (hv_sJ σ (41 + a) b (iL (pr a b))) 13 6 (σ.2 13 6 + iL (gv F a * gv F b * pr a b * pr a b))) (nI a) (nI (b + 1)) := by
      show kX5_layPairs_20_b n r7 _ _ _ _ = _
      unfold kX5_layPairs_20_b kX5_layPairs_138
      have ga := g3 a ha
      have gb := g3 b (by omega)
      have b9 : gv F a * gv F b ≤ 9 := by
        have : (gv F a * gv F b).natAbs ≤ 9 := by
          rw [Int.natAbs_mul]
          exact Nat.mul_le_mul (show (gv F a).natAbs ≤ 3 by omega) (show (gv F b).natAbs ≤ 3 by omega)
        omega
      have b0 : 0 ≤ gv F a * gv F b := Int.mul_nonneg (by omega) (by omega)
      rw [k1, g1, if_neg (nI_ge (by omega) (by omega))]
      simp only [hv_if_t (show hv_ok (0 : Int32) 2 = true by decide), hv_if_t (show hv_ok (1 : Int32) 2 = true by decide), hv_if_t oa, hv_if_t ob, ca, cb, hv_let_e, show (0 : Int32).toNatClampNeg = 0 from rfl, show (1 : Int32).toNatClampNeg = 1 from rfl, Nat.add_zero, e39, e40, h0 a ha, h0 b (by omega), h1 a ha, h1 b (by omega), iL_mul, iL_sub, e9, x7_quo q.1 q.2 lr l0, hv_b2_e, nI_1]
      have r1 : (hv_sJ σ (41 + a) b (iL (pr a b))).1 = σ₀.1 := k1
      have r2 : (hv_sJ σ (41 + a) b (iL (pr a b))).2 13 6 = σ.2 13 6 := by rw [hv_sJ_ne _ _ _ (by omega)]
      have r3 : (hv_sJ σ (41 + a) b (iL (pr a b))).2 (41 + a) b = iL (pr a b) := by rw [hv_sJ_rd, if_pos rfl]
      simp only [r1, r2, r3, ga.1, gb.1, iI_mul, iI_L (show rI (gv F a * gv F b) from ⟨by omega, by omega⟩), iL_mul]
    rw [head]
    by_cases c : a < b
    · rw [if_neg (nI_ge c (by omega))]
      obtain ⟨τ, t1, t2, t3, t4, t5, t6⟩ := ih (b + 1) fuel (hv_sJ (hv_sJ σ (41 + a) b (iL (pr a b))) 13 6 (σ.2 13 6 + iL (gv F a * gv F b * pr a b * pr a b))) (by omega) (by omega) k1 (fun k h1 h2 => by
        rw [hv_sJ_ne _ _ _ h2, hv_sJ_ne _ _ _ (by omega)]
        exact k2 k h1 h2) (by rw [hv_sJ_rd, if_pos rfl, k3, iL_add, es, if_pos c, Int.add_assoc]) (fun c' hc' => by
        rw [hv_sJ_ne _ _ _ (by omega), hv_sJ_rd]
        by_cases e : c' = b
        · rw [if_pos e, e]
        · rw [if_neg e]
          exact k4 c' (by omega))
      exact ⟨τ, t1, t2, t3, t4, t5, fun k h1 h2 => by rw [t6 k h1 h2, hv_sJ_ne _ _ _ (by omega), hv_sJ_ne _ _ _ h2]⟩
    · rw [if_pos (nI_le (by omega) (by omega))]
      obtain ⟨τ, t1, t2, t3, t4, t5, t6⟩ := ih (b + 1) fuel (hv_sJ σ (41 + a) b (iL (pr a b))) (by omega) (by omega) k1 (fun k h1 h2 => by
        rw [hv_sJ_ne _ _ _ (by omega)]
        exact k2 k h1 h2) (by rw [hv_sJ_ne _ _ _ (by omega), k3, es, if_neg c, Int.add_zero]) (fun c' hc' => by
        rw [hv_sJ_rd]
        by_cases e : c' = b
        · rw [if_pos e, e]
        · rw [if_neg e]
          exact k4 c' (by omega))
      exact ⟨τ, t1, t2, t3, t4, t5, fun k h1 h2 => by rw [t6 k h1 h2, hv_sJ_ne _ _ _ h2]⟩
def w2 (F : Nat → Nat → Int32) (B : Nat) (pr : Nat → Nat → Int) : Int := sumK (fun a => sumK (fun b => if a < b then gv F a * gv F b * pr a b * pr a b else 0) B) B
theorem x5_layPairs {n : Nat} (hn : 20 < n) {F : Nat → Nat → Int32} {B : Nat} {σ₀ : hv_St} (hg : gF F B σ₀) {U0 U1 : Nat → Int} (h0 : ∀ b, b < B → σ₀.2 39 b = iL (U0 b)) (h1 : ∀ b, b < B → σ₀.2 40 b = iL (U1 b)) {l : Int} (hl : σ₀.2 9 8 = iL l) (l0 : l ≠ 0) (lr : rL l) {pr : Nat → Nat → Int} (hpr : ∀ a b, a < B → b < B → U0 a * U1 b - U0 b * U1 a = l * pr a b ∧ rL (U0 a * U1 b - U0 b * U1 a)) : ∃ τ, mX5_layPairs n σ₀ = some τ ∧ τ.1 = σ₀.1 ∧ (∀ k, k < 41 → k ≠ 13 → τ.2 k = σ₀.2 k) ∧ τ.2 13 6 = iL (w2 F B pr) ∧ ∀ a b, a < B → b < B → τ.2 (41 + a) b = iL (pr a b) := by
  have hB := hg.2.1
  have loop : ∀ (d a fuel : Nat) (σ : hv_St), a + d = B → d < fuel → σ.1 = σ₀.1 → (∀ k, k < 41 → k ≠ 13 → σ.2 k = σ₀.2 k) → σ.2 13 6 = iL (sumK (fun a => sumK (fun b => if a < b then gv F a * gv F b * pr a b * pr a b else 0) B) a) → (∀ i b, i < a → b < B → σ.2 (41 + i) b = iL (pr i b)) → ∃ τ, kX5_layPairs_7 n fuel σ (nI a) = some τ ∧ τ.1 = σ₀.1 ∧ (∀ k, k < 41 → k ≠ 13 → τ.2 k = σ₀.2 k) ∧ τ.2 13 6 = iL (w2 F B pr) ∧ ∀ i b, i < B → b < B → τ.2 (41 + i) b = iL (pr i b) := by
    intro d
    induction d with
    | zero =>
      intro a fuel σ ha hf k1 k2 k3 k4
      obtain ⟨fuel, rfl⟩ : ∃ q, fuel = q + 1 := ⟨fuel - 1, by omega⟩
      obtain rfl : a = B := by omega
      refine ⟨σ, ?_, k1, k2, k3, k4⟩
      show kX5_layPairs_7_b n _ _ _ = _
      unfold kX5_layPairs_7_b
      rw [k1, hg.1, if_pos (nI_le (Nat.le_refl _) (by omega))]
    | succ d ih =>
      intro a fuel σ ha hf k1 k2 k3 k4
      obtain ⟨fuel, rfl⟩ : ∃ q, fuel = q + 1 := ⟨fuel - 1, by omega⟩
      obtain ⟨τ1, a1, a2, a3, a4, a5, a6⟩ := x5_pairs_in (n := n) (r7 := kX5_layPairs_7 n fuel) hg h0 h1 hl l0 lr hpr (show a < B by omega) (w := sumK (fun a => sumK (fun b => if a < b then gv F a * gv F b * pr a b * pr a b else 0) B) a) B 0 n σ (by omega) (by omega) k1 k2 (by rw [k3]; show _ = iL (_ + 0); rw [Int.add_zero]) (fun c hc => absurd hc (Nat.not_lt_zero _))
      obtain ⟨τ, t1, t2⟩ := ih (a + 1) fuel τ1 (by omega) (by omega) a2 a3 a4 (fun i b hi hb => by
        by_cases e : i = a
        · rw [e]
          exact a5 b hb
        · rw [a6 (41 + i) (by omega) (by omega)]
          exact k4 i b (by omega) hb)
      refine ⟨τ, ?_, t2⟩
      show kX5_layPairs_7_b n _ _ _ = _
      unfold kX5_layPairs_7_b
      rw [k1, hg.1, if_neg (nI_ge (by omega) (by omega))]
      exact a1.trans t1
  exact loop B 0 n (hv_sJ σ₀ 13 6 0) (by omega) (by omega) rfl (fun k _ h2 => hv_sJ_ne _ _ _ h2) (by rw [hv_sJ_rd, if_pos rfl]; rfl) (fun i b hi => absurd hi (Nat.not_lt_zero _))
/-- overs -/
theorem x5_over1 {n : Nat} (hn : 20 < n) {F : Nat → Nat → Int32} {B : Nat} {σ : hv_St} (hg : gF F B σ) {U V al : Nat → Int} {c : Nat} (hc : c < B) (h0 : ∀ b, b < B → σ.2 39 b = iL (U b)) (hV : ∀ b, b < B → σ.2 14 b = iL (V b)) {l : Int} (hl : σ.2 9 8 = iL l) (l0 : l ≠ 0) (lr : rL l) (hal : ∀ a, a < B → V c * U a - V a * U c = l * al a ∧ rL (V c * U a - V a * U c)) : mX5_overWithOne n σ (nI c) = some (iL (sumK (fun a => gv F a * U a * al a) B), σ) := by
  obtain ⟨g1, g2, g3⟩ := hg
  have loop : ∀ (d a fuel : Nat), a + d = B → d < fuel → kX5_overWithOne_5 n fuel σ (nI c) (iL (sumK (fun a => gv F a * U a * al a) a)) (nI a) = some (iL (sumK (fun a => gv F a * U a * al a) B), σ) := by
    intro d
    induction d with
    | zero =>
      intro a fuel ha hf
      obtain ⟨fuel, rfl⟩ : ∃ q, fuel = q + 1 := ⟨fuel - 1, by omega⟩
      obtain rfl : a = B := by omega
      show kX5_overWithOne_5_b n _ _ _ _ _ = _
      unfold kX5_overWithOne_5_b
      rw [g1, if_pos (nI_le (Nat.le_refl _) (by omega))]
    | succ d ih =>
      intro a fuel ha hf
      obtain ⟨fuel, rfl⟩ : ∃ q, fuel = q + 1 := ⟨fuel - 1, by omega⟩
      have g3a := g3 a (by omega)
      have q := hal a (by omega)
      rw [← ih (a + 1) fuel (by omega) (by omega)]
      show kX5_overWithOne_5_b n _ _ _ _ _ = _
      unfold kX5_overWithOne_5_b
      rw [g1, if_neg (nI_ge (by omega) (by omega))]
      simp only [hv_if_t (show hv_ok (0 : Int32) 2 = true by decide), hv_if_t (hv_ok_nI (show a < 11 by omega) (by decide)), hv_if_t (hv_ok_nI (show c < 11 by omega) (by decide)), nI_clamp (show a < 2 ^ 31 by omega), nI_clamp (show c < 2 ^ 31 by omega), hv_let_e, show (0 : Int32).toNatClampNeg = 0 from rfl, Nat.add_zero, h0 a (by omega), h0 c hc, hV a (by omega), hV c hc, iL_mul, iL_sub, hl, x7_quo q.1 q.2 lr l0, hv_b2_e, g3a.1, iI_L (show rI (gv F a) from ⟨by omega, by omega⟩), iL_add, nI_1]
      rfl
  exact loop B 0 n (by omega) (by omega)
def o2 (F : Nat → Nat → Int32) (B : Nat) (pr al : Nat → Nat → Int) : Int := sumK (fun a => sumK (fun b => if a < b then gv F a * gv F b * pr a b * al a b else 0) B) B
theorem x5_over2 {n : Nat} (hn : 20 < n) {F : Nat → Nat → Int32} {B : Nat} {σ : hv_St} (hg : gF F B σ) {V : Nat → Int} {pr al : Nat → Nat → Int} {c : Nat} (hc : c < B) (h0 : ∀ a b, a < B → b < B → σ.2 (41 + a) b = iL (pr a b)) (hV : ∀ b, b < B → σ.2 14 b = iL (V b)) {l : Int} (hl : σ.2 9 8 = iL l) (l0 : l ≠ 0) (lr : rL l) (hal : ∀ a b, a < b → b < B → V c * pr a b - V a * pr c b + V b * pr c a = l * al a b ∧ rL (V c * pr a b - V a * pr c b + V b * pr c a)) : mX5_overWithTwo n σ (nI c) = some (iL (o2 F B pr al), σ) := by
  obtain ⟨g1, g2, g3⟩ := hg
  have inn : ∀ (a : Nat) (w : Int) (r5 : hv_St → Int32 → Int64 → Int32 → Option (Int64 × hv_St)), a < B → ∀ (d b fuel : Nat), b + d = B → a < b → d < fuel → kX5_overWithTwo_23 n r5 fuel σ (nI c) (iL (w + sumK (fun b => if a < b then gv F a * gv F b * pr a b * al a b else 0) b)) (nI a) (nI b) = r5 σ (nI c) (iL (w + sumK (fun b => if a < b then gv F a * gv F b * pr a b * al a b else 0) B)) (nI (a + 1)) := by
    intro a w r5 ha d
    induction d with
    | zero =>
      intro b fuel hb hab hf
      obtain ⟨fuel, rfl⟩ : ∃ q, fuel = q + 1 := ⟨fuel - 1, by omega⟩
      obtain rfl : b = B := by omega
      show kX5_overWithTwo_23_b n r5 _ _ _ _ _ _ = _
      unfold kX5_overWithTwo_23_b
      rw [g1, if_pos (nI_le (Nat.le_refl _) (by omega)), nI_1]
    | succ d ih =>
      intro b fuel hb hab hf
      obtain ⟨fuel, rfl⟩ : ∃ q, fuel = q + 1 := ⟨fuel - 1, by omega⟩
      have ga := g3 a ha
      have gb := g3 b (by omega)
      have q := hal a b hab (by omega)
      have b9 : gv F a * gv F b ≤ 9 := by
        have : (gv F a * gv F b).natAbs ≤ 9 := by
          rw [Int.natAbs_mul]
          exact Nat.mul_le_mul (show (gv F a).natAbs ≤ 3 by omega) (show (gv F b).natAbs ≤ 3 by omega)
        omega
      have b0 : 0 ≤ gv F a * gv F b := Int.mul_nonneg (by omega) (by omega)
      rw [← ih (b + 1) fuel (by omega) (by omega) (by omega)]
      show kX5_overWithTwo_23_b n r5 _ _ _ _ _ _ = _
      unfold kX5_overWithTwo_23_b
      rw [g1, if_neg (nI_ge (by omega) (by omega))]
      simp only [hv_if_t (hv_ok_nI (show a < 11 by omega) (by decide)), hv_if_t (hv_ok_nI (show b < 11 by omega) (by decide)), hv_if_t (hv_ok_nI (show c < 11 by omega) (by decide)), nI_clamp (show a < 2 ^ 31 by omega), nI_clamp (show b < 2 ^ 31 by omega), nI_clamp (show c < 2 ^ 31 by omega), hv_let_e, h0 a b ha (by omega), h0 c b hc (by omega), h0 c a hc ha, hV a ha, hV b (by omega), hV c hc, iL_mul, iL_sub, iL_add, hl, x7_quo q.1 q.2 lr l0, hv_b2_e, ga.1, gb.1, iI_mul, iI_L (show rI (gv F a * gv F b) from ⟨by omega, by omega⟩), nI_1]
      have es : sumK (fun b => if a < b then gv F a * gv F b * pr a b * al a b else 0) (b + 1) = sumK (fun b => if a < b then gv F a * gv F b * pr a b * al a b else 0) b + (if a < b then gv F a * gv F b * pr a b * al a b else 0) := rfl
      rw [es, if_pos hab, Int.add_assoc]
  have loop : ∀ (d a fuel : Nat), a + d = B → d < fuel → kX5_overWithTwo_5 n fuel σ (nI c) (iL (sumK (fun a => sumK (fun b => if a < b then gv F a * gv F b * pr a b * al a b else 0) B) a)) (nI a) = some (iL (o2 F B pr al), σ) := by
    intro d
    induction d with
    | zero =>
      intro a fuel ha hf
      obtain ⟨fuel, rfl⟩ : ∃ q, fuel = q + 1 := ⟨fuel - 1, by omega⟩
      obtain rfl : a = B := by omega
      show kX5_overWithTwo_5_b n _ _ _ _ _ = _
      unfold kX5_overWithTwo_5_b
      rw [g1, if_pos (nI_le (Nat.le_refl _) (by omega))]
      rfl
    | succ d ih =>
      intro a fuel ha hf
      obtain ⟨fuel, rfl⟩ : ∃ q, fuel = q + 1 := ⟨fuel - 1, by omega⟩
      have z : sumK (fun b => if a < b then gv F a * gv F b * pr a b * al a b else 0) (a + 1) = 0 := sumK_zero _ (fun i hi => by
        show (if a < i then _ else (0 : Int)) = 0
        rw [if_neg (by omega)])
      have i := inn a (sumK (fun a => sumK (fun b => if a < b then gv F a * gv F b * pr a b * al a b else 0) B) a) (kX5_overWithTwo_5 n fuel) (by omega) (B - (a + 1)) (a + 1) n (by omega) (by omega) (by omega)
      rw [z, Int.add_zero] at i
      rw [← ih (a + 1) fuel (by omega) (by omega)]
      show kX5_overWithTwo_5_b n _ _ _ _ _ = _
      unfold kX5_overWithTwo_5_b
      rw [g1, if_neg (nI_ge (by omega) (by omega)), hv_let_e, nI_1]
      exact i
  exact loop B 0 n (by omega) (by omega)
