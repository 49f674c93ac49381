/-! the class's table: a bar taken -/
theorem set_add {B s b : Nat} (hB : B ≤ 11) (hs : s < 2 ^ B) (hb : b < B) : nI s ||| ((1 : Int32) <<< (nI b &&& 31)) = nI (s ||| 2 ^ b) ∧ s ||| 2 ^ b < 2 ^ B ∧ ∀ j, (s ||| 2 ^ b).testBit j = true ↔ s.testBit j = true ∨ j = b := by
  refine ⟨?_, Nat.or_lt_two_pow hs (Nat.pow_lt_pow_right (by decide) hb), fun j => ?_⟩
  · rw [nI_shl (by omega), nI_or]
  · rw [Nat.testBit_or, Nat.testBit_two_pow, Bool.or_eq_true, decide_eq_true_iff]
    exact or_congr Iff.rfl ⟨fun h => h.symm, fun h => h.symm⟩
def tX (F : Nat → Nat → Int32) (P B : Nat) (σ : hv_St) (acc : List Nat) (A : Nat → md_V) (e : Int) : Prop :=
  (e = 1 ∨ e = -1) ∧ md_dt (List.range (fL F (2 * P)).length) A (fL F (2 * P)).length ≠ 0 ∧ fXs F P B A ∧ acc.length ≤ (fL F (2 * P)).length ∧ (∀ j, j < acc.length → A j = fCol F P (acc.getD j 0) ∧ acc.getD j 0 < B ∧ σ.1 12 j = nI (acc.getD j 0)) ∧ σ.1 9 4 = nI (fL F (2 * P)).length ∧ σ.1 9 5 = nI acc.length ∧ σ.2 9 8 = iL (e * md_dt (List.range (fL F (2 * P)).length) A (fL F (2 * P)).length) ∧ ∀ r c, r < (fL F (2 * P)).length → c < B + (fL F (2 * P)).length → σ.2 (27 + r) c = iL (e * md_T (List.range (fL F (2 * P)).length) (fL F (2 * P)).length A (fXc F P B c) r)
def sX (B : Nat) (σ : hv_St) (acc : List Nat) (pr : Nat → Prop) : Prop := ∃ Eb Es, σ.1 9 6 = nI Eb ∧ Eb < 2 ^ B ∧ (∀ b, Eb.testBit b = true ↔ b ∈ acc) ∧ σ.1 9 7 = nI Es ∧ Es < 2 ^ B ∧ ∀ b, Es.testBit b = true ↔ pr b ∧ b ∉ acc
def fA9 (k : Nat) : Prop := k = 9 ∨ k = 12
def fB9 (k : Nat) : Prop := k = 9 ∨ (27 ≤ k ∧ k ≤ 38)
theorem pm_rL {e z : Int} (he : e = 1 ∨ e = -1) (hz : z.natAbs ≤ 2 ^ 28) : rL (e * z) := rL_of (by rw [natAbs_pm he]; exact Nat.le_trans hz (by decide))
theorem pm_ne {e z : Int} (he : e = 1 ∨ e = -1) (hz : z ≠ 0) : e * z ≠ 0 := by
  rcases he with rfl | rfl <;> omega
theorem tX_bd {F : Nat → Nat → Int32} {P B O D W : Nat} (hi : hI F P B O D W) {A : Nat → md_V} (h : fXs F P B A) {c r : Nat} (hc : c < B + (fL F (2 * P)).length) : (md_T (List.range (fL F (2 * P)).length) (fL F (2 * P)).length A (fXc F P B c) r).natAbs ≤ 2 ^ 28 := fXs_bd28 hi (fXs_up h hc r)
theorem tX_tb {F : Nat → Nat → Int32} {P B : Nat} {σ : hv_St} {acc : List Nat} {A : Nat → md_V} {e : Int} (h : tX F P B σ acc A e) : md_tb (List.range (fL F (2 * P)).length) (fL F (2 * P)).length (fCol F P) A (fun j => j) acc := by
  obtain ⟨h1, h2, h3, h4, h5, -⟩ := h
  exact ⟨h2, fun j hj => ⟨Nat.lt_of_lt_of_le hj h4, (h5 j hj).1⟩, fun i j _ _ e => e⟩
theorem fXc_bar {F : Nat → Nat → Int32} {P B b : Nat} (h : b < B) : fXc F P B b = fCol F P b := if_pos h
theorem x0_take_5 {n : Nat} {F : Nat → Nat → Int32} {P B O D W : Nat} (hi : hI F P B O D W) {σ : hv_St} {acc : List Nat} {A : Nat → md_V} {e : Int} (h : tX F P B σ acc A e) {b : Nat} (hb : b < B) : ∀ (d r fuel : Nat), r + d = (fL F (2 * P)).length → d < fuel → ∃ r', r ≤ r' ∧ r' ≤ (fL F (2 * P)).length ∧ kX0_take_5 n fuel σ (nI b) (nI r) = kX0_take_32 n σ (nI b) (nI r') ∧ (∀ i, r ≤ i → i < r' → md_T (List.range (fL F (2 * P)).length) (fL F (2 * P)).length A (fCol F P b) i = 0) ∧ (r' < (fL F (2 * P)).length → md_T (List.range (fL F (2 * P)).length) (fL F (2 * P)).length A (fCol F P b) r' ≠ 0) := by
  obtain ⟨h1, h2, h3, h4, h5, h6, h7, h8, h9⟩ := h
  have hP := hi.1.2
  have hB := hi.2.1.2
  have hl := fL_le F (2 * P)
  intro d
  induction d with
  | zero =>
    intro r fuel hr hf
    obtain ⟨fuel, rfl⟩ : ∃ q, fuel = q + 1 := ⟨fuel - 1, by omega⟩
    refine ⟨r, Nat.le_refl _, by omega, ?_, fun i i1 i2 => by omega, fun q => by omega⟩
    show kX0_take_5_b n _ _ _ _ = _
    unfold kX0_take_5_b
    rw [h6, if_pos (nI_le (by omega) (by omega))]
  | succ d ih =>
    intro r fuel hr hf
    obtain ⟨fuel, rfl⟩ : ∃ q, fuel = q + 1 := ⟨fuel - 1, by omega⟩
    have hv := h9 r b (by omega) (by omega)
    rw [fXc_bar hb] at hv
    have bd : (md_T (List.range (fL F (2 * P)).length) (fL F (2 * P)).length A (fCol F P b) r).natAbs ≤ 2 ^ 28 := by
      have := tX_bd hi h3 (c := b) (r := r) (by omega)
      rw [fXc_bar hb] at this
      exact this
    have hz : lg_cmp (σ.2 (27 + r) b) (0 : Int64) = 0 ↔ md_T (List.range (fL F (2 * P)).length) (fL F (2 * P)).length A (fCol F P b) r = 0 := by
      rw [lg_cmp0, hv, show (0 : Int64) = iL 0 from rfl, iL_eq (pm_rL h1 bd) ⟨by decide, by decide⟩]
      rcases h1 with rfl | rfl <;> omega
    have es : kX0_take_5 n (fuel + 1) σ (nI b) (nI r) = if lg_cmp (σ.2 (27 + r) b) (0 : Int64) = 0 then kX0_take_5 n fuel σ (nI b) (nI (r + 1)) else kX0_take_32 n σ (nI b) (nI r) := by
      show kX0_take_5_b n _ _ _ _ = _
      unfold kX0_take_5_b
      rw [h6, if_neg (nI_ge (by omega) (by omega)), hv_if_t (hv_ok_nI (show r < 12 by omega) (by decide)), hv_if_t (hv_ok_nI (show b < 23 by omega) (by decide)), nI_clamp (by omega), nI_clamp (by omega), nI_1]
    rw [es]
    by_cases q : lg_cmp (σ.2 (27 + r) b) (0 : Int64) = 0
    · rw [if_pos q]
      obtain ⟨r', a1, a2, a3, a4, a5⟩ := ih (r + 1) fuel (by omega) (by omega)
      refine ⟨r', by omega, a2, a3, fun i i1 i2 => ?_, a5⟩
      by_cases ei : i = r
      · rw [ei]
        exact hz.mp q
      · exact a4 i (by omega) i2
    · rw [if_neg q]
      exact ⟨r, Nat.le_refl _, by omega, rfl, fun i i1 i2 => by omega, fun _ h0 => q (hz.mpr h0)⟩
theorem x0_take {n : Nat} (hn : 30 < n) {F : Nat → Nat → Int32} {P B O D W : Nat} (hi : hI F P B O D W) {σ : hv_St} (hx : rX F σ) {acc : List Nat} {A : Nat → md_V} {e : Int} (h : tX F P B σ acc A e) {pr : Nat → Prop} (hs : sX B σ acc pr) {b : Nat} (hb : b < B) (hba : b ∉ acc) (hpb : ¬ pr b) : ∃ τ A' e', mX0_take n σ (nI b) = some τ ∧ fr fA9 fB9 σ τ ∧ tX F P B τ (md_gr (List.range (fL F (2 * P)).length) (fCol F P) acc [b]) A' e' ∧ sX B τ (md_gr (List.range (fL F (2 * P)).length) (fCol F P) acc [b]) (fun j => pr j ∨ j = b) := by
  have hP := hi.1.2
  have hB := hi.2.1.2
  have hl := fL_le F (2 * P)
  have hbX : σ.1 1 1 = nI B := hx.1.2.1.trans hi.2.1.1
  have htb := tX_tb h
  have h' := h
  obtain ⟨h1, h2, h3, h4, h5, h6, h7, h8, h9⟩ := h
  obtain ⟨Eb, Es, s1, s2, s3, s4, s5, s6⟩ := hs
  obtain ⟨r, a1, a2, a3, a4, a5⟩ := x0_take_5 (n := n) hi h' hb ((fL F (2 * P)).length - acc.length) acc.length n (by omega) (by omega)
  have et : mX0_take n σ (nI b) = kX0_take_32 n σ (nI b) (nI r) := by
    unfold mX0_take
    rw [hv_let_e, h7]
    exact a3
  rw [et]
  by_cases hr : r = (fL F (2 * P)).length
  · have hin : md_in (List.range (fL F (2 * P)).length) (md_cs (fCol F P) acc) (fCol F P b) := (md_tb_in htb _).mpr (fun k hk hp => a4 k (Nat.le_of_not_lt fun q => hp k q rfl) (by omega))
    have eg : md_gr (List.range (fL F (2 * P)).length) (fCol F P) acc [b] = acc := md_gr_old hin
    rw [eg]
    obtain ⟨c1, c2, c3⟩ := set_add hB s5 hb
    refine ⟨hv_sI σ 9 7 (nI (Es ||| 2 ^ b)), A, e, ?_, fr_I (Or.inl rfl) _ _, ⟨h1, h2, h3, h4, fun j hj => ?_, ?_, ?_, h8, h9⟩, Eb, Es ||| 2 ^ b, ?_, s2, s3, ?_, c2, fun j => ?_⟩
    · unfold kX0_take_32
      rw [h6, if_pos (by rw [hr]), hv_let_e, s4, c1]
    · rw [hv_sI_ne _ _ _ (by decide)]
      exact h5 j hj
    · rw [hv_sI_rd, if_neg (by decide)]
      exact h6
    · rw [hv_sI_rd, if_neg (by decide)]
      exact h7
    · rw [hv_sI_rd, if_neg (by decide)]
      exact s1
    · rw [hv_sI_rd, if_pos rfl]
    · rw [c3 j, s6 j]
      constructor
      · rintro (⟨q1, q2⟩ | rfl)
        · exact ⟨Or.inl q1, q2⟩
        · exact ⟨Or.inr rfl, hba⟩
      · rintro ⟨q1 | rfl, q2⟩
        · exact Or.inl ⟨q1, q2⟩
        · exact Or.inr rfl
  · have hrN : r < (fL F (2 * P)).length := by omega
    have hTr := a5 hrN
    have hnin : ¬ md_in (List.range (fL F (2 * P)).length) (md_cs (fCol F P) acc) (fCol F P b) := (md_tb_new htb _).mpr ⟨r, hrN, fun j hj => by show j ≠ r; omega, hTr⟩
    have eg : md_gr (List.range (fL F (2 * P)).length) (fCol F P) acc [b] = acc ++ [b] := md_gr_new hnin
    rw [eg]
    have hlt : acc.length < (fL F (2 * P)).length := by omega
    obtain ⟨τ1, w1, w2, w3, w4⟩ := x0_swap (n := n) (p := r) (q := acc.length) hn hbX h6 (by omega) (by omega) (by omega)
    -- the basis behind the swap
    obtain ⟨A1, e1, b1, b2, b3, b4, b5, b6, b7⟩ : ∃ A1 e1, (e1 = 1 ∨ e1 = -1) ∧ md_dt (List.range (fL F (2 * P)).length) A1 (fL F (2 * P)).length ≠ 0 ∧ fXs F P B A1 ∧ (∀ j, j < acc.length → A1 j = A j) ∧ e1 * md_dt (List.range (fL F (2 * P)).length) A1 (fL F (2 * P)).length = e * md_dt (List.range (fL F (2 * P)).length) A (fL F (2 * P)).length ∧ md_T (List.range (fL F (2 * P)).length) (fL F (2 * P)).length A1 (fCol F P b) acc.length ≠ 0 ∧ ∀ k c, k < (fL F (2 * P)).length → c < B + (fL F (2 * P)).length → τ1.2 (27 + k) c = iL (e1 * md_T (List.range (fL F (2 * P)).length) (fL F (2 * P)).length A1 (fXc F P B c) k) := by
      by_cases er : r = acc.length
      · refine ⟨A, e, h1, h2, h3, fun _ _ => rfl, rfl, by rw [← er]; exact hTr, fun k c hk hc => ?_⟩
        rw [w4 k c hc]
        by_cases ek : k = r
        · rw [if_pos ek, ek, er, h9 _ c hlt hc]
        · rw [if_neg ek, if_neg (by omega), h9 k c hk hc]
      · refine ⟨md_sw A r acc.length, -e, by omega, ?_, fXs_sw h3 hrN hlt, fun j hj => ?_, ?_, ?_, fun k c hk hc => ?_⟩
        · rw [md_sw_dt A er hrN hlt]
          omega
        · unfold md_sw
          rw [md_up_ne _ _ (by omega), md_up_ne _ _ (by omega)]
        · rw [md_sw_dt A er hrN hlt, Int.neg_mul_neg]
        · rw [md_sw_q A er hrN hlt]
          omega
        · rw [w4 k c hc]
          by_cases ek : k = r
          · rw [if_pos ek, ek, md_sw_p A er hrN hlt, Int.neg_mul_neg, h9 _ c hlt hc]
          · rw [if_neg ek]
            by_cases ek2 : k = acc.length
            · rw [if_pos ek2, ek2, md_sw_q A er hrN hlt, Int.neg_mul_neg, h9 _ c hrN hc]
            · rw [if_neg ek2, md_sw_k A er ek ek2 hrN hlt, Int.neg_mul_neg, h9 k c hk hc]
    have eb : fXc F P B b = fCol F P b := fXc_bar hb
    have h8' : τ1.2 9 8 = iL (e1 * md_dt (List.range (fL F (2 * P)).length) A1 (fL F (2 * P)).length) := by
      rw [w3 9 (by decide), b5]
      exact h8
    have hee : e1 * e1 = 1 := pm1 b1
    obtain ⟨τ2, v1, v2, v3, v4⟩ := x0_clear (n := n) (σ := τ1) (B := B) (N := (fL F (2 * P)).length) (y := acc.length) (b := b) hn (by rw [w2]; exact hbX) (by rw [w2]; exact h6) (by omega) hlt hb
      (l := e1 * md_dt (List.range (fL F (2 * P)).length) A1 (fL F (2 * P)).length)
      (M := fun k c => e1 * md_T (List.range (fL F (2 * P)).length) (fL F (2 * P)).length A1 (fXc F P B c) k)
      (Q := fun k c => e1 * md_T (List.range (fL F (2 * P)).length) (fL F (2 * P)).length (md_up A1 acc.length (fXc F P B b)) (fXc F P B c) k)
      (pm_ne b1 b2) (pm_rL b1 (fXs_bd28 hi b3)) h8' (fun k c hk hky hc => by
        have q := md_pv (R := List.range (fL F (2 * P)).length) A1 (r := acc.length) (k := k) hky hlt hk (fXc F P B b) (fXc F P B c)
        grind) (fun k c hk hky hc => rL_mm (by rw [natAbs_pm b1]; exact Nat.le_trans (tX_bd hi b3 (by omega)) (by decide)) (by rw [natAbs_pm b1]; exact Nat.le_trans (tX_bd hi b3 hc) (by decide)) (by rw [natAbs_pm b1]; exact Nat.le_trans (tX_bd hi b3 (by omega)) (by decide)) (by rw [natAbs_pm b1]; exact Nat.le_trans (tX_bd hi b3 hc) (by decide))) b7
    obtain ⟨c1, c2, c3⟩ := set_add hB s2 hb
    have m9 : ∀ j, τ2.1 9 j = σ.1 9 j := fun j => by rw [v2, w2]
    refine ⟨hv_sI (hv_sI (hv_sI (hv_sJ τ2 9 8 (iL (e1 * md_T (List.range (fL F (2 * P)).length) (fL F (2 * P)).length A1 (fXc F P B b) acc.length))) 12 acc.length (nI b)) 9 6 (nI (Eb ||| 2 ^ b))) 9 5 (nI (acc.length + 1)), md_up A1 acc.length (fXc F P B b), e1, ?_, ?_, ⟨b1, ?_, fXs_up b3 (by omega) _, ?_, fun j hj => ?_, ?_, ?_, ?_, fun k c hk hc => ?_⟩, Eb ||| 2 ^ b, Es, ?_, c2, fun j => ?_, ?_, s5, fun j => ?_⟩
    · unfold kX0_take_32
      rw [h6, if_neg (fun q => hr ((nI_eq (by omega) (by omega)).mp q)), h7, w1, hv_bd_e, w2, h7, v1, hv_bd_e]
      have m5 : (hv_sJ τ2 9 8 (iL (e1 * md_T (List.range (fL F (2 * P)).length) (fL F (2 * P)).length A1 (fXc F P B b) acc.length))).1 9 5 = nI acc.length := (m9 5).trans h7
      have m6 : (hv_sJ τ2 9 8 (iL (e1 * md_T (List.range (fL F (2 * P)).length) (fL F (2 * P)).length A1 (fXc F P B b) acc.length))).1 9 6 = nI Eb := (m9 6).trans s1
      rw [m5, hv_if_t (hv_ok_nI (show acc.length < 12 by omega) (by decide)), nI_clamp (by omega), hv_let_e, hv_sI_ne _ _ _ (show 9 ≠ 12 by decide), m6, c1, hv_let_e, hv_sI_rd, if_neg (show ¬ (5 : Nat) = 6 by decide), hv_sI_ne _ _ _ (show 9 ≠ 12 by decide), m5, nI_1, hv_let_e]
    · refine ⟨fun k hk => ?_, fun k hk => ?_⟩
      · rw [hv_sI_ne _ _ _ (fun q => hk (Or.inl q)), hv_sI_ne _ _ _ (fun q => hk (Or.inl q)), hv_sI_ne _ _ _ (fun q => hk (Or.inr q))]
        show τ2.1 k = _
        rw [v2, w2]
      · show (hv_sJ τ2 9 8 _).2 k = _
        have k9 : ¬ k = 9 := fun q => hk (Or.inl q)
        have k2 : k < 27 ∨ 39 ≤ k := by
          have : ¬ (27 ≤ k ∧ k ≤ 38) := fun q => hk (Or.inr q)
          omega
        rw [hv_sJ_ne _ _ _ k9, v3 k k2, w3 k k2]
    · rw [eb]
      exact b6
    · rw [List.length_append, List.length_singleton]
      omega
    · rw [List.length_append, List.length_singleton] at hj
      rw [hv_sI_ne _ _ _ (by decide), hv_sI_ne _ _ _ (by decide), hv_sI_rd]
      by_cases ej : j = acc.length
      · rw [ej, md_up_at, getD_app_at, eb, if_pos rfl]
        exact ⟨rfl, hb, rfl⟩
      · rw [md_up_ne _ _ ej, getD_app_lt (by omega), if_neg ej, b4 j (by omega)]
        have q := h5 j (by omega)
        refine ⟨q.1, q.2.1, ?_⟩
        show τ2.1 12 j = _
        rw [v2, w2]
        exact q.2.2
    · rw [hv_sI_rd, if_neg (by decide), hv_sI_rd, if_neg (by decide), hv_sI_ne _ _ _ (by decide)]
      exact (m9 4).trans h6
    · rw [hv_sI_rd, if_pos rfl, List.length_append]
      rfl
    · show (hv_sJ τ2 9 8 _).2 9 8 = _
      rw [hv_sJ_rd, if_pos rfl]
      rfl
    · show (hv_sJ τ2 9 8 _).2 (27 + k) c = _
      rw [hv_sJ_ne _ _ _ (by omega), v4 k c hk hc]
      by_cases ek : k = acc.length
      · rw [if_neg (fun q => q ek), ek, md_pv_r]
      · rw [if_pos ek]
    · rw [hv_sI_rd, if_neg (by decide), hv_sI_rd, if_pos rfl]
    · rw [c3 j, s3 j, List.mem_append, List.mem_singleton]
    · rw [hv_sI_rd, if_neg (by decide), hv_sI_rd, if_neg (by decide), hv_sI_ne _ _ _ (by decide)]
      exact (m9 7).trans s4
    · rw [s6 j, List.mem_append, List.mem_singleton]
      constructor
      · rintro ⟨q1, q2⟩
        refine ⟨Or.inl q1, fun q3 => ?_⟩
        rcases q3 with q3 | q3
        · exact q2 q3
        · exact absurd q1 (by rw [q3]; exact hpb)
      · rintro ⟨q1 | q1, q2⟩
        · exact ⟨q1, fun q => q2 (Or.inl q)⟩
        · exact absurd (Or.inr q1) q2
