/-! the class's table: settled -/
def fBl (S B : Nat) : List Nat := (List.range B).filter (fun j => S.testBit j)
abbrev fR (F : Nat → Nat → Int32) (P : Nat) : List Nat := List.range (fL F (2 * P)).length
abbrev fN' (F : Nat → Nat → Int32) (P : Nat) : Nat := (fL F (2 * P)).length
noncomputable def fBase (F : Nat → Nat → Int32) (P : Nat) (L : List Nat) : List Nat := md_gr (fR F P) (fCol F P) [] L
theorem sX_congr {B : Nat} {σ : hv_St} {acc : List Nat} {p q : Nat → Prop} (h : sX B σ acc p) (e : ∀ j, p j ↔ q j) : sX B σ acc q := by
  obtain ⟨Eb, Es, s1, s2, s3, s4, s5, s6⟩ := h
  exact ⟨Eb, Es, s1, s2, s3, s4, s5, fun b => (s6 b).trans (and_congr (e b) Iff.rfl)⟩
theorem rX9 {F : Nat → Nat → Int32} {σ τ : hv_St} (h : rX F σ) (q : fr fA9 fB9 σ τ) : rX F τ := rX_fr h q (fun k hk => by rcases hk with rfl | rfl <;> omega)
theorem x0_extend_loop {n : Nat} (hn : 30 < n) {F : Nat → Nat → Int32} {P B O D W : Nat} (hi : hI F P B O D W) {S : Nat} (hS : S < 2 ^ 31) : ∀ (d k fuel : Nat) (σ : hv_St) (acc : List Nat) (A : Nat → md_V) (e : Int) (pr : Nat → Prop), k + d = B → d < fuel → rX F σ → tX F P B σ acc A e → sX B σ acc pr → (∀ j, k ≤ j → S.testBit j = true → j ∉ acc ∧ ¬ pr j) → ∃ τ A' e', kX0_extend_2 n fuel σ (nI S) (nI k) = some τ ∧ fr fA9 fB9 σ τ ∧ tX F P B τ (md_gr (fR F P) (fCol F P) acc ((List.range' k d).filter (fun j => S.testBit j))) A' e' ∧ sX B τ (md_gr (fR F P) (fCol F P) acc ((List.range' k d).filter (fun j => S.testBit j))) (fun j => pr j ∨ (k ≤ j ∧ j < B ∧ S.testBit j = true)) := by
  have hB := hi.2.1.2
  intro d
  induction d with
  | zero =>
    intro k fuel σ acc A e pr hk hf hx ht hs _
    obtain ⟨fuel, rfl⟩ : ∃ q, fuel = q + 1 := ⟨fuel - 1, by omega⟩
    have hbX : σ.1 1 1 = nI B := hx.1.2.1.trans hi.2.1.1
    refine ⟨σ, A, e, ?_, fr_rfl, ht, sX_congr hs (fun j => ⟨Or.inl, fun q => ?_⟩)⟩
    · show kX0_extend_2_b n _ _ _ _ = _
      unfold kX0_extend_2_b
      rw [hbX, if_pos (nI_le (by omega) (by omega))]
    · rcases q with q | q
      · exact q
      · omega
  | succ d ih =>
    intro k fuel σ acc A e pr hk hf hx ht hs hq
    obtain ⟨fuel, rfl⟩ : ∃ q, fuel = q + 1 := ⟨fuel - 1, by omega⟩
    have hbX : σ.1 1 1 = nI B := hx.1.2.1.trans hi.2.1.1
    have hb := fB_iff hS (show k < 31 by omega)
    by_cases h : S.testBit k = true
    · obtain ⟨τ1, A1, e1, c1, c2, c3, c4⟩ := x0_take hn hi hx ht hs (show k < B by omega) (hq k (Nat.le_refl _) h).1 (hq k (Nat.le_refl _) h).2
      obtain ⟨τ, A', e', t1, t2, t3, t4⟩ := ih (k + 1) fuel τ1 _ A1 e1 _ (by omega) (by omega) (rX9 hx c2) c3 c4 (fun j hj hjS => by
        have q := hq j (by omega) hjS
        refine ⟨fun hm => ?_, fun hp => ?_⟩
        · rcases md_gr_mem hm with hm | hm
          · exact q.1 hm
          · have := List.mem_singleton.mp hm
            omega
        · rcases hp with hp | hp
          · exact q.2 hp
          · omega)
      have el : (List.range' k (d + 1)).filter (fun j => S.testBit j) = [k] ++ (List.range' (k + 1) d).filter (fun j => S.testBit j) := by
        rw [List.range'_succ, List.filter_cons_of_pos h]
        rfl
      refine ⟨τ, A', e', ?_, fr_tr c2 t2, ?_, ?_⟩
      · show kX0_extend_2_b n _ _ _ _ = _
        unfold kX0_extend_2_b kX0_extend_26
        rw [hbX, if_neg (nI_ge (by omega) (by omega)), (x7_has _ _).1 (hb.mpr h), hv_b2_e, if_neg (by decide), c1, hv_bd_e, nI_1]
        exact t1
      · rw [el, md_gr_app]
        exact t3
      · rw [el, md_gr_app]
        refine sX_congr t4 (fun j => ?_)
        constructor
        · rintro ((q | rfl) | q)
          · exact Or.inl q
          · exact Or.inr ⟨Nat.le_refl _, by omega, h⟩
          · exact Or.inr ⟨by omega, q.2⟩
        · rintro (q | q)
          · exact Or.inl (Or.inl q)
          · by_cases ej : j = k
            · exact Or.inl (Or.inr ej)
            · exact Or.inr ⟨by omega, q.2⟩
    · obtain ⟨τ, A', e', t1, t2, t3, t4⟩ := ih (k + 1) fuel σ acc A e pr (by omega) (by omega) hx ht hs (fun j hj hjS => hq j (by omega) hjS)
      have el : (List.range' k (d + 1)).filter (fun j => S.testBit j) = (List.range' (k + 1) d).filter (fun j => S.testBit j) := by
        rw [List.range'_succ, List.filter_cons_of_neg h]
      refine ⟨τ, A', e', ?_, t2, ?_, ?_⟩
      · show kX0_extend_2_b n _ _ _ _ = _
        unfold kX0_extend_2_b kX0_extend_26
        rw [hbX, if_neg (nI_ge (by omega) (by omega)), (x7_has _ _).2 (fun q => h (hb.mp q)), hv_b2_e, if_pos rfl, nI_1]
        exact t1
      · rw [el]
        exact t3
      · rw [el]
        refine sX_congr t4 (fun j => ?_)
        constructor
        · rintro (q | q)
          · exact Or.inl q
          · exact Or.inr ⟨by omega, q.2⟩
        · rintro (q | q)
          · exact Or.inl q
          · by_cases ej : j = k
            · exact absurd (ej ▸ q.2.2) h
            · exact Or.inr ⟨by omega, q.2⟩
theorem x0_extend {n : Nat} (hn : 30 < n) {F : Nat → Nat → Int32} {P B O D W : Nat} (hi : hI F P B O D W) {S : Nat} (hS : S < 2 ^ 31) {σ : hv_St} {acc : List Nat} {A : Nat → md_V} {e : Int} {pr : Nat → Prop} (hx : rX F σ) (ht : tX F P B σ acc A e) (hs : sX B σ acc pr) (hq : ∀ j, S.testBit j = true → j ∉ acc ∧ ¬ pr j) : ∃ τ A' e', mX0_extend n σ (nI S) = some τ ∧ fr fA9 fB9 σ τ ∧ tX F P B τ (md_gr (fR F P) (fCol F P) acc (fBl S B)) A' e' ∧ sX B τ (md_gr (fR F P) (fCol F P) acc (fBl S B)) (fun j => pr j ∨ (j < B ∧ S.testBit j = true)) := by
  have hB := hi.2.1.2
  obtain ⟨τ, A', e', t1, t2, t3, t4⟩ := x0_extend_loop hn hi hS B 0 n σ acc A e pr (by omega) (by omega) hx ht hs (fun j _ h => hq j h)
  rw [← List.range_eq_range'] at t3 t4
  exact ⟨τ, A', e', t1, t2, t3, sX_congr t4 (fun j => or_congr Iff.rfl ⟨fun q => q.2, fun q => ⟨Nat.zero_le _, q⟩⟩)⟩
def fA11 (k : Nat) : Prop := k = 9 ∨ k = 11 ∨ k = 12
theorem x0_settle_loop {n : Nat} (hn : 30 < n) {F : Nat → Nat → Int32} {P B O D W : Nat} (hi : hI F P B O D W) {S : Nat} (hS : S < 2 ^ 31) : ∀ (d r fuel : Nat) (σ : hv_St), r + d = fN' F P → d < fuel → rX F σ → σ.1 9 4 = nI (fN' F P) → (∀ j, j < fN' F P → σ.1 11 j = nI ((fL F (2 * P)).getD j 0)) → (∀ i c, i < r → c < B + fN' F P → σ.2 (27 + i) c = iL (fXc F P B c i)) → ∃ τ A e, kX0_settle_6 n fuel σ (nI S) (nI r) = some τ ∧ fr fA9 fB9 σ τ ∧ tX F P B τ (fBase F P (fBl S B)) A e ∧ sX B τ (fBase F P (fBl S B)) (fun j => j < B ∧ S.testBit j = true) := by
  have hP := hi.1.2
  have hB := hi.2.1.2
  have hl : fN' F P ≤ 2 * P := fL_le F (2 * P)
  intro d
  induction d with
  | zero =>
    intro r fuel σ hr hf hx h1 h2 h3
    obtain ⟨fuel, rfl⟩ : ∃ q, fuel = q + 1 := ⟨fuel - 1, by omega⟩
    let σ' := hv_sJ (hv_sI (hv_sI (hv_sI σ 9 5 0) 9 6 0) 9 7 0) 9 8 1
    have hf' : fr fA9 fB9 σ σ' := fr_J' (fr_I' (fr_I' (fr_I (Or.inl rfl) _ _) (Or.inl rfl) _ _) (Or.inl rfl) _ _) (Or.inl rfl) _ _
    have e4 : σ'.1 9 4 = nI (fN' F P) := by
      show (hv_sI (hv_sI (hv_sI σ 9 5 0) 9 6 0) 9 7 0).1 9 4 = _
      rw [hv_sI_rd, if_neg (by decide), hv_sI_rd, if_neg (by decide), hv_sI_rd, if_neg (by decide)]
      exact h1
    have e5 : σ'.1 9 5 = nI 0 := by
      show (hv_sI (hv_sI (hv_sI σ 9 5 0) 9 6 0) 9 7 0).1 9 5 = _
      rw [hv_sI_rd, if_neg (by decide), hv_sI_rd, if_neg (by decide), hv_sI_rd, if_pos rfl]
      rfl
    have e6 : σ'.1 9 6 = nI 0 := by
      show (hv_sI (hv_sI (hv_sI σ 9 5 0) 9 6 0) 9 7 0).1 9 6 = _
      rw [hv_sI_rd, if_neg (by decide), hv_sI_rd, if_pos rfl]
      rfl
    have e7 : σ'.1 9 7 = nI 0 := by
      show (hv_sI (hv_sI (hv_sI σ 9 5 0) 9 6 0) 9 7 0).1 9 7 = _
      rw [hv_sI_rd, if_pos rfl]
      rfl
    have ht : tX F P B σ' [] md_e 1 := by
      refine ⟨Or.inl rfl, by rw [md_dt_e]; decide, fun k hk => ⟨B + k, by omega, ?_⟩, Nat.zero_le _, fun j hj => absurd hj (Nat.not_lt_zero _), e4, e5, ?_, fun i c hi' hc => ?_⟩
      · unfold fXc
        rw [if_neg (by omega), Nat.add_sub_cancel_left]
      · rw [md_dt_e]
        show (hv_sJ _ 9 8 1).2 9 8 = _
        rw [hv_sJ_rd, if_pos rfl]
        rfl
      · show (hv_sJ _ 9 8 1).2 (27 + i) c = _
        rw [hv_sJ_ne _ _ _ (by omega)]
        show σ.2 (27 + i) c = _
        have eN : fN' F P = (fL F (2 * P)).length := rfl
        rw [h3 i c (by omega) hc]
        unfold md_T
        rw [md_T_e hi', Int.one_mul]
    have hs : sX B σ' [] (fun _ => False) := ⟨0, 0, e6, Nat.two_pow_pos _, fun b => by simp, e7, Nat.two_pow_pos _, fun b => by simp⟩
    obtain ⟨τ, A', e', t1, t2, t3, t4⟩ := x0_extend hn hi hS (rX9 hx hf') ht hs (fun j _ => ⟨by simp, fun h => h⟩)
    refine ⟨τ, A', e', ?_, fr_tr hf' t2, t3, sX_congr t4 (fun j => ⟨fun q => q.resolve_left (fun h => h), Or.inr⟩)⟩
    show kX0_settle_6_b n _ _ _ _ = _
    unfold kX0_settle_6_b
    rw [h1, if_pos (nI_le (by omega) (by omega))]
    show hv_bd (mX0_extend n σ' (nI S)) (fun s47 => some s47) = _
    rw [t1]
    rfl
  | succ d ih =>
    intro r fuel σ hr hf hx h1 h2 h3
    obtain ⟨fuel, rfl⟩ : ∃ q, fuel = q + 1 := ⟨fuel - 1, by omega⟩
    obtain ⟨g, g1, g2⟩ := x0_layRow (n := n) (by omega) hi hx (r := r) h1 (by show r < fN' F P; omega) (h2 r (by omega)) B 0 n (σ.2 (27 + r)) (by omega) (by omega) (fun c hc => absurd hc (Nat.not_lt_zero _))
    rw [hv_wJ_self] at g1
    have hf' : fr fA9 fB9 σ (hv_wJ σ (27 + r) g) := fr_wJ (Or.inr ⟨by omega, by omega⟩) g
    obtain ⟨τ, A, e, t1, t2, t3, t4⟩ := ih (r + 1) fuel (hv_wJ σ (27 + r) g) (by omega) (by omega) (rX9 hx hf') h1 h2 (fun i c hi' hc => by
      by_cases ei : i = r
      · rw [ei, hv_wJ_at]
        exact g2 c hc
      · rw [hv_wJ_ne _ _ (by omega)]
        exact h3 i c (by omega) hc)
    refine ⟨τ, A, e, ?_, fr_tr hf' t2, t3, t4⟩
    show kX0_settle_6_b n _ _ _ _ = _
    unfold kX0_settle_6_b
    rw [h1, if_neg (nI_ge (by omega) (by omega))]
    show hv_bd (kX0_layRow_2 n n σ (nI r) (nI 0)) _ = _
    rw [g1, hv_bd_e, nI_1]
    exact t1
/-- what a settled table is -/
def zX (F : Nat → Nat → Int32) (P B : Nat) (S : Nat) (τ : hv_St) : Prop := ∃ A e, tX F P B τ (fBase F P (fBl S B)) A e ∧ sX B τ (fBase F P (fBl S B)) (fun j => j < B ∧ S.testBit j = true) ∧ ∀ j, j < fN' F P → τ.1 11 j = nI ((fL F (2 * P)).getD j 0)
theorem x0_settle {n : Nat} (hn : 30 < n) {F : Nat → Nat → Int32} {P B O D W : Nat} (hi : hI F P B O D W) {S : Nat} (hS : S < 2 ^ 31) {σ : hv_St} (hx : rX F σ) : ∃ τ, mX0_settle n σ (nI S) = some τ ∧ fr fA11 fB9 σ τ ∧ rX F τ ∧ zX F P B S τ := by
  have hP := hi.1.2
  have hl : fN' F P ≤ 2 * P := fL_le F (2 * P)
  obtain ⟨τ1, a1, a2, a3, a4⟩ := x0_findFree (n := n) (by omega) hP hi.1.1 hx
  have hx1 : rX F τ1 := rX_fr hx a2 (fun k hk => by rcases hk with rfl | rfl <;> omega)
  obtain ⟨τ, A, e, t1, t2, t3, t4⟩ := x0_settle_loop hn hi hS (fN' F P) 0 n τ1 (by omega) (by omega) hx1 a3 a4 (fun i c h => absurd h (Nat.not_lt_zero _))
  refine ⟨τ, ?_, ?_, rX9 hx1 t2, A, e, t3, t4, fun j hj => ?_⟩
  · unfold mX0_settle
    rw [a1, hv_bd_e]
    exact t1
  · refine fr_tr (fr_mono a2 ?_ (fun _ h => h.elim)) (fr_mono t2 ?_ (fun _ h => h))
    · rintro k (h | h)
      · exact Or.inl h
      · exact Or.inr (Or.inl h)
    · rintro k (h | h)
      · exact Or.inl h
      · exact Or.inr (Or.inr h)
  · rw [t2.1 11 (by unfold fA9; decide)]
    exact a4 j hj
