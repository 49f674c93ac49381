/-! both sides settled; the kind -/
theorem r8_base_loop {n : Nat} (hn : 200 ≤ n) {F : Nat → Nat → Int32} {P B O D W : Nat} (hi : hI F P B O D W) {S : Nat} (hS : S < 2 ^ 31) : ∀ (d k fuel : Nat) (σ : hv_St) (acc : List Nat) (pr : Nat → Prop), k + d = B → d < fuel → rM F σ → rFr F P σ → sM B σ acc pr → tM F P σ acc → (∀ j, j ∈ acc → j < k) → acc.length ≤ k → (∀ j, k ≤ j → ¬ pr j) → ∃ τ, kX8_laysBase_18 n fuel σ (nI S) (nI acc.length) (nI k) = some τ ∧ rM F τ ∧ rFr F P τ ∧ sM B τ (md_gr (fR F P) (fCol F P) acc ((List.range' k d).filter (fun j => S.testBit j))) (fun j => pr j ∨ (k ≤ j ∧ j < B ∧ S.testBit j = true)) ∧ fr (fun k => k = 0) (fun k => k = 13) σ τ ∧ ∀ i, i ≠ 20 → i ≠ 21 → τ.1 0 i = σ.1 0 i := by
  have hB := hi.2.1.2
  intro d
  induction d with
  | zero =>
    intro k fuel σ acc pr hk hf hm hfr hs ht _ _ _
    obtain ⟨fuel, rfl⟩ : ∃ q, fuel = q + 1 := ⟨fuel - 1, by omega⟩
    refine ⟨σ, ?_, hm, hfr, sM_congr hs (fun j => ⟨Or.inl, fun q => ?_⟩), fr_rfl, fun _ _ _ => rfl⟩
    · show kX8_laysBase_18_b n _ _ _ _ _ = _
      unfold kX8_laysBase_18_b
      rw [hm.1.2.1, hi.2.1.1, if_pos (nI_le (by omega) (by omega))]
    · rcases q with q | q
      · exact q
      · omega
  | succ d ih =>
    intro k fuel σ acc pr hk hf hm hfr hs ht hac hal hq
    obtain ⟨fuel, rfl⟩ : ∃ q, fuel = q + 1 := ⟨fuel - 1, by omega⟩
    have hb := fB_iff hS (show k < 31 by omega)
    by_cases h : S.testBit k = true
    · obtain ⟨τ1, c1, c2, c3, c4, c5, c6, c7⟩ := r8_base_step hn hi (r18 := kX8_laysBase_18 n fuel) hm hfr hs ht (show k < B by omega) hac hal (hq k (Nat.le_refl _)) (nI S)
      have hmem : ∀ j, j ∈ md_gr (fR F P) (fCol F P) acc [k] → j < k + 1 := fun j hj => by
        rcases md_gr_mem hj with hj | hj
        · have := hac j hj
          omega
        · have := List.mem_singleton.mp hj
          omega
      have hlen : (md_gr (fR F P) (fCol F P) acc [k]).length ≤ k + 1 := by
        by_cases hin : md_in (fR F P) (md_cs (fCol F P) acc) (fCol F P k)
        · rw [md_gr_old hin]
          show acc.length ≤ k + 1
          omega
        · rw [md_gr_new hin]
          show (acc ++ [k]).length ≤ k + 1
          rw [List.length_append, List.length_singleton]
          omega
      obtain ⟨τ, t1, t2, t3, t4, t5, t6⟩ := ih (k + 1) fuel τ1 _ _ (by omega) (by omega) c2 c3 c4 c5 hmem hlen (fun j hj => by
        rintro (q | q)
        · exact hq j (by omega) q
        · omega)
      have el : (List.range' k (d + 1)).filter (fun j => S.testBit j) = [k] ++ (List.range' (k + 1) d).filter (fun j => S.testBit j) := by
        rw [List.range'_succ, List.filter_cons_of_pos h]
        rfl
      refine ⟨τ, ?_, t2, t3, ?_, fr_tr c6 t5, fun i h1 h2 => (t6 i h1 h2).trans (c7 i h1 h2)⟩
      · show kX8_laysBase_18_b n _ _ _ _ _ = _
        unfold kX8_laysBase_18_b
        rw [hm.1.2.1, hi.2.1.1, if_neg (nI_ge (by omega) (by omega)), (r8_isOn _ _).1 (hb.mpr h), hv_b2_e, if_neg (by decide), c1]
        exact t1
      · rw [el, md_gr_app]
        refine sM_congr t4 (fun j => ?_)
        constructor
        · rintro ((q | rfl) | q)
          · exact Or.inl q
          · exact Or.inr ⟨Nat.le_refl _, by omega, h⟩
          · exact Or.inr ⟨by omega, q.2⟩
        · rintro (q | q)
          · exact Or.inl (Or.inl q)
          · by_cases ej : j = k
            · exact Or.inl (Or.inr ej)
            · exact Or.inr ⟨by omega, q.2⟩
    · obtain ⟨τ, t1, t2, t3, t4, t5, t6⟩ := ih (k + 1) fuel σ acc pr (by omega) (by omega) hm hfr hs ht (fun j hj => by have := hac j hj; omega) (by omega) (fun j hj => hq j (by omega))
      have el : (List.range' k (d + 1)).filter (fun j => S.testBit j) = (List.range' (k + 1) d).filter (fun j => S.testBit j) := by
        rw [List.range'_succ, List.filter_cons_of_neg h]
      refine ⟨τ, ?_, t2, t3, ?_, t5, t6⟩
      · show kX8_laysBase_18_b n _ _ _ _ _ = _
        unfold kX8_laysBase_18_b kX8_laysBase_165
        rw [hm.1.2.1, hi.2.1.1, if_neg (nI_ge (by omega) (by omega)), (r8_isOn _ _).2 (fun q => h (hb.mp q)), hv_b2_e, if_pos rfl, nI_1]
        exact t1
      · rw [el]
        refine sM_congr t4 (fun j => ?_)
        constructor
        · rintro (q | q)
          · exact Or.inl q
          · exact Or.inr ⟨by omega, q.2⟩
        · rintro (q | q)
          · exact Or.inl q
          · by_cases ej : j = k
            · exact absurd (ej ▸ q.2.2) h
            · exact Or.inr ⟨by omega, q.2⟩
def zM (F : Nat → Nat → Int32) (P B : Nat) (S : Nat) (τ : hv_St) : Prop := rFr F P τ ∧ sM B τ (fBase F P (fBl S B)) (fun j => j < B ∧ S.testBit j = true)
theorem r8_laysBase {n : Nat} (hn : 200 ≤ n) {F : Nat → Nat → Int32} {P B O D W : Nat} (hi : hI F P B O D W) {S : Nat} (hS : S < 2 ^ 31) {σ : hv_St} (hm : rM F σ) : ∃ τ, mX8_laysBase n σ (nI S) = some τ ∧ rM F τ ∧ zM F P B S τ ∧ fr (fun c => c = 0 ∨ c = 11 ∨ c = 12) (fun k => k = 13) σ τ ∧ ∀ i, i ≠ 18 → i ≠ 20 → i ≠ 21 → τ.1 0 i = σ.1 0 i := by
  have hB := hi.2.1.2
  obtain ⟨τ1, a1, a2, a3, a4, a5⟩ := r8_laysFree (n := n) (by omega) hi hm
  obtain ⟨τ, t1, t2, t3, t4, t5, t6⟩ := r8_base_loop hn hi hS B 0 n (hv_sI (hv_sI τ1 0 20 0) 0 21 0) [] (fun _ => False) (by omega) (by omega) (rM_sc (rM_sc a2 (by decide) 0) (by decide) 0) ⟨by rw [hv_sI_rd, if_neg (by decide), hv_sI_rd, if_neg (by decide)]; exact a3.1, fun j hj => by
    rw [hv_sI_ne _ _ _ (by decide), hv_sI_ne _ _ _ (by decide), hv_sI_ne _ _ _ (by decide), hv_sI_ne _ _ _ (by decide)]
    exact a3.2 j hj⟩ ⟨0, 0, by rw [hv_sI_rd, if_neg (by decide), hv_sI_rd, if_pos rfl]; rfl, Nat.two_pow_pos _, fun b => by simp, by rw [hv_sI_rd, if_pos rfl]; rfl, Nat.two_pow_pos _, fun b => by simp⟩ ⟨fun _ => 0, fun _ _ => 0, fun r hr => absurd hr (Nat.not_lt_zero _), fun i hi' => absurd hi' (Nat.not_lt_zero _)⟩ (fun j hj => by cases hj) (Nat.zero_le _) (fun _ _ h => h)
  rw [← List.range_eq_range'] at t4
  refine ⟨τ, ?_, t2, ⟨t3, sM_congr t4 (fun j => ⟨fun q => (q.resolve_left (fun h => h)).2, fun q => Or.inr ⟨Nat.zero_le _, q⟩⟩)⟩, ?_, fun i h1 h2 h3 => ?_⟩
  · unfold mX8_laysBase
    rw [a1, hv_bd_e, hv_let_e, hv_let_e]
    exact t1
  · refine fr_tr (fr_mono a4 (fun k h => h) (fun _ h => h.elim)) (fr_tr (τ := hv_sI (hv_sI τ1 0 20 0) 0 21 0) ⟨fun k hk => ?_, fun _ _ => rfl⟩ (fr_mono t5 (fun k h => Or.inl h) (fun _ h => h)))
    rw [hv_sI_ne _ _ _ (fun e => hk (Or.inl e)), hv_sI_ne _ _ _ (fun e => hk (Or.inl e))]
  · rw [t6 i h2 h3, hv_sI_rd, if_neg h3, hv_sI_rd, if_neg h2, a5 i h1]
/-- the greedy base is part of the list, in its order -/
theorem md_gr_sub {R : List Nat} {C : Nat → md_V} (l acc : List Nat) : ∃ t, md_gr R C acc l = acc ++ t ∧ List.Sublist t l :=
  md_gr_ind (R := R) (C := C) (P := fun acc l r => ∃ t, r = acc ++ t ∧ List.Sublist t l) (fun acc => ⟨[], (List.append_nil acc).symm, List.Sublist.refl _⟩) (fun acc b l h k => by
    obtain ⟨t, e, ht⟩ := k
    exact ⟨t, e, List.Sublist.cons _ ht⟩) (fun acc b l h k => by
    obtain ⟨t, e, ht⟩ := k
    exact ⟨b :: t, by rw [e, List.append_assoc]; rfl, List.Sublist.cons_cons _ ht⟩) l acc
theorem fBase_sub (F : Nat → Nat → Int32) (P : Nat) (L : List Nat) : List.Sublist (fBase F P L) L := by
  obtain ⟨t, e, ht⟩ := md_gr_sub (R := fR F P) (C := fCol F P) L []
  unfold fBase
  rw [e]
  exact ht
theorem fBl_mem {S B j : Nat} : j ∈ fBl S B ↔ j < B ∧ S.testBit j = true := by
  unfold fBl
  rw [List.mem_filter, List.mem_range]
theorem fBl_nd (S B : Nat) : (fBl S B).Nodup := List.Pairwise.filter _ List.nodup_range
theorem fBl_lt (S B : Nat) : List.Pairwise (· < ·) (fBl S B) := List.Pairwise.filter _ List.pairwise_lt_range

noncomputable def fSp (F : Nat → Nat → Int32) (P B S : Nat) : List Nat := (fBl S B).filter (fun j => decide (j ∉ fBase F P (fBl S B)))
