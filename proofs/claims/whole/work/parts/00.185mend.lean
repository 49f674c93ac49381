/-! mend: the greedy's addition is the least full set, of the fewest -/
theorem fBl_split {U h : Nat} (hU : U.testBit h = true) : ∀ B, h < B → ∃ l2, fBl U B = fBl U h ++ h :: l2 ∧ ∀ j ∈ l2, h < j
  | 0, hb => absurd hb (Nat.not_lt_zero _)
  | B + 1, hb => by
    by_cases e : h = B
    · refine ⟨[], ?_, fun j hj => by cases hj⟩
      rw [← e, fBl_succ, if_pos hU]
    · obtain ⟨l2, e1, e2⟩ := fBl_split hU B (by omega)
      rw [fBl_succ]
      by_cases c : U.testBit B = true
      · rw [if_pos c, e1]
        refine ⟨l2 ++ [B], by simp, fun j hj => ?_⟩
        rcases List.mem_append.mp hj with q | q
        · exact e2 j q
        · rw [List.mem_singleton.mp q]; omega
      · rw [if_neg c]
        exact ⟨l2, e1, e2⟩
theorem top_diff {X E : Nat} : ∀ k, (∀ j, k ≤ j → X.testBit j = E.testBit j) → X = E ∨ ∃ h, X.testBit h ≠ E.testBit h ∧ ∀ j, h < j → X.testBit j = E.testBit j
  | 0, hk => Or.inl (Nat.eq_of_testBit_eq (fun j => hk j (Nat.zero_le _)))
  | k + 1, hk => by
    by_cases c : X.testBit k = E.testBit k
    · exact top_diff k (fun j hj => by
        rcases Nat.lt_or_ge k j with l | l
        · exact hk j l
        · rw [show j = k by omega]; exact c)
    · exact Or.inr ⟨k, c, fun j hj => hk j hj⟩
theorem bit_lt {E X h : Nat} (eh : E.testBit h = false) (xh : X.testBit h = true) (hj : ∀ j, h < j → E.testBit j = X.testBit j) : E < X := by
  have d : E / 2 ^ (h + 1) = X / 2 ^ (h + 1) := Nat.eq_of_testBit_eq (fun j => by
    rw [Nat.testBit_div_two_pow, Nat.testBit_div_two_pow]
    exact hj _ (by omega))
  have m1 : E % 2 ^ (h + 1) < 2 ^ h := Nat.lt_pow_two_of_testBit _ (fun i hi => by
    rw [Nat.testBit_mod_two_pow]
    by_cases e : i = h
    · rw [e, eh, Bool.and_false]
    · rw [decide_eq_false (by omega), Bool.false_and])
  have m2 : 2 ^ h ≤ X % 2 ^ (h + 1) := Nat.ge_two_pow_of_testBit (by
    rw [Nat.testBit_mod_two_pow, xh, decide_eq_true (by omega)]
    rfl)
  have e1 := Nat.div_add_mod E (2 ^ (h + 1))
  have e2 := Nat.div_add_mod X (2 ^ (h + 1))
  rw [d] at e1
  omega
noncomputable def mG (F : Nat → Nat → Int32) (P B O U : Nat) : List Nat := md_gr (fR F P) (fCol F P) (fBase F P (fBl O B)) (fBl U B)
theorem mG_eq (F : Nat → Nat → Int32) (P B O U : Nat) : mG F P B O U = md_gr (fR F P) (fCol F P) [] (fBl O B ++ fBl U B) := (md_gr_app (fBl U B) (fBl O B) []).symm
theorem mG_len (F : Nat → Nat → Int32) (P B O U : Nat) : (mG F P B O U).length ≤ fN' F P := by
  rw [mG_eq]
  exact gr_len (N := fN' F P) _
theorem or_bit (O X j : Nat) : (O ||| X).testBit j = true ↔ O.testBit j = true ∨ X.testBit j = true := by
  rw [Nat.testBit_or, Bool.or_eq_true]
theorem mG_no {F : Nat → Nat → Int32} {P B O U X : Nat} (hX : andn X U = 0) (hf : Fc F P B (O ||| X)) : (mG F P B O U).length = fN' F P := by
  rw [mG_eq]
  refine (full_gr (N := fN' F P) _).mp (full_congr (fun j hj => ?_) hf)
  have hj' := fBl_mem.mp hj
  rcases (or_bit O X j).mp hj'.2 with q | q
  · exact List.mem_append_left _ (fBl_mem.mpr ⟨hj'.1, q⟩)
  · exact List.mem_append_right _ (fBl_mem.mpr ⟨hj'.1, sub_iff.mp hX j q⟩)
theorem mG_mem {F : Nat → Nat → Int32} {P B O U j : Nat} (h : j ∈ mG F P B O U) : j < B ∧ (O.testBit j = true ∨ U.testBit j = true) := by
  rcases md_gr_mem h with q | q
  · exact ⟨(fBase_mem q).1, Or.inl (fBase_mem q).2⟩
  · exact ⟨(fBl_mem.mp q).1, Or.inr (fBl_mem.mp q).2⟩
theorem mG_full {F : Nat → Nat → Int32} {P B O U E : Nat} (hl : (mG F P B O U).length = fN' F P) (hE : ∀ j, E.testBit j = true ↔ j ∈ mG F P B O U ∧ ¬ O.testBit j = true) : Fc F P B (O ||| E) := by
  have hf : md_full (fR F P) (md_cs (fCol F P) (mG F P B O U)) := by
    obtain ⟨A, pos, h⟩ := gr_tb (N := fN' F P) (C := fCol F P) (fBl O B ++ fBl U B) [] md_e (fun j => j) (tb0 _ _)
    rw [mG_eq] at hl ⊢
    exact (tb_full_iff h).mpr hl
  refine full_congr (fun j hj => fBl_mem.mpr ⟨(mG_mem hj).1, (or_bit O E j).mpr ?_⟩) hf
  by_cases c : O.testBit j = true
  · exact Or.inl c
  · exact Or.inr ((hE j).mpr ⟨hj, c⟩)
theorem mG_least {F : Nat → Nat → Int32} {P B O U E X : Nat} (hU : ∀ j, U.testBit j = true ↔ j < B ∧ ¬ O.testBit j = true) (hE : ∀ j, E.testBit j = true ↔ j ∈ mG F P B O U ∧ ¬ O.testBit j = true) (hX : andn X U = 0) (hXB : X < 2 ^ B) (hEB : E < 2 ^ B) (hf : Fc F P B (O ||| X)) : E ≤ X := by
  refine Classical.byContradiction fun c => ?_
  have hi0 : ∀ Y : Nat, Y < 2 ^ B → ∀ j, B ≤ j → Y.testBit j = false := fun Y hY j hj => Nat.testBit_lt_two_pow (Nat.lt_of_lt_of_le hY (Nat.pow_le_pow_right (by decide) hj))
  rcases top_diff (X := X) (E := E) B (fun j hj => by rw [hi0 X hXB j hj, hi0 E hEB j hj]) with e | ⟨h, h1, h2⟩
  · omega
  · cases xh : X.testBit h <;> cases eh : E.testBit h
    · rw [xh, eh] at h1; exact h1 rfl
    · -- E has h, X does not
      have hG := (hE h).mp eh
      have hUh : U.testBit h = true := (hU h).mpr ⟨(mG_mem hG.1).1, hG.2⟩
      obtain ⟨l2, e1, e2⟩ := fBl_split hUh B (mG_mem hG.1).1
      have hG' := hG.1
      unfold mG at hG'
      rw [e1] at hG'
      obtain ⟨u, u1, u2, u3, u4, u5⟩ := gr_fun (N := fN' F P) (C := fCol F P) (l0 := fBl O B) (l1 := fBl U h) (l2 := l2) (h := h) (fun q => hG.2 (fBl_mem.mp q).2) (fun q => absurd (fBl_mem.mp q).1 (Nat.lt_irrefl _)) (fun q => absurd (e2 h q) (Nat.lt_irrefl _)) hG'
      refine u2 (hf (fCol F P h) u u1 (fun v hv => ?_))
      obtain ⟨j, hj, rfl⟩ := hv
      have hj' := fBl_mem.mp hj
      by_cases oj : O.testBit j = true
      · exact u3 j (fBl_mem.mpr ⟨hj'.1, oj⟩)
      · have xj := ((or_bit O X j).mp hj'.2).resolve_left oj
        have uj := sub_iff.mp hX j xj
        rcases Nat.lt_trichotomy j h with l | l | l
        · exact u4 j (fBl_mem.mpr ⟨l, uj⟩)
        · rw [l, xh] at xj; cases xj
        · have ej : E.testBit j = true := by rw [← h2 j l]; exact xj
          have gj := ((hE j).mp ej).1
          unfold mG at gj
          rw [e1] at gj
          exact u5 j gj (by omega)
    · exact absurd (bit_lt eh xh (fun j hj => (h2 j hj).symm)) (by omega)
    · rw [xh, eh] at h1; exact h1 rfl
theorem mG_few {F : Nat → Nat → Int32} {P B O U E X : Nat} (hB : B ≤ 11) (hl : (mG F P B O U).length = fN' F P) (hU : ∀ j, U.testBit j = true ↔ j < B ∧ ¬ O.testBit j = true) (hE : ∀ j, E.testBit j = true ↔ j ∈ mG F P B O U ∧ ¬ O.testBit j = true) (hXB : X < 2 ^ B) (hf : Fc F P B (O ||| X)) : pc E ≤ pc X := by
  obtain ⟨t, t1, t2⟩ := md_gr_sub (R := fR F P) (C := fCol F P) (fBl U B) (fBase F P (fBl O B))
  obtain ⟨s, s1, s2⟩ := md_gr_sub (R := fR F P) (C := fCol F P) (fBl X B) (fBase F P (fBl O B))
  have e1 : mG F P B O U = fBase F P (fBl O B) ++ t := t1
  have tn : t.Nodup := List.Sublist.nodup t2 (fBl_nd U B)
  have pE : pc E = t.length := pc_list tn (fun b => by
    rw [hE b, e1, List.mem_append]
    constructor
    · rintro ⟨q | q, r⟩
      · exact absurd (fBase_mem q).2 r
      · exact q
    · intro q
      exact ⟨Or.inr q, ((hU b).mp (fBl_mem.mp (t2.subset q)).2).2⟩) (fun b hb => by
    have := (fBl_mem.mp (t2.subset hb)).1
    omega)
  have full2 : (md_gr (fR F P) (fCol F P) [] (fBl O B ++ fBl X B)).length = fN' F P := (full_gr (N := fN' F P) _).mp (full_congr (fun j hj => by
    have hj' := fBl_mem.mp hj
    rcases (or_bit O X j).mp hj'.2 with q | q
    · exact List.mem_append_left _ (fBl_mem.mpr ⟨hj'.1, q⟩)
    · exact List.mem_append_right _ (fBl_mem.mpr ⟨hj'.1, q⟩)) hf)
  rw [md_gr_app] at full2
  have s1' : md_gr (fR F P) (fCol F P) (md_gr (fR F P) (fCol F P) [] (fBl O B)) (fBl X B) = fBase F P (fBl O B) ++ s := s1
  rw [s1', List.length_append] at full2
  rw [e1, List.length_append] at hl
  have sl := s2.length_le
  rw [pE, pc_fBl hB hXB]
  omega
