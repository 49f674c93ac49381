/-! the law's helpers: a call in a try; the class's world and the array out, cell 55 -/
def hv_XO (a : Nat → Nat) (cy : ClassId × ClassId × ClassId × ClassId) (i : Nat) (f : Nat → Int32) (g : Nat → Int64) : va_E := if i < 55 then hv_XE a cy i f g else .inl (cy.2.1, 1, .inr (.inl g))
theorem hv_XO_E (a : Nat → Nat) (cy : ClassId × ClassId × ClassId × ClassId) : ∀ i, i < 55 → ∀ f g, hv_XE (fun i => a (i + 0)) cy i f g = hv_XO a cy (i + 0) f g := fun i h f g => by
  show _ = if i < 55 then hv_XE a cy i f g else _
  rw [if_pos h]
  rfl
theorem hv_by_some {τ ρ : Type} {x : Option (Option τ × hv_St)} {k0 : hv_St → Option ρ} {k1 : τ → hv_St → Option ρ} {o : ρ} (h : hv_by x k0 k1 = some o) : (∃ σ, x = some (none, σ) ∧ k0 σ = some o) ∨ ∃ y σ, x = some (some y, σ) ∧ k1 y σ = some o := by
  match x, h with
  | none, h => cases h
  | some (none, σ), h => exact Or.inl ⟨σ, rfl, h⟩
  | some (some y, σ), h => exact Or.inr ⟨y, σ, rfl, h⟩
section
variable {p : Program} {l : Launch} {e : Env} {s : State} {m : MethodId} {args : Array Value} {below : List Frame} {meth : Method} {c : Code} {D : va_G} {a : Nat → Nat} {cy : ClassId × ClassId × ClassId × ClassId}
abbrev rmL_of : Room := { frames := 8, cells := 2, slots := 12, locals := 131 }
set_option maxRecDepth 20000 in
theorem qL_of_C : Cond.classLink RL 13 hv_nse ∈ wsL_of := by decide +kernel
set_option maxHeartbeats 4000000 in
set_option maxRecDepth 20000 in
theorem vL_of (hflag : l.stackTraces = false) {n : Nat} {σ : hv_St} {p1 : Int32} {p2 : Int32} {o : Int32 × hv_St} (h : mL_of n σ p1 p2 = some o) : hv_WM l yL_of wsL_of rmL_of D (hv_tys cy) 56 a (hv_XO a cy) 2 12 [.ref (a 0), .int p1, .int p2, .ref (a 55)] σ (some (.int o.1)) o.2 := by
  refine hv_wenter (own := RL) (cc := cL_of) (maxL := 5) (ret := some .int) (hh := [(0, 10, 13, 13)]) (by decide) rfl rfl (Nat.le_of_ble_eq_true rfl) ?_
  intro p e s m args below meth c CW hr
  have C := CW.1
  unfold mL_of at h
  refine g_lv [0, 1, 2, 3] (lv' := [(0, .ref (a 0)), (1, .int p1), (2, .int p2), (3, .ref (a 55))]) rfl ?_
  refine g_aload_n (pc := 0) C 3 dL_of_0 rfl rfl ?_
  refine g_iconst (pc := 1) (v := (0 : Int32)) C dL_of_1 (by decide) ?_
  refine g_aload_n (pc := 2) C 0 dL_of_2 rfl rfl ?_
  refine g_iload_n (pc := 3) C 1 dL_of_3 rfl rfl ?_
  refine g_iload_n (pc := 4) C 2 dL_of_4 rfl rfl ?_
  rcases hv_by_some h with ⟨τ, hc, h⟩ | ⟨v, τ, hc, h⟩
  · refine g_wthr (pc := 5) (τ := τ) (As := [.int p1, .int p2]) (rest := [.int (0 : Int32), .ref (a 55)]) CW 0 (hv_XO_E a cy) (Nat.le_of_ble_eq_true rfl) (vX7_of (a := fun i => a (i + 0)) hflag hc) (cwV 2 C.1.2.2.2.2 gL_of_X7_of rfl rfl rfl (by decide +kernel) ⟨Nat.le_of_ble_eq_true rfl, Nat.le_of_ble_eq_true rfl⟩) (Nat.le_of_ble_eq_true rfl) rfl rfl rfl rfl (Nat.le_of_ble_eq_true rfl) dL_of_5 ⟨Nat.le_of_ble_eq_true rfl, Nat.le_of_ble_eq_true rfl⟩ (by decide) qL_of_C (by decide) (fun q => ?_)
    refine g_astore (pc := 13) (lv' := [(4, .ref q), (0, .ref (a 0)), (1, .int p1), (2, .int p2), (3, .ref (a 55))]) C rfl dL_of_13 (Nat.le_of_ble_eq_true rfl) rfl ?_
    refine g_iconst (pc := 15) (v := (1 : Int32)) C dL_of_15 (by decide) ?_
    cases h
    exact g_wiret (pc := 16) CW hr dL_of_16 (Nat.le_of_ble_eq_true rfl) (Nat.le_of_ble_eq_true rfl)
  · refine g_wret (pc := 5) (τ := τ) (v := some (.int v)) (As := [.int p1, .int p2]) (rest := [.int (0 : Int32), .ref (a 55)]) CW 0 (hv_XO_E a cy) (Nat.le_of_ble_eq_true rfl) (vX7_of (a := fun i => a (i + 0)) hflag hc) (cwV 2 C.1.2.2.2.2 gL_of_X7_of rfl rfl rfl (by decide +kernel) ⟨Nat.le_of_ble_eq_true rfl, Nat.le_of_ble_eq_true rfl⟩) (Nat.le_of_ble_eq_true rfl) rfl rfl rfl rfl (Nat.le_of_ble_eq_true rfl) dL_of_5 ⟨Nat.le_of_ble_eq_true rfl, Nat.le_of_ble_eq_true rfl⟩ ?_
    refine g_st (st' := .int v :: [.int (0 : Int32), .ref (a 55)]) rfl ?_
    refine g_i2l (pc := 8) C dL_of_8 ?_
    refine g_last (pc := 9) (x := v.toInt64) (j := (0 : Int32)) C 55 1 (cA := cy.2.1) (n := 1) rfl (Nat.le_of_ble_eq_true rfl) (fun _ _ => rfl) rfl (by decide) dL_of_9 ?_
    refine g_goto (pc := 10) (tgt := 17) C dL_of_10 (by decide) ?_
    refine g_iconst (pc := 17) (v := (0 : Int32)) C dL_of_17 (by decide) ?_
    cases h
    exact g_wiret (pc := 18) CW hr dL_of_18 (Nat.le_of_ble_eq_true rfl) (Nat.le_of_ble_eq_true rfl)
abbrev rmL_at : Room := { frames := 8, cells := 2, slots := 12, locals := 141 }
set_option maxRecDepth 20000 in
theorem qL_at_C : Cond.classLink RL 13 hv_nse ∈ wsL_at := by decide +kernel
set_option maxHeartbeats 4000000 in
set_option maxRecDepth 20000 in
theorem vL_at (hflag : l.stackTraces = false) {n : Nat} {σ : hv_St} {p1 : Int32} {p2 : Int32} {o : Int32 × hv_St} (h : mL_at n σ p1 p2 = some o) : hv_WM l yL_at wsL_at rmL_at D (hv_tys cy) 56 a (hv_XO a cy) 2 12 [.ref (a 0), .int p1, .int p2, .ref (a 55)] σ (some (.int o.1)) o.2 := by
  refine hv_wenter (own := RL) (cc := cL_at) (maxL := 5) (ret := some .int) (hh := [(0, 10, 13, 13)]) (by decide) rfl rfl (Nat.le_of_ble_eq_true rfl) ?_
  intro p e s m args below meth c CW hr
  have C := CW.1
  unfold mL_at at h
  refine g_lv [0, 1, 2, 3] (lv' := [(0, .ref (a 0)), (1, .int p1), (2, .int p2), (3, .ref (a 55))]) rfl ?_
  refine g_aload_n (pc := 0) C 3 dL_at_0 rfl rfl ?_
  refine g_iconst (pc := 1) (v := (0 : Int32)) C dL_at_1 (by decide) ?_
  refine g_aload_n (pc := 2) C 0 dL_at_2 rfl rfl ?_
  refine g_iload_n (pc := 3) C 1 dL_at_3 rfl rfl ?_
  refine g_iload_n (pc := 4) C 2 dL_at_4 rfl rfl ?_
  rcases hv_by_some h with ⟨τ, hc, h⟩ | ⟨v, τ, hc, h⟩
  · refine g_wthr (pc := 5) (τ := τ) (As := [.int p1, .int p2]) (rest := [.int (0 : Int32), .ref (a 55)]) CW 0 (hv_XO_E a cy) (Nat.le_of_ble_eq_true rfl) (vX7_at (a := fun i => a (i + 0)) hflag hc) (cwV 2 C.1.2.2.2.2 gL_at_X7_at rfl rfl rfl (by decide +kernel) ⟨Nat.le_of_ble_eq_true rfl, Nat.le_of_ble_eq_true rfl⟩) (Nat.le_of_ble_eq_true rfl) rfl rfl rfl rfl (Nat.le_of_ble_eq_true rfl) dL_at_5 ⟨Nat.le_of_ble_eq_true rfl, Nat.le_of_ble_eq_true rfl⟩ (by decide) qL_at_C (by decide) (fun q => ?_)
    refine g_astore (pc := 13) (lv' := [(4, .ref q), (0, .ref (a 0)), (1, .int p1), (2, .int p2), (3, .ref (a 55))]) C rfl dL_at_13 (Nat.le_of_ble_eq_true rfl) rfl ?_
    refine g_iconst (pc := 15) (v := (1 : Int32)) C dL_at_15 (by decide) ?_
    cases h
    exact g_wiret (pc := 16) CW hr dL_at_16 (Nat.le_of_ble_eq_true rfl) (Nat.le_of_ble_eq_true rfl)
  · refine g_wret (pc := 5) (τ := τ) (v := some (.int v)) (As := [.int p1, .int p2]) (rest := [.int (0 : Int32), .ref (a 55)]) CW 0 (hv_XO_E a cy) (Nat.le_of_ble_eq_true rfl) (vX7_at (a := fun i => a (i + 0)) hflag hc) (cwV 2 C.1.2.2.2.2 gL_at_X7_at rfl rfl rfl (by decide +kernel) ⟨Nat.le_of_ble_eq_true rfl, Nat.le_of_ble_eq_true rfl⟩) (Nat.le_of_ble_eq_true rfl) rfl rfl rfl rfl (Nat.le_of_ble_eq_true rfl) dL_at_5 ⟨Nat.le_of_ble_eq_true rfl, Nat.le_of_ble_eq_true rfl⟩ ?_
    refine g_st (st' := .int v :: [.int (0 : Int32), .ref (a 55)]) rfl ?_
    refine g_i2l (pc := 8) C dL_at_8 ?_
    refine g_last (pc := 9) (x := v.toInt64) (j := (0 : Int32)) C 55 1 (cA := cy.2.1) (n := 1) rfl (Nat.le_of_ble_eq_true rfl) (fun _ _ => rfl) rfl (by decide) dL_at_9 ?_
    refine g_goto (pc := 10) (tgt := 17) C dL_at_10 (by decide) ?_
    refine g_iconst (pc := 17) (v := (0 : Int32)) C dL_at_17 (by decide) ?_
    cases h
    exact g_wiret (pc := 18) CW hr dL_at_18 (Nat.le_of_ble_eq_true rfl) (Nat.le_of_ble_eq_true rfl)
abbrev rmL_pull : Room := { frames := 8, cells := 1, slots := 6, locals := 164 }
set_option maxRecDepth 20000 in
theorem qL_pull_C : Cond.classLink RL 13 hv_nse ∈ wsL_pull := by decide +kernel
set_option maxHeartbeats 4000000 in
set_option maxRecDepth 20000 in
theorem vL_pull (hflag : l.stackTraces = false) {n : Nat} {σ : hv_St} {p1 : Int32} {p2 : Int32} {o : Int32 × hv_St} (h : mL_pull n σ p1 p2 = some o) : hv_WM l yL_pull wsL_pull rmL_pull D (hv_tys cy) 56 a (hv_XO a cy) 1 6 [.ref (a 0), .int p1, .int p2, .ref (a 55)] σ (some (.int o.1)) o.2 := by
  refine hv_wenter (own := RL) (cc := cL_pull) (maxL := 5) (ret := some .int) (hh := [(0, 9, 12, 13)]) (by decide) rfl rfl (Nat.le_of_ble_eq_true rfl) ?_
  intro p e s m args below meth c CW hr
  have C := CW.1
  unfold mL_pull at h
  refine g_lv [0, 1, 2, 3] (lv' := [(0, .ref (a 0)), (1, .int p1), (2, .int p2), (3, .ref (a 55))]) rfl ?_
  refine g_aload_n (pc := 0) C 3 dL_pull_0 rfl rfl ?_
  refine g_iconst (pc := 1) (v := (0 : Int32)) C dL_pull_1 (by decide) ?_
  refine g_aload_n (pc := 2) C 0 dL_pull_2 rfl rfl ?_
  refine g_iload_n (pc := 3) C 1 dL_pull_3 rfl rfl ?_
  refine g_iload_n (pc := 4) C 2 dL_pull_4 rfl rfl ?_
  rcases hv_by_some h with ⟨τ, hc, h⟩ | ⟨v, τ, hc, h⟩
  · refine g_wthr (pc := 5) (τ := τ) (As := [.int p1, .int p2]) (rest := [.int (0 : Int32), .ref (a 55)]) CW 0 (hv_XO_E a cy) (Nat.le_of_ble_eq_true rfl) (vX7_pull (a := fun i => a (i + 0)) hflag hc) (cwV 2 C.1.2.2.2.2 gL_pull_X7_pull rfl rfl rfl (by decide +kernel) ⟨Nat.le_of_ble_eq_true rfl, Nat.le_of_ble_eq_true rfl⟩) (Nat.le_of_ble_eq_true rfl) rfl rfl rfl rfl (Nat.le_of_ble_eq_true rfl) dL_pull_5 ⟨Nat.le_of_ble_eq_true rfl, Nat.le_of_ble_eq_true rfl⟩ (by decide) qL_pull_C (by decide) (fun q => ?_)
    refine g_astore (pc := 12) (lv' := [(4, .ref q), (0, .ref (a 0)), (1, .int p1), (2, .int p2), (3, .ref (a 55))]) C rfl dL_pull_12 (Nat.le_of_ble_eq_true rfl) rfl ?_
    refine g_iconst (pc := 14) (v := (1 : Int32)) C dL_pull_14 (by decide) ?_
    cases h
    exact g_wiret (pc := 15) CW hr dL_pull_15 (Nat.le_of_ble_eq_true rfl) (Nat.le_of_ble_eq_true rfl)
  · refine g_wret (pc := 5) (τ := τ) (v := some (.long v)) (As := [.int p1, .int p2]) (rest := [.int (0 : Int32), .ref (a 55)]) CW 0 (hv_XO_E a cy) (Nat.le_of_ble_eq_true rfl) (vX7_pull (a := fun i => a (i + 0)) hflag hc) (cwV 2 C.1.2.2.2.2 gL_pull_X7_pull rfl rfl rfl (by decide +kernel) ⟨Nat.le_of_ble_eq_true rfl, Nat.le_of_ble_eq_true rfl⟩) (Nat.le_of_ble_eq_true rfl) rfl rfl rfl rfl (Nat.le_of_ble_eq_true rfl) dL_pull_5 ⟨Nat.le_of_ble_eq_true rfl, Nat.le_of_ble_eq_true rfl⟩ ?_
    refine g_st (st' := .long v :: [.int (0 : Int32), .ref (a 55)]) rfl ?_
    refine g_last (pc := 8) (x := v) (j := (0 : Int32)) C 55 1 (cA := cy.2.1) (n := 1) rfl (Nat.le_of_ble_eq_true rfl) (fun _ _ => rfl) rfl (by decide) dL_pull_8 ?_
    refine g_goto (pc := 9) (tgt := 16) C dL_pull_9 (by decide) ?_
    refine g_iconst (pc := 16) (v := (0 : Int32)) C dL_pull_16 (by decide) ?_
    cases h
    exact g_wiret (pc := 17) CW hr dL_pull_17 (Nat.le_of_ble_eq_true rfl) (Nat.le_of_ble_eq_true rfl)
abbrev rmL_state : Room := { frames := 8, cells := 1, slots := 6, locals := 165 }
set_option maxRecDepth 20000 in
theorem qL_state_C : Cond.classLink RL 13 hv_nse ∈ wsL_state := by decide +kernel
set_option maxHeartbeats 4000000 in
set_option maxRecDepth 20000 in
theorem vL_state (hflag : l.stackTraces = false) {n : Nat} {σ : hv_St} {p1 : Int32} {p2 : Int32} {p3 : Int32} {o : Int32 × hv_St} (h : mL_state n σ p1 p2 p3 = some o) : hv_WM l yL_state wsL_state rmL_state D (hv_tys cy) 56 a (hv_XO a cy) 1 6 [.ref (a 0), .int p1, .int p2, .int p3, .ref (a 55)] σ (some (.int o.1)) o.2 := by
  refine hv_wenter (own := RL) (cc := cL_state) (maxL := 6) (ret := some .int) (hh := [(0, 11, 14, 13)]) (by decide) rfl rfl (Nat.le_of_ble_eq_true rfl) ?_
  intro p e s m args below meth c CW hr
  have C := CW.1
  unfold mL_state at h
  refine g_lv [0, 1, 2, 3, 4] (lv' := [(0, .ref (a 0)), (1, .int p1), (2, .int p2), (3, .int p3), (4, .ref (a 55))]) rfl ?_
  refine g_aload (pc := 0) C 4 dL_state_0 rfl ?_
  refine g_iconst (pc := 2) (v := (0 : Int32)) C dL_state_2 (by decide) ?_
  refine g_aload_n (pc := 3) C 0 dL_state_3 rfl rfl ?_
  refine g_iload_n (pc := 4) C 1 dL_state_4 rfl rfl ?_
  refine g_iload_n (pc := 5) C 2 dL_state_5 rfl rfl ?_
  refine g_iload_n (pc := 6) C 3 dL_state_6 rfl rfl ?_
  rcases hv_by_some h with ⟨τ, hc, h⟩ | ⟨v, τ, hc, h⟩
  · refine g_wthr (pc := 7) (τ := τ) (As := [.int p1, .int p2, .int p3]) (rest := [.int (0 : Int32), .ref (a 55)]) CW 0 (hv_XO_E a cy) (Nat.le_of_ble_eq_true rfl) (vX7_state (a := fun i => a (i + 0)) hflag hc) (cwV 3 C.1.2.2.2.2 gL_state_X7_state rfl rfl rfl (by decide +kernel) ⟨Nat.le_of_ble_eq_true rfl, Nat.le_of_ble_eq_true rfl⟩) (Nat.le_of_ble_eq_true rfl) rfl rfl rfl rfl (Nat.le_of_ble_eq_true rfl) dL_state_7 ⟨Nat.le_of_ble_eq_true rfl, Nat.le_of_ble_eq_true rfl⟩ (by decide) qL_state_C (by decide) (fun q => ?_)
    refine g_astore (pc := 14) (lv' := [(5, .ref q), (0, .ref (a 0)), (1, .int p1), (2, .int p2), (3, .int p3), (4, .ref (a 55))]) C rfl dL_state_14 (Nat.le_of_ble_eq_true rfl) rfl ?_
    refine g_iconst (pc := 16) (v := (1 : Int32)) C dL_state_16 (by decide) ?_
    cases h
    exact g_wiret (pc := 17) CW hr dL_state_17 (Nat.le_of_ble_eq_true rfl) (Nat.le_of_ble_eq_true rfl)
  · refine g_wret (pc := 7) (τ := τ) (v := some (.long v)) (As := [.int p1, .int p2, .int p3]) (rest := [.int (0 : Int32), .ref (a 55)]) CW 0 (hv_XO_E a cy) (Nat.le_of_ble_eq_true rfl) (vX7_state (a := fun i => a (i + 0)) hflag hc) (cwV 3 C.1.2.2.2.2 gL_state_X7_state rfl rfl rfl (by decide +kernel) ⟨Nat.le_of_ble_eq_true rfl, Nat.le_of_ble_eq_true rfl⟩) (Nat.le_of_ble_eq_true rfl) rfl rfl rfl rfl (Nat.le_of_ble_eq_true rfl) dL_state_7 ⟨Nat.le_of_ble_eq_true rfl, Nat.le_of_ble_eq_true rfl⟩ ?_
    refine g_st (st' := .long v :: [.int (0 : Int32), .ref (a 55)]) rfl ?_
    refine g_last (pc := 10) (x := v) (j := (0 : Int32)) C 55 1 (cA := cy.2.1) (n := 1) rfl (Nat.le_of_ble_eq_true rfl) (fun _ _ => rfl) rfl (by decide) dL_state_10 ?_
    refine g_goto (pc := 11) (tgt := 18) C dL_state_11 (by decide) ?_
    refine g_iconst (pc := 18) (v := (0 : Int32)) C dL_state_18 (by decide) ?_
    cases h
    exact g_wiret (pc := 19) CW hr dL_state_19 (Nat.le_of_ble_eq_true rfl) (Nat.le_of_ble_eq_true rfl)
abbrev rmL_flex : Room := { frames := 8, cells := 1, slots := 6, locals := 165 }
set_option maxRecDepth 20000 in
theorem qL_flex_C : Cond.classLink RL 13 hv_nse ∈ wsL_flex := by decide +kernel
set_option maxHeartbeats 4000000 in
set_option maxRecDepth 20000 in
theorem vL_flex (hflag : l.stackTraces = false) {n : Nat} {σ : hv_St} {p1 : Int32} {p2 : Int32} {p3 : Int32} {o : Int32 × hv_St} (h : mL_flex n σ p1 p2 p3 = some o) : hv_WM l yL_flex wsL_flex rmL_flex D (hv_tys cy) 56 a (hv_XO a cy) 1 6 [.ref (a 0), .int p1, .int p2, .int p3, .ref (a 55)] σ (some (.int o.1)) o.2 := by
  refine hv_wenter (own := RL) (cc := cL_flex) (maxL := 6) (ret := some .int) (hh := [(0, 11, 14, 13)]) (by decide) rfl rfl (Nat.le_of_ble_eq_true rfl) ?_
  intro p e s m args below meth c CW hr
  have C := CW.1
  unfold mL_flex at h
  refine g_lv [0, 1, 2, 3, 4] (lv' := [(0, .ref (a 0)), (1, .int p1), (2, .int p2), (3, .int p3), (4, .ref (a 55))]) rfl ?_
  refine g_aload (pc := 0) C 4 dL_flex_0 rfl ?_
  refine g_iconst (pc := 2) (v := (0 : Int32)) C dL_flex_2 (by decide) ?_
  refine g_aload_n (pc := 3) C 0 dL_flex_3 rfl rfl ?_
  refine g_iload_n (pc := 4) C 1 dL_flex_4 rfl rfl ?_
  refine g_iload_n (pc := 5) C 2 dL_flex_5 rfl rfl ?_
  refine g_iload_n (pc := 6) C 3 dL_flex_6 rfl rfl ?_
  rcases hv_by_some h with ⟨τ, hc, h⟩ | ⟨v, τ, hc, h⟩
  · refine g_wthr (pc := 7) (τ := τ) (As := [.int p1, .int p2, .int p3]) (rest := [.int (0 : Int32), .ref (a 55)]) CW 0 (hv_XO_E a cy) (Nat.le_of_ble_eq_true rfl) (vX7_flex (a := fun i => a (i + 0)) hflag hc) (cwV 3 C.1.2.2.2.2 gL_flex_X7_flex rfl rfl rfl (by decide +kernel) ⟨Nat.le_of_ble_eq_true rfl, Nat.le_of_ble_eq_true rfl⟩) (Nat.le_of_ble_eq_true rfl) rfl rfl rfl rfl (Nat.le_of_ble_eq_true rfl) dL_flex_7 ⟨Nat.le_of_ble_eq_true rfl, Nat.le_of_ble_eq_true rfl⟩ (by decide) qL_flex_C (by decide) (fun q => ?_)
    refine g_astore (pc := 14) (lv' := [(5, .ref q), (0, .ref (a 0)), (1, .int p1), (2, .int p2), (3, .int p3), (4, .ref (a 55))]) C rfl dL_flex_14 (Nat.le_of_ble_eq_true rfl) rfl ?_
    refine g_iconst (pc := 16) (v := (1 : Int32)) C dL_flex_16 (by decide) ?_
    cases h
    exact g_wiret (pc := 17) CW hr dL_flex_17 (Nat.le_of_ble_eq_true rfl) (Nat.le_of_ble_eq_true rfl)
  · refine g_wret (pc := 7) (τ := τ) (v := some (.long v)) (As := [.int p1, .int p2, .int p3]) (rest := [.int (0 : Int32), .ref (a 55)]) CW 0 (hv_XO_E a cy) (Nat.le_of_ble_eq_true rfl) (vX7_flex (a := fun i => a (i + 0)) hflag hc) (cwV 3 C.1.2.2.2.2 gL_flex_X7_flex rfl rfl rfl (by decide +kernel) ⟨Nat.le_of_ble_eq_true rfl, Nat.le_of_ble_eq_true rfl⟩) (Nat.le_of_ble_eq_true rfl) rfl rfl rfl rfl (Nat.le_of_ble_eq_true rfl) dL_flex_7 ⟨Nat.le_of_ble_eq_true rfl, Nat.le_of_ble_eq_true rfl⟩ ?_
    refine g_st (st' := .long v :: [.int (0 : Int32), .ref (a 55)]) rfl ?_
    refine g_last (pc := 10) (x := v) (j := (0 : Int32)) C 55 1 (cA := cy.2.1) (n := 1) rfl (Nat.le_of_ble_eq_true rfl) (fun _ _ => rfl) rfl (by decide) dL_flex_10 ?_
    refine g_goto (pc := 11) (tgt := 18) C dL_flex_11 (by decide) ?_
    refine g_iconst (pc := 18) (v := (0 : Int32)) C dL_flex_18 (by decide) ?_
    cases h
    exact g_wiret (pc := 19) CW hr dL_flex_19 (Nat.le_of_ble_eq_true rfl) (Nat.le_of_ble_eq_true rfl)
abbrev rmL_force : Room := { frames := 8, cells := 2, slots := 12, locals := 169 }
set_option maxRecDepth 20000 in
theorem qL_force_C : Cond.classLink RL 13 hv_nse ∈ wsL_force := by decide +kernel
set_option maxHeartbeats 4000000 in
set_option maxRecDepth 20000 in
theorem vL_force (hflag : l.stackTraces = false) {n : Nat} {σ : hv_St} {p1 : Int32} {p2 : Int32} {p3 : Int32} {o : Int32 × hv_St} (h : mL_force n σ p1 p2 p3 = some o) : hv_WM l yL_force wsL_force rmL_force D (hv_tys cy) 56 a (hv_XO a cy) 2 12 [.ref (a 0), .int p1, .int p2, .int p3, .ref (a 55)] σ (some (.int o.1)) o.2 := by
  refine hv_wenter (own := RL) (cc := cL_force) (maxL := 6) (ret := some .int) (hh := [(0, 11, 14, 13)]) (by decide) rfl rfl (Nat.le_of_ble_eq_true rfl) ?_
  intro p e s m args below meth c CW hr
  have C := CW.1
  unfold mL_force at h
  refine g_lv [0, 1, 2, 3, 4] (lv' := [(0, .ref (a 0)), (1, .int p1), (2, .int p2), (3, .int p3), (4, .ref (a 55))]) rfl ?_
  refine g_aload (pc := 0) C 4 dL_force_0 rfl ?_
  refine g_iconst (pc := 2) (v := (0 : Int32)) C dL_force_2 (by decide) ?_
  refine g_aload_n (pc := 3) C 0 dL_force_3 rfl rfl ?_
  refine g_iload_n (pc := 4) C 1 dL_force_4 rfl rfl ?_
  refine g_iload_n (pc := 5) C 2 dL_force_5 rfl rfl ?_
  refine g_iload_n (pc := 6) C 3 dL_force_6 rfl rfl ?_
  rcases hv_by_some h with ⟨τ, hc, h⟩ | ⟨v, τ, hc, h⟩
  · refine g_wthr (pc := 7) (τ := τ) (As := [.int p1, .int p2, .int p3]) (rest := [.int (0 : Int32), .ref (a 55)]) CW 0 (hv_XO_E a cy) (Nat.le_of_ble_eq_true rfl) (vX7_force (a := fun i => a (i + 0)) hflag hc) (cwV 3 C.1.2.2.2.2 gL_force_X7_force rfl rfl rfl (by decide +kernel) ⟨Nat.le_of_ble_eq_true rfl, Nat.le_of_ble_eq_true rfl⟩) (Nat.le_of_ble_eq_true rfl) rfl rfl rfl rfl (Nat.le_of_ble_eq_true rfl) dL_force_7 ⟨Nat.le_of_ble_eq_true rfl, Nat.le_of_ble_eq_true rfl⟩ (by decide) qL_force_C (by decide) (fun q => ?_)
    refine g_astore (pc := 14) (lv' := [(5, .ref q), (0, .ref (a 0)), (1, .int p1), (2, .int p2), (3, .int p3), (4, .ref (a 55))]) C rfl dL_force_14 (Nat.le_of_ble_eq_true rfl) rfl ?_
    refine g_iconst (pc := 16) (v := (1 : Int32)) C dL_force_16 (by decide) ?_
    cases h
    exact g_wiret (pc := 17) CW hr dL_force_17 (Nat.le_of_ble_eq_true rfl) (Nat.le_of_ble_eq_true rfl)
  · refine g_wret (pc := 7) (τ := τ) (v := some (.long v)) (As := [.int p1, .int p2, .int p3]) (rest := [.int (0 : Int32), .ref (a 55)]) CW 0 (hv_XO_E a cy) (Nat.le_of_ble_eq_true rfl) (vX7_force (a := fun i => a (i + 0)) hflag hc) (cwV 3 C.1.2.2.2.2 gL_force_X7_force rfl rfl rfl (by decide +kernel) ⟨Nat.le_of_ble_eq_true rfl, Nat.le_of_ble_eq_true rfl⟩) (Nat.le_of_ble_eq_true rfl) rfl rfl rfl rfl (Nat.le_of_ble_eq_true rfl) dL_force_7 ⟨Nat.le_of_ble_eq_true rfl, Nat.le_of_ble_eq_true rfl⟩ ?_
    refine g_st (st' := .long v :: [.int (0 : Int32), .ref (a 55)]) rfl ?_
    refine g_last (pc := 10) (x := v) (j := (0 : Int32)) C 55 1 (cA := cy.2.1) (n := 1) rfl (Nat.le_of_ble_eq_true rfl) (fun _ _ => rfl) rfl (by decide) dL_force_10 ?_
    refine g_goto (pc := 11) (tgt := 18) C dL_force_11 (by decide) ?_
    refine g_iconst (pc := 18) (v := (0 : Int32)) C dL_force_18 (by decide) ?_
    cases h
    exact g_wiret (pc := 19) CW hr dL_force_19 (Nat.le_of_ble_eq_true rfl) (Nat.le_of_ble_eq_true rfl)
abbrev rmL_influence : Room := { frames := 8, cells := 2, slots := 12, locals := 166 }
set_option maxRecDepth 20000 in
theorem qL_influence_C : Cond.classLink RL 13 hv_nse ∈ wsL_influence := by decide +kernel
set_option maxHeartbeats 4000000 in
set_option maxRecDepth 20000 in
theorem vL_influence (hflag : l.stackTraces = false) {n : Nat} {σ : hv_St} {p1 : Int32} {p2 : Int32} {p3 : Int32} {p4 : Int32} {o : Int32 × hv_St} (h : mL_influence n σ p1 p2 p3 p4 = some o) : hv_WM l yL_influence wsL_influence rmL_influence D (hv_tys cy) 56 a (hv_XO a cy) 2 12 [.ref (a 0), .int p1, .int p2, .int p3, .int p4, .ref (a 55)] σ (some (.int o.1)) o.2 := by
  refine hv_wenter (own := RL) (cc := cL_influence) (maxL := 7) (ret := some .int) (hh := [(0, 13, 16, 13)]) (by decide) rfl rfl (Nat.le_of_ble_eq_true rfl) ?_
  intro p e s m args below meth c CW hr
  have C := CW.1
  unfold mL_influence at h
  refine g_lv [0, 1, 2, 3, 4, 5] (lv' := [(0, .ref (a 0)), (1, .int p1), (2, .int p2), (3, .int p3), (4, .int p4), (5, .ref (a 55))]) rfl ?_
  refine g_aload (pc := 0) C 5 dL_influence_0 rfl ?_
  refine g_iconst (pc := 2) (v := (0 : Int32)) C dL_influence_2 (by decide) ?_
  refine g_aload_n (pc := 3) C 0 dL_influence_3 rfl rfl ?_
  refine g_iload_n (pc := 4) C 1 dL_influence_4 rfl rfl ?_
  refine g_iload_n (pc := 5) C 2 dL_influence_5 rfl rfl ?_
  refine g_iload_n (pc := 6) C 3 dL_influence_6 rfl rfl ?_
  refine g_iload (pc := 7) C 4 dL_influence_7 rfl ?_
  rcases hv_by_some h with ⟨τ, hc, h⟩ | ⟨v, τ, hc, h⟩
  · refine g_wthr (pc := 9) (τ := τ) (As := [.int p1, .int p2, .int p3, .int p4]) (rest := [.int (0 : Int32), .ref (a 55)]) CW 0 (hv_XO_E a cy) (Nat.le_of_ble_eq_true rfl) (vX7_influence (a := fun i => a (i + 0)) hflag hc) (cwV 4 C.1.2.2.2.2 gL_influence_X7_influence rfl rfl rfl (by decide +kernel) ⟨Nat.le_of_ble_eq_true rfl, Nat.le_of_ble_eq_true rfl⟩) (Nat.le_of_ble_eq_true rfl) rfl rfl rfl rfl (Nat.le_of_ble_eq_true rfl) dL_influence_9 ⟨Nat.le_of_ble_eq_true rfl, Nat.le_of_ble_eq_true rfl⟩ (by decide) qL_influence_C (by decide) (fun q => ?_)
    refine g_astore (pc := 16) (lv' := [(6, .ref q), (0, .ref (a 0)), (1, .int p1), (2, .int p2), (3, .int p3), (4, .int p4), (5, .ref (a 55))]) C rfl dL_influence_16 (Nat.le_of_ble_eq_true rfl) rfl ?_
    refine g_iconst (pc := 18) (v := (1 : Int32)) C dL_influence_18 (by decide) ?_
    cases h
    exact g_wiret (pc := 19) CW hr dL_influence_19 (Nat.le_of_ble_eq_true rfl) (Nat.le_of_ble_eq_true rfl)
  · refine g_wret (pc := 9) (τ := τ) (v := some (.long v)) (As := [.int p1, .int p2, .int p3, .int p4]) (rest := [.int (0 : Int32), .ref (a 55)]) CW 0 (hv_XO_E a cy) (Nat.le_of_ble_eq_true rfl) (vX7_influence (a := fun i => a (i + 0)) hflag hc) (cwV 4 C.1.2.2.2.2 gL_influence_X7_influence rfl rfl rfl (by decide +kernel) ⟨Nat.le_of_ble_eq_true rfl, Nat.le_of_ble_eq_true rfl⟩) (Nat.le_of_ble_eq_true rfl) rfl rfl rfl rfl (Nat.le_of_ble_eq_true rfl) dL_influence_9 ⟨Nat.le_of_ble_eq_true rfl, Nat.le_of_ble_eq_true rfl⟩ ?_
    refine g_st (st' := .long v :: [.int (0 : Int32), .ref (a 55)]) rfl ?_
    refine g_last (pc := 12) (x := v) (j := (0 : Int32)) C 55 1 (cA := cy.2.1) (n := 1) rfl (Nat.le_of_ble_eq_true rfl) (fun _ _ => rfl) rfl (by decide) dL_influence_12 ?_
    refine g_goto (pc := 13) (tgt := 20) C dL_influence_13 (by decide) ?_
    refine g_iconst (pc := 20) (v := (0 : Int32)) C dL_influence_20 (by decide) ?_
    cases h
    exact g_wiret (pc := 21) CW hr dL_influence_21 (Nat.le_of_ble_eq_true rfl) (Nat.le_of_ble_eq_true rfl)
abbrev rmL_cut : Room := { frames := 8, cells := 2, slots := 12, locals := 133 }
set_option maxRecDepth 20000 in
theorem qL_cut_C : Cond.classLink RL 13 hv_nse ∈ wsL_cut := by decide +kernel
set_option maxHeartbeats 4000000 in
set_option maxRecDepth 20000 in
theorem vL_cut (hflag : l.stackTraces = false) {n : Nat} {σ : hv_St} {p1 : Int32} {p2 : Int32} {p3 : Int32} {o : Int32 × hv_St} (h : mL_cut n σ p1 p2 p3 = some o) : hv_WM l yL_cut wsL_cut rmL_cut D (hv_tys cy) 56 a (hv_XO a cy) 2 12 [.ref (a 0), .int p1, .int p2, .int p3, .ref (a 55)] σ (some (.int o.1)) o.2 := by
  refine hv_wenter (own := RL) (cc := cL_cut) (maxL := 6) (ret := some .int) (hh := [(0, 11, 14, 13)]) (by decide) rfl rfl (Nat.le_of_ble_eq_true rfl) ?_
  intro p e s m args below meth c CW hr
  have C := CW.1
  unfold mL_cut at h
  refine g_lv [0, 1, 2, 3, 4] (lv' := [(0, .ref (a 0)), (1, .int p1), (2, .int p2), (3, .int p3), (4, .ref (a 55))]) rfl ?_
  refine g_aload (pc := 0) C 4 dL_cut_0 rfl ?_
  refine g_iconst (pc := 2) (v := (0 : Int32)) C dL_cut_2 (by decide) ?_
  refine g_aload_n (pc := 3) C 0 dL_cut_3 rfl rfl ?_
  refine g_iload_n (pc := 4) C 1 dL_cut_4 rfl rfl ?_
  refine g_iload_n (pc := 5) C 2 dL_cut_5 rfl rfl ?_
  refine g_iload_n (pc := 6) C 3 dL_cut_6 rfl rfl ?_
  rcases hv_by_some h with ⟨τ, hc, h⟩ | ⟨v, τ, hc, h⟩
  · refine g_wthr (pc := 7) (τ := τ) (As := [.int p1, .int p2, .int p3]) (rest := [.int (0 : Int32), .ref (a 55)]) CW 0 (hv_XO_E a cy) (Nat.le_of_ble_eq_true rfl) (vX7_cut (a := fun i => a (i + 0)) hflag hc) (cwV 3 C.1.2.2.2.2 gL_cut_X7_cut rfl rfl rfl (by decide +kernel) ⟨Nat.le_of_ble_eq_true rfl, Nat.le_of_ble_eq_true rfl⟩) (Nat.le_of_ble_eq_true rfl) rfl rfl rfl rfl (Nat.le_of_ble_eq_true rfl) dL_cut_7 ⟨Nat.le_of_ble_eq_true rfl, Nat.le_of_ble_eq_true rfl⟩ (by decide) qL_cut_C (by decide) (fun q => ?_)
    refine g_astore (pc := 14) (lv' := [(5, .ref q), (0, .ref (a 0)), (1, .int p1), (2, .int p2), (3, .int p3), (4, .ref (a 55))]) C rfl dL_cut_14 (Nat.le_of_ble_eq_true rfl) rfl ?_
    refine g_iconst (pc := 16) (v := (1 : Int32)) C dL_cut_16 (by decide) ?_
    cases h
    exact g_wiret (pc := 17) CW hr dL_cut_17 (Nat.le_of_ble_eq_true rfl) (Nat.le_of_ble_eq_true rfl)
  · refine g_wret (pc := 7) (τ := τ) (v := some (.long v)) (As := [.int p1, .int p2, .int p3]) (rest := [.int (0 : Int32), .ref (a 55)]) CW 0 (hv_XO_E a cy) (Nat.le_of_ble_eq_true rfl) (vX7_cut (a := fun i => a (i + 0)) hflag hc) (cwV 3 C.1.2.2.2.2 gL_cut_X7_cut rfl rfl rfl (by decide +kernel) ⟨Nat.le_of_ble_eq_true rfl, Nat.le_of_ble_eq_true rfl⟩) (Nat.le_of_ble_eq_true rfl) rfl rfl rfl rfl (Nat.le_of_ble_eq_true rfl) dL_cut_7 ⟨Nat.le_of_ble_eq_true rfl, Nat.le_of_ble_eq_true rfl⟩ ?_
    refine g_st (st' := .long v :: [.int (0 : Int32), .ref (a 55)]) rfl ?_
    refine g_last (pc := 10) (x := v) (j := (0 : Int32)) C 55 1 (cA := cy.2.1) (n := 1) rfl (Nat.le_of_ble_eq_true rfl) (fun _ _ => rfl) rfl (by decide) dL_cut_10 ?_
    refine g_goto (pc := 11) (tgt := 18) C dL_cut_11 (by decide) ?_
    refine g_iconst (pc := 18) (v := (0 : Int32)) C dL_cut_18 (by decide) ?_
    cases h
    exact g_wiret (pc := 19) CW hr dL_cut_19 (Nat.le_of_ble_eq_true rfl) (Nat.le_of_ble_eq_true rfl)
abbrev rmL_riding : Room := { frames := 8, cells := 2, slots := 12, locals := 165 }
set_option maxRecDepth 20000 in
theorem qL_riding_C : Cond.classLink RL 13 hv_nse ∈ wsL_riding := by decide +kernel
set_option maxHeartbeats 4000000 in
set_option maxRecDepth 20000 in
theorem vL_riding (hflag : l.stackTraces = false) {n : Nat} {σ : hv_St} {p1 : Int32} {p2 : Int32} {p3 : Int32} {o : Int32 × hv_St} (h : mL_riding n σ p1 p2 p3 = some o) : hv_WM l yL_riding wsL_riding rmL_riding D (hv_tys cy) 56 a (hv_XO a cy) 2 12 [.ref (a 0), .int p1, .int p2, .int p3, .ref (a 55)] σ (some (.int o.1)) o.2 := by
  refine hv_wenter (own := RL) (cc := cL_riding) (maxL := 6) (ret := some .int) (hh := [(0, 11, 14, 13)]) (by decide) rfl rfl (Nat.le_of_ble_eq_true rfl) ?_
  intro p e s m args below meth c CW hr
  have C := CW.1
  unfold mL_riding at h
  refine g_lv [0, 1, 2, 3, 4] (lv' := [(0, .ref (a 0)), (1, .int p1), (2, .int p2), (3, .int p3), (4, .ref (a 55))]) rfl ?_
  refine g_aload (pc := 0) C 4 dL_riding_0 rfl ?_
  refine g_iconst (pc := 2) (v := (0 : Int32)) C dL_riding_2 (by decide) ?_
  refine g_aload_n (pc := 3) C 0 dL_riding_3 rfl rfl ?_
  refine g_iload_n (pc := 4) C 1 dL_riding_4 rfl rfl ?_
  refine g_iload_n (pc := 5) C 2 dL_riding_5 rfl rfl ?_
  refine g_iload_n (pc := 6) C 3 dL_riding_6 rfl rfl ?_
  rcases hv_by_some h with ⟨τ, hc, h⟩ | ⟨v, τ, hc, h⟩
  · refine g_wthr (pc := 7) (τ := τ) (As := [.int p1, .int p2, .int p3]) (rest := [.int (0 : Int32), .ref (a 55)]) CW 0 (hv_XO_E a cy) (Nat.le_of_ble_eq_true rfl) (vX7_riding (a := fun i => a (i + 0)) hflag hc) (cwV 3 C.1.2.2.2.2 gL_riding_X7_riding rfl rfl rfl (by decide +kernel) ⟨Nat.le_of_ble_eq_true rfl, Nat.le_of_ble_eq_true rfl⟩) (Nat.le_of_ble_eq_true rfl) rfl rfl rfl rfl (Nat.le_of_ble_eq_true rfl) dL_riding_7 ⟨Nat.le_of_ble_eq_true rfl, Nat.le_of_ble_eq_true rfl⟩ (by decide) qL_riding_C (by decide) (fun q => ?_)
    refine g_astore (pc := 14) (lv' := [(5, .ref q), (0, .ref (a 0)), (1, .int p1), (2, .int p2), (3, .int p3), (4, .ref (a 55))]) C rfl dL_riding_14 (Nat.le_of_ble_eq_true rfl) rfl ?_
    refine g_iconst (pc := 16) (v := (1 : Int32)) C dL_riding_16 (by decide) ?_
    cases h
    exact g_wiret (pc := 17) CW hr dL_riding_17 (Nat.le_of_ble_eq_true rfl) (Nat.le_of_ble_eq_true rfl)
  · refine g_wret (pc := 7) (τ := τ) (v := some (.long v)) (As := [.int p1, .int p2, .int p3]) (rest := [.int (0 : Int32), .ref (a 55)]) CW 0 (hv_XO_E a cy) (Nat.le_of_ble_eq_true rfl) (vX7_riding (a := fun i => a (i + 0)) hflag hc) (cwV 3 C.1.2.2.2.2 gL_riding_X7_riding rfl rfl rfl (by decide +kernel) ⟨Nat.le_of_ble_eq_true rfl, Nat.le_of_ble_eq_true rfl⟩) (Nat.le_of_ble_eq_true rfl) rfl rfl rfl rfl (Nat.le_of_ble_eq_true rfl) dL_riding_7 ⟨Nat.le_of_ble_eq_true rfl, Nat.le_of_ble_eq_true rfl⟩ ?_
    refine g_st (st' := .long v :: [.int (0 : Int32), .ref (a 55)]) rfl ?_
    refine g_last (pc := 10) (x := v) (j := (0 : Int32)) C 55 1 (cA := cy.2.1) (n := 1) rfl (Nat.le_of_ble_eq_true rfl) (fun _ _ => rfl) rfl (by decide) dL_riding_10 ?_
    refine g_goto (pc := 11) (tgt := 18) C dL_riding_11 (by decide) ?_
    refine g_iconst (pc := 18) (v := (0 : Int32)) C dL_riding_18 (by decide) ?_
    cases h
    exact g_wiret (pc := 19) CW hr dL_riding_19 (Nat.le_of_ble_eq_true rfl) (Nat.le_of_ble_eq_true rfl)
abbrev rmL_left : Room := { frames := 8, cells := 2, slots := 12, locals := 165 }
set_option maxRecDepth 20000 in
theorem qL_left_C : Cond.classLink RL 13 hv_nse ∈ wsL_left := by decide +kernel
set_option maxHeartbeats 4000000 in
set_option maxRecDepth 20000 in
theorem vL_left (hflag : l.stackTraces = false) {n : Nat} {σ : hv_St} {p1 : Int32} {p2 : Int32} {p3 : Int32} {o : Int32 × hv_St} (h : mL_left n σ p1 p2 p3 = some o) : hv_WM l yL_left wsL_left rmL_left D (hv_tys cy) 56 a (hv_XO a cy) 2 12 [.ref (a 0), .int p1, .int p2, .int p3, .ref (a 55)] σ (some (.int o.1)) o.2 := by
  refine hv_wenter (own := RL) (cc := cL_left) (maxL := 6) (ret := some .int) (hh := [(0, 11, 14, 13)]) (by decide) rfl rfl (Nat.le_of_ble_eq_true rfl) ?_
  intro p e s m args below meth c CW hr
  have C := CW.1
  unfold mL_left at h
  refine g_lv [0, 1, 2, 3, 4] (lv' := [(0, .ref (a 0)), (1, .int p1), (2, .int p2), (3, .int p3), (4, .ref (a 55))]) rfl ?_
  refine g_aload (pc := 0) C 4 dL_left_0 rfl ?_
  refine g_iconst (pc := 2) (v := (0 : Int32)) C dL_left_2 (by decide) ?_
  refine g_aload_n (pc := 3) C 0 dL_left_3 rfl rfl ?_
  refine g_iload_n (pc := 4) C 1 dL_left_4 rfl rfl ?_
  refine g_iload_n (pc := 5) C 2 dL_left_5 rfl rfl ?_
  refine g_iload_n (pc := 6) C 3 dL_left_6 rfl rfl ?_
  rcases hv_by_some h with ⟨τ, hc, h⟩ | ⟨v, τ, hc, h⟩
  · refine g_wthr (pc := 7) (τ := τ) (As := [.int p1, .int p2, .int p3]) (rest := [.int (0 : Int32), .ref (a 55)]) CW 0 (hv_XO_E a cy) (Nat.le_of_ble_eq_true rfl) (vX7_left (a := fun i => a (i + 0)) hflag hc) (cwV 3 C.1.2.2.2.2 gL_left_X7_left rfl rfl rfl (by decide +kernel) ⟨Nat.le_of_ble_eq_true rfl, Nat.le_of_ble_eq_true rfl⟩) (Nat.le_of_ble_eq_true rfl) rfl rfl rfl rfl (Nat.le_of_ble_eq_true rfl) dL_left_7 ⟨Nat.le_of_ble_eq_true rfl, Nat.le_of_ble_eq_true rfl⟩ (by decide) qL_left_C (by decide) (fun q => ?_)
    refine g_astore (pc := 14) (lv' := [(5, .ref q), (0, .ref (a 0)), (1, .int p1), (2, .int p2), (3, .int p3), (4, .ref (a 55))]) C rfl dL_left_14 (Nat.le_of_ble_eq_true rfl) rfl ?_
    refine g_iconst (pc := 16) (v := (1 : Int32)) C dL_left_16 (by decide) ?_
    cases h
    exact g_wiret (pc := 17) CW hr dL_left_17 (Nat.le_of_ble_eq_true rfl) (Nat.le_of_ble_eq_true rfl)
  · refine g_wret (pc := 7) (τ := τ) (v := some (.long v)) (As := [.int p1, .int p2, .int p3]) (rest := [.int (0 : Int32), .ref (a 55)]) CW 0 (hv_XO_E a cy) (Nat.le_of_ble_eq_true rfl) (vX7_left (a := fun i => a (i + 0)) hflag hc) (cwV 3 C.1.2.2.2.2 gL_left_X7_left rfl rfl rfl (by decide +kernel) ⟨Nat.le_of_ble_eq_true rfl, Nat.le_of_ble_eq_true rfl⟩) (Nat.le_of_ble_eq_true rfl) rfl rfl rfl rfl (Nat.le_of_ble_eq_true rfl) dL_left_7 ⟨Nat.le_of_ble_eq_true rfl, Nat.le_of_ble_eq_true rfl⟩ ?_
    refine g_st (st' := .long v :: [.int (0 : Int32), .ref (a 55)]) rfl ?_
    refine g_last (pc := 10) (x := v) (j := (0 : Int32)) C 55 1 (cA := cy.2.1) (n := 1) rfl (Nat.le_of_ble_eq_true rfl) (fun _ _ => rfl) rfl (by decide) dL_left_10 ?_
    refine g_goto (pc := 11) (tgt := 18) C dL_left_11 (by decide) ?_
    refine g_iconst (pc := 18) (v := (0 : Int32)) C dL_left_18 (by decide) ?_
    cases h
    exact g_wiret (pc := 19) CW hr dL_left_19 (Nat.le_of_ble_eq_true rfl) (Nat.le_of_ble_eq_true rfl)
end
