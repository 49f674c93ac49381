/-! bar, deck -/
theorem pig : ∀ (P : Nat) (l : List Nat), l.Nodup → (∀ x ∈ l, x < P) → l.length ≤ P
  | 0, [], _, _ => Nat.le_refl _
  | 0, x :: l, _, h => absurd (h x List.mem_cons_self) (Nat.not_lt_zero _)
  | P + 1, l, hd, h => by
    have h1 := pig P (l.erase P) (hd.erase P) (fun x hx => by
      have h2 := (hd.mem_erase_iff).mp hx
      have h3 := h x h2.2
      have h4 := h2.1
      omega)
    by_cases hm : P ∈ l
    · have h2 := List.length_erase_of_mem hm
      omega
    · rw [List.erase_of_not_mem hm] at h1
      omega
theorem pig_deck {F : Nat → Nat → Int32} {P D : Nat} (hP : P ≤ 6) (hD : D ≤ P) (h1 : ∀ i, i < D → fN P (F 9 i)) (h2 : ∀ i j, i < D → j < D → F 9 i = F 9 j → i = j) {v : Int32} (hv : fN P v) (h3 : ∀ i, i < D → F 9 i ≠ v) : D < P := by
  have hg : ∀ x, fN P x → ∃ k, k < P ∧ x = nI k := fun x h => h
  refine Nat.lt_of_le_of_ne hD (fun e => ?_)
  have q := pig P ((v :: (List.range D).map (F 9)).map (fun x => x.toNatClampNeg)) ?_ ?_
  · simp at q
    omega
  · have inj : ∀ x y, fN P x → fN P y → x.toNatClampNeg = y.toNatClampNeg → x = y := by
      rintro x y ⟨a, ha, rfl⟩ ⟨b, hb, rfl⟩ e
      rw [nI_clamp (by omega), nI_clamp (by omega)] at e
      rw [e]
    rw [List.map_cons, List.map_map, List.nodup_cons]
    refine ⟨fun hm => ?_, ?_⟩
    · obtain ⟨i, hi, e2⟩ := List.mem_map.mp hm
      have hi2 := List.mem_range.mp hi
      exact h3 i hi2 (inj _ _ (h1 i hi2) hv e2)
    · refine List.Pairwise.map _ (R := fun i j => i < D ∧ j < D ∧ i ≠ j) (fun i j hij e2 => hij.2.2 (h2 i j hij.1 hij.2.1 (inj _ _ (h1 i hij.1) (h1 j hij.2.1) e2))) ?_
      exact List.Pairwise.imp_of_mem (fun {a b} ha hb hab => ⟨List.mem_range.mp ha, List.mem_range.mp hb, hab⟩) (List.nodup_range (n := D))
  · intro x hx
    obtain ⟨y, hy, rfl⟩ := List.mem_map.mp hx
    have hy2 : fN P y := by
      rcases List.mem_cons.mp hy with rfl | hy
      · exact hv
      · obtain ⟨i, hi, rfl⟩ := List.mem_map.mp hy
        exact h1 i (List.mem_range.mp hi)
    obtain ⟨k, hk, rfl⟩ := hy2
    rw [nI_clamp (by omega)]
    exact hk
theorem x6_addPin {n : Nat} {σ : hv_St} {v : Int32} {D : Nat} (hD : D ≤ 6) (hs : σ.1 22 0 = nI D) : ∀ (d k fuel : Nat), k + d = D → d < fuel → ((∃ i, k ≤ i ∧ i < D ∧ σ.1 23 i = v) → kX6_addPin_13 n fuel σ v (nI k) = some (-1, σ)) ∧ ((¬ ∃ i, k ≤ i ∧ i < D ∧ σ.1 23 i = v) → D < 6 → kX6_addPin_13 n fuel σ v (nI k) = some (nI (D + 1), hv_sI (hv_sI σ 23 D v) 22 0 (nI (D + 1)))) := by
  intro d
  induction d with
  | zero =>
    intro k fuel hk hf
    obtain ⟨fuel, rfl⟩ : ∃ q, fuel = q + 1 := ⟨fuel - 1, by omega⟩
    refine ⟨fun ⟨i, h1, h2, _⟩ => by omega, fun _ h6 => ?_⟩
    show kX6_addPin_13_b n _ _ _ _ = _
    unfold kX6_addPin_13_b
    rw [hs, if_pos (nI_le (by omega) (by omega)), hv_if_t (hv_ok_nI h6 (by decide)), nI_clamp (by omega), hv_let_e, hv_let_e, hv_sI_rd, if_pos rfl, hv_sI_ne _ _ _ (by decide), hs, nI_1]
  | succ d ih =>
    intro k fuel hk hf
    obtain ⟨fuel, rfl⟩ : ∃ q, fuel = q + 1 := ⟨fuel - 1, by omega⟩
    have hi := ih (k + 1) fuel (by omega) (by omega)
    have e : kX6_addPin_13 n (fuel + 1) σ v (nI k) = if σ.1 23 k = v then some (-1, σ) else kX6_addPin_13 n fuel σ v (nI (k + 1)) := by
      show kX6_addPin_13_b n _ _ _ _ = _
      unfold kX6_addPin_13_b
      rw [hs, if_neg (nI_ge (by omega) (by omega)), hv_if_t (hv_ok_nI (show k < 6 by omega) (by decide)), nI_clamp (by omega), nI_1]
    rw [e]
    by_cases h1 : σ.1 23 k = v
    · rw [if_pos h1]
      exact ⟨fun _ => rfl, fun h => absurd ⟨k, Nat.le_refl _, by omega, h1⟩ h⟩
    · rw [if_neg h1]
      refine ⟨fun ⟨p, h2, h3, h4⟩ => hi.1 ⟨p, ?_, h3, h4⟩, fun h => hi.2 (fun ⟨p, h2, h3, h4⟩ => h ⟨p, by omega, h3, h4⟩)⟩
      by_cases h5 : p = k
      · rw [h5] at h4
        exact absurd h4 h1
      · omega
theorem r8_deck {n : Nat} {σ : hv_St} {v : Int32} {D : Nat} (hD : D ≤ 6) (hs : σ.1 0 13 = nI D) : ∀ (d k fuel : Nat), k + d = D → d < fuel → ((∃ i, k ≤ i ∧ i < D ∧ σ.1 9 i = v) → kX8_deck_17 n fuel σ v (nI k) = some (-1, σ)) ∧ ((¬ ∃ i, k ≤ i ∧ i < D ∧ σ.1 9 i = v) → D < 6 → kX8_deck_17 n fuel σ v (nI k) = some (nI (D + 1), hv_sI (hv_sI σ 9 D v) 0 13 (nI (D + 1)))) := by
  intro d
  induction d with
  | zero =>
    intro k fuel hk hf
    obtain ⟨fuel, rfl⟩ : ∃ q, fuel = q + 1 := ⟨fuel - 1, by omega⟩
    refine ⟨fun ⟨i, h1, h2, _⟩ => by omega, fun _ h6 => ?_⟩
    show kX8_deck_17_b n _ _ _ _ = _
    unfold kX8_deck_17_b
    rw [hs, if_pos (nI_le (by omega) (by omega)), hv_if_t (hv_ok_nI h6 (by decide)), nI_clamp (by omega), hv_let_e, hv_let_e, hv_sI_rd, if_pos rfl, hv_sI_ne _ _ _ (by decide), hs, nI_1]
  | succ d ih =>
    intro k fuel hk hf
    obtain ⟨fuel, rfl⟩ : ∃ q, fuel = q + 1 := ⟨fuel - 1, by omega⟩
    have hi := ih (k + 1) fuel (by omega) (by omega)
    have e : kX8_deck_17 n (fuel + 1) σ v (nI k) = if σ.1 9 k = v then some (-1, σ) else kX8_deck_17 n fuel σ v (nI (k + 1)) := by
      show kX8_deck_17_b n _ _ _ _ = _
      unfold kX8_deck_17_b
      rw [hs, if_neg (nI_ge (by omega) (by omega)), hv_if_t (hv_ok_nI (show k < 6 by omega) (by decide)), nI_clamp (by omega), nI_1]
    rw [e]
    by_cases h1 : σ.1 9 k = v
    · rw [if_pos h1]
      exact ⟨fun _ => rfl, fun h => absurd ⟨k, Nat.le_refl _, by omega, h1⟩ h⟩
    · rw [if_neg h1]
      refine ⟨fun ⟨p, h2, h3, h4⟩ => hi.1 ⟨p, ?_, h3, h4⟩, fun h => hi.2 (fun ⟨p, h2, h3, h4⟩ => h ⟨p, by omega, h3, h4⟩)⟩
      by_cases h5 : p = k
      · rw [h5] at h4
        exact absurd h4 h1
      · omega
theorem op_deck {n : Nat} (hn : 12 < n) {F : Nat → Nat → Int32} {P B O D W : Nat} {σX σM : hv_St} (h : hR F P B O D W σX σM) (v : Int32) : ∃ r σX' σM' F' D', mX7_deck n σX v = some (r, σX') ∧ mX8_deck n σM v = some (r, σM') ∧ hR F' P B O D' W σX' σM' := by
  obtain ⟨hi, hx, hm⟩ := h
  have hP := hi.1
  have hP6 := hP.2
  have hD := hi.2.2.2.1
  have hDP := hD.2
  have sX : σX.1 1 0 = nI P := hx.1.1.trans hP.1
  have dX : σX.1 22 0 = nI D := hx.1.2.2.2.1.trans hD.1
  have hm0 : rM F (hv_sI σM 0 0 0) := rM_sc hm (by decide) 0
  have sM : (hv_sI σM 0 0 0).1 0 1 = nI P := hm0.1.1.trans hP.1
  have dM : (hv_sI σM 0 0 0).1 0 13 = nI D := hm0.1.2.2.2.1.trans hD.1
  have e9 : (hv_sI σM 0 0 0).1 9 = F 9 := hm0.2 9 (by decide) (by decide)
  by_cases hv : fN P v
  · have cX := x6_addPin (n := n) (σ := σX) (v := v) (by omega) dX D 0 n (by omega) (by omega)
    have cM := r8_deck (n := n) (σ := hv_sI σM 0 0 0) (v := v) (by omega) dM D 0 n (by omega) (by omega)
    by_cases hit : ∃ i, i < D ∧ F 9 i = v
    · obtain ⟨i, i1, i2⟩ := hit
      refine ⟨-1, σX, hv_sI σM 0 0 0, F, D, ?_, ?_, hi, hx, hm0⟩
      · unfold mX7_deck mX6_addPin
        rw [(x3_isPin (by omega) sX v).1 hv, hv_b2_e, if_neg (by decide), dX]
        by_cases l6 : nI D < (6 : Int32)
        · rw [if_pos l6]
          rw [show kX6_addPin_13 n n σX v 0 = some (-1, σX) from cX.1 ⟨i, Nat.zero_le _, i1, (hx.2.2.2.2.2.1 i (by omega)).trans i2⟩]
          rfl
        · rw [if_neg l6]
          rfl
      · unfold mX8_deck
        rw [hv_let_e, (r8_isPin (by omega) sM v).1 hv, hv_b2_e, if_neg (by decide)]
        exact cM.1 ⟨i, Nat.zero_le _, i1, by rw [e9]; exact i2⟩
    · have hlt : D < P := pig_deck hP6 hDP hi.2.2.2.2.2.2.2.2.2.1 hi.2.2.2.2.2.2.2.2.2.2.1 hv (fun i i1 i2 => hit ⟨i, i1, i2⟩)
      refine ⟨nI (D + 1), hv_sI (hv_sI σX 23 D v) 22 0 (nI (D + 1)), hv_sI (hv_sI (hv_sI σM 0 0 0) 9 D v) 0 13 (nI (D + 1)), fU (fU F 9 D v) 0 13 (nI (D + 1)), D + 1, ?_, ?_, ?_, ?_, rM_up (rM_up hm0 (k := 9) (by decide) D v) (k := 0) (by decide) 13 _⟩
      · unfold mX7_deck mX6_addPin
        rw [(x3_isPin (by omega) sX v).1 hv, hv_b2_e, if_neg (by decide), dX, if_pos (show nI D < (6 : Int32) from nI_lt (b := 6) (by omega) (by decide))]
        rw [show kX6_addPin_13 n n σX v 0 = _ from cX.2 (fun ⟨i, _, i1, i2⟩ => hit ⟨i, i1, (hx.2.2.2.2.2.1 i (by omega)).symm.trans i2⟩) (by omega)]
        rfl
      · unfold mX8_deck
        rw [hv_let_e, (r8_isPin (by omega) sM v).1 hv, hv_b2_e, if_neg (by decide)]
        exact cM.2 (fun ⟨i, _, i1, i2⟩ => hit ⟨i, i1, by rw [e9] at i2; exact i2⟩) (by omega)
      · obtain ⟨g1, g2, g3, g4, g5, g6, g7, g8, g9, g10, g11, g12⟩ := hi
        refine ⟨⟨by simp [fU, upd, g1.1], g1.2⟩, ⟨by simp [fU, upd, g2.1], g2.2⟩, ⟨by simp [fU, upd, g3.1], g3.2⟩, ⟨by simp [fU, upd], hlt⟩, ⟨by simp [fU, upd, g5.1], g5.2⟩, fun p hp' => by simpa [fU, upd] using g6 p hp', fun b hb => by simpa [fU, upd] using g7 b hb, fun s hs => by simpa [fU, upd] using g8 s hs, fun p hp' => by simpa [fU, upd] using g9 p hp', fun i hi' => ?_, fun i j hi' hj => ?_, fun i hi' => by simpa [fU, upd] using g12 i hi'⟩
        · rw [fU_ne _ _ _ (by decide), fU_at]
          by_cases e : i = D
          · rw [if_pos e]
            exact hv
          · rw [if_neg e]
            exact g10 i (by omega)
        · rw [fU_ne _ _ _ (by decide), fU_at, fU_at]
          by_cases e : i = D
          · rw [if_pos e]
            by_cases e2 : j = D
            · rw [if_pos e2]
              omega
            · rw [if_neg e2]
              exact fun q => absurd ⟨j, by omega, q.symm⟩ hit
          · rw [if_neg e]
            by_cases e2 : j = D
            · rw [if_pos e2]
              exact fun q => absurd ⟨i, by omega, q⟩ hit
            · rw [if_neg e2]
              exact g11 i j (by omega) (by omega)
      · obtain ⟨⟨k1, k2, k3, k4, k5⟩, k6, k7, k8, k9, k10, k11⟩ := hx
        refine ⟨⟨by simp [hv_sI, fU, upd, k1], by simp [hv_sI, fU, upd, k2], by simp [hv_sI, fU, upd, k3], by simp [hv_sI, fU, upd], by simp [hv_sI, fU, upd, k5]⟩, fun p hp' => by simpa [hv_sI, fU, upd] using k6 p hp', fun s hs => by simpa [hv_sI, fU, upd] using k7 s hs, fun p w hp' hw => by simpa [hv_sI, fU, upd] using k8 p w hp' hw, fun b hb => by simpa [hv_sI, fU, upd] using k9 b hb, fun i hi' => ?_, fun i hi' => by simpa [hv_sI, fU, upd] using k11 i hi'⟩
        rw [hv_sI_ne _ _ _ (by decide), hv_sI_rd, fU_ne _ _ _ (by decide), fU_at, k10 i hi']
  · refine ⟨-1, σX, hv_sI σM 0 0 0, F, D, ?_, ?_, hi, hx, hm0⟩
    · unfold mX7_deck
      rw [(x3_isPin (by omega) sX v).2 hv, hv_b2_e, if_pos rfl]
    · unfold mX8_deck
      rw [hv_let_e, (r8_isPin (by omega) sM v).2 hv, hv_b2_e, if_pos rfl]
