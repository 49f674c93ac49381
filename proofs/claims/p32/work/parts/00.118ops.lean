/-! hold, unload -/
theorem bit_fin : ∀ (h : Fin 4) (w : Fin 2), ((nI h.val >>> (nI w.val &&& 31)) &&& 1 = 0 ∨ (nI h.val >>> (nI w.val &&& 31)) &&& 1 = 1) ∧ (∃ k : Fin 4, nI h.val ^^^ ((1 : Int32) <<< (nI w.val &&& 31)) = nI k.val) ∧ (nI h.val >>> (nI w.val &&& 31) = nI h.val >>> nI w.val) ∧ ∀ v : Fin 2, ((nI h.val ^^^ ((1 : Int32) <<< (nI w.val &&& 31))) >>> nI v.val) &&& 1 = if v = w then (if (nI h.val >>> nI w.val) &&& 1 = 0 then 1 else 0) else (nI h.val >>> nI v.val) &&& 1 := by decide +kernel
theorem bit_p {h w : Nat} (hh : h < 4) (hw : w < 2) : ((nI h >>> (nI w &&& 31)) &&& 1 = 0 ∨ (nI h >>> (nI w &&& 31)) &&& 1 = 1) ∧ fN 4 (nI h ^^^ ((1 : Int32) <<< (nI w &&& 31))) ∧ (nI h >>> (nI w &&& 31) = nI h >>> nI w) ∧ ∀ v, v < 2 → ((nI h ^^^ ((1 : Int32) <<< (nI w &&& 31))) >>> nI v) &&& 1 = if v = w then (if (nI h >>> nI w) &&& 1 = 0 then 1 else 0) else (nI h >>> nI v) &&& 1 := by
  obtain ⟨h1, ⟨k, hk⟩, h3, h4⟩ := bit_fin ⟨h, hh⟩ ⟨w, hw⟩
  refine ⟨h1, ⟨k.val, k.isLt, hk⟩, h3, fun v hv => ?_⟩
  have q := h4 ⟨v, hv⟩
  by_cases e : v = w
  · rw [if_pos (Fin.ext e)] at q
    rw [if_pos e]
    exact q
  · rw [if_neg (fun e2 => e (Fin.mk.inj e2))] at q
    rw [if_neg e]
    exact q
theorem r8_inDir {n : Nat} {σ : hv_St} (v : Int32) : (fN 2 v → mX8_in n σ v.toInt64 (0 : Int64) (1 : Int64) = some (1, σ)) ∧ (¬ fN 2 v → mX8_in n σ v.toInt64 (0 : Int64) (1 : Int64) = some (0, σ)) := by
  have hx : fN 2 v ↔ (0 : Int32) ≤ v ∧ v ≤ 1 := fN_in (N := 2) (by decide) v
  rw [show (0 : Int64) = (0 : Int32).toInt64 from rfl, show (1 : Int64) = (1 : Int32).toInt64 from rfl, r8_in32]
  exact ⟨fun h => by rw [if_pos (hx.mp h)], fun h => by rw [if_neg (fun q => h (hx.mpr q))]⟩
theorem x7_isDirection {n : Nat} {σ : hv_St} (v : Int32) : (fN 2 v → mX7_isDirection n σ v = some (1, σ)) ∧ (¬ fN 2 v → mX7_isDirection n σ v = some (0, σ)) := by
  unfold mX7_isDirection kX7_isDirection_9
  by_cases h1 : v = 0
  · rw [if_pos h1]
    exact ⟨fun _ => rfl, fun h => absurd ⟨0, by decide, h1⟩ h⟩
  · rw [if_neg h1]
    by_cases h2 : v = 1
    · rw [if_pos h2]
      exact ⟨fun _ => rfl, fun h => absurd ⟨1, by decide, h2⟩ h⟩
    · rw [if_neg h2]
      refine ⟨fun h => ?_, fun _ => rfl⟩
      obtain ⟨k, hk, rfl⟩ := h
      rcases (show k = 0 ∨ k = 1 by omega) with rfl | rfl
      · exact absurd rfl h1
      · exact absurd rfl h2
theorem op_hold {n : Nat} {F : Nat → Nat → Int32} {P B O D W : Nat} {σX σM : hv_St} (h : hR F P B O D W σX σM) (v w x : Int32) (hxb : x = 0 ∨ x = 1) : ∃ r σX' σM' F', mX7_hold n σX v w x = some (r, σX') ∧ mX8_hold n σM v w x = some (r, σM') ∧ hR F' P B O D W σX' σM' := by
  obtain ⟨hi, hx, hm⟩ := h
  have hP := hi.1
  have hP6 := hP.2
  have sX : σX.1 1 0 = nI P := hx.1.1.trans hP.1
  have hm0 : rM F (hv_sI σM 0 0 0) := rM_sc hm (by decide) 0
  have sM : (hv_sI σM 0 0 0).1 0 1 = nI P := hm0.1.1.trans hP.1
  by_cases hv : fN P v
  · by_cases hw : fN 2 w
    · obtain ⟨k, hk, rfl⟩ := hv
      obtain ⟨q, hq, rfl⟩ := hw
      obtain ⟨m, hm4, em⟩ := hi.2.2.2.2.2.2.2.2.1 k (by omega)
      obtain ⟨b1, b2, b3, b4⟩ := bit_p hm4 hq
      have eX : σX.1 4 (2 * k + q) = (nI m >>> nI q) &&& 1 := by rw [hx.2.2.2.1 k q (by omega) hq, em]
      have eM : (hv_sI σM 0 0 0).1 3 k = nI m := by rw [hm0.2 3 (by decide) (by decide), em]
      have c1 : (2 : Int32) * nI k + nI q = nI (2 * k + q) := by rw [nI_2, nI_add]
      have ok12 : hv_ok (nI (2 * k + q)) 12 = true := hv_ok_nI (by omega) (by decide)
      have ok6 : hv_ok (nI k) 6 = true := hv_ok_nI (by omega) (by decide)
      have k12 : (nI (2 * k + q)).toNatClampNeg = 2 * k + q := nI_clamp (by omega)
      have k6 : (nI k).toNatClampNeg = k := nI_clamp (by omega)
      have hz : hv_z x = true := by rcases hxb with rfl | rfl <;> rfl
      have iOn : mX8_isOn n (hv_sI σM 0 0 0) (nI m) (nI q) = some ((nI m >>> nI q) &&& 1, hv_sI σM 0 0 0) := by
        unfold mX8_isOn
        rw [b3]
        rw [b3] at b1
        rcases b1 with e | e
        · rw [e, if_neg (by decide)]
        · rw [e, if_pos rfl]
      by_cases he : (nI m >>> nI q) &&& 1 = x
      · refine ⟨0, σX, hv_sI σM 0 0 0, F, ?_, ?_, hi, hx, hm0⟩
        · unfold mX7_hold
          rw [(x3_isPin (by omega) sX (nI k)).1 ⟨k, hk, rfl⟩, hv_b2_e, if_neg (by decide), (x7_isDirection (nI q)).1 ⟨q, hq, rfl⟩, hv_b2_e, if_neg (by decide), hv_let_e, c1, hv_if_t ok12, k12, if_pos (eX.trans he)]
        · unfold mX8_hold
          rw [hv_let_e, (r8_isPin (by omega) sM (nI k)).1 ⟨k, hk, rfl⟩, hv_b2_e, if_neg (by decide), (r8_inDir (nI q)).1 ⟨q, hq, rfl⟩, hv_b2_e, if_neg (by decide), hv_if_t ok6, k6, eM, iOn, hv_b2_e, if_pos he]
      · refine ⟨1, hv_sI σX 4 (2 * k + q) x, hv_sI (hv_sI σM 0 0 0) 3 k (nI m ^^^ ((1 : Int32) <<< (nI q &&& 31))), fU F 3 k (nI m ^^^ ((1 : Int32) <<< (nI q &&& 31))), ?_, ?_, ?_, ?_, rM_up hm0 (k := 3) (by decide) k _⟩
        · unfold mX7_hold
          rw [(x3_isPin (by omega) sX (nI k)).1 ⟨k, hk, rfl⟩, hv_b2_e, if_neg (by decide), (x7_isDirection (nI q)).1 ⟨q, hq, rfl⟩, hv_b2_e, if_neg (by decide), hv_let_e, c1, hv_if_t ok12, k12, if_neg (fun e => he (eX.symm.trans e)), hv_if_t ok12, hv_if_t hz, hv_let_e]
        · unfold mX8_hold
          rw [hv_let_e, (r8_isPin (by omega) sM (nI k)).1 ⟨k, hk, rfl⟩, hv_b2_e, if_neg (by decide), (r8_inDir (nI q)).1 ⟨q, hq, rfl⟩, hv_b2_e, if_neg (by decide), hv_if_t ok6, k6, eM, iOn, hv_b2_e, if_neg he, hv_if_t ok6, hv_if_t ok6, hv_let_e, eM]
        · obtain ⟨g1, g2, g3, g4, g5, g6, g7, g8, g9, g10, g11, g12⟩ := hi
          refine ⟨⟨by simp [fU, upd, g1.1], g1.2⟩, ⟨by simp [fU, upd, g2.1], g2.2⟩, ⟨by simp [fU, upd, g3.1], g3.2⟩, ⟨by simp [fU, upd, g4.1], g4.2⟩, ⟨by simp [fU, upd, g5.1], g5.2⟩, fun p hp' => by simpa [fU, upd] using g6 p hp', fun b hb => by simpa [fU, upd] using g7 b hb, fun s hs => by simpa [fU, upd] using g8 s hs, fun p hp' => ?_, fun i hi' => by simpa [fU, upd] using g10 i hi', fun i j hi' hj => by simpa [fU, upd] using g11 i j hi' hj, fun i hi' => by simpa [fU, upd] using g12 i hi'⟩
          rw [fU_at]
          by_cases e : p = k
          · rw [if_pos e]
            exact b2
          · rw [if_neg e]
            exact g9 p hp'
        · obtain ⟨⟨k1, k2, k3, k4, k5⟩, k6, k7, k8, k9, k10, k11⟩ := hx
          refine ⟨⟨by simp [hv_sI, fU, upd, k1], by simp [hv_sI, fU, upd, k2], by simp [hv_sI, fU, upd, k3], by simp [hv_sI, fU, upd, k4], by simp [hv_sI, fU, upd, k5]⟩, fun p hp' => by simpa [hv_sI, fU, upd] using k6 p hp', fun s hs => by simpa [hv_sI, fU, upd] using k7 s hs, fun p w hp' hw => ?_, fun b hb => by simpa [hv_sI, fU, upd] using k9 b hb, fun i hi' => by simpa [hv_sI, fU, upd] using k10 i hi', fun i hi' => by simpa [hv_sI, fU, upd] using k11 i hi'⟩
          rw [hv_sI_rd, fU_at]
          by_cases e : p = k
          · subst e
            rw [if_pos rfl, b4 w hw]
            by_cases e2 : w = q
            · subst e2
              rw [if_pos rfl, if_pos rfl]
              rw [b3] at b1
              rcases b1 with f | f
              · rw [f, if_pos rfl]
                rw [f] at he
                rcases hxb with r | r
                · exact absurd r.symm he
                · exact r
              · rw [f, if_neg (by decide)]
                rw [f] at he
                rcases hxb with r | r
                · exact r
                · exact absurd r.symm he
            · rw [if_neg (by omega), if_neg e2, k8 p w hp' hw, em]
          · rw [if_neg (by omega), if_neg e]
            exact k8 p w hp' hw
    · refine ⟨0, σX, hv_sI σM 0 0 0, F, ?_, ?_, hi, hx, hm0⟩
      · unfold mX7_hold
        rw [(x3_isPin (by omega) sX v).1 hv, hv_b2_e, if_neg (by decide), (x7_isDirection w).2 hw, hv_b2_e, if_pos rfl]
      · unfold mX8_hold
        rw [hv_let_e, (r8_isPin (by omega) sM v).1 hv, hv_b2_e, if_neg (by decide), (r8_inDir w).2 hw, hv_b2_e, if_pos rfl]
  · refine ⟨0, σX, hv_sI σM 0 0 0, F, ?_, ?_, hi, hx, hm0⟩
    · unfold mX7_hold
      rw [(x3_isPin (by omega) sX v).2 hv, hv_b2_e, if_pos rfl]
    · unfold mX8_hold
      rw [hv_let_e, (r8_isPin (by omega) sM v).2 hv, hv_b2_e, if_pos rfl]
/-- how many of f k .. f (k + d - 1) aren't 0 -/
def fCz (f : Nat → Int32) : Nat → Nat → Nat
  | _, 0 => 0
  | k, d + 1 => (if f k = 0 then 0 else 1) + fCz f (k + 1) d
theorem fCz_congr {f g : Nat → Int32} : ∀ (d k : Nat), (∀ i, k ≤ i → i < k + d → f i = g i) → fCz f k d = fCz g k d
  | 0, _, _ => rfl
  | d + 1, k, h => by
    show (if f k = 0 then 0 else 1) + fCz f (k + 1) d = (if g k = 0 then 0 else 1) + fCz g (k + 1) d
    rw [h k (Nat.le_refl _) (by omega), fCz_congr d (k + 1) (fun i h1 h2 => h i (by omega) (by omega))]
theorem x7_unload {n : Nat} : ∀ (d k fuel c : Nat) (σ : hv_St), k + d = 12 → d < fuel → ∃ f, kX7_unload_4 n fuel σ (nI c) (nI k) = some (nI (c + fCz (σ.1 3) k d), hv_wI σ 3 f) ∧ ∀ s, s < 12 → f s = if k ≤ s then 0 else σ.1 3 s := by
  intro d
  induction d with
  | zero =>
    intro k fuel c σ hk hf
    obtain ⟨fuel, rfl⟩ : ∃ q, fuel = q + 1 := ⟨fuel - 1, by omega⟩
    refine ⟨σ.1 3, ?_, fun s hs => by rw [if_neg (by omega)]⟩
    show kX7_unload_4_b n _ _ _ _ = _
    unfold kX7_unload_4_b
    rw [if_pos (show (12 : Int32) ≤ nI k from nI_le (a := 12) (by omega) (by omega)), hv_wI_self]
    rfl
  | succ d ih =>
    intro k fuel c σ hk hf
    obtain ⟨fuel, rfl⟩ : ∃ q, fuel = q + 1 := ⟨fuel - 1, by omega⟩
    have e : kX7_unload_4 n (fuel + 1) σ (nI c) (nI k) = if σ.1 3 k = 0 then kX7_unload_4 n fuel σ (nI c) (nI (k + 1)) else kX7_unload_4 n fuel (hv_sI σ 3 k 0) (nI (c + 1)) (nI (k + 1)) := by
      show kX7_unload_4_b n _ _ _ _ = _
      unfold kX7_unload_4_b kX7_unload_35
      rw [if_neg (show ¬ (12 : Int32) ≤ nI k from nI_ge (b := 12) (by omega) (by omega))]
      simp only [nI_1, hv_if_t (hv_ok_nI (show k < 12 by omega) (by decide)), nI_clamp (show k < 2 ^ 31 by omega), hv_let_e]
    rw [e]
    show ∃ f, _ = some (nI (c + ((if σ.1 3 k = 0 then 0 else 1) + fCz (σ.1 3) (k + 1) d)), _) ∧ _
    by_cases h1 : σ.1 3 k = 0
    · rw [if_pos h1, if_pos h1, Nat.zero_add]
      obtain ⟨f, f1, f2⟩ := ih (k + 1) fuel c σ (by omega) (by omega)
      refine ⟨f, f1, fun s hs => ?_⟩
      rw [f2 s hs]
      by_cases a : k + 1 ≤ s
      · rw [if_pos a, if_pos (by omega)]
      · rw [if_neg a]
        by_cases b : k ≤ s
        · rw [if_pos b, show s = k by omega, h1]
        · rw [if_neg b]
    · rw [if_neg h1, if_neg h1]
      obtain ⟨f, f1, f2⟩ := ih (k + 1) fuel (c + 1) (hv_sI σ 3 k 0) (by omega) (by omega)
      refine ⟨f, ?_, fun s hs => ?_⟩
      · rw [f1, hv_sI_w, hv_wI_w, hv_wI_at, fCz_congr (g := σ.1 3) d (k + 1) (fun i h1 _ => pk_un (by omega)), Nat.add_assoc]
      · rw [f2 s hs, hv_sI_rd]
        by_cases a : k + 1 ≤ s
        · rw [if_pos a, if_pos (by omega)]
        · rw [if_neg a]
          by_cases b : s = k
          · rw [if_pos b, if_pos (by omega)]
          · rw [if_neg b, if_neg (by omega)]
theorem r8_unload {n : Nat} : ∀ (d k fuel c : Nat) (σ : hv_St), k + d = 12 → d < fuel → ∃ f, kX8_unload_9 n fuel σ (nI c) (nI k) = some (nI (c + fCz (σ.1 4) k d), hv_wI σ 4 f) ∧ ∀ s, s < 12 → f s = if k ≤ s then 0 else σ.1 4 s := by
  intro d
  induction d with
  | zero =>
    intro k fuel c σ hk hf
    obtain ⟨fuel, rfl⟩ : ∃ q, fuel = q + 1 := ⟨fuel - 1, by omega⟩
    refine ⟨σ.1 4, ?_, fun s hs => by rw [if_neg (by omega)]⟩
    show kX8_unload_9_b n _ _ _ _ = _
    unfold kX8_unload_9_b
    rw [if_pos (show (12 : Int32) ≤ nI k from nI_le (a := 12) (by omega) (by omega)), hv_wI_self]
    rfl
  | succ d ih =>
    intro k fuel c σ hk hf
    obtain ⟨fuel, rfl⟩ : ∃ q, fuel = q + 1 := ⟨fuel - 1, by omega⟩
    have e : kX8_unload_9 n (fuel + 1) σ (nI c) (nI k) = kX8_unload_9 n fuel (hv_sI σ 4 k 0) (nI (c + if σ.1 4 k = 0 then 0 else 1)) (nI (k + 1)) := by
      show kX8_unload_9_b n _ _ _ _ = _
      unfold kX8_unload_9_b kX8_unload_30
      rw [if_neg (show ¬ (12 : Int32) ≤ nI k from nI_ge (b := 12) (by omega) (by omega))]
      simp only [nI_1, hv_if_t (hv_ok_nI (show k < 12 by omega) (by decide)), nI_clamp (show k < 2 ^ 31 by omega), hv_let_e]
      by_cases h1 : σ.1 4 k = 0
      · rw [if_pos h1, if_pos h1, show nI c + 0 = nI (c + 0) from nI_add c 0]
      · rw [if_neg h1, if_neg h1]
    rw [e]
    obtain ⟨f, f1, f2⟩ := ih (k + 1) fuel (c + if σ.1 4 k = 0 then 0 else 1) (hv_sI σ 4 k 0) (by omega) (by omega)
    refine ⟨f, ?_, fun s hs => ?_⟩
    · rw [f1, hv_sI_w, hv_wI_w, hv_wI_at, fCz_congr (g := σ.1 4) d (k + 1) (fun i h1 _ => pk_un (by omega)), Nat.add_assoc]
      rfl
    · rw [f2 s hs, hv_sI_rd]
      by_cases a : k + 1 ≤ s
      · rw [if_pos a, if_pos (by omega)]
      · rw [if_neg a]
        by_cases b : s = k
        · rw [if_pos b, if_pos (by omega)]
        · rw [if_neg b, if_neg (by omega)]
theorem op_unload {n : Nat} (hn : 12 < n) {F : Nat → Nat → Int32} {P B O D W : Nat} {σX σM : hv_St} (h : hR F P B O D W σX σM) : ∃ r σX' σM' F', mX7_unload n σX = some (r, σX') ∧ mX8_unload n σM = some (r, σM') ∧ hR F' P B O D W σX' σM' := by
  obtain ⟨hi, hx, hm⟩ := h
  have hm0 : rM F (hv_sI σM 0 0 0) := rM_sc hm (by decide) 0
  obtain ⟨f, f1, f2⟩ := x7_unload (n := n) 12 0 n 0 σX rfl hn
  obtain ⟨g, g1, g2⟩ := r8_unload (n := n) 12 0 n 0 (hv_sI σM 0 0 0) rfl hn
  have ec : fCz ((hv_sI σM 0 0 0).1 4) 0 12 = fCz (σX.1 3) 0 12 := fCz_congr 12 0 (fun i _ hi' => by
    rw [hm0.2 4 (by decide) (by decide), hx.2.2.1 i (by omega)])
  refine ⟨nI (0 + fCz (σX.1 3) 0 12), hv_wI σX 3 f, hv_wI (hv_sI σM 0 0 0) 4 g, fun j => if j = 4 then g else F j, f1, ?_, ?_, ?_, ?_⟩
  · unfold mX8_unload
    rw [hv_let_e]
    rw [ec] at g1
    exact g1
  · obtain ⟨g1, g2', g3, g4, g5, g6, g7, g8, g9, g10, g11, g12⟩ := hi
    refine ⟨g1, g2', g3, g4, g5, g6, g7, fun s hs => ⟨0, ?_, by decide, by decide⟩, g9, g10, g11, g12⟩
    show g s = _
    rw [g2 s hs, if_pos (Nat.zero_le _)]
    rfl
  · obtain ⟨k5, k6, k7, k8, k9, k10, k11⟩ := hx
    refine ⟨k5, k6, fun s hs => ?_, k8, k9, k10, k11⟩
    show f s = g s
    rw [f2 s hs, g2 s hs, if_pos (Nat.zero_le _), if_pos (Nat.zero_le _)]
  · obtain ⟨h1, h2⟩ := hm0
    refine ⟨h1, fun k k1 k2 => ?_⟩
    show (if k = 4 then g else (hv_sI σM 0 0 0).1 k) = if k = 4 then g else F k
    by_cases e : k = 4
    · rw [if_pos e, if_pos e]
    · rw [if_neg e, if_neg e]
      exact h2 k k1 k2
