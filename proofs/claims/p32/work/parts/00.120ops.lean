/-! bar -/
theorem nI_or (a b : Nat) : nI a ||| nI b = nI (a ||| b) := by
  show Int32.ofNat a ||| Int32.ofNat b = Int32.ofNat (a ||| b)
  rw [← Int32.toBitVec_inj, Int32.toBitVec_or, Int32.toBitVec_ofNat', Int32.toBitVec_ofNat', Int32.toBitVec_ofNat', BitVec.ofNat_or]
theorem nI_and (a b : Nat) : nI a &&& nI b = nI (a &&& b) := by
  show Int32.ofNat a &&& Int32.ofNat b = Int32.ofNat (a &&& b)
  rw [← Int32.toBitVec_inj, Int32.toBitVec_and, Int32.toBitVec_ofNat', Int32.toBitVec_ofNat', Int32.toBitVec_ofNat', BitVec.ofNat_and]
def fBe (f g : Nat → Int32) (B : Nat) (v w : Int32) (k : Nat) : Prop := ∃ b, k ≤ b ∧ b < B ∧ ((f b = v ∧ g b = w) ∨ (f b = w ∧ g b = v))
theorem fBe_step {f g : Nat → Int32} {B : Nat} {v w : Int32} {k : Nat} (h1 : ¬ ((f k = v ∧ g k = w) ∨ (f k = w ∧ g k = v))) (h : fBe f g B v w k) : fBe f g B v w (k + 1) := by
  obtain ⟨b, b1, b2, b3⟩ := h
  refine ⟨b, ?_, b2, b3⟩
  by_cases e : b = k
  · subst e
    exact absurd b3 h1
  · omega
theorem fBe_up {f g : Nat → Int32} {B : Nat} {v w : Int32} {k : Nat} (h : fBe f g B v w (k + 1)) : fBe f g B v w k := by
  obtain ⟨b, b1, b2, b3⟩ := h
  exact ⟨b, by omega, b2, b3⟩
theorem bar_ite {α : Type} {a b c d : Prop} [Decidable a] [Decidable b] [Decidable c] [Decidable d] (x y : α) : (if a then (if b then x else (if c then (if d then x else y) else y)) else (if c then (if d then x else y) else y)) = if (a ∧ b) ∨ (c ∧ d) then x else y := by
  by_cases ha : a <;> by_cases hb : b <;> by_cases hc : c <;> by_cases hd : d <;> simp [ha, hb, hc, hd]
theorem x3_hasBar {n : Nat} {σ : hv_St} {B : Nat} (hB : B ≤ 11) (hs : σ.1 1 1 = nI B) (v w : Int32) : ∀ (d k fuel : Nat), k + d = B → d < fuel → (fBe (σ.1 5) (σ.1 6) B v w k → kX3_hasBar_2 n fuel σ v w (nI k) = some (1, σ)) ∧ ((¬ fBe (σ.1 5) (σ.1 6) B v w k) → kX3_hasBar_2 n fuel σ v w (nI k) = some (0, σ)) := by
  intro d
  induction d with
  | zero =>
    intro k fuel hk hf
    obtain ⟨fuel, rfl⟩ : ∃ q, fuel = q + 1 := ⟨fuel - 1, by omega⟩
    refine ⟨fun ⟨p, h1, h2, _⟩ => by omega, fun _ => ?_⟩
    show kX3_hasBar_2_b n _ _ _ _ _ = _
    unfold kX3_hasBar_2_b
    rw [hs, if_pos (nI_le (by omega) (by omega))]
  | succ d ih =>
    intro k fuel hk hf
    obtain ⟨fuel, rfl⟩ : ∃ q, fuel = q + 1 := ⟨fuel - 1, by omega⟩
    have hi := ih (k + 1) fuel (by omega) (by omega)
    have e : kX3_hasBar_2 n (fuel + 1) σ v w (nI k) = if (σ.1 5 k = v ∧ σ.1 6 k = w) ∨ (σ.1 5 k = w ∧ σ.1 6 k = v) then some (1, σ) else kX3_hasBar_2 n fuel σ v w (nI (k + 1)) := by
      show kX3_hasBar_2_b n _ _ _ _ _ = _
      unfold kX3_hasBar_2_b kX3_hasBar_30 kX3_hasBar_52
      rw [hs, if_neg (nI_ge (by omega) (by omega))]
      simp only [nI_1, hv_if_t (hv_ok_nI (show k < 11 by omega) (by decide)), nI_clamp (show k < 2 ^ 31 by omega)]
      exact bar_ite _ _
    rw [e]
    by_cases h1 : (σ.1 5 k = v ∧ σ.1 6 k = w) ∨ (σ.1 5 k = w ∧ σ.1 6 k = v)
    · rw [if_pos h1]
      exact ⟨fun _ => rfl, fun h => absurd ⟨k, Nat.le_refl _, by omega, h1⟩ h⟩
    · rw [if_neg h1]
      exact ⟨fun h => hi.1 (fBe_step h1 h), fun h => hi.2 (fun h2 => h (fBe_up h2))⟩
def r8_barEnd (σ : hv_St) (B : Nat) (v w x : Int32) : hv_St := hv_sI (hv_sI (hv_sI (hv_sI (hv_sI (hv_sI σ 5 B v) 6 B w) 7 B x) 8 B 99) 0 11 (σ.1 0 11 ||| nI (2 ^ B))) 0 6 (nI (B + 1))
theorem r8_bar {n : Nat} {σ : hv_St} {B : Nat} (hB : B < 11) (hs : σ.1 0 6 = nI B) (v w x : Int32) : ∀ (d k fuel : Nat), k + d = B → d < fuel → (fBe (σ.1 5) (σ.1 6) B v w k → kX8_bar_52 n fuel σ v w x (nI k) = some (-1, σ)) ∧ ((¬ fBe (σ.1 5) (σ.1 6) B v w k) → kX8_bar_52 n fuel σ v w x (nI k) = some (nI B, r8_barEnd σ B v w x)) := by
  intro d
  induction d with
  | zero =>
    intro k fuel hk hf
    obtain ⟨fuel, rfl⟩ : ∃ q, fuel = q + 1 := ⟨fuel - 1, by omega⟩
    refine ⟨fun ⟨p, h1, h2, _⟩ => by omega, fun _ => ?_⟩
    show kX8_bar_52_b n _ _ _ _ _ _ = _
    unfold kX8_bar_52_b r8_barEnd
    rw [hs, if_pos (nI_le (by omega) (by omega))]
    have t1 : (hv_sI σ 5 B v).1 0 6 = nI B := by rw [hv_sI_ne _ _ _ (by decide)]; exact hs
    have t2 : (hv_sI (hv_sI σ 5 B v) 6 B w).1 0 6 = nI B := by rw [hv_sI_ne _ _ _ (by decide)]; exact t1
    have t3 : (hv_sI (hv_sI (hv_sI σ 5 B v) 6 B w) 7 B x).1 0 6 = nI B := by rw [hv_sI_ne _ _ _ (by decide)]; exact t2
    have t4 : (hv_sI (hv_sI (hv_sI (hv_sI σ 5 B v) 6 B w) 7 B x) 8 B 99).1 0 6 = nI B := by rw [hv_sI_ne _ _ _ (by decide)]; exact t3
    have t5 : (hv_sI (hv_sI (hv_sI (hv_sI σ 5 B v) 6 B w) 7 B x) 8 B 99).1 0 11 = σ.1 0 11 := by rw [hv_sI_ne _ _ _ (by decide), hv_sI_ne _ _ _ (by decide), hv_sI_ne _ _ _ (by decide), hv_sI_ne _ _ _ (by decide)]
    simp only [hv_if_t (hv_ok_nI (show B < 11 by omega) (by decide)), nI_clamp (show B < 2 ^ 31 by omega), hv_let_e, t1, t2, t3, t4, t5, nI_shl (show B < 31 by omega), hv_sI_rd, if_true, if_neg (show ¬ (6 : Nat) = 11 by decide), nI_1, nI_pred]
  | succ d ih =>
    intro k fuel hk hf
    obtain ⟨fuel, rfl⟩ : ∃ q, fuel = q + 1 := ⟨fuel - 1, by omega⟩
    have hi := ih (k + 1) fuel (by omega) (by omega)
    have e : kX8_bar_52 n (fuel + 1) σ v w x (nI k) = if (σ.1 5 k = v ∧ σ.1 6 k = w) ∨ (σ.1 5 k = w ∧ σ.1 6 k = v) then some (-1, σ) else kX8_bar_52 n fuel σ v w x (nI (k + 1)) := by
      show kX8_bar_52_b n _ _ _ _ _ _ = _
      unfold kX8_bar_52_b kX8_bar_83 kX8_bar_107
      rw [hs, if_neg (nI_ge (by omega) (by omega))]
      simp only [nI_1, hv_if_t (hv_ok_nI (show k < 11 by omega) (by decide)), nI_clamp (show k < 2 ^ 31 by omega)]
      exact bar_ite _ _
    rw [e]
    by_cases h1 : (σ.1 5 k = v ∧ σ.1 6 k = w) ∨ (σ.1 5 k = w ∧ σ.1 6 k = v)
    · rw [if_pos h1]
      exact ⟨fun _ => rfl, fun h => absurd ⟨k, Nat.le_refl _, by omega, h1⟩ h⟩
    · rw [if_neg h1]
      exact ⟨fun h => hi.1 (fBe_step h1 h), fun h => hi.2 (fun h2 => h (fBe_up h2))⟩
theorem op_bar {n : Nat} (hn : 12 < n) {F : Nat → Nat → Int32} {P B O D W : Nat} {σX σM : hv_St} (h : hR F P B O D W σX σM) (v w x : Int32) : ∃ r σX' σM' F' B' O', mX7_bar n σX v w x = some (r, σX') ∧ mX8_bar n σM v w x = some (r, σM') ∧ hR F' P B' O' D W σX' σM' := by
  obtain ⟨hi, hx, hm⟩ := h
  have hP := hi.1
  have hP6 := hP.2
  have hB := hi.2.1
  have hB11 := hB.2
  have hO := hi.2.2.1
  have sX : σX.1 1 0 = nI P := hx.1.1.trans hP.1
  have bX : σX.1 1 1 = nI B := hx.1.2.1.trans hB.1
  have oX : σX.1 1 2 = nI O := hx.1.2.2.1.trans hO.1
  have hm0 : rM F (hv_sI σM 0 0 0) := rM_sc hm (by decide) 0
  have sM : (hv_sI σM 0 0 0).1 0 1 = nI P := hm0.1.1.trans hP.1
  have bM : (hv_sI σM 0 0 0).1 0 6 = nI B := hm0.1.2.1.trans hB.1
  have oM : (hv_sI σM 0 0 0).1 0 11 = nI O := hm0.1.2.2.1.trans hO.1
  by_cases h11 : B = 11
  · refine ⟨-1, σX, hv_sI σM 0 0 0, F, B, O, ?_, ?_, hi, hx, hm0⟩
    · unfold mX7_bar
      rw [bX, h11]
      rfl
    · unfold mX8_bar
      rw [hv_let_e, bM, h11]
      rfl
  · have n11 : ¬ (11 : Int32) ≤ nI B := nI_ge (b := 11) (by omega) (by decide)
    have e11 : ¬ nI B = (11 : Int32) := fun e => h11 ((nI_eq (b := 11) (by omega) (by decide)).mp e)
    by_cases hv : fN P v
    · by_cases hw : fN P w
      · by_cases hvw : v = w
        · refine ⟨-1, σX, hv_sI σM 0 0 0, F, B, O, ?_, ?_, hi, hx, hm0⟩
          · unfold mX7_bar kX7_bar_43 kX7_bar_44
            rw [bX, if_neg n11, (x3_isPin (by omega) sX v).1 hv, hv_b2_e, if_neg (by decide), (x3_isPin (by omega) sX w).1 hw, hv_b2_e, if_neg (by decide), if_pos hvw, if_pos rfl]
          · unfold mX8_bar
            rw [hv_let_e, bM, if_neg e11, (r8_isPin (by omega) sM v).1 hv, hv_b2_e, if_neg (by decide), (r8_isPin (by omega) sM w).1 hw, hv_b2_e, if_neg (by decide), if_pos hvw]
        · by_cases hg : fRg 3 x
          · have cX := x3_hasBar (n := n) (by omega) bX v w B 0 n (by omega) (by omega)
            have cM := r8_bar (n := n) (by omega) bM v w x B 0 n (by omega) (by omega)
            have m5 : (hv_sI σM 0 0 0).1 5 = F 5 := hm0.2 5 (by decide) (by decide)
            have m6 : (hv_sI σM 0 0 0).1 6 = F 6 := hm0.2 6 (by decide) (by decide)
            rw [m5, m6] at cM
            have hit : fBe (σX.1 5) (σX.1 6) B v w 0 ↔ fBe (F 5) (F 6) B v w 0 := by
              constructor
              · rintro ⟨b, b1, b2, b3⟩
                have q := hx.2.2.2.2.1 b (by omega)
                rw [q.1, q.2.1] at b3
                exact ⟨b, b1, b2, b3⟩
              · rintro ⟨b, b1, b2, b3⟩
                have q := hx.2.2.2.2.1 b (by omega)
                rw [← q.1, ← q.2.1] at b3
                exact ⟨b, b1, b2, b3⟩
            have pX : ∀ o, mX3_hasBar n σX v w = o → (kX7_bar_44 n σX v w x 1 = hv_b2 o fun r64 s64 => if r64 = 0 then (hv_b2 (mX3_addBar n s64 v w x) fun r79 s79 => some (r79, s79)) else (some ((-1 : Int32), s64))) := fun o ho => by
              unfold kX7_bar_44
              rw [if_neg (by decide), (x7_isGive x).1 hg, hv_b2_e, if_neg (by decide), ho]
            by_cases hh : fBe (F 5) (F 6) B v w 0
            · refine ⟨-1, σX, hv_sI σM 0 0 0, F, B, O, ?_, ?_, hi, hx, hm0⟩
              · unfold mX7_bar
                rw [bX, if_neg n11, (x3_isPin (by omega) sX v).1 hv, hv_b2_e, if_neg (by decide), (x3_isPin (by omega) sX w).1 hw, hv_b2_e, if_neg (by decide), if_neg hvw, pX _ (cX.1 (hit.mpr hh)), hv_b2_e, if_neg (by decide)]
              · unfold mX8_bar
                rw [hv_let_e, bM, if_neg e11, (r8_isPin (by omega) sM v).1 hv, hv_b2_e, if_neg (by decide), (r8_isPin (by omega) sM w).1 hw, hv_b2_e, if_neg (by decide), if_neg hvw]
                rw [show (3 : Int64) = (nI 3).toInt64 from rfl, show (1 : Int64) = (1 : Int32).toInt64 from rfl, (r8_inR 3 x).1 hg, hv_b2_e, if_neg (by decide)]
                exact cM.1 hh
            · have hO2 : O ||| 2 ^ B < 2 ^ (B + 1) := Nat.or_lt_two_pow (Nat.lt_trans hO.2 (Nat.pow_lt_pow_right (by decide) (by omega))) (Nat.pow_lt_pow_right (by decide) (by omega))
              refine ⟨nI B, hv_sI (hv_sI (hv_sI (hv_sI (hv_sI (hv_sI σX 5 B v) 6 B w) 7 B x) 8 B 99) 1 2 (nI (O ||| 2 ^ B))) 1 1 (nI (B + 1)), r8_barEnd (hv_sI σM 0 0 0) B v w x, fU (fU (fU (fU (fU (fU F 5 B v) 6 B w) 7 B x) 8 B 99) 0 11 (nI (O ||| 2 ^ B))) 0 6 (nI (B + 1)), B + 1, O ||| 2 ^ B, ?_, ?_, ?_, ?_, ?_⟩
              · unfold mX7_bar
                rw [bX, if_neg n11, (x3_isPin (by omega) sX v).1 hv, hv_b2_e, if_neg (by decide), (x3_isPin (by omega) sX w).1 hw, hv_b2_e, if_neg (by decide), if_neg hvw, pX _ (cX.2 (fun q => hh (hit.mp q))), hv_b2_e, if_pos rfl]
                unfold mX3_addBar
                have t5 : (hv_sI (hv_sI (hv_sI (hv_sI σX 5 B v) 6 B w) 7 B x) 8 B 99).1 1 2 = nI O := by rw [hv_sI_ne _ _ _ (by decide), hv_sI_ne _ _ _ (by decide), hv_sI_ne _ _ _ (by decide), hv_sI_ne _ _ _ (by decide)]; exact oX
                have t6 : (hv_sI (hv_sI (hv_sI (hv_sI σX 5 B v) 6 B w) 7 B x) 8 B 99).1 1 1 = nI B := by rw [hv_sI_ne _ _ _ (by decide), hv_sI_ne _ _ _ (by decide), hv_sI_ne _ _ _ (by decide), hv_sI_ne _ _ _ (by decide)]; exact bX
                simp only [hv_let_e, bX, hv_if_t (hv_ok_nI (show B < 11 by omega) (by decide)), nI_clamp (show B < 2 ^ 31 by omega), t5, t6, nI_shl (show B < 31 by omega), hv_sI_rd, if_neg (show ¬ (1 : Nat) = 2 by decide), nI_1, hv_b2_e, nI_or]
              · unfold mX8_bar
                rw [hv_let_e, bM, if_neg e11, (r8_isPin (by omega) sM v).1 hv, hv_b2_e, if_neg (by decide), (r8_isPin (by omega) sM w).1 hw, hv_b2_e, if_neg (by decide), if_neg hvw]
                rw [show (3 : Int64) = (nI 3).toInt64 from rfl, show (1 : Int64) = (1 : Int32).toInt64 from rfl, (r8_inR 3 x).1 hg, hv_b2_e, if_neg (by decide)]
                exact cM.2 hh
              · obtain ⟨g1, g2, g3, g4, g5, g6, g7, g8, g9, g10, g11, g12⟩ := hi
                refine ⟨⟨by simp [fU, upd, g1.1], g1.2⟩, ⟨by simp [fU, upd], by omega⟩, ⟨by simp [fU, upd], hO2⟩, ⟨by simp [fU, upd, g4.1], g4.2⟩, ⟨by simp [fU, upd, g5.1], g5.2⟩, fun p hp' => by simpa [fU, upd] using g6 p hp', fun b hb => ?_, fun s hs => by simpa [fU, upd] using g8 s hs, fun p hp' => by simpa [fU, upd] using g9 p hp', fun i hi' => by simpa [fU, upd] using g10 i hi', fun i j hi' hj => by simpa [fU, upd] using g11 i j hi' hj, fun i hi' => by simpa [fU, upd] using g12 i hi'⟩
                by_cases e : b = B
                · subst e
                  exact ⟨by simpa [fU, upd] using hv, by simpa [fU, upd] using hw, by simpa [fU, upd] using fRg_n (M := 3) (by decide) hg, 99, by simp [fU, upd]; rfl, by decide, by decide⟩
                · have q := g7 b (by omega)
                  simpa [fU, upd, e] using q
              · obtain ⟨⟨k1, k2, k3, k4, k5⟩, k6, k7, k8, k9, k10, k11⟩ := hx
                refine ⟨⟨by simp [hv_sI, fU, upd, k1], by simp [hv_sI, fU, upd], by simp [hv_sI, fU, upd], by simp [hv_sI, fU, upd, k4], by simp [hv_sI, fU, upd, k5]⟩, fun p hp' => by simpa [hv_sI, fU, upd] using k6 p hp', fun s hs => by simpa [hv_sI, fU, upd] using k7 s hs, fun p w hp' hw => by simpa [hv_sI, fU, upd] using k8 p w hp' hw, fun b hb => ?_, fun i hi' => by simpa [hv_sI, fU, upd] using k10 i hi', fun i hi' => by simpa [hv_sI, fU, upd] using k11 i hi'⟩
                have q := k9 b hb
                by_cases e : b = B
                · simp [hv_sI, fU, upd, e]
                · simpa [hv_sI, fU, upd, e] using q
              · unfold r8_barEnd
                rw [oM, nI_or]
                exact rM_up (rM_up (rM_up (rM_up (rM_up (rM_up hm0 (k := 5) (by decide) B v) (k := 6) (by decide) B w) (k := 7) (by decide) B x) (k := 8) (by decide) B 99) (k := 0) (by decide) 11 _) (k := 0) (by decide) 6 _
          · refine ⟨-1, σX, hv_sI σM 0 0 0, F, B, O, ?_, ?_, hi, hx, hm0⟩
            · unfold mX7_bar kX7_bar_44
              rw [bX, if_neg n11, (x3_isPin (by omega) sX v).1 hv, hv_b2_e, if_neg (by decide), (x3_isPin (by omega) sX w).1 hw, hv_b2_e, if_neg (by decide), if_neg hvw, if_neg (by decide), (x7_isGive x).2 hg, hv_b2_e, if_pos rfl]
            · unfold mX8_bar
              rw [hv_let_e, bM, if_neg e11, (r8_isPin (by omega) sM v).1 hv, hv_b2_e, if_neg (by decide), (r8_isPin (by omega) sM w).1 hw, hv_b2_e, if_neg (by decide), if_neg hvw]
              rw [show (3 : Int64) = (nI 3).toInt64 from rfl, show (1 : Int64) = (1 : Int32).toInt64 from rfl, (r8_inR 3 x).2 hg, hv_b2_e, if_pos rfl]
      · refine ⟨-1, σX, hv_sI σM 0 0 0, F, B, O, ?_, ?_, hi, hx, hm0⟩
        · unfold mX7_bar kX7_bar_43 kX7_bar_44
          rw [bX, if_neg n11, (x3_isPin (by omega) sX v).1 hv, hv_b2_e, if_neg (by decide), (x3_isPin (by omega) sX w).2 hw, hv_b2_e, if_pos rfl, if_pos rfl]
        · unfold mX8_bar
          rw [hv_let_e, bM, if_neg e11, (r8_isPin (by omega) sM v).1 hv, hv_b2_e, if_neg (by decide), (r8_isPin (by omega) sM w).2 hw, hv_b2_e, if_pos rfl]
    · refine ⟨-1, σX, hv_sI σM 0 0 0, F, B, O, ?_, ?_, hi, hx, hm0⟩
      · unfold mX7_bar kX7_bar_43 kX7_bar_44
        rw [bX, if_neg n11, (x3_isPin (by omega) sX v).2 hv, hv_b2_e, if_pos rfl, if_pos rfl]
      · unfold mX8_bar
        rw [hv_let_e, bM, if_neg e11, (r8_isPin (by omega) sM v).2 hv, hv_b2_e, if_pos rfl]
