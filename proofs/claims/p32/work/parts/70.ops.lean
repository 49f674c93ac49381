/-! the class's building calls: what they answer, the cells behind them -/
theorem xp_pin {n : Nat} (hn : 100 < n) {F : Nat → Nat → Int32} {P B O D W : Nat} {σX : hv_St} (hi : hI F P B O D W) (hx : rX F σX) (hP5 : P < 6) {x y : Int32} (hpl : fPl x y) : ((∃ p, p < P ∧ F 1 p = x ∧ F 2 p = y) → mX7_pin n σX x y = some (-1, σX)) ∧ ((¬ ∃ p, p < P ∧ F 1 p = x ∧ F 2 p = y) → ∃ τ, mX7_pin n σX x y = some (nI P, τ) ∧ hI (fU (fU (fU F 1 P x) 2 P y) 0 1 (nI (P + 1))) (P + 1) B O D W ∧ rX (fU (fU (fU F 1 P x) 2 P y) 0 1 (nI (P + 1))) τ) := by
  have hP := hi.1
  have sX : σX.1 1 0 = nI P := hx.1.1.trans hP.1
  have n6 : ¬ (6 : Int32) ≤ nI P := nI_ge (b := 6) (by omega) (by decide)
  have hf := x7_isFreePlace (n := n) (by omega) hP.2 sX x y
  have hit : (∃ p, p < P ∧ σX.1 2 (2 * p) = x ∧ σX.1 2 (2 * p + 1) = y) ↔ ∃ p, p < P ∧ F 1 p = x ∧ F 2 p = y := by
    constructor
    · rintro ⟨p, q1, q2, q3⟩
      exact ⟨p, q1, (hx.2.1 p (by omega)).1.symm.trans q2, (hx.2.1 p (by omega)).2.symm.trans q3⟩
    · rintro ⟨p, q1, q2, q3⟩
      exact ⟨p, q1, (hx.2.1 p (by omega)).1.trans q2, (hx.2.1 p (by omega)).2.trans q3⟩
  constructor
  · intro hh
    unfold mX7_pin
    rw [sX, if_neg n6, hf.2 (fun q => q.2 (hit.mpr hh)), hv_b2_e, if_pos rfl]
  · intro hh0
    have hh : ¬ ∃ p, p < P ∧ σX.1 2 (2 * p) = x ∧ σX.1 2 (2 * p + 1) = y := fun q => hh0 (hit.mp q)
    refine ⟨hv_sI (hv_sI (hv_sI σX 1 0 (nI (P + 1))) 2 (2 * P) x) 2 (2 * P + 1) y, ?_, ?_, ?_⟩
    · unfold mX7_pin
      rw [sX, if_neg n6, hf.1 ⟨hpl, hh⟩, hv_b2_e, if_neg (by decide), sX]
      simp only [hv_let_e]
      unfold mX3_put
      simp only [nI_2, nI_1, hv_if_t (hv_ok_nI (show 2 * P < 12 by omega) (by decide)), hv_if_t (hv_ok_nI (show 2 * P + 1 < 12 by omega) (by decide)), nI_clamp (show 2 * P < 2 ^ 31 by omega), nI_clamp (show 2 * P + 1 < 2 ^ 31 by omega), hv_let_e, hv_bd_e]
    · obtain ⟨-, g2, g3, g4, g5, g6, g7, g8, g9, g10, g11, g12⟩ := hi
      refine ⟨⟨by simp [fU, upd], by omega⟩, ⟨by simp [fU, upd, g2.1], g2.2⟩, ⟨by simp [fU, upd, g3.1], g3.2⟩, ⟨by simp [fU, upd, g4.1], by have := g4.2; omega⟩, ⟨by simp [fU, upd, g5.1], g5.2⟩, fun p hp' => ?_, fun b hb => ?_, fun s hs => by simpa [fU, upd] using g8 s hs, fun p hp' => by simpa [fU, upd] using g9 p hp', fun i hi' => by simpa [fU, upd] using fN_mono (M := P + 1) (by omega) (g10 i hi'), fun i j hi' hj => by simpa [fU, upd] using g11 i j hi' hj, fun i hi' => by simpa [fU, upd] using g12 i hi'⟩
      · by_cases e : p = P
        · simp [fU, upd, e, hpl.1, hpl.2]
        · simpa [fU, upd, e] using g6 p (by omega)
      · have q := g7 b hb
        simpa [fU, upd] using ⟨fN_mono (M := P + 1) (by omega) q.1, fN_mono (M := P + 1) (by omega) q.2.1, q.2.2⟩
    · obtain ⟨⟨k1, k2, k3, k4, k5⟩, k6, k7, k8, k9, k10, k11⟩ := hx
      refine ⟨⟨by simp [hv_sI, fU, upd], by simp [hv_sI, fU, upd, k2], by simp [hv_sI, fU, upd, k3], by simp [hv_sI, fU, upd, k4], by simp [hv_sI, fU, upd, k5]⟩, fun p hp' => ?_, fun s hs => by simpa [hv_sI, fU, upd] using k7 s hs, fun p w hp' hw => by simpa [hv_sI, fU, upd] using k8 p w hp' hw, fun b hb => by simpa [hv_sI, fU, upd] using k9 b hb, fun i hi' => by simpa [hv_sI, fU, upd] using k10 i hi', fun i hi' => by simpa [hv_sI, fU, upd] using k11 i hi'⟩
      have q := k6 p hp'
      have a1 : ¬ 2 * p = 2 * P + 1 := by omega
      have a2 : ¬ 2 * p + 1 = 2 * P := by omega
      have a3 : (2 * p = 2 * P) ↔ p = P := by omega
      have a4 : (2 * p + 1 = 2 * P + 1) ↔ p = P := by omega
      by_cases e : p = P
      · simp [hv_sI, fU, upd, e]
      · have a5 : ¬ 2 * p = 2 * P := by omega
        simp [hv_sI, fU, upd, e, a1, a2, a5, q]
theorem xp_turn {n : Nat} {F : Nat → Nat → Int32} {P B O D W : Nat} {σX : hv_St} (hi : hI F P B O D W) (hx : rX F σX) (v w : Int32) (hw : w = 0 ∨ w = 1) : (¬ fN B v → mX7_turn n σX v w = some (0, σX)) ∧ (∀ k, k < B → v = nI k → ((fB (nI O) (nI k) ↔ w = 1) → mX7_turn n σX v w = some (0, σX)) ∧ (¬ (fB (nI O) (nI k) ↔ w = 1) → ∃ τ, mX7_turn n σX v w = some (1, τ) ∧ hI (fU F 0 11 (nI (O ^^^ 2 ^ k))) P B (O ^^^ 2 ^ k) D W ∧ rX (fU F 0 11 (nI (O ^^^ 2 ^ k))) τ)) := by
  have hB := hi.2.1
  have hB11 := hB.2
  have sX : σX.1 1 1 = nI B := hx.1.2.1.trans hB.1
  have oX : σX.1 1 2 = nI O := hx.1.2.2.1.trans hi.2.2.1.1
  refine ⟨fun hv => ?_, fun k hk ek => ?_⟩
  · unfold mX7_turn
    rw [(x3_isBar (by omega) sX v).2 hv, hv_b2_e, if_pos rfl]
  · subst ek
    have hv : fN B (nI k) := ⟨k, hk, rfl⟩
    obtain ⟨t1, t2⟩ := set_turn hi.2.2.1.2 hk hB.2
    have res : hI (fU F 0 11 (nI (O ^^^ 2 ^ k))) P B (O ^^^ 2 ^ k) D W ∧ rX (fU F 0 11 (nI (O ^^^ 2 ^ k))) (hv_sI σX 1 2 ((σX.1 1 2) ^^^ (((1 : Int32)) <<< ((nI k) &&& 31)))) := by
      refine ⟨?_, ?_⟩
      · obtain ⟨g1, g2, g3, g4, g5, g6, g7, g8, g9, g10, g11, g12⟩ := hi
        exact ⟨⟨by simp [fU, upd, g1.1], g1.2⟩, ⟨by simp [fU, upd, g2.1], g2.2⟩, ⟨by simp [fU, upd], t2⟩, ⟨by simp [fU, upd, g4.1], g4.2⟩, ⟨by simp [fU, upd, g5.1], g5.2⟩, fun p hp' => by simpa [fU, upd] using g6 p hp', fun b hb => by simpa [fU, upd] using g7 b hb, fun s hs => by simpa [fU, upd] using g8 s hs, fun p hp' => by simpa [fU, upd] using g9 p hp', fun i hi' => by simpa [fU, upd] using g10 i hi', fun i j hi' hj => by simpa [fU, upd] using g11 i j hi' hj, fun i hi' => by simpa [fU, upd] using g12 i hi'⟩
      · rw [oX, t1]
        obtain ⟨⟨k1, k2, k3, k4, k5⟩, k6, k7, k8, k9, k10, k11⟩ := hx
        exact ⟨⟨by simp [hv_sI, fU, upd, k1], by simp [hv_sI, fU, upd, k2], by simp [hv_sI, fU, upd], by simp [hv_sI, fU, upd, k4], by simp [hv_sI, fU, upd, k5]⟩, fun p hp' => by simpa [hv_sI, fU, upd] using k6 p hp', fun s hs => by simpa [hv_sI, fU, upd] using k7 s hs, fun p w hp' hw => by simpa [hv_sI, fU, upd] using k8 p w hp' hw, fun b hb => by simpa [hv_sI, fU, upd] using k9 b hb, fun i hi' => by simpa [hv_sI, fU, upd] using k10 i hi', fun i hi' => by simpa [hv_sI, fU, upd] using k11 i hi'⟩
    by_cases hb : fB (nI O) (nI k)
    · have c1 := (x3_isOn (n := n) (by omega) sX (nI k)).1 ⟨hv, by rw [oX]; exact hb⟩
      refine ⟨fun h => ?_, fun h => ?_⟩
      · have e1 := h.mp hb
        subst e1
        unfold mX7_turn
        rw [(x3_isBar (by omega) sX (nI k)).1 hv, hv_b2_e, if_neg (by decide), c1, hv_b2_e, if_pos rfl]
      · have e1 : w = 0 := by
          rcases hw with e | e
          · exact e
          · exact absurd ⟨fun _ => e, fun _ => hb⟩ h
        subst e1
        refine ⟨_, ?_, res⟩
        unfold mX7_turn
        rw [(x3_isBar (by omega) sX (nI k)).1 hv, hv_b2_e, if_neg (by decide), c1, hv_b2_e, if_neg (by decide), hv_let_e]
    · have c1 := (x3_isOn (n := n) (by omega) sX (nI k)).2 (fun q => hb (by rw [← oX]; exact q.2))
      refine ⟨fun h => ?_, fun h => ?_⟩
      · have e1 : w = 0 := by
          rcases hw with e | e
          · exact e
          · exact absurd (h.mpr e) hb
        subst e1
        unfold mX7_turn
        rw [(x3_isBar (by omega) sX (nI k)).1 hv, hv_b2_e, if_neg (by decide), c1, hv_b2_e, if_pos rfl]
      · have e1 : w = 1 := by
          rcases hw with e | e
          · subst e
            exact absurd ⟨fun q => absurd q hb, fun q => absurd q (by decide)⟩ h
          · exact e
        subst e1
        refine ⟨_, ?_, res⟩
        unfold mX7_turn
        rw [(x3_isBar (by omega) sX (nI k)).1 hv, hv_b2_e, if_neg (by decide), c1, hv_b2_e, if_neg (by decide), hv_let_e]
theorem xp_load {n : Nat} {F : Nat → Nat → Int32} {P B O D W : Nat} {σX : hv_St} (hi : hI F P B O D W) (hx : rX F σX) {k : Nat} (hk : k < P) {x y : Int32} (h1 : fLd x) (h2 : fLd y) : ∃ τ, mX7_load n σX (nI k) x y = some (1, τ) ∧ hI (fU (fU F 4 (2 * k) x) 4 (2 * k + 1) y) P B O D W ∧ rX (fU (fU F 4 (2 * k) x) 4 (2 * k + 1) y) τ := by
  have hP := hi.1
  have hP6 := hP.2
  have sX : σX.1 1 0 = nI P := hx.1.1.trans hP.1
  refine ⟨hv_sI (hv_sI σX 3 (2 * k) x) 3 (2 * k + 1) y, ?_, ?_, ?_⟩
  · unfold mX7_load
    rw [(x3_isPin (by omega) sX (nI k)).1 ⟨k, hk, rfl⟩, hv_b2_e, if_neg (by decide), (x7_isLoad x).1 h1, hv_b2_e, if_neg (by decide), (x7_isLoad y).1 h2, hv_b2_e, if_neg (by decide)]
    simp only [nI_2, nI_1, hv_if_t (hv_ok_nI (show 2 * k < 12 by omega) (by decide)), hv_if_t (hv_ok_nI (show 2 * k + 1 < 12 by omega) (by decide)), nI_clamp (show 2 * k < 2 ^ 31 by omega), nI_clamp (show 2 * k + 1 < 2 ^ 31 by omega), hv_let_e]
  · obtain ⟨g1, g2, g3, g4, g5, g6, g7, g8, g9, g10, g11, g12⟩ := hi
    refine ⟨⟨by simp [fU, upd, g1.1], g1.2⟩, ⟨by simp [fU, upd, g2.1], g2.2⟩, ⟨by simp [fU, upd, g3.1], g3.2⟩, ⟨by simp [fU, upd, g4.1], g4.2⟩, ⟨by simp [fU, upd, g5.1], g5.2⟩, fun p hp' => by simpa [fU, upd] using g6 p hp', fun b hb => by simpa [fU, upd] using g7 b hb, fun s hs => ?_, fun p hp' => by simpa [fU, upd] using g9 p hp', fun i hi' => by simpa [fU, upd] using g10 i hi', fun i j hi' hj => by simpa [fU, upd] using g11 i j hi' hj, fun i hi' => by simpa [fU, upd] using g12 i hi'⟩
    rw [fU_at, fU_at]
    by_cases e : s = 2 * k + 1
    · rw [if_pos e]
      exact fLd_z h2
    · rw [if_neg e]
      by_cases e2 : s = 2 * k
      · rw [if_pos e2]
        exact fLd_z h1
      · rw [if_neg e2]
        exact g8 s hs
  · obtain ⟨⟨k1, k2, k3, k4, k5⟩, k6, k7, k8, k9, k10, k11⟩ := hx
    refine ⟨⟨by simp [hv_sI, fU, upd, k1], by simp [hv_sI, fU, upd, k2], by simp [hv_sI, fU, upd, k3], by simp [hv_sI, fU, upd, k4], by simp [hv_sI, fU, upd, k5]⟩, fun p hp' => by simpa [hv_sI, fU, upd] using k6 p hp', fun s hs => ?_, fun p w hp' hw => by simpa [hv_sI, fU, upd] using k8 p w hp' hw, fun b hb => by simpa [hv_sI, fU, upd] using k9 b hb, fun i hi' => by simpa [hv_sI, fU, upd] using k10 i hi', fun i hi' => by simpa [hv_sI, fU, upd] using k11 i hi'⟩
    rw [hv_sI_rd, hv_sI_rd, fU_at, fU_at, k7 s hs]
theorem xp_hold {n : Nat} {F : Nat → Nat → Int32} {P B O D W : Nat} {σX : hv_St} (hi : hI F P B O D W) (hx : rX F σX) {k q m : Nat} (hk : k < P) (hq : q < 2) (hm4 : m < 4) (em : F 3 k = nI m) (hne : ¬ (nI m >>> nI q) &&& 1 = 1) : ∃ τ, mX7_hold n σX (nI k) (nI q) 1 = some (1, τ) ∧ hI (fU F 3 k (nI m ^^^ ((1 : Int32) <<< (nI q &&& 31)))) P B O D W ∧ rX (fU F 3 k (nI m ^^^ ((1 : Int32) <<< (nI q &&& 31)))) τ := by
  have hP := hi.1
  have hP6 := hP.2
  have sX : σX.1 1 0 = nI P := hx.1.1.trans hP.1
  suffices key : ∀ x : Int32, x = 1 → ∃ τ, mX7_hold n σX (nI k) (nI q) x = some (1, τ) ∧ hI (fU F 3 k (nI m ^^^ ((1 : Int32) <<< (nI q &&& 31)))) P B O D W ∧ rX (fU F 3 k (nI m ^^^ ((1 : Int32) <<< (nI q &&& 31)))) τ from key 1 rfl
  intro x ex
  have hxb : x = 0 ∨ x = 1 := Or.inr ex
  obtain ⟨b1, b2, b3, b4⟩ := bit_p hm4 hq
  have eX : σX.1 4 (2 * k + q) = (nI m >>> nI q) &&& 1 := by rw [hx.2.2.2.1 k q (by omega) hq, em]
  have c1 : (2 : Int32) * nI k + nI q = nI (2 * k + q) := by rw [nI_2, nI_add]
  have ok12 : hv_ok (nI (2 * k + q)) 12 = true := hv_ok_nI (by omega) (by decide)
  have k12 : (nI (2 * k + q)).toNatClampNeg = 2 * k + q := nI_clamp (by omega)
  have hz : hv_z x = true := by rcases hxb with rfl | rfl <;> rfl
  have he : ¬ (nI m >>> nI q) &&& 1 = x := by rw [ex]; exact hne
  refine ⟨hv_sI σX 4 (2 * k + q) x, ?_, ?_, ?_⟩
  · unfold mX7_hold
    rw [(x3_isPin (by omega) sX (nI k)).1 ⟨k, hk, rfl⟩, hv_b2_e, if_neg (by decide), (x7_isDirection (nI q)).1 ⟨q, hq, rfl⟩, hv_b2_e, if_neg (by decide), hv_let_e, c1, hv_if_t ok12, k12, if_neg (fun e => he (eX.symm.trans e)), hv_if_t ok12, hv_if_t hz, hv_let_e]
  · obtain ⟨g1, g2, g3, g4, g5, g6, g7, g8, g9, g10, g11, g12⟩ := hi
    refine ⟨⟨by simp [fU, upd, g1.1], g1.2⟩, ⟨by simp [fU, upd, g2.1], g2.2⟩, ⟨by simp [fU, upd, g3.1], g3.2⟩, ⟨by simp [fU, upd, g4.1], g4.2⟩, ⟨by simp [fU, upd, g5.1], g5.2⟩, fun p hp' => by simpa [fU, upd] using g6 p hp', fun b hb => by simpa [fU, upd] using g7 b hb, fun s hs => by simpa [fU, upd] using g8 s hs, fun p hp' => ?_, fun i hi' => by simpa [fU, upd] using g10 i hi', fun i j hi' hj => by simpa [fU, upd] using g11 i j hi' hj, fun i hi' => by simpa [fU, upd] using g12 i hi'⟩
    rw [fU_at]
    by_cases e : p = k
    · rw [if_pos e]
      exact b2
    · rw [if_neg e]
      exact g9 p hp'
  · obtain ⟨⟨k1, k2, k3, k4, k5⟩, k6, k7, k8, k9, k10, k11⟩ := hx
    refine ⟨⟨by simp [hv_sI, fU, upd, k1], by simp [hv_sI, fU, upd, k2], by simp [hv_sI, fU, upd, k3], by simp [hv_sI, fU, upd, k4], by simp [hv_sI, fU, upd, k5]⟩, fun p hp' => by simpa [hv_sI, fU, upd] using k6 p hp', fun s hs => by simpa [hv_sI, fU, upd] using k7 s hs, fun p w hp' hw => ?_, fun b hb => by simpa [hv_sI, fU, upd] using k9 b hb, fun i hi' => by simpa [hv_sI, fU, upd] using k10 i hi', fun i hi' => by simpa [hv_sI, fU, upd] using k11 i hi'⟩
    rw [hv_sI_rd, fU_at]
    by_cases e : p = k
    · subst e
      rw [if_pos rfl, b4 w hw]
      by_cases e2 : w = q
      · subst e2
        rw [if_pos rfl, if_pos rfl]
        rw [b3] at b1
        rcases b1 with f | f
        · rw [f, if_pos rfl]
          rw [f] at he
          rcases hxb with r | r
          · exact absurd r.symm he
          · exact r
        · rw [f, if_neg (by decide)]
          rw [f] at he
          rcases hxb with r | r
          · exact r
          · exact absurd r.symm he
      · rw [if_neg (by omega), if_neg e2, k8 p w hp' hw, em]
    · rw [if_neg (by omega), if_neg e]
      exact k8 p w hp' hw
theorem xp_bar {n : Nat} (hn : 12 < n) {F : Nat → Nat → Int32} {P B O D W : Nat} {σX : hv_St} (hi : hI F P B O D W) (hx : rX F σX) (h11 : B < 11) {v w x : Int32} (hv : fN P v) (hw : fN P w) (hvw : ¬ v = w) (hg : fRg 3 x) : (fBe (F 5) (F 6) B v w 0 → mX7_bar n σX v w x = some (-1, σX)) ∧ (¬ fBe (F 5) (F 6) B v w 0 → ∃ τ, mX7_bar n σX v w x = some (nI B, τ) ∧ hI (fU (fU (fU (fU (fU (fU F 5 B v) 6 B w) 7 B x) 8 B 99) 0 11 (nI (O ||| 2 ^ B))) 0 6 (nI (B + 1))) P (B + 1) (O ||| 2 ^ B) D W ∧ rX (fU (fU (fU (fU (fU (fU F 5 B v) 6 B w) 7 B x) 8 B 99) 0 11 (nI (O ||| 2 ^ B))) 0 6 (nI (B + 1))) τ) := by
  have hP := hi.1
  have hP6 := hP.2
  have hB := hi.2.1
  have hB11 := hB.2
  have hO := hi.2.2.1
  have sX : σX.1 1 0 = nI P := hx.1.1.trans hP.1
  have bX : σX.1 1 1 = nI B := hx.1.2.1.trans hB.1
  have oX : σX.1 1 2 = nI O := hx.1.2.2.1.trans hO.1
  have n11 : ¬ (11 : Int32) ≤ nI B := nI_ge (b := 11) (by omega) (by decide)
  have cX := x3_hasBar (n := n) (by omega) bX v w B 0 n (by omega) (by omega)
  have hit : fBe (σX.1 5) (σX.1 6) B v w 0 ↔ fBe (F 5) (F 6) B v w 0 := by
    constructor
    · rintro ⟨b, b1, b2, b3⟩
      have q := hx.2.2.2.2.1 b (by omega)
      rw [q.1, q.2.1] at b3
      exact ⟨b, b1, b2, b3⟩
    · rintro ⟨b, b1, b2, b3⟩
      have q := hx.2.2.2.2.1 b (by omega)
      rw [← q.1, ← q.2.1] at b3
      exact ⟨b, b1, b2, b3⟩
  have pX : ∀ o, mX3_hasBar n σX v w = o → (kX7_bar_44 n σX v w x 1 = hv_b2 o fun r64 s64 => if r64 = 0 then (hv_b2 (mX3_addBar n s64 v w x) fun r79 s79 => some (r79, s79)) else (some ((-1 : Int32), s64))) := fun o ho => by
    unfold kX7_bar_44
    rw [if_neg (by decide), (x7_isGive x).1 hg, hv_b2_e, if_neg (by decide), ho]
  constructor
  · intro hh
    unfold mX7_bar
    rw [bX, if_neg n11, (x3_isPin (by omega) sX v).1 hv, hv_b2_e, if_neg (by decide), (x3_isPin (by omega) sX w).1 hw, hv_b2_e, if_neg (by decide), if_neg hvw, pX _ (cX.1 (hit.mpr hh)), hv_b2_e, if_neg (by decide)]
  · intro hh
    have hO2 : O ||| 2 ^ B < 2 ^ (B + 1) := Nat.or_lt_two_pow (Nat.lt_trans hO.2 (Nat.pow_lt_pow_right (by decide) (by omega))) (Nat.pow_lt_pow_right (by decide) (by omega))
    refine ⟨hv_sI (hv_sI (hv_sI (hv_sI (hv_sI (hv_sI σX 5 B v) 6 B w) 7 B x) 8 B 99) 1 2 (nI (O ||| 2 ^ B))) 1 1 (nI (B + 1)), ?_, ?_, ?_⟩
    · unfold mX7_bar
      rw [bX, if_neg n11, (x3_isPin (by omega) sX v).1 hv, hv_b2_e, if_neg (by decide), (x3_isPin (by omega) sX w).1 hw, hv_b2_e, if_neg (by decide), if_neg hvw, pX _ (cX.2 (fun q => hh (hit.mp q))), hv_b2_e, if_pos rfl]
      unfold mX3_addBar
      have t5 : (hv_sI (hv_sI (hv_sI (hv_sI σX 5 B v) 6 B w) 7 B x) 8 B 99).1 1 2 = nI O := by rw [hv_sI_ne _ _ _ (by decide), hv_sI_ne _ _ _ (by decide), hv_sI_ne _ _ _ (by decide), hv_sI_ne _ _ _ (by decide)]; exact oX
      have t6 : (hv_sI (hv_sI (hv_sI (hv_sI σX 5 B v) 6 B w) 7 B x) 8 B 99).1 1 1 = nI B := by rw [hv_sI_ne _ _ _ (by decide), hv_sI_ne _ _ _ (by decide), hv_sI_ne _ _ _ (by decide), hv_sI_ne _ _ _ (by decide)]; exact bX
      simp only [hv_let_e, bX, hv_if_t (hv_ok_nI (show B < 11 by omega) (by decide)), nI_clamp (show B < 2 ^ 31 by omega), t5, t6, nI_shl (show B < 31 by omega), hv_sI_rd, if_neg (show ¬ (1 : Nat) = 2 by decide), nI_1, hv_b2_e, nI_or]
    · obtain ⟨g1, g2, g3, g4, g5, g6, g7, g8, g9, g10, g11, g12⟩ := hi
      refine ⟨⟨by simp [fU, upd, g1.1], g1.2⟩, ⟨by simp [fU, upd], by omega⟩, ⟨by simp [fU, upd], hO2⟩, ⟨by simp [fU, upd, g4.1], g4.2⟩, ⟨by simp [fU, upd, g5.1], g5.2⟩, fun p hp' => by simpa [fU, upd] using g6 p hp', fun b hb => ?_, fun s hs => by simpa [fU, upd] using g8 s hs, fun p hp' => by simpa [fU, upd] using g9 p hp', fun i hi' => by simpa [fU, upd] using g10 i hi', fun i j hi' hj => by simpa [fU, upd] using g11 i j hi' hj, fun i hi' => by simpa [fU, upd] using g12 i hi'⟩
      by_cases e : b = B
      · subst e
        exact ⟨by simpa [fU, upd] using hv, by simpa [fU, upd] using hw, by simpa [fU, upd] using fRg_n (M := 3) (by decide) hg, 99, by simp [fU, upd]; rfl, by decide, by decide⟩
      · have q := g7 b (by omega)
        simpa [fU, upd, e] using q
    · obtain ⟨⟨k1, k2, k3, k4, k5⟩, k6, k7, k8, k9, k10, k11⟩ := hx
      refine ⟨⟨by simp [hv_sI, fU, upd, k1], by simp [hv_sI, fU, upd], by simp [hv_sI, fU, upd], by simp [hv_sI, fU, upd, k4], by simp [hv_sI, fU, upd, k5]⟩, fun p hp' => by simpa [hv_sI, fU, upd] using k6 p hp', fun s hs => by simpa [hv_sI, fU, upd] using k7 s hs, fun p w hp' hw => by simpa [hv_sI, fU, upd] using k8 p w hp' hw, fun b hb => ?_, fun i hi' => by simpa [hv_sI, fU, upd] using k10 i hi', fun i hi' => by simpa [hv_sI, fU, upd] using k11 i hi'⟩
      have q := k9 b hb
      by_cases e : b = B
      · simp [hv_sI, fU, upd, e]
      · simpa [hv_sI, fU, upd, e] using q
/-- the sets of the base and of the spare ones: numbers of their bits -/
def fSe (F : Nat → Nat → Int32) (P B O : Nat) (Eb Es : Nat) : Prop := Eb < 2 ^ B ∧ Es < 2 ^ B ∧ (∀ b, Eb.testBit b = true ↔ b ∈ fBase F P (fBl O B)) ∧ ∀ b, Es.testBit b = true ↔ b ∈ fSp F P B O
theorem fSe_at {F : Nat → Nat → Int32} {P B O : Nat} {τ : hv_St} (h : zX F P B O τ) : ∃ Eb Es, fSe F P B O Eb Es ∧ τ.1 9 4 = nI (fN' F P) ∧ τ.1 9 5 = nI (fBase F P (fBl O B)).length ∧ τ.1 9 6 = nI Eb ∧ τ.1 9 7 = nI Es := by
  obtain ⟨A, e, ⟨-, -, -, -, -, h6, h7, -, -⟩, ⟨Eb, Es, s1, s2, s3, s4, s5, s6⟩, -⟩ := h
  exact ⟨Eb, Es, ⟨s2, s5, s3, fun b => (s6 b).trans fSp_mem.symm⟩, h6, h7, s1, s4⟩
theorem fSe_uni {F : Nat → Nat → Int32} {P B O : Nat} {Eb Es Eb' Es' : Nat} (h : fSe F P B O Eb Es) (q : fSe F P B O Eb' Es') : Eb' = Eb ∧ Es' = Es := ⟨bit_ext (fun j => (q.2.2.1 j).trans (h.2.2.1 j).symm), bit_ext (fun j => (q.2.2.2 j).trans (h.2.2.2 j).symm)⟩
noncomputable def xcR (F : Nat → Nat → Int32) (P B O Eb Es : Nat) (v : Int32) : Int32 := if v = 0 then nI P else if v = 1 then nI B else if v = 2 then nI O else if v = 3 then nI (fN' F P) else if v = 4 then nI (fKind F P B O) else if v = 5 then nI Eb else if v = 6 then nI Es else nI (fN' F P) - nI (fBase F P (fBl O B)).length
theorem fSe_ex {F : Nat → Nat → Int32} {P B O D W : Nat} (hi : hI F P B O D W) {σ : hv_St} (hx : rX F σ) : ∃ Eb Es, fSe F P B O Eb Es := by
  have o31 : O < 2 ^ 31 := by have := p2048 hi.2.1.2 hi.2.2.1.2; omega
  obtain ⟨τX, a1, a2, a3, a4⟩ := x0_settle (n := 200) (by omega) hi o31 hx
  obtain ⟨Eb, Es, h, -⟩ := fSe_at a4
  exact ⟨Eb, Es, h⟩
theorem xp_count {n : Nat} (hn : 200 ≤ n) {F : Nat → Nat → Int32} {P B O D W : Nat} {Eb Es : Nat} (hE : fSe F P B O Eb Es) {σX : hv_St} (hi : hI F P B O D W) (hx : rX F σX) (v : Nat) (hv : v < 8) : ∃ τ, mX7_count n σX (nI v) = some (xcR F P B O Eb Es (nI v), τ) ∧ rX F τ := by
  have hB := hi.2.1.2
  have hO := hi.2.2.1
  have o31 : O < 2 ^ 31 := by have := p2048 hB hO.2; omega
  have oX : σX.1 1 2 = nI O := hx.1.2.2.1.trans hO.1
  obtain ⟨τX, a1, a2, a3, a4⟩ := x0_settle (n := n) (by omega) hi o31 hx
  obtain ⟨Eb', Es', hE', z1, z3, z4, z6⟩ := fSe_at a4
  obtain ⟨e1, e2⟩ := fSe_uni hE hE'
  subst e1 e2
  have ek := x0_kind (n := n) hi a4
  have pX := hx.1.1.trans hi.1.1
  have bX := hx.1.2.1.trans hi.2.1.1
  have C : ∀ w, kX7_count_115 n σX w = (if w = (3 : Int32) then (some (nI (fN' F P), τX)) else (if w = (4 : Int32) then some (nI (fKind F P B O), τX) else (if w = (5 : Int32) then (some (nI Eb', τX)) else (if w = (6 : Int32) then (some (nI Es', τX)) else (if w = (7 : Int32) then (some (nI (fN' F P) - nI (fBase F P (fBl O B)).length, τX)) else (some ((-1 : Int32), τX))))))) := fun w => by
    unfold kX7_count_115 mX7_countOfBalance
    rw [oX, a1, hv_bd_e, z1, ek, hv_b2_e, z4, z6, z3]
    exact hv_b2_id _
  have ne : ∀ a b : Nat, a < 8 → b < 8 → a ≠ b → ¬ nI a = nI b := fun a b ha hb h e => h ((nI_eq (by omega) (by omega)).mp e)
  unfold xcR
  rcases (show v = 0 ∨ v = 1 ∨ v = 2 ∨ v = 3 ∨ v = 4 ∨ v = 5 ∨ v = 6 ∨ v = 7 by omega) with rfl | rfl | rfl | rfl | rfl | rfl | rfl | rfl
  · exact ⟨σX, by unfold mX7_count; rw [show nI 0 = (0 : Int32) from rfl, if_pos rfl, if_pos rfl, pX], hx⟩
  · exact ⟨σX, by unfold mX7_count; rw [show nI 1 = (1 : Int32) from rfl, if_neg (by decide), if_pos rfl, if_neg (by decide), if_pos rfl, bX], hx⟩
  · exact ⟨σX, by unfold mX7_count; rw [show nI 2 = (2 : Int32) from rfl, if_neg (by decide), if_neg (by decide), if_pos rfl, if_neg (by decide), if_neg (by decide), if_pos rfl, oX], hx⟩
  · exact ⟨τX, by unfold mX7_count; rw [show nI 3 = (3 : Int32) from rfl, if_neg (by decide), if_neg (by decide), if_neg (by decide), if_pos rfl, if_neg (by decide), if_neg (by decide), if_neg (by decide), if_pos rfl, C, if_pos rfl], a3⟩
  · exact ⟨τX, by unfold mX7_count; rw [show nI 4 = (4 : Int32) from rfl, if_neg (by decide), if_neg (by decide), if_neg (by decide), if_neg (by decide), if_pos rfl, if_neg (by decide), if_neg (by decide), if_neg (by decide), if_neg (by decide), if_pos rfl, C, if_neg (by decide), if_pos rfl], a3⟩
  · exact ⟨τX, by unfold mX7_count; rw [show nI 5 = (5 : Int32) from rfl, if_neg (by decide), if_neg (by decide), if_neg (by decide), if_neg (by decide), if_neg (by decide), if_pos rfl, if_neg (by decide), if_neg (by decide), if_neg (by decide), if_neg (by decide), if_neg (by decide), if_pos rfl, C, if_neg (by decide), if_neg (by decide), if_pos rfl], a3⟩
  · exact ⟨τX, by unfold mX7_count; rw [show nI 6 = (6 : Int32) from rfl, if_neg (by decide), if_neg (by decide), if_neg (by decide), if_neg (by decide), if_neg (by decide), if_neg (by decide), if_pos rfl, if_neg (by decide), if_neg (by decide), if_neg (by decide), if_neg (by decide), if_neg (by decide), if_neg (by decide), if_pos rfl, C, if_neg (by decide), if_neg (by decide), if_neg (by decide), if_pos rfl], a3⟩
  · exact ⟨τX, by unfold mX7_count; rw [show nI 7 = (7 : Int32) from rfl, if_neg (by decide), if_neg (by decide), if_neg (by decide), if_neg (by decide), if_neg (by decide), if_neg (by decide), if_neg (by decide), if_pos rfl, if_neg (by decide), if_neg (by decide), if_neg (by decide), if_neg (by decide), if_neg (by decide), if_neg (by decide), if_neg (by decide), C, if_neg (by decide), if_neg (by decide), if_neg (by decide), if_neg (by decide), if_pos rfl], a3⟩
