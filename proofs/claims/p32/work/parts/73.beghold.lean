/-! begins: the holds -/
def bgH (F : Nat → Nat → Int32) (N p : Nat) (σ τ : hv_St) : Prop := hI F N 0 0 0 0 ∧ rX F σ ∧ tB F N 0 0 τ ∧ fDp F N ∧ (∀ q, q < p → τ.1 4 q = F 3 q) ∧ (∀ q, p ≤ q → F 3 q = 0) ∧ (0 < p → F 3 0 = nI 3) ∧ (1 < p → ¬ F 3 1 = 0)
theorem fU_self {F : Nat → Nat → Int32} {k i : Nat} {v : Int32} (h : F k i = v) : fU F k i v = F := by
  funext j q
  by_cases e : j = k
  · subst e
    rw [fU_at]
    by_cases e2 : q = i
    · rw [if_pos e2, e2, h]
    · rw [if_neg e2]
  · rw [fU_ne _ _ _ e]
theorem fU_fU (F : Nat → Nat → Int32) (k i : Nat) (v w : Int32) : fU (fU F k i v) k i w = fU F k i w := by
  funext j q
  by_cases e : j = k
  · subst e
    rw [fU_at, fU_at, fU_at]
    by_cases e2 : q = i
    · rw [if_pos e2, if_pos e2]
    · rw [if_neg e2, if_neg e2, if_neg e2]
  · rw [fU_ne _ _ _ e, fU_ne _ _ _ e, fU_ne _ _ _ e]
/-- how many directions a number of holds leaves -/
def hdN (h : Nat) : Nat := if h = 0 then 0 else if h = 3 then 2 else 1
theorem fL_hold {F : Nat → Nat → Int32} {p h : Nat} (hh : h < 4) : (fL (fU F 3 p (nI h)) (2 * (p + 1))).length + hdN h = (fL F (2 * p)).length + 2 := by
  unfold fL
  rw [show 2 * (p + 1) = 2 * p + 1 + 1 by omega, List.range_succ, List.range_succ, List.filter_append, List.filter_append]
  have e1 : (List.range (2 * p)).filter (fFree (fU F 3 p (nI h))) = (List.range (2 * p)).filter (fFree F) := by
    apply List.filter_congr
    intro s hs
    have hs2 := List.mem_range.mp hs
    unfold fFree
    rw [fU_at, if_neg (by omega)]
  have e2 : fFree (fU F 3 p (nI h)) (2 * p) = decide ((nI h >>> nI 0) &&& 1 = 0) := by
    unfold fFree
    rw [fU_at, if_pos (by omega), show 2 * p % 2 = 0 by omega]
  have e3 : fFree (fU F 3 p (nI h)) (2 * p + 1) = decide ((nI h >>> nI 1) &&& 1 = 0) := by
    unfold fFree
    rw [fU_at, if_pos (by omega), show (2 * p + 1) % 2 = 1 by omega]
  rw [e1, List.length_append, List.length_append, List.filter_cons, List.filter_cons, e2, e3]
  generalize ((List.range (2 * p)).filter (fFree F)).length = L
  rcases (show h = 0 ∨ h = 1 ∨ h = 2 ∨ h = 3 by omega) with rfl | rfl | rfl | rfl
  · rw [show decide ((nI 0 >>> nI 0) &&& 1 = 0) = true by decide, show decide ((nI 0 >>> nI 1) &&& 1 = 0) = true by decide]
    simp [hdN]
  · rw [show decide ((nI 1 >>> nI 0) &&& 1 = 0) = false by decide, show decide ((nI 1 >>> nI 1) &&& 1 = 0) = true by decide]
    simp [hdN]
  · rw [show decide ((nI 2 >>> nI 0) &&& 1 = 0) = true by decide, show decide ((nI 2 >>> nI 1) &&& 1 = 0) = false by decide]
    simp [hdN]
  · rw [show decide ((nI 3 >>> nI 0) &&& 1 = 0) = false by decide, show decide ((nI 3 >>> nI 1) &&& 1 = 0) = false by decide]
    simp [hdN]
theorem bg_hold {n : Nat} {r174 : hv_St → hv_St → Int32 → Int32 → Int32 → Option (hv_St × hv_St)} {N p h f : Nat} {σ τ : hv_St} {F : Nat → Nat → Int32} (hN : N ≤ 6) (hp : p < N) (hh : h < 4) (hi : hI F N 0 0 0 0) (hx : rX F σ) (h3 : F 3 p = 0) (hf : hdN h ≤ f) (xN : Int32) (hn : 3 ≤ n) : ∃ σ', hI (fU F 3 p (nI h)) N 0 0 0 0 ∧ rX (fU F 3 p (nI h)) σ' ∧ kQ_begins_228 n r174 n σ τ xN (nI f) (nI p) (nI h) 0 = r174 σ' (hv_sI τ 4 p (nI h)) xN (nI (f - hdN h)) (nI (p + 1)) := by
  obtain ⟨n, rfl⟩ : ∃ q, n = q + 3 := ⟨n - 3, by omega⟩
  have stop : ∀ (g : Nat) (σ' : hv_St) (x5 : Int32), kQ_begins_228 (n + 3) r174 (g + 1) σ' τ xN x5 (nI p) (nI h) 2 = r174 σ' (hv_sI τ 4 p (nI h)) xN x5 (nI (p + 1)) := fun g σ' x5 => by
    show kQ_begins_228_b (n + 3) r174 _ σ' τ xN x5 (nI p) (nI h) 2 = _
    unfold kQ_begins_228_b
    rw [if_pos (by decide), hv_if_t (hv_ok_nI (show p < 6 by omega) (by decide)), hv_let_e, nI_clamp (by omega), nI_1]
  have skip : ∀ (g : Nat) (σ' : hv_St) (x5 : Int32) (w : Nat), w < 2 → ¬ (nI h >>> (nI w &&& 31)) &&& 1 = 1 → kQ_begins_228 (n + 3) r174 (g + 1) σ' τ xN x5 (nI p) (nI h) (nI w) = kQ_begins_228 (n + 3) r174 g σ' τ xN x5 (nI p) (nI h) (nI (w + 1)) := fun g σ' x5 w hw hb => by
    show kQ_begins_228_b (n + 3) r174 _ σ' τ xN x5 (nI p) (nI h) (nI w) = _
    unfold kQ_begins_228_b
    rw [if_neg (show ¬ (2 : Int32) ≤ nI w from nI_ge (b := 2) hw (by decide)), if_neg hb]
    unfold kQ_begins_262
    rw [nI_1]
  have hold : ∀ (g : Nat) (σ1 σ2 : hv_St) (x5 : Nat) (w : Nat), w < 2 → 1 ≤ x5 → (nI h >>> (nI w &&& 31)) &&& 1 = 1 → mX7_hold (n + 3) σ1 (nI p) (nI w) 1 = some (1, σ2) → kQ_begins_228 (n + 3) r174 (g + 1) σ1 τ xN (nI x5) (nI p) (nI h) (nI w) = kQ_begins_228 (n + 3) r174 g σ2 τ xN (nI (x5 - 1)) (nI p) (nI h) (nI (w + 1)) := fun g σ1 σ2 x5 w hw h5 hb hc => by
    show kQ_begins_228_b (n + 3) r174 _ σ1 τ xN (nI x5) (nI p) (nI h) (nI w) = _
    unfold kQ_begins_228_b
    rw [if_neg (show ¬ (2 : Int32) ≤ nI w from nI_ge (b := 2) hw (by decide)), if_pos hb, hc, hv_b2_e, if_neg (by decide)]
    unfold kQ_begins_262
    obtain ⟨y, rfl⟩ : ∃ y, x5 = y + 1 := ⟨x5 - 1, by omega⟩
    rw [nI_1, ← Int32.sub_eq_add_neg, nI_pred]
    rfl
  have e0 : F 3 p = nI 0 := h3
  rcases (show h = 0 ∨ h = 1 ∨ h = 2 ∨ h = 3 by omega) with rfl | rfl | rfl | rfl
  · refine ⟨σ, ?_, ?_, ?_⟩
    · rw [fU_self e0]; exact hi
    · rw [fU_self e0]; exact hx
    · rw [show (0 : Int32) = nI 0 from rfl, skip _ _ _ 0 (by decide) (by decide), skip _ _ _ 1 (by decide) (by decide)]
      exact stop _ _ _
  · obtain ⟨σ1, c1, c2, c3⟩ := xp_hold (n := n + 3) hi hx hp (q := 0) (m := 0) (by decide) (by decide) e0 (by decide)
    rw [show nI 0 ^^^ ((1 : Int32) <<< (nI 0 &&& 31)) = nI 1 by decide] at c2 c3
    refine ⟨σ1, c2, c3, ?_⟩
    rw [show (0 : Int32) = nI 0 from rfl, hold _ _ _ f 0 (by decide) hf (by decide) c1, skip _ _ _ 1 (by decide) (by decide)]
    exact stop _ _ _
  · obtain ⟨σ1, c1, c2, c3⟩ := xp_hold (n := n + 3) hi hx hp (q := 1) (m := 0) (by decide) (by decide) e0 (by decide)
    rw [show nI 0 ^^^ ((1 : Int32) <<< (nI 1 &&& 31)) = nI 2 by decide] at c2 c3
    refine ⟨σ1, c2, c3, ?_⟩
    rw [show (0 : Int32) = nI 0 from rfl, skip _ _ _ 0 (by decide) (by decide), hold _ _ _ f 1 (by decide) hf (by decide) c1]
    exact stop _ _ _
  · obtain ⟨σ1, c1, c2, c3⟩ := xp_hold (n := n + 3) hi hx hp (q := 0) (m := 0) (by decide) (by decide) e0 (by decide)
    rw [show nI 0 ^^^ ((1 : Int32) <<< (nI 0 &&& 31)) = nI 1 by decide] at c2 c3
    obtain ⟨σ2, f1, f2, f3⟩ := xp_hold (n := n + 3) c2 c3 hp (q := 1) (m := 1) (by decide) (by decide) (by rw [fU_at, if_pos rfl]) (by decide)
    rw [show nI 1 ^^^ ((1 : Int32) <<< (nI 1 &&& 31)) = nI 3 by decide, fU_fU] at f2 f3
    refine ⟨σ2, f2, f3, ?_⟩
    have hf2 : 2 ≤ f := hf
    rw [show (0 : Int32) = nI 0 from rfl, hold _ _ _ f 0 (by decide) (by omega) (by decide) c1, hold _ _ _ (f - 1) 1 (by decide) (by omega) (by decide) f1, show f - 1 - 1 = f - hdN 3 from (by show f - 1 - 1 = f - 2; omega)]
    exact stop _ _ _
theorem hdN_le {h : Nat} (hh : h < 4) : hdN h ≤ 2 := by
  rcases (show h = 0 ∨ h = 1 ∨ h = 2 ∨ h = 3 by omega) with rfl | rfl | rfl | rfl <;> decide
/-- one pin's holds, drawn -/
theorem bg_holdp {n : Nat} (hn : 100 < n) {N p d fuel : Nat} {σ τ : hv_St} {F : Nat → Nat → Int32} (hN3 : 3 ≤ N) (hN : N ≤ 5) (hp : p < N) (h : bgH F N p σ τ) (hd : τ.1 0 0 = nI d) : ∃ d' F' σ' τ', bgH F' N (p + 1) σ' τ' ∧ τ'.1 0 0 = nI d' ∧ kQ_begins_174 n (fuel + 1) σ τ (nI N) (nI (2 * N - 2 * p + (fL F (2 * p)).length)) (nI p) = kQ_begins_174 n fuel σ' τ' (nI N) (nI (2 * N - 2 * (p + 1) + (fL F' (2 * (p + 1))).length)) (nI (p + 1)) := by
  obtain ⟨hi, hx, ht, hdp, h4, h0, hz, ho⟩ := h
  have main : ∀ (hh : Nat) (τ1 : hv_St) (d1 : Nat), hh < 4 → (p = 0 → hh = 3) → (p = 1 → hh ≠ 0) → tB F N 0 0 τ1 → (∀ q, τ1.1 4 q = τ.1 4 q) → τ1.1 0 0 = nI d1 → ∃ d' F' σ' τ', bgH F' N (p + 1) σ' τ' ∧ τ'.1 0 0 = nI d' ∧ kQ_begins_223 n (kQ_begins_174 n fuel) σ τ1 (nI N) (nI (2 * N - 2 * p + (fL F (2 * p)).length)) (nI p) (nI hh) = kQ_begins_174 n fuel σ' τ' (nI N) (nI (2 * N - 2 * (p + 1) + (fL F' (2 * (p + 1))).length)) (nI (p + 1)) := by
    intro hh τ1 d1 l4 c0 c1 t1 t4 e1
    have hb := hdN_le l4
    obtain ⟨σ', s1, s2, s3⟩ := bg_hold (n := n) (r174 := kQ_begins_174 n fuel) (τ := τ1) (f := 2 * N - 2 * p + (fL F (2 * p)).length) (by omega) hp l4 hi hx (h0 p (Nat.le_refl _)) (by omega) (nI N) (by omega)
    refine ⟨d1, fU F 3 p (nI hh), σ', hv_sI τ1 4 p (nI hh), ⟨s1, s2, ?_, ?_, fun q hq => ?_, fun q hq => ?_, fun _ => ?_, fun h1 => ?_⟩, ?_, ?_⟩
    · have t2 := tB_ne t1 p (nI hh) (Or.inr (Or.inl rfl))
      refine ⟨t2.1, t2.2.1, t2.2.2.1, fun q hq => ?_, fun b hb => absurd hb (Nat.not_lt_zero _)⟩
      rw [fU_ne _ _ _ (by decide), fU_ne _ _ _ (by decide)]
      exact t2.2.2.2.1 q hq
    · intro a b hab hb
      rw [fU_ne _ _ _ (by decide), fU_ne _ _ _ (by decide)]
      exact hdp a b hab hb
    · rw [hv_sI_rd, fU_at]
      by_cases e : q = p
      · rw [if_pos e, if_pos e]
      · rw [if_neg e, if_neg e, t4]
        exact h4 q (by omega)
    · rw [fU_at, if_neg (by omega)]
      exact h0 q (by omega)
    · rw [fU_at]
      by_cases e : p = 0
      · subst e
        rw [if_pos rfl, c0 rfl]
      · rw [if_neg (fun q => e q.symm)]
        exact hz (by omega)
    · rw [fU_at]
      by_cases e : p = 1
      · subst e
        rw [if_pos rfl]
        intro q
        exact c1 rfl ((nI_eq (b := 0) (by omega) (by decide)).mp q)
      · rw [if_neg (fun q => e q.symm)]
        exact ho (by omega)
    · rw [hv_sI_ne _ _ _ (by decide)]
      exact e1
    · unfold kQ_begins_223
      have el := fL_hold (F := F) (p := p) l4
      rw [s3]
      congr 2
      omega
  have t0 := ht
  show ∃ d' F' σ' τ', bgH F' N (p + 1) σ' τ' ∧ τ'.1 0 0 = nI d' ∧ kQ_begins_174_b n (kQ_begins_174 n fuel) σ τ (nI N) (nI (2 * N - 2 * p + (fL F (2 * p)).length)) (nI p) = _
  unfold kQ_begins_174_b
  rw [if_neg (nI_ge hp (by omega))]
  have keep : ∀ (τ1 : hv_St) (v : Int32), (∀ q, (hv_sI τ1 0 0 v).1 4 q = τ1.1 4 q) := fun τ1 v q => by rw [hv_sI_ne _ _ _ (by decide)]
  by_cases c0 : p = 0
  · subst c0
    rw [if_pos (show nI 0 = 0 from rfl)]
    exact main 3 τ d (by decide) (fun _ => rfl) (fun h => by omega) ht (fun _ => rfl) hd
  · rw [if_neg (show ¬ nI p = 0 from fun e => c0 ((nI_eq (b := 0) (by omega) (by decide)).mp e))]
    by_cases c1 : p = 1
    · subst c1
      rw [if_pos (show nI 1 = 1 from rfl), show (3 : Int32) = nI 3 from rfl, lc_next hd (by decide) (by decide), hv_b2_e, show (1 : Int32) = nI 1 from rfl, nI_add]
      have hm : lcF d / 65536 % 3 < 3 := Nat.mod_lt _ (by decide)
      exact main (1 + lcF d / 65536 % 3) _ (lcF d) (by omega) (fun h => by omega) (fun _ => by omega) (tB_ne ht 0 _ (Or.inl rfl)) (keep τ _) (by rw [hv_sI_rd, if_pos rfl])
    · rw [if_neg (show ¬ nI p = 1 from fun e => c1 ((nI_eq (b := 1) (by omega) (by decide)).mp e)), show (5 : Int32) = nI 5 from rfl, lc_next hd (by decide) (by decide), hv_b2_e]
      have e1 : (hv_sI τ 0 0 (nI (lcF d))).1 0 0 = nI (lcF d) := by rw [hv_sI_rd, if_pos rfl]
      by_cases c5 : nI (lcF d / 65536 % 5) = 0
      · rw [if_pos c5, show (4 : Int32) = nI 4 from rfl, lc_next e1 (by decide) (by decide), hv_b2_e]
        have hm : lcF (lcF d) / 65536 % 4 < 4 := Nat.mod_lt _ (by decide)
        exact main (lcF (lcF d) / 65536 % 4) _ (lcF (lcF d)) hm (fun h => absurd h c0) (fun h => absurd h c1) (tB_ne (tB_ne ht 0 _ (Or.inl rfl)) 0 _ (Or.inl rfl)) (fun q => (keep _ _ q).trans (keep τ _ q)) (by rw [hv_sI_rd, if_pos rfl])
      · rw [if_neg c5]
        exact main 0 _ (lcF d) (by decide) (fun h => absurd h c0) (fun h => absurd h c1) (tB_ne ht 0 _ (Or.inl rfl)) (keep τ _) e1
theorem bg_holds {n : Nat} (hn : 100 < n) {N : Nat} (hN3 : 3 ≤ N) (hN : N ≤ 5) : ∀ (k p d fuel : Nat) (σ τ : hv_St) (F : Nat → Nat → Int32), p + k = N → k < fuel → bgH F N p σ τ → τ.1 0 0 = nI d → ∃ d' F' σ' τ', bgH F' N N σ' τ' ∧ τ'.1 0 0 = nI d' ∧ kQ_begins_174 n fuel σ τ (nI N) (nI (2 * N - 2 * p + (fL F (2 * p)).length)) (nI p) = (hv_b2 (mX8_next n τ' (nI 3)) fun r289 s289 => hv_let (if nI (fN' F' N) + r289 < (11 : Int32) then nI (fN' F' N) + r289 else (11 : Int32)) fun y_293 => kQ_begins_301 n n σ' s289 (nI N) (nI (fN' F' N)) y_293 0) := by
  intro k
  induction k with
  | zero =>
    intro p d fuel σ τ F hk hf h hd
    obtain ⟨fuel, rfl⟩ : ∃ q, fuel = q + 1 := ⟨fuel - 1, by omega⟩
    have ep : p = N := by omega
    subst ep
    refine ⟨d, F, σ, τ, h, hd, ?_⟩
    show kQ_begins_174_b n _ σ τ (nI p) _ (nI p) = _
    unfold kQ_begins_174_b
    rw [if_pos (nI_le (Nat.le_refl _) (by omega)), Nat.sub_self, Nat.zero_add]
    rfl
  | succ k ih =>
    intro p d fuel σ τ F hk hf h hd
    obtain ⟨fuel, rfl⟩ : ∃ q, fuel = q + 1 := ⟨fuel - 1, by omega⟩
    obtain ⟨d', F', σ', τ', t1, t2, t3⟩ := bg_holdp (fuel := fuel) hn hN3 hN (by omega) h hd
    obtain ⟨d2, F2, σ2, τ2, u1, u2, u3⟩ := ih (p + 1) d' fuel σ' τ' F' (by omega) (by omega) t1 t2
    exact ⟨d2, F2, σ2, τ2, u1, u2, t3.trans u3⟩
