/-! the reference's rows: is a bar new -/
def bA (Y : Nat → md_V) (ld : Nat → Nat) : Nat → Nat → md_V
  | 0 => md_e
  | r + 1 => md_up (bA Y ld r) (ld r) (Y r)
theorem bA_congr {Y Y' : Nat → md_V} {ld ld' : Nat → Nat} : ∀ r, (∀ j, j < r → Y j = Y' j ∧ ld j = ld' j) → bA Y ld r = bA Y' ld' r
  | 0, _ => rfl
  | r + 1, h => by
    show md_up (bA Y ld r) (ld r) (Y r) = md_up (bA Y' ld' r) (ld' r) (Y' r)
    rw [bA_congr r (fun j hj => h j (by omega)), (h r (by omega)).1, (h r (by omega)).2]
def rT (N : Nat) (Y : Nat → md_V) (ld : Nat → Nat) (W : Nat → Nat → Int) (L : Nat) : Prop := ∀ r, r < L → ld r < N ∧ W r (ld r) ≠ 0 ∧ (∀ k, k < ld r → W r k = 0) ∧ (∀ j, j < r → W r (ld j) = 0) ∧ (∀ k, k < N → (W r k).natAbs ≤ 2 ^ 28) ∧ ∃ p q : Int, p ≠ 0 ∧ q ≠ 0 ∧ ∀ k, k < N → (∀ j, j < r → ld j ≠ k) → p * W r k = q * md_T (List.range N) N (bA Y ld r) (Y r) k
theorem rT_inj {N : Nat} {Y : Nat → md_V} {ld : Nat → Nat} {W : Nat → Nat → Int} {L : Nat} (h : rT N Y ld W L) : ∀ i j, i < L → j < L → ld i = ld j → i = j := by
  intro i j hi hj e
  rcases Nat.lt_trichotomy i j with l | l | l
  · have q := h j hj
    exact absurd (q.2.2.2.1 i l) (by rw [e]; exact q.2.1)
  · exact l
  · have q := h i hi
    exact absurd (q.2.2.2.1 j l) (by rw [← e]; exact q.2.1)
theorem rT_dt {N : Nat} {Y : Nat → md_V} {ld : Nat → Nat} {W : Nat → Nat → Int} {L : Nat} (h : rT N Y ld W L) : ∀ r, r ≤ L → md_dt (List.range N) (bA Y ld r) N ≠ 0
  | 0, _ => by
    show md_dt (List.range N) md_e N ≠ 0
    rw [md_dt_e]
    decide
  | r + 1, hr => by
    obtain ⟨h1, h2, h3, h4, h5, p, q, hp, hq, h6⟩ := h r (by omega)
    have e := h6 (ld r) h1 (fun j hj e => by have := rT_inj h j r (by omega) (by omega) e; omega)
    intro z
    have z2 : md_T (List.range N) N (bA Y ld r) (Y r) (ld r) = 0 := z
    rw [z2, Int.mul_zero] at e
    rcases Int.mul_eq_zero.mp e with e | e
    · exact hp e
    · exact h2 e
theorem rT_at {N : Nat} {Y : Nat → md_V} {ld : Nat → Nat} {W : Nat → Nat → Int} {L : Nat} (h : rT N Y ld W L) : ∀ r, r ≤ L → ∀ j, j < r → bA Y ld r (ld j) = Y j
  | 0, _, j, hj => absurd hj (Nat.not_lt_zero _)
  | r + 1, hr, j, hj => by
    show md_up (bA Y ld r) (ld r) (Y r) (ld j) = Y j
    by_cases e : j = r
    · rw [e, md_up_at]
    · rw [md_up_ne _ _ (fun q => e (rT_inj h j r (by omega) (by omega) q)), rT_at h r (by omega) j (by omega)]
theorem rT_tb {N : Nat} {C : Nat → md_V} {acc : List Nat} {ld : Nat → Nat} {W : Nat → Nat → Int} (h : rT N (fun j => C (acc.getD j 0)) ld W acc.length) : md_tb (List.range N) N C (bA (fun j => C (acc.getD j 0)) ld acc.length) ld acc :=
  ⟨rT_dt h _ (Nat.le_refl _), fun j hj => ⟨(h j hj).1, rT_at h _ (Nat.le_refl _) j hj⟩, fun i j hi hj e => rT_inj h i j hi hj e⟩
theorem rT_le {N : Nat} {Y : Nat → md_V} {ld : Nat → Nat} {W : Nat → Nat → Int} {L : Nat} (h : rT N Y ld W L) : L ≤ N := by
  have q := pig N ((List.range L).map ld) (by
    refine List.Pairwise.map _ (R := fun i j => i < L ∧ j < L ∧ i ≠ j) (fun i j hij e => hij.2.2 (rT_inj h i j hij.1 hij.2.1 e)) ?_
    exact List.Pairwise.imp_of_mem (fun {a b} ha hb hab => ⟨List.mem_range.mp ha, List.mem_range.mp hb, hab⟩) (List.nodup_range (n := L))) (fun x hx => by
    obtain ⟨i, hi, rfl⟩ := List.mem_map.mp hx
    exact (h i (List.mem_range.mp hi)).1)
  simp at q
  exact q
/-- full: each place is a lead -/
theorem rT_full {N : Nat} {Y : Nat → md_V} {ld : Nat → Nat} {W : Nat → Nat → Int} (h : rT N Y ld W N) {k : Nat} (hk : k < N) : ∃ j, j < N ∧ ld j = k := by
  refine Classical.byContradiction fun hn => ?_
  have q := pig N (k :: (List.range N).map ld) (by
    rw [List.nodup_cons]
    refine ⟨fun hm => ?_, ?_⟩
    · obtain ⟨i, hi, e⟩ := List.mem_map.mp hm
      exact hn ⟨i, List.mem_range.mp hi, e⟩
    · refine List.Pairwise.map _ (R := fun i j => i < N ∧ j < N ∧ i ≠ j) (fun i j hij e => hij.2.2 (rT_inj h i j hij.1 hij.2.1 e)) ?_
      exact List.Pairwise.imp_of_mem (fun {a b} ha hb hab => ⟨List.mem_range.mp ha, List.mem_range.mp hb, hab⟩) (List.nodup_range (n := N))) (fun x hx => by
    rcases List.mem_cons.mp hx with rfl | hx
    · exact hk
    · obtain ⟨i, hi, rfl⟩ := List.mem_map.mp hx
      exact (h i (List.mem_range.mp hi)).1)
  simp at q
  omega
theorem bA_fXs {F : Nat → Nat → Int32} {P B : Nat} {Y : Nat → md_V} {ld : Nat → Nat} : ∀ r, (∀ j, j < r → ∃ c, c < B ∧ Y j = fCol F P c) → fXs F P B (bA Y ld r)
  | 0, _ => fun k hk => ⟨B + k, by omega, by
    unfold fXc
    rw [if_neg (by omega), Nat.add_sub_cancel_left]
    rfl⟩
  | r + 1, h => by
    obtain ⟨c, hc, e⟩ := h r (by omega)
    show fXs F P B (md_up (bA Y ld r) (ld r) (Y r))
    rw [e, ← fXc_bar hc]
    exact fXs_up (bA_fXs r (fun j hj => h j (by omega))) (by omega) _
theorem iL_0 {a : Int} (h : rL a) : lg_cmp (iL a) (0 : Int64) = 0 ↔ a = 0 := by
  rw [lg_cmp0, show (0 : Int64) = iL 0 from rfl, iL_eq h ⟨by decide, by decide⟩]
theorem r8_new_60 {n : Nat} {r2 : hv_St → Int32 → Int32 → Option (Int32 × hv_St)} {σ : hv_St} {N L r : Nat} (hN : σ.1 0 18 = nI N) (hN12 : N ≤ 12) (hL : L < 12) (hr : r < L) {v w : Nat → Int} {by' its : Int} (hi0 : its ≠ 0) (hir : rL its) : ∀ (d k fuel : Nat) (f : Nat → Int64), k + d = N → d < fuel → rRow N r f w → (∀ j, j < N → f (12 * L + j) = iL (if j < k then v j * by' - its * w j else v j)) → ∃ g, kX8_isNew_60 n r2 fuel (hv_wJ σ 13 f) (nI L) (nI r) (iL by') (iL its) (nI k) = kX8_isNew_125 n r2 (hv_wJ σ 13 g) (nI L) (nI r) ∧ rRow N L g (fun j => v j * by' - its * w j) ∧ ∀ i, (i < 12 * L ∨ 12 * L + N ≤ i) → g i = f i := by
  intro d
  induction d with
  | zero =>
    intro k fuel f hk hfu hw hf
    obtain ⟨fuel, rfl⟩ : ∃ q, fuel = q + 1 := ⟨fuel - 1, by omega⟩
    refine ⟨f, ?_, fun j hj => by rw [hf j hj, if_pos (by omega)], fun _ _ => rfl⟩
    show kX8_isNew_60_b n r2 _ _ _ _ _ _ _ = _
    unfold kX8_isNew_60_b
    rw [hv_wJ_1, hN, if_pos (nI_le (by omega) (by omega))]
  | succ d ih =>
    intro k fuel f hk hfu hw hf
    obtain ⟨fuel, rfl⟩ : ∃ q, fuel = q + 1 := ⟨fuel - 1, by omega⟩
    have hfk := hf k (by omega)
    rw [if_neg (Nat.lt_irrefl k)] at hfk
    obtain ⟨g, g1, g2, g3⟩ := ih (k + 1) fuel (vp_updL f (12 * L + k) (iL (v k * by' - its * w k))) (by omega) (by omega) (fun j hj => by
      rw [pk_uLn (by omega)]
      exact hw j hj) (fun j hj => by
      by_cases e : j = k
      · rw [e, pk_uLs, if_pos (by omega)]
      · rw [pk_uLn (by omega), hf j hj]
        by_cases l : j < k
        · rw [if_pos l, if_pos (by omega)]
        · rw [if_neg l, if_neg (by omega)])
    refine ⟨g, ?_, g2, fun i hi => ?_⟩
    · show kX8_isNew_60_b n r2 _ _ _ _ _ _ _ = _
      unfold kX8_isNew_60_b
      rw [hv_wJ_1, hN, if_neg (nI_ge (by omega) (by omega)), if_neg (fun q => hi0 ((iL_0 hir).mp q)), nI_12, nI_12, hv_if_t (hv_ok_nI (show 12 * L + k < 144 by omega) (by decide)), hv_if_t (hv_ok_nI (show 12 * r + k < 144 by omega) (by decide)), hv_if_t (hv_ok_nI (show 12 * L + k < 144 by omega) (by decide)), nI_clamp (by omega), nI_clamp (by omega), hv_let_e, hv_wJ_at, hfk, hw k (by omega), iL_mul, iL_mul, iL_sub, hv_sJ_wJ, nI_1]
      exact g1
    · rw [g3 i hi, pk_uLn (by omega)]
theorem r8_new_9 {n : Nat} {r2 : hv_St → Int32 → Int32 → Option (Int32 × hv_St)} {σ : hv_St} {N L r l : Nat} (hN12 : N ≤ 12) (hL : L < 12) (hr : r < L) (hl : l < N) {f : Nat → Int64} {v w : Nat → Int} (hw : rRow N r f w) (hv : rRow N L f v) (hz : ∀ k, k < l → w k = 0) (hnz : w l ≠ 0) (hwl : rL (w l)) : ∀ (d c fuel : Nat), c + d = l → d < fuel → kX8_isNew_9 n r2 fuel (hv_wJ σ 13 f) (nI L) (nI r) (nI c) = kX8_isNew_60 n r2 n (hv_wJ σ 13 f) (nI L) (nI r) (iL (w l)) (iL (v l)) (nI 0) := by
  intro d
  induction d with
  | zero =>
    intro c fuel hc hf
    obtain ⟨fuel, rfl⟩ : ∃ q, fuel = q + 1 := ⟨fuel - 1, by omega⟩
    obtain rfl : c = l := by omega
    show kX8_isNew_9_b n r2 _ _ _ _ _ = _
    unfold kX8_isNew_9_b
    rw [nI_12, nI_12, hv_if_t (hv_ok_nI (show 12 * r + c < 144 by omega) (by decide)), nI_clamp (by omega), hv_wJ_at, hw c hl, if_neg (fun q => hnz ((iL_0 hwl).mp q)), hv_if_t (hv_ok_nI (show 12 * r + c < 144 by omega) (by decide)), hv_let_e, hv_if_t (hv_ok_nI (show 12 * L + c < 144 by omega) (by decide)), hv_let_e, nI_clamp (by omega), hv c hl]
    rfl
  | succ d ih =>
    intro c fuel hc hf
    obtain ⟨fuel, rfl⟩ : ∃ q, fuel = q + 1 := ⟨fuel - 1, by omega⟩
    show kX8_isNew_9_b n r2 _ _ _ _ _ = _
    unfold kX8_isNew_9_b
    rw [nI_12, nI_12, hv_if_t (hv_ok_nI (show 12 * r + c < 144 by omega) (by decide)), nI_clamp (by omega), hv_wJ_at, hw c (by omega), hz c (by omega), if_pos ((iL_0 ⟨by decide, by decide⟩).mpr rfl), nI_1]
    exact ih (c + 1) fuel (by omega) (by omega)
theorem r8_new_138 {n : Nat} {σ : hv_St} {N L : Nat} (hN : σ.1 0 18 = nI N) (hN12 : N ≤ 12) (hL : L < 12) {f : Nat → Int64} {v : Nat → Int} (hv : rRow N L f v) (hb : ∀ k, k < N → rL (v k)) : ∀ (d k fuel : Nat), k + d = N → d < fuel → ((∃ j, k ≤ j ∧ j < N ∧ v j ≠ 0) → ∃ l, l < N ∧ v l ≠ 0 ∧ (∀ j, k ≤ j → j < l → v j = 0) ∧ kX8_isNew_138 n fuel (hv_wJ σ 13 f) (nI L) (nI k) = some (1, hv_wJ σ 13 f)) ∧ ((¬ ∃ j, k ≤ j ∧ j < N ∧ v j ≠ 0) → kX8_isNew_138 n fuel (hv_wJ σ 13 f) (nI L) (nI k) = some (0, hv_wJ σ 13 f)) := by
  intro d
  induction d with
  | zero =>
    intro k fuel hk hf
    obtain ⟨fuel, rfl⟩ : ∃ q, fuel = q + 1 := ⟨fuel - 1, by omega⟩
    refine ⟨fun ⟨j, h1, h2, _⟩ => by omega, fun _ => ?_⟩
    show kX8_isNew_138_b n _ _ _ _ = _
    unfold kX8_isNew_138_b
    rw [hv_wJ_1, hN, if_pos (nI_le (by omega) (by omega))]
  | succ d ih =>
    intro k fuel hk hf
    obtain ⟨fuel, rfl⟩ : ∃ q, fuel = q + 1 := ⟨fuel - 1, by omega⟩
    have hi := ih (k + 1) fuel (by omega) (by omega)
    have e : kX8_isNew_138 n (fuel + 1) (hv_wJ σ 13 f) (nI L) (nI k) = if v k = 0 then kX8_isNew_138 n fuel (hv_wJ σ 13 f) (nI L) (nI (k + 1)) else some (1, hv_wJ σ 13 f) := by
      show kX8_isNew_138_b n _ _ _ _ = _
      unfold kX8_isNew_138_b
      rw [hv_wJ_1, hN, if_neg (nI_ge (by omega) (by omega)), nI_12, hv_if_t (hv_ok_nI (show 12 * L + k < 144 by omega) (by decide)), nI_clamp (by omega), hv_wJ_at, hv k (by omega), nI_1]
      by_cases h : v k = 0
      · rw [if_pos ((iL_0 (hb k (by omega))).mpr h), if_pos h]
      · rw [if_neg (fun q => h ((iL_0 (hb k (by omega))).mp q)), if_neg h]
    rw [e]
    by_cases h : v k = 0
    · rw [if_pos h]
      refine ⟨fun ⟨j, h1, h2, h3⟩ => ?_, fun q => hi.2 (fun ⟨j, h1, h2, h3⟩ => q ⟨j, by omega, h2, h3⟩)⟩
      obtain ⟨l, l1, l2, l3, l4⟩ := hi.1 ⟨j, Nat.lt_of_le_of_ne h1 (fun e => h3 (e ▸ h)), h2, h3⟩
      refine ⟨l, l1, l2, fun j j1 j2 => ?_, l4⟩
      by_cases ej : j = k
      · rw [ej]; exact h
      · exact l3 j (by omega) j2
    · rw [if_neg h]
      exact ⟨fun _ => ⟨k, by omega, h, fun j h1 h2 => by omega, rfl⟩, fun q => absurd ⟨k, Nat.le_refl _, by omega, h⟩ q⟩
/-- the row lessened by the first r rows -/
def rV (N : Nat) (Y : Nat → md_V) (ld : Nat → Nat) (X : md_V) (r : Nat) (v : Nat → Int) : Prop := (∀ j, j < r → v (ld j) = 0) ∧ (∀ k, k < N → (v k).natAbs ≤ 2 ^ 28) ∧ ∃ p q : Int, p ≠ 0 ∧ q ≠ 0 ∧ ∀ k, k < N → (∀ j, j < r → ld j ≠ k) → p * v k = q * md_T (List.range N) N (bA Y ld r) X k
theorem rL_56 {a b c d : Int} (ha : a.natAbs ≤ 2 ^ 28) (hb : b.natAbs ≤ 2 ^ 28) (hc : c.natAbs ≤ 2 ^ 28) (hd : d.natAbs ≤ 2 ^ 28) : (a * b - c * d).natAbs ≤ 2 ^ 62 := by
  have h1 : (a * b).natAbs ≤ 2 ^ 56 := by
    rw [Int.natAbs_mul]
    exact Nat.le_trans (Nat.mul_le_mul ha hb) (by decide)
  have h2 : (c * d).natAbs ≤ 2 ^ 56 := by
    rw [Int.natAbs_mul]
    exact Nat.le_trans (Nat.mul_le_mul hc hd) (by decide)
  omega
theorem r8_new_step {n : Nat} (hn : 200 ≤ n) {σ : hv_St} {N L r : Nat} (hN : σ.1 0 18 = nI N) (hN12 : N ≤ 12) (hL : L < 12) (hr : r < L) {Y : Nat → md_V} {ld : Nat → Nat} {W : Nat → Nat → Int} (hT : rT N Y ld W L) {X : md_V} (hbd : ∀ k, k < N → (md_T (List.range N) N (bA Y ld (r + 1)) X k).natAbs ≤ 2 ^ 28) {f : Nat → Int64} (hW : rRow N r f (W r)) {v : Nat → Int} (hv : rRow N L f v) (hV : rV N Y ld X r v) (fuel : Nat) : ∃ g v', kX8_isNew_2 n (fuel + 1) (hv_wJ σ 13 f) (nI L) (nI r) = kX8_isNew_2 n fuel (hv_wJ σ 13 g) (nI L) (nI (r + 1)) ∧ rRow N L g v' ∧ rV N Y ld X (r + 1) v' ∧ ∀ i, (i < 12 * L ∨ 12 * L + N ≤ i) → g i = f i := by
  obtain ⟨t1, t2, t3, t4, t5, p', q', hp', hq', t6⟩ := hT r hr
  obtain ⟨v1, v2, p, q, hp, hq, v3⟩ := hV
  have hnl : ∀ j, j < r → ld j ≠ ld r := fun j hj e => by have := rT_inj hT j r (by omega) hr e; omega
  have hs := rT_dt hT r (by omega)
  have hpv : ∀ k, k < N → k ≠ ld r → md_dt (List.range N) (bA Y ld r) N * md_T (List.range N) N (bA Y ld (r + 1)) X k = md_T (List.range N) N (bA Y ld r) (Y r) (ld r) * md_T (List.range N) N (bA Y ld r) X k - md_T (List.range N) N (bA Y ld r) (Y r) k * md_T (List.range N) N (bA Y ld r) X (ld r) := fun k hk hkl => md_pv (bA Y ld r) hkl t1 hk (Y r) X
  have hTY : md_T (List.range N) N (bA Y ld r) (Y r) (ld r) ≠ 0 := rT_dt hT (r + 1) (by omega)
  -- the row ahead of its least terms
  have key : ∃ g0 u, kX8_isNew_2 n (fuel + 1) (hv_wJ σ 13 f) (nI L) (nI r) = kX8_isNew_125 n (kX8_isNew_2 n fuel) (hv_wJ σ 13 g0) (nI L) (nI r) ∧ rRow N L g0 u ∧ (∀ i, (i < 12 * L ∨ 12 * L + N ≤ i) → g0 i = f i) ∧ (∀ k, k < N → (u k).natAbs ≤ 2 ^ 62) ∧ (∀ j, j < r + 1 → u (ld j) = 0) ∧ ∃ a b : Int, a ≠ 0 ∧ b ≠ 0 ∧ ∀ k, k < N → (∀ j, j < r + 1 → ld j ≠ k) → a * u k = b * md_T (List.range N) N (bA Y ld (r + 1)) X k := by
    have e2 : kX8_isNew_2 n (fuel + 1) (hv_wJ σ 13 f) (nI L) (nI r) = kX8_isNew_60 n (kX8_isNew_2 n fuel) n (hv_wJ σ 13 f) (nI L) (nI r) (iL (W r (ld r))) (iL (v (ld r))) (nI 0) := by
      show kX8_isNew_2_b n _ _ _ _ = _
      unfold kX8_isNew_2_b
      rw [if_neg (nI_ge (by omega) (by omega))]
      exact r8_new_9 (n := n) hN12 hL hr t1 hW hv t3 t2 (rL_of (Nat.le_trans (t5 _ t1) (by decide))) (ld r) 0 n (by omega) (by omega)
    rw [e2]
    by_cases hz : v (ld r) = 0
    · refine ⟨f, v, ?_, hv, fun _ _ => rfl, fun k hk => Nat.le_trans (v2 k hk) (by decide), fun j hj => ?_, p * md_T (List.range N) N (bA Y ld r) (Y r) (ld r), q * md_dt (List.range N) (bA Y ld r) N, Int.mul_ne_zero hp hTY, Int.mul_ne_zero hq hs, fun k hk hj => ?_⟩
      · obtain ⟨m, rfl⟩ : ∃ q, n = q + 1 := ⟨n - 1, by omega⟩
        show kX8_isNew_60_b (m + 1) _ _ _ _ _ _ _ _ = _
        unfold kX8_isNew_60_b
        by_cases l : (hv_wJ σ 13 f).1 0 18 ≤ nI 0
        · rw [if_pos l]
        · rw [if_neg l, if_pos ((iL_0 (rL_of (by rw [hz]; decide))).mpr hz)]
      · by_cases e : j = r
        · rw [e]; exact hz
        · exact v1 j (by omega)
      · have a1 := v3 k hk (fun j h => hj j (by omega))
        have a2 := v3 (ld r) t1 hnl
        rw [hz, Int.mul_zero] at a2
        have a3 : md_T (List.range N) N (bA Y ld r) X (ld r) = 0 := (Int.mul_eq_zero.mp a2.symm).resolve_left hq
        have a4 := hpv k hk (fun e => hj r (by omega) e.symm)
        rw [a3, Int.mul_zero, Int.sub_zero] at a4
        rw [Int.mul_assoc q, a4, Int.mul_comm p, Int.mul_assoc, a1, Int.mul_left_comm]
    · obtain ⟨g, g1, g2, g3⟩ := r8_new_60 (n := n) (r2 := kX8_isNew_2 n fuel) hN hN12 hL hr (v := v) (w := W r) (by' := W r (ld r)) hz (rL_of (Nat.le_trans (v2 _ t1) (by decide))) N 0 n f (by omega) (by omega) hW (fun j hj => by rw [if_neg (Nat.not_lt_zero _)]; exact hv j hj)
      refine ⟨g, _, g1, g2, g3, fun k hk => rL_56 (v2 k hk) (t5 _ t1) (v2 _ t1) (t5 k hk), fun j hj => ?_, p * p', q * q' * md_dt (List.range N) (bA Y ld r) N, Int.mul_ne_zero hp hp', Int.mul_ne_zero (Int.mul_ne_zero hq hq') hs, fun k hk hj => ?_⟩
      · show v (ld j) * W r (ld r) - v (ld r) * W r (ld j) = 0
        by_cases e : j = r
        · rw [e]; omega
        · rw [v1 j (by omega), t4 j (by omega), Int.zero_mul, Int.mul_zero]; rfl
      · have a1 := v3 k hk (fun j h => hj j (by omega))
        have a2 := v3 (ld r) t1 hnl
        have a3 := t6 k hk (fun j h => hj j (by omega))
        have a4 := t6 (ld r) t1 hnl
        have a5 := hpv k hk (fun e => hj r (by omega) e.symm)
        calc p * p' * (v k * W r (ld r) - v (ld r) * W r k) = (p * v k) * (p' * W r (ld r)) - (p * v (ld r)) * (p' * W r k) := by grind
          _ = (q * md_T (List.range N) N (bA Y ld r) X k) * (q' * md_T (List.range N) N (bA Y ld r) (Y r) (ld r)) - (q * md_T (List.range N) N (bA Y ld r) X (ld r)) * (q' * md_T (List.range N) N (bA Y ld r) (Y r) k) := by rw [a1, a2, a3, a4]
          _ = q * q' * (md_T (List.range N) N (bA Y ld r) (Y r) (ld r) * md_T (List.range N) N (bA Y ld r) X k - md_T (List.range N) N (bA Y ld r) (Y r) k * md_T (List.range N) N (bA Y ld r) X (ld r)) := by grind
          _ = q * q' * md_dt (List.range N) (bA Y ld r) N * md_T (List.range N) N (bA Y ld (r + 1)) X k := by rw [← a5, Int.mul_assoc, Int.mul_assoc, Int.mul_assoc]
  obtain ⟨g0, u, k1, k2, k3, k4, k5, a, b, ha, hb, k6⟩ := key
  obtain ⟨g, w, c, w1, w2, w3, w4, w5, w6⟩ := r8_lessens hn hN hN12 hL k2 k4
  refine ⟨g, w, ?_, w5, ⟨fun j hj => ?_, fun k hk => ?_, a * c, b, Int.mul_ne_zero ha w2, hb, fun k hk hj => ?_⟩, fun i hi => (w6 i hi).trans (k3 i hi)⟩
  · rw [k1]
    unfold kX8_isNew_125
    rw [w1, hv_bd_e, nI_1]
  · have e := w3 (ld j) (hT j (by omega)).1
    rw [k5 j hj] at e
    exact (Int.mul_eq_zero.mp e.symm).resolve_left w2
  · have hw0 : ∀ j, j < r + 1 → w (ld j) = 0 := fun j hj => by
      have e := w3 (ld j) (hT j (by omega)).1
      rw [k5 j hj] at e
      exact (Int.mul_eq_zero.mp e.symm).resolve_left w2
    by_cases hk0 : ∃ j, j < r + 1 ∧ ld j = k
    · obtain ⟨j, hj, rfl⟩ := hk0
      rw [hw0 j hj]
      decide
    · have h := prim_le (W := w) (w := fun k => @ite _ (∃ j, j < r + 1 ∧ ld j = k) (Classical.propDecidable _) 0 (md_T (List.range N) N (bA Y ld (r + 1)) X k)) (N := N) w4 (p := a * c) (q := b) (Int.mul_ne_zero ha w2) hb (fun i hi => by
        by_cases h0 : ∃ j, j < r + 1 ∧ ld j = i
        · rw [if_pos h0]
          obtain ⟨j, hj, rfl⟩ := h0
          rw [hw0 j hj, Int.mul_zero, Int.mul_zero]
        · rw [if_neg h0, Int.mul_assoc, ← w3 i hi]
          exact k6 i hi (fun j hj e => h0 ⟨j, hj, e⟩)) hk
      rw [if_neg hk0] at h
      exact Nat.le_trans h (hbd k hk)
  · rw [Int.mul_assoc, ← w3 k hk]
    exact k6 k hk hj
theorem r8_new_loop {n : Nat} (hn : 200 ≤ n) {σ : hv_St} {N L : Nat} (hN : σ.1 0 18 = nI N) (hN12 : N ≤ 12) (hL : L < 12) {Y : Nat → md_V} {ld : Nat → Nat} {W : Nat → Nat → Int} (hT : rT N Y ld W L) {X : md_V} (hbd : ∀ r k, r ≤ L → k < N → (md_T (List.range N) N (bA Y ld r) X k).natAbs ≤ 2 ^ 28) : ∀ (d r fuel : Nat) (f : Nat → Int64) (v : Nat → Int), r + d = L → d < fuel → (∀ i, i < L → rRow N i f (W i)) → rRow N L f v → rV N Y ld X r v → ∃ g v', kX8_isNew_2 n fuel (hv_wJ σ 13 f) (nI L) (nI r) = kX8_isNew_138 n n (hv_wJ σ 13 g) (nI L) (nI 0) ∧ rRow N L g v' ∧ rV N Y ld X L v' ∧ ∀ i, (i < 12 * L ∨ 12 * L + N ≤ i) → g i = f i := by
  intro d
  induction d with
  | zero =>
    intro r fuel f v hr hf hW hv hV
    obtain ⟨fuel, rfl⟩ : ∃ q, fuel = q + 1 := ⟨fuel - 1, by omega⟩
    obtain rfl : r = L := by omega
    refine ⟨f, v, ?_, hv, hV, fun _ _ => rfl⟩
    show kX8_isNew_2_b n _ _ _ _ = _
    unfold kX8_isNew_2_b
    rw [if_pos (nI_le (Nat.le_refl _) (by omega))]
    rfl
  | succ d ih =>
    intro r fuel f v hr hf hW hv hV
    obtain ⟨fuel, rfl⟩ : ∃ q, fuel = q + 1 := ⟨fuel - 1, by omega⟩
    obtain ⟨g, v', g1, g2, g3, g4⟩ := r8_new_step hn hN hN12 hL (show r < L by omega) hT (fun k hk => hbd (r + 1) k (by omega) hk) (hW r (by omega)) hv hV fuel
    obtain ⟨g', v'', k1, k2, k3, k4⟩ := ih (r + 1) fuel g v' (by omega) (by omega) (fun i hi k hk => by rw [g4 _ (by omega)]; exact hW i hi k hk) g2 g3
    exact ⟨g', v'', g1.trans k1, k2, k3, fun i hi => (k4 i hi).trans (g4 i hi)⟩
