/-! how large the sums of the reference are -/
theorem sumK_bd {f : Nat → Int} {M : Nat} : ∀ k, (∀ i, i < k → (f i).natAbs ≤ M) → (sumK f k).natAbs ≤ k * M
  | 0, _ => by
    show (0 : Int).natAbs ≤ _
    simp
  | k + 1, h => by
    have q := sumK_bd k (fun i hi => h i (by omega))
    have r := h k (by omega)
    have e : (k + 1) * M = k * M + M := Nat.succ_mul k M
    show (sumK f k + f k).natAbs ≤ _
    omega
theorem sumK_nn {f : Nat → Int} : ∀ k, (∀ i, i < k → 0 ≤ f i) → 0 ≤ sumK f k
  | 0, _ => Int.le_refl 0
  | k + 1, h => by
    have q := sumK_nn k (fun i hi => h i (by omega))
    have r := h k (by omega)
    show 0 ≤ sumK f k + f k
    omega
theorem sumK_pos {f : Nat → Int} : ∀ k, (∀ i, i < k → 0 ≤ f i) → ∀ i, i < k → 0 < f i → 0 < sumK f k
  | 0, _, i, hi, _ => absurd hi (Nat.not_lt_zero _)
  | k + 1, h, i, hi, hp => by
    show 0 < sumK f k + f k
    by_cases e : i = k
    · have q := sumK_nn k (fun j hj => h j (by omega))
      rw [e] at hp
      omega
    · have q := sumK_pos k (fun j hj => h j (by omega)) i (by omega) hp
      have r := h k (by omega)
      omega
theorem mul3 {g a b : Int} {G X Y : Nat} (hg : g.natAbs ≤ G) (ha : a.natAbs ≤ X) (hb : b.natAbs ≤ Y) : (g * a * b).natAbs ≤ G * X * Y := by
  rw [Int.natAbs_mul, Int.natAbs_mul]
  exact Nat.mul_le_mul (Nat.mul_le_mul hg ha) hb
theorem dSc_bd {F : Nat → Nat → Int32} {P B O D W : Nat} (hi : hI F P B O D W) {T c : Nat} (hTl : (fBl T B).length = fN' F P) (hc : c ∈ fBl T B) {z : Nat → Int} (hz : ∀ s, s < 12 → (z s).natAbs ≤ 9) : (dS F P B T (eB c) (fCo F P z)).natAbs ≤ 108 * 5 ^ (fN' F P - 1) := by
  obtain ⟨pre, post, e⟩ := List.append_of_mem hc
  have nd := fBl_nd T B
  rw [e, List.nodup_append] at nd
  have n2 := List.nodup_cons.mp nd.2.1
  have hw : ∀ b, b ∈ fBl T B → b ≠ c → md_W (fR F P) (gC F P (eB c) (fCo F P z) b) 5 := fun b hb hbc => by
    unfold gC eB
    rw [if_neg (fun q => hbc (of_decide_eq_true q))]
    exact fCol_W hi (fBl_mem.mp hb).1
  have gc : gC F P (eB c) (fCo F P z) c = fCo F P z := by
    unfold gC eB
    rw [if_pos (by simp)]
  have q := md_D_W2 (R := fR F P) (nd_range _) (w := 5) (z := 108) (c := pre.map (gC F P (eB c) (fCo F P z))) (d := post.map (gC F P (eB c) (fCo F P z))) (x := fCo F P z) (fun v hv => by
    obtain ⟨b, hb, rfl⟩ := List.mem_map.mp hv
    exact hw b (by rw [e]; exact List.mem_append_left _ hb) (fun q => nd.2.2 b hb c List.mem_cons_self q)) (fCo_W hi.1.2 hz) (fun v hv => by
    obtain ⟨b, hb, rfl⟩ := List.mem_map.mp hv
    exact hw b (by rw [e]; exact List.mem_append_right _ (List.mem_cons_of_mem _ hb)) (fun q => n2.1 (q ▸ hb)))
  have el : (fBl T B).length = pre.length + (post.length + 1) := by rw [e, List.length_append, List.length_cons]
  rw [List.length_map, List.length_map, show pre.length + post.length = fN' F P - 1 by omega] at q
  unfold dS
  rw [e, List.map_append, List.map_cons, gc]
  exact q
theorem gv_abs {F : Nat → Nat → Int32} {P B O D W : Nat} (hi : hI F P B O D W) {b : Nat} (hb : b < B) : (gv F b).natAbs ≤ 3 := by
  have := gv_e hi hb
  omega
theorem p5le {N M : Nat} (h : N ≤ M) : 5 ^ N ≤ 5 ^ M := Nat.pow_le_pow_right (by decide) h
theorem uS_bd {F : Nat → Nat → Int32} {P B O D W : Nat} (hi : hI F P B O D W) {S : Nat} (hS : S < 2 ^ B) {m : Nat} (hm : m ≤ 2) (hN : pc S = fN' F P + m) (hNm : fN' F P + m ≤ 11) : (uSum F P B S).natAbs ≤ 2 ^ 52 := by
  have hB := hi.2.1.2
  have e0 : andn S S = 0 := sub_iff.mpr (fun j hj => hj)
  show (sumK (fun T => if bC F P S T = true then gPr F (andn S T) B * dN F P B T * dN F P B T else 0) (2 ^ B)).natAbs ≤ _
  rcases (show m = 0 ∨ m = 1 ∨ m = 2 by omega) with rfl | rfl | rfl
  · rw [sum_0 hB hS hN, e0, gPr_zero]
    have d := Nat.le_trans (dN_bd hi hS ((bC_0 hB hS hN).mpr rfl)) (p5le (show fN' F P ≤ 11 by omega))
    exact Nat.le_trans (mul3 (G := 1) (by decide) d d) (by decide)
  · rw [sum_1 hB hS hN]
    refine Nat.le_trans (sumK_bd (M := 3 * 5 ^ 10 * 5 ^ 10) B (fun a ha => ?_)) (Nat.le_trans (Nat.mul_le_mul_right _ hB) (by decide))
    by_cases ts : S.testBit a = true
    · have d := Nat.le_trans (dN_bd hi (T := andn S (2 ^ a)) (andn_lt hS) ((bC_1 hB hS hN).mpr ⟨a, ha, ts, rfl⟩)) (p5le (show fN' F P ≤ 10 by omega))
      rw [if_pos ts, del_1 ts, gPr_one, if_pos ha]
      exact mul3 (gv_abs hi ha) d d
    · rw [if_neg ts]
      exact Nat.zero_le _
  · rw [sum_2 hB hS hN]
    refine Nat.le_trans (sumK_bd (M := 11 * (9 * 5 ^ 9 * 5 ^ 9)) B (fun a ha => Nat.le_trans (sumK_bd (M := 9 * 5 ^ 9 * 5 ^ 9) B (fun b hb => ?_)) (Nat.mul_le_mul_right _ hB))) (Nat.le_trans (Nat.mul_le_mul_right _ hB) (by decide))
    by_cases hab : a < b
    · rw [if_pos hab]
      by_cases ts : S.testBit a = true ∧ S.testBit b = true
      · have d := Nat.le_trans (dN_bd hi (T := andn S (2 ^ a ||| 2 ^ b)) (andn_lt hS) ((bC_2 hB hS hN).mpr ⟨a, b, hab, hb, ts.1, ts.2, rfl⟩)) (p5le (show fN' F P ≤ 9 by omega))
        rw [if_pos ts, del_2 ts.1 ts.2, gPr_two F hab, if_pos ha, if_pos hb]
        refine mul3 ?_ d d
        rw [Int.natAbs_mul]
        exact Nat.mul_le_mul (gv_abs hi ha) (gv_abs hi hb)
      · rw [if_neg ts]
        exact Nat.zero_le _
    · rw [if_neg hab]
      exact Nat.zero_le _
theorem oT_bd {F : Nat → Nat → Int32} {P B O D W : Nat} (hi : hI F P B O D W) {S T : Nat} (hT : T < 2 ^ B) (h : bC F P S T = true) {z : Nat → Int} (hz : ∀ s, s < 12 → (z s).natAbs ≤ 9) {g : Int} {G : Nat} (hg : g.natAbs ≤ G) (c : Nat) {M : Nat} (hM : fN' F P ≤ M) : (oT F P B (fCo F P z) T g c).natAbs ≤ G * 5 ^ M * (108 * 5 ^ (M - 1)) := by
  have hB := hi.2.1.2
  unfold oT
  by_cases tc : T.testBit c = true
  · rw [if_pos tc]
    have hTl : (fBl T B).length = fN' F P := by rw [← pc_fBl hB hT]; exact (bC_iff.mp h).2
    have hcB : c < B := Nat.lt_of_not_le fun q => by
      have := Nat.testBit_lt_two_pow (Nat.lt_of_lt_of_le hT (Nat.pow_le_pow_right (show 0 < 2 by decide) q))
      rw [this] at tc
      exact absurd tc (by decide)
    have d2 := dSc_bd hi hTl (fBl_mem.mpr ⟨hcB, tc⟩) hz
    exact mul3 hg (Nat.le_trans (dN_bd hi hT h) (p5le hM)) (Nat.le_trans d2 (Nat.mul_le_mul_left _ (p5le (by omega))))
  · rw [if_neg tc]
    exact Nat.zero_le _
theorem oS_bd {F : Nat → Nat → Int32} {P B O D W : Nat} (hi : hI F P B O D W) {S : Nat} (hS : S < 2 ^ B) {m : Nat} (hm : m ≤ 2) (hN : pc S = fN' F P + m) (hNm : fN' F P + m ≤ 11) {z : Nat → Int} (hz : ∀ s, s < 12 → (z s).natAbs ≤ 9) (c : Nat) : (oSum F P B S z c).natAbs ≤ 2 ^ 57 := by
  have hB := hi.2.1.2
  have e0 : andn S S = 0 := sub_iff.mpr (fun j hj => hj)
  show (sumK (fun T => if bC F P S T = true then oT F P B (fCo F P z) T (gPr F (andn S T) B) c else 0) (2 ^ B)).natAbs ≤ _
  rcases (show m = 0 ∨ m = 1 ∨ m = 2 by omega) with rfl | rfl | rfl
  · rw [sum_0 hB hS hN, e0, gPr_zero]
    exact Nat.le_trans (oT_bd hi hS ((bC_0 hB hS hN).mpr rfl) hz (g := 1) (G := 1) (by decide) c (M := 11) (by omega)) (by decide)
  · rw [sum_1 hB hS hN]
    refine Nat.le_trans (sumK_bd (M := 3 * 5 ^ 10 * (108 * 5 ^ (10 - 1))) B (fun a ha => ?_)) (Nat.le_trans (Nat.mul_le_mul_right _ hB) (by decide))
    by_cases ts : S.testBit a = true
    · rw [if_pos ts, del_1 ts, gPr_one, if_pos ha]
      exact oT_bd hi (T := andn S (2 ^ a)) (andn_lt hS) ((bC_1 hB hS hN).mpr ⟨a, ha, ts, rfl⟩) hz (gv_abs hi ha) c (by omega)
    · rw [if_neg ts]
      exact Nat.zero_le _
  · rw [sum_2 hB hS hN]
    refine Nat.le_trans (sumK_bd (M := 11 * (9 * 5 ^ 9 * (108 * 5 ^ (9 - 1)))) B (fun a ha => Nat.le_trans (sumK_bd (M := 9 * 5 ^ 9 * (108 * 5 ^ (9 - 1))) B (fun b hb => ?_)) (Nat.mul_le_mul_right _ hB))) (Nat.le_trans (Nat.mul_le_mul_right _ hB) (by decide))
    by_cases hab : a < b
    · rw [if_pos hab]
      by_cases ts : S.testBit a = true ∧ S.testBit b = true
      · rw [if_pos ts, del_2 ts.1 ts.2, gPr_two F hab, if_pos ha, if_pos hb]
        refine oT_bd hi (T := andn S (2 ^ a ||| 2 ^ b)) (andn_lt hS) ((bC_2 hB hS hN).mpr ⟨a, b, hab, hb, ts.1, ts.2, rfl⟩) hz (G := 9) ?_ c (by omega)
        rw [Int.natAbs_mul]
        exact Nat.mul_le_mul (gv_abs hi ha) (gv_abs hi hb)
      · rw [if_neg ts]
        exact Nat.zero_le _
    · rw [if_neg hab]
      exact Nat.zero_le _
theorem sq_nn (g u : Int) (hg : 0 < g) : 0 ≤ g * u * u ∧ (u ≠ 0 → 0 < g * u * u) := by
  have e : g * u * u = g * (u * u) := Int.mul_assoc g u u
  have h1 : 0 ≤ u * u := by
    rcases Int.le_total 0 u with h | h
    · exact Int.mul_nonneg h h
    · exact Int.mul_nonneg_of_nonpos_of_nonpos h h
  rw [e]
  refine ⟨Int.mul_nonneg (by omega) h1, fun hu => Int.mul_pos hg ?_⟩
  have h2 : u * u ≠ 0 := Int.mul_ne_zero hu hu
  omega
theorem uS_pos {F : Nat → Nat → Int32} {P B O D W : Nat} (hi : hI F P B O D W) {S : Nat} (hS : S < 2 ^ B) {A : Nat → md_V} (h : zF F P B S A) (hd : md_dt (fR F P) A (fN' F P) ≠ 0) (hm : (fSp F P B S).length ≤ 2) (hN : pc S = fN' F P + (fSp F P B S).length) : 0 < uSum F P B S := by
  have hB := hi.2.1.2
  have e1 : (1 : Int) = 1 ∨ (1 : Int) = -1 := Or.inl rfl
  rcases (show (fSp F P B S).length = 0 ∨ (fSp F P B S).length = 1 ∨ (fSp F P B S).length = 2 by omega) with m | m | m
  · rw [(u_0 hB hS h m (by omega)).1]
    have q := (sq_nn 1 _ (by decide)).2 hd
    rw [Int.one_mul] at q
    exact q
  · have zh := zI_hi h (i := 0) (by omega)
    have h0 := (zL_mem.mp zh.1).1
    rw [u_1 hB hS h m (by omega) e1]
    refine sumK_pos B (fun a ha => (sq_nn _ _ (by have := gv_e hi ha; omega)).1) _ h0 ((sq_nn _ _ (by have := gv_e hi h0; omega)).2 ?_)
    rw [uU_at 0 zh.1, zh.2, Int.one_mul, t_all.2.2.2.2 0 0 (by omega) (by omega), if_pos rfl]
    exact hd
  · have z0 := zI_hi h (i := 0) (by omega)
    have z1 := zI_hi h (i := 1) (by omega)
    have h0 := (zL_mem.mp z0.1).1
    have h1 := (zL_mem.mp z1.1).1
    have hlt : (fSp F P B S).getD 0 0 < (fSp F P B S).getD 1 0 := by
      have q := List.pairwise_iff_getElem.mp (fSp_lt F P B S) 0 1 (by omega) (by omega) (by decide)
      rw [List.getD_eq_getElem?_getD, List.getD_eq_getElem?_getD, List.getElem?_eq_getElem (by omega), List.getElem?_eq_getElem (by omega), Option.getD_some, Option.getD_some]
      exact q
    rw [u_2 hB hS h m (by omega) e1]
    have nn : ∀ a b, a < B → b < B → 0 ≤ (if a < b then gv F a * gv F b * pP F P B S A 1 a b * pP F P B S A 1 a b else 0) := fun a b ha hb => by
      by_cases l : a < b
      · rw [if_pos l]
        exact (sq_nn _ _ (Int.mul_pos (by have := gv_e hi ha; omega) (by have := gv_e hi hb; omega))).1
      · rw [if_neg l]
        exact Int.le_refl 0
    refine sumK_pos B (fun a ha => sumK_nn B (fun b hb => nn a b ha hb)) _ h0 (sumK_pos B (fun b hb => nn _ b h0 hb) _ h1 ?_)
    rw [if_pos hlt]
    refine (sq_nn _ _ (Int.mul_pos (by have := gv_e hi h0; omega) (by have := gv_e hi h1; omega))).2 ?_
    rw [pP_at ⟨z0.1, z1.1, by omega⟩, z0.2, z1.2, Int.one_mul]
    have q := d2_plu h (p := fN' F P + 0) (q := fN' F P + 1) (by rw [zL_len h]; omega) (by rw [zL_len h]; omega) (by omega) (md_e (fN' F P + 0)) (md_e (fN' F P + 1))
    rw [t_all.2.2.2.2 0 0 (by omega) (by omega), t_all.2.2.2.2 1 1 (by omega) (by omega), t_all.2.2.2.2 0 1 (by omega) (by omega), if_pos rfl, if_pos rfl, if_neg (by decide), Int.zero_mul, Int.sub_zero] at q
    intro z
    rw [Nat.add_zero] at q z
    rw [z, Int.mul_zero] at q
    exact Int.mul_ne_zero hd hd q.symm
