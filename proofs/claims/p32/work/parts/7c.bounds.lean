/-! determinants, sums: how large -/
def gW (F : Nat → Nat → Int32) (B c1 c2 : Nat) : Prop := ∀ b, b < B → wH F b ≤ w45 c1 c2 b
theorem D_gen {R : List Nat} (hn : R.Nodup) (X : Nat → md_V) (w : Nat → Nat) {l : List Nat} (h : ∀ b, b ∈ l → md_W R (X b) (w b)) : (md_D R (l.map X)).natAbs ≤ md_P (l.map w) := by
  have q := md_bound hn (l.map (fun b => (X b, w b))) [] (fun _ h => by cases h) (fun q hq => by
    obtain ⟨b, hb, rfl⟩ := List.mem_map.mp hq
    exact h b hb)
  rw [List.nil_append, List.map_map, List.map_map] at q
  exact q
theorem P_at (w : Nat → Nat) (zz : Nat) {c : Nat} {l : List Nat} (hn : l.Nodup) (hc : c ∈ l) : ∃ m : List Nat, m.Nodup ∧ (∀ b, b ∈ m → b ∈ l ∧ b ≠ c) ∧ m.length + 1 = l.length ∧ md_P (l.map (fun b => if b = c then zz else w b)) = zz * md_P (m.map w) := by
  obtain ⟨pre, post, e⟩ := List.append_of_mem hc
  subst e
  have nd := List.nodup_append.mp hn
  have n2 := List.nodup_cons.mp nd.2.1
  refine ⟨pre ++ post, ?_, fun b hb => ?_, ?_, ?_⟩
  · exact List.nodup_append.mpr ⟨nd.1, n2.2, fun a ha b hb => nd.2.2 a ha b (List.mem_cons_of_mem _ hb)⟩
  · rcases List.mem_append.mp hb with q | q
    · exact ⟨List.mem_append_left _ q, nd.2.2 b q c List.mem_cons_self⟩
    · exact ⟨List.mem_append_right _ (List.mem_cons_of_mem _ q), fun r => n2.1 (r ▸ q)⟩
  · rw [List.length_append, List.length_append, List.length_cons]
    omega
  · have e1 : pre.map (fun b => if b = c then zz else w b) = pre.map w := List.map_congr_left (fun b hb => if_neg (nd.2.2 b hb c List.mem_cons_self))
    have e2 : post.map (fun b => if b = c then zz else w b) = post.map w := List.map_congr_left (fun b hb => if_neg (show ¬ b = c from fun r => n2.1 (by rw [← r]; exact hb)))
    rw [List.map_append, List.map_cons, if_pos rfl, e1, e2, List.map_append, md_P_app, md_P_app]
    show md_P (pre.map w) * (zz * md_P (post.map w)) = _
    grind
theorem gW_W {F : Nat → Nat → Int32} {P B c1 c2 : Nat} (hW : gW F B c1 c2) {b : Nat} (hb : b < B) : md_W (fR F P) (fCol F P b) (w45 c1 c2 b) := md_W_le (fCol_Wh F P b) (hW b hb)
theorem p4le {N M : Nat} (h : N ≤ M) : 4 ^ N ≤ 4 ^ M := Nat.pow_le_pow_right (by decide) h
theorem dN_25 {F : Nat → Nat → Int32} {P B c1 c2 : Nat} (hW : gW F B c1 c2) (hN : fN' F P ≤ 7) {T : Nat} (hT : (fBl T B).length = fN' F P) : (dN F P B T).natAbs ≤ 25600 := by
  have q := D_gen (nd_range (fN' F P)) (gC F P eN (fun _ => 0)) (w45 c1 c2) (l := fBl T B) (fun b hb => by
    unfold gC eN
    rw [if_neg (by decide)]
    exact gW_W hW (fBl_mem.mp hb).1)
  have r := w45_le (c1 := c1) (c2 := c2) (fBl_nd T B)
  have p := p4le (show (fBl T B).length ≤ 7 by omega)
  have e7 : 4 ^ 7 = 16384 := rfl
  show (md_D (fR F P) ((fBl T B).map (gC F P eN (fun _ => 0)))).natAbs ≤ 25600
  generalize (md_D (fR F P) ((fBl T B).map (gC F P eN (fun _ => 0)))).natAbs = x at *
  generalize 4 ^ (fBl T B).length = y at *
  omega
theorem dS_25 {F : Nat → Nat → Int32} {P B c1 c2 : Nat} (hW : gW F B c1 c2) (hN : fN' F P ≤ 7) {T c : Nat} (hT : (fBl T B).length = fN' F P) (hc : c ∈ fBl T B) {col : md_V} {zz : Nat} (hcol : md_W (fR F P) col zz) : (dS F P B T (eB c) col).natAbs ≤ zz * 6400 := by
  have q := D_gen (nd_range (fN' F P)) (gC F P (eB c) col) (fun b => if b = c then zz else w45 c1 c2 b) (l := fBl T B) (fun b hb => by
    unfold gC eB
    by_cases e : b = c
    · rw [if_pos (decide_eq_true e), if_pos e]
      exact hcol
    · rw [if_neg (fun q => e (of_decide_eq_true q)), if_neg e]
      exact gW_W hW (fBl_mem.mp hb).1)
  obtain ⟨m, m1, m2, m3, m4⟩ := P_at (w45 c1 c2) zz (fBl_nd T B) hc
  have r := w45_le (c1 := c1) (c2 := c2) m1
  have p := p4le (show m.length ≤ 6 by omega)
  have e6 : 4 ^ 6 = 4096 := rfl
  rw [m4] at q
  refine Nat.le_trans q (Nat.mul_le_mul_left zz ?_)
  omega
theorem dU_25 {F : Nat → Nat → Int32} {P B c1 c2 : Nat} (hW : gW F B c1 c2) (hN : fN' F P ≤ 7) {T c a : Nat} (hT : (fBl T B).length = fN' F P) (hc : c ∈ fBl T B) (ha : a < B) (hat : a ∉ fBl T B) : (dS F P B T (eB c) (fCn F P a)).natAbs ≤ 25600 := by
  have hcol : md_W (fR F P) (fCn F P a) (w45 c1 c2 a) := by
    have q := md_W_lin (gW_W (P := P) hW ha) (md_W_zero (R := fR F P)) (-1) 0
    refine md_W_on (md_W_le q (by show 1 * w45 c1 c2 a + 0 * 0 ≤ w45 c1 c2 a; omega)) (fun r _ => ?_)
    unfold fCn
    show -(fCol F P a r) = -1 * fCol F P a r + 0 * 0
    omega
  have q := D_gen (nd_range (fN' F P)) (gC F P (eB c) (fCn F P a)) (fun b => if b = c then w45 c1 c2 a else w45 c1 c2 b) (l := fBl T B) (fun b hb => by
    unfold gC eB
    by_cases e : b = c
    · rw [if_pos (decide_eq_true e), if_pos e]
      exact hcol
    · rw [if_neg (fun q => e (of_decide_eq_true q)), if_neg e]
      exact gW_W hW (fBl_mem.mp hb).1)
  obtain ⟨m, m1, m2, m3, m4⟩ := P_at (w45 c1 c2) (w45 c1 c2 a) (fBl_nd T B) hc
  have r := w45_le (c1 := c1) (c2 := c2) (l := a :: m) (List.nodup_cons.mpr ⟨fun q => hat (m2 a q).1, m1⟩)
  have p := p4le (show (a :: m).length ≤ 7 by rw [List.length_cons]; omega)
  have e7 : 4 ^ 7 = 16384 := rfl
  have e8 : md_P ((a :: m).map (w45 c1 c2)) = w45 c1 c2 a * md_P (m.map (w45 c1 c2)) := rfl
  rw [m4] at q
  rw [e8] at r
  refine Nat.le_trans q ?_
  generalize w45 c1 c2 a * md_P (m.map (w45 c1 c2)) = x at *
  generalize 4 ^ (a :: m).length = y at *
  omega
theorem D_25 {F : Nat → Nat → Int32} {P B S Eb Es c1 c2 : Nat} (hW : gW F B c1 c2) (hN : fN' F P ≤ 7) (hE : fSe F P B S Eb Es) {A : Nat → md_V} (h : zF F P B S A) : (md_dt (fR F P) A (fN' F P)).natAbs ≤ 25600 := by
  rw [← dN_base h (fBase_Eb hE.2.2.1)]
  exact dN_25 hW hN (by rw [fBase_Eb hE.2.2.1]; exact h.1)
theorem V_25 {F : Nat → Nat → Int32} {P B O D W S Eb Es c1 c2 : Nat} (hi : hI F P B O D W) (hW : gW F B c1 c2) (hN : fN' F P ≤ 7) (hE : fSe F P B S Eb Es) {A : Nat → md_V} (h : zF F P B S A) {e : Int} (he : e = 1 ∨ e = -1) {z : Nat → Int} (hz : ∀ s, s < 12 → (z s).natAbs ≤ 9) (b : Nat) : (vV F P B S A e z b).natAbs ≤ 691200 := by
  rw [vV_e, natAbs_pm he, ← yS_V h hE.2.2.1]
  unfold yS
  by_cases c : Eb.testBit b = true
  · rw [if_pos c]
    have hb : b ∈ fBl Eb B := by rw [fBase_Eb hE.2.2.1]; exact (hE.2.2.1 b).mp c
    exact dS_25 hW hN (by rw [fBase_Eb hE.2.2.1]; exact h.1) hb (zz := 108) (fCo_W hi.1.2 hz)
  · rw [if_neg c]
    decide
theorem U_25 {F : Nat → Nat → Int32} {P B S Eb Es c1 c2 : Nat} (hW : gW F B c1 c2) (hN : fN' F P ≤ 7) (hE : fSe F P B S Eb Es) {A : Nat → md_V} (h : zF F P B S A) {e : Int} (he : e = 1 ∨ e = -1) {i : Nat} (hi : i < (fSp F P B S).length) (b : Nat) : (uU F P B S A e i b).natAbs ≤ 25600 := by
  rw [uU_e, natAbs_pm he, ← yS_U h hE.2.2.1 hi]
  have hl : (fBl Eb B).length = fN' F P := by rw [fBase_Eb hE.2.2.1]; exact h.1
  by_cases c0 : b = (fSp F P B S).getD i 0
  · rw [if_pos c0]
    exact dN_25 hW hN hl
  · rw [if_neg c0]
    unfold yS
    by_cases c : Eb.testBit b = true
    · rw [if_pos c]
      have hs := fSp_mem.mp (getD_mem hi)
      have hb : b ∈ fBl Eb B := by rw [fBase_Eb hE.2.2.1]; exact (hE.2.2.1 b).mp c
      exact dU_25 hW hN hl hb hs.1.1 (by rw [fBase_Eb hE.2.2.1]; exact hs.2)
    · rw [if_neg c]
      decide
theorem dNc_25 {F : Nat → Nat → Int32} {P B c1 c2 : Nat} (hW : gW F B c1 c2) (hN : fN' F P ≤ 7) (hB : B ≤ 11) {S T : Nat} (hT : T < 2 ^ B) (h : bC F P S T = true) : (dN F P B T).natAbs ≤ 25600 := dN_25 hW hN (by rw [← pc_fBl hB hT]; exact (bC_iff.mp h).2)
theorem u_25 {F : Nat → Nat → Int32} {P B O D W : Nat} (hi : hI F P B O D W) {c1 c2 : Nat} (hW : gW F B c1 c2) (hN7 : fN' F P ≤ 7) (hB9 : B ≤ 9) {S : Nat} (hS : S < 2 ^ B) {m : Nat} (hm : m ≤ 2) (hN : pc S = fN' F P + m) : (uSum F P B S).natAbs ≤ 81 * (9 * 25600 * 25600) := by
  have hB := hi.2.1.2
  have e0 : andn S S = 0 := sub_iff.mpr (fun j hj => hj)
  show (sumK (fun T => if bC F P S T = true then gPr F (andn S T) B * dN F P B T * dN F P B T else 0) (2 ^ B)).natAbs ≤ _
  rcases (show m = 0 ∨ m = 1 ∨ m = 2 by omega) with rfl | rfl | rfl
  · rw [sum_0 hB hS hN, e0, gPr_zero]
    have d := dNc_25 hW hN7 hB hS ((bC_0 hB hS hN).mpr rfl)
    exact Nat.le_trans (mul3 (G := 1) (by decide) d d) (by decide)
  · rw [sum_1 hB hS hN]
    refine Nat.le_trans (sumK_bd (M := 9 * 25600 * 25600) B (fun a ha => ?_)) (Nat.mul_le_mul_right _ (by omega))
    by_cases ts : S.testBit a = true
    · have d := dNc_25 hW hN7 hB (T := andn S (2 ^ a)) (andn_lt hS) ((bC_1 hB hS hN).mpr ⟨a, ha, ts, rfl⟩)
      rw [if_pos ts, del_1 ts, gPr_one, if_pos ha]
      exact mul3 (Nat.le_trans (gv_abs hi ha) (by decide)) d d
    · rw [if_neg ts]
      exact Nat.zero_le _
  · rw [sum_2 hB hS hN]
    refine Nat.le_trans (sumK_bd (M := 9 * (9 * 25600 * 25600)) B (fun a ha => Nat.le_trans (sumK_bd (M := 9 * 25600 * 25600) B (fun b hb => ?_)) (Nat.mul_le_mul_right _ hB9))) (Nat.le_trans (Nat.mul_le_mul_right _ hB9) (by decide))
    by_cases hab : a < b
    · rw [if_pos hab]
      by_cases ts : S.testBit a = true ∧ S.testBit b = true
      · have d := dNc_25 hW hN7 hB (T := andn S (2 ^ a ||| 2 ^ b)) (andn_lt hS) ((bC_2 hB hS hN).mpr ⟨a, b, hab, hb, ts.1, ts.2, rfl⟩)
        rw [if_pos ts, del_2 ts.1 ts.2, gPr_two F hab, if_pos ha, if_pos hb]
        refine mul3 ?_ d d
        rw [Int.natAbs_mul]
        exact Nat.mul_le_mul (gv_abs hi ha) (gv_abs hi hb)
      · rw [if_neg ts]
        exact Nat.zero_le _
    · rw [if_neg hab]
      exact Nat.zero_le _
theorem oT_25 {F : Nat → Nat → Int32} {P B O D W : Nat} (hi : hI F P B O D W) {c1 c2 : Nat} (hW : gW F B c1 c2) (hN7 : fN' F P ≤ 7) {S T : Nat} (hT : T < 2 ^ B) (h : bC F P S T = true) {z : Nat → Int} (hz : ∀ s, s < 12 → (z s).natAbs ≤ 9) {g : Int} {G : Nat} (hg : g.natAbs ≤ G) (c : Nat) : (oT F P B (fCo F P z) T g c).natAbs ≤ G * 25600 * 691200 := by
  have hB := hi.2.1.2
  unfold oT
  by_cases tc : T.testBit c = true
  · rw [if_pos tc]
    have hTl : (fBl T B).length = fN' F P := by rw [← pc_fBl hB hT]; exact (bC_iff.mp h).2
    have hcB : c < B := Nat.lt_of_not_le fun q => by
      have := Nat.testBit_lt_two_pow (Nat.lt_of_lt_of_le hT (Nat.pow_le_pow_right (show 0 < 2 by decide) q))
      rw [this] at tc
      exact absurd tc (by decide)
    exact mul3 hg (dNc_25 hW hN7 hB hT h) (dS_25 hW hN7 hTl (fBl_mem.mpr ⟨hcB, tc⟩) (zz := 108) (fCo_W hi.1.2 hz))
  · rw [if_neg tc]
    exact Nat.zero_le _
theorem o_25 {F : Nat → Nat → Int32} {P B O D W : Nat} (hi : hI F P B O D W) {c1 c2 : Nat} (hW : gW F B c1 c2) (hN7 : fN' F P ≤ 7) (hB9 : B ≤ 9) {S : Nat} (hS : S < 2 ^ B) {m : Nat} (hm : m ≤ 2) (hN : pc S = fN' F P + m) {z : Nat → Int} (hz : ∀ s, s < 12 → (z s).natAbs ≤ 9) (c : Nat) : (oSum F P B S z c).natAbs ≤ 81 * (9 * 25600 * 691200) := by
  have hB := hi.2.1.2
  have e0 : andn S S = 0 := sub_iff.mpr (fun j hj => hj)
  show (sumK (fun T => if bC F P S T = true then oT F P B (fCo F P z) T (gPr F (andn S T) B) c else 0) (2 ^ B)).natAbs ≤ _
  rcases (show m = 0 ∨ m = 1 ∨ m = 2 by omega) with rfl | rfl | rfl
  · rw [sum_0 hB hS hN, e0, gPr_zero]
    exact Nat.le_trans (oT_25 hi hW hN7 hS ((bC_0 hB hS hN).mpr rfl) hz (g := 1) (G := 1) (by decide) c) (by decide)
  · rw [sum_1 hB hS hN]
    refine Nat.le_trans (sumK_bd (M := 9 * 25600 * 691200) B (fun a ha => ?_)) (Nat.mul_le_mul_right _ (by omega))
    by_cases ts : S.testBit a = true
    · rw [if_pos ts, del_1 ts, gPr_one, if_pos ha]
      exact oT_25 hi hW hN7 (T := andn S (2 ^ a)) (andn_lt hS) ((bC_1 hB hS hN).mpr ⟨a, ha, ts, rfl⟩) hz (Nat.le_trans (gv_abs hi ha) (by decide)) c
    · rw [if_neg ts]
      exact Nat.zero_le _
  · rw [sum_2 hB hS hN]
    refine Nat.le_trans (sumK_bd (M := 9 * (9 * 25600 * 691200)) B (fun a ha => Nat.le_trans (sumK_bd (M := 9 * 25600 * 691200) B (fun b hb => ?_)) (Nat.mul_le_mul_right _ hB9))) (Nat.le_trans (Nat.mul_le_mul_right _ hB9) (by decide))
    by_cases hab : a < b
    · rw [if_pos hab]
      by_cases ts : S.testBit a = true ∧ S.testBit b = true
      · rw [if_pos ts, del_2 ts.1 ts.2, gPr_two F hab, if_pos ha, if_pos hb]
        refine oT_25 hi hW hN7 (T := andn S (2 ^ a ||| 2 ^ b)) (andn_lt hS) ((bC_2 hB hS hN).mpr ⟨a, b, hab, hb, ts.1, ts.2, rfl⟩) hz (G := 9) ?_ c
        rw [Int.natAbs_mul]
        exact Nat.mul_le_mul (gv_abs hi ha) (gv_abs hi hb)
      · rw [if_neg ts]
        exact Nat.zero_le _
    · rw [if_neg hab]
      exact Nat.zero_le _
