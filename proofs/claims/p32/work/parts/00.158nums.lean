/-! the class s numbers as determinants of the extended basis -/
noncomputable def tD (F : Nat → Nat → Int32) (P B S : Nat) (A : Nat → md_V) (X : md_V) (p : Nat) : Int := zD F P B S (md_up (zA F P B S A) p X)
theorem t_all {F : Nat → Nat → Int32} {P B S : Nat} {A : Nat → md_V} : zD F P B S (zA F P B S A) = md_dt (fR F P) A (fN' F P) ∧ (∀ X k, k < fN' F P → tD F P B S A (xe (fN' F P) X) k = md_T (fR F P) (fN' F P) A X k) ∧ (∀ X i, i < (fSp F P B S).length → tD F P B S A (xe (fN' F P) X) (fN' F P + i) = 0) ∧ (∀ i k, i < (fSp F P B S).length → k < fN' F P → tD F P B S A (md_e (fN' F P + i)) k = - md_T (fR F P) (fN' F P) A (fCol F P ((fSp F P B S).getD i 0)) k) ∧ ∀ i j, i < (fSp F P B S).length → j < (fSp F P B S).length → tD F P B S A (md_e (fN' F P + i)) (fN' F P + j) = if i = j then md_dt (fR F P) A (fN' F P) else 0 := x_all (N := fN' F P) (A := A) (sp := fun i => fCol F P ((fSp F P B S).getD i 0)) (fSp F P B S).length
noncomputable def zI (F : Nat → Nat → Int32) (P B S b : Nat) : Nat := (zL F P B S).idxOf b
theorem zI_P {F : Nat → Nat → Int32} {P B S b : Nat} (h : b ∈ zL F P B S) : zP F P B S (zI F P B S b) b := ⟨List.idxOf_lt_length_of_mem h, idx_get h⟩
theorem zI_ne {F : Nat → Nat → Int32} {P B S a b : Nat} (ha : a ∈ zL F P B S) (hb : b ∈ zL F P B S) (h : a ≠ b) : zI F P B S a ≠ zI F P B S b := fun e => h (by rw [← (zI_P ha).2, ← (zI_P hb).2, e])
noncomputable def uU (F : Nat → Nat → Int32) (P B S : Nat) (A : Nat → md_V) (e : Int) (k b : Nat) : Int := if b ∈ zL F P B S then e * tD F P B S A (md_e (fN' F P + k)) (zI F P B S b) else 0
noncomputable def vV (F : Nat → Nat → Int32) (P B S : Nat) (A : Nat → md_V) (e : Int) (z : Nat → Int) (b : Nat) : Int := if b ∈ zL F P B S then e * tD F P B S A (xe (fN' F P) (fCo F P z)) (zI F P B S b) else 0
noncomputable def d2 (F : Nat → Nat → Int32) (P B S : Nat) (A : Nat → md_V) (p : Nat) (x : md_V) (q : Nat) (y : md_V) : Int := zD F P B S (md_up (md_up (zA F P B S A) p x) q y)
noncomputable def d3 (F : Nat → Nat → Int32) (P B S : Nat) (A : Nat → md_V) (p : Nat) (x : md_V) (q : Nat) (y : md_V) (r : Nat) (v : md_V) : Int := zD F P B S (md_up (md_up (md_up (zA F P B S A) p x) q y) r v)
noncomputable def pP (F : Nat → Nat → Int32) (P B S : Nat) (A : Nat → md_V) (e : Int) (a b : Nat) : Int := if a ∈ zL F P B S ∧ b ∈ zL F P B S ∧ a ≠ b then e * d2 F P B S A (zI F P B S a) (md_e (fN' F P)) (zI F P B S b) (md_e (fN' F P + 1)) else 0
noncomputable def aA1 (F : Nat → Nat → Int32) (P B S : Nat) (A : Nat → md_V) (e : Int) (z : Nat → Int) (c a : Nat) : Int := if a ∈ zL F P B S ∧ a ≠ c then e * d2 F P B S A (zI F P B S a) (md_e (fN' F P)) (zI F P B S c) (xe (fN' F P) (fCo F P z)) else 0
noncomputable def aA2 (F : Nat → Nat → Int32) (P B S : Nat) (A : Nat → md_V) (e : Int) (z : Nat → Int) (c a b : Nat) : Int := if a ∈ zL F P B S ∧ b ∈ zL F P B S ∧ c ≠ a ∧ c ≠ b then e * d3 F P B S A (zI F P B S a) (md_e (fN' F P)) (zI F P B S b) (md_e (fN' F P + 1)) (zI F P B S c) (xe (fN' F P) (fCo F P z)) else 0
theorem uU_no {F : Nat → Nat → Int32} {P B S : Nat} {A : Nat → md_V} {e : Int} (k : Nat) {b : Nat} (h : ¬ b ∈ zL F P B S) : uU F P B S A e k b = 0 := if_neg h
theorem vV_no {F : Nat → Nat → Int32} {P B S : Nat} {A : Nat → md_V} {e : Int} {z : Nat → Int} {b : Nat} (h : ¬ b ∈ zL F P B S) : vV F P B S A e z b = 0 := if_neg h
theorem pP_no {F : Nat → Nat → Int32} {P B S : Nat} {A : Nat → md_V} {e : Int} {a b : Nat} (h : ¬ (a ∈ zL F P B S ∧ b ∈ zL F P B S ∧ a ≠ b)) : pP F P B S A e a b = 0 := if_neg h
theorem aA1_no {F : Nat → Nat → Int32} {P B S : Nat} {A : Nat → md_V} {e : Int} {z : Nat → Int} {c a : Nat} (h : ¬ (a ∈ zL F P B S ∧ a ≠ c)) : aA1 F P B S A e z c a = 0 := if_neg h
theorem aA2_no {F : Nat → Nat → Int32} {P B S : Nat} {A : Nat → md_V} {e : Int} {z : Nat → Int} {c a b : Nat} (h : ¬ (a ∈ zL F P B S ∧ b ∈ zL F P B S ∧ c ≠ a ∧ c ≠ b)) : aA2 F P B S A e z c a b = 0 := if_neg h
theorem uU_at {F : Nat → Nat → Int32} {P B S : Nat} {A : Nat → md_V} {e : Int} (k : Nat) {b : Nat} (h : b ∈ zL F P B S) : uU F P B S A e k b = e * tD F P B S A (md_e (fN' F P + k)) (zI F P B S b) := if_pos h
theorem vV_at {F : Nat → Nat → Int32} {P B S : Nat} {A : Nat → md_V} {e : Int} {z : Nat → Int} {b : Nat} (h : b ∈ zL F P B S) : vV F P B S A e z b = e * tD F P B S A (xe (fN' F P) (fCo F P z)) (zI F P B S b) := if_pos h
theorem pP_at {F : Nat → Nat → Int32} {P B S : Nat} {A : Nat → md_V} {e : Int} {a b : Nat} (h : a ∈ zL F P B S ∧ b ∈ zL F P B S ∧ a ≠ b) : pP F P B S A e a b = e * d2 F P B S A (zI F P B S a) (md_e (fN' F P)) (zI F P B S b) (md_e (fN' F P + 1)) := if_pos h
theorem aA1_at {F : Nat → Nat → Int32} {P B S : Nat} {A : Nat → md_V} {e : Int} {z : Nat → Int} {c a : Nat} (h : a ∈ zL F P B S ∧ a ≠ c) : aA1 F P B S A e z c a = e * d2 F P B S A (zI F P B S a) (md_e (fN' F P)) (zI F P B S c) (xe (fN' F P) (fCo F P z)) := if_pos h
theorem aA2_at {F : Nat → Nat → Int32} {P B S : Nat} {A : Nat → md_V} {e : Int} {z : Nat → Int} {c a b : Nat} (h : a ∈ zL F P B S ∧ b ∈ zL F P B S ∧ c ≠ a ∧ c ≠ b) : aA2 F P B S A e z c a b = e * d3 F P B S A (zI F P B S a) (md_e (fN' F P)) (zI F P B S b) (md_e (fN' F P + 1)) (zI F P B S c) (xe (fN' F P) (fCo F P z)) := if_pos h
theorem d2_plu {F : Nat → Nat → Int32} {P B S : Nat} {A : Nat → md_V} (h : zF F P B S A) {p q : Nat} (hp : p < (zL F P B S).length) (hq : q < (zL F P B S).length) (hpq : p ≠ q) (x v : md_V) : md_dt (fR F P) A (fN' F P) * d2 F P B S A p x q v = tD F P B S A x p * tD F P B S A v q - tD F P B S A x q * tD F P B S A v p := by
  rw [zL_len h] at hp hq
  rw [← t_all (B := B) (S := S).1]
  exact md_plu _ (zA F P B S A) hpq hp hq x v
theorem d3_plu {F : Nat → Nat → Int32} {P B S : Nat} {A : Nat → md_V} (h : zF F P B S A) {p q r : Nat} (hp : p < (zL F P B S).length) (hq : q < (zL F P B S).length) (hr : r < (zL F P B S).length) (hpq : p ≠ q) (hpr : p ≠ r) (hqr : q ≠ r) (x y v : md_V) : md_dt (fR F P) A (fN' F P) * d3 F P B S A p x q y r v = tD F P B S A v r * d2 F P B S A p x q y - tD F P B S A v p * d2 F P B S A r x q y - tD F P B S A v q * d2 F P B S A p x r y := by
  rw [zL_len h] at hp hq hr
  rw [← t_all (B := B) (S := S).1]
  exact md_plu3 _ (zA F P B S A) hpq hpr hqr hp hq hr x y v
theorem d2_swap {F : Nat → Nat → Int32} {P B S : Nat} {A : Nat → md_V} (h : zF F P B S A) {p q : Nat} (hp : p < (zL F P B S).length) (hq : q < (zL F P B S).length) (hpq : p ≠ q) (x y : md_V) : d2 F P B S A p x q y = - d2 F P B S A p y q x := by
  rw [zL_len h] at hp hq
  exact md_dt_swap _ _ hpq hp hq x y
theorem d2_comm {F : Nat → Nat → Int32} {P B S : Nat} {A : Nat → md_V} {p q : Nat} (hpq : p ≠ q) (x y : md_V) : d2 F P B S A p x q y = d2 F P B S A q y p x := by
  unfold d2
  rw [md_up_comm _ _ _ hpq]
/-- i1 -/
theorem id_1 {F : Nat → Nat → Int32} {P B S : Nat} {A : Nat → md_V} (h : zF F P B S A) {e : Int} (he : e = 1 ∨ e = -1) (z : Nat → Int) {c : Nat} (hc : c ∈ zL F P B S) (a : Nat) : vV F P B S A e z c * uU F P B S A e 0 a - vV F P B S A e z a * uU F P B S A e 0 c = e * md_dt (fR F P) A (fN' F P) * aA1 F P B S A e z c a := by
  have ee := pm1 he
  by_cases ha : a ∈ zL F P B S
  · by_cases hac : a = c
    · subst hac
      rw [aA1_no (fun q => q.2 rfl), Int.mul_zero]
      omega
    · have q := d2_plu h (zI_P ha).1 (zI_P hc).1 (zI_ne ha hc hac) (md_e (fN' F P)) (xe (fN' F P) (fCo F P z))
      rw [vV_at hc, vV_at ha, uU_at 0 ha, uU_at 0 hc, aA1_at ⟨ha, hac⟩, Nat.add_zero]
      grind
  · rw [vV_no ha, uU_no 0 ha, aA1_no (fun q => ha q.1), Int.mul_zero, Int.mul_zero, Int.zero_mul]
    rfl
/-- i2 -/
theorem id_2 {F : Nat → Nat → Int32} {P B S : Nat} {A : Nat → md_V} (h : zF F P B S A) {e : Int} (he : e = 1 ∨ e = -1) (a b : Nat) : uU F P B S A e 0 a * uU F P B S A e 1 b - uU F P B S A e 0 b * uU F P B S A e 1 a = e * md_dt (fR F P) A (fN' F P) * pP F P B S A e a b := by
  have ee := pm1 he
  by_cases ha : a ∈ zL F P B S
  · by_cases hb : b ∈ zL F P B S
    · by_cases hab : a = b
      · subst hab
        rw [pP_no (fun q => q.2.2 rfl), Int.mul_zero]
        omega
      · have q := d2_plu h (zI_P ha).1 (zI_P hb).1 (zI_ne ha hb hab) (md_e (fN' F P)) (md_e (fN' F P + 1))
        rw [uU_at 0 ha, uU_at 1 hb, uU_at 0 hb, uU_at 1 ha, pP_at ⟨ha, hb, hab⟩, Nat.add_zero]
        grind
    · rw [uU_no 1 hb, uU_no 0 hb, pP_no (fun q => hb q.2.1), Int.mul_zero, Int.mul_zero, Int.zero_mul]
      rfl
  · rw [uU_no 0 ha, uU_no 1 ha, pP_no (fun q => ha q.1), Int.mul_zero, Int.mul_zero, Int.zero_mul]
    rfl
theorem pP_anti {F : Nat → Nat → Int32} {P B S : Nat} {A : Nat → md_V} (h : zF F P B S A) {e : Int} (a b : Nat) : pP F P B S A e a b = - pP F P B S A e b a := by
  unfold pP
  by_cases c : a ∈ zL F P B S ∧ b ∈ zL F P B S ∧ a ≠ b
  · rw [if_pos c, if_pos ⟨c.2.1, c.1, c.2.2.symm⟩, d2_swap h (zI_P c.1).1 (zI_P c.2.1).1 (zI_ne c.1 c.2.1 c.2.2), d2_comm (zI_ne c.1 c.2.1 c.2.2), Int.mul_neg]
  · rw [if_neg c, if_neg (fun q => c ⟨q.2.1, q.1, q.2.2.symm⟩)]
    rfl
/-- i3 -/
theorem id_3 {F : Nat → Nat → Int32} {P B S : Nat} {A : Nat → md_V} (h : zF F P B S A) {e : Int} (he : e = 1 ∨ e = -1) (z : Nat → Int) {c : Nat} (hc : c ∈ zL F P B S) {a b : Nat} (hab : a ≠ b) : vV F P B S A e z c * pP F P B S A e a b - vV F P B S A e z a * pP F P B S A e c b + vV F P B S A e z b * pP F P B S A e c a = e * md_dt (fR F P) A (fN' F P) * aA2 F P B S A e z c a b := by
  have ee := pm1 he
  by_cases ha : a ∈ zL F P B S
  · by_cases hb : b ∈ zL F P B S
    · by_cases hca : c = a
      · subst hca
        rw [pP_no (a := c) (b := c) (fun q => q.2.2 rfl), aA2_no (fun q => q.2.2.1 rfl), Int.mul_zero, Int.mul_zero]
        omega
      · by_cases hcb : c = b
        · subst hcb
          have an := pP_anti h (e := e) a c
          rw [pP_no (a := c) (b := c) (fun q => q.2.2 rfl), an, aA2_no (fun q => q.2.2.2 rfl), Int.mul_zero, Int.mul_zero, Int.mul_neg]
          omega
        · have q := d3_plu h (zI_P ha).1 (zI_P hb).1 (zI_P hc).1 (zI_ne ha hb hab) (zI_ne ha hc (Ne.symm hca)) (zI_ne hb hc (Ne.symm hcb)) (md_e (fN' F P)) (md_e (fN' F P + 1)) (xe (fN' F P) (fCo F P z))
          have s1 : d2 F P B S A (zI F P B S a) (md_e (fN' F P)) (zI F P B S c) (md_e (fN' F P + 1)) = - d2 F P B S A (zI F P B S c) (md_e (fN' F P)) (zI F P B S a) (md_e (fN' F P + 1)) := by
            rw [d2_swap h (zI_P ha).1 (zI_P hc).1 (zI_ne ha hc (Ne.symm hca)), d2_comm (zI_ne ha hc (Ne.symm hca))]
          rw [s1] at q
          rw [vV_at ha, vV_at hb, vV_at hc, pP_at ⟨ha, hb, hab⟩, pP_at ⟨hc, hb, hcb⟩, pP_at ⟨hc, ha, hca⟩, aA2_at ⟨ha, hb, hca, hcb⟩]
          grind
    · rw [vV_no hb, pP_no (a := a) (b := b) (fun q => hb q.2.1), pP_no (a := c) (b := b) (fun q => hb q.2.1), aA2_no (fun q => hb q.2.1), Int.mul_zero, Int.mul_zero, Int.mul_zero, Int.zero_mul]
      rfl
  · rw [vV_no ha, pP_no (a := a) (b := b) (fun q => ha q.1), pP_no (a := c) (b := a) (fun q => ha q.2.1), aA2_no (fun q => ha q.1), Int.mul_zero, Int.mul_zero, Int.mul_zero, Int.zero_mul]
    rfl
/-! the terms of the reference by the class's numbers -/
theorem gPr_zero (F : Nat → Nat → Int32) : ∀ k, gPr F 0 k = 1
  | 0 => rfl
  | k + 1 => by
    show gPr F 0 k * (if (0 : Nat).testBit k = true then gv F k else 1) = 1
    rw [gPr_zero F k]
    simp
theorem gPr_one (F : Nat → Nat → Int32) (a : Nat) : ∀ k, gPr F (2 ^ a) k = if a < k then gv F a else 1
  | 0 => by rw [if_neg (Nat.not_lt_zero _)]; rfl
  | k + 1 => by
    show gPr F (2 ^ a) k * (if (2 ^ a).testBit k = true then gv F k else 1) = _
    rw [gPr_one F a k]
    by_cases e : k = a
    · rw [if_pos ((tb_pow a k).mpr e), if_neg (show ¬ a < k by omega), if_pos (show a < k + 1 by omega), e, Int.one_mul]
    · rw [if_neg (fun q => e ((tb_pow a k).mp q)), Int.mul_one]
      by_cases l : a < k
      · rw [if_pos l, if_pos (by omega)]
      · rw [if_neg l, if_neg (by omega)]
theorem gPr_two (F : Nat → Nat → Int32) {a b : Nat} (hab : a < b) : ∀ k, gPr F (2 ^ a ||| 2 ^ b) k = (if a < k then gv F a else 1) * (if b < k then gv F b else 1)
  | 0 => by rw [if_neg (Nat.not_lt_zero _), if_neg (Nat.not_lt_zero _)]; rfl
  | k + 1 => by
    show gPr F (2 ^ a ||| 2 ^ b) k * (if (2 ^ a ||| 2 ^ b).testBit k = true then gv F k else 1) = _
    rw [gPr_two F hab k]
    by_cases e : k = a
    · rw [if_pos ((tb_two a b k).mpr (Or.inl e)), if_neg (show ¬ a < k by omega), if_neg (show ¬ b < k by omega), if_pos (show a < k + 1 by omega), if_neg (show ¬ b < k + 1 by omega), e]
      omega
    · by_cases e2 : k = b
      · rw [if_pos ((tb_two a b k).mpr (Or.inr e2)), if_pos (show a < k by omega), if_neg (show ¬ b < k by omega), if_pos (show a < k + 1 by omega), if_pos (show b < k + 1 by omega), e2, Int.mul_one]
      · rw [if_neg (fun q => ((tb_two a b k).mp q).elim e e2), Int.mul_one]
        by_cases l : a < k
        · by_cases l2 : b < k
          · rw [if_pos l, if_pos l2, if_pos (show a < k + 1 by omega), if_pos (show b < k + 1 by omega)]
          · rw [if_pos l, if_neg l2, if_pos (show a < k + 1 by omega), if_neg (show ¬ b < k + 1 by omega)]
        · rw [if_neg l, if_neg (show ¬ b < k by omega), if_neg (show ¬ a < k + 1 by omega), if_neg (show ¬ b < k + 1 by omega)]
theorem del_1 {S a : Nat} (h : S.testBit a = true) : andn S (andn S (2 ^ a)) = 2 ^ a := andn_andn (sub_iff.mpr (fun j hj => by rw [(tb_pow a j).mp hj]; exact h))
theorem del_2 {S a b : Nat} (h : S.testBit a = true) (h2 : S.testBit b = true) : andn S (andn S (2 ^ a ||| 2 ^ b)) = 2 ^ a ||| 2 ^ b := andn_andn (sub_iff.mpr (fun j hj => by
  rcases (tb_two a b j).mp hj with q | q <;> rw [q] <;> assumption))
theorem sq_pm {s D : Int} (hs : s = 1 ∨ s = -1) : s * D * (s * D) = D * D := by
  rcases hs with rfl | rfl <;> grind
theorem pr_pm {s D G : Int} (hs : s = 1 ∨ s = -1) : s * D * (s * G) = D * G := by
  rcases hs with rfl | rfl <;> grind
/-- one bar to spare -/
theorem u_1 {F : Nat → Nat → Int32} {P B S : Nat} (hB : B ≤ 11) (hS : S < 2 ^ B) {A : Nat → md_V} (h : zF F P B S A) (hm : (fSp F P B S).length = 1) (hN : pc S = fN' F P + 1) {e : Int} (he : e = 1 ∨ e = -1) : uSum F P B S = sumK (fun a => gv F a * uU F P B S A e 0 a * uU F P B S A e 0 a) B := by
  have ee := pm1 he
  show sumK (fun T => if bC F P S T = true then gPr F (andn S T) B * dN F P B T * dN F P B T else 0) (2 ^ B) = _
  rw [sum_1 hB hS hN]
  refine sumK_congr B (fun a ha => ?_)
  by_cases ts : S.testBit a = true
  · have haL := (zL_mem (F := F) (P := P)).mpr ⟨ha, ts⟩
    obtain ⟨s, hs, q, -⟩ := r_min1 h hm (zI_P haL)
    rw [if_pos ts, del_1 ts, gPr_one, if_pos ha, q, uU_at 0 haL, Nat.add_zero, Int.mul_assoc, sq_pm hs, Int.mul_assoc, sq_pm he]
    rfl
  · rw [if_neg ts, uU_no 0 (fun q => ts (zL_mem.mp q).2), Int.mul_zero]
theorem o_1 {F : Nat → Nat → Int32} {P B S : Nat} (hB : B ≤ 11) (hS : S < 2 ^ B) {A : Nat → md_V} (h : zF F P B S A) (hm : (fSp F P B S).length = 1) (hN : pc S = fN' F P + 1) {e : Int} (he : e = 1 ∨ e = -1) (z : Nat → Int) {c : Nat} (hc : c ∈ zL F P B S) : oSum F P B S z c = sumK (fun a => gv F a * uU F P B S A e 0 a * aA1 F P B S A e z c a) B := by
  show sumK (fun T => if bC F P S T = true then oT F P B (fCo F P z) T (gPr F (andn S T) B) c else 0) (2 ^ B) = _
  rw [sum_1 hB hS hN]
  refine sumK_congr B (fun a ha => ?_)
  by_cases ts : S.testBit a = true
  · have haL := (zL_mem (F := F) (P := P)).mpr ⟨ha, ts⟩
    obtain ⟨s, hs, q, q2⟩ := r_min1 h hm (zI_P haL)
    rw [if_pos ts, del_1 ts, gPr_one, if_pos ha]
    unfold oT
    by_cases hac : a = c
    · rw [if_neg (fun t => ((andn_bit S (2 ^ a) c).mp t).2 ((tb_pow a c).mpr hac.symm)), aA1_no (fun t => t.2 hac), Int.mul_zero]
    · rw [if_pos ((andn_bit S (2 ^ a) c).mpr ⟨(zL_mem.mp hc).2, fun t => hac ((tb_pow a c).mp t).symm⟩), aA1_at ⟨haL, hac⟩, q, q2 c _ _ (zI_P hc) (zI_ne hc haL (Ne.symm hac)), uU_at 0 haL, Nat.add_zero, Int.mul_assoc, pr_pm hs, Int.mul_assoc, pr_pm he]
      rfl
  · rw [if_neg ts, uU_no 0 (fun q => ts (zL_mem.mp q).2), Int.mul_zero, Int.zero_mul]
/-- two bars to spare -/
theorem u_2 {F : Nat → Nat → Int32} {P B S : Nat} (hB : B ≤ 11) (hS : S < 2 ^ B) {A : Nat → md_V} (h : zF F P B S A) (hm : (fSp F P B S).length = 2) (hN : pc S = fN' F P + 2) {e : Int} (he : e = 1 ∨ e = -1) : uSum F P B S = w2 F B (pP F P B S A e) := by
  show sumK (fun T => if bC F P S T = true then gPr F (andn S T) B * dN F P B T * dN F P B T else 0) (2 ^ B) = _
  rw [sum_2 hB hS hN]
  refine sumK_congr B (fun a ha => sumK_congr B (fun b hb => ?_))
  by_cases hab : a < b
  · rw [if_pos hab, if_pos hab]
    by_cases ts : S.testBit a = true ∧ S.testBit b = true
    · have haL := (zL_mem (F := F) (P := P)).mpr ⟨ha, ts.1⟩
      have hbL := (zL_mem (F := F) (P := P)).mpr ⟨hb, ts.2⟩
      have nab : a ≠ b := by omega
      obtain ⟨s, hs, q, -⟩ := r_min2 h hm (zI_P haL) (zI_P hbL) (zI_ne haL hbL nab)
      rw [if_pos ts, del_2 ts.1 ts.2, gPr_two F hab, if_pos ha, if_pos hb, q, pP_at ⟨haL, hbL, nab⟩, Int.mul_assoc, sq_pm hs, Int.mul_assoc (gv F a * gv F b), sq_pm he]
      rfl
    · rw [if_neg ts, pP_no (fun q => ts ⟨(zL_mem.mp q.1).2, (zL_mem.mp q.2.1).2⟩), Int.mul_zero]
  · rw [if_neg hab, if_neg hab]
theorem o_2 {F : Nat → Nat → Int32} {P B S : Nat} (hB : B ≤ 11) (hS : S < 2 ^ B) {A : Nat → md_V} (h : zF F P B S A) (hm : (fSp F P B S).length = 2) (hN : pc S = fN' F P + 2) {e : Int} (he : e = 1 ∨ e = -1) (z : Nat → Int) {c : Nat} (hc : c ∈ zL F P B S) : oSum F P B S z c = o2 F B (pP F P B S A e) (aA2 F P B S A e z c) := by
  show sumK (fun T => if bC F P S T = true then oT F P B (fCo F P z) T (gPr F (andn S T) B) c else 0) (2 ^ B) = _
  rw [sum_2 hB hS hN]
  refine sumK_congr B (fun a ha => sumK_congr B (fun b hb => ?_))
  by_cases hab : a < b
  · rw [if_pos hab, if_pos hab]
    by_cases ts : S.testBit a = true ∧ S.testBit b = true
    · have haL := (zL_mem (F := F) (P := P)).mpr ⟨ha, ts.1⟩
      have hbL := (zL_mem (F := F) (P := P)).mpr ⟨hb, ts.2⟩
      have nab : a ≠ b := by omega
      obtain ⟨s, hs, q, q2⟩ := r_min2 h hm (zI_P haL) (zI_P hbL) (zI_ne haL hbL nab)
      rw [if_pos ts, del_2 ts.1 ts.2, gPr_two F hab, if_pos ha, if_pos hb]
      unfold oT
      by_cases hcc : c ≠ a ∧ c ≠ b
      · rw [if_pos ((andn_bit S (2 ^ a ||| 2 ^ b) c).mpr ⟨(zL_mem.mp hc).2, fun t => ((tb_two a b c).mp t).elim hcc.1 hcc.2⟩), aA2_at ⟨haL, hbL, hcc⟩, q, q2 c _ _ (zI_P hc) (zI_ne hc haL hcc.1) (zI_ne hc hbL hcc.2), pP_at ⟨haL, hbL, nab⟩, Int.mul_assoc, pr_pm hs, Int.mul_assoc (gv F a * gv F b), pr_pm he]
        rfl
      · have hin : c = a ∨ c = b := Classical.byContradiction fun t => hcc ⟨fun u => t (Or.inl u), fun u => t (Or.inr u)⟩
        rw [if_neg (fun t => ((andn_bit S (2 ^ a ||| 2 ^ b) c).mp t).2 ((tb_two a b c).mpr hin)), aA2_no (fun t => hcc ⟨t.2.2.1, t.2.2.2⟩), Int.mul_zero]
    · rw [if_neg ts, pP_no (fun q => ts ⟨(zL_mem.mp q.1).2, (zL_mem.mp q.2.1).2⟩), Int.mul_zero, Int.zero_mul]
  · rw [if_neg hab, if_neg hab]
/-- none to spare -/
theorem u_0 {F : Nat → Nat → Int32} {P B S : Nat} (hB : B ≤ 11) (hS : S < 2 ^ B) {A : Nat → md_V} (h : zF F P B S A) (hm : (fSp F P B S).length = 0) (hN : pc S = fN' F P) : uSum F P B S = md_dt (fR F P) A (fN' F P) * md_dt (fR F P) A (fN' F P) ∧ ∀ z c, c ∈ zL F P B S → oSum F P B S z c = md_dt (fR F P) A (fN' F P) * tD F P B S A (xe (fN' F P) (fCo F P z)) (zI F P B S c) := by
  obtain ⟨s, hs, q, q2⟩ := r_min0 hS h hm
  have e0 : andn S S = 0 := sub_iff.mpr (fun j hj => hj)
  rw [t_all.1] at q
  refine ⟨?_, fun z c hc => ?_⟩
  · show sumK (fun T => if bC F P S T = true then gPr F (andn S T) B * dN F P B T * dN F P B T else 0) (2 ^ B) = _
    rw [sum_0 hB hS hN, e0, gPr_zero, q, Int.one_mul, sq_pm hs]
  · show sumK (fun T => if bC F P S T = true then oT F P B (fCo F P z) T (gPr F (andn S T) B) c else 0) (2 ^ B) = _
    rw [sum_0 hB hS hN, e0, gPr_zero]
    unfold oT
    rw [if_pos (zL_mem.mp hc).2, q, q2 c _ _ (zI_P hc), Int.one_mul, pr_pm hs]
    rfl
