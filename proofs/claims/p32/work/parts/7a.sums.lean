/-! the pulls by the states -/
theorem ip_comm (g x y : Nat → Int) (B : Nat) : ip g x y B = ip g y x B := sumK_congr B (fun a _ => by grind)
theorem o_1all {F : Nat → Nat → Int32} {P B S : Nat} (hB : B ≤ 11) (hS : S < 2 ^ B) {A : Nat → md_V} (h : zF F P B S A) (hd : md_dt (fR F P) A (fN' F P) ≠ 0) (hm : (fSp F P B S).length = 1) (hN : pc S = fN' F P + 1) {e : Int} (he : e = 1 ∨ e = -1) (z : Nat → Int) : (∀ c, c ∈ zL F P B S → e * md_dt (fR F P) A (fN' F P) * oSum F P B S z c = vV F P B S A e z c * uSum F P B S + uU F P B S A e 0 c * oSum F P B S z ((fSp F P B S).getD 0 0)) ∧ uSum F P B S * ip (gv F) (uU F P B S A e 0) (vV F P B S A e z) B + oSum F P B S z ((fSp F P B S).getD 0 0) * ip (gv F) (uU F P B S A e 0) (uU F P B S A e 0) B = 0 := by
  have e0 := pm_sq he
  have D0 : e * md_dt (fR F P) A (fN' F P) ≠ 0 := Int.mul_ne_zero e0 hd
  have hu : uSum F P B S = ip (gv F) (uU F P B S A e 0) (uU F P B S A e 0) B := u_1 hB hS h hm hN he
  have key : ∀ c, c ∈ zL F P B S → e * md_dt (fR F P) A (fN' F P) * oSum F P B S z c = vV F P B S A e z c * uSum F P B S - uU F P B S A e 0 c * ip (gv F) (uU F P B S A e 0) (vV F P B S A e z) B := fun c hc => by
    rw [o_1 hB hS h hm hN he z hc, hu, ← sumK_mul]
    unfold ip
    rw [← sumK_mul, show ∀ x y : Int, x - y = x + -1 * y from fun x y => by omega, ← Int.mul_assoc, ← sumK_mul, ← sumK_add]
    refine sumK_congr B (fun a _ => ?_)
    have q := id_1 h he z hc a
    grind
  have zs := zI_hi h (i := 0) (by omega)
  have us := uU_sp h e (i := 0) (j := 0) (by omega) (by omega)
  have vs := vV_sp h e z (j := 0) (by omega)
  rw [if_pos rfl] at us
  have os := key _ zs.1
  rw [us, vs] at os
  have o0 : oSum F P B S z ((fSp F P B S).getD 0 0) = - ip (gv F) (uU F P B S A e 0) (vV F P B S A e z) B := by
    apply Int.eq_of_mul_eq_mul_left D0
    rw [os]
    grind
  refine ⟨fun c hc => ?_, ?_⟩
  · rw [key c hc, o0]
    grind
  · rw [o0, ← hu]
    grind
theorem o_2all {F : Nat → Nat → Int32} {P B S : Nat} (hB : B ≤ 11) (hS : S < 2 ^ B) {A : Nat → md_V} (h : zF F P B S A) (hd : md_dt (fR F P) A (fN' F P) ≠ 0) (hm : (fSp F P B S).length = 2) (hN : pc S = fN' F P + 2) {e : Int} (he : e = 1 ∨ e = -1) (z : Nat → Int) : (∀ c, c ∈ zL F P B S → e * md_dt (fR F P) A (fN' F P) * oSum F P B S z c = vV F P B S A e z c * uSum F P B S + uU F P B S A e 0 c * oSum F P B S z ((fSp F P B S).getD 0 0) + uU F P B S A e 1 c * oSum F P B S z ((fSp F P B S).getD 1 0)) ∧ uSum F P B S * ip (gv F) (uU F P B S A e 0) (vV F P B S A e z) B + oSum F P B S z ((fSp F P B S).getD 0 0) * ip (gv F) (uU F P B S A e 0) (uU F P B S A e 0) B + oSum F P B S z ((fSp F P B S).getD 1 0) * ip (gv F) (uU F P B S A e 0) (uU F P B S A e 1) B = 0 ∧ uSum F P B S * ip (gv F) (uU F P B S A e 1) (vV F P B S A e z) B + oSum F P B S z ((fSp F P B S).getD 0 0) * ip (gv F) (uU F P B S A e 0) (uU F P B S A e 1) B + oSum F P B S z ((fSp F P B S).getD 1 0) * ip (gv F) (uU F P B S A e 1) (uU F P B S A e 1) B = 0 := by
  have e0 := pm_sq he
  have D0 : e * md_dt (fR F P) A (fN' F P) ≠ 0 := Int.mul_ne_zero e0 hd
  have i2 := fun a b => id_2 h he a b
  have i3 := fun c (hc : c ∈ zL F P B S) a b (hab : a ≠ b) => id_3 h he z hc (a := a) (b := b) hab
  have hu0 : uSum F P B S = dsK (fun a b => gv F a * gv F b * pP F P B S A e a b * pP F P B S A e a b) B := u_2 hB hS h hm hN he
  have ho0 : ∀ c, c ∈ zL F P B S → oSum F P B S z c = dsK (fun a b => gv F a * gv F b * pP F P B S A e a b * aA2 F P B S A e z c a b) B := fun c hc => o_2 hB hS h hm hN he z hc
  have s00 := uU_sp h e (i := 0) (j := 0) (by omega) (by omega)
  have s01 := uU_sp h e (i := 0) (j := 1) (by omega) (by omega)
  have s10 := uU_sp h e (i := 1) (j := 0) (by omega) (by omega)
  have s11 := uU_sp h e (i := 1) (j := 1) (by omega) (by omega)
  have v0 := vV_sp h e z (j := 0) (by omega)
  have v1 := vV_sp h e z (j := 1) (by omega)
  have z0 := (zI_hi h (i := 0) (by omega)).1
  have z1 := (zI_hi h (i := 1) (by omega)).1
  rw [if_pos rfl] at s00 s11
  rw [if_neg (by decide)] at s01 s10
  generalize e * md_dt (fR F P) A (fN' F P) = E at *
  generalize (fSp F P B S).getD 0 0 = c0 at *
  generalize (fSp F P B S).getD 1 0 = c1 at *
  generalize hX : uU F P B S A e 0 = X at *
  generalize hY : uU F P B S A e 1 = Y at *
  generalize hV : vV F P B S A e z = V at *
  generalize pP F P B S A e = pr at *
  generalize aA2 F P B S A e z = al at *
  generalize gv F = g at *
  generalize uSum F P B S = u at *
  generalize oSum F P B S z = o at *
  have hu : E * E * u = ip g X X B * ip g Y Y B - ip g X Y B * ip g Y X B := by
    rw [← cb g X Y X Y B, hu0, ← dsK_mul]
    refine dsK_congr (fun a b hab hb => ?_)
    have q := i2 a b
    grind
  have ho : ∀ c, c ∈ zL F P B S → E * E * (E * o c) = V c * (E * E * u) - X c * (ip g X V B * ip g Y Y B - ip g X Y B * ip g Y V B) + Y c * (ip g X V B * ip g Y X B - ip g X X B * ip g Y V B) := fun c hc => by
    rw [hu, ← cb g X Y X Y B, ← cb g X Y V Y B, ← cb g X Y V X B, ho0 c hc, ← Int.mul_assoc, ← dsK_mul, ← dsK_mul, show ∀ x y z : Int, x - y + z = x + -1 * y + z from fun x y z => by omega, ← Int.mul_assoc, ← dsK_mul, ← dsK_mul, ← dsK_add, ← dsK_add]
    refine dsK_congr (fun a b hab hb => ?_)
    have q1 := i2 a b
    have q2 := i2 c b
    have q3 := i2 c a
    have q4 := i3 c hc a b (by omega)
    have e1 : E * E * E * (g a * g b * pr a b * al c a b) = g a * g b * (E * pr a b) * (E * (E * al c a b)) := by grind
    have e2 : E * (E * al c a b) = V c * (E * pr a b) - V a * (E * pr c b) + V b * (E * pr c a) := by rw [← q4]; grind
    rw [e1, e2, ← q1, ← q2, ← q3]
    grind
  have h0 := ho c0 z0
  have h1 := ho c1 z1
  rw [s00, s10, v0] at h0
  rw [s01, s11, v1] at h1
  have o0 : E * E * o c0 = -(ip g X V B * ip g Y Y B - ip g X Y B * ip g Y V B) := by
    apply Int.eq_of_mul_eq_mul_left D0
    grind
  have o1 : E * E * o c1 = ip g X V B * ip g Y X B - ip g X X B * ip g Y V B := by
    apply Int.eq_of_mul_eq_mul_left D0
    grind
  have D2 : E * E ≠ 0 := Int.mul_ne_zero D0 D0
  have cm : ip g Y X B = ip g X Y B := ip_comm g Y X B
  refine ⟨fun c hc => ?_, ?_, ?_⟩
  · apply Int.eq_of_mul_eq_mul_left D2
    rw [ho c hc]
    grind
  · apply Int.eq_of_mul_eq_mul_left D2
    rw [cm] at hu o1
    grind
  · apply Int.eq_of_mul_eq_mul_left D2
    rw [cm] at hu o1
    grind
theorem o_all {F : Nat → Nat → Int32} {P B S : Nat} (hB : B ≤ 11) (hS : S < 2 ^ B) {A : Nat → md_V} (h : zF F P B S A) (hd : md_dt (fR F P) A (fN' F P) ≠ 0) (hm : (fSp F P B S).length ≤ 2) (hN : pc S = fN' F P + (fSp F P B S).length) {e : Int} (he : e = 1 ∨ e = -1) (z : Nat → Int) : (∀ c, c ∈ zL F P B S → e * md_dt (fR F P) A (fN' F P) * oSum F P B S z c = vV F P B S A e z c * uSum F P B S + sumK (fun i => uU F P B S A e i c * oSum F P B S z ((fSp F P B S).getD i 0)) (fSp F P B S).length) ∧ ∀ i, i < (fSp F P B S).length → sumK (fun c => gv F c * oSum F P B S z c * uU F P B S A e i c) B = 0 := by
  have D0 : e * md_dt (fR F P) A (fN' F P) ≠ 0 := Int.mul_ne_zero (pm_sq he) hd
  rcases (show (fSp F P B S).length = 0 ∨ (fSp F P B S).length = 1 ∨ (fSp F P B S).length = 2 by omega) with m | m | m
  · refine ⟨fun c hc => ?_, fun i hi => by omega⟩
    rw [m, sumK_z, Int.add_zero]
    obtain ⟨q1, q2⟩ := u_0 hB hS h m (by omega)
    rw [q1, q2 z c hc, vV_at hc]
    grind
  · obtain ⟨q1, q2⟩ := o_1all hB hS h hd m (by omega) he z
    refine ⟨fun c hc => ?_, fun i hi => ?_⟩
    · rw [m, sumK_s, sumK_z, Int.zero_add]
      exact q1 c hc
    · obtain rfl : i = 0 := by omega
      apply Int.eq_of_mul_eq_mul_left D0
      rw [Int.mul_zero, ← q2, ← sumK_mul]
      unfold ip
      rw [← sumK_mul, ← sumK_mul, ← sumK_add]
      refine sumK_congr B (fun c _ => ?_)
      by_cases hc : c ∈ zL F P B S
      · have q := q1 c hc
        grind
      · rw [uU_no 0 hc]
        grind
  · obtain ⟨q1, q2, q3⟩ := o_2all hB hS h hd m (by omega) he z
    refine ⟨fun c hc => ?_, fun i hi => ?_⟩
    · rw [m, sumK_s, sumK_s, sumK_z, Int.zero_add]
      have q := q1 c hc
      rw [q]
      grind
    · apply Int.eq_of_mul_eq_mul_left D0
      rcases (show i = 0 ∨ i = 1 by omega) with rfl | rfl
      · rw [Int.mul_zero, ← q2, ← sumK_mul]
        unfold ip
        rw [← sumK_mul, ← sumK_mul, ← sumK_mul, ← sumK_add, ← sumK_add]
        refine sumK_congr B (fun c _ => ?_)
        by_cases hc : c ∈ zL F P B S
        · have q := q1 c hc
          grind
        · rw [uU_no 0 hc]
          grind
      · rw [Int.mul_zero, ← q3, ← sumK_mul]
        unfold ip
        rw [← sumK_mul, ← sumK_mul, ← sumK_mul, ← sumK_add, ← sumK_add]
        refine sumK_congr B (fun c _ => ?_)
        by_cases hc : c ∈ zL F P B S
        · have q := q1 c hc
          grind
        · rw [uU_no 1 hc]
          grind
/-- the pulls' balance -/
theorem o_bal {F : Nat → Nat → Int32} {P B S : Nat} (hB : B ≤ 11) (hS : S < 2 ^ B) {A : Nat → md_V} (h : zF F P B S A) (hd : md_dt (fR F P) A (fN' F P) ≠ 0) (hm : (fSp F P B S).length ≤ 2) (hN : pc S = fN' F P + (fSp F P B S).length) (z : Nat → Int) {k : Nat} (hk : k < fN' F P) : sumK (fun b => oSum F P B S z b * fCol F P b k) B = uSum F P B S * fCo F P z k := by
  have he : (1 : Int) = 1 ∨ (1 : Int) = -1 := Or.inl rfl
  have D0 : 1 * md_dt (fR F P) A (fN' F P) ≠ 0 := Int.mul_ne_zero (pm_sq he) hd
  obtain ⟨q1, -⟩ := o_all hB hS h hd hm hN he z
  have qv := st_V h 1 z hk
  have qu := fun i (hi : i < (fSp F P B S).length) => st_U h 1 hi hk
  have sw : sumK (fun b => sumK (fun i => uU F P B S A 1 i b * oSum F P B S z ((fSp F P B S).getD i 0)) (fSp F P B S).length * fCol F P b k) B = 0 := by
    have gen : ∀ m, m ≤ (fSp F P B S).length → sumK (fun b => sumK (fun i => uU F P B S A 1 i b * oSum F P B S z ((fSp F P B S).getD i 0)) m * fCol F P b k) B = 0 := fun m => by
      induction m with
      | zero =>
        intro _
        exact sumK_zero B (fun b _ => by rw [sumK_z, Int.zero_mul])
      | succ m ih =>
        intro hm'
        have e1 : sumK (fun b => sumK (fun i => uU F P B S A 1 i b * oSum F P B S z ((fSp F P B S).getD i 0)) (m + 1) * fCol F P b k) B = sumK (fun b => sumK (fun i => uU F P B S A 1 i b * oSum F P B S z ((fSp F P B S).getD i 0)) m * fCol F P b k) B + oSum F P B S z ((fSp F P B S).getD m 0) * sumK (fun b => uU F P B S A 1 m b * fCol F P b k) B := by
          rw [← sumK_mul, ← sumK_add]
          refine sumK_congr B (fun b _ => ?_)
          rw [sumK_s]
          grind
        rw [e1, ih (by omega), qu m (by omega), Int.mul_zero, Int.add_zero]
    exact gen _ (Nat.le_refl _)
  apply Int.eq_of_mul_eq_mul_left D0
  have e2 : 1 * md_dt (fR F P) A (fN' F P) * (uSum F P B S * fCo F P z k) = uSum F P B S * sumK (fun b => vV F P B S A 1 z b * fCol F P b k) B + sumK (fun b => sumK (fun i => uU F P B S A 1 i b * oSum F P B S z ((fSp F P B S).getD i 0)) (fSp F P B S).length * fCol F P b k) B := by
    rw [sw, qv]
    grind
  rw [e2, ← sumK_mul, ← sumK_mul, ← sumK_add]
  refine sumK_congr B (fun b _ => ?_)
  by_cases hc : b ∈ zL F P B S
  · have q := q1 b hc
    grind
  · rw [oS_off (fun q => hc (by
      have hb : b < B := by assumption
      exact zL_mem.mpr ⟨hb, q⟩)), vV_no hc, sumK_zero _ (fun i _ => by rw [uU_no i hc, Int.zero_mul])]
    grind
