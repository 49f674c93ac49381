/-! sums: the balances of the states, and how the pulls hang together -/
theorem sumK_getD (f : Nat → Int) (l : List Nat) : sumL f l = sumK (fun i => f (l.getD i 0)) l.length := by
  rw [sumK_L, ← sumL_map f (fun i => l.getD i 0)]
  congr 1
  apply List.ext_getElem
  · rw [List.length_map, List.length_range]
  · intro i h1 h2
    rw [List.getElem_map, List.getElem_range, List.getD_eq_getElem?_getD, List.getElem?_eq_getElem h1, Option.getD_some]
theorem sumK_in {l : List Nat} (hl : l.Nodup) {B : Nat} (hB : ∀ b, b ∈ l → b < B) {f : Nat → Int} (h0 : ∀ b, b ∉ l → f b = 0) : sumK f B = sumL f l := by
  rw [← sum_sets (p := fun b => decide (b ∈ l)) (M := B) hl (fun T => ⟨fun h => ⟨hB T h, decide_eq_true h⟩, fun h => of_decide_eq_true h.2⟩) f]
  refine sumK_congr B (fun i _ => ?_)
  by_cases c : i ∈ l
  · rw [if_pos (decide_eq_true c)]
  · rw [if_neg (fun q => c (of_decide_eq_true q)), h0 i c]
theorem z_sum {F : Nat → Nat → Int32} {P B S : Nat} {A : Nat → md_V} (h : zF F P B S A) {f : Nat → Int} (h0 : ∀ b, b ∉ zL F P B S → f b = 0) : sumK f B = sumK (fun j => f ((fBase F P (fBl S B)).getD j 0)) (fN' F P) + sumK (fun i => f ((fSp F P B S).getD i 0)) (fSp F P B S).length := by
  rw [sumK_in (zL_nd F P B S) (fun b hb => (zL_mem.mp hb).1) h0]
  unfold zL
  rw [sumL_app, sumK_getD, sumK_getD, h.1]
theorem md_S_snoc (f : Nat → Int) : ∀ n s, md_S s (n + 1) f = md_S s n f + f (s + n)
  | 0, s => by
    show f s + 0 = 0 + f (s + 0)
    rw [Int.add_zero, Int.zero_add, Nat.add_zero]
  | n + 1, s => by
    show f s + md_S (s + 1) (n + 1) f = f s + md_S (s + 1) n f + f (s + (n + 1))
    rw [md_S_snoc f n (s + 1), Int.add_assoc, show s + 1 + n = s + (n + 1) by omega]
theorem md_SK (f : Nat → Int) : ∀ n, md_S 0 n f = sumK f n
  | 0 => rfl
  | n + 1 => by rw [md_S_snoc, md_SK f n, Nat.zero_add]; rfl
theorem sumK_mul (k : Int) (f : Nat → Int) : ∀ n, sumK (fun i => k * f i) n = k * sumK f n
  | 0 => by rw [sumK_z, sumK_z, Int.mul_zero]
  | n + 1 => by rw [sumK_s, sumK_s, sumK_mul k f n, Int.mul_add]
theorem sumK_add (f g : Nat → Int) : ∀ n, sumK (fun i => f i + g i) n = sumK f n + sumK g n
  | 0 => rfl
  | n + 1 => by
    rw [sumK_s, sumK_s, sumK_s, sumK_add f g n]
    omega
theorem sumK_at {i : Nat} (c : Int) : ∀ n, i < n → sumK (fun j => if j = i then c else 0) n = c
  | 0, h => absurd h (Nat.not_lt_zero _)
  | n + 1, h => by
    rw [sumK_s]
    by_cases e : n = i
    · rw [if_pos e, sumK_zero n (fun j hj => if_neg (by omega)), Int.zero_add]
    · rw [if_neg e, sumK_at c n (by omega), Int.add_zero]
theorem cr_row {F : Nat → Nat → Int32} {P k : Nat} (hk : k < fN' F P) (A : Nat → md_V) (X : md_V) : sumK (fun j => md_T (fR F P) (fN' F P) A X j * A j k) (fN' F P) = md_dt (fR F P) A (fN' F P) * X k := by
  have q := md_cramer (R := fR F P) (u := fun v => v k) (md_Z_row _ k (List.mem_range.mpr hk)) A X (fN' F P)
  rw [md_SK] at q
  exact q.symm
/-- the bare state's balance -/
theorem st_V {F : Nat → Nat → Int32} {P B S : Nat} {A : Nat → md_V} (h : zF F P B S A) (e : Int) (z : Nat → Int) {k : Nat} (hk : k < fN' F P) : sumK (fun b => vV F P B S A e z b * fCol F P b k) B = e * md_dt (fR F P) A (fN' F P) * fCo F P z k := by
  rw [z_sum h (fun b hb => by rw [vV_no hb, Int.zero_mul])]
  have e1 : sumK (fun i => vV F P B S A e z ((fSp F P B S).getD i 0) * fCol F P ((fSp F P B S).getD i 0) k) (fSp F P B S).length = 0 := sumK_zero _ (fun i hi => by
    obtain ⟨z1, z2⟩ := zI_hi h hi
    rw [vV_at z1, z2, t_all.2.2.1 _ i hi, Int.mul_zero, Int.zero_mul])
  have e2 : sumK (fun j => vV F P B S A e z ((fBase F P (fBl S B)).getD j 0) * fCol F P ((fBase F P (fBl S B)).getD j 0) k) (fN' F P) = e * sumK (fun j => md_T (fR F P) (fN' F P) A (fCo F P z) j * A j k) (fN' F P) := by
    rw [← sumK_mul]
    refine sumK_congr _ (fun j hj => ?_)
    obtain ⟨z1, z2⟩ := zI_lo h hj
    rw [vV_at z1, z2, t_all.2.1 _ j hj, h.2 j hj, Int.mul_assoc]
  rw [e1, e2, cr_row hk, Int.add_zero, Int.mul_assoc]
/-- a unit state's balance -/
theorem st_U {F : Nat → Nat → Int32} {P B S : Nat} {A : Nat → md_V} (h : zF F P B S A) (e : Int) {i : Nat} (hi : i < (fSp F P B S).length) {k : Nat} (hk : k < fN' F P) : sumK (fun b => uU F P B S A e i b * fCol F P b k) B = 0 := by
  rw [z_sum h (fun b hb => by rw [uU_no i hb, Int.zero_mul])]
  have e1 : sumK (fun j => uU F P B S A e i ((fSp F P B S).getD j 0) * fCol F P ((fSp F P B S).getD j 0) k) (fSp F P B S).length = e * md_dt (fR F P) A (fN' F P) * fCol F P ((fSp F P B S).getD i 0) k := by
    rw [← sumK_at (i := i) (e * md_dt (fR F P) A (fN' F P) * fCol F P ((fSp F P B S).getD i 0) k) _ hi]
    refine sumK_congr _ (fun j hj => ?_)
    obtain ⟨z1, z2⟩ := zI_hi h hj
    rw [uU_at i z1, z2, t_all.2.2.2.2 i j hi hj]
    by_cases c : i = j
    · rw [if_pos c, if_pos c.symm, c]
    · rw [if_neg c, if_neg (fun q => c q.symm), Int.mul_zero, Int.zero_mul]
  have e2 : sumK (fun j => uU F P B S A e i ((fBase F P (fBl S B)).getD j 0) * fCol F P ((fBase F P (fBl S B)).getD j 0) k) (fN' F P) = -e * sumK (fun j => md_T (fR F P) (fN' F P) A (fCol F P ((fSp F P B S).getD i 0)) j * A j k) (fN' F P) := by
    rw [← sumK_mul]
    refine sumK_congr _ (fun j hj => ?_)
    obtain ⟨z1, z2⟩ := zI_lo h hj
    rw [uU_at i z1, z2, t_all.2.2.2.1 i j hi hj, h.2 j hj]
    grind
  rw [e1, e2, cr_row hk]
  grind
/-- at the spare bars -/
theorem uU_sp {F : Nat → Nat → Int32} {P B S : Nat} {A : Nat → md_V} (h : zF F P B S A) (e : Int) {i j : Nat} (hi : i < (fSp F P B S).length) (hj : j < (fSp F P B S).length) : uU F P B S A e i ((fSp F P B S).getD j 0) = if i = j then e * md_dt (fR F P) A (fN' F P) else 0 := by
  obtain ⟨z1, z2⟩ := zI_hi h hj
  rw [uU_at i z1, z2, t_all.2.2.2.2 i j hi hj]
  by_cases c : i = j
  · rw [if_pos c, if_pos c]
  · rw [if_neg c, if_neg c, Int.mul_zero]
theorem vV_sp {F : Nat → Nat → Int32} {P B S : Nat} {A : Nat → md_V} (h : zF F P B S A) (e : Int) (z : Nat → Int) {j : Nat} (hj : j < (fSp F P B S).length) : vV F P B S A e z ((fSp F P B S).getD j 0) = 0 := by
  obtain ⟨z1, z2⟩ := zI_hi h hj
  rw [vV_at z1, z2, t_all.2.2.1 _ j hj, Int.mul_zero]
/-- double sums -/
def dsK (f : Nat → Nat → Int) (B : Nat) : Int := sumK (fun a => sumK (fun b => if a < b then f a b else 0) B) B
theorem dsK_z (f : Nat → Nat → Int) : dsK f 0 = 0 := rfl
theorem dsK_s (f : Nat → Nat → Int) (B : Nat) : dsK f (B + 1) = dsK f B + sumK (fun a => f a B) B := by
  unfold dsK
  rw [sumK_s, sumK_zero (f := fun b => if B < b then f B b else 0) (B + 1) (fun b hb => if_neg (by omega)), Int.add_zero, ← sumK_add]
  refine sumK_congr B (fun a ha => ?_)
  rw [sumK_s, if_pos ha]
theorem dsK_congr {f g : Nat → Nat → Int} {B : Nat} (h : ∀ a b, a < b → b < B → f a b = g a b) : dsK f B = dsK g B := sumK_congr B (fun a _ => sumK_congr B (fun b hb => by
  by_cases c : a < b
  · rw [if_pos c, if_pos c, h a b c hb]
  · rw [if_neg c, if_neg c]))
theorem dsK_mul (k : Int) (f : Nat → Nat → Int) : ∀ B, dsK (fun a b => k * f a b) B = k * dsK f B
  | 0 => by rw [dsK_z, dsK_z, Int.mul_zero]
  | B + 1 => by rw [dsK_s, dsK_s, dsK_mul k f B, sumK_mul, Int.mul_add]
theorem dsK_add (f g : Nat → Nat → Int) : ∀ B, dsK (fun a b => f a b + g a b) B = dsK f B + dsK g B
  | 0 => rfl
  | B + 1 => by
    rw [dsK_s, dsK_s, dsK_s, dsK_add f g B, sumK_add]
    omega
def ip (g x y : Nat → Int) (B : Nat) : Int := sumK (fun a => g a * x a * y a) B
theorem ip_s (g x y : Nat → Int) (B : Nat) : ip g x y (B + 1) = ip g x y B + g B * x B * y B := rfl
theorem cb_row (g x y z w : Nat → Int) (q s t u v : Int) : ∀ B, sumK (fun a => g a * q * (x a * s - t * y a) * (z a * u - v * w a)) B = q * (s * u * ip g x z B - s * v * ip g x w B - t * u * ip g y z B + t * v * ip g y w B)
  | 0 => by
    show (0 : Int) = q * (s * u * 0 - s * v * 0 - t * u * 0 + t * v * 0)
    grind
  | B + 1 => by
    rw [sumK_s, cb_row g x y z w q s t u v B, ip_s, ip_s, ip_s, ip_s]
    grind
/-- Cauchy and Binet -/
theorem cb (g x y z w : Nat → Int) : ∀ B, dsK (fun a b => g a * g b * (x a * y b - x b * y a) * (z a * w b - z b * w a)) B = ip g x z B * ip g y w B - ip g x w B * ip g y z B
  | 0 => by
    show (0 : Int) = 0 * 0 - 0 * 0
    rfl
  | B + 1 => by
    rw [dsK_s, cb g x y z w B, cb_row g x y z w (g B) (y B) (x B) (w B) (z B) B, ip_s, ip_s, ip_s, ip_s]
    grind
