/-! determinants over a list of rows and a list of columns, by the first row; the replacement identity (Cramer), the exchange identities -/
abbrev md_V : Type := Nat → Int
def md_alt (u : md_V → Int) : List md_V → (List md_V → Int) → Int
  | [], _ => 0
  | x :: c, Ψ => u x * Ψ c - md_alt u c (fun l => Ψ (x :: l))
theorem md_alt_add (u : md_V → Int) : ∀ (c : List md_V) (Ψ Φ : List md_V → Int), md_alt u c (fun l => Ψ l + Φ l) = md_alt u c Ψ + md_alt u c Φ
  | [], _, _ => rfl
  | x :: c, Ψ, Φ => by
    simp only [md_alt]
    rw [md_alt_add u c (fun l => Ψ (x :: l)) (fun l => Φ (x :: l))]
    grind
theorem md_alt_smul (u : md_V → Int) (k : Int) : ∀ (c : List md_V) (Ψ : List md_V → Int), md_alt u c (fun l => k * Ψ l) = k * md_alt u c Ψ
  | [], _ => by simp [md_alt]
  | x :: c, Ψ => by
    simp only [md_alt]
    rw [md_alt_smul u k c (fun l => Ψ (x :: l))]
    grind
theorem md_alt_zero (u : md_V → Int) : ∀ (c : List md_V), md_alt u c (fun _ => 0) = 0
  | [] => rfl
  | x :: c => by
    simp only [md_alt]
    rw [md_alt_zero u c]
    simp
theorem md_alt_neg (u : md_V → Int) (c : List md_V) (Ψ : List md_V → Int) : md_alt u c (fun l => - Ψ l) = - md_alt u c Ψ := by
  have h := md_alt_smul u (-1) c Ψ
  have e : (fun l => (-1 : Int) * Ψ l) = fun l => - Ψ l := funext fun l => by omega
  rw [e] at h
  omega
theorem md_alt_sub (u : md_V → Int) (c : List md_V) (Ψ Φ : List md_V → Int) : md_alt u c (fun l => Ψ l - Φ l) = md_alt u c Ψ - md_alt u c Φ := by
  have h := md_alt_add u c Ψ (fun l => - Φ l)
  rw [md_alt_neg] at h
  have e : (fun l => Ψ l - Φ l) = fun l => Ψ l + - Φ l := funext fun l => by omega
  rw [e, h]
  omega
theorem md_alt_anti (u w : md_V → Int) : ∀ (c : List md_V) (Φ : List md_V → Int), md_alt u c (fun l => md_alt w l Φ) = - md_alt w c (fun l => md_alt u l Φ)
  | [], _ => rfl
  | x :: c, Φ => by
    simp only [md_alt]
    rw [md_alt_sub u c (fun l => w x * Φ l), md_alt_sub w c (fun l => u x * Φ l), md_alt_smul, md_alt_smul, md_alt_anti u w c (fun l => Φ (x :: l))]
    grind
def md_D : List Nat → List md_V → Int
  | [], [] => 1
  | [], _ :: _ => 0
  | r :: R, c => md_alt (fun v => v r) c (md_D R)
theorem md_alt_swap (u : md_V → Int) : ∀ (pre : List md_V) (Ψ : List md_V → Int), (∀ pre x y post, Ψ (pre ++ x :: y :: post) = - Ψ (pre ++ y :: x :: post)) → ∀ x y post, md_alt u (pre ++ x :: y :: post) Ψ = - md_alt u (pre ++ y :: x :: post) Ψ
  | [], Ψ, h, x, y, post => by
    simp only [List.nil_append, md_alt]
    have e : (fun l => Ψ (x :: y :: l)) = fun l => - Ψ (y :: x :: l) := funext fun l => h [] x y l
    rw [e, md_alt_neg]
    grind
  | z :: pre, Ψ, h, x, y, post => by
    simp only [List.cons_append, md_alt]
    rw [h pre x y post, md_alt_swap u pre (fun l => Ψ (z :: l)) (fun p a b q => h (z :: p) a b q) x y post]
    grind
theorem md_D_swap : ∀ (R : List Nat) (pre : List md_V) (x y : md_V) (post : List md_V), md_D R (pre ++ x :: y :: post) = - md_D R (pre ++ y :: x :: post)
  | [], pre, x, y, post => by cases pre <;> rfl
  | r :: R, pre, x, y, post => md_alt_swap _ pre (md_D R) (md_D_swap R) x y post
theorem md_D_two (R : List Nat) : ∀ (mid pre : List md_V) (x : md_V) (post : List md_V), md_D R (pre ++ x :: (mid ++ x :: post)) = 0
  | [], pre, x, post => by
    have h := md_D_swap R pre x x post
    simp only [List.nil_append]
    omega
  | y :: mid, pre, x, post => by
    have h := md_D_two R mid (pre ++ [y]) x post
    rw [List.cons_append, md_D_swap R pre x y]
    simp only [List.append_assoc, List.cons_append, List.nil_append] at h
    rw [h]
    rfl
theorem md_D_row (R1 R2 : List Nat) (r s : Nat) : ∀ c, md_D (R1 ++ r :: s :: R2) c = - md_D (R1 ++ s :: r :: R2) c := by
  induction R1 with
  | nil => exact fun c => md_alt_anti _ _ c (md_D R2)
  | cons t R1 ih =>
    intro c
    simp only [List.cons_append, md_D]
    have e : md_D (R1 ++ r :: s :: R2) = fun l => - md_D (R1 ++ s :: r :: R2) l := funext ih
    rw [e, md_alt_neg]
/-- a functional that all of the rows' identities hold for -/
def md_Z (R : List Nat) (u : md_V → Int) : Prop := ∀ c, md_alt u c (md_D R) = 0
theorem md_alt_uadd (u w : md_V → Int) : ∀ (c : List md_V) (Ψ : List md_V → Int), md_alt (fun v => u v - w v) c Ψ = md_alt u c Ψ - md_alt w c Ψ
  | [], _ => rfl
  | x :: c, Ψ => by
    simp only [md_alt]
    rw [md_alt_uadd u w c]
    grind
theorem md_alt_usmul (k : Int) (u : md_V → Int) : ∀ (c : List md_V) (Ψ : List md_V → Int), md_alt (fun v => k * u v) c Ψ = k * md_alt u c Ψ
  | [], _ => by simp [md_alt]
  | x :: c, Ψ => by
    simp only [md_alt]
    rw [md_alt_usmul k u c]
    grind
theorem md_alt_uzero : ∀ (c : List md_V) (Ψ : List md_V → Int), md_alt (fun _ => 0) c Ψ = 0
  | [], _ => rfl
  | x :: c, Ψ => by
    simp only [md_alt]
    rw [md_alt_uzero c]
    simp
theorem md_Z_row : ∀ (R : List Nat) (r : Nat), r ∈ R → md_Z R (fun v => v r)
  | r0 :: R, r, h, c => by
    show md_alt (fun v => v r) c (fun l => md_alt (fun v => v r0) l (md_D R)) = 0
    rcases List.mem_cons.mp h with rfl | h
    · have := md_alt_anti (fun v => v r) (fun v => v r) c (md_D R)
      omega
    · rw [md_alt_anti]
      have e : (fun l => md_alt (fun v => v r) l (md_D R)) = fun _ => 0 := funext fun l => md_Z_row R r h l
      rw [e, md_alt_zero]
      rfl
theorem md_alt_fam (P : (md_V → Int) → Prop) (h0 : P (fun _ => 0)) (hs : ∀ (k : Int) u, P u → P (fun v => k * u v)) (ha : ∀ u w, P u → P w → P (fun v => u v - w v)) (w : md_V → Int) : ∀ (post : List md_V) (Θ : md_V → List md_V → Int), (∀ l, P (fun v => Θ v l)) → P (fun v => md_alt w post (Θ v))
  | [], _, _ => h0
  | z :: post, Θ, h => by
    simp only [md_alt]
    exact ha _ _ (hs _ _ (h post)) (md_alt_fam P h0 hs ha w post (fun v l => Θ v (z :: l)) (fun l => h (z :: l)))
theorem md_alt_ins (P : (md_V → Int) → Prop) (h0 : P (fun _ => 0)) (hs : ∀ (k : Int) u, P u → P (fun v => k * u v)) (ha : ∀ u w, P u → P w → P (fun v => u v - w v)) (w : md_V → Int) (hw : P w) : ∀ (pre : List md_V) (Ψ : List md_V → Int), (∀ pre post, P (fun v => Ψ (pre ++ v :: post))) → ∀ post, P (fun v => md_alt w (pre ++ v :: post) Ψ)
  | [], Ψ, h, post => by
    simp only [List.nil_append, md_alt]
    refine ha _ _ ?_ (md_alt_fam P h0 hs ha w post (fun v l => Ψ (v :: l)) (fun l => h [] l))
    have e : (fun v => w v * Ψ post) = fun v => Ψ post * w v := funext fun v => Int.mul_comm _ _
    rw [e]
    exact hs _ _ hw
  | z :: pre, Ψ, h, post => by
    simp only [List.cons_append, md_alt]
    exact ha _ _ (hs _ _ (h pre post)) (md_alt_ins P h0 hs ha w hw pre (fun l => Ψ (z :: l)) (fun p q => h (z :: p) q) post)
theorem md_ins (P : (md_V → Int) → Prop) (h0 : P (fun _ => 0)) (hs : ∀ (k : Int) u, P u → P (fun v => k * u v)) (ha : ∀ u w, P u → P w → P (fun v => u v - w v)) : ∀ (R : List Nat), (∀ r ∈ R, P (fun v => v r)) → ∀ pre post, P (fun v => md_D R (pre ++ v :: post))
  | [], _, pre, post => by
    have e : (fun v => md_D [] (pre ++ v :: post)) = fun _ => 0 := funext fun v => by cases pre <;> rfl
    rw [e]
    exact h0
  | r :: R, h, pre, post => md_alt_ins P h0 hs ha _ (h r List.mem_cons_self) pre (md_D R) (md_ins P h0 hs ha R (fun q hq => h q (List.mem_cons_of_mem _ hq))) post
theorem md_Z_ins (R : List Nat) (pre post : List md_V) : md_Z R (fun v => md_D R (pre ++ v :: post)) :=
  md_ins (md_Z R) (fun c => md_alt_uzero c _) (fun k u h c => by rw [md_alt_usmul, h c]; simp) (fun u w h1 h2 c => by rw [md_alt_uadd, h1 c, h2 c]; rfl) R (md_Z_row R) pre post
def md_lin (u : md_V → Int) : Prop := ∀ (k q : Int) (v w : md_V), u (fun r => k * v r + q * w r) = k * u v + q * u w
theorem md_lin_ins (R : List Nat) (pre post : List md_V) : md_lin (fun v => md_D R (pre ++ v :: post)) :=
  md_ins md_lin (fun k q v w => by simp) (fun k u h a b v w => by have e := h a b v w; show k * u _ = a * (k * u v) + b * (k * u w); rw [e]; grind) (fun u w h1 h2 a b v x => by have e1 := h1 a b v x; have e2 := h2 a b v x; show u _ - w _ = a * (u v - w v) + b * (u x - w x); rw [e1, e2]; grind) R (fun r _ k q v w => rfl) pre post
/-- a functional that looks at the rows alone -/
def md_on (R : List Nat) (u : md_V → Int) : Prop := ∀ v w : md_V, (∀ r ∈ R, v r = w r) → u v = u w
theorem md_on_ins (R : List Nat) (pre post : List md_V) : md_on R (fun v => md_D R (pre ++ v :: post)) :=
  md_ins (md_on R) (fun v w _ => rfl) (fun k u h v w e => by show k * u v = k * u w; rw [h v w e]) (fun u w h1 h2 v x e => by show u v - w v = u x - w x; rw [h1 v x e, h2 v x e]) R (fun r hr v w e => e r hr) pre post
def md_cl (A : Nat → md_V) : Nat → Nat → List md_V
  | _, 0 => []
  | s, n + 1 => A s :: md_cl A (s + 1) n
theorem md_cl_app (A : Nat → md_V) : ∀ (m s n : Nat), md_cl A s (m + n) = md_cl A s m ++ md_cl A (s + m) n
  | 0, s, n => by simp [md_cl]
  | m + 1, s, n => by
    rw [show m + 1 + n = (m + n) + 1 by omega]
    simp only [md_cl, List.cons_append]
    rw [md_cl_app A m (s + 1) n, show s + 1 + m = s + (m + 1) by omega]
theorem md_cl_congr {A B : Nat → md_V} : ∀ (n s : Nat), (∀ i, s ≤ i → i < s + n → A i = B i) → md_cl A s n = md_cl B s n
  | 0, _, _ => rfl
  | n + 1, s, h => by
    simp only [md_cl]
    rw [h s (Nat.le_refl _) (by omega), md_cl_congr n (s + 1) (fun i h1 h2 => h i (by omega) (by omega))]
def md_up (A : Nat → md_V) (i : Nat) (v : md_V) : Nat → md_V := fun j => if j = i then v else A j
theorem md_up_at (A : Nat → md_V) (i : Nat) (v : md_V) : md_up A i v i = v := if_pos rfl
theorem md_up_ne (A : Nat → md_V) {i j : Nat} (v : md_V) (h : j ≠ i) : md_up A i v j = A j := if_neg h
theorem md_up_self (A : Nat → md_V) (i : Nat) : md_up A i (A i) = A := funext fun j => by
  by_cases h : j = i
  · subst h; exact md_up_at _ _ _
  · exact md_up_ne _ _ h
theorem md_up_up (A : Nat → md_V) (i : Nat) (v w : md_V) : md_up (md_up A i v) i w = md_up A i w := funext fun j => by
  by_cases h : j = i
  · subst h; simp [md_up]
  · simp [md_up, h]
theorem md_up_comm (A : Nat → md_V) {i k : Nat} (v w : md_V) (h : i ≠ k) : md_up (md_up A i v) k w = md_up (md_up A k w) i v := funext fun j => by
  by_cases h1 : j = i
  · subst h1; simp [md_up, h]
  · by_cases h2 : j = k
    · subst h2; simp [md_up, h1]
    · simp [md_up, h1, h2]
def md_dt (R : List Nat) (A : Nat → md_V) (n : Nat) : Int := md_D R (md_cl A 0 n)
theorem md_dt_congr {R : List Nat} {A B : Nat → md_V} {n : Nat} (h : ∀ i, i < n → A i = B i) : md_dt R A n = md_dt R B n := by
  unfold md_dt
  rw [md_cl_congr n 0 (fun i _ h2 => h i (by omega))]
theorem md_cl_at (A : Nat → md_V) {i n : Nat} (h : i < n) : md_cl A 0 n = md_cl A 0 i ++ A i :: md_cl A (i + 1) (n - i - 1) := by
  have e : n = i + ((n - i - 1) + 1) := by omega
  rw [e, md_cl_app A i 0]
  simp only [md_cl, Nat.zero_add]
  rw [show i + (n - i - 1 + 1) - i - 1 = n - i - 1 by omega]
theorem md_cl_up (A : Nat → md_V) {i n : Nat} (h : i < n) (v : md_V) : md_cl (md_up A i v) 0 n = md_cl A 0 i ++ v :: md_cl A (i + 1) (n - i - 1) := by
  rw [md_cl_at _ h, md_up_at, md_cl_congr (A := md_up A i v) (B := A) i 0 (fun j _ h2 => md_up_ne _ _ (by omega)), md_cl_congr (A := md_up A i v) (B := A) (n - i - 1) (i + 1) (fun j h1 _ => md_up_ne _ _ (by omega))]
theorem md_dt_Z (R : List Nat) (A : Nat → md_V) {i n : Nat} (h : i < n) : md_Z R (fun v => md_dt R (md_up A i v) n) := by
  have e : (fun v => md_dt R (md_up A i v) n) = fun v => md_D R (md_cl A 0 i ++ v :: md_cl A (i + 1) (n - i - 1)) := funext fun v => by
    unfold md_dt
    rw [md_cl_up A h]
  rw [e]
  exact md_Z_ins R _ _
theorem md_dt_lin (R : List Nat) (A : Nat → md_V) {i n : Nat} (h : i < n) : md_lin (fun v => md_dt R (md_up A i v) n) := by
  have e : (fun v => md_dt R (md_up A i v) n) = fun v => md_D R (md_cl A 0 i ++ v :: md_cl A (i + 1) (n - i - 1)) := funext fun v => by
    unfold md_dt
    rw [md_cl_up A h]
  rw [e]
  exact md_lin_ins R _ _
theorem md_dt_on (R : List Nat) (A : Nat → md_V) {i n : Nat} (h : i < n) : md_on R (fun v => md_dt R (md_up A i v) n) := by
  have e : (fun v => md_dt R (md_up A i v) n) = fun v => md_D R (md_cl A 0 i ++ v :: md_cl A (i + 1) (n - i - 1)) := funext fun v => by
    unfold md_dt
    rw [md_cl_up A h]
  rw [e]
  exact md_on_ins R _ _
theorem md_dt_eq0 (R : List Nat) (A : Nat → md_V) {i j n : Nat} (hij : i < j) (hj : j < n) (h : A i = A j) : md_dt R A n = 0 := by
  unfold md_dt
  rw [md_cl_at A (show i < n by omega)]
  have e : n - i - 1 = (j - i - 1) + ((n - j - 1) + 1) := by omega
  rw [e, md_cl_app A (j - i - 1) (i + 1)]
  simp only [md_cl]
  rw [show i + 1 + (j - i - 1) = j by omega, ← h]
  exact md_D_two R _ _ _ _
theorem md_dt_eq (R : List Nat) (A : Nat → md_V) {i j n : Nat} (hij : i ≠ j) (hi : i < n) (hj : j < n) (h : A i = A j) : md_dt R A n = 0 := by
  rcases Nat.lt_or_gt_of_ne hij with q | q
  · exact md_dt_eq0 R A q hj h
  · exact md_dt_eq0 R A q hi h.symm
theorem md_dt_swap (R : List Nat) (A : Nat → md_V) {p q n : Nat} (hpq : p ≠ q) (hp : p < n) (hq : q < n) (x y : md_V) : md_dt R (md_up (md_up A p x) q y) n = - md_dt R (md_up (md_up A p y) q x) n := by
  have hz : ∀ v : md_V, md_dt R (md_up (md_up A p v) q v) n = 0 := fun v => md_dt_eq R _ hpq hp hq (by rw [md_up_at, md_up_ne _ _ hpq, md_up_at])
  have l2 : ∀ (v a b : md_V), md_dt R (md_up (md_up A p v) q (fun r => 1 * a r + 1 * b r)) n = 1 * md_dt R (md_up (md_up A p v) q a) n + 1 * md_dt R (md_up (md_up A p v) q b) n := fun v a b => md_dt_lin R (md_up A p v) hq 1 1 a b
  have l1 : ∀ (v a b : md_V), md_dt R (md_up (md_up A p (fun r => 1 * a r + 1 * b r)) q v) n = 1 * md_dt R (md_up (md_up A p a) q v) n + 1 * md_dt R (md_up (md_up A p b) q v) n := fun v a b => by
    rw [md_up_comm A _ v hpq, md_up_comm A a v hpq, md_up_comm A b v hpq]
    exact md_dt_lin R (md_up A q v) hp 1 1 a b
  have h := hz (fun r => 1 * x r + 1 * y r)
  rw [l2, l1, l1, hz x, hz y] at h
  omega
def md_S : Nat → Nat → (Nat → Int) → Int
  | _, 0, _ => 0
  | s, n + 1, f => f s + md_S (s + 1) n f
theorem md_S_congr {f g : Nat → Int} : ∀ (n s : Nat), (∀ i, s ≤ i → i < s + n → f i = g i) → md_S s n f = md_S s n g
  | 0, _, _ => rfl
  | n + 1, s, h => by
    simp only [md_S]
    rw [h s (Nat.le_refl _) (by omega), md_S_congr n (s + 1) (fun i h1 h2 => h i (by omega) (by omega))]
theorem md_S_zero : ∀ (n s : Nat) (f : Nat → Int), (∀ i, s ≤ i → i < s + n → f i = 0) → md_S s n f = 0
  | 0, _, _, _ => rfl
  | n + 1, s, f, h => by
    simp only [md_S]
    rw [h s (Nat.le_refl _) (by omega), md_S_zero n (s + 1) f (fun i h1 h2 => h i (by omega) (by omega))]
    rfl
theorem md_S_add (f g : Nat → Int) : ∀ (n s : Nat), md_S s n (fun i => f i + g i) = md_S s n f + md_S s n g
  | 0, _ => rfl
  | n + 1, s => by
    simp only [md_S]
    rw [md_S_add f g n (s + 1)]
    omega
theorem md_S_smul (k : Int) (f : Nat → Int) : ∀ (n s : Nat), md_S s n (fun i => k * f i) = k * md_S s n f
  | 0, _ => by simp [md_S]
  | n + 1, s => by
    simp only [md_S]
    rw [md_S_smul k f n (s + 1)]
    grind
theorem md_S_one (f : Nat → Int) : ∀ (n s p : Nat), s ≤ p → p < s + n → (∀ i, s ≤ i → i < s + n → i ≠ p → f i = 0) → md_S s n f = f p
  | 0, s, p, h1, h2, _ => absurd h2 (by omega)
  | n + 1, s, p, h1, h2, h => by
    simp only [md_S]
    by_cases e : s = p
    · subst e
      rw [md_S_zero n (s + 1) f (fun i q1 q2 => h i (by omega) (by omega) (by omega))]
      omega
    · rw [h s (Nat.le_refl _) (by omega) e, md_S_one f n (s + 1) p (by omega) (by omega) (fun i q1 q2 => h i (by omega) (by omega))]
      omega
theorem md_S_two (f : Nat → Int) {n p q : Nat} (hpq : p ≠ q) (hp : p < n) (hq : q < n) (h : ∀ i, i < n → i ≠ p → i ≠ q → f i = 0) : md_S 0 n f = f p + f q := by
  have e : md_S 0 n f = md_S 0 n (fun i => (if i = p then f i else 0) + (if i = p then 0 else f i)) := md_S_congr n 0 (fun i _ _ => by by_cases e : i = p <;> simp [e])
  rw [e, md_S_add, md_S_one _ n 0 p (by omega) (by omega) (fun i _ _ e => by simp [e]), md_S_one _ n 0 q (by omega) (by omega) (fun i _ h2 e => by
    by_cases e2 : i = p
    · simp [e2]
    · simp [e2, h i (by omega) e2 e])]
  simp [Ne.symm hpq]
theorem md_S_three (f : Nat → Int) {n p q r : Nat} (hpq : p ≠ q) (hpr : p ≠ r) (hqr : q ≠ r) (hp : p < n) (hq : q < n) (hr : r < n) (h : ∀ i, i < n → i ≠ p → i ≠ q → i ≠ r → f i = 0) : md_S 0 n f = f p + f q + f r := by
  have e : md_S 0 n f = md_S 0 n (fun i => (if i = p then f i else 0) + (if i = p then 0 else f i)) := md_S_congr n 0 (fun i _ _ => by by_cases e : i = p <;> simp [e])
  rw [e, md_S_add, md_S_one _ n 0 p (by omega) (by omega) (fun i _ _ e => by simp [e]), md_S_two _ hqr hq hr (fun i h2 e1 e3 => by
    by_cases e2 : i = p
    · simp [e2]
    · simp [e2, h i (by omega) e2 e1 e3])]
  simp [Ne.symm hpq, Ne.symm hpr]
  omega
def md_sg : Nat → Int
  | 0 => 1
  | n + 1 => - md_sg n
theorem md_sg2 : ∀ n, md_sg n * md_sg n = 1
  | 0 => rfl
  | n + 1 => by
    simp only [md_sg]
    rw [Int.neg_mul_neg]
    exact md_sg2 n
theorem md_D_move (R : List Nat) (v : md_V) : ∀ (pre q l : List md_V), md_D R (q ++ v :: (pre ++ l)) = md_sg pre.length * md_D R (q ++ (pre ++ v :: l))
  | [], q, l => by simp [md_sg]
  | y :: pre, q, l => by
    have h := md_D_move R v pre (q ++ [y]) l
    simp only [List.append_assoc, List.cons_append, List.nil_append] at h
    rw [List.cons_append, md_D_swap R q v y, h]
    simp only [List.length_cons, md_sg, List.cons_append]
    grind
theorem md_alt_rep (R : List Nat) (u : md_V → Int) (A : Nat → md_V) (v : md_V) : ∀ (n s : Nat) (pre : List md_V), md_alt u (md_cl A s n) (fun l => md_D R (v :: (pre ++ l))) = md_sg pre.length * md_S s n (fun i => md_D R (pre ++ md_cl (md_up A i v) s n) * u (A i))
  | 0, s, pre => by simp [md_cl, md_alt, md_S]
  | n + 1, s, pre => by
    have h := md_alt_rep R u A v n (s + 1) (pre ++ [A s])
    simp only [List.append_assoc, List.cons_append, List.nil_append, List.length_append, List.length_cons, List.length_nil] at h
    have hm := md_D_move R v pre [] (md_cl A (s + 1) n)
    simp only [List.nil_append] at hm
    simp only [md_cl, md_alt, md_S]
    rw [h, hm, md_up_at, md_cl_congr (A := md_up A s v) (B := A) n (s + 1) (fun j h1 _ => md_up_ne _ _ (by omega)), md_S_congr (f := fun i => md_D R (pre ++ md_up A i v s :: md_cl (md_up A i v) (s + 1) n) * u (A i)) (g := fun i => md_D R (pre ++ A s :: md_cl (md_up A i v) (s + 1) n) * u (A i)) n (s + 1) (fun i h1 _ => by rw [md_up_ne _ _ (by omega)])]
    simp only [Nat.zero_add, md_sg]
    grind
/-- Cramer's identity: a functional of the rows at v, by the columns -/
theorem md_cramer {R : List Nat} {u : md_V → Int} (hu : md_Z R u) (A : Nat → md_V) (v : md_V) (n : Nat) : md_dt R A n * u v = md_S 0 n (fun i => md_dt R (md_up A i v) n * u (A i)) := by
  have h := hu (v :: md_cl A 0 n)
  simp only [md_alt] at h
  have h2 := md_alt_rep R u A v n 0 []
  simp only [List.nil_append, List.length_nil, md_sg] at h2
  rw [h2] at h
  unfold md_dt
  grind
/-- two columns exchanged -/
theorem md_plu (R : List Nat) (A : Nat → md_V) {p r n : Nat} (hpr : p ≠ r) (hp : p < n) (hr : r < n) (x v : md_V) : md_dt R A n * md_dt R (md_up (md_up A p x) r v) n = md_dt R (md_up A p x) n * md_dt R (md_up A r v) n - md_dt R (md_up A r x) n * md_dt R (md_up A p v) n := by
  rw [md_cramer (md_dt_Z R (md_up A p x) hr) A v n, md_S_two _ hpr hp hr (fun i hi h1 h2 => by
    rw [md_dt_eq R (md_up (md_up A p x) r (A i)) h2 hi hr (by rw [md_up_ne _ _ h2, md_up_ne _ _ h1, md_up_at])]
    simp)]
  rw [md_dt_swap R A hpr hp hr x (A p), md_up_self]
  have e : md_up (md_up A p x) r (A r) = md_up A p x := by
    have := md_up_self (md_up A p x) r
    rw [md_up_ne _ _ (Ne.symm hpr)] at this
    exact this
  rw [e]
  grind
/-- three columns exchanged -/
theorem md_plu3 (R : List Nat) (A : Nat → md_V) {p q r n : Nat} (hpq : p ≠ q) (hpr : p ≠ r) (hqr : q ≠ r) (hp : p < n) (hq : q < n) (hr : r < n) (x y v : md_V) : md_dt R A n * md_dt R (md_up (md_up (md_up A p x) q y) r v) n = md_dt R (md_up A r v) n * md_dt R (md_up (md_up A p x) q y) n - md_dt R (md_up A p v) n * md_dt R (md_up (md_up A r x) q y) n - md_dt R (md_up A q v) n * md_dt R (md_up (md_up A p x) r y) n := by
  rw [md_cramer (md_dt_Z R (md_up (md_up A p x) q y) hr) A v n, md_S_three _ hpq hpr hqr hp hq hr (fun i hi h1 h2 h3 => by
    rw [md_dt_eq R (md_up (md_up (md_up A p x) q y) r (A i)) h3 hi hr (by rw [md_up_ne _ _ h3, md_up_ne _ _ h2, md_up_ne _ _ h1, md_up_at])]
    simp)]
  have e1 : md_dt R (md_up (md_up (md_up A p x) q y) r (A p)) n = - md_dt R (md_up (md_up A r x) q y) n := by
    rw [md_up_comm A x y hpq, md_dt_swap R (md_up A q y) hpr hp hr x (A p)]
    have := md_up_self (md_up A q y) p
    rw [md_up_ne _ _ hpq] at this
    rw [this, md_up_comm A y x hqr]
  have e2 : md_dt R (md_up (md_up (md_up A p x) q y) r (A q)) n = - md_dt R (md_up (md_up A p x) r y) n := by
    rw [md_dt_swap R (md_up A p x) hqr hq hr y (A q)]
    have := md_up_self (md_up A p x) q
    rw [md_up_ne _ _ (Ne.symm hpq)] at this
    rw [this]
  have e3 : md_up (md_up (md_up A p x) q y) r (A r) = md_up (md_up A p x) q y := by
    have := md_up_self (md_up (md_up A p x) q y) r
    rw [md_up_ne _ _ (Ne.symm hqr), md_up_ne _ _ (Ne.symm hpr)] at this
    exact this
  rw [e1, e2, e3]
  grind
