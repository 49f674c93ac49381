/-! determinants with rows and columns appended; columns reordered; sums reordered -/
theorem md_alt_last (f : md_V → Int) (v : md_V) : ∀ (c : List md_V) (Ψ : List md_V → Int), (∀ u ∈ c, f u = 0) → md_alt f (c ++ [v]) Ψ = md_sg c.length * (f v * Ψ c)
  | [], Ψ, _ => by
    show f v * Ψ [] - 0 = 1 * (f v * Ψ [])
    omega
  | x :: c, Ψ, h => by
    show f x * Ψ (c ++ [v]) - md_alt f (c ++ [v]) (fun l => Ψ (x :: l)) = - md_sg c.length * (f v * Ψ (x :: c))
    rw [md_alt_last f v c (fun l => Ψ (x :: l)) (fun u hu => h u (List.mem_cons_of_mem _ hu)), h x List.mem_cons_self, Int.zero_mul, Int.zero_sub, Int.neg_mul]
theorem md_D_last {R : List Nat} {r : Nat} {c : List md_V} (v : md_V) (hl : c.length = R.length) (h : ∀ u ∈ c, u r = 0) : md_D (R ++ [r]) (c ++ [v]) = v r * md_D R c := by
  rw [md_D_rowmove [] r R, List.append_nil]
  show md_sg R.length * md_alt (fun v => v r) (c ++ [v]) (md_D R) = _
  rw [md_alt_last _ v c _ h, hl, ← Int.mul_assoc, md_sg2, Int.one_mul]
theorem md_alt_app0 (f : md_V → Int) (v : md_V) (hv : f v = 0) : ∀ (c : List md_V) (Ψ : List md_V → Int), md_alt f (c ++ [v]) Ψ = md_alt f c (fun l => Ψ (l ++ [v]))
  | [], Ψ => by
    show f v * Ψ [] - 0 = 0
    rw [hv, Int.zero_mul]
    rfl
  | x :: c, Ψ => by
    show f x * Ψ (c ++ [v]) - md_alt f (c ++ [v]) (fun l => Ψ (x :: l)) = f x * Ψ (c ++ [v]) - md_alt f c (fun l => Ψ (x :: (l ++ [v])))
    rw [md_alt_app0 f v hv c]
theorem md_alt_nil (f : md_V → Int) (v : md_V) : ∀ c : List md_V, md_alt f (c ++ [v]) (md_D []) = f v * md_D [] c
  | [] => by
    show f v * 1 - 0 = f v * 1
    omega
  | x :: c => by
    show f x * md_D [] (c ++ [v]) - md_alt f (c ++ [v]) (fun l => md_D [] (x :: l)) = f v * md_D [] (x :: c)
    have e1 : md_D [] (c ++ [v]) = 0 := by
      cases c <;> rfl
    have e2 : (fun l : List md_V => md_D [] (x :: l)) = fun _ => 0 := rfl
    have e3 : md_D [] (x :: c) = 0 := rfl
    rw [e1, e2, e3, md_alt_zero, Int.mul_zero, Int.mul_zero]
    rfl
theorem md_D_unit (r : Nat) (v : md_V) : ∀ (R : List Nat) (c : List md_V), (∀ s ∈ R, v s = 0) → md_D (R ++ [r]) (c ++ [v]) = v r * md_D R c
  | [], c, _ => md_alt_nil (fun v => v r) v c
  | s :: R, c, h => by
    show md_alt (fun v => v s) (c ++ [v]) (md_D (R ++ [r])) = v r * md_alt (fun v => v s) c (md_D R)
    rw [md_alt_app0 _ v (h s List.mem_cons_self), ← md_alt_smul]
    congr 1
    funext l
    exact md_D_unit r v R l (fun t ht => h t (List.mem_cons_of_mem _ ht))
theorem md_D_units (N : Nat) (c : List md_V) : ∀ m, md_D (List.range (N + m)) (c ++ (List.range m).map (fun i => md_e (N + i))) = md_D (List.range N) c
  | 0 => by
    show md_D (List.range N) (c ++ []) = _
    rw [List.append_nil]
  | m + 1 => by
    rw [← Nat.add_assoc, List.range_succ, List.range_succ (n := m), List.map_append, ← List.append_assoc]
    show md_D (List.range (N + m) ++ [N + m]) ((c ++ (List.range m).map (fun i => md_e (N + i))) ++ [md_e (N + m)]) = _
    rw [md_D_unit (N + m) (md_e (N + m)) _ _ (fun s hs => by
      have := List.mem_range.mp hs
      unfold md_e
      rw [if_neg (by omega)]), md_D_units N c m]
    unfold md_e
    rw [if_pos rfl, Int.one_mul]
theorem md_D_on {R : List Nat} (f g : Nat → md_V) : ∀ (l : List Nat) (pre : List md_V), (∀ x ∈ l, ∀ r ∈ R, f x r = g x r) → md_D R (pre ++ l.map f) = md_D R (pre ++ l.map g)
  | [], _, _ => rfl
  | x :: l, pre, h => by
    show md_D R (pre ++ f x :: l.map f) = md_D R (pre ++ g x :: l.map g)
    have e := md_on_ins R pre (l.map f) (f x) (g x) (h x List.mem_cons_self)
    have q := md_D_on f g l (pre ++ [g x]) (fun y hy => h y (List.mem_cons_of_mem _ hy))
    simp only [List.append_assoc, List.cons_append, List.nil_append] at q
    exact e.trans q
theorem md_dt_rows {R : List Nat} {A B : Nat → md_V} {n : Nat} (h : ∀ k, k < n → ∀ r ∈ R, A k r = B k r) : md_dt R A n = md_dt R B n := by
  have e : ∀ A : Nat → md_V, md_cl A 0 n = (List.range n).map A := fun A => by
    have q := md_cl_map (fun c => A c) (List.range n) []
    rw [List.length_range] at q
    rw [← q]
    refine md_cl_congr n 0 (fun i _ hi => ?_)
    show A i = A ((List.range n).getD i 0)
    rw [List.getD_eq_getElem?_getD, List.getElem?_range (by omega), Option.getD_some]
  unfold md_dt
  rw [e, e]
  exact md_D_on A B (List.range n) [] (fun x hx => h x (List.mem_range.mp hx))
/-- one row and one column more, the others 0 in that row -/
theorem x_dt {n : Nat} {B : Nat → md_V} (h : ∀ k, k < n → B k n = 0) : md_dt (List.range (n + 1)) B (n + 1) = B n n * md_dt (List.range n) B n := by
  unfold md_dt
  rw [List.range_succ, md_cl_app B n 0 1]
  show md_D (List.range n ++ [n]) (md_cl B 0 n ++ [B (0 + n)]) = _
  rw [Nat.zero_add, md_D_last (B n) (by rw [md_cl_len, List.length_range]) (fun u hu => by
    obtain ⟨i, hi, rfl⟩ := md_cl_mem n 0 hu
    exact h i (by omega))]
theorem x_step {n : Nat} {A : Nat → md_V} (hA : ∀ k, k < n → A k n = 0) {Y : md_V} (hY : Y n = 0) : md_dt (List.range (n + 1)) (md_up A n (fun r => Y r + md_e n r)) (n + 1) = md_dt (List.range n) A n ∧ (∀ X : md_V, X n = 0 → (∀ k, k < n → md_T (List.range (n + 1)) (n + 1) (md_up A n (fun r => Y r + md_e n r)) X k = md_T (List.range n) n A X k) ∧ md_T (List.range (n + 1)) (n + 1) (md_up A n (fun r => Y r + md_e n r)) X n = 0) ∧ (∀ k, k < n → md_T (List.range (n + 1)) (n + 1) (md_up A n (fun r => Y r + md_e n r)) (md_e n) k = - md_T (List.range n) n A Y k) ∧ md_T (List.range (n + 1)) (n + 1) (md_up A n (fun r => Y r + md_e n r)) (md_e n) n = md_dt (List.range n) A n := by
  have e1 : md_e n n = 1 := if_pos rfl
  have low : ∀ (Z X : md_V) k, k < n → X n = 0 → md_dt (List.range (n + 1)) (md_up (md_up A n Z) k X) (n + 1) = Z n * md_T (List.range n) n A X k := fun Z X k hk hX => by
    rw [x_dt (fun j hj => by
      by_cases e : j = k
      · rw [e, md_up_at, hX]
      · rw [md_up_ne _ _ e, md_up_ne _ _ (by omega), hA j hj]), md_up_ne _ _ (by omega), md_up_at]
    congr 1
    refine md_dt_congr (fun i hi => ?_)
    by_cases e : i = k
    · rw [e, md_up_at, md_up_at]
    · rw [md_up_ne _ _ e, md_up_ne _ _ e, md_up_ne _ _ (by omega)]
  have top : ∀ Z : md_V, md_dt (List.range (n + 1)) (md_up A n Z) (n + 1) = Z n * md_dt (List.range n) A n := fun Z => by
    rw [x_dt (fun j hj => by rw [md_up_ne _ _ (by omega), hA j hj]), md_up_at]
    congr 1
    exact md_dt_congr (fun i hi => md_up_ne _ _ (by omega))
  refine ⟨?_, fun X hX => ⟨fun k hk => ?_, ?_⟩, fun k hk => ?_, ?_⟩
  · rw [top, hY, e1]
    omega
  · show md_dt _ (md_up (md_up A n _) k X) _ = _
    rw [low _ X k hk hX, hY, e1]
    omega
  · show md_dt _ (md_up (md_up A n _) n X) _ = _
    rw [md_up_up, top, hX, Int.zero_mul]
  · show md_dt _ (md_up (md_up A n _) k (md_e n)) _ = _
    rw [md_up_comm _ _ _ (show n ≠ k by omega)]
    have lin := md_dt_lin (List.range (n + 1)) (md_up A k (md_e n)) (i := n) (n := n + 1) (by omega) 1 1 Y (md_e n)
    have ev : (fun r => 1 * Y r + 1 * md_e n r) = fun r => Y r + md_e n r := funext fun r => by rw [Int.one_mul, Int.one_mul]
    rw [ev] at lin
    dsimp only at lin
    rw [lin, md_dt_eq (List.range (n + 1)) (md_up (md_up A k (md_e n)) n (md_e n)) (i := k) (j := n) (by omega) (by omega) (by omega) (by rw [md_up_ne _ _ (by omega), md_up_at, md_up_at]), md_dt_swap (List.range (n + 1)) A (p := k) (q := n) (by omega) (by omega) (by omega) (md_e n) Y, md_up_comm _ _ _ (show k ≠ n by omega), low (md_e n) Y k hk hY, e1]
    omega
  · show md_dt _ (md_up (md_up A n _) n (md_e n)) _ = _
    rw [md_up_up, top, e1, Int.one_mul]
def xe (N : Nat) (v : md_V) : md_V := fun r => if r < N then v r else 0
def xA (N : Nat) (A : Nat → md_V) (sp : Nat → md_V) : Nat → Nat → md_V
  | 0 => fun k => xe N (A k)
  | m + 1 => md_up (xA N A sp m) (N + m) (fun r => xe N (sp m) r + md_e (N + m) r)
theorem xA_lo {N : Nat} {A sp : Nat → md_V} {k : Nat} (hk : k < N) : ∀ m, xA N A sp m k = xe N (A k)
  | 0 => rfl
  | m + 1 => by
    show md_up (xA N A sp m) (N + m) _ k = _
    rw [md_up_ne _ _ (by omega), xA_lo hk m]
theorem xA_hi {N : Nat} {A sp : Nat → md_V} {i : Nat} : ∀ m, i < m → xA N A sp m (N + i) = fun r => xe N (sp i) r + md_e (N + i) r
  | 0, h => absurd h (Nat.not_lt_zero _)
  | m + 1, h => by
    show md_up (xA N A sp m) (N + m) _ (N + i) = _
    by_cases e : i = m
    · rw [e, md_up_at]
    · rw [md_up_ne _ _ (by omega), xA_hi m (by omega)]
theorem xe_hi {N r : Nat} (v : md_V) (h : N ≤ r) : xe N v r = 0 := if_neg (by omega)
theorem x_all {N : Nat} {A sp : Nat → md_V} : ∀ m, md_dt (List.range (N + m)) (xA N A sp m) (N + m) = md_dt (List.range N) A N ∧ (∀ X k, k < N → md_T (List.range (N + m)) (N + m) (xA N A sp m) (xe N X) k = md_T (List.range N) N A X k) ∧ (∀ X i, i < m → md_T (List.range (N + m)) (N + m) (xA N A sp m) (xe N X) (N + i) = 0) ∧ (∀ i k, i < m → k < N → md_T (List.range (N + m)) (N + m) (xA N A sp m) (md_e (N + i)) k = - md_T (List.range N) N A (sp i) k) ∧ ∀ i j, i < m → j < m → md_T (List.range (N + m)) (N + m) (xA N A sp m) (md_e (N + i)) (N + j) = if i = j then md_dt (List.range N) A N else 0
  | 0 => by
    have rw0 : ∀ k, k < N → ∀ r ∈ List.range N, xe N (A k) r = A k r := fun k _ r hr => if_pos (List.mem_range.mp hr)
    refine ⟨md_dt_rows rw0, fun X k hk => ?_, fun X i hi => absurd hi (Nat.not_lt_zero _), fun i k hi => absurd hi (Nat.not_lt_zero _), fun i j hi => absurd hi (Nat.not_lt_zero _)⟩
    refine md_dt_rows (fun j hj r hr => ?_)
    by_cases e : j = k
    · rw [e, md_up_at, md_up_at]
      exact if_pos (List.mem_range.mp hr)
    · rw [md_up_ne _ _ e, md_up_ne _ _ e]
      exact rw0 j hj r hr
  | m + 1 => by
    obtain ⟨h1, h2, h3, h4, h5⟩ := x_all (N := N) (A := A) (sp := sp) m
    have hA : ∀ k, k < N + m → xA N A sp m k (N + m) = 0 := fun k hk => by
      by_cases l : k < N
      · rw [xA_lo l]
        exact xe_hi _ (by omega)
      · obtain ⟨i, rfl⟩ : ∃ i, k = N + i := ⟨k - N, by omega⟩
        rw [xA_hi m (by omega)]
        show xe N (sp i) (N + m) + md_e (N + i) (N + m) = 0
        rw [xe_hi _ (by omega)]
        unfold md_e
        rw [if_neg (by omega)]
        rfl
    obtain ⟨s1, s2, s3, s4⟩ := x_step (n := N + m) hA (Y := xe N (sp m)) (xe_hi _ (by omega))
    have ee : ∀ i, i < m → md_e (N + i) (N + m) = 0 := fun i hi => if_neg (by omega)
    refine ⟨s1.trans h1, fun X k hk => ?_, fun X i hi => ?_, fun i k hi hk => ?_, fun i j hi hj => ?_⟩
    · exact ((s2 (xe N X) (xe_hi _ (by omega))).1 k (by omega)).trans (h2 X k hk)
    · by_cases e : i = m
      · rw [e]
        exact (s2 (xe N X) (xe_hi _ (by omega))).2
      · exact ((s2 (xe N X) (xe_hi _ (by omega))).1 (N + i) (by omega)).trans (h3 X i (by omega))
    · by_cases e : i = m
      · rw [e]
        refine (s3 k (by omega)).trans ?_
        rw [h2 (sp m) k hk]
      · exact ((s2 _ (ee i (by omega))).1 k (by omega)).trans (h4 i k (by omega) hk)
    · by_cases e : i = m
      · by_cases e2 : j = m
        · rw [e, e2, if_pos rfl]
          exact s4.trans h1
        · rw [if_neg (by omega), e]
          refine (s3 (N + j) (by omega)).trans ?_
          rw [h3 (sp m) j (by omega)]
          rfl
      · by_cases e2 : j = m
        · rw [if_neg (by omega), e2]
          exact (s2 _ (ee i (by omega))).2
        · exact ((s2 _ (ee i (by omega))).1 (N + j) (by omega)).trans (h5 i j (by omega) (by omega))
/-- columns in another order: one sign for all -/
theorem md_D_perm {l1 l2 : List Nat} (h : l1.Perm l2) : ∃ e : Int, (e = 1 ∨ e = -1) ∧ ∀ (R : List Nat) (G : Nat → md_V) (pre : List md_V), md_D R (pre ++ l1.map G) = e * md_D R (pre ++ l2.map G) := by
  induction h with
  | nil => exact ⟨1, Or.inl rfl, fun R G pre => (Int.one_mul _).symm⟩
  | cons x _ ih =>
    obtain ⟨e, he, h⟩ := ih
    refine ⟨e, he, fun R G pre => ?_⟩
    have q := h R G (pre ++ [G x])
    simp only [List.append_assoc, List.cons_append, List.nil_append] at q
    exact q
  | swap x y l =>
    refine ⟨-1, Or.inr rfl, fun R G pre => ?_⟩
    show md_D R (pre ++ G y :: G x :: l.map G) = -1 * md_D R (pre ++ G x :: G y :: l.map G)
    rw [md_D_swap]
    omega
  | trans _ _ ih1 ih2 =>
    obtain ⟨e, he, h⟩ := ih1
    obtain ⟨e', he', h'⟩ := ih2
    refine ⟨e * e', ?_, fun R G pre => ?_⟩
    · rcases he with rfl | rfl <;> rcases he' with rfl | rfl
      · exact Or.inl rfl
      · exact Or.inr rfl
      · exact Or.inr rfl
      · exact Or.inl rfl
    · rw [h, h', Int.mul_assoc]
/-! sums over lists -/
def sumL (f : Nat → Int) : List Nat → Int
  | [] => 0
  | x :: l => f x + sumL f l
theorem sumL_app (f : Nat → Int) : ∀ l m : List Nat, sumL f (l ++ m) = sumL f l + sumL f m
  | [], m => (Int.zero_add _).symm
  | x :: l, m => by
    show f x + sumL f (l ++ m) = f x + sumL f l + sumL f m
    rw [sumL_app f l m, Int.add_assoc]
theorem sumK_L (f : Nat → Int) : ∀ k, sumK f k = sumL f (List.range k)
  | 0 => rfl
  | k + 1 => by
    show sumK f k + f k = _
    rw [List.range_succ, sumL_app, sumK_L f k]
    show _ = _ + (f k + 0)
    omega
theorem sumL_perm {f : Nat → Int} {l m : List Nat} (h : l.Perm m) : sumL f l = sumL f m := by
  induction h with
  | nil => rfl
  | cons x _ ih =>
    show f x + _ = f x + _
    rw [ih]
  | swap x y l =>
    show f y + (f x + sumL f l) = f x + (f y + sumL f l)
    omega
  | trans _ _ h1 h2 => exact h1.trans h2
theorem sumL_filter (f : Nat → Int) (p : Nat → Bool) : ∀ l : List Nat, sumL (fun x => if p x = true then f x else 0) l = sumL f (l.filter p)
  | [] => rfl
  | x :: l => by
    show (if p x = true then f x else 0) + sumL _ l = _
    rw [sumL_filter f p l]
    by_cases h : p x = true
    · rw [if_pos h, List.filter_cons_of_pos h]
      rfl
    · rw [if_neg h, List.filter_cons_of_neg h, Int.zero_add]
theorem sumL_map (f : Nat → Int) (h : Nat → Nat) : ∀ l : List Nat, sumL f (l.map h) = sumL (fun x => f (h x)) l
  | [] => rfl
  | x :: l => by
    show f (h x) + sumL f (l.map h) = f (h x) + _
    rw [sumL_map f h l]
theorem sumL_flat (f : Nat → Int) (h : Nat → List Nat) : ∀ l : List Nat, sumL f (l.flatMap h) = sumL (fun x => sumL f (h x)) l
  | [] => rfl
  | x :: l => by
    rw [List.flatMap_cons, sumL_app, sumL_flat f h l]
    rfl
theorem sumL_congr {f g : Nat → Int} : ∀ l : List Nat, (∀ x ∈ l, f x = g x) → sumL f l = sumL g l
  | [], _ => rfl
  | x :: l, h => by
    show f x + _ = g x + _
    rw [h x List.mem_cons_self, sumL_congr l (fun y hy => h y (List.mem_cons_of_mem _ hy))]
