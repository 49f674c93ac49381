/-! tableaus: the units as a basis, swaps, pivots; spans by functionals; the greedy base -/
def md_e (k : Nat) : md_V := fun j => if j = k then 1 else 0
theorem md_cl_mem {A : Nat → md_V} : ∀ (n s : Nat) {v : md_V}, v ∈ md_cl A s n → ∃ i, (s ≤ i ∧ i < s + n) ∧ v = A i
  | 0, _, _, h => by cases h
  | n + 1, s, v, h => by
    rcases List.mem_cons.mp h with h | h
    · exact ⟨s, ⟨by omega, by omega⟩, h⟩
    · obtain ⟨i, h1, h2⟩ := md_cl_mem n (s + 1) h
      exact ⟨i, ⟨by omega, by omega⟩, h2⟩
theorem md_D_e : ∀ (n s : Nat), md_D (List.range' s n) (md_cl md_e s n) = 1
  | 0, _ => rfl
  | n + 1, s => by
    show md_alt (fun v => v s) (md_e s :: md_cl md_e (s + 1) n) (md_D (List.range' (s + 1) n)) = 1
    simp only [md_alt]
    rw [md_D_e n (s + 1), md_alt_kill]
    · show (if s = s then (1 : Int) else 0) * 1 - 0 = 1
      rw [if_pos rfl]
      rfl
    · intro v hv
      obtain ⟨i, h1, rfl⟩ := md_cl_mem n (s + 1) hv
      show (if s = i then (1 : Int) else 0) = 0
      exact if_neg (by omega)
theorem md_dt_e (n : Nat) : md_dt (List.range n) md_e n = 1 := by
  rw [List.range_eq_range']
  exact md_D_e n 0
theorem md_T_e {n k : Nat} (h : k < n) (X : md_V) : md_dt (List.range n) (md_up md_e k X) n = X k := by
  have h1 := md_cramer (md_Z_row (List.range n) k (List.mem_range.mpr h)) md_e X n
  rw [md_dt_e, md_S_one _ n 0 k (Nat.zero_le _) (by omega) (fun i _ _ hi => by
    show _ * (if k = i then (1 : Int) else 0) = 0
    rw [if_neg (fun e => hi e.symm), Int.mul_zero])] at h1
  have e : md_e k k = 1 := if_pos rfl
  rw [e] at h1
  omega
def md_T (R : List Nat) (n : Nat) (A : Nat → md_V) (X : md_V) (k : Nat) : Int := md_dt R (md_up A k X) n
def md_sw (A : Nat → md_V) (p q : Nat) : Nat → md_V := md_up (md_up A p (A q)) q (A p)
theorem md_sw_dt {R : List Nat} {n : Nat} (A : Nat → md_V) {p q : Nat} (hpq : p ≠ q) (hp : p < n) (hq : q < n) : md_dt R (md_sw A p q) n = - md_dt R A n := by
  unfold md_sw
  rw [md_dt_swap R A hpq hp hq, md_up_self, md_up_self]
theorem md_sw_p {R : List Nat} {n : Nat} (A : Nat → md_V) {p q : Nat} (hpq : p ≠ q) (hp : p < n) (hq : q < n) (X : md_V) : md_T R n (md_sw A p q) X p = - md_T R n A X q := by
  unfold md_T md_sw
  rw [md_up_comm _ _ _ (Ne.symm hpq), md_up_up, md_dt_swap R A hpq hp hq, md_up_self]
theorem md_sw_q {R : List Nat} {n : Nat} (A : Nat → md_V) {p q : Nat} (hpq : p ≠ q) (hp : p < n) (hq : q < n) (X : md_V) : md_T R n (md_sw A p q) X q = - md_T R n A X p := by
  unfold md_T md_sw
  rw [md_up_up, md_dt_swap R A hpq hp hq, md_up_comm _ _ _ hpq, md_up_self]
theorem md_sw_k {R : List Nat} {n : Nat} (A : Nat → md_V) {p q k : Nat} (hpq : p ≠ q) (hkp : k ≠ p) (hkq : k ≠ q) (hp : p < n) (hq : q < n) (X : md_V) : md_T R n (md_sw A p q) X k = - md_T R n A X k := by
  have e : md_up (md_sw A p q) k X = md_sw (md_up A k X) p q := by
    unfold md_sw
    rw [md_up_ne A X (Ne.symm hkp), md_up_ne A X (Ne.symm hkq), md_up_comm _ _ _ (Ne.symm hkq), md_up_comm A _ _ (Ne.symm hkp)]
  unfold md_T
  rw [e, md_sw_dt _ hpq hp hq]
/-- a pivot: the new rows by the old ones -/
theorem md_pv {R : List Nat} {n : Nat} (A : Nat → md_V) {r k : Nat} (hk : k ≠ r) (hr : r < n) (hkn : k < n) (a X : md_V) : md_dt R A n * md_T R n (md_up A r a) X k = md_T R n A a r * md_T R n A X k - md_T R n A a k * md_T R n A X r :=
  md_plu R A (Ne.symm hk) hr hkn a X
theorem md_pv_r {R : List Nat} {n : Nat} (A : Nat → md_V) {r : Nat} (a X : md_V) : md_T R n (md_up A r a) X r = md_T R n A X r := by
  unfold md_T
  rw [md_up_up]
theorem md_T_own {R : List Nat} {n : Nat} (A : Nat → md_V) (k : Nat) : md_T R n A (A k) k = md_dt R A n := by
  unfold md_T
  rw [md_up_self]
theorem md_T_other {R : List Nat} {n : Nat} (A : Nat → md_V) {j k : Nat} (h : j ≠ k) (hj : j < n) (hk : k < n) : md_T R n A (A j) k = 0 :=
  md_dt_eq R _ h hj hk (by rw [md_up_ne _ _ h, md_up_at])
/-- X is made of L: each functional that is 0 on L is 0 at X -/
def md_in (R : List Nat) (L : md_V → Prop) (X : md_V) : Prop := ∀ u : md_V → Int, md_Z R u → (∀ v, L v → u v = 0) → u X = 0
theorem md_in_of {R : List Nat} {L : md_V → Prop} {X : md_V} (h : L X) : md_in R L X := fun _ _ h2 => h2 X h
theorem md_in_mono {R : List Nat} {L M : md_V → Prop} {X : md_V} (h : md_in R L X) (hLM : ∀ v, L v → md_in R M v) : md_in R M X := fun u hu hM => h u hu (fun v hv => hLM v hv u hu hM)
theorem md_in_iff {R : List Nat} {n : Nat} {A : Nat → md_V} (hA : md_dt R A n ≠ 0) {L : md_V → Prop} {I : Nat → Prop} (hL : ∀ v, L v ↔ ∃ k, k < n ∧ I k ∧ A k = v) (X : md_V) : md_in R L X ↔ ∀ k, k < n → ¬ I k → md_T R n A X k = 0 := by
  constructor
  · intro h k hk hI
    refine h (fun v => md_dt R (md_up A k v) n) (md_dt_Z R A hk) (fun v hv => ?_)
    obtain ⟨j, hj, hIj, rfl⟩ := (hL v).mp hv
    exact md_T_other A (fun e => hI (e ▸ hIj)) hj hk
  · intro h u hu hv
    have h1 := md_cramer hu A X n
    rw [md_S_zero n 0 _ (fun i _ hi => by
      by_cases hI : I i
      · rw [hv _ ((hL _).mpr ⟨i, by omega, hI, rfl⟩), Int.mul_zero]
      · have := h i (by omega) hI
        unfold md_T at this
        rw [this, Int.zero_mul])] at h1
    rcases Int.mul_eq_zero.mp h1 with e | e
    · exact absurd e hA
    · exact e
