/-! the columns' weights; what determinants of them are at most -/
theorem md_P_app : ∀ l m : List Nat, md_P (l ++ m) = md_P l * md_P m
  | [], m => by simp [md_P]
  | x :: l, m => by
    show x * md_P (l ++ m) = x * md_P l * md_P m
    rw [md_P_app l m, Nat.mul_assoc]
theorem md_P_rep (w : Nat) (c : List md_V) : md_P ((c.map (fun v => (v, w))).map (fun q => q.2)) = w ^ c.length := by
  induction c with
  | nil => rfl
  | cons v c ih =>
    show w * md_P _ = _
    rw [ih, List.length_cons, Nat.pow_succ, Nat.mul_comm]
theorem md_fst (w : Nat) (c : List md_V) : (c.map (fun v => (v, w))).map (fun q => q.1) = c := by
  rw [List.map_map]
  exact List.map_id c
theorem md_D_W {R : List Nat} (hn : R.Nodup) {w : Nat} {c : List md_V} (h : ∀ v ∈ c, md_W R v w) : (md_D R c).natAbs ≤ w ^ c.length := by
  have q := md_bound hn (c.map (fun v => (v, w))) [] (fun _ h => by cases h) (fun q hq => by
    obtain ⟨v, hv, rfl⟩ := List.mem_map.mp hq
    exact h v hv)
  rw [List.nil_append, md_fst, md_P_rep] at q
  exact q
theorem md_D_W2 {R : List Nat} (hn : R.Nodup) {w z : Nat} {c d : List md_V} {x : md_V} (h : ∀ v ∈ c, md_W R v w) (hx : md_W R x z) (h2 : ∀ v ∈ d, md_W R v w) : (md_D R (c ++ x :: d)).natAbs ≤ z * w ^ (c.length + d.length) := by
  have q := md_bound hn (c.map (fun v => (v, w)) ++ (x, z) :: d.map (fun v => (v, w))) [] (fun _ h => by cases h) (fun q hq => by
    rcases List.mem_append.mp hq with hq | hq
    · obtain ⟨v, hv, rfl⟩ := List.mem_map.mp hq
      exact h v hv
    · rcases List.mem_cons.mp hq with rfl | hq
      · exact hx
      · obtain ⟨v, hv, rfl⟩ := List.mem_map.mp hq
        exact h2 v hv)
  rw [List.nil_append, List.map_append, List.map_append, List.map_cons, List.map_cons, md_fst, md_fst, md_P_app, md_P_rep] at q
  show _ ≤ z * w ^ (c.length + d.length)
  have e : w ^ c.length * md_P (z :: (d.map (fun v => (v, w))).map (fun q => q.2)) = z * w ^ (c.length + d.length) := by
    show w ^ c.length * (z * md_P ((d.map (fun v => (v, w))).map (fun q => q.2))) = _
    rw [md_P_rep, Nat.pow_add, ← Nat.mul_assoc, ← Nat.mul_assoc, Nat.mul_comm (w ^ c.length) z]
  rw [e] at q
  exact q
theorem md_cl_len (A : Nat → md_V) : ∀ (n s : Nat), (md_cl A s n).length = n
  | 0, _ => rfl
  | n + 1, s => by
    show (md_cl A (s + 1) n).length + 1 = n + 1
    rw [md_cl_len A n (s + 1)]
theorem md_dt_W {R : List Nat} (hn : R.Nodup) {w n : Nat} {A : Nat → md_V} (h : ∀ k, k < n → md_W R (A k) w) : (md_dt R A n).natAbs ≤ w ^ n := by
  have q := md_D_W hn (c := md_cl A 0 n) (w := w) (fun v hv => by
    obtain ⟨i, hi, rfl⟩ := md_cl_mem n 0 hv
    exact h i (by omega))
  rw [md_cl_len] at q
  exact q
theorem md_dt_W2 {R : List Nat} (hn : R.Nodup) {w z n i : Nat} {A : Nat → md_V} (hi : i < n) (h : ∀ k, k < n → md_W R (A k) w) {x : md_V} (hx : md_W R x z) : (md_dt R (md_up A i x) n).natAbs ≤ z * w ^ (n - 1) := by
  have q := md_D_W2 hn (c := md_cl A 0 i) (d := md_cl A (i + 1) (n - i - 1)) (w := w) (fun v hv => by
    obtain ⟨j, hj, rfl⟩ := md_cl_mem i 0 hv
    exact h j (by omega)) hx (fun v hv => by
    obtain ⟨j, hj, rfl⟩ := md_cl_mem (n - i - 1) (i + 1) hv
    exact h j (by omega))
  rw [md_cl_len, md_cl_len, show i + (n - i - 1) = n - 1 by omega, ← md_cl_up A hi] at q
  exact q
theorem md_net_e {n : Nat} (j : Nat) : md_net (List.range n) (md_e j) := by
  refine ⟨fun r _ => ?_, fun r _ s _ h1 h2 => ?_, fun r _ s _ h1 h2 => ?_⟩
  · unfold md_e
    by_cases e : r = j
    · rw [if_pos e]; exact Or.inr (Or.inl rfl)
    · rw [if_neg e]; exact Or.inl rfl
  · unfold md_e at h1 h2
    by_cases e : r = j
    · by_cases e2 : s = j
      · rw [e, e2]
      · rw [if_neg e2] at h2; exact absurd h2 (by decide)
    · rw [if_neg e] at h1; exact absurd h1 (by decide)
  · unfold md_e at h1
    by_cases e : r = j
    · rw [if_pos e] at h1; exact absurd h1 (by decide)
    · rw [if_neg e] at h1; exact absurd h1 (by decide)
theorem fL_inj {F : Nat → Nat → Int32} {k i j : Nat} (hi : i < (fL F k).length) (hj : j < (fL F k).length) (h : (fL F k).getD i 0 = (fL F k).getD j 0) : i = j := by
  have hp : List.Pairwise (· < ·) (fL F k) := List.Pairwise.filter _ List.pairwise_lt_range
  have q := List.pairwise_iff_getElem.mp hp
  rw [List.getD_eq_getElem?_getD, List.getD_eq_getElem?_getD, List.getElem?_eq_getElem hi, List.getElem?_eq_getElem hj, Option.getD_some, Option.getD_some] at h
  rcases Nat.lt_trichotomy i j with l | l | l
  · have := q i j hi hj l
    omega
  · exact l
  · have := q j i hj hi l
    omega
/-- a net of two ends: 1 at one pin's direction, -1 at the other's -/
def fNet (F : Nat → Nat → Int32) (P a c w : Nat) : md_V := fun k => if (fL F (2 * P)).getD k 0 % 2 = w then (if a = (fL F (2 * P)).getD k 0 / 2 then 1 else if c = (fL F (2 * P)).getD k 0 / 2 then -1 else 0) else 0
theorem fNet_net (F : Nat → Nat → Int32) (P a c w : Nat) : md_net (List.range (fL F (2 * P)).length) (fNet F P a c w) := by
  have key : ∀ k, (fNet F P a c w k = 1 → (fL F (2 * P)).getD k 0 = 2 * a + w) ∧ (fNet F P a c w k = -1 → (fL F (2 * P)).getD k 0 = 2 * c + w) ∧ md_le1 (fNet F P a c w k) := by
    intro k
    unfold fNet
    by_cases e1 : (fL F (2 * P)).getD k 0 % 2 = w
    · rw [if_pos e1]
      by_cases e2 : a = (fL F (2 * P)).getD k 0 / 2
      · rw [if_pos e2]
        exact ⟨fun _ => by omega, fun h => absurd h (by decide), Or.inr (Or.inl rfl)⟩
      · rw [if_neg e2]
        by_cases e3 : c = (fL F (2 * P)).getD k 0 / 2
        · rw [if_pos e3]
          exact ⟨fun h => absurd h (by decide), fun _ => by omega, Or.inr (Or.inr rfl)⟩
        · rw [if_neg e3]
          exact ⟨fun h => absurd h (by decide), fun h => absurd h (by decide), Or.inl rfl⟩
    · rw [if_neg e1]
      exact ⟨fun h => absurd h (by decide), fun h => absurd h (by decide), Or.inl rfl⟩
  refine ⟨fun r _ => (key r).2.2, fun r hr s hs h1 h2 => ?_, fun r hr s hs h1 h2 => ?_⟩
  · exact fL_inj (List.mem_range.mp hr) (List.mem_range.mp hs) (((key r).1 h1).trans ((key s).1 h2).symm)
  · exact fL_inj (List.mem_range.mp hr) (List.mem_range.mp hs) (((key r).2.1 h1).trans ((key s).2.1 h2).symm)
theorem fCol_W {F : Nat → Nat → Int32} {P B O D W : Nat} (hi : hI F P B O D W) {b : Nat} (hb : b < B) : md_W (List.range (fL F (2 * P)).length) (fCol F P b) 5 := by
  obtain ⟨-, e2, -, e4⟩ := hI_ends hi hb
  have h1 := fX_le hi e2 0
  have h2 := fX_le hi e4 0
  have h3 := fX_le hi e2 1
  have h4 := fX_le hi e4 1
  rw [if_pos rfl] at h1 h2
  rw [if_neg (by decide)] at h3 h4
  refine md_W_on (md_W_le (md_W_lin (md_W_net (fNet_net F P (fA F b) (fC F b) 0)) (md_W_net (fNet_net F P (fA F b) (fC F b) 1)) (fX F (fC F b) 0 - fX F (fA F b) 0) (fX F (fC F b) 1 - fX F (fA F b) 1)) (by omega)) (fun r _ => ?_)
  show fBr F b _ _ = _
  unfold fBr fNet
  have hw : (fL F (2 * P)).getD r 0 % 2 = 0 ∨ (fL F (2 * P)).getD r 0 % 2 = 1 := by omega
  rcases hw with e | e
  · rw [e, if_pos (show (0 : Nat) = 0 from rfl), if_neg (show ¬ (0 : Nat) = 1 by decide)]
    by_cases c1 : fA F b = (fL F (2 * P)).getD r 0 / 2
    · rw [if_pos c1, if_pos c1]; omega
    · rw [if_neg c1, if_neg c1]
      by_cases c2 : fC F b = (fL F (2 * P)).getD r 0 / 2
      · rw [if_pos c2, if_pos c2]; omega
      · rw [if_neg c2, if_neg c2]; omega
  · rw [e, if_neg (show ¬ (1 : Nat) = 0 by decide), if_pos (show (1 : Nat) = 1 from rfl)]
    by_cases c1 : fA F b = (fL F (2 * P)).getD r 0 / 2
    · rw [if_pos c1, if_pos c1]; omega
    · rw [if_neg c1, if_neg c1]
      by_cases c2 : fC F b = (fL F (2 * P)).getD r 0 / 2
      · rw [if_pos c2, if_pos c2]; omega
      · rw [if_neg c2, if_neg c2]; omega
theorem fXc_W {F : Nat → Nat → Int32} {P B O D W : Nat} (hi : hI F P B O D W) (c : Nat) : md_W (List.range (fL F (2 * P)).length) (fXc F P B c) 5 := by
  unfold fXc
  by_cases h : c < B
  · rw [if_pos h]
    exact fCol_W hi h
  · rw [if_neg h]
    exact md_W_le (md_W_net (md_net_e _)) (by decide)
theorem nd_range (n : Nat) : (List.range n).Nodup := List.nodup_range
def fXs (F : Nat → Nat → Int32) (P B : Nat) (A : Nat → md_V) : Prop := ∀ k, k < (fL F (2 * P)).length → ∃ c, c < B + (fL F (2 * P)).length ∧ A k = fXc F P B c
theorem fXs_bd {F : Nat → Nat → Int32} {P B O D W : Nat} (hi : hI F P B O D W) {A : Nat → md_V} (h : fXs F P B A) : (md_dt (List.range (fL F (2 * P)).length) A (fL F (2 * P)).length).natAbs ≤ 5 ^ (fL F (2 * P)).length :=
  md_dt_W (nd_range _) (fun k hk => by
    obtain ⟨c, -, e⟩ := h k hk
    rw [e]
    exact fXc_W hi c)
theorem pow5 {N : Nat} (h : N ≤ 12) : 5 ^ N ≤ 2 ^ 28 := Nat.le_trans (Nat.pow_le_pow_right (by decide) h) (by decide)
theorem fXs_bd28 {F : Nat → Nat → Int32} {P B O D W : Nat} (hi : hI F P B O D W) {A : Nat → md_V} (h : fXs F P B A) : (md_dt (List.range (fL F (2 * P)).length) A (fL F (2 * P)).length).natAbs ≤ 2 ^ 28 := by
  have hP := hi.1.2
  have hl := fL_le F (2 * P)
  exact Nat.le_trans (fXs_bd hi h) (pow5 (by omega))
theorem fXs_up {F : Nat → Nat → Int32} {P B : Nat} {A : Nat → md_V} (h : fXs F P B A) {c : Nat} (hc : c < B + (fL F (2 * P)).length) (i : Nat) : fXs F P B (md_up A i (fXc F P B c)) := fun k hk => by
  by_cases e : k = i
  · rw [e, md_up_at]
    exact ⟨c, hc, rfl⟩
  · rw [md_up_ne _ _ e]
    exact h k hk
theorem fXs_sw {F : Nat → Nat → Int32} {P B : Nat} {A : Nat → md_V} (h : fXs F P B A) {p q : Nat} (hp : p < (fL F (2 * P)).length) (hq : q < (fL F (2 * P)).length) : fXs F P B (md_sw A p q) := fun k hk => by
  unfold md_sw
  by_cases e : k = q
  · rw [e, md_up_at]
    exact h p hp
  · rw [md_up_ne _ _ e]
    by_cases e2 : k = p
    · rw [e2, md_up_at]
      exact h q hq
    · rw [md_up_ne _ _ e2]
      exact h k hk
