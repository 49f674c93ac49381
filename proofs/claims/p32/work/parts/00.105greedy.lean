/-! the greedy base of a list of bars -/
def md_cs (C : Nat → md_V) (acc : List Nat) : md_V → Prop := fun v => ∃ j, j ∈ acc ∧ C j = v
noncomputable def md_gr (R : List Nat) (C : Nat → md_V) : List Nat → List Nat → List Nat
  | acc, [] => acc
  | acc, b :: l => md_gr R C (@ite _ (md_in R (md_cs C acc) (C b)) (Classical.propDecidable _) acc (acc ++ [b])) l
theorem md_gr_old {R : List Nat} {C : Nat → md_V} {acc : List Nat} {b : Nat} {l : List Nat} (h : md_in R (md_cs C acc) (C b)) : md_gr R C acc (b :: l) = md_gr R C acc l := by
  show md_gr R C (@ite _ _ (Classical.propDecidable _) acc (acc ++ [b])) l = _
  rw [if_pos h]
theorem md_gr_new {R : List Nat} {C : Nat → md_V} {acc : List Nat} {b : Nat} {l : List Nat} (h : ¬ md_in R (md_cs C acc) (C b)) : md_gr R C acc (b :: l) = md_gr R C (acc ++ [b]) l := by
  show md_gr R C (@ite _ _ (Classical.propDecidable _) acc (acc ++ [b])) l = _
  rw [if_neg h]
theorem md_gr_ind {R : List Nat} {C : Nat → md_V} {P : List Nat → List Nat → List Nat → Prop} (h0 : ∀ acc, P acc [] acc) (h1 : ∀ acc b l, md_in R (md_cs C acc) (C b) → P acc l (md_gr R C acc l) → P acc (b :: l) (md_gr R C acc l)) (h2 : ∀ acc b l, ¬ md_in R (md_cs C acc) (C b) → P (acc ++ [b]) l (md_gr R C (acc ++ [b]) l) → P acc (b :: l) (md_gr R C (acc ++ [b]) l)) : ∀ (l acc : List Nat), P acc l (md_gr R C acc l)
  | [], acc => h0 acc
  | b :: l, acc => by
    by_cases h : md_in R (md_cs C acc) (C b)
    · rw [md_gr_old h]
      exact h1 acc b l h (md_gr_ind h0 h1 h2 l acc)
    · rw [md_gr_new h]
      exact h2 acc b l h (md_gr_ind h0 h1 h2 l (acc ++ [b]))
theorem md_gr_app {R : List Nat} {C : Nat → md_V} (m : List Nat) (l acc : List Nat) : md_gr R C acc (l ++ m) = md_gr R C (md_gr R C acc l) m :=
  md_gr_ind (R := R) (C := C) (P := fun acc l r => md_gr R C acc (l ++ m) = md_gr R C r m) (fun _ => rfl) (fun acc b l h k => by
    rw [List.cons_append, md_gr_old h, k]) (fun acc b l h k => by
    rw [List.cons_append, md_gr_new h, k]) l acc
theorem md_gr_pre {R : List Nat} {C : Nat → md_V} (l acc : List Nat) : ∃ t, md_gr R C acc l = acc ++ t ∧ ∀ j ∈ t, j ∈ l :=
  md_gr_ind (R := R) (C := C) (P := fun acc l r => ∃ t, r = acc ++ t ∧ ∀ j ∈ t, j ∈ l) (fun acc => ⟨[], (List.append_nil acc).symm, fun _ h => h⟩) (fun acc b l h k => by
    obtain ⟨t, e, ht⟩ := k
    exact ⟨t, e, fun j hj => List.mem_cons_of_mem _ (ht j hj)⟩) (fun acc b l h k => by
    obtain ⟨t, e, ht⟩ := k
    refine ⟨b :: t, by rw [e, List.append_assoc]; rfl, fun j hj => ?_⟩
    rcases List.mem_cons.mp hj with rfl | hj
    · exact List.mem_cons_self
    · exact List.mem_cons_of_mem _ (ht j hj)) l acc
theorem md_gr_acc {R : List Nat} {C : Nat → md_V} {l acc : List Nat} {j : Nat} (h : j ∈ acc) : j ∈ md_gr R C acc l := by
  obtain ⟨t, e, -⟩ := md_gr_pre (R := R) (C := C) l acc
  rw [e]
  exact List.mem_append_left _ h
theorem md_gr_mem {R : List Nat} {C : Nat → md_V} {l acc : List Nat} {j : Nat} (h : j ∈ md_gr R C acc l) : j ∈ acc ∨ j ∈ l := by
  obtain ⟨t, e, ht⟩ := md_gr_pre (R := R) (C := C) l acc
  rw [e] at h
  rcases List.mem_append.mp h with h | h
  · exact Or.inl h
  · exact Or.inr (ht j h)
theorem md_cs_sub {C : Nat → md_V} {a b : List Nat} (h : ∀ j ∈ a, j ∈ b) : ∀ v, md_cs C a v → md_cs C b v := fun v ⟨j, h1, h2⟩ => ⟨j, h j h1, h2⟩
theorem md_gr_in {R : List Nat} {C : Nat → md_V} (l acc : List Nat) : ∀ j ∈ l, md_in R (md_cs C (md_gr R C acc l)) (C j) :=
  md_gr_ind (R := R) (C := C) (P := fun acc l r => (∀ j ∈ acc, j ∈ r) → ∀ j ∈ l, md_in R (md_cs C r) (C j)) (fun _ _ _ h => by cases h) (fun acc b l h k hs j hj => by
    rcases List.mem_cons.mp hj with rfl | hj
    · exact md_in_mono h (fun v hv => md_in_of (md_cs_sub hs v hv))
    · exact k hs j hj) (fun acc b l h k hs j hj => by
    have hs2 : ∀ i ∈ acc ++ [b], i ∈ md_gr R C (acc ++ [b]) l := fun i hi => md_gr_acc hi
    rcases List.mem_cons.mp hj with rfl | hj
    · exact md_in_of ⟨j, hs2 j (by simp), rfl⟩
    · exact k hs2 j hj) l acc (fun _ h => md_gr_acc h)
/-- a basis that has the base's columns at the places pos -/
def md_tb (R : List Nat) (n : Nat) (C : Nat → md_V) (A : Nat → md_V) (pos : Nat → Nat) (acc : List Nat) : Prop :=
  md_dt R A n ≠ 0 ∧ (∀ j, j < acc.length → pos j < n ∧ A (pos j) = C (acc.getD j 0)) ∧ ∀ i j, i < acc.length → j < acc.length → pos i = pos j → i = j
theorem md_tb_in {R : List Nat} {n : Nat} {C : Nat → md_V} {A : Nat → md_V} {pos : Nat → Nat} {acc : List Nat} (h : md_tb R n C A pos acc) (X : md_V) : md_in R (md_cs C acc) X ↔ ∀ k, k < n → (∀ j, j < acc.length → pos j ≠ k) → md_T R n A X k = 0 := by
  rw [md_in_iff (n := n) (A := A) (I := fun k => ∃ j, j < acc.length ∧ pos j = k) h.1 (fun v => ?_) X]
  · constructor
    · intro q k hk hp
      exact q k hk (fun ⟨j, h1, h2⟩ => hp j h1 h2)
    · intro q k hk hp
      exact q k hk (fun j h1 h2 => hp ⟨j, h1, h2⟩)
  · constructor
    · rintro ⟨j, hj, rfl⟩
      obtain ⟨i, hi, e⟩ := List.getElem_of_mem hj
      have h2 := h.2.1 i hi
      refine ⟨pos i, h2.1, ⟨i, hi, rfl⟩, ?_⟩
      rw [h2.2, List.getD_eq_getElem?_getD, List.getElem?_eq_getElem hi, Option.getD_some, e]
    · rintro ⟨k, hk, ⟨i, hi, rfl⟩, rfl⟩
      rw [(h.2.1 i hi).2]
      refine ⟨acc.getD i 0, ?_, rfl⟩
      rw [List.getD_eq_getElem?_getD, List.getElem?_eq_getElem hi, Option.getD_some]
      exact List.getElem_mem hi
/-- a pivot takes one more bar into the base -/
theorem md_tb_take {R : List Nat} {n : Nat} {C : Nat → md_V} {A : Nat → md_V} {pos : Nat → Nat} {acc : List Nat} (h : md_tb R n C A pos acc) {b k : Nat} (hk : k < n) (hp : ∀ j, j < acc.length → pos j ≠ k) (hT : md_T R n A (C b) k ≠ 0) : md_tb R n C (md_up A k (C b)) (fun j => if j = acc.length then k else pos j) (acc ++ [b]) := by
  refine ⟨hT, fun j hj => ?_, fun i j hi hj e => ?_⟩
  · rw [List.length_append, List.length_singleton] at hj
    dsimp only
    by_cases e : j = acc.length
    · rw [if_pos e]
      refine ⟨hk, ?_⟩
      rw [md_up_at, e]
      simp
    · rw [if_neg e]
      have hj2 : j < acc.length := by omega
      have h2 := h.2.1 j hj2
      refine ⟨h2.1, ?_⟩
      rw [md_up_ne _ _ (hp j hj2), h2.2]
      simp [List.getD_eq_getElem?_getD, List.getElem?_append_left hj2]
  · rw [List.length_append, List.length_singleton] at hi hj
    dsimp only at e
    by_cases e1 : i = acc.length
    · by_cases e2 : j = acc.length
      · omega
      · rw [if_pos e1, if_neg e2] at e
        exact absurd e.symm (hp j (by omega))
    · by_cases e2 : j = acc.length
      · rw [if_neg e1, if_pos e2] at e
        exact absurd e (hp i (by omega))
      · rw [if_neg e1, if_neg e2] at e
        exact h.2.2 i j (by omega) (by omega) e
/-- .. and there is a place for it exactly if it is new -/
theorem md_tb_new {R : List Nat} {n : Nat} {C : Nat → md_V} {A : Nat → md_V} {pos : Nat → Nat} {acc : List Nat} (h : md_tb R n C A pos acc) (X : md_V) : ¬ md_in R (md_cs C acc) X ↔ ∃ k, k < n ∧ (∀ j, j < acc.length → pos j ≠ k) ∧ md_T R n A X k ≠ 0 := by
  rw [md_tb_in h X]
  constructor
  · intro q
    refine Classical.byContradiction fun h2 => q fun k hk hp => Classical.byContradiction fun h3 => h2 ⟨k, hk, hp, h3⟩
  · rintro ⟨k, hk, hp, h3⟩ q
    exact h3 (q k hk hp)
def md_full (R : List Nat) (L : md_V → Prop) : Prop := ∀ X, md_in R L X
