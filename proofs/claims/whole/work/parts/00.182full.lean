/-! full sets, by greedy bases -/
theorem gr_tb {N : Nat} {C : Nat → md_V} : ∀ (l acc : List Nat) (A : Nat → md_V) (pos : Nat → Nat), md_tb (List.range N) N C A pos acc → ∃ A' pos', md_tb (List.range N) N C A' pos' (md_gr (List.range N) C acc l)
  | [], acc, A, pos, h => ⟨A, pos, h⟩
  | b :: l, acc, A, pos, h => by
    by_cases c : md_in (List.range N) (md_cs C acc) (C b)
    · rw [md_gr_old c]
      exact gr_tb l acc A pos h
    · obtain ⟨k, k1, k2, k3⟩ := (md_tb_new h (C b)).mp c
      rw [md_gr_new c]
      exact gr_tb l (acc ++ [b]) _ _ (md_tb_take h k1 k2 k3)
theorem tb0 (N : Nat) (C : Nat → md_V) : md_tb (List.range N) N C md_e (fun j => j) [] := by
  refine ⟨?_, fun j hj => absurd hj (Nat.not_lt_zero _), fun i j hi => absurd hi (Nat.not_lt_zero _)⟩
  rw [md_dt_e]
  decide
theorem tb_map_nd {N : Nat} {C : Nat → md_V} {A : Nat → md_V} {pos : Nat → Nat} {acc : List Nat} (h : md_tb (List.range N) N C A pos acc) : ((List.range acc.length).map pos).Nodup :=
  List.pairwise_map.mpr (List.Pairwise.imp_of_mem (fun ha hb hab e => hab (h.2.2 _ _ (List.mem_range.mp ha) (List.mem_range.mp hb) e)) List.nodup_range)
theorem tb_len {N : Nat} {C : Nat → md_V} {A : Nat → md_V} {pos : Nat → Nat} {acc : List Nat} (h : md_tb (List.range N) N C A pos acc) : acc.length ≤ N := by
  have q := pig N ((List.range acc.length).map pos) (tb_map_nd h) (fun x hx => by
    obtain ⟨j, hj, rfl⟩ := List.mem_map.mp hx
    exact (h.2.1 j (List.mem_range.mp hj)).1)
  rw [List.length_map, List.length_range] at q
  exact q
theorem tb_surj {N : Nat} {C : Nat → md_V} {A : Nat → md_V} {pos : Nat → Nat} {acc : List Nat} (h : md_tb (List.range N) N C A pos acc) (hl : acc.length = N) {k : Nat} (hk : k < N) : ∃ j, j < acc.length ∧ pos j = k := by
  refine Classical.byContradiction fun c => ?_
  have q := pig N (k :: (List.range acc.length).map pos) (List.nodup_cons.mpr ⟨fun m => by
    obtain ⟨j, hj, e⟩ := List.mem_map.mp m
    exact c ⟨j, List.mem_range.mp hj, e⟩, tb_map_nd h⟩) (fun x hx => by
    rcases List.mem_cons.mp hx with rfl | hx
    · exact hk
    · obtain ⟨j, hj, rfl⟩ := List.mem_map.mp hx
      exact (h.2.1 j (List.mem_range.mp hj)).1)
  rw [List.length_cons, List.length_map, List.length_range] at q
  omega
theorem tb_full_iff {N : Nat} {C : Nat → md_V} {A : Nat → md_V} {pos : Nat → Nat} {acc : List Nat} (h : md_tb (List.range N) N C A pos acc) : md_full (List.range N) (md_cs C acc) ↔ acc.length = N := by
  constructor
  · intro hf
    refine Classical.byContradiction fun c => ?_
    have hl := tb_len h
    -- every place is taken
    have all : ∀ k, k < N → k ∈ (List.range acc.length).map pos := fun k hk => Classical.byContradiction fun nk => by
      have q := (md_tb_in h (A k)).mp (hf (A k)) k hk (fun j hj e => nk (List.mem_map.mpr ⟨j, List.mem_range.mpr hj, e⟩))
      rw [md_T_own] at q
      exact h.1 q
    have q := pig acc.length ((List.range N).map (fun k => ((List.range acc.length).map pos).idxOf k)) (List.pairwise_map.mpr (List.Pairwise.imp_of_mem (fun {a b} ha hb hab e => hab (by
      have ea := idx_get (all a (List.mem_range.mp ha))
      have eb := idx_get (all b (List.mem_range.mp hb))
      rw [e] at ea
      exact ea.symm.trans eb)) List.nodup_range)) (fun x hx => by
      obtain ⟨k, hk, rfl⟩ := List.mem_map.mp hx
      have := List.idxOf_lt_length_of_mem (all k (List.mem_range.mp hk))
      rw [List.length_map, List.length_range] at this
      exact this)
    rw [List.length_map, List.length_range] at q
    omega
  · intro hl X
    refine (md_tb_in h X).mpr (fun k hk hp => ?_)
    obtain ⟨j, hj, e⟩ := tb_surj h hl hk
    exact absurd e (hp j hj)
theorem full_congr {R : List Nat} {C : Nat → md_V} {l m : List Nat} (h : ∀ j, j ∈ l → j ∈ m) (hf : md_full R (md_cs C l)) : md_full R (md_cs C m) := fun X => md_in_mono (hf X) (fun v hv => md_in_of (md_cs_sub h v hv))
theorem full_gr {N : Nat} {C : Nat → md_V} (l : List Nat) : md_full (List.range N) (md_cs C l) ↔ (md_gr (List.range N) C [] l).length = N := by
  obtain ⟨A, pos, h⟩ := gr_tb l [] md_e (fun j => j) (tb0 N C)
  rw [← tb_full_iff h]
  constructor
  · intro hf X
    exact md_in_mono (hf X) (fun v ⟨j, hj, e⟩ => e ▸ md_gr_in l [] j hj)
  · intro hf
    exact full_congr (fun j hj => by
      rcases md_gr_mem hj with q | q
      · cases q
      · exact q) hf
theorem gr_len {N : Nat} {C : Nat → md_V} (l : List Nat) : (md_gr (List.range N) C [] l).length ≤ N := by
  obtain ⟨A, pos, h⟩ := gr_tb l [] md_e (fun j => j) (tb0 N C)
  exact tb_len h
/-- the functional of a bar that the greedy took -/
theorem gr_fun {N : Nat} {C : Nat → md_V} {l0 l1 l2 : List Nat} {h : Nat} (n0 : h ∉ l0) (n1 : h ∉ l1) (n2 : h ∉ l2) (hG : h ∈ md_gr (List.range N) C (md_gr (List.range N) C [] l0) (l1 ++ h :: l2)) : ∃ u : md_V → Int, md_Z (List.range N) u ∧ u (C h) ≠ 0 ∧ (∀ j ∈ l0, u (C j) = 0) ∧ (∀ j ∈ l1, u (C j) = 0) ∧ ∀ j ∈ md_gr (List.range N) C (md_gr (List.range N) C [] l0) (l1 ++ h :: l2), j ≠ h → u (C j) = 0 := by
  have a0 : h ∉ md_gr (List.range N) C [] l0 := fun q => by
    rcases md_gr_mem q with q | q
    · cases q
    · exact n0 q
  have ea := md_gr_app (R := List.range N) (C := C) (h :: l2) l1 (md_gr (List.range N) C [] l0)
  have a1 : h ∉ md_gr (List.range N) C (md_gr (List.range N) C [] l0) l1 := fun q => by
    rcases md_gr_mem q with q | q
    · exact a0 q
    · exact n1 q
  have new : ¬ md_in (List.range N) (md_cs C (md_gr (List.range N) C (md_gr (List.range N) C [] l0) l1)) (C h) := fun c => by
    rw [ea, md_gr_old c] at hG
    rcases md_gr_mem hG with q | q
    · exact a1 q
    · exact n2 q
  rw [ea, md_gr_new new]
  rw [ea, md_gr_new new] at hG
  obtain ⟨A0, p0, t0⟩ := gr_tb l0 [] md_e (fun j => j) (tb0 N C)
  obtain ⟨A1, p1, t1⟩ := gr_tb l1 _ A0 p0 t0
  obtain ⟨k, k1, k2, k3⟩ := (md_tb_new t1 (C h)).mp new
  obtain ⟨A, pos, t⟩ := gr_tb l2 _ _ _ (md_tb_take t1 k1 k2 k3)
  obtain ⟨i, hi, ei⟩ := mem_getD hG
  have ti := t.2.1 i hi
  rw [ei] at ti
  have zero : ∀ j ∈ md_gr (List.range N) C (md_gr (List.range N) C (md_gr (List.range N) C [] l0) l1 ++ [h]) l2, j ≠ h → md_T (List.range N) N A (C j) (pos i) = 0 := fun j hj hne => by
    obtain ⟨q, hq, rfl⟩ := mem_getD hj
    have tq := t.2.1 q hq
    rw [← tq.2]
    exact md_T_other A (fun e => hne (by rw [t.2.2 q i hq hi e, ei])) tq.1 ti.1
  have spanz : ∀ X, md_in (List.range N) (md_cs C (md_gr (List.range N) C (md_gr (List.range N) C [] l0) l1)) X → md_T (List.range N) N A X (pos i) = 0 := fun X hX => hX (fun v => md_dt (List.range N) (md_up A (pos i) v) N) (md_dt_Z _ A ti.1) (fun v ⟨j, hj, e⟩ => by
    rw [← e]
    exact zero j (md_gr_acc (List.mem_append_left _ hj)) (fun q => a1 (by rw [← q]; exact hj)))
  refine ⟨fun v => md_T (List.range N) N A v (pos i), md_dt_Z _ A ti.1, ?_, fun j hj => ?_, fun j hj => spanz _ (md_gr_in l1 _ j hj), zero⟩
  · show md_T (List.range N) N A (C h) (pos i) ≠ 0
    rw [← ti.2, md_T_own]
    exact t.1
  · exact spanz _ (md_in_mono (md_gr_in l0 [] j hj) (fun v hv => md_in_of (md_cs_sub (fun x hx => md_gr_acc hx) v hv)))
def Fc (F : Nat → Nat → Int32) (P B S : Nat) : Prop := md_full (fR F P) (md_cs (fCol F P) (fBl S B))
theorem Fc_iff {F : Nat → Nat → Int32} {P B S : Nat} : Fc F P B S ↔ (fBase F P (fBl S B)).length = fN' F P := full_gr (N := fN' F P) (fBl S B)
theorem kind_0 {F : Nat → Nat → Int32} {P B S : Nat} : fKind F P B S = 0 ↔ ¬ Fc F P B S := by
  have hl : (fBase F P (fBl S B)).length ≤ fN' F P := gr_len (N := fN' F P) (fBl S B)
  rw [Fc_iff]
  unfold fKind kdN
  by_cases c : (fBase F P (fBl S B)).length < fN' F P
  · rw [if_pos c]
    exact ⟨fun _ => by omega, fun _ => rfl⟩
  · rw [if_neg c]
    refine ⟨fun q => ?_, fun q => absurd (by omega) q⟩
    by_cases c2 : (fSp F P B S).length ≤ 2
    · rw [if_pos c2] at q; omega
    · rw [if_neg c2] at q; omega
