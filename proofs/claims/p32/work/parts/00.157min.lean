/-! the reference's determinants by the class's basis -/
noncomputable def zL (F : Nat → Nat → Int32) (P B S : Nat) : List Nat := fBase F P (fBl S B) ++ fSp F P B S
noncomputable def zA (F : Nat → Nat → Int32) (P B S : Nat) (A : Nat → md_V) : Nat → md_V := xA (fN' F P) A (fun i => fCol F P ((fSp F P B S).getD i 0)) (fSp F P B S).length
theorem zL_nd (F : Nat → Nat → Int32) (P B S : Nat) : (zL F P B S).Nodup := by
  unfold zL
  rw [List.nodup_append]
  exact ⟨fBase_nd F P S B, fSp_nd F P B S, fun a ha b hb e => (fSp_mem.mp hb).2 (e ▸ ha)⟩
theorem zL_mem {F : Nat → Nat → Int32} {P B S b : Nat} : b ∈ zL F P B S ↔ b < B ∧ S.testBit b = true := by
  unfold zL
  rw [List.mem_append, fSp_mem]
  constructor
  · rintro (h | h)
    · exact fBase_mem h
    · exact h.1
  · intro h
    by_cases c : b ∈ fBase F P (fBl S B)
    · exact Or.inl c
    · exact Or.inr ⟨h, c⟩
/-- the frame of some bars: firm, by the class's table -/
def zF (F : Nat → Nat → Int32) (P B S : Nat) (A : Nat → md_V) : Prop := (fBase F P (fBl S B)).length = fN' F P ∧ ∀ j, j < fN' F P → A j = fCol F P ((fBase F P (fBl S B)).getD j 0)
theorem zL_len {F : Nat → Nat → Int32} {P B S : Nat} {A : Nat → md_V} (h : zF F P B S A) : (zL F P B S).length = fN' F P + (fSp F P B S).length := by
  unfold zL
  rw [List.length_append, h.1]
theorem zL_lo {F : Nat → Nat → Int32} {P B S : Nat} {A : Nat → md_V} (h : zF F P B S A) {j : Nat} (hj : j < fN' F P) : (zL F P B S).getD j 0 = (fBase F P (fBl S B)).getD j 0 := by
  unfold zL
  rw [List.getD_eq_getElem?_getD, List.getD_eq_getElem?_getD, List.getElem?_append_left (by rw [h.1]; exact hj)]
theorem zL_hi {F : Nat → Nat → Int32} {P B S : Nat} {A : Nat → md_V} (h : zF F P B S A) {i : Nat} : (zL F P B S).getD (fN' F P + i) 0 = (fSp F P B S).getD i 0 := by
  unfold zL
  rw [List.getD_eq_getElem?_getD, List.getD_eq_getElem?_getD, List.getElem?_append_right (by rw [h.1]; omega), h.1, Nat.add_sub_cancel_left]
/-- a bar's column stands at its place -/
theorem zA_at {F : Nat → Nat → Int32} {P B S : Nat} {A : Nat → md_V} (h : zF F P B S A) {j : Nat} (hj : j < fN' F P + (fSp F P B S).length) {r : Nat} (hr : r < fN' F P) : zA F P B S A j r = fCol F P ((zL F P B S).getD j 0) r := by
  unfold zA
  by_cases l : j < fN' F P
  · rw [xA_lo l, zL_lo h l, ← h.2 j l]
    exact if_pos hr
  · obtain ⟨i, rfl⟩ : ∃ i, j = fN' F P + i := ⟨j - fN' F P, by omega⟩
    rw [xA_hi _ (by omega), zL_hi h]
    show xe (fN' F P) _ r + md_e (fN' F P + i) r = _
    unfold xe md_e
    rw [if_pos hr, if_neg (by omega), Int.add_zero]
/-- the columns of a set and of what it leaves out -/
noncomputable def zG (F : Nat → Nat → Int32) (P B S : Nat) (A : Nat → md_V) (xs : List Nat) (e : Nat → Bool) (col : md_V) : Nat → md_V := fun b => if b ∈ xs then md_e (fN' F P + xs.idxOf b) else if e b = true then xe (fN' F P) col else zA F P B S A ((zL F P B S).idxOf b)
theorem idx_at {l : List Nat} (hn : l.Nodup) {j : Nat} (hj : j < l.length) : l.idxOf (l.getD j 0) = j := by
  have hm := getD_mem (l := l) hj
  have h1 := List.idxOf_lt_length_of_mem hm
  refine getD_inj hn h1 hj ?_
  have q := List.getElem_idxOf h1
  rw [List.getD_eq_getElem?_getD, List.getElem?_eq_getElem h1, Option.getD_some]
  exact q
theorem idx_get {l : List Nat} {b : Nat} (hm : b ∈ l) : l.getD (l.idxOf b) 0 = b := by
  have h1 := List.idxOf_lt_length_of_mem hm
  rw [List.getD_eq_getElem?_getD, List.getElem?_eq_getElem h1, Option.getD_some]
  exact List.getElem_idxOf h1
theorem r_min {F : Nat → Nat → Int32} {P B S : Nat} {A : Nat → md_V} (h : zF F P B S A) {T : Nat} {xs : List Nat} (hx : xs.Nodup) (hxl : xs.length = (fSp F P B S).length) (hp : (fBl T B ++ xs).Perm (zL F P B S)) : ∃ s : Int, (s = 1 ∨ s = -1) ∧ ∀ (e : Nat → Bool) (col : md_V), dS F P B T e col = s * md_dt (List.range (fN' F P + (fSp F P B S).length)) (fun j => zG F P B S A xs e col ((zL F P B S).getD j 0)) (fN' F P + (fSp F P B S).length) := by
  obtain ⟨s, hs, hq⟩ := md_D_perm hp
  refine ⟨s, hs, fun e col => ?_⟩
  have q := hq (List.range (fN' F P + (fSp F P B S).length)) (zG F P B S A xs e col) []
  rw [List.nil_append, List.nil_append, List.map_append] at q
  have hd : ∀ b, b ∈ fBl T B → b ∉ xs := fun b hb hbx => by
    have nd : (fBl T B ++ xs).Nodup := hp.nodup_iff.mpr (zL_nd F P B S)
    rw [List.nodup_append] at nd
    exact nd.2.2 b hb b hbx rfl
  have ex : xs.map (zG F P B S A xs e col) = (List.range (fSp F P B S).length).map (fun i => md_e (fN' F P + i)) := by
    refine List.ext_getElem (by rw [List.length_map, List.length_map, List.length_range, hxl]) (fun i h1 h2 => ?_)
    rw [List.getElem_map, List.getElem_map, List.getElem_range]
    rw [List.length_map] at h1
    have hi := idx_at hx h1
    have hg : xs.getD i 0 = xs[i] := by rw [List.getD_eq_getElem?_getD, List.getElem?_eq_getElem h1, Option.getD_some]
    rw [hg] at hi
    unfold zG
    rw [if_pos (List.getElem_mem h1), hi]
  rw [ex, md_D_units] at q
  have e2 := md_D_on (R := List.range (fN' F P)) (zG F P B S A xs e col) (gC F P e col) (fBl T B) [] (fun b hb r hr => by
    have hr' := List.mem_range.mp hr
    have hbL : b ∈ zL F P B S := hp.mem_iff.mp (List.mem_append_left _ hb)
    unfold zG gC
    rw [if_neg (hd b hb)]
    by_cases ee : e b = true
    · rw [if_pos ee, if_pos ee]
      exact if_pos hr'
    · rw [if_neg ee, if_neg ee, zA_at h (by rw [← zL_len h]; exact List.idxOf_lt_length_of_mem hbL) hr', idx_get hbL])
  rw [List.nil_append, List.nil_append] at e2
  show md_D (List.range (fN' F P)) ((fBl T B).map (gC F P e col)) = _
  rw [← e2, q]
  congr 1
  rw [← zL_len h]
  exact (md_dt_map _ _ _).symm
theorem perm_del {F : Nat → Nat → Int32} {P B S : Nat} {U : Nat} {xs : List Nat} (hx : xs.Nodup) (hU : ∀ b, b ∈ xs ↔ U.testBit b = true) (hs : ∀ b, b ∈ xs → b < B ∧ S.testBit b = true) : (fBl (andn S U) B ++ xs).Perm (zL F P B S) := by
  refine (List.perm_ext_iff_of_nodup ?_ (zL_nd F P B S)).mpr (fun b => ?_)
  · rw [List.nodup_append]
    refine ⟨fBl_nd _ _, hx, fun a ha c hc e => ?_⟩
    have q := (andn_bit S U a).mp (fBl_mem.mp ha).2
    exact q.2 ((hU a).mp (e ▸ hc))
  · rw [List.mem_append, fBl_mem, zL_mem, andn_bit]
    constructor
    · rintro (q | q)
      · exact ⟨q.1, q.2.1⟩
      · exact hs b q
    · intro q
      by_cases c : b ∈ xs
      · exact Or.inr c
      · exact Or.inl ⟨q.1, q.2, fun t => c ((hU b).mpr t)⟩
/-- places: a bar's place in the list -/
def zP (F : Nat → Nat → Int32) (P B S : Nat) (p b : Nat) : Prop := p < (zL F P B S).length ∧ (zL F P B S).getD p 0 = b
theorem zP_ex {F : Nat → Nat → Int32} {P B S b : Nat} (hb : b < B) (hs : S.testBit b = true) : ∃ p, zP F P B S p b := by
  obtain ⟨j, h1, h2⟩ := mem_getD (zL_mem.mpr ⟨hb, hs⟩)
  exact ⟨j, h1, h2⟩
theorem zP_iff {F : Nat → Nat → Int32} {P B S p b j : Nat} (h : zP F P B S p b) (hj : j < (zL F P B S).length) : (zL F P B S).getD j 0 = b ↔ j = p := by
  constructor
  · intro e
    exact getD_inj (zL_nd F P B S) hj h.1 (e.trans h.2.symm)
  · rintro rfl
    exact h.2
theorem zG_none {F : Nat → Nat → Int32} {P B S : Nat} {A : Nat → md_V} {xs : List Nat} {e : Nat → Bool} {col : md_V} {j : Nat} (hj : j < (zL F P B S).length) (h1 : (zL F P B S).getD j 0 ∉ xs) (h2 : ¬ e ((zL F P B S).getD j 0) = true) : zG F P B S A xs e col ((zL F P B S).getD j 0) = zA F P B S A j := by
  unfold zG
  rw [if_neg h1, if_neg h2, idx_at (zL_nd F P B S) hj]
noncomputable def zD (F : Nat → Nat → Int32) (P B S : Nat) (A : Nat → md_V) : Int := md_dt (List.range (fN' F P + (fSp F P B S).length)) A (fN' F P + (fSp F P B S).length)
theorem zD_congr {F : Nat → Nat → Int32} {P B S : Nat} {A A0 C : Nat → md_V} (h : zF F P B S A0) (q : ∀ j, j < (zL F P B S).length → A j = C j) : zD F P B S A = zD F P B S C := md_dt_congr (fun i hi => q i (by rw [zL_len h]; exact hi))
/-- nothing left out -/
theorem r_min0 {F : Nat → Nat → Int32} {P B S : Nat} (hS : S < 2 ^ B) {A : Nat → md_V} (h : zF F P B S A) (hm : (fSp F P B S).length = 0) : ∃ s : Int, (s = 1 ∨ s = -1) ∧ dN F P B S = s * zD F P B S (zA F P B S A) ∧ ∀ c pc col, zP F P B S pc c → dS F P B S (eB c) col = s * zD F P B S (md_up (zA F P B S A) pc (xe (fN' F P) col)) := by
  have e0 : andn S 0 = S := bit_ext (fun j => by rw [andn_bit]; simp)
  have hp := perm_del (F := F) (P := P) (B := B) (S := S) (U := 0) (xs := []) List.nodup_nil (fun b => by simp) (fun b hb => by cases hb)
  rw [e0] at hp
  obtain ⟨s, hs, q⟩ := r_min h (T := S) (xs := []) List.nodup_nil hm.symm hp
  refine ⟨s, hs, ?_, fun c pc col hc => ?_⟩
  · unfold dN
    rw [q eN]
    congr 1
    exact zD_congr h (fun j hj => zG_none hj (by simp) (by unfold eN; decide))
  · rw [q (eB c) col]
    congr 1
    refine zD_congr h (fun j hj => ?_)
    by_cases e : j = pc
    · rw [e, md_up_at, hc.2]
      unfold zG eB
      rw [if_neg (by simp), if_pos (by simp)]
    · rw [md_up_ne _ _ e]
      refine zG_none hj (by simp) (fun z => e ?_)
      unfold eB at z
      rw [decide_eq_true_iff] at z
      exact (zP_iff hc hj).mp z
/-- one bar left out -/
theorem r_min1 {F : Nat → Nat → Int32} {P B S : Nat} {A : Nat → md_V} (h : zF F P B S A) (hm : (fSp F P B S).length = 1) {a pa : Nat} (ha : zP F P B S pa a) : ∃ s : Int, (s = 1 ∨ s = -1) ∧ dN F P B (andn S (2 ^ a)) = s * zD F P B S (md_up (zA F P B S A) pa (md_e (fN' F P))) ∧ ∀ c pc col, zP F P B S pc c → pc ≠ pa → dS F P B (andn S (2 ^ a)) (eB c) col = s * zD F P B S (md_up (md_up (zA F P B S A) pa (md_e (fN' F P))) pc (xe (fN' F P) col)) := by
  have haL := zL_mem.mp (show a ∈ zL F P B S by rw [← ha.2]; exact getD_mem ha.1)
  have hp := perm_del (F := F) (P := P) (B := B) (S := S) (U := 2 ^ a) (xs := [a]) (by simp) (fun b => by rw [tb_pow]; simp) (fun b hb => by rw [List.mem_singleton.mp hb]; exact haL)
  obtain ⟨s, hs, q⟩ := r_min h (T := andn S (2 ^ a)) (xs := [a]) (by simp) hm.symm hp
  have at_a : ∀ e col, zG F P B S A [a] e col a = md_e (fN' F P) := fun e col => by
    unfold zG
    rw [if_pos (by simp), List.idxOf_cons_self, Nat.add_zero]
  refine ⟨s, hs, ?_, fun c pc col hc hne => ?_⟩
  · unfold dN
    rw [q eN]
    congr 1
    refine zD_congr h (fun j hj => ?_)
    by_cases e : j = pa
    · rw [e, md_up_at, ha.2, at_a]
    · rw [md_up_ne _ _ e]
      exact zG_none hj (fun z => e ((zP_iff ha hj).mp (List.mem_singleton.mp z))) (by unfold eN; decide)
  · rw [q (eB c) col]
    congr 1
    refine zD_congr h (fun j hj => ?_)
    by_cases e : j = pc
    · rw [e, md_up_at, hc.2]
      have hca : ¬ c = a := fun z => hne ((zP_iff ha hc.1).mp (hc.2.trans z))
      unfold zG eB
      rw [if_neg (fun z => hca (List.mem_singleton.mp z)), if_pos (by simp)]
    · rw [md_up_ne _ _ e]
      by_cases e2 : j = pa
      · rw [e2, md_up_at, ha.2, at_a]
      · rw [md_up_ne _ _ e2]
        refine zG_none hj (fun z => e2 ((zP_iff ha hj).mp (List.mem_singleton.mp z))) (fun z => e ?_)
        unfold eB at z
        rw [decide_eq_true_iff] at z
        exact (zP_iff hc hj).mp z
/-- two bars left out -/
theorem r_min2 {F : Nat → Nat → Int32} {P B S : Nat} {A : Nat → md_V} (h : zF F P B S A) (hm : (fSp F P B S).length = 2) {a b pa pb : Nat} (ha : zP F P B S pa a) (hb : zP F P B S pb b) (hab : pa ≠ pb) : ∃ s : Int, (s = 1 ∨ s = -1) ∧ dN F P B (andn S (2 ^ a ||| 2 ^ b)) = s * zD F P B S (md_up (md_up (zA F P B S A) pa (md_e (fN' F P))) pb (md_e (fN' F P + 1))) ∧ ∀ c pc col, zP F P B S pc c → pc ≠ pa → pc ≠ pb → dS F P B (andn S (2 ^ a ||| 2 ^ b)) (eB c) col = s * zD F P B S (md_up (md_up (md_up (zA F P B S A) pa (md_e (fN' F P))) pb (md_e (fN' F P + 1))) pc (xe (fN' F P) col)) := by
  have haL := zL_mem.mp (show a ∈ zL F P B S by rw [← ha.2]; exact getD_mem ha.1)
  have hbL := zL_mem.mp (show b ∈ zL F P B S by rw [← hb.2]; exact getD_mem hb.1)
  have nab : a ≠ b := fun z => hab ((zP_iff hb ha.1).mp (ha.2.trans z))
  have hp := perm_del (F := F) (P := P) (B := B) (S := S) (U := 2 ^ a ||| 2 ^ b) (xs := [a, b]) (by simp [nab]) (fun x => by rw [tb_two]; simp) (fun x hx => by
    rcases List.mem_cons.mp hx with z | z
    · rw [z]; exact haL
    · rw [List.mem_singleton.mp z]; exact hbL)
  obtain ⟨s, hs, q⟩ := r_min h (T := andn S (2 ^ a ||| 2 ^ b)) (xs := [a, b]) (by simp [nab]) hm.symm hp
  have at_a : ∀ e col, zG F P B S A [a, b] e col a = md_e (fN' F P) := fun e col => by
    unfold zG
    rw [if_pos (by simp), List.idxOf_cons_self, Nat.add_zero]
  have at_b : ∀ e col, zG F P B S A [a, b] e col b = md_e (fN' F P + 1) := fun e col => by
    unfold zG
    have : [a, b].idxOf b = 1 := by
      rw [List.idxOf_cons, show (a == b) = false from beq_false_of_ne nab]
      simp
    rw [if_pos (by simp), this]
  have mem2 : ∀ {j}, j < (zL F P B S).length → (zL F P B S).getD j 0 ∈ [a, b] → j = pa ∨ j = pb := fun hj z => by
    rcases List.mem_cons.mp z with z | z
    · exact Or.inl ((zP_iff ha hj).mp z)
    · exact Or.inr ((zP_iff hb hj).mp (List.mem_singleton.mp z))
  refine ⟨s, hs, ?_, fun c pc col hc hca hcb => ?_⟩
  · unfold dN
    rw [q eN]
    congr 1
    refine zD_congr h (fun j hj => ?_)
    by_cases e : j = pb
    · rw [e, md_up_at, hb.2, at_b]
    · rw [md_up_ne _ _ e]
      by_cases e2 : j = pa
      · rw [e2, md_up_at, ha.2, at_a]
      · rw [md_up_ne _ _ e2]
        exact zG_none hj (fun z => (mem2 hj z).elim e2 e) (by unfold eN; decide)
  · rw [q (eB c) col]
    congr 1
    refine zD_congr h (fun j hj => ?_)
    by_cases e : j = pc
    · rw [e, md_up_at, hc.2]
      unfold zG eB
      rw [if_neg (fun z => (mem2 hc.1 (by rw [hc.2]; exact z)).elim hca hcb), if_pos (by simp)]
    · rw [md_up_ne _ _ e]
      by_cases e3 : j = pb
      · rw [e3, md_up_at, hb.2, at_b]
      · rw [md_up_ne _ _ e3]
        by_cases e2 : j = pa
        · rw [e2, md_up_at, ha.2, at_a]
        · rw [md_up_ne _ _ e2]
          refine zG_none hj (fun z => (mem2 hj z).elim e2 e3) (fun z => e ?_)
          unfold eB at z
          rw [decide_eq_true_iff] at z
          exact (zP_iff hc hj).mp z
