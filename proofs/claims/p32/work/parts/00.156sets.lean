/-! the sets that are summed: some less one or two bars -/
theorem pcK_sub {S T : Nat} (h : andn T S = 0) : ∀ k, pcK S k = pcK T k + pcK (andn S T) k
  | 0 => rfl
  | k + 1 => by
    have hb : T.testBit k = true → S.testBit k = true := fun ht => Classical.byContradiction fun hs => by
      have : (andn T S).testBit k = true := (andn_bit T S k).mpr ⟨ht, hs⟩
      rw [h] at this
      simp at this
    have ha := andn_bit S T k
    rw [pcK_succ, pcK_succ, pcK_succ, pcK_sub h k]
    by_cases ht : T.testBit k = true
    · rw [if_pos ht, if_pos (hb ht), if_neg (fun q => (ha.mp q).2 ht)]
      omega
    · rw [if_neg ht]
      by_cases hs : S.testBit k = true
      · rw [if_pos hs, if_pos (ha.mpr ⟨hs, ht⟩)]
        omega
      · rw [if_neg hs, if_neg (fun q => hs (ha.mp q).1)]
        omega
theorem sub_iff {S T : Nat} : andn T S = 0 ↔ ∀ j, T.testBit j = true → S.testBit j = true := by
  constructor
  · intro h j hj
    refine Classical.byContradiction fun hs => ?_
    have : (andn T S).testBit j = true := (andn_bit T S j).mpr ⟨hj, hs⟩
    rw [h] at this
    simp at this
  · intro h
    refine bit_ext (fun j => ⟨fun hj => ?_, fun hj => by simp at hj⟩)
    have q := (andn_bit T S j).mp hj
    exact absurd (h j q.1) q.2
theorem andn_andn {S T : Nat} (h : andn T S = 0) : andn S (andn S T) = T := bit_ext (fun j => by
  rw [andn_bit, andn_bit]
  have q := sub_iff.mp h j
  constructor
  · rintro ⟨h1, h2⟩
    exact Classical.byContradiction fun h3 => h2 ⟨h1, h3⟩
  · intro h1
    exact ⟨q h1, fun h2 => h2.2 h1⟩)
theorem andn_sub (S U : Nat) : andn (andn S U) S = 0 := sub_iff.mpr (fun j hj => ((andn_bit S U j).mp hj).1)
theorem pc0_fin : ∀ U : Fin 2048, pc U.val = 0 → U.val = 0 := by decide +kernel
theorem tb_pow (a j : Nat) : (2 ^ a).testBit j = true ↔ j = a := by
  rw [Nat.testBit_two_pow, decide_eq_true_iff]
  exact ⟨fun h => h.symm, fun h => h.symm⟩
theorem tb_two (a c j : Nat) : (2 ^ a ||| 2 ^ c).testBit j = true ↔ j = a ∨ j = c := by
  rw [Nat.testBit_or, Bool.or_eq_true, tb_pow, tb_pow]
/-- the sets with as many bars as free directions, by what they leave out -/
theorem bC_0 {F : Nat → Nat → Int32} {P B S T : Nat} (hB : B ≤ 11) (hS : S < 2 ^ B) (hN : pc S = fN' F P) : bC F P S T = true ↔ T = S := by
  rw [bC_iff]
  constructor
  · rintro ⟨h1, h2⟩
    have q := pcK_sub h1 12
    have e : pc (andn S T) = 0 := by
      have q' : pc S = pc T + pc (andn S T) := q
      omega
    have z : andn S T = 0 := pc0_fin ⟨_, p2048 hB (andn_lt hS)⟩ e
    have a := andn_andn h1
    rw [z] at a
    rw [← a]
    exact bit_ext (fun j => by
      rw [andn_bit]
      simp)
  · rintro rfl
    exact ⟨sub_iff.mpr (fun j h => h), hN⟩
theorem bC_1 {F : Nat → Nat → Int32} {P B S T : Nat} (hB : B ≤ 11) (hS : S < 2 ^ B) (hN : pc S = fN' F P + 1) : bC F P S T = true ↔ ∃ a, a < B ∧ S.testBit a = true ∧ T = andn S (2 ^ a) := by
  rw [bC_iff]
  constructor
  · rintro ⟨h1, h2⟩
    have q : pc S = pc T + pc (andn S T) := pcK_sub h1 12
    obtain ⟨a, ha⟩ := one_fin ⟨_, p2048 hB (andn_lt hS)⟩ (show pc (andn S T) = 1 by omega)
    have ha' : andn S T = 2 ^ a.val := ha
    have e := andn_andn h1
    have ts : S.testBit a.val = true := ((andn_bit S T a.val).mp (by rw [ha', tb_pow])).1
    have aB : a.val < B := pow_ltB (by rw [← ha']; exact andn_lt hS)
    exact ⟨a.val, aB, ts, by rw [← ha', e]⟩
  · rintro ⟨a, aB, ts, rfl⟩
    have h1 := andn_sub S (2 ^ a)
    have q : pc S = pc (andn S (2 ^ a)) + pc (andn S (andn S (2 ^ a))) := pcK_sub h1 12
    have e : andn S (andn S (2 ^ a)) = 2 ^ a := andn_andn (sub_iff.mpr (fun j hj => by
      rw [(tb_pow a j).mp hj]
      exact ts))
    rw [e, pc_one ⟨a, by omega⟩] at q
    exact ⟨h1, by omega⟩
theorem bC_2 {F : Nat → Nat → Int32} {P B S T : Nat} (hB : B ≤ 11) (hS : S < 2 ^ B) (hN : pc S = fN' F P + 2) : bC F P S T = true ↔ ∃ a c, a < c ∧ c < B ∧ S.testBit a = true ∧ S.testBit c = true ∧ T = andn S (2 ^ a ||| 2 ^ c) := by
  rw [bC_iff]
  constructor
  · rintro ⟨h1, h2⟩
    have q : pc S = pc T + pc (andn S T) := pcK_sub h1 12
    obtain ⟨a, c, hac, ha⟩ := two_fin ⟨_, p2048 hB (andn_lt hS)⟩ (show pc (andn S T) = 2 by omega)
    have ha' : andn S T = 2 ^ a.val ||| 2 ^ c.val := ha
    have e := andn_andn h1
    have ts : S.testBit a.val = true := ((andn_bit S T a.val).mp (by rw [ha', tb_two]; exact Or.inl rfl)).1
    have tc : S.testBit c.val = true := ((andn_bit S T c.val).mp (by rw [ha', tb_two]; exact Or.inr rfl)).1
    have cB := (or_ltB (a := a.val) (c := c.val) (by rw [← ha']; exact andn_lt hS)).2
    exact ⟨a.val, c.val, hac, cB, ts, tc, by rw [← ha', e]⟩
  · rintro ⟨a, c, hac, cB, ts, tc, rfl⟩
    have h1 := andn_sub S (2 ^ a ||| 2 ^ c)
    have q : pc S = pc (andn S (2 ^ a ||| 2 ^ c)) + pc (andn S (andn S (2 ^ a ||| 2 ^ c))) := pcK_sub h1 12
    have e : andn S (andn S (2 ^ a ||| 2 ^ c)) = 2 ^ a ||| 2 ^ c := andn_andn (sub_iff.mpr (fun j hj => by
      rcases (tb_two a c j).mp hj with h | h <;> rw [h] <;> assumption))
    rw [e, pc_two ⟨a, by omega⟩ ⟨c, by omega⟩ hac] at q
    exact ⟨h1, by omega⟩
/-- a sum over sets is a sum over what they leave out -/
theorem sum_sets {p : Nat → Bool} {M : Nat} {l : List Nat} (hl : l.Nodup) (h : ∀ T, T ∈ l ↔ T < M ∧ p T = true) (f : Nat → Int) : sumK (fun T => if p T = true then f T else 0) M = sumL f l := by
  rw [sumK_L, sumL_filter]
  refine sumL_perm ((List.perm_ext_iff_of_nodup (List.Pairwise.filter _ List.nodup_range) hl).mpr (fun T => ?_))
  rw [List.mem_filter, List.mem_range, h T]
theorem sum_0 {F : Nat → Nat → Int32} {P B S : Nat} (hB : B ≤ 11) (hS : S < 2 ^ B) (hN : pc S = fN' F P) (f : Nat → Int) : sumK (fun T => if bC F P S T = true then f T else 0) (2 ^ B) = f S := by
  rw [sum_sets (l := [S]) (by simp) (fun T => ?_) f]
  · show f S + 0 = f S
    omega
  · rw [List.mem_singleton, bC_0 hB hS hN]
    exact ⟨fun h => ⟨by rw [h]; exact hS, h⟩, fun h => h.2⟩
theorem del_inj {S U V : Nat} (hU : ∀ j, U.testBit j = true → S.testBit j = true) (hV : ∀ j, V.testBit j = true → S.testBit j = true) (h : andn S U = andn S V) : U = V := by
  have e1 := andn_andn (S := S) (T := U) (sub_iff.mpr hU)
  have e2 := andn_andn (S := S) (T := V) (sub_iff.mpr hV)
  rw [← e1, ← e2, h]
theorem sum_1 {F : Nat → Nat → Int32} {P B S : Nat} (hB : B ≤ 11) (hS : S < 2 ^ B) (hN : pc S = fN' F P + 1) (f : Nat → Int) : sumK (fun T => if bC F P S T = true then f T else 0) (2 ^ B) = sumK (fun a => if S.testBit a = true then f (andn S (2 ^ a)) else 0) B := by
  rw [sum_sets (l := ((List.range B).filter (fun a => S.testBit a)).map (fun a => andn S (2 ^ a))) ?_ (fun T => ?_) f, sumL_map, sumK_L, sumL_filter]
  · refine List.Pairwise.map _ (R := fun i j => S.testBit i = true ∧ S.testBit j = true ∧ i ≠ j) (fun i j hij e => ?_) ?_
    · exact hij.2.2 (pow_inj (del_inj (fun k hk => by rw [(tb_pow i k).mp hk]; exact hij.1) (fun k hk => by rw [(tb_pow j k).mp hk]; exact hij.2.1) e))
    · exact List.Pairwise.imp_of_mem (fun {a b} ha hb hab => ⟨(List.mem_filter.mp ha).2, (List.mem_filter.mp hb).2, hab⟩) (List.Pairwise.filter _ (List.nodup_range (n := B)))
  · rw [bC_1 hB hS hN, List.mem_map]
    constructor
    · rintro ⟨a, ha, rfl⟩
      have q := List.mem_filter.mp ha
      exact ⟨andn_lt hS, a, List.mem_range.mp q.1, q.2, rfl⟩
    · rintro ⟨-, a, aB, ts, rfl⟩
      exact ⟨a, List.mem_filter.mpr ⟨List.mem_range.mpr aB, ts⟩, rfl⟩
def rgt (S B a : Nat) : List Nat := (List.range B).filter (fun b => decide (a < b) && S.testBit b)
theorem rgt_mem {S B a b : Nat} : b ∈ rgt S B a ↔ b < B ∧ a < b ∧ S.testBit b = true := by
  unfold rgt
  rw [List.mem_filter, List.mem_range, Bool.and_eq_true, decide_eq_true_iff]
theorem sum_2 {F : Nat → Nat → Int32} {P B S : Nat} (hB : B ≤ 11) (hS : S < 2 ^ B) (hN : pc S = fN' F P + 2) (f : Nat → Int) : sumK (fun T => if bC F P S T = true then f T else 0) (2 ^ B) = sumK (fun a => sumK (fun b => if a < b then (if S.testBit a = true ∧ S.testBit b = true then f (andn S (2 ^ a ||| 2 ^ b)) else 0) else 0) B) B := by
  rw [sum_sets (l := ((List.range B).filter (fun a => S.testBit a)).flatMap (fun a => (rgt S B a).map (fun b => andn S (2 ^ a ||| 2 ^ b)))) ?_ (fun T => ?_) f, sumL_flat, sumK_L, ← sumL_filter]
  · refine sumL_congr _ (fun a _ => ?_)
    rw [sumL_map, sumK_L]
    by_cases ha : S.testBit a = true
    · rw [if_pos ha]
      unfold rgt
      rw [← sumL_filter]
      refine sumL_congr _ (fun b _ => ?_)
      by_cases hab : a < b
      · rw [if_pos hab]
        by_cases hb : S.testBit b = true
        · rw [if_pos (show (decide (a < b) && S.testBit b) = true by rw [hb, decide_eq_true hab]; rfl), if_pos ⟨ha, hb⟩]
        · rw [if_neg (fun q => hb (by rw [Bool.and_eq_true] at q; exact q.2)), if_neg (fun q => hb q.2)]
      · rw [if_neg hab, if_neg (fun q => hab (by rw [Bool.and_eq_true, decide_eq_true_iff] at q; exact q.1))]
    · rw [if_neg ha, ← sumK_L]
      exact (sumK_zero B (fun b _ => by
        by_cases hab : a < b
        · rw [if_pos hab, if_neg (fun q => ha q.1)]
        · rw [if_neg hab])).symm
  · show List.Pairwise _ _
    rw [List.pairwise_flatMap]
    refine ⟨fun a ha => ?_, ?_⟩
    · have sa := (List.mem_filter.mp ha).2
      refine List.Pairwise.map _ (R := fun i j => (a < i ∧ S.testBit i = true) ∧ (a < j ∧ S.testBit j = true) ∧ i ≠ j) (fun i j hij e => ?_) ?_
      · refine hij.2.2 (or_inj hij.1.1 hij.2.1.1 (del_inj (fun k hk => ?_) (fun k hk => ?_) e)).2
        · rcases (tb_two a i k).mp hk with h | h <;> rw [h]
          · exact sa
          · exact hij.1.2
        · rcases (tb_two a j k).mp hk with h | h <;> rw [h]
          · exact sa
          · exact hij.2.1.2
      · exact List.Pairwise.imp_of_mem (fun {x y} hx hy hxy => ⟨(rgt_mem.mp hx).2, (rgt_mem.mp hy).2, hxy⟩) (List.Pairwise.filter _ (List.nodup_range (n := B)))
    · refine List.Pairwise.imp_of_mem (fun {a a'} ha ha' hne x hx y hy e => ?_) (List.Pairwise.filter _ (List.nodup_range (n := B)))
      have sa := (List.mem_filter.mp ha).2
      have sa' := (List.mem_filter.mp ha').2
      obtain ⟨b, hb, rfl⟩ := List.mem_map.mp hx
      obtain ⟨b', hb', rfl⟩ := List.mem_map.mp hy
      have q := (rgt_mem.mp hb).2
      have q' := (rgt_mem.mp hb').2
      refine hne (or_inj q.1 q'.1 (del_inj (fun k hk => ?_) (fun k hk => ?_) e)).1
      · rcases (tb_two a b k).mp hk with h | h <;> rw [h]
        · exact sa
        · exact q.2
      · rcases (tb_two a' b' k).mp hk with h | h <;> rw [h]
        · exact sa'
        · exact q'.2
  · rw [bC_2 hB hS hN, List.mem_flatMap]
    constructor
    · rintro ⟨a, ha, hT⟩
      obtain ⟨b, hb, rfl⟩ := List.mem_map.mp hT
      have qa := List.mem_filter.mp ha
      have qb := rgt_mem.mp hb
      exact ⟨andn_lt hS, a, b, qb.2.1, qb.1, qa.2, qb.2.2, rfl⟩
    · rintro ⟨-, a, b, hab, bB, ta, tb, rfl⟩
      exact ⟨a, List.mem_filter.mpr ⟨List.mem_range.mpr (by omega), ta⟩, List.mem_map.mpr ⟨b, rgt_mem.mpr ⟨bB, hab, tb⟩, rfl⟩⟩
