/-! joints: both sides go the same way -/
def jU (F : Nat → Nat → Int32) (O B K p : Nat) : Nat := bset (jA F (andn O K) p) B
def jcX (F : Nat → Nat → Int32) (σ : hv_St) (K : Nat) (l : List Nat) : Prop := rX F σ ∧ σ.1 17 2 = nI l.length ∧ σ.1 17 3 = nI K ∧ ∀ i, i < l.length → σ.1 18 i = nI (l.getD i 0)
def jcM (F : Nat → Nat → Int32) (σ : hv_St) (K : Nat) (l : List Nat) : Prop := rM F σ ∧ σ.1 0 34 = nI l.length ∧ σ.1 0 32 = nI K ∧ ∀ i, i < l.length → σ.1 22 i = nI (l.getD i 0)
def jV (F : Nat → Nat → Int32) (P B O K : Nat) (l : List Nat) : Prop := K < 2 ^ B ∧ l.Nodup ∧ ∀ p, p ∈ l → p < P ∧ jU F O B K p = 0
theorem jD_ne0 {F : Nat → Nat → Int32} {p U : Nat} (h : jD F p U) : U ≠ 0 := by
  intro z
  rcases h with ⟨a, h1, -⟩ | ⟨a, c, -, h1, -⟩
  · have := Nat.two_pow_pos a
    omega
  · have q := congrArg (fun x : Nat => x.testBit a) h1
    rw [z] at q
    simp only [Nat.testBit_or, Nat.testBit_two_pow] at q
    simp at q
theorem jV_new {F : Nat → Nat → Int32} {P B O K : Nat} {l : List Nat} (h : jV F P B O K l) {p : Nat} (hp : p < P) (hD : jD F p (jU F O B K p)) : p ∉ l ∧ l.length < P ∧ jV F P B O (K ||| jU F O B K p) (l ++ [p]) := by
  obtain ⟨h1, h2, h3⟩ := h
  have hpl : p ∉ l := fun hm => jD_ne0 hD (h3 p hm).2
  have hc : (p :: l).Nodup := List.nodup_cons.mpr ⟨hpl, h2⟩
  have q := pig P (p :: l) hc (fun x hx => by
    rcases List.mem_cons.mp hx with rfl | hx
    · exact hp
    · exact (h3 x hx).1)
  have sub : ∀ q j, (jU F O B (K ||| jU F O B K p) q).testBit j = true → (jU F O B K q).testBit j = true ∧ ¬ (jU F O B K p).testBit j = true := fun q j hj => by
    unfold jU at hj ⊢
    rw [bset_bit] at hj
    rw [bset_bit]
    unfold jA at hj ⊢
    rw [Bool.and_eq_true, andn_bit, Nat.testBit_or, Bool.or_eq_true] at hj
    rw [Bool.and_eq_true, andn_bit]
    exact ⟨⟨hj.1, ⟨hj.2.1.1, fun z => hj.2.1.2 (Or.inl z)⟩, hj.2.2⟩, fun z => hj.2.1.2 (Or.inr z)⟩
  refine ⟨hpl, ?_, Nat.or_lt_two_pow h1 (bset_lt _ _), ?_, fun q hq => ?_⟩
  · simp at q
    omega
  · rw [List.nodup_append]
    refine ⟨h2, by simp, fun a ha b hb e => ?_⟩
    rw [List.mem_singleton.mp hb] at e
    exact hpl (e ▸ ha)
  · have hqP : q < P := by
      rcases List.mem_append.mp hq with hq | hq
      · exact (h3 q hq).1
      · rw [List.mem_singleton.mp hq]; exact hp
    refine ⟨hqP, bit_ext (fun j => ⟨fun hj => ?_, fun hj => by simp at hj⟩)⟩
    have s := sub q j hj
    rcases List.mem_append.mp hq with hq | hq
    · rw [(h3 q hq).2] at s
      exact s.1
    · rw [List.mem_singleton.mp hq] at s
      exact absurd s.1 s.2
theorem x4_doNext {n : Nat} (hn : 12 < n) {F : Nat → Nat → Int32} {P B O D W : Nat} (hi : hI F P B O D W) {σ : hv_St} {K : Nat} {l : List Nat} (hc : jcX F σ K l) (hV : jV F P B O K l) : ∀ (d k fuel : Nat), k + d = P → d < fuel → (∃ p, k ≤ p ∧ p < P ∧ jD F p (jU F O B K p) ∧ (∀ q, k ≤ q → q < p → ¬ jD F q (jU F O B K q)) ∧ ∃ σ', kX4_doNext_2 n fuel σ (nI k) = some (1, σ') ∧ jcX F σ' (K ||| jU F O B K p) (l ++ [p])) ∨ ((∀ q, k ≤ q → q < P → ¬ jD F q (jU F O B K q)) ∧ kX4_doNext_2 n fuel σ (nI k) = some (0, σ)) := by
  have hP := hi.1.2
  have hB := hi.2.1.2
  obtain ⟨hx, c1, c2, c3⟩ := hc
  have pX : σ.1 1 0 = nI P := hx.1.1.trans hi.1.1
  intro d
  induction d with
  | zero =>
    intro k fuel hk hf
    obtain ⟨fuel, rfl⟩ : ∃ q, fuel = q + 1 := ⟨fuel - 1, by omega⟩
    refine Or.inr ⟨fun q h1 h2 => by omega, ?_⟩
    show kX4_doNext_2_b n _ _ _ = _
    unfold kX4_doNext_2_b
    rw [pX, if_pos (nI_le (by omega) (by omega))]
  | succ d ih =>
    intro k fuel hk hf
    obtain ⟨fuel, rfl⟩ : ∃ q, fuel = q + 1 := ⟨fuel - 1, by omega⟩
    have dt := x4_determines (n := n) hn hi hx (show k < 6 by omega) (U := jU F O B K k) (bset_lt _ _)
    have eb : mX3_barsAt n σ (nI k) = some (nI (bset (jA F O k) B), σ) := x3_barsAt (n := n) hi hx (p := k) (by omega) B 0 n (by omega) (by omega)
    have eu : nI (bset (jA F O k) B) &&& (nI K ^^^ (-1)) = nI (jU F O B K k) := by rw [nI_andn, bset_andn]; rfl
    by_cases h : jD F k (jU F O B K k)
    · obtain ⟨n1, n2, n3⟩ := jV_new hV (show k < P by omega) h
      refine Or.inl ⟨k, Nat.le_refl _, by omega, h, fun q h1 h2 => by omega, hv_sI (hv_sI (hv_sI σ 18 l.length (nI k)) 17 2 (nI (l.length + 1))) 17 3 (nI (K ||| jU F O B K k)), ?_, rX_1 hx (fun q hq => by rw [hv_sI_ne _ _ _ (by omega), hv_sI_ne _ _ _ (by omega), hv_sI_ne _ _ _ (by omega)]), ?_, ?_, fun i hi' => ?_⟩
      · show kX4_doNext_2_b n _ _ _ = _
        unfold kX4_doNext_2_b
        rw [pX, if_neg (nI_ge (by omega) (by omega)), eb, hv_b2_e, c2, eu, hv_let_e, dt.1 h, hv_b2_e, if_neg (by decide), c1, if_neg (show ¬ (6 : Int32) ≤ nI l.length from nI_ge (b := 6) (by omega) (by decide)), hv_if_t (hv_ok_nI (show l.length < 6 by omega) (by decide)), nI_clamp (by omega), hv_let_e, hv_let_e, hv_let_e, hv_sI_ne _ _ _ (show 17 ≠ 18 by decide), c1, nI_1, hv_sI_rd, if_neg (show ¬ (3 : Nat) = 2 by decide), hv_sI_ne _ _ _ (show 17 ≠ 18 by decide), c2, nI_or]
      · rw [hv_sI_rd, if_neg (by decide), hv_sI_rd, if_pos rfl, List.length_append]
        rfl
      · rw [hv_sI_rd, if_pos rfl]
      · rw [List.length_append, List.length_singleton] at hi'
        rw [hv_sI_ne _ _ _ (by decide), hv_sI_ne _ _ _ (by decide), hv_sI_rd]
        by_cases e : i = l.length
        · rw [if_pos e, e, getD_app_at]
        · rw [if_neg e, getD_app_lt (by omega)]
          exact c3 i (by omega)
    · have e : kX4_doNext_2 n (fuel + 1) σ (nI k) = kX4_doNext_2 n fuel σ (nI (k + 1)) := by
        show kX4_doNext_2_b n _ _ _ = _
        unfold kX4_doNext_2_b kX4_doNext_79
        rw [pX, if_neg (nI_ge (by omega) (by omega)), eb, hv_b2_e, c2, eu, hv_let_e, dt.2 h, hv_b2_e, if_pos rfl, nI_1]
      rw [e]
      rcases ih (k + 1) fuel (by omega) (by omega) with ⟨p, p1, p2, p3, p4, p5⟩ | ⟨p1, p2⟩
      · refine Or.inl ⟨p, by omega, p2, p3, fun q h1 h2 => ?_, p5⟩
        by_cases eq : q = k
        · rw [eq]; exact h
        · exact p4 q (by omega) h2
      · refine Or.inr ⟨fun q h1 h2 => ?_, p2⟩
        by_cases eq : q = k
        · rw [eq]; exact h
        · exact p1 q (by omega) h2
def jAll (all : Nat) (l : List Nat) : Prop := all < 64 ∧ ∀ j, all.testBit j = true ↔ j ∈ l
theorem r8_jn {n : Nat} (hn : 12 < n) {F : Nat → Nat → Int32} {P B O D W : Nat} (hi : hI F P B O D W) {σ : hv_St} {K all : Nat} {l : List Nat} (hc : jcM F σ K l) (hV : jV F P B O K l) (ha : jAll all l) : ∀ (d k fuel : Nat), k + d = P → d < fuel → (∀ p, k ≤ p → p < P → jD F p (jU F O B K p) → (∀ q, k ≤ q → q < p → ¬ jD F q (jU F O B K q)) → ∃ fuel' σ', fuel ≤ fuel' + (p - k) + 1 ∧ kX8_laysJoints_14 n fuel σ (nI all) (nI k) = kX8_laysJoints_14 n fuel' σ' (nI (all ||| 2 ^ p)) (nI 0) ∧ jcM F σ' (K ||| jU F O B K p) (l ++ [p]) ∧ fr (fun c => c = 0 ∨ c = 22) (fun _ => False) σ σ' ∧ ∀ i, i ≠ 32 → i ≠ 34 → σ'.1 0 i = σ.1 0 i) ∧ ((∀ q, k ≤ q → q < P → ¬ jD F q (jU F O B K q)) → kX8_laysJoints_14 n fuel σ (nI all) (nI k) = some σ) := by
  have hP := hi.1.2
  have hB := hi.2.1.2
  obtain ⟨hm, c1, c2, c3⟩ := hc
  have pM : σ.1 0 1 = nI P := hm.1.1.trans hi.1.1
  have ha64 := ha.1
  intro d
  induction d with
  | zero =>
    intro k fuel hk hf
    obtain ⟨fuel, rfl⟩ : ∃ q, fuel = q + 1 := ⟨fuel - 1, by omega⟩
    refine ⟨fun p h1 h2 => by omega, fun _ => ?_⟩
    show kX8_laysJoints_14_b n _ _ _ _ = _
    unfold kX8_laysJoints_14_b
    rw [pM, if_pos (nI_le (by omega) (by omega))]
  | succ d ih =>
    intro k fuel hk hf
    obtain ⟨fuel, rfl⟩ : ∃ q, fuel = q + 1 := ⟨fuel - 1, by omega⟩
    have dt := r8_toldAt (n := n) hn hi hm (p := k) (by omega) c2
    have hb := fB_iff (s := all) (k := k) (by omega) (by omega)
    have hjn := ih (k + 1) fuel (by omega) (by omega)
    have skip : ¬ jD F k (jU F O B K k) → kX8_laysJoints_14 n (fuel + 1) σ (nI all) (nI k) = kX8_laysJoints_14 n fuel σ (nI all) (nI (k + 1)) := fun h => by
      show kX8_laysJoints_14_b n _ _ _ _ = _
      unfold kX8_laysJoints_14_b kX8_laysJoints_39
      rw [pM, if_neg (nI_ge (by omega) (by omega))]
      by_cases hm' : k ∈ l
      · rw [(r8_isOn _ _).1 (hb.mpr ((ha.2 k).mpr hm')), hv_b2_e, if_neg (by decide), if_pos rfl, nI_1]
      · rw [(r8_isOn _ _).2 (fun q => hm' ((ha.2 k).mp (hb.mp q))), hv_b2_e, if_pos rfl, dt.2 h, hv_b2_e, if_pos rfl, nI_1]
    refine ⟨fun p h1 h2 h3 h4 => ?_, fun h => ?_⟩
    · by_cases e : p = k
      · subst e
        obtain ⟨n1, n2, n3⟩ := jV_new hV h2 h3
        have u0 : ¬ nI (jU F O B K p) = 0 := fun q => jD_ne0 h3 ((nI_0e (by have := p2048 hB (bset_lt (jA F (andn O K) p) B); show bset _ _ < _; omega)).mp q)
        refine ⟨fuel, hv_sI (hv_sI (hv_sI σ 0 32 (nI (K ||| jU F O B K p))) 22 l.length (nI p)) 0 34 (nI (l.length + 1)), by omega, ?_, ⟨rM_sc (rM_sI (rM_sc hm (by decide) _) (by decide) _ _) (by decide) _, ?_, ?_, fun i hi' => ?_⟩, fr_I' (fr_I' (fr_I (Or.inl rfl) _ _) (Or.inr rfl) _ _) (Or.inl rfl) _ _, fun i i1 i2 => ?_⟩
        · show kX8_laysJoints_14_b n _ _ _ _ = _
          unfold kX8_laysJoints_14_b kX8_laysJoints_39
          rw [pM, if_neg (nI_ge (by omega) (by omega)), (r8_isOn _ _).2 (fun q => n1 ((ha.2 p).mp (hb.mp q))), hv_b2_e, if_pos rfl, show mX8_toldAt n σ (nI p) = some (nI (jU F O B K p), σ) from dt.1 h3, hv_b2_e, if_neg u0, hv_let_e, c2, nI_or, hv_let_e, nI_shl (by omega), nI_or, hv_sI_rd, if_neg (show ¬ (34 : Nat) = 32 by decide), c1, hv_if_t (hv_ok_nI (show l.length < 6 by omega) (by decide)), nI_clamp (by omega), hv_let_e, hv_let_e, hv_sI_ne _ _ _ (show 0 ≠ 22 by decide), hv_sI_rd, if_neg (show ¬ (34 : Nat) = 32 by decide), c1, nI_1]
          rfl
        · rw [hv_sI_rd, if_pos rfl, List.length_append]
          rfl
        · rw [hv_sI_rd, if_neg (by decide), hv_sI_ne _ _ _ (by decide), hv_sI_rd, if_pos rfl]
        · rw [List.length_append, List.length_singleton] at hi'
          rw [hv_sI_ne _ _ _ (by decide), hv_sI_rd, hv_sI_ne _ _ _ (by decide)]
          by_cases e : i = l.length
          · rw [if_pos e, e, getD_app_at]
          · rw [if_neg e, getD_app_lt (by omega)]
            exact c3 i (by omega)
        · rw [hv_sI_rd, if_neg i2, hv_sI_ne _ _ _ (by decide), hv_sI_rd, if_neg i1]
      · obtain ⟨f', σ', g1, g2, g3⟩ := hjn.1 p (by omega) h2 h3 (fun q q1 q2 => h4 q (by omega) q2)
        exact ⟨f', σ', by omega, (skip (h4 k (Nat.le_refl _) (by omega))).trans g2, g3⟩
    · rw [skip (h k (Nat.le_refl _) (by omega))]
      exact hjn.2 (fun q h1 h2 => h q (by omega) h2)
theorem jn_both {n : Nat} (hn : 12 < n) {F : Nat → Nat → Int32} {P B O D W : Nat} (hi : hI F P B O D W) : ∀ (m fX fM K all : Nat) (l : List Nat) (σX σM : hv_St), l.length + m = 6 → m + 1 < fX → 7 * (m + 1) < fM → jcX F σX K l → jcM F σM K l → jV F P B O K l → jAll all l → ∃ σX' σM' K' l', kX4_follow_14 n fX σX 1 (nI l.length) = some σX' ∧ kX8_laysJoints_14 n fM σM (nI all) (nI 0) = some σM' ∧ jcX F σX' K' l' ∧ jcM F σM' K' l' ∧ l'.length ≤ 6 ∧ fr (fun c => c = 0 ∨ c = 22) (fun _ => False) σM σM' ∧ ∀ i, i ≠ 32 → i ≠ 34 → σM'.1 0 i = σM.1 0 i := by
  have hP := hi.1.2
  intro m
  induction m with
  | zero =>
    intro fX fM K all l σX σM hl h1 h2 hX hM hV ha
    obtain ⟨fX, rfl⟩ : ∃ q, fX = q + 1 := ⟨fX - 1, by omega⟩
    have none : ∀ q, 0 ≤ q → q < P → ¬ jD F q (jU F O B K q) := fun q _ hq hD => by
      have := (jV_new hV hq hD).2.1
      omega
    refine ⟨σX, σM, K, l, ?_, (r8_jn hn hi hM hV ha P 0 fM (by omega) (by omega)).2 none, hX, hM, by omega, fr_rfl, fun _ _ _ => rfl⟩
    show kX4_follow_14_b n _ _ _ _ = _
    unfold kX4_follow_14_b
    rw [if_pos (show (6 : Int32) ≤ nI l.length from nI_le (a := 6) (by omega) (by omega))]
  | succ m ih =>
    intro fX fM K all l σX σM hl h1 h2 hX hM hV ha
    obtain ⟨fX, rfl⟩ : ∃ q, fX = q + 1 := ⟨fX - 1, by omega⟩
    have e6 : ¬ (6 : Int32) ≤ nI l.length := nI_ge (b := 6) (by omega) (by decide)
    rcases x4_doNext hn hi hX hV P 0 n (by omega) (by omega) with ⟨p, p1, p2, p3, p4, σ1, p5, p6⟩ | ⟨p1, p2⟩
    · obtain ⟨f', σ', g1, g2, g3, g4, g5⟩ := (r8_jn hn hi hM hV ha P 0 fM (by omega) (by omega)).1 p p1 p2 p3 p4
      obtain ⟨n1, n2, n3⟩ := jV_new hV p2 p3
      have ha' : jAll (all ||| 2 ^ p) (l ++ [p]) := ⟨Nat.or_lt_two_pow (n := 6) ha.1 (Nat.pow_lt_pow_right (by decide) (by omega)), fun j => by
        rw [Nat.testBit_or, Nat.testBit_two_pow, Bool.or_eq_true, decide_eq_true_iff, ha.2 j, List.mem_append, List.mem_singleton]
        exact or_congr Iff.rfl ⟨fun h => h.symm, fun h => h.symm⟩⟩
      obtain ⟨σX', σM', K', l', t1, t2, t3, t4, t5, t6, t7⟩ := ih fX f' _ _ _ σ1 σ' (by rw [List.length_append, List.length_singleton]; omega) (by omega) (by omega) p6 g3 n3 ha'
      refine ⟨σX', σM', K', l', ?_, g2.trans t2, t3, t4, t5, fr_tr g4 t6, fun i i1 i2 => (t7 i i1 i2).trans (g5 i i1 i2)⟩
      show kX4_follow_14_b n _ _ _ _ = _
      unfold kX4_follow_14_b
      rw [if_neg e6, if_neg (by decide), show mX4_doNext n σX = _ from p5, hv_b2_e, nI_1]
      rw [List.length_append, List.length_singleton] at t1
      exact t1
    · refine ⟨σX, σM, K, l, ?_, (r8_jn hn hi hM hV ha P 0 fM (by omega) (by omega)).2 p1, hX, hM, by omega, fr_rfl, fun _ _ _ => rfl⟩
      obtain ⟨fX, rfl⟩ : ∃ q, fX = q + 1 := ⟨fX - 1, by omega⟩
      show kX4_follow_14_b n _ _ _ _ = _
      unfold kX4_follow_14_b
      rw [if_neg e6, if_neg (by decide), show mX4_doNext n σX = _ from p2, hv_b2_e]
      show kX4_follow_14_b n _ _ _ _ = _
      unfold kX4_follow_14_b
      by_cases c : (6 : Int32) ≤ nI l.length + 1
      · rw [if_pos c]
      · rw [if_neg c, if_pos rfl]
theorem joints_both {n : Nat} (hn : 100 < n) {F : Nat → Nat → Int32} {P B O D W : Nat} (hi : hI F P B O D W) {σX σM : hv_St} (hx : rX F σX) (hm : rM F σM) : ∃ σX' σM' K l, mX4_follow n σX = some σX' ∧ mX8_laysJoints n σM = some σM' ∧ jcX F σX' K l ∧ jcM F σM' K l ∧ l.length ≤ 6 ∧ fr (fun c => c = 0 ∨ c = 22) (fun _ => False) σM σM' ∧ ∀ i, i ≠ 32 → i ≠ 34 → σM'.1 0 i = σM.1 0 i := by
  obtain ⟨σX', σM', K, l, t1, t2, t3, t4, t5, t6, t7⟩ := jn_both (n := n) (by omega) hi 6 n n 0 0 [] (hv_sI (hv_sI σX 17 2 0) 17 3 0) (hv_sI (hv_sI σM 0 32 0) 0 34 0) rfl (by omega) (by omega) ⟨rX_1 hx (fun q hq => by rw [hv_sI_ne _ _ _ (by omega), hv_sI_ne _ _ _ (by omega)]), by rw [hv_sI_rd, if_neg (by decide), hv_sI_rd, if_pos rfl]; rfl, by rw [hv_sI_rd, if_pos rfl]; rfl, fun i hi' => absurd hi' (Nat.not_lt_zero _)⟩ ⟨rM_sc (rM_sc hm (by decide) 0) (by decide) 0, by rw [hv_sI_rd, if_pos rfl]; rfl, by rw [hv_sI_rd, if_neg (by decide), hv_sI_rd, if_pos rfl]; rfl, fun i hi' => absurd hi' (Nat.not_lt_zero _)⟩ ⟨Nat.two_pow_pos _, List.nodup_nil, fun p hp => by cases hp⟩ ⟨by decide, fun j => by simp⟩
  refine ⟨σX', σM', K, l, t1, t2, t3, t4, t5, fr_tr (fr_I' (fr_I (Or.inl rfl) _ _) (Or.inl rfl) _ _) t6, fun i i1 i2 => ?_⟩
  rw [t7 i i1 i2, hv_sI_rd, if_neg i2, hv_sI_rd, if_neg i1]
theorem op_joint {n : Nat} (hn : 100 < n) {F : Nat → Nat → Int32} {P B O D W : Nat} {σX σM : hv_St} (h : hR F P B O D W σX σM) (v : Int32) : ∃ r σX' σM', mX7_joint n σX v = some (r, σX') ∧ mX8_joint n σM v = some (r, σM') ∧ hR F P B O D W σX' σM' := by
  obtain ⟨hi, hx, hm⟩ := h
  obtain ⟨σX', σM', K, l, t1, t2, t3, t4, t5, -, -⟩ := joints_both hn hi hx (rM0 hm)
  have eM : mX8_in n σM' v.toInt64 (0 : Int64) ((σM'.1 0 34) - (1 : Int32)).toInt64 = some (if 0 ≤ v ∧ v ≤ nI l.length - 1 then 1 else 0, σM') := by
    rw [t4.2.1, show (0 : Int64) = (0 : Int32).toInt64 from rfl, r8_in32]
  by_cases hv : fN l.length v
  · obtain ⟨k, hk, rfl⟩ := hv
    have hin := (fN_in (N := l.length) (by omega) (nI k)).mp ⟨k, hk, rfl⟩
    refine ⟨nI (l.getD k 0), σX', σM', ?_, ?_, hi, t3.1, t4.1⟩
    · unfold mX7_joint
      rw [t1, hv_bd_e, if_neg (nI_pos (by omega)), t3.2.1, if_neg (nI_ge hk (by omega)), hv_if_t (hv_ok_nI (show k < 6 by omega) (by decide)), nI_clamp (by omega), t3.2.2.2 k hk]
    · unfold mX8_joint
      rw [hv_let_e, t2, hv_bd_e, eM, if_pos hin, hv_b2_e, if_neg (by decide), hv_if_t (hv_ok_nI (show k < 6 by omega) (by decide)), nI_clamp (by omega), t4.2.2.2 k hk]
  · have hnin : ¬ (0 ≤ v ∧ v ≤ nI l.length - 1) := fun q => hv ((fN_in (N := l.length) (by omega) v).mpr q)
    refine ⟨-1, σX', σM', ?_, ?_, hi, t3.1, t4.1⟩
    · unfold mX7_joint kX7_joint_34
      rw [t1, hv_bd_e, t3.2.1]
      by_cases c1 : v < 0
      · rw [if_pos c1]
      · rw [if_neg c1]
        by_cases c2 : nI l.length ≤ v
        · rw [if_pos c2]
        · exact absurd ((fN_iff (N := l.length) (by omega) v).mpr ⟨c1, c2⟩) hv
    · unfold mX8_joint
      rw [hv_let_e, t2, hv_bd_e, eM, if_neg hnin, hv_b2_e, if_pos rfl]
