/-! the reference's base and spare ones -/
theorem r8_isNew {n : Nat} (hn : 200 ≤ n) {σ : hv_St} {N L : Nat} (hN : σ.1 0 18 = nI N) (hN12 : N ≤ 12) (hL : L < 12) {Y : Nat → md_V} {ld : Nat → Nat} {W : Nat → Nat → Int} (hT : rT N Y ld W L) {X : md_V} (hX : ∀ k, k < N → (X k).natAbs ≤ 2 ^ 28) (hbd : ∀ r k, r ≤ L → k < N → (md_T (List.range N) N (bA Y ld r) X k).natAbs ≤ 2 ^ 28) {f : Nat → Int64} (hW : ∀ i, i < L → rRow N i f (W i)) (hv : rRow N L f X) : ∃ g v, rRow N L g v ∧ rV N Y ld X L v ∧ (∀ i, (i < 12 * L ∨ 12 * L + N ≤ i) → g i = f i) ∧ ((∃ l, l < N ∧ v l ≠ 0 ∧ (∀ j, j < l → v j = 0) ∧ mX8_isNew n (hv_wJ σ 13 f) (nI L) = some (1, hv_wJ σ 13 g)) ∨ ((∀ j, j < N → v j = 0) ∧ mX8_isNew n (hv_wJ σ 13 f) (nI L) = some (0, hv_wJ σ 13 g))) := by
  obtain ⟨g, v, g1, g2, g3, g4⟩ := r8_new_loop hn hN hN12 hL hT hbd L 0 n f X (by omega) (by omega) hW hv ⟨fun j hj => absurd hj (Nat.not_lt_zero _), hX, 1, 1, by decide, by decide, fun k hk _ => by
    show 1 * X k = 1 * md_dt (List.range N) (md_up md_e k X) N
    rw [md_T_e hk]⟩
  refine ⟨g, v, g2, g3, g4, ?_⟩
  have q := r8_new_138 (n := n) (σ := σ) hN hN12 hL g2 (fun k hk => rL_of (Nat.le_trans (g3.2.1 k hk) (by decide))) N 0 n (by omega) (by omega)
  have e : mX8_isNew n (hv_wJ σ 13 f) (nI L) = kX8_isNew_138 n n (hv_wJ σ 13 g) (nI L) (nI 0) := g1
  by_cases h : ∃ j, 0 ≤ j ∧ j < N ∧ v j ≠ 0
  · obtain ⟨l, l1, l2, l3, l4⟩ := q.1 h
    exact Or.inl ⟨l, l1, l2, fun j hj => l3 j (Nat.zero_le _) hj, e.trans l4⟩
  · exact Or.inr ⟨fun j hj => Classical.byContradiction fun h2 => h ⟨j, Nat.zero_le _, hj, h2⟩, e.trans (q.2 h)⟩
def sM (B : Nat) (σ : hv_St) (acc : List Nat) (pr : Nat → Prop) : Prop := ∃ Eb Es, σ.1 0 20 = nI Eb ∧ Eb < 2 ^ B ∧ (∀ b, Eb.testBit b = true ↔ b ∈ acc) ∧ σ.1 0 21 = nI Es ∧ Es < 2 ^ B ∧ ∀ b, Es.testBit b = true ↔ pr b ∧ b ∉ acc
theorem sM_congr {B : Nat} {σ : hv_St} {acc : List Nat} {p q : Nat → Prop} (h : sM B σ acc p) (e : ∀ j, p j ↔ q j) : sM B σ acc q := by
  obtain ⟨Eb, Es, s1, s2, s3, s4, s5, s6⟩ := h
  exact ⟨Eb, Es, s1, s2, s3, s4, s5, fun b => (s6 b).trans (and_congr (e b) Iff.rfl)⟩
def yC (F : Nat → Nat → Int32) (P : Nat) (acc : List Nat) : Nat → md_V := fun j => fCol F P (acc.getD j 0)
def tM (F : Nat → Nat → Int32) (P : Nat) (σ : hv_St) (acc : List Nat) : Prop := ∃ ld W, rT (fN' F P) (yC F P acc) ld W acc.length ∧ ∀ i, i < acc.length → rRow (fN' F P) i (σ.2 13) (W i)
theorem r8_lay40 {n : Nat} {F : Nat → Nat → Int32} {P B O D W : Nat} (hi : hI F P B O D W) {r18 : hv_St → Int32 → Int32 → Int32 → Option hv_St} {σ : hv_St} (hm : rM F σ) (hfr : rFr F P σ) {L b : Nat} (hL : L < 12) (hLb : L ≤ 10) (hb : b < B) (S : Int32) : ∀ (d k fuel : Nat) (f : Nat → Int64), k + d = fN' F P → d < fuel → (∀ j, j < k → f (12 * L + j) = iL (fCol F P b j)) → ∃ g, kX8_laysBase_40 n r18 fuel (hv_wJ σ 13 f) S (nI L) (nI b) (nI k) = (if nI (fN' F P) ≤ nI L then kX8_laysBase_107 n r18 (hv_wJ σ 13 g) S (nI L) (nI b) else hv_b2 (mX8_isNew n (hv_wJ σ 13 g) (nI L)) fun r97 s97 => if r97 = 0 then (kX8_laysBase_107 n r18 s97 S (nI L) (nI b)) else (kX8_laysBase_108 n r18 s97 S (nI L) (nI b) ((1 : Int32)))) ∧ rRow (fN' F P) L g (fCol F P b) ∧ ∀ i, (i < 12 * L ∨ 12 * L + fN' F P ≤ i) → g i = f i := by
  have hP := hi.1.2
  have hB := hi.2.1.2
  have hl : fN' F P ≤ 2 * P := fL_le F (2 * P)
  intro d
  induction d with
  | zero =>
    intro k fuel f hk hf hg
    obtain ⟨fuel, rfl⟩ : ∃ q, fuel = q + 1 := ⟨fuel - 1, by omega⟩
    refine ⟨f, ?_, fun j hj => hg j (by omega), fun _ _ => rfl⟩
    show kX8_laysBase_40_b n r18 _ _ _ _ _ _ = _
    unfold kX8_laysBase_40_b
    rw [hv_wJ_1, hfr.1, if_pos (nI_le (by show fN' F P ≤ k; omega) (by omega))]
  | succ d ih =>
    intro k fuel f hk hf hg
    obtain ⟨fuel, rfl⟩ : ∃ q, fuel = q + 1 := ⟨fuel - 1, by omega⟩
    have hkN : k < (fL F (2 * P)).length := by show k < fN' F P; omega
    have hs := (fL_lt hkN).1
    have eN : fN' F P = (fL F (2 * P)).length := rfl
    obtain ⟨g, g1, g2, g3⟩ := ih (k + 1) fuel (vp_updL f (12 * L + k) (iL (fCol F P b k))) (by omega) (by omega) (fun j hj => by
      by_cases e : j = k
      · rw [e, pk_uLs]
      · rw [pk_uLn (by omega)]
        exact hg j (by omega))
    refine ⟨g, ?_, g2, fun i hi' => ?_⟩
    · show kX8_laysBase_40_b n r18 _ _ _ _ _ _ = _
      unfold kX8_laysBase_40_b
      have hm2 : rM F (hv_wJ σ 13 f) := hm
      have hfk := hfr.2 k hkN
      have hbl := fBr_le hi hb ((fL F (2 * P)).getD k 0 / 2) ((fL F (2 * P)).getD k 0 % 2)
      rw [hv_wJ_1, hfr.1, if_neg (nI_ge (by show k < fN' F P; omega) (by omega)), hv_if_t (hv_ok_nI (show k < 12 by omega) (by decide)), hv_if_t (hv_ok_nI (show k < 12 by omega) (by decide)), nI_clamp (by omega), hfk.1, hfk.2, r8_brings hi hm2 hb (by omega) (by omega), hv_b2_e, nI_12, hv_if_t (hv_ok_nI (show 12 * L + k < 144 by omega) (by decide)), nI_clamp (by omega), hv_let_e, nI_1, iI_L ⟨by omega, by omega⟩, hv_sJ_wJ]
      exact g1
    · rw [g3 i hi', pk_uLn (by omega)]
theorem nI_or0 (a : Nat) : nI a ||| 0 = nI a := by
  rw [show (0 : Int32) = nI 0 from rfl, nI_or, Nat.or_zero]
theorem r8_107 {n : Nat} {r18 : hv_St → Int32 → Int32 → Int32 → Option hv_St} {σ : hv_St} {S : Int32} {B L b Eb Es : Nat} (hB : B ≤ 11) (hb : b < B) (hs : Es < 2 ^ B) (h1 : σ.1 0 20 = nI Eb) (h2 : σ.1 0 21 = nI Es) : kX8_laysBase_107 n r18 σ S (nI L) (nI b) = r18 (hv_sI (hv_sI σ 0 20 (nI Eb)) 0 21 (nI (Es ||| 2 ^ b))) S (nI L) (nI (b + 1)) := by
  unfold kX8_laysBase_107 kX8_laysBase_108 kX8_laysBase_127 kX8_laysBase_148 kX8_laysBase_163 kX8_laysBase_165
  rw [if_pos rfl, hv_let_e, if_pos rfl, hv_let_e, if_pos rfl, hv_let_e, h1, nI_or0, hv_sI_rd, if_neg (by decide), h2, (set_add hB hs hb).1, nI_1, show nI L + 0 = nI L from nI_add L 0]
theorem r8_108 {n : Nat} {r18 : hv_St → Int32 → Int32 → Int32 → Option hv_St} {σ : hv_St} {S : Int32} {B L b Eb Es : Nat} (hB : B ≤ 11) (hb : b < B) (hs : Eb < 2 ^ B) (h1 : σ.1 0 20 = nI Eb) (h2 : σ.1 0 21 = nI Es) : kX8_laysBase_108 n r18 σ S (nI L) (nI b) 1 = r18 (hv_sI (hv_sI σ 0 20 (nI (Eb ||| 2 ^ b))) 0 21 (nI Es)) S (nI (L + 1)) (nI (b + 1)) := by
  unfold kX8_laysBase_108 kX8_laysBase_127 kX8_laysBase_148 kX8_laysBase_163 kX8_laysBase_165
  rw [if_neg (by decide), hv_let_e, if_neg (by decide), hv_let_e, if_neg (by decide), hv_let_e, h1, (set_add hB hs hb).1, hv_sI_rd, if_neg (by decide), h2, nI_or0, nI_1, nI_1]
theorem fr_b (σ : hv_St) (g : Nat → Int64) (v w : Int32) : fr (fun k => k = 0) (fun k => k = 13) σ (hv_sI (hv_sI (hv_wJ σ 13 g) 0 20 v) 0 21 w) := ⟨fun k hk => by
  rw [hv_sI_ne _ _ _ hk, hv_sI_ne _ _ _ hk]
  rfl, fun k hk => hv_wJ_ne _ _ hk⟩
theorem r8_base_step {n : Nat} (hn : 200 ≤ n) {F : Nat → Nat → Int32} {P B O D W : Nat} (hi : hI F P B O D W) {r18 : hv_St → Int32 → Int32 → Int32 → Option hv_St} {σ : hv_St} (hm : rM F σ) (hfr : rFr F P σ) {acc : List Nat} {pr : Nat → Prop} (hs : sM B σ acc pr) (ht : tM F P σ acc) {b : Nat} (hb : b < B) (hac : ∀ j, j ∈ acc → j < b) (hal : acc.length ≤ b) (hpb : ¬ pr b) (S : Int32) : ∃ τ, kX8_laysBase_40 n r18 n σ S (nI acc.length) (nI b) 0 = r18 τ S (nI (md_gr (fR F P) (fCol F P) acc [b]).length) (nI (b + 1)) ∧ rM F τ ∧ rFr F P τ ∧ sM B τ (md_gr (fR F P) (fCol F P) acc [b]) (fun j => pr j ∨ j = b) ∧ tM F P τ (md_gr (fR F P) (fCol F P) acc [b]) ∧ fr (fun k => k = 0) (fun k => k = 13) σ τ ∧ ∀ i, i ≠ 20 → i ≠ 21 → τ.1 0 i = σ.1 0 i := by
  have hP := hi.1.2
  have hB := hi.2.1.2
  have hl : fN' F P ≤ 2 * P := fL_le F (2 * P)
  obtain ⟨ld, Wr, hT, hWr⟩ := ht
  obtain ⟨Eb, Es, s1, s2, s3, s4, s5, s6⟩ := hs
  have hba : b ∉ acc := fun h => Nat.lt_irrefl b (hac b h)
  obtain ⟨g0, a1, a2, a3⟩ := r8_lay40 (n := n) (r18 := r18) hi hm hfr (L := acc.length) (by omega) (by omega) hb S (fN' F P) 0 n (σ.2 13) (by omega) (by omega) (fun j hj => absurd hj (Nat.not_lt_zero _))
  rw [hv_wJ_self] at a1
  have hY : ∀ r, r ≤ acc.length → fXs F P B (bA (yC F P acc) ld r) := fun r hr => bA_fXs r (fun j hj => ⟨acc.getD j 0, by
    have h : acc.getD j 0 ∈ acc := by
      rw [List.getD_eq_getElem?_getD, List.getElem?_eq_getElem (by omega), Option.getD_some]
      exact List.getElem_mem _
    have := hac _ h
    omega, rfl⟩)
  have htb : md_tb (fR F P) (fN' F P) (fCol F P) (bA (yC F P acc) ld acc.length) ld acc := rT_tb (C := fCol F P) hT
  -- the state behind a bar that isn't new
  have old : ∀ g, md_in (fR F P) (md_cs (fCol F P) acc) (fCol F P b) → (∀ i, i < acc.length → rRow (fN' F P) i g (Wr i)) → ∃ τ, kX8_laysBase_107 n r18 (hv_wJ σ 13 g) S (nI acc.length) (nI b) = r18 τ S (nI (md_gr (fR F P) (fCol F P) acc [b]).length) (nI (b + 1)) ∧ rM F τ ∧ rFr F P τ ∧ sM B τ (md_gr (fR F P) (fCol F P) acc [b]) (fun j => pr j ∨ j = b) ∧ tM F P τ (md_gr (fR F P) (fCol F P) acc [b]) ∧ fr (fun k => k = 0) (fun k => k = 13) σ τ ∧ ∀ i, i ≠ 20 → i ≠ 21 → τ.1 0 i = σ.1 0 i := fun g hin hg => by
    obtain ⟨c1, c2, c3⟩ := set_add hB s5 hb
    have eg : md_gr (fR F P) (fCol F P) acc [b] = acc := md_gr_old hin
    rw [eg]
    refine ⟨_, r8_107 (L := acc.length) hB hb s5 s1 s4, rM_sc (i := 21) (rM_sc (i := 20) (σ := hv_wJ σ 13 g) hm (by decide) _) (by decide) _, ⟨?_, ?_⟩, ⟨Eb, Es ||| 2 ^ b, ?_, s2, s3, ?_, c2, fun j => ?_⟩, ⟨ld, Wr, hT, hg⟩, fr_b σ g _ _, fun i h1 h2 => ?_⟩
    · rw [hv_sI_rd, if_neg (by decide), hv_sI_rd, if_neg (by decide)]
      exact hfr.1
    · intro j hj
      rw [hv_sI_ne _ _ _ (by decide), hv_sI_ne _ _ _ (by decide), hv_sI_ne _ _ _ (by decide), hv_sI_ne _ _ _ (by decide)]
      exact hfr.2 j hj
    · rw [hv_sI_rd, if_neg (by decide), hv_sI_rd, if_pos rfl]
    · rw [hv_sI_rd, if_pos rfl]
    · rw [c3 j, s6 j]
      constructor
      · rintro (⟨q1, q2⟩ | rfl)
        · exact ⟨Or.inl q1, q2⟩
        · exact ⟨Or.inr rfl, hba⟩
      · rintro ⟨q1 | rfl, q2⟩
        · exact Or.inl ⟨q1, q2⟩
        · exact Or.inr rfl
    · rw [hv_sI_rd, if_neg h2, hv_sI_rd, if_neg h1]
      rfl
  by_cases hfull : fN' F P ≤ acc.length
  · have hle := rT_le hT
    have heq : acc.length = fN' F P := by omega
    have hin : md_in (fR F P) (md_cs (fCol F P) acc) (fCol F P b) := (md_tb_in htb _).mpr (fun k hk hp => by
      rw [heq] at hT
      obtain ⟨j, hj, e⟩ := rT_full hT hk
      exact absurd e (hp j (by omega)))
    obtain ⟨τ, t1, t2⟩ := old g0 hin (fun i hi' k hk => by rw [a3 _ (by omega)]; exact hWr i hi' k hk)
    refine ⟨τ, ?_, t2⟩
    rw [show (0 : Int32) = nI 0 from rfl, a1, if_pos (nI_le hfull (by omega))]
    exact t1
  · have hX : ∀ k, k < fN' F P → (fCol F P b k).natAbs ≤ 2 ^ 28 := fun k hk => by
      have := fBr_le hi hb ((fL F (2 * P)).getD k 0 / 2) ((fL F (2 * P)).getD k 0 % 2)
      show (fBr F b _ _).natAbs ≤ _
      omega
    obtain ⟨g, v, b1, b2, b3, b4⟩ := r8_isNew hn (σ := σ) hfr.1 (by show fN' F P ≤ 12; omega) (L := acc.length) (by omega) hT (X := fCol F P b) hX (fun r k hr hk => by
      have q := tX_bd hi (hY r hr) (c := b) (r := k) (by omega)
      rw [fXc_bar hb] at q
      exact q) (f := g0) (fun i hi' k hk => by
        have hk2 : k < fN' F P := hk
        rw [a3 _ (by omega)]; exact hWr i hi' k hk) a2
    have hgr : ∀ i, i < acc.length → rRow (fN' F P) i g (Wr i) := fun i hi' k hk => by
      have e1 : g (12 * i + k) = g0 (12 * i + k) := b3 _ (by omega)
      rw [e1, a3 _ (by omega)]
      exact hWr i hi' k hk
    obtain ⟨v1, v2, p, q, hp, hq, v3⟩ := b2
    rcases b4 with ⟨l, l1, l2, l3, l4⟩ | ⟨z1, z2⟩
    · have hlnl : ∀ j, j < acc.length → ld j ≠ l := fun j hj e => l2 (by rw [← e]; exact v1 j hj)
      have hnin : ¬ md_in (fR F P) (md_cs (fCol F P) acc) (fCol F P b) := (md_tb_new htb _).mpr ⟨l, l1, hlnl, fun z => by
        have e := v3 l l1 hlnl
        have z' : md_T (List.range (fL F (2 * P)).length) (fL F (2 * P)).length (bA (yC F P acc) ld acc.length) (fCol F P b) l = 0 := z
        rw [z', Int.mul_zero] at e
        rcases Int.mul_eq_zero.mp e with e | e
        · exact hp e
        · exact l2 e⟩
      have eg : md_gr (fR F P) (fCol F P) acc [b] = acc ++ [b] := md_gr_new hnin
      rw [eg, List.length_append, List.length_singleton]
      obtain ⟨c1, c2, c3⟩ := set_add hB s2 hb
      refine ⟨_, ?_, rM_sc (i := 21) (rM_sc (i := 20) (σ := hv_wJ σ 13 g) hm (by decide) (nI (Eb ||| 2 ^ b))) (by decide) (nI Es), ⟨?_, ?_⟩, ⟨Eb ||| 2 ^ b, Es, ?_, c2, fun j => ?_, ?_, s5, fun j => ?_⟩, ⟨fun j => if j = acc.length then l else ld j, fun j => if j = acc.length then v else Wr j, fun r hr => ?_, fun i hi' => ?_⟩, fr_b σ g _ _, fun i h1 h2 => ?_⟩
      · rw [show (0 : Int32) = nI 0 from rfl, a1, if_neg (nI_ge (by omega) (by omega)), l4, hv_b2_e, if_neg (by decide)]
        exact r8_108 (L := acc.length) hB hb s2 s1 s4
      · rw [hv_sI_rd, if_neg (by decide), hv_sI_rd, if_neg (by decide)]
        exact hfr.1
      · intro j hj
        rw [hv_sI_ne _ _ _ (by decide), hv_sI_ne _ _ _ (by decide), hv_sI_ne _ _ _ (by decide), hv_sI_ne _ _ _ (by decide)]
        exact hfr.2 j hj
      · rw [hv_sI_rd, if_neg (by decide), hv_sI_rd, if_pos rfl]
      · rw [c3 j, s3 j, List.mem_append, List.mem_singleton]
      · rw [hv_sI_rd, if_pos rfl]
      · rw [s6 j, List.mem_append, List.mem_singleton]
        constructor
        · rintro ⟨q1, q2⟩
          refine ⟨Or.inl q1, fun q3 => ?_⟩
          rcases q3 with q3 | q3
          · exact q2 q3
          · exact absurd q1 (by rw [q3]; exact hpb)
        · rintro ⟨q1 | q1, q2⟩
          · exact ⟨q1, fun q => q2 (Or.inl q)⟩
          · exact absurd (Or.inr q1) q2
      · rw [List.length_append, List.length_singleton] at hr
        have hbc : ∀ m, m ≤ acc.length → bA (yC F P (acc ++ [b])) (fun j => if j = acc.length then l else ld j) m = bA (yC F P acc) ld m := fun m hm => bA_congr m (fun j hj => ⟨by
          show fCol F P ((acc ++ [b]).getD j 0) = fCol F P (acc.getD j 0)
          rw [getD_app_lt (by omega)], if_neg (by omega)⟩)
        rw [hbc r (by omega)]
        by_cases er : r = acc.length
        · subst er
          dsimp only
          rw [if_pos rfl, if_pos rfl]
          refine ⟨l1, l2, l3, fun j hj => ?_, v2, p, q, hp, hq, fun k hk hj => ?_⟩
          · rw [if_neg (by omega)]
            exact v1 j hj
          · have e2 : yC F P (acc ++ [b]) acc.length = fCol F P b := by
              show fCol F P ((acc ++ [b]).getD acc.length 0) = _
              rw [getD_app_at]
            rw [e2]
            exact v3 k hk (fun j hj' => by
              have := hj j hj'
              rw [if_neg (by omega)] at this
              exact this)
        · dsimp only
          rw [if_neg er, if_neg er]
          obtain ⟨t1, t2, t3, t4, t5, p', q', hp', hq', t6⟩ := hT r (by omega)
          refine ⟨t1, t2, t3, fun j hj => ?_, t5, p', q', hp', hq', fun k hk hj => ?_⟩
          · rw [if_neg (by omega)]
            exact t4 j hj
          · have e2 : yC F P (acc ++ [b]) r = yC F P acc r := by
              show fCol F P ((acc ++ [b]).getD r 0) = fCol F P (acc.getD r 0)
              rw [getD_app_lt (by omega)]
            rw [e2]
            exact t6 k hk (fun j hj' => by
              have := hj j hj'
              rw [if_neg (by omega)] at this
              exact this)
      · rw [List.length_append, List.length_singleton] at hi'
        show rRow (fN' F P) i g _
        by_cases ei : i = acc.length
        · dsimp only
          rw [if_pos ei, ei]
          exact b1
        · dsimp only
          rw [if_neg ei]
          exact hgr i (by omega)
      · rw [hv_sI_rd, if_neg h2, hv_sI_rd, if_neg h1]
        rfl
    · have hin : md_in (fR F P) (md_cs (fCol F P) acc) (fCol F P b) := (md_tb_in htb _).mpr (fun k hk hpos => by
        have e := v3 k hk hpos
        rw [z1 k hk, Int.mul_zero] at e
        exact (Int.mul_eq_zero.mp e.symm).resolve_left hq)
      obtain ⟨τ, t1, t2⟩ := old g hin hgr
      refine ⟨τ, ?_, t2⟩
      rw [show (0 : Int32) = nI 0 from rfl, a1, if_neg (nI_ge (by omega) (by omega)), z2, hv_b2_e, if_pos rfl]
      exact t1
