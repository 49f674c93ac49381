/-! cut: the class's and the reference's sums -/
theorem cL_mem {F : Nat → Nat → Int32} {O S k i : Nat} (h : i < (cL F O S k).length) : (cL F O S k).getD i 0 < k := by
  have := getD_mem h
  unfold cL at this
  exact List.mem_range.mp (List.mem_filter.mp this).1
theorem cL_nd (F : Nat → Nat → Int32) (O S k : Nat) : (cL F O S k).Nodup := List.Pairwise.filter _ List.nodup_range
theorem nI_3 (a : Nat) : (3 : Int32) * nI a = nI (3 * a) := nI_mul' 3 a
noncomputable def kC (F : Nat → Nat → Int32) (P B O S : Nat) (c : Nat) : md_V := if c < 3 then cC F S ((cL F O S B).getD c 0) else lC F S P
def kU (F : Nat → Nat → Int32) (B O S : Nat) : Int := d3f (cC F S ((cL F O S B).getD 0 0)) (cC F S ((cL F O S B).getD 1 0)) (cC F S ((cL F O S B).getD 2 0))
theorem x1_divides {n : Nat} (hn : 30 < n) {F : Nat → Nat → Int32} {P B O D W : Nat} (hi : hI F P B O D W) {S : Nat} (h0 : 0 < S) (hS : S < 2 ^ P) {σ : hv_St} (hx : rX F σ) : ∃ τ, rX F τ ∧ (gCut F P B O S → (∀ i, i < 3 → τ.1 20 i = nI ((cL F O S B).getD i 0)) ∧ (∀ i, i < 3 → mcF τ i (cC F S ((cL F O S B).getD i 0))) ∧ mcF τ 3 (lC F S P) ∧ τ.2 19 4 = iL (kU F B O S) ∧ (kU F B O S = 0 → mX1_divides n σ (nI S) = some (0, τ)) ∧ (kU F B O S ≠ 0 → mX1_divides n σ (nI S) = some (1, τ))) ∧ (¬ gCut F P B O S → mX1_divides n σ (nI S) = some (0, τ)) := by
  have hP := hi.1.2
  have hB := hi.2.1.2
  have s31 : S < 2 ^ 31 := Nat.lt_of_lt_of_le hS (Nat.pow_le_pow_right (by decide) (by omega))
  have p64 : 2 ^ P ≤ 64 := Nat.le_trans (Nat.pow_le_pow_right (by decide) hP) (by decide)
  have pX : σ.1 1 0 = nI P := hx.1.1.trans hi.1.1
  have hh := x1_held (n := n) hi hx hS (2 * P) 0 n (by omega) (by omega)
  have e1 : mX1_divides n σ (nI S) = hv_b2 (mX1_isHeld n σ (nI S)) fun r19 s19 => if r19 = 0 then (hv_bd (mX1_findBars n s19 (nI S)) fun s29 => if s29.1 19 2 = (3 : Int32) then (kX1_divides_44 n n s29 (nI S) ((0 : Int32))) else (some ((0 : Int32), s29))) else (some ((0 : Int32), s19)) := by
    unfold mX1_divides
    rw [if_neg (nI_nle h0 s31), pX, nI_shl (by omega), if_neg (nI_ge hS (by omega))]
  by_cases hd : hdS F P S
  · refine ⟨σ, hx, fun g => absurd hd g.2, fun _ => ?_⟩
    have q : mX1_isHeld n σ (nI S) = some (1, σ) := hh.1 ((hd_iff hi).mpr hd)
    rw [e1, q, hv_b2_e, if_neg (by decide)]
  · have q : mX1_isHeld n σ (nI S) = some (0, σ) := hh.2 (fun z => hd ((hd_iff hi).mp z))
    obtain ⟨τ, t1, t2, t3, t4, t5⟩ := x1_find (n := n) (by omega) hi hS B 0 n (hv_sI σ 19 2 0) (by omega) (by omega) (rX_1 hx (fun k hk => hv_sI_ne _ _ _ (by omega))) (by rw [hv_sI_rd, if_pos rfl]; rfl) (fun i _ h => absurd h (Nat.not_lt_zero _))
    have e2 : mX1_findBars n σ (nI S) = some τ := by
      unfold mX1_findBars
      rw [hv_let_e]
      exact t1
    rw [q, hv_b2_e, if_pos rfl, e2, hv_bd_e, t4] at e1
    have ll := cL_len F O S B
    by_cases c3 : (cL F O S B).length = 3
    · rw [c3, if_pos (show nI 3 = (3 : Int32) from rfl)] at e1
      have h20 : ∀ i, i < 3 → τ.1 20 i = nI ((cL F O S B).getD i 0) := fun i h => t5 i h (by omega)
      have hbi : ∀ i, i < 3 → (cL F O S B).getD i 0 < B := fun i h => cL_mem (by omega)
      obtain ⟨f, rfl⟩ : ∃ f, n = f + 4 := ⟨n - 4, by omega⟩
      obtain ⟨u0, a1, a2, a3⟩ := x1_step (n := f + 4) (by omega) hi hS t2 (i := 0) (by omega) (hbi 0 (by omega)) (h20 0 (by omega)) (f + 3)
      have rx0 : rX F u0 := rX_1 t2 (fun j _ => by rw [a2.1])
      obtain ⟨u1, b1, b2, b3⟩ := x1_step (n := f + 4) (by omega) hi hS rx0 (i := 1) (by omega) (hbi 1 (by omega)) (by rw [a2.1]; exact h20 1 (by omega)) (f + 2)
      have rx1 : rX F u1 := rX_1 rx0 (fun j _ => by rw [b2.1])
      obtain ⟨u2, c1, c2, c3'⟩ := x1_step (n := f + 4) (by omega) hi hS rx1 (i := 2) (by omega) (hbi 2 (by omega)) (by rw [b2.1, a2.1]; exact h20 2 (by omega)) (f + 1)
      have rx2 : rX F u2 := rX_1 rx1 (fun j _ => by rw [c2.1])
      have hw3 : wr 3 u2 (hv_sJ (hv_sJ (hv_sJ u2 52 3 0) 53 3 0) 54 3 0) := wr_J (wr_J (wr_J (wr_rfl 3 u2) _) _) _
      obtain ⟨u3, d1, d2, d3⟩ := x1_loads (n := f + 4) hi hS P 0 (f + 4) (hv_sJ (hv_sJ (hv_sJ u2 52 3 0) 53 3 0) 54 3 0) (by omega) (by omega) (rX_1 rx2 (fun _ _ => rfl)) (mcX_clear u2 3)
      have hw := wr_tr hw3 d2
      have m0 : mcF u3 0 (cC F S ((cL F O S B).getD 0 0)) := wr_F hw (by decide) (wr_F c2 (by decide) (wr_F b2 (by decide) a3))
      have m1 : mcF u3 1 (cC F S ((cL F O S B).getD 1 0)) := wr_F hw (by decide) (wr_F c2 (by decide) b3)
      have m2 : mcF u3 2 (cC F S ((cL F O S B).getD 2 0)) := wr_F hw (by decide) c3'
      have dt := x1_det (n := f + 4) (show 0 < 4 by decide) (show 1 < 4 by decide) (show 2 < 4 by decide) m0 m1 m2
      have fin : kX1_divides_44 (f + 4) (f + 4) τ (nI S) (0 : Int32) = if lg_cmp (iL (kU F B O S)) (0 : Int64) = 0 then some (0, hv_sJ u3 19 4 (iL (kU F B O S))) else some (1, hv_sJ u3 19 4 (iL (kU F B O S))) := by
        refine (a1.trans (b1.trans c1)).trans ?_
        show kX1_divides_44_b (f + 4) _ _ _ _ = _
        unfold kX1_divides_44_b mX1_addLoads
        have cl := x1_clear (n := f + 4) (by omega) (σ := u2) (c := 3) (by decide)
        rw [if_pos (show (3 : Int32) ≤ nI (2 + 1) by decide), show mX1_clear (f + 4) u2 (3 : Int32) = _ from cl, hv_bd_e, show kX1_addLoads_7 (f + 4) (f + 4) _ (nI S) (0 : Int32) = _ from d1, hv_bd_e, show mX1_determinant (f + 4) u3 (0 : Int32) (1 : Int32) (2 : Int32) = _ from dt, hv_b2_e, hv_let_e, hv_sJ_rd, if_pos rfl]
        rfl
      have ub : (kU F B O S).natAbs ≤ 2 ^ 30 := d3_bd (m := fun c => cC F S ((cL F O S B).getD c 0)) (fun c hc k _ => by have := cC_bd hi S (hbi c hc) k; omega)
      have ur : rL (kU F B O S) := rL_of (Nat.le_trans ub (by decide))
      refine ⟨hv_sJ u3 19 4 (iL (kU F B O S)), rX_1 rx2 (fun j _ => by show u3.1 j = _; rw [hw.1]), fun g => ⟨fun i h => ?_, fun i h => ?_, ?_, by rw [hv_sJ_rd, if_pos rfl], fun z => ?_, fun z => ?_⟩, fun g => absurd ⟨c3, hd⟩ g⟩
      · show u3.1 20 i = _
        rw [hw.1, c2.1, b2.1, a2.1]
        exact h20 i h
      · have key : mcF u3 i (cC F S ((cL F O S B).getD i 0)) := by
          rcases (show i = 0 ∨ i = 1 ∨ i = 2 by omega) with rfl | rfl | rfl
          · exact m0
          · exact m1
          · exact m2
        unfold mcF mcX
        rw [hv_sJ_ne _ _ _ (by decide), hv_sJ_ne _ _ _ (by decide), hv_sJ_ne _ _ _ (by decide)]
        exact key
      · unfold mcF mcX
        rw [hv_sJ_ne _ _ _ (by decide), hv_sJ_ne _ _ _ (by decide), hv_sJ_ne _ _ _ (by decide)]
        exact d3
      · rw [e1, fin, if_pos ((iL_0 ur).mpr z)]
      · rw [e1, fin, if_neg (fun y => z ((iL_0 ur).mp y))]
    · refine ⟨τ, t2, fun g => absurd g.1 c3, fun _ => ?_⟩
      rw [e1, if_neg (show ¬ nI (cL F O S B).length = (3 : Int32) from fun z => c3 ((nI_eq (b := 3) (by omega) (by decide)).mp z))]
def kM (F : Nat → Nat → Int32) (P B O S : Nat) (i c : Nat) : Nat → Int := if c = i then lC F S P else cC F S ((cL F O S B).getD c 0)
theorem x1_over {n : Nat} {F : Nat → Nat → Int32} {P B O S : Nat} {τ : hv_St} (h : ∀ i, i < 3 → mcF τ i (cC F S ((cL F O S B).getD i 0))) (h3 : mcF τ 3 (lC F S P)) {i : Nat} (hi : i < 3) : mX1_overOf n τ (nI i) = some (iL (-(d3f (kM F P B O S i 0) (kM F P B O S i 1) (kM F P B O S i 2))), τ) := by
  rcases (show i = 0 ∨ i = 1 ∨ i = 2 by omega) with rfl | rfl | rfl
  · have dt := x1_det (n := n) (show 3 < 4 by decide) (show 1 < 4 by decide) (show 2 < 4 by decide) h3 (h 1 (by omega)) (h 2 (by omega))
    unfold mX1_overOf kX1_overOf_12 kX1_overOf_22
    rw [if_pos (show nI 0 = 0 from rfl), if_neg (show ¬ nI 0 = 1 by decide), if_neg (show ¬ nI 0 = 2 by decide), show mX1_determinant n τ (3 : Int32) (1 : Int32) (2 : Int32) = _ from dt, hv_b2_e, iL_neg]
    rfl
  · have dt := x1_det (n := n) (show 0 < 4 by decide) (show 3 < 4 by decide) (show 2 < 4 by decide) (h 0 (by omega)) h3 (h 2 (by omega))
    unfold mX1_overOf kX1_overOf_12 kX1_overOf_22
    rw [if_neg (show ¬ nI 1 = 0 by decide), if_pos (show nI 1 = 1 from rfl), if_neg (show ¬ nI 1 = 2 by decide), show mX1_determinant n τ (0 : Int32) (3 : Int32) (2 : Int32) = _ from dt, hv_b2_e, iL_neg]
    rfl
  · have dt := x1_det (n := n) (show 0 < 4 by decide) (show 1 < 4 by decide) (show 3 < 4 by decide) (h 0 (by omega)) (h 1 (by omega)) h3
    unfold mX1_overOf kX1_overOf_12 kX1_overOf_22
    rw [if_neg (show ¬ nI 2 = 0 by decide), if_neg (show ¬ nI 2 = 1 by decide), if_pos (show nI 2 = 2 from rfl), show mX1_determinant n τ (0 : Int32) (1 : Int32) (3 : Int32) = _ from dt, hv_b2_e, iL_neg]
    rfl
theorem x1_index {n : Nat} (hn : 12 < n) {σ : hv_St} (v : Int32) : mX1_indexOf n σ v = some (if σ.1 20 2 = v then 2 else if σ.1 20 1 = v then 1 else if σ.1 20 0 = v then 0 else -1, σ) := by
  have st : ∀ (k : Nat) (f : Nat) (x : Int32), k < 3 → kX1_indexOf_4 n (f + 1) σ v x (nI k) = kX1_indexOf_4 n f σ v (if σ.1 20 k = v then nI k else x) (nI (k + 1)) := fun k f x hk => by
    show kX1_indexOf_4_b n _ _ _ _ _ = _
    unfold kX1_indexOf_4_b kX1_indexOf_21
    rw [if_neg (show ¬ (3 : Int32) ≤ nI k from nI_ge (b := 3) hk (by decide)), hv_if_t (hv_ok_nI hk (by decide)), nI_clamp (show k < 2 ^ 31 by omega), nI_1]
    by_cases c : σ.1 20 k = v
    · rw [if_pos c, if_pos c]
    · rw [if_neg c, if_neg c]
  have key : ∀ f, kX1_indexOf_4 n (f + 4) σ v (-1) (nI 0) = some (if σ.1 20 2 = v then 2 else if σ.1 20 1 = v then 1 else if σ.1 20 0 = v then 0 else -1, σ) := fun f => by
    rw [st 0 (f + 3) _ (by omega), st 1 (f + 2) _ (by omega), st 2 (f + 1) _ (by omega)]
    show kX1_indexOf_4_b n _ _ _ _ _ = _
    unfold kX1_indexOf_4_b
    rw [if_pos (show (3 : Int32) ≤ nI (2 + 1) by decide)]
    rfl
  obtain ⟨f, rfl⟩ : ∃ f, n = f + 4 := ⟨n - 4, by omega⟩
  exact key f
