/-! left, influence -/
theorem op_left {n : Nat} (hn : 2100 ≤ n) {F : Nat → Nat → Int32} {P B O D W : Nat} {σX σM : hv_St} (h : hR F P B O D W σX σM) (v w u : Int32) : hT F P B O D W (mX7_left n σX v w u) (mX8_left n σM v w u) := by
  obtain ⟨hi, hx, hm⟩ := h
  have hB := hi.2.1.2
  have hO := hi.2.2.1
  have o31 : O < 2 ^ 31 := by have := p2048 hB hO.2; omega
  have bX : σX.1 1 1 = nI B := hx.1.2.1.trans hi.2.1.1
  have oX' : σX.1 1 2 = nI O := hx.1.2.2.1.trans hO.1
  obtain ⟨g, g1, g2, g3⟩ := r8_takesLoads (n := n) (by omega) hi hm
  have bM : (hv_wI σM 16 g).1 0 6 = nI B := g2.1.2.1.trans hi.2.1.1
  have oM : (hv_wI σM 16 g).1 0 11 = nI O := g2.1.2.2.1.trans hO.1
  have no : ∀ τX τM, rX F τX → rM F τM → kX8_left_81 n τM w u = some (0, hv_sI τM 0 0 1) ∧ hR F P B O D W τX (hv_sI τM 0 0 1) ∧ (hv_sI τM 0 0 1).1 0 0 = 1 := fun τX τM h1 h2 => by
    refine ⟨?_, ⟨hi, h1, rM_sc h2 (by decide) 1⟩, by rw [hv_sI_rd, if_pos rfl]⟩
    unfold kX8_left_81 kX8_left_82
    rw [hv_let_e, hv_sI_rd, if_pos rfl, if_neg (by decide)]
  have hno : mX7_left n σX v w u = some (none, σX) → mX8_left n σM v w u = kX8_left_51 n (hv_wI σM 16 g) v w u → hT F P B O D W (mX7_left n σX v w u) (mX8_left n σM v w u) := fun e1 e2 => by
    obtain ⟨q1, q2, q3⟩ := no σX _ hx g2
    refine ⟨σX, _, q2, Or.inr ⟨0, e1, ?_, q3⟩⟩
    rw [e2]
    unfold kX8_left_51 kX8_left_52
    rw [if_pos rfl, q1]
  have on_iff : ∀ v, fO B (σX.1 1 2) v ↔ fN B v ∧ fB (nI O) v := fun v => by rw [oX']; rfl
  by_cases hv : fN B v
  · by_cases hon : fB (nI O) v
    · have c1 := (x3_isOn (n := n) (by omega) bX v).1 ((on_iff v).mpr ⟨hv, hon⟩)
      by_cases hw : fN B w
      · by_cases how : fB (nI O) w
        · have c2 := (x3_isOn (n := n) (by omega) bX w).1 ((on_iff w).mpr ⟨hw, how⟩)
          by_cases hvw : v = w
          · refine hno ?_ ?_
            · unfold mX7_left kX7_left_31 kX7_left_32
              rw [c1, hv_b2_e, if_neg (by decide), c2, hv_b2_e, if_neg (by decide), if_pos hvw, need_0]
            · unfold mX8_left
              rw [g1, hv_bd_e, (r8_isBar (by omega) bM v).1 hv, hv_b2_e, if_neg (by decide), (r8_isBar (by omega) bM w).1 hw, hv_b2_e, if_neg (by decide), if_pos hvw]
          · have e7 : mX7_left n σX v w u = kX7_left_32 n σX v w u 1 := by
              unfold mX7_left
              rw [c1, hv_b2_e, if_neg (by decide), c2, hv_b2_e, if_neg (by decide), if_neg hvw]
            have e8 : mX8_left n σM v w u = kX8_left_52 n (hv_wI σM 16 g) v w u 1 := by
              unfold mX8_left
              rw [g1, hv_bd_e, (r8_isBar (by omega) bM v).1 hv, hv_b2_e, if_neg (by decide), (r8_isBar (by omega) bM w).1 hw, hv_b2_e, if_neg (by decide), if_neg hvw, oM, (r8_isOn _ _).1 hon, hv_b2_e, if_neg (by decide), oM, (r8_isOn _ _).1 how, hv_b2_e, if_neg (by decide)]
            rw [e7, e8]
            obtain ⟨a, ha, rfl⟩ := hv
            obtain ⟨b, hb, rfl⟩ := hw
            have nab : a ≠ b := fun q => hvw (by rw [q])
            have hS : andn O (2 ^ a) < 2 ^ B := andn_lt hO.2
            have hbs : (andn O (2 ^ a)).testBit b = true := (andn_bit O (2 ^ a) b).mpr ⟨(fB_iff o31 (by omega)).mp how, fun q => nab ((tb_pow a b).mp q).symm⟩
            have ee : nI O &&& (((1 : Int32) <<< (nI a &&& 31)) ^^^ (-1)) = nI (andn O (2 ^ a)) := by rw [nI_shl (by omega), nI_andn]
            obtain ⟨τX, τM, r1, r2, -, -, -, r4⟩ := both_bears hn hi hS hx g2 (Or.inl rfl) (ldX hi hx) g3
            rcases r4 with ⟨y1, y2, -⟩ | ⟨y1, y2, -, y3⟩
            · obtain ⟨q1, q2, q3⟩ := no τX τM r1 r2
              refine ⟨τX, hv_sI τM 0 0 1, q2, Or.inr ⟨0, ?_, ?_, q3⟩⟩
              · unfold kX7_left_32
                rw [need_1, oX', ee, y1, hv_b2_e, need_0]
              · unfold kX8_left_52
                rw [if_neg (by decide), oM, ee, y2, hv_b2_e, if_pos rfl, q1]
            · obtain ⟨τ', t1, t2⟩ := tp_X hn hi hS (fun s hs => (ldz_e hi hs).2) y3 hb hbs u
              have e0 : (hv_sI τM 0 0 0).1 0 0 = 0 := by rw [hv_sI_rd, if_pos rfl]
              refine ⟨τ', hv_sI τM 0 0 0, ⟨hi, rX_1 r1 (fun k _ => by rw [t2]), rM_sc r2 (by decide) 0⟩, Or.inl ⟨iL (pv F P B (andn O (2 ^ a)) (ldz F) b u), ?_, ?_, e0⟩⟩
              · unfold kX7_left_32
                rw [need_1, oX', ee, y1, hv_b2_e, need_1, t1, hv_b2_e]
              · unfold kX8_left_52 kX8_left_82
                rw [if_neg (by decide), oM, ee, y2, hv_b2_e, if_neg (by decide), hv_let_e, e0, if_pos (by decide), hv_if_t (hv_ok_nI (show b < 11 by omega) (by decide)), nI_clamp (by omega)]
                show (hv_b2 (mX8_told n _ (τM.2 15 b) (τM.2 0 24) u) fun r65 s65 => some (r65, s65)) = _
                rw [y3.2.2.1 b hb, y3.2.1, tp_M hn y3 b u, hv_b2_e]
        · refine hno ?_ ?_
          · unfold mX7_left kX7_left_31 kX7_left_32
            rw [c1, hv_b2_e, if_neg (by decide), (x3_isOn (by omega) bX w).2 (fun q => how ((on_iff w).mp q).2), hv_b2_e, if_pos rfl, need_0]
          · unfold mX8_left
            rw [g1, hv_bd_e, (r8_isBar (by omega) bM v).1 hv, hv_b2_e, if_neg (by decide), (r8_isBar (by omega) bM w).1 hw, hv_b2_e, if_neg (by decide)]
            by_cases hvw : v = w
            · rw [if_pos hvw]
            · rw [if_neg hvw, oM, (r8_isOn _ _).1 hon, hv_b2_e, if_neg (by decide), oM, (r8_isOn _ _).2 how, hv_b2_e, if_pos rfl]
      · refine hno ?_ ?_
        · unfold mX7_left kX7_left_31 kX7_left_32
          rw [c1, hv_b2_e, if_neg (by decide), (x3_isOn (by omega) bX w).2 (fun q => hw ((on_iff w).mp q).1), hv_b2_e, if_pos rfl, need_0]
        · unfold mX8_left
          rw [g1, hv_bd_e, (r8_isBar (by omega) bM v).1 hv, hv_b2_e, if_neg (by decide), (r8_isBar (by omega) bM w).2 hw, hv_b2_e, if_pos rfl]
    · refine hno ?_ ?_
      · unfold mX7_left kX7_left_31 kX7_left_32
        rw [(x3_isOn (by omega) bX v).2 (fun q => hon ((on_iff v).mp q).2), hv_b2_e, if_pos rfl, need_0]
      · unfold mX8_left
        rw [g1, hv_bd_e, (r8_isBar (by omega) bM v).1 hv, hv_b2_e, if_neg (by decide)]
        by_cases hw : fN B w
        · rw [(r8_isBar (by omega) bM w).1 hw, hv_b2_e, if_neg (by decide)]
          by_cases hvw : v = w
          · rw [if_pos hvw]
          · rw [if_neg hvw, oM, (r8_isOn _ _).2 hon, hv_b2_e, if_pos rfl]
        · rw [(r8_isBar (by omega) bM w).2 hw, hv_b2_e, if_pos rfl]
  · refine hno ?_ ?_
    · unfold mX7_left kX7_left_31 kX7_left_32
      rw [(x3_isOn (by omega) bX v).2 (fun q => hv ((on_iff v).mp q).1), hv_b2_e, if_pos rfl, need_0]
    · unfold mX8_left
      rw [g1, hv_bd_e, (r8_isBar (by omega) bM v).2 hv, hv_b2_e, if_pos rfl]
/-! no loads taken -/
theorem r8_none {n : Nat} {σ : hv_St} : ∀ (d k fuel : Nat) (f : Nat → Int32), k + d = 12 → d < fuel → (∀ s, s < k → f s = 0) → ∃ g, kX8_takesNone_2 n fuel (hv_wI σ 16 f) (nI k) = some (hv_wI σ 16 g) ∧ ∀ s, s < 12 → g s = 0 := by
  intro d
  induction d with
  | zero =>
    intro k fuel f hk hf hg
    obtain ⟨fuel, rfl⟩ : ∃ q, fuel = q + 1 := ⟨fuel - 1, by omega⟩
    refine ⟨f, ?_, fun s hs => hg s (by omega)⟩
    show kX8_takesNone_2_b n _ _ _ = _
    unfold kX8_takesNone_2_b
    rw [if_pos (show (12 : Int32) ≤ nI k from nI_le (a := 12) (by omega) (by omega))]
  | succ d ih =>
    intro k fuel f hk hf hg
    obtain ⟨fuel, rfl⟩ : ∃ q, fuel = q + 1 := ⟨fuel - 1, by omega⟩
    obtain ⟨g, g1, g2⟩ := ih (k + 1) fuel (upd f k 0) (by omega) (by omega) (fun s hs => by
      by_cases e : s = k
      · rw [e, pk_us]
      · rw [pk_un e]
        exact hg s (by omega))
    refine ⟨g, ?_, g2⟩
    show kX8_takesNone_2_b n _ _ _ = _
    unfold kX8_takesNone_2_b
    rw [if_neg (show ¬ (12 : Int32) ≤ nI k from nI_ge (b := 12) (by omega) (by decide)), hv_if_t (hv_ok_nI (show k < 12 by omega) (by decide)), hv_let_e, nI_clamp (by omega), hv_sI_wI, nI_1]
    exact g1
theorem r8_takesNone {n : Nat} (hn : 20 < n) {σ : hv_St} : ∃ g, mX8_takesNone n σ = some (hv_wI σ 16 g) ∧ ∀ s, s < 12 → g s = 0 := by
  obtain ⟨g, g1, g2⟩ := r8_none (n := n) (σ := σ) 12 0 n (σ.1 16) rfl (by omega) (fun s hs => absurd hs (Nat.not_lt_zero _))
  rw [hv_wI_self] at g1
  exact ⟨g, g1, g2⟩
theorem x6_clr {n : Nat} {σ : hv_St} : ∀ (d k fuel : Nat) (f : Nat → Int32), k + d = 12 → d < fuel → (∀ s, s < k → f s = 0) → ∃ g, kX6_clearLoads_2 n fuel (hv_wI σ 25 f) (nI k) = some (hv_wI σ 25 g) ∧ ∀ s, s < 12 → g s = 0 := by
  intro d
  induction d with
  | zero =>
    intro k fuel f hk hf hg
    obtain ⟨fuel, rfl⟩ : ∃ q, fuel = q + 1 := ⟨fuel - 1, by omega⟩
    refine ⟨f, ?_, fun s hs => hg s (by omega)⟩
    show kX6_clearLoads_2_b n _ _ _ = _
    unfold kX6_clearLoads_2_b
    rw [if_pos (show (12 : Int32) ≤ nI k from nI_le (a := 12) (by omega) (by omega))]
  | succ d ih =>
    intro k fuel f hk hf hg
    obtain ⟨fuel, rfl⟩ : ∃ q, fuel = q + 1 := ⟨fuel - 1, by omega⟩
    obtain ⟨g, g1, g2⟩ := ih (k + 1) fuel (upd f k 0) (by omega) (by omega) (fun s hs => by
      by_cases e : s = k
      · rw [e, pk_us]
      · rw [pk_un e]
        exact hg s (by omega))
    refine ⟨g, ?_, g2⟩
    show kX6_clearLoads_2_b n _ _ _ = _
    unfold kX6_clearLoads_2_b
    rw [if_neg (show ¬ (12 : Int32) ≤ nI k from nI_ge (b := 12) (by omega) (by decide)), hv_if_t (hv_ok_nI (show k < 12 by omega) (by decide)), hv_let_e, nI_clamp (by omega), hv_sI_wI, nI_1]
    exact g1
theorem x6_clearLoads {n : Nat} (hn : 20 < n) {σ : hv_St} : ∃ g, mX6_clearLoads n σ = some (hv_wI σ 25 g) ∧ ∀ s, s < 12 → g s = 0 := by
  obtain ⟨g, g1, g2⟩ := x6_clr (n := n) (σ := σ) 12 0 n (σ.1 25) rfl (by omega) (fun s hs => absurd hs (Nat.not_lt_zero _))
  rw [hv_wI_self] at g1
  exact ⟨g, g1, g2⟩
theorem rX_25 {F : Nat → Nat → Int32} {σ : hv_St} (h : rX F σ) (g : Nat → Int32) : rX F (hv_wI σ 25 g) := rX_1 h (fun k hk => hv_wI_ne _ _ (by omega))
theorem op_influence {n : Nat} (hn : 2100 ≤ n) {F : Nat → Nat → Int32} {P B O D W : Nat} {σX σM : hv_St} (h : hR F P B O D W σX σM) (v p d u : Int32) : hT F P B O D W (mX7_influence n σX v p d u) (mX8_influence n σM v p d u) := by
  obtain ⟨hi, hx, hm⟩ := h
  have hB := hi.2.1.2
  have hP := hi.1.2
  have hO := hi.2.2.1
  have o31 : O < 2 ^ 31 := by have := p2048 hB hO.2; omega
  have bX : σX.1 1 1 = nI B := hx.1.2.1.trans hi.2.1.1
  have pX : σX.1 1 0 = nI P := hx.1.1.trans hi.1.1
  have oX' : σX.1 1 2 = nI O := hx.1.2.2.1.trans hO.1
  obtain ⟨g, g1, g2⟩ := r8_takesNone (n := n) (by omega) (σ := σM)
  have hm1 := rM_16 hm g
  have bM : (hv_wI σM 16 g).1 0 6 = nI B := hm1.1.2.1.trans hi.2.1.1
  have pM : (hv_wI σM 16 g).1 0 1 = nI P := hm1.1.1.trans hi.1.1
  have oM : (hv_wI σM 16 g).1 0 11 = nI O := hm1.1.2.2.1.trans hO.1
  have no : ∀ τX τM, rX F τX → rM F τM → kX8_influence_85 n τM v u = some (0, hv_sI τM 0 0 1) ∧ hR F P B O D W τX (hv_sI τM 0 0 1) ∧ (hv_sI τM 0 0 1).1 0 0 = 1 := fun τX τM h1 h2 => by
    refine ⟨?_, ⟨hi, h1, rM_sc h2 (by decide) 1⟩, by rw [hv_sI_rd, if_pos rfl]⟩
    unfold kX8_influence_85 kX8_influence_86
    rw [hv_let_e, hv_sI_rd, if_pos rfl, if_neg (by decide)]
  have hno : mX7_influence n σX v p d u = some (none, σX) → mX8_influence n σM v p d u = kX8_influence_45 n (hv_wI σM 16 g) v p d u → hT F P B O D W (mX7_influence n σX v p d u) (mX8_influence n σM v p d u) := fun e1 e2 => by
    obtain ⟨q1, q2, q3⟩ := no σX _ hx hm1
    refine ⟨σX, _, q2, Or.inr ⟨0, e1, ?_, q3⟩⟩
    rw [e2]
    unfold kX8_influence_45 kX8_influence_46 kX8_influence_64
    rw [if_pos rfl, if_pos rfl, q1]
  have on_iff : fO B (σX.1 1 2) v ↔ fN B v ∧ fB (nI O) v := by rw [oX']; rfl
  by_cases hv : fN B v
  · by_cases hon : fB (nI O) v
    · have c1 := (x3_isOn (n := n) (by omega) bX v).1 (on_iff.mpr ⟨hv, hon⟩)
      by_cases hp : fN P p
      · by_cases hd : fN 2 d
        · have e7 : mX7_influence n σX v p d u = kX7_influence_34 n σX v p d u 1 := by
            unfold mX7_influence
            rw [c1, hv_b2_e, if_neg (by decide), (x3_isPin (by omega) pX p).1 hp, hv_b2_e, if_neg (by decide), (x7_isDirection d).1 hd, hv_b2_e, if_neg (by decide)]
          have e8 : mX8_influence n σM v p d u = kX8_influence_46 n (hv_wI σM 16 g) v p d u 1 := by
            unfold mX8_influence
            rw [g1, hv_bd_e, (r8_isBar (by omega) bM v).1 hv, hv_b2_e, if_neg (by decide), oM, (r8_isOn _ _).1 hon, hv_b2_e, if_neg (by decide), (r8_isPin (by omega) pM p).1 hp, hv_b2_e, if_neg (by decide), (r8_inDir d).1 hd, hv_b2_e, if_neg (by decide)]
          rw [e7, e8]
          obtain ⟨b, hb, rfl⟩ := hv
          obtain ⟨a, ha, rfl⟩ := hp
          obtain ⟨e, he, rfl⟩ := hd
          have hbs : O.testBit b = true := (fB_iff o31 (by omega)).mp hon
          have ix : (2 : Int32) * nI a + nI e = nI (2 * a + e) := by rw [nI_2, nI_add]
          obtain ⟨f, f1, f2⟩ := x6_clearLoads (n := n) (by omega) (σ := σX)
          have zX' : ∀ s, s < 12 → (hv_sI (hv_wI σX 25 f) 25 (2 * a + e) 1).1 25 s = iI (if s = 2 * a + e then 1 else 0) ∧ (if s = 2 * a + e then (1 : Int) else 0).natAbs ≤ 9 := fun s hs => by
            rw [hv_sI_rd, hv_wI_at]
            by_cases c : s = 2 * a + e
            · rw [if_pos c, if_pos c]
              exact ⟨rfl, by decide⟩
            · rw [if_neg c, if_neg c, f2 s hs]
              exact ⟨rfl, by decide⟩
          have zM' : tkM (fun s => if s = 2 * a + e then 1 else 0) (hv_sI (hv_wI σM 16 g) 16 (2 * a + e) 1) := fun s hs => by
            rw [hv_sI_rd, hv_wI_at]
            by_cases c : s = 2 * a + e
            · rw [if_pos c]
              show _ = iI (if s = 2 * a + e then 1 else 0)
              rw [if_pos c]
              rfl
            · rw [if_neg c, g2 s hs]
              show _ = iI (if s = 2 * a + e then 1 else 0)
              rw [if_neg c]
              rfl
          have hx1 : rX F (hv_sI (hv_wI σX 25 f) 25 (2 * a + e) 1) := rX_1 (rX_25 hx f) (fun k hk => hv_sI_ne _ _ _ (by omega))
          have hm2 : rM F (hv_sI (hv_wI σM 16 g) 16 (2 * a + e) 1) := rM_sI hm1 (by decide) _ _
          obtain ⟨τX, τM, r1, r2, -, -, -, r4⟩ := both_bears hn hi hO.2 hx1 hm2 (Or.inr rfl) zX' zM'
          have h46 : kX8_influence_46 n (hv_wI σM 16 g) (nI b) (nI a) (nI e) u 1 = kX8_influence_64 n (hv_sI (hv_wI σM 16 g) 16 (2 * a + e) 1) (nI b) u 1 := by
            unfold kX8_influence_46
            rw [if_neg (by decide), ix, hv_if_t (hv_ok_nI (show 2 * a + e < 12 by omega) (by decide)), hv_let_e, nI_clamp (by omega)]
          have h34 : ∀ o, mX7_bears n (hv_sI (hv_wI σX 25 f) 25 (2 * a + e) 1) (nI O) 25 = o → kX7_influence_34 n σX (nI b) (nI a) (nI e) u 1 = hv_b2 o fun r57 s57 => hv_bx (mX7_need n s57 (r57)) fun y60 s60 => hv_b2 (mX7_toldPull n s60 (nI b) u) fun r67 s67 => some (some (r67), s67) := fun o ho => by
            unfold kX7_influence_34 mX6_oneLoad
            rw [need_1, f1, hv_bd_e, ix, hv_if_t (hv_ok_nI (show 2 * a + e < 12 by omega) (by decide)), hv_let_e, hv_bd_e, nI_clamp (by omega), oX', ho]
          rcases r4 with ⟨y1, y2, -⟩ | ⟨y1, y2, -, y3⟩
          · obtain ⟨q1, q2, q3⟩ := no τX τM r1 r2
            refine ⟨τX, hv_sI τM 0 0 1, q2, Or.inr ⟨0, ?_, ?_, q3⟩⟩
            · rw [h34 _ y1, hv_b2_e, need_0]
            · rw [h46]
              unfold kX8_influence_64
              rw [if_neg (by decide), hm2.1.2.2.1, hO.1, y2, hv_b2_e, if_pos rfl, q1]
          · obtain ⟨τ', t1, t2⟩ := tp_X hn hi hO.2 (fun s hs => (zX' s hs).2) y3 hb hbs u
            have e0 : (hv_sI τM 0 0 0).1 0 0 = 0 := by rw [hv_sI_rd, if_pos rfl]
            refine ⟨τ', hv_sI τM 0 0 0, ⟨hi, rX_1 r1 (fun k _ => by rw [t2]), rM_sc r2 (by decide) 0⟩, Or.inl ⟨iL (pv F P B O (fun s => if s = 2 * a + e then 1 else 0) b u), ?_, ?_, e0⟩⟩
            · rw [h34 _ y1, hv_b2_e, need_1, t1, hv_b2_e]
            · rw [h46]
              unfold kX8_influence_64 kX8_influence_86
              rw [if_neg (by decide), hm2.1.2.2.1, hO.1, y2, hv_b2_e, if_neg (by decide), hv_let_e, e0, if_pos (by decide), hv_if_t (hv_ok_nI (show b < 11 by omega) (by decide)), nI_clamp (by omega)]
              show (hv_b2 (mX8_told n _ (τM.2 15 b) (τM.2 0 24) u) fun r65 s65 => some (r65, s65)) = _
              rw [y3.2.2.1 b hb, y3.2.1, tp_M hn y3 b u, hv_b2_e]
        · refine hno ?_ ?_
          · unfold mX7_influence kX7_influence_33 kX7_influence_34
            rw [c1, hv_b2_e, if_neg (by decide), (x3_isPin (by omega) pX p).1 hp, hv_b2_e, if_neg (by decide), (x7_isDirection d).2 hd, hv_b2_e, if_pos rfl, need_0]
          · unfold mX8_influence
            rw [g1, hv_bd_e, (r8_isBar (by omega) bM v).1 hv, hv_b2_e, if_neg (by decide), oM, (r8_isOn _ _).1 hon, hv_b2_e, if_neg (by decide), (r8_isPin (by omega) pM p).1 hp, hv_b2_e, if_neg (by decide), (r8_inDir d).2 hd, hv_b2_e, if_pos rfl]
      · refine hno ?_ ?_
        · unfold mX7_influence kX7_influence_33 kX7_influence_34
          rw [c1, hv_b2_e, if_neg (by decide), (x3_isPin (by omega) pX p).2 hp, hv_b2_e, if_pos rfl, need_0]
        · unfold mX8_influence
          rw [g1, hv_bd_e, (r8_isBar (by omega) bM v).1 hv, hv_b2_e, if_neg (by decide), oM, (r8_isOn _ _).1 hon, hv_b2_e, if_neg (by decide), (r8_isPin (by omega) pM p).2 hp, hv_b2_e, if_pos rfl]
    · refine hno ?_ ?_
      · unfold mX7_influence kX7_influence_33 kX7_influence_34
        rw [(x3_isOn (by omega) bX v).2 (fun q => hon (on_iff.mp q).2), hv_b2_e, if_pos rfl, need_0]
      · unfold mX8_influence
        rw [g1, hv_bd_e, (r8_isBar (by omega) bM v).1 hv, hv_b2_e, if_neg (by decide), oM, (r8_isOn _ _).2 hon, hv_b2_e, if_pos rfl]
  · refine hno ?_ ?_
    · unfold mX7_influence kX7_influence_33 kX7_influence_34
      rw [(x3_isOn (by omega) bX v).2 (fun q => hv (on_iff.mp q).1), hv_b2_e, if_pos rfl, need_0]
    · unfold mX8_influence
      rw [g1, hv_bd_e, (r8_isBar (by omega) bM v).2 hv, hv_b2_e, if_pos rfl]
