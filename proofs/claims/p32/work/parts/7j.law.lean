/-! a new object's answers, and the law's six frames -/
def fZro : Nat → Nat → Int32 := fun _ _ => 0
theorem hI_0 : hI fZro 0 0 0 0 0 := by
  refine ⟨⟨rfl, by decide⟩, ⟨rfl, by decide⟩, ⟨rfl, by decide⟩, ⟨rfl, by decide⟩, ⟨rfl, by decide⟩, fun p hp => absurd hp (Nat.not_lt_zero _), fun b hb => absurd hb (Nat.not_lt_zero _), fun s _ => ⟨0, rfl, by decide, by decide⟩, fun p _ => ⟨0, by decide, rfl⟩, fun i hi => absurd hi (Nat.not_lt_zero _), fun i j hi => absurd hi (Nat.not_lt_zero _), fun i hi => absurd hi (Nat.not_lt_zero _)⟩
theorem rX_0 : rX fZro hv_0 := by
  refine ⟨⟨rfl, rfl, rfl, rfl, rfl⟩, fun p _ => ⟨rfl, rfl⟩, fun s _ => rfl, fun p w _ hw => ?_, fun b _ => ⟨rfl, rfl, rfl, rfl⟩, fun i _ => rfl, fun i _ => rfl⟩
  rcases (show w = 0 ∨ w = 1 by omega) with rfl | rfl
  · show (0 : Int32) = ((0 : Int32) >>> nI 0) &&& 1
    decide
  · show (0 : Int32) = ((0 : Int32) >>> nI 1) &&& 1
    decide
theorem kind_0 : fKind fZro 0 0 0 = 1 := rfl
theorem firm_0 : fFirm fZro 0 0 0 := by
  unfold fFirm
  rw [kind_0]
  decide
theorem lw_new {n : Nat} (hn : 2100 ≤ n) : ∃ s1 s2 s3, mX7_count n hv_0 4 = some (1, s1) ∧ mX7_count n s1 3 = some (0, s2) ∧ mX7_painted n s2 1 = some (0, s3) ∧ mX7_pin n s3 4 0 = some (-1, s3) ∧ mX7_bar n s3 0 1 1 = some (-1, s3) ∧ rX fZro s3 := by
  obtain ⟨Eb, Es, hE⟩ := fSe_ex hI_0 rX_0
  obtain ⟨s1, c4, x1⟩ := xp_count (n := n) (by omega) hE hI_0 rX_0 4 (by decide)
  obtain ⟨s2, c3, x2⟩ := xp_count (n := n) (by omega) hE hI_0 x1 3 (by decide)
  obtain ⟨s3, x3, p1⟩ := xp_painted1 hn hI_0 x2 firm_0
  have sX : s3.1 1 0 = nI 0 := x3.1.1
  have bX : s3.1 1 1 = nI 0 := x3.1.2.1
  refine ⟨s1, s2, s3, c4, c3, p1, ?_, ?_, x3⟩
  · have hf := x7_isFreePlace (n := n) (by omega) (show 0 ≤ 6 by decide) sX (4 : Int32) (0 : Int32)
    unfold mX7_pin
    rw [sX, if_neg (show ¬ (6 : Int32) ≤ nI 0 by decide), hf.2 (fun q => by
      obtain ⟨⟨k, hk, ek⟩, -⟩ := q.1
      have := (nI_eq (a := 4) (b := k) (by decide) (by omega)).mp ek
      omega), hv_b2_e, if_pos rfl]
  · unfold mX7_bar
    rw [bX, if_neg (show ¬ (11 : Int32) ≤ nI 0 by decide), (x3_isPin (by decide) sX 0).2 (fun ⟨k, hk, _⟩ => absurd hk (Nat.not_lt_zero _)), hv_b2_e, if_pos rfl]
    unfold kX7_bar_43 kX7_bar_44
    rw [if_pos rfl]
theorem bgP_0 (x : Int32) {s3 : hv_St} (hx : rX fZro s3) : bgP fZro 0 s3 (hv_sI hv_0 0 0 x) := by
  refine ⟨hI_0, hx, ⟨?_, ?_, ?_, fun p hp => absurd hp (Nat.not_lt_zero _), fun b hb => absurd hb (Nat.not_lt_zero _)⟩, fun p q _ hq => absurd hq (Nat.not_lt_zero _), fun p => rfl⟩
  · rw [hv_sI_ne _ _ _ (by decide)]
    rfl
  · rw [hv_sI_ne _ _ _ (by decide)]
    rfl
  · rw [hv_sI_ne _ _ _ (by decide)]
    rfl
theorem lw_15 {n : Nat} (hn : 2100 ≤ n) (hJ : 5 * 2147483649 < n) {L : Nat} (hL : L ≤ 260) {xs : Nat → Int32} {r2 : Int32 → Option Unit} {k : Nat} (hk : k < 6) : kQ_law_15 n L xs r2 (nI k) = r2 (nI (k + 1)) := by
  obtain ⟨s1, s2, s3, c1, c2, c3, c4, c5, x3⟩ := lw_new hn
  have run : ∀ x : Int32, ∃ o91, mQ_begins n s3 (hv_sI hv_0 0 0 x) 5 = some o91 ∧ kQ_law_106 n r2 4 o91.1 o91.2 (nI k) 0 = r2 (nI (k + 1)) := fun x => by
    obtain ⟨d, ed⟩ := nI_ex x
    obtain ⟨N, B, F, σ, τ, d', h3, h5, h11, hB, h7, hl, hd', hm⟩ := bg_all (n := n) (by omega) hJ (bgP_0 x x3) (d := d) (by rw [hv_sI_rd, if_pos rfl, ed])
    refine ⟨(σ, τ), hm, ?_⟩
    rw [← nI_1]
    exact lf_106 hn 3 0 4 F N B (2 ^ B - 1) σ τ rfl (by decide) (lf_of hl h5 h7 (by omega) hd')
  unfold kQ_law_15
  rw [c1, hv_b2_e, if_pos rfl, c2, hv_b2_e, if_pos rfl, c3, hv_b2_e, if_pos rfl, c4, hv_b2_e, if_pos rfl, c5, hv_b2_e, if_pos rfl]
  by_cases c : Int32.ofNat L ≤ nI k
  · obtain ⟨o, o1, o2⟩ := run ((37 : Int32) * nI k)
    rw [if_pos c, hv_let_e, o1, hv_bd_e]
    exact o2
  · have hkL : k < L := Nat.lt_of_not_le (fun q => c (nI_le (a := L) q (by omega)))
    obtain ⟨o, o1, o2⟩ := run (xs (nI k).toNatClampNeg)
    rw [if_neg c, hv_if_t (hv_ok_nI hkL (by omega)), hv_let_e, o1, hv_bd_e]
    exact o2
theorem lw_2 {n : Nat} (hn : 2100 ≤ n) (hJ : 5 * 2147483649 < n) {L : Nat} (hL : L ≤ 260) (xs : Nat → Int32) : ∀ (d k fuel : Nat), k + d = 6 → d < fuel → kQ_law_2 n L xs fuel (nI k) = some () := by
  intro d
  induction d with
  | zero =>
    intro k fuel hk hfu
    obtain ⟨fuel, rfl⟩ : ∃ q, fuel = q + 1 := ⟨fuel - 1, by omega⟩
    obtain rfl : k = 6 := by omega
    show (if (6 : Int32) ≤ nI 6 then some () else kQ_law_15 n L xs (kQ_law_2 n L xs fuel) (nI 6)) = some ()
    rw [if_pos (by decide)]
  | succ d ih =>
    intro k fuel hk hfu
    obtain ⟨fuel, rfl⟩ : ∃ q, fuel = q + 1 := ⟨fuel - 1, by omega⟩
    show (if (6 : Int32) ≤ nI k then some () else kQ_law_15 n L xs (kQ_law_2 n L xs fuel) (nI k)) = some ()
    rw [if_neg (show ¬ (6 : Int32) ≤ nI k from nI_ge (b := 6) (by omega) (by decide)), lw_15 hn hJ hL (by omega)]
    exact ih (k + 1) fuel (by omega) (by omega)
