/-! bounds where at most two bars weigh 5 -/
def wH (F : Nat → Nat → Int32) (b : Nat) : Nat := (fX F (fC F b) 0 - fX F (fA F b) 0).natAbs + (fX F (fC F b) 1 - fX F (fA F b) 1).natAbs
theorem fCol_Wh (F : Nat → Nat → Int32) (P b : Nat) : md_W (fR F P) (fCol F P b) (wH F b) := by
  refine md_W_on (md_W_le (md_W_lin (md_W_net (fNet_net F P (fA F b) (fC F b) 0)) (md_W_net (fNet_net F P (fA F b) (fC F b) 1)) (fX F (fC F b) 0 - fX F (fA F b) 0) (fX F (fC F b) 1 - fX F (fA F b) 1)) (by unfold wH; omega)) (fun r _ => ?_)
  show fBr F b _ _ = _
  unfold fBr fNet
  have hw : (fL F (2 * P)).getD r 0 % 2 = 0 ∨ (fL F (2 * P)).getD r 0 % 2 = 1 := by omega
  rcases hw with e | e
  · rw [e, if_pos (show (0 : Nat) = 0 from rfl), if_neg (show ¬ (0 : Nat) = 1 by decide)]
    by_cases c1 : fA F b = (fL F (2 * P)).getD r 0 / 2
    · rw [if_pos c1, if_pos c1]; omega
    · rw [if_neg c1, if_neg c1]
      by_cases c2 : fC F b = (fL F (2 * P)).getD r 0 / 2
      · rw [if_pos c2, if_pos c2]; omega
      · rw [if_neg c2, if_neg c2]; omega
  · rw [e, if_neg (show ¬ (1 : Nat) = 0 by decide), if_pos (show (1 : Nat) = 1 from rfl)]
    by_cases c1 : fA F b = (fL F (2 * P)).getD r 0 / 2
    · rw [if_pos c1, if_pos c1]; omega
    · rw [if_neg c1, if_neg c1]
      by_cases c2 : fC F b = (fL F (2 * P)).getD r 0 / 2
      · rw [if_pos c2, if_pos c2]; omega
      · rw [if_neg c2, if_neg c2]; omega
theorem pin_eq {F : Nat → Nat → Int32} {P : Nat} (hdp : fDp F P) {p q : Nat} (hp : p < P) (hq : q < P) (h0 : fX F p 0 = fX F q 0) (h1 : fX F p 1 = fX F q 1) : p = q := by
  unfold fX at h0 h1
  rw [if_pos rfl, if_pos rfl] at h0
  rw [if_neg (by decide), if_neg (by decide)] at h1
  have e0 := Int32.toInt_inj.mp h0
  have e1 := Int32.toInt_inj.mp h1
  rcases Nat.lt_trichotomy p q with l | l | l
  · exact absurd ⟨e0, e1⟩ (hdp p q l hq)
  · exact l
  · exact absurd ⟨e0.symm, e1.symm⟩ (hdp q p l hp)
theorem bar_eq {F : Nat → Nat → Int32} {P B O D W : Nat} (hi : hI F P B O D W) (hdb : fDb F B) {b c : Nat} (hb : b < B) (hc : c < B) (h : (fA F b = fA F c ∧ fC F b = fC F c) ∨ (fA F b = fC F c ∧ fC F b = fA F c)) : b = c := by
  obtain ⟨b1, -, b3, -⟩ := hI_ends hi hb
  obtain ⟨c1, -, c3, -⟩ := hI_ends hi hc
  have key : ∀ x y, x < y → y < B → F 5 x = nI (fA F x) → F 6 x = nI (fC F x) → F 5 y = nI (fA F y) → F 6 y = nI (fC F y) → ((fA F x = fA F y ∧ fC F x = fC F y) ∨ (fA F x = fC F y ∧ fC F x = fA F y)) → False := fun x y l ly x1 x3 y1 y3 q => by
    refine (hdb y ly).2 x l ?_
    rw [x1, x3, y1, y3]
    rcases q with q | q
    · exact Or.inl ⟨by rw [q.1], by rw [q.2]⟩
    · exact Or.inr ⟨by rw [q.1], by rw [q.2]⟩
  rcases Nat.lt_trichotomy b c with l | l | l
  · exact (key b c l hc b1 b3 c1 c3 h).elim
  · exact l
  · refine (key c b l hb c1 c3 b1 b3 ?_).elim
    rcases h with q | q
    · exact Or.inl ⟨q.1.symm, q.2.symm⟩
    · exact Or.inr ⟨q.2.symm, q.1.symm⟩
theorem heavy_2 {F : Nat → Nat → Int32} {P B O D W : Nat} (hi : hI F P B O D W) (hdp : fDp F P) (hdb : fDb F B) : ∃ c1 c2, ∀ b, b < B → wH F b ≤ if b = c1 ∨ b = c2 then 5 else 4 := by
  have sh : ∀ b, b < B → wH F b ≤ 5 ∧ (5 ≤ wH F b → (fX F (fA F b) 0 = 0 ∧ fX F (fA F b) 1 = 0 ∧ fX F (fC F b) 0 = 3 ∧ fX F (fC F b) 1 = 2) ∨ (fX F (fA F b) 0 = 3 ∧ fX F (fA F b) 1 = 2 ∧ fX F (fC F b) 0 = 0 ∧ fX F (fC F b) 1 = 0) ∨ (fX F (fA F b) 0 = 0 ∧ fX F (fA F b) 1 = 2 ∧ fX F (fC F b) 0 = 3 ∧ fX F (fC F b) 1 = 0) ∨ (fX F (fA F b) 0 = 3 ∧ fX F (fA F b) 1 = 0 ∧ fX F (fC F b) 0 = 0 ∧ fX F (fC F b) 1 = 2)) := fun b hb => by
    obtain ⟨-, e2, -, e4⟩ := hI_ends hi hb
    have h1 := fX_le hi e2 0
    have h2 := fX_le hi e4 0
    have h3 := fX_le hi e2 1
    have h4 := fX_le hi e4 1
    rw [if_pos rfl] at h1 h2
    rw [if_neg (by decide)] at h3 h4
    unfold wH
    omega
  have one : ∀ T : Nat → Prop, (∀ b c, b < B → c < B → T b → T c → b = c) → ∃ c0, ∀ b, b < B → T b → b = c0 := fun T h => by
    by_cases e : ∃ c, c < B ∧ T c
    · obtain ⟨c, h1, h2⟩ := e
      exact ⟨c, fun b hb hT => h b c hb h1 hT h2⟩
    · exact ⟨0, fun b hb hT => absurd ⟨b, hb, hT⟩ e⟩
  have pe : ∀ b c, b < B → c < B → fX F (fA F b) 0 = fX F (fA F c) 0 → fX F (fA F b) 1 = fX F (fA F c) 1 → fX F (fC F b) 0 = fX F (fC F c) 0 → fX F (fC F b) 1 = fX F (fC F c) 1 → b = c := fun b c hb hc q1 q2 q3 q4 => by
    obtain ⟨-, e2, -, e4⟩ := hI_ends hi hb
    obtain ⟨-, f2, -, f4⟩ := hI_ends hi hc
    exact bar_eq hi hdb hb hc (Or.inl ⟨pin_eq hdp e2 f2 q1 q2, pin_eq hdp e4 f4 q3 q4⟩)
  have px : ∀ b c, b < B → c < B → fX F (fA F b) 0 = fX F (fC F c) 0 → fX F (fA F b) 1 = fX F (fC F c) 1 → fX F (fC F b) 0 = fX F (fA F c) 0 → fX F (fC F b) 1 = fX F (fA F c) 1 → b = c := fun b c hb hc q1 q2 q3 q4 => by
    obtain ⟨-, e2, -, e4⟩ := hI_ends hi hb
    obtain ⟨-, f2, -, f4⟩ := hI_ends hi hc
    exact bar_eq hi hdb hb hc (Or.inr ⟨pin_eq hdp e2 f4 q1 q2, pin_eq hdp e4 f2 q3 q4⟩)
  obtain ⟨c1, h1⟩ := one (fun b => (fX F (fA F b) 0 = 0 ∧ fX F (fA F b) 1 = 0 ∧ fX F (fC F b) 0 = 3 ∧ fX F (fC F b) 1 = 2) ∨ (fX F (fA F b) 0 = 3 ∧ fX F (fA F b) 1 = 2 ∧ fX F (fC F b) 0 = 0 ∧ fX F (fC F b) 1 = 0)) (fun b c hb hc q r => by
    rcases q with ⟨a1, a2, a3, a4⟩ | ⟨a1, a2, a3, a4⟩ <;> rcases r with ⟨b1, b2, b3, b4⟩ | ⟨b1, b2, b3, b4⟩
    · exact pe b c hb hc (a1.trans b1.symm) (a2.trans b2.symm) (a3.trans b3.symm) (a4.trans b4.symm)
    · exact px b c hb hc (a1.trans b3.symm) (a2.trans b4.symm) (a3.trans b1.symm) (a4.trans b2.symm)
    · exact px b c hb hc (a1.trans b3.symm) (a2.trans b4.symm) (a3.trans b1.symm) (a4.trans b2.symm)
    · exact pe b c hb hc (a1.trans b1.symm) (a2.trans b2.symm) (a3.trans b3.symm) (a4.trans b4.symm))
  obtain ⟨c2, h2⟩ := one (fun b => (fX F (fA F b) 0 = 0 ∧ fX F (fA F b) 1 = 2 ∧ fX F (fC F b) 0 = 3 ∧ fX F (fC F b) 1 = 0) ∨ (fX F (fA F b) 0 = 3 ∧ fX F (fA F b) 1 = 0 ∧ fX F (fC F b) 0 = 0 ∧ fX F (fC F b) 1 = 2)) (fun b c hb hc q r => by
    rcases q with ⟨a1, a2, a3, a4⟩ | ⟨a1, a2, a3, a4⟩ <;> rcases r with ⟨b1, b2, b3, b4⟩ | ⟨b1, b2, b3, b4⟩
    · exact pe b c hb hc (a1.trans b1.symm) (a2.trans b2.symm) (a3.trans b3.symm) (a4.trans b4.symm)
    · exact px b c hb hc (a1.trans b3.symm) (a2.trans b4.symm) (a3.trans b1.symm) (a4.trans b2.symm)
    · exact px b c hb hc (a1.trans b3.symm) (a2.trans b4.symm) (a3.trans b1.symm) (a4.trans b2.symm)
    · exact pe b c hb hc (a1.trans b1.symm) (a2.trans b2.symm) (a3.trans b3.symm) (a4.trans b4.symm))
  refine ⟨c1, c2, fun b hb => ?_⟩
  obtain ⟨s1, s2⟩ := sh b hb
  by_cases c : b = c1 ∨ b = c2
  · rw [if_pos c]
    exact s1
  · rw [if_neg c]
    refine Nat.le_of_not_lt (fun q => c ?_)
    rcases s2 q with q | q | q | q
    · exact Or.inl (h1 b hb (Or.inl q))
    · exact Or.inl (h1 b hb (Or.inr q))
    · exact Or.inr (h2 b hb (Or.inl q))
    · exact Or.inr (h2 b hb (Or.inr q))
/-- weights of 4, two of 5 -/
def w45 (c1 c2 b : Nat) : Nat := if b = c1 ∨ b = c2 then 5 else 4
theorem w45_eq (c1 c2 : Nat) : ∀ l : List Nat, 4 ^ (l.filter (fun b => decide (b = c1 ∨ b = c2))).length * md_P (l.map (w45 c1 c2)) = 5 ^ (l.filter (fun b => decide (b = c1 ∨ b = c2))).length * 4 ^ l.length
  | [] => rfl
  | b :: l => by
    have ih := w45_eq c1 c2 l
    show 4 ^ _ * (w45 c1 c2 b * md_P (l.map (w45 c1 c2))) = 5 ^ _ * 4 ^ (l.length + 1)
    unfold w45 at ih ⊢
    by_cases c : b = c1 ∨ b = c2
    · rw [List.filter_cons_of_pos (by exact decide_eq_true c), if_pos c, List.length_cons, Nat.pow_succ, Nat.pow_succ, Nat.pow_succ]
      generalize md_P _ = p at *
      generalize (List.filter _ l).length = k at *
      grind
    · rw [List.filter_cons_of_neg (by simpa using c), if_neg c, Nat.pow_succ]
      generalize md_P _ = p at *
      generalize (List.filter _ l).length = k at *
      grind
theorem two_le {c1 c2 : Nat} : ∀ m : List Nat, m.Nodup → (∀ b ∈ m, b = c1 ∨ b = c2) → m.length ≤ 2
  | [], _, _ => by decide
  | [_], _, _ => Nat.le_succ 1
  | [_, _], _, _ => Nat.le_refl 2
  | x :: y :: z :: r, hn, h => by
    have hx := h x (by simp)
    have hy := h y (by simp)
    have hz := h z (by simp)
    simp at hn
    omega
theorem w45_le {c1 c2 : Nat} {l : List Nat} (hn : l.Nodup) : 16 * md_P (l.map (w45 c1 c2)) ≤ 25 * 4 ^ l.length := by
  have q := w45_eq c1 c2 l
  have k2 := two_le (c1 := c1) (c2 := c2) (l.filter (fun b => decide (b = c1 ∨ b = c2))) (hn.filter _) (fun b hb => of_decide_eq_true (List.mem_filter.mp hb).2)
  generalize (l.filter (fun b => decide (b = c1 ∨ b = c2))).length = k at *
  generalize md_P (l.map (w45 c1 c2)) = p at *
  generalize 4 ^ l.length = r at *
  rcases (show k = 0 ∨ k = 1 ∨ k = 2 by omega) with rfl | rfl | rfl <;> simp at q <;> omega
