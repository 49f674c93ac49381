/-! the class's world: its own addresses alone -/
theorem hv_XE_congr {a a' : Nat → Nat} {cy : ClassId × ClassId × ClassId × ClassId} (h : ∀ j, j < 55 → a j = a' j) : ∀ i, i < 55 → ∀ (f : Nat → Int32) (g : Nat → Int64), hv_XE a cy i f g = hv_XE a' cy i f g := fun i hi f g => by
  match i, hi with
  | 0, _ =>
    show (Sum.inr (7, hv_fx0 a f g) : va_E) = .inr (7, hv_fx0 a' f g)
    unfold hv_fx0
    rw [h 1 (by decide), h 9 (by decide), h 13 (by decide), h 17 (by decide), h 19 (by decide), h 22 (by decide), h 26 (by decide)]
  | 1, _ =>
    show (Sum.inr (3, hv_fx1 a f g) : va_E) = .inr (3, hv_fx1 a' f g)
    unfold hv_fx1
    rw [h 2 (by decide), h 3 (by decide), h 4 (by decide), h 5 (by decide), h 6 (by decide), h 7 (by decide), h 8 (by decide)]
  | 2, _ => rfl
  | 3, _ => rfl
  | 4, _ => rfl
  | 5, _ => rfl
  | 6, _ => rfl
  | 7, _ => rfl
  | 8, _ => rfl
  | 9, _ =>
    show (Sum.inr (0, hv_fx9 a f g) : va_E) = .inr (0, hv_fx9 a' f g)
    unfold hv_fx9
    rw [h 1 (by decide), h 10 (by decide), h 11 (by decide), h 12 (by decide)]
  | 10, _ =>
    have e9 : (fun i => if i < 12 then some (a (27 + i)) else none) = (fun i => if i < 12 then some (a' (27 + i)) else none) := funext fun i => by
      by_cases hi : i < 12
      · rw [if_pos hi, if_pos hi, h _ (by omega)]
      · rw [if_neg hi, if_neg hi]
    show (Sum.inl (cy.2.2.2, 12, .inr (.inr (.inr (.inr (fun i => if i < 12 then some (a (27 + i)) else none))))) : va_E) = _
    rw [e9]
    rfl
  | 11, _ => rfl
  | 12, _ => rfl
  | 13, _ =>
    show (Sum.inr (5, hv_fx13 a f g) : va_E) = .inr (5, hv_fx13 a' f g)
    unfold hv_fx13
    rw [h 1 (by decide), h 9 (by decide), h 14 (by decide), h 15 (by decide), h 16 (by decide)]
  | 14, _ => rfl
  | 15, _ =>
    have e9 : (fun i => if i < 2 then some (a (39 + i)) else none) = (fun i => if i < 2 then some (a' (39 + i)) else none) := funext fun i => by
      by_cases hi : i < 2
      · rw [if_pos hi, if_pos hi, h _ (by omega)]
      · rw [if_neg hi, if_neg hi]
    show (Sum.inl (cy.2.2.2, 2, .inr (.inr (.inr (.inr (fun i => if i < 2 then some (a (39 + i)) else none))))) : va_E) = _
    rw [e9]
    rfl
  | 16, _ =>
    have e9 : (fun i => if i < 11 then some (a (41 + i)) else none) = (fun i => if i < 11 then some (a' (41 + i)) else none) := funext fun i => by
      by_cases hi : i < 11
      · rw [if_pos hi, if_pos hi, h _ (by omega)]
      · rw [if_neg hi, if_neg hi]
    show (Sum.inl (cy.2.2.2, 11, .inr (.inr (.inr (.inr (fun i => if i < 11 then some (a (41 + i)) else none))))) : va_E) = _
    rw [e9]
    rfl
  | 17, _ =>
    show (Sum.inr (4, hv_fx17 a f g) : va_E) = .inr (4, hv_fx17 a' f g)
    unfold hv_fx17
    rw [h 1 (by decide), h 18 (by decide)]
  | 18, _ => rfl
  | 19, _ =>
    show (Sum.inr (1, hv_fx19 a f g) : va_E) = .inr (1, hv_fx19 a' f g)
    unfold hv_fx19
    rw [h 1 (by decide), h 20 (by decide), h 21 (by decide)]
  | 20, _ => rfl
  | 21, _ =>
    have e9 : (fun i => if i < 3 then some (a (52 + i)) else none) = (fun i => if i < 3 then some (a' (52 + i)) else none) := funext fun i => by
      by_cases hi : i < 3
      · rw [if_pos hi, if_pos hi, h _ (by omega)]
      · rw [if_neg hi, if_neg hi]
    show (Sum.inl (cy.2.2.2, 3, .inr (.inr (.inr (.inr (fun i => if i < 3 then some (a (52 + i)) else none))))) : va_E) = _
    rw [e9]
    rfl
  | 22, _ =>
    show (Sum.inr (6, hv_fx22 a f g) : va_E) = .inr (6, hv_fx22 a' f g)
    unfold hv_fx22
    rw [h 23 (by decide), h 24 (by decide), h 25 (by decide)]
  | 23, _ => rfl
  | 24, _ => rfl
  | 25, _ => rfl
  | 26, _ =>
    show (Sum.inr (2, hv_fx26 a f g) : va_E) = .inr (2, hv_fx26 a' f g)
    unfold hv_fx26
    rfl
  | 27, _ => rfl
  | 28, _ => rfl
  | 29, _ => rfl
  | 30, _ => rfl
  | 31, _ => rfl
  | 32, _ => rfl
  | 33, _ => rfl
  | 34, _ => rfl
  | 35, _ => rfl
  | 36, _ => rfl
  | 37, _ => rfl
  | 38, _ => rfl
  | 39, _ => rfl
  | 40, _ => rfl
  | 41, _ => rfl
  | 42, _ => rfl
  | 43, _ => rfl
  | 44, _ => rfl
  | 45, _ => rfl
  | 46, _ => rfl
  | 47, _ => rfl
  | 48, _ => rfl
  | 49, _ => rfl
  | 50, _ => rfl
  | 51, _ => rfl
  | 52, _ => rfl
  | 53, _ => rfl
  | 54, _ => rfl
  | i + 55, hi => exact absurd hi (by omega)
