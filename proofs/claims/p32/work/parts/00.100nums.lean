/-! numbers of the machine as integers -/
abbrev iI (z : Int) : Int32 := Int32.ofInt z
abbrev iL (z : Int) : Int64 := Int64.ofInt z
def rI (z : Int) : Prop := -2147483648 < z ∧ z < 2147483648
def rL (z : Int) : Prop := -9223372036854775808 < z ∧ z < 9223372036854775808
theorem iI_toInt {z : Int} (h : rI z) : (iI z).toInt = z := Int32.toInt_ofInt_of_le (by have := h.1; omega) (by have := h.2; omega)
theorem iL_toInt {z : Int} (h : rL z) : (iL z).toInt = z := Int64.toInt_ofInt_of_le (by have := h.1; omega) (by have := h.2; omega)
theorem iI_of (x : Int32) : x = iI x.toInt := (Int32.ofInt_toInt x).symm
theorem iL_of (x : Int64) : x = iL x.toInt := (Int64.ofInt_toInt x).symm
theorem iI_add (a b : Int) : iI a + iI b = iI (a + b) := (Int32.ofInt_add a b).symm
theorem iI_sub (a b : Int) : iI a - iI b = iI (a - b) := (Int32.ofInt_sub a b).symm
theorem iI_mul (a b : Int) : iI a * iI b = iI (a * b) := (Int32.ofInt_mul a b).symm
theorem iI_neg (a : Int) : - iI a = iI (-a) := (Int32.ofInt_neg a).symm
theorem iL_add (a b : Int) : iL a + iL b = iL (a + b) := (Int64.ofInt_add a b).symm
theorem iL_sub (a b : Int) : iL a - iL b = iL (a - b) := (Int64.ofInt_sub a b).symm
theorem iL_mul (a b : Int) : iL a * iL b = iL (a * b) := (Int64.ofInt_mul a b).symm
theorem iL_neg (a : Int) : - iL a = iL (-a) := (Int64.ofInt_neg a).symm
theorem iI_eq {a b : Int} (ha : rI a) (hb : rI b) : iI a = iI b ↔ a = b := ⟨fun h => by rw [← iI_toInt ha, h, iI_toInt hb], fun h => by rw [h]⟩
theorem iI_le {a b : Int} (ha : rI a) (hb : rI b) : iI a ≤ iI b ↔ a ≤ b := by rw [Int32.le_iff_toInt_le, iI_toInt ha, iI_toInt hb]
theorem iI_lt {a b : Int} (ha : rI a) (hb : rI b) : iI a < iI b ↔ a < b := by rw [Int32.lt_iff_toInt_lt, iI_toInt ha, iI_toInt hb]
theorem iL_eq {a b : Int} (ha : rL a) (hb : rL b) : iL a = iL b ↔ a = b := ⟨fun h => by rw [← iL_toInt ha, h, iL_toInt hb], fun h => by rw [h]⟩
theorem iL_le {a b : Int} (ha : rL a) (hb : rL b) : iL a ≤ iL b ↔ a ≤ b := by rw [Int64.le_iff_toInt_le, iL_toInt ha, iL_toInt hb]
theorem iL_lt {a b : Int} (ha : rL a) (hb : rL b) : iL a < iL b ↔ a < b := by rw [Int64.lt_iff_toInt_lt, iL_toInt ha, iL_toInt hb]
theorem iL_div {a b : Int} (ha : rL a) (hb : rL b) : iL a / iL b = iL (a.tdiv b) := by
  refine (Int64.ofInt_tdiv ?_ ?_ ?_ ?_).symm
  · have := ha.1; show -9223372036854775808 ≤ a; omega
  · have := ha.2; show a ≤ 9223372036854775807; omega
  · have := hb.1; show -9223372036854775808 ≤ b; omega
  · have := hb.2; show b ≤ 9223372036854775807; omega
theorem iI_div {a b : Int} (ha : rI a) (hb : rI b) : iI a / iI b = iI (a.tdiv b) := by
  refine (Int32.ofInt_tdiv ?_ ?_ ?_ ?_).symm
  · have := ha.1; show -2147483648 ≤ a; omega
  · have := ha.2; show a ≤ 2147483647; omega
  · have := hb.1; show -2147483648 ≤ b; omega
  · have := hb.2; show b ≤ 2147483647; omega
theorem iI_L {a : Int} (h : rI a) : (iI a).toInt64 = iL a := by
  refine Int32.toInt64_ofInt ?_ ?_
  · have := h.1; show -2147483648 ≤ a; omega
  · have := h.2; show a ≤ 2147483647; omega
theorem nI_iI (n : Nat) : nI n = iI (n : Int) := (Int32.ofInt_eq_ofNat (n := n)).symm
theorem hv_ok_nI {k n : Nat} (h : k < n) (hn : n < 2 ^ 31) : hv_ok (nI k) n = true := decide_eq_true (vp_in_nI h hn)
theorem lg_cmp0 (x y : Int64) : lg_cmp x y = 0 ↔ x = y := by
  unfold lg_cmp
  by_cases h1 : y < x
  · rw [if_pos h1]
    constructor
    · intro h
      exact absurd h (by decide)
    · intro h
      subst h
      exact absurd h1 Int64.lt_irrefl
  · rw [if_neg h1]
    by_cases h2 : x = y
    · rw [if_pos h2]
      exact ⟨fun _ => h2, fun _ => rfl⟩
    · rw [if_neg h2]
      exact ⟨fun h => absurd h (by decide), fun h => absurd h h2⟩
