section
/-! states, the small words of the methods' functions -/
abbrev hv_St : Type := (Nat → Nat → Int32) × (Nat → Nat → Int64)
def hv_sI (σ : hv_St) (i k : Nat) (v : Int32) : hv_St := (fun j => if j = i then upd (σ.1 j) k v else σ.1 j, σ.2)
def hv_sJ (σ : hv_St) (i k : Nat) (v : Int64) : hv_St := (σ.1, fun j => if j = i then vp_updL (σ.2 j) k v else σ.2 j)
theorem hv_sI_at (σ : hv_St) (i k : Nat) (v : Int32) : (hv_sI σ i k v).1 i = upd (σ.1 i) k v := if_pos rfl
theorem hv_sI_ne (σ : hv_St) {i j : Nat} (k : Nat) (v : Int32) (h : j ≠ i) : (hv_sI σ i k v).1 j = σ.1 j := if_neg h
theorem hv_sJ_at (σ : hv_St) (i k : Nat) (v : Int64) : (hv_sJ σ i k v).2 i = vp_updL (σ.2 i) k v := if_pos rfl
theorem hv_sJ_ne (σ : hv_St) {i j : Nat} (k : Nat) (v : Int64) (h : j ≠ i) : (hv_sJ σ i k v).2 j = σ.2 j := if_neg h
def hv_ok (i : Int32) (n : Nat) : Bool := decide (¬ (i < 0 ∨ n ≤ i.toNatClampNeg))
theorem hv_in {i : Int32} {n : Nat} (h : hv_ok i n = true) : vp_in i n := by
  have h2 : ¬ (i < 0 ∨ n ≤ i.toNatClampNeg) := of_decide_eq_true h
  exact h2
theorem hv_lt {i : Int32} {n : Nat} (h : hv_ok i n = true) : i.toNatClampNeg < n := Nat.not_le.mp fun q => (hv_in h) (Or.inr q)
def hv_if {ρ : Type} (b : Bool) (k : Option ρ) : Option ρ := bif b then k else none
theorem hv_if_some {ρ : Type} {b : Bool} {k : Option ρ} {o : ρ} (h : hv_if b k = some o) : b = true ∧ k = some o := by
  cases b with
  | true => exact ⟨rfl, h⟩
  | false => cases h
def hv_let {τ ρ : Type} (x : τ) (k : τ → Option ρ) : Option ρ := k x
theorem hv_let_some {τ ρ : Type} {x : τ} {k : τ → Option ρ} {o : ρ} (h : hv_let x k = some o) : ∃ y, y = x ∧ k y = some o := ⟨x, rfl, h⟩
def hv_bd {τ ρ : Type} (x : Option τ) (k : τ → Option ρ) : Option ρ := match x with
  | none => none
  | some y => k y
theorem hv_bd_some {τ ρ : Type} {x : Option τ} {k : τ → Option ρ} {o : ρ} (h : hv_bd x k = some o) : ∃ y, x = some y ∧ k y = some o := by
  cases x with
  | none => cases h
  | some y => exact ⟨y, rfl, h⟩
def hv_b2 {τ ρ : Type} (x : Option (τ × hv_St)) (k : τ → hv_St → Option ρ) : Option ρ := match x with
  | none => none
  | some y => k y.1 y.2
theorem hv_b2_some {τ ρ : Type} {x : Option (τ × hv_St)} {k : τ → hv_St → Option ρ} {o : ρ} (h : hv_b2 x k = some o) : ∃ r σ, x = some (r, σ) ∧ k r σ = some o := by
  cases x with
  | none => cases h
  | some y => exact ⟨y.1, y.2, rfl, h⟩
def hv_z (v : Int32) : Bool := decide (v = 0 ∨ v = 1)
theorem hv_z_narrow {v : Int32} (h : hv_z v = true) : narrow .boolean (.int v) = .int v := by
  rcases of_decide_eq_true h with rfl | rfl <;> rfl
theorem hv_z_nar {v : Int32} (h : hv_z v = true) : vp_nar .boolean v = v := by
  rcases of_decide_eq_true h with rfl | rfl <;> rfl
def hv_bx {τ ρ : Type} (x : Option (Option τ × hv_St)) (k : τ → hv_St → Option (Option ρ × hv_St)) : Option (Option ρ × hv_St) := match x with
  | none => none
  | some (none, σ) => some (none, σ)
  | some (some y, σ) => k y σ
theorem hv_bx_some {τ ρ : Type} {x : Option (Option τ × hv_St)} {k : τ → hv_St → Option (Option ρ × hv_St)} {o : Option ρ × hv_St} (h : hv_bx x k = some o) : (∃ σ, x = some (none, σ) ∧ o = (none, σ)) ∨ ∃ y σ, x = some (some y, σ) ∧ k y σ = some o := by
  match x, h with
  | none, h => cases h
  | some (none, σ), h => exact Or.inl ⟨σ, rfl, by cases h; rfl⟩
  | some (some y, σ), h => exact Or.inr ⟨y, σ, rfl, h⟩
def hv_sh (o : Nat) (σ : hv_St) : hv_St := (fun j => σ.1 (j + o), fun j => σ.2 (j + o))
def hv_mg (o n : Nat) (σ τ : hv_St) : hv_St := (fun j => if o ≤ j ∧ j < o + n then τ.1 (j - o) else σ.1 j, fun j => if o ≤ j ∧ j < o + n then τ.2 (j - o) else σ.2 j)
def hv_0 : hv_St := (fun _ _ => 0, fun _ _ => 0)
def hv_by {τ ρ : Type} (x : Option (Option τ × hv_St)) (k0 : hv_St → Option ρ) (k1 : τ → hv_St → Option ρ) : Option ρ := match x with
  | none => none
  | some (none, σ) => k0 σ
  | some (some y, σ) => k1 y σ
end
section
/-! what gen.py prints of the program itself: each method a function of the state -/
def kX0_findFree_52 (n : Nat) (r7 : hv_St → Int32 → Option (hv_St)) (σ : hv_St) (x1 : Int32) : Option (hv_St) := r7 σ (x1 + 1)
def kX0_findFree_7_b (n : Nat) (r7 : hv_St → Int32 → Option (hv_St)) (σ : hv_St) (x1 : Int32) : Option (hv_St) := if ((2 : Int32)) * (σ.1 1 0) ≤ x1 then (some σ) else (hv_if (hv_ok (x1) 12) (if σ.1 4 (x1).toNatClampNeg = 0 then (hv_if (hv_ok (σ.1 9 4) 12) (hv_let (hv_sI σ (11) (σ.1 9 4).toNatClampNeg (x1)) fun s41 => hv_let (hv_sI s41 9 4 ((s41.1 9 4) + ((1 : Int32)))) fun s49 => kX0_findFree_52 n r7 s49 (x1))) else (kX0_findFree_52 n r7 σ (x1))))
def kX0_findFree_7 (n : Nat) : Nat → hv_St → Int32 → Option (hv_St)
  | 0 => fun _ _ => none
  | i + 1 => kX0_findFree_7_b n (kX0_findFree_7 n i)
def mX0_findFree (n : Nat) (σ : hv_St) : Option (hv_St) := hv_let (hv_sI σ 9 4 ((0 : Int32))) fun s2 => kX0_findFree_7 n n s2 ((0 : Int32))
def mX7_has (n : Nat) (σ : hv_St) (p0 : Int32) (p1 : Int32) : Option (Int32 × hv_St) := if ((p0) >>> ((p1) &&& 31)) &&& ((1 : Int32)) = (1 : Int32) then (some ((1 : Int32), σ)) else (some ((0 : Int32), σ))
def kX0_swap_2_b (n : Nat) (r2 : hv_St → Int32 → Int32 → Int32 → Option (hv_St)) (σ : hv_St) (x1 : Int32) (x2 : Int32) (x3 : Int32) : Option (hv_St) := if (σ.1 1 1) + (σ.1 9 4) ≤ x3 then (some σ) else (hv_if (hv_ok (x1) 12) (hv_if (hv_ok (x3) 23) (hv_let (σ.2 (27 + (x1).toNatClampNeg) (x3).toNatClampNeg) fun y4_26 => hv_if (hv_ok (x1) 12) (hv_if (hv_ok (x2) 12) (hv_if (hv_ok (x3) 23) (hv_if (hv_ok (x3) 23) (hv_let (hv_sJ σ (27 + (x1).toNatClampNeg) (x3).toNatClampNeg (σ.2 (27 + (x2).toNatClampNeg) (x3).toNatClampNeg)) fun s43 => hv_if (hv_ok (x2) 12) (hv_if (hv_ok (x3) 23) (hv_let (hv_sJ s43 (27 + (x2).toNatClampNeg) (x3).toNatClampNeg (y4_26)) fun s53 => r2 s53 (x1) (x2) (x3 + 1))))))))))
def kX0_swap_2 (n : Nat) : Nat → hv_St → Int32 → Int32 → Int32 → Option (hv_St)
  | 0 => fun _ _ _ _ => none
  | i + 1 => kX0_swap_2_b n (kX0_swap_2 n i)
def mX0_swap (n : Nat) (σ : hv_St) (p0 : Int32) (p1 : Int32) : Option (hv_St) := kX0_swap_2 n n σ (p0) (p1) ((0 : Int32))
def mX7_quotient (n : Nat) (σ : hv_St) (p0 : Int64) (p1 : Int64) : Option (Int64 × hv_St) := if lg_cmp (p1) ((0 : Int64)) = 0 then (some ((0 : Int64), σ)) else (hv_if (decide (¬ p1 = 0)) (some ((p0) / (p1), σ)))
def kX0_clearColumn_113 (n : Nat) (r12 : hv_St → Int32 → Int32 → Int64 → Int32 → Option (hv_St)) (σ : hv_St) (x1 : Int32) (x2 : Int32) (x3 : Int64) (x5 : Int32) : Option (hv_St) := r12 σ (x1) (x2) (x3) (x5 + 1)
def kX0_clearColumn_44_b (n : Nat) (r12 : hv_St → Int32 → Int32 → Int64 → Int32 → Option (hv_St)) (r44 : hv_St → Int32 → Int32 → Int64 → Int32 → Int64 → Int32 → Option (hv_St)) (σ : hv_St) (x1 : Int32) (x2 : Int32) (x3 : Int64) (x5 : Int32) (x6 : Int64) (x8 : Int32) : Option (hv_St) := if (σ.1 1 1) + (σ.1 9 4) ≤ x8 then (kX0_clearColumn_113 n r12 σ (x1) (x2) (x3) (x5)) else (hv_if (hv_ok (x5) 12) (hv_if (hv_ok (x8) 23) (hv_if (hv_ok (x2) 12) (hv_if (hv_ok (x8) 23) (hv_let (((x3) * (σ.2 (27 + (x5).toNatClampNeg) (x8).toNatClampNeg)) - ((x6) * (σ.2 (27 + (x2).toNatClampNeg) (x8).toNatClampNeg))) fun y9_86 => hv_if (hv_ok (x5) 12) (hv_b2 (mX7_quotient n σ (y9_86) (σ.2 9 8)) fun r103 s103 => hv_if (hv_ok (x8) 23) (hv_let (hv_sJ s103 (27 + (x5).toNatClampNeg) (x8).toNatClampNeg (r103)) fun s106 => r44 s106 (x1) (x2) (x3) (x5) (x6) (x8 + 1))))))))
def kX0_clearColumn_44 (n : Nat) (r12 : hv_St → Int32 → Int32 → Int64 → Int32 → Option (hv_St)) : Nat → hv_St → Int32 → Int32 → Int64 → Int32 → Int64 → Int32 → Option (hv_St)
  | 0 => fun _ _ _ _ _ _ _ => none
  | i + 1 => kX0_clearColumn_44_b n r12 (kX0_clearColumn_44 n r12 i)
def kX0_clearColumn_12_b (n : Nat) (r12 : hv_St → Int32 → Int32 → Int64 → Int32 → Option (hv_St)) (σ : hv_St) (x1 : Int32) (x2 : Int32) (x3 : Int64) (x5 : Int32) : Option (hv_St) := if σ.1 9 4 ≤ x5 then (hv_let (hv_sJ σ 9 8 (x3)) fun s121 => some s121) else (if x5 = x2 then (kX0_clearColumn_113 n r12 σ (x1) (x2) (x3) (x5)) else (hv_if (hv_ok (x5) 12) (hv_if (hv_ok (x1) 23) (hv_let (σ.2 (27 + (x5).toNatClampNeg) (x1).toNatClampNeg) fun y6_39 => kX0_clearColumn_44 n r12 n σ (x1) (x2) (x3) (x5) (y6_39) ((0 : Int32))))))
def kX0_clearColumn_12 (n : Nat) : Nat → hv_St → Int32 → Int32 → Int64 → Int32 → Option (hv_St)
  | 0 => fun _ _ _ _ _ => none
  | i + 1 => kX0_clearColumn_12_b n (kX0_clearColumn_12 n i)
def mX0_clearColumn (n : Nat) (σ : hv_St) (p0 : Int32) (p1 : Int32) : Option (hv_St) := hv_if (hv_ok (p1) 12) (hv_if (hv_ok (p0) 23) (hv_let (σ.2 (27 + (p1).toNatClampNeg) (p0).toNatClampNeg) fun y3_8 => kX0_clearColumn_12 n n σ (p0) (p1) (y3_8) ((0 : Int32))))
def kX0_take_32 (n : Nat) (σ : hv_St) (x1 : Int32) (x2 : Int32) : Option (hv_St) := if x2 = σ.1 9 4 then (hv_let (hv_sI σ 9 7 ((σ.1 9 7) ||| (((1 : Int32)) <<< ((x1) &&& 31)))) fun s49 => some s49) else (hv_bd (mX0_swap n σ (x2) (σ.1 9 5)) fun s59 => hv_bd (mX0_clearColumn n s59 (x1) (s59.1 9 5)) fun s68 => hv_if (hv_ok (s68.1 9 5) 12) (hv_let (hv_sI s68 (12) (s68.1 9 5).toNatClampNeg (x1)) fun s80 => hv_let (hv_sI s80 9 6 ((s80.1 9 6) ||| (((1 : Int32)) <<< ((x1) &&& 31)))) fun s90 => hv_let (hv_sI s90 9 5 ((s90.1 9 5) + ((1 : Int32)))) fun s100 => some s100))
def kX0_take_5_b (n : Nat) (r5 : hv_St → Int32 → Int32 → Option (hv_St)) (σ : hv_St) (x1 : Int32) (x2 : Int32) : Option (hv_St) := if σ.1 9 4 ≤ x2 then (kX0_take_32 n σ (x1) (x2)) else (hv_if (hv_ok (x2) 12) (hv_if (hv_ok (x1) 23) (if lg_cmp (σ.2 (27 + (x2).toNatClampNeg) (x1).toNatClampNeg) ((0 : Int64)) = 0 then (r5 σ (x1) (x2 + 1)) else (kX0_take_32 n σ (x1) (x2)))))
def kX0_take_5 (n : Nat) : Nat → hv_St → Int32 → Int32 → Option (hv_St)
  | 0 => fun _ _ _ => none
  | i + 1 => kX0_take_5_b n (kX0_take_5 n i)
def mX0_take (n : Nat) (σ : hv_St) (p0 : Int32) : Option (hv_St) := hv_let (σ.1 9 5) fun y2_4 => kX0_take_5 n n σ (p0) (y2_4)
def kX0_extend_26 (n : Nat) (r2 : hv_St → Int32 → Int32 → Option (hv_St)) (σ : hv_St) (x1 : Int32) (x2 : Int32) : Option (hv_St) := r2 σ (x1) (x2 + 1)
def kX0_extend_2_b (n : Nat) (r2 : hv_St → Int32 → Int32 → Option (hv_St)) (σ : hv_St) (x1 : Int32) (x2 : Int32) : Option (hv_St) := if σ.1 1 1 ≤ x2 then (some σ) else (hv_b2 (mX7_has n σ (x1) (x2)) fun r15 s15 => if r15 = 0 then (kX0_extend_26 n r2 s15 (x1) (x2)) else (hv_bd (mX0_take n s15 (x2)) fun s23 => kX0_extend_26 n r2 s23 (x1) (x2)))
def kX0_extend_2 (n : Nat) : Nat → hv_St → Int32 → Int32 → Option (hv_St)
  | 0 => fun _ _ _ => none
  | i + 1 => kX0_extend_2_b n (kX0_extend_2 n i)
def mX0_extend (n : Nat) (σ : hv_St) (p0 : Int32) : Option (hv_St) := kX0_extend_2 n n σ (p0) ((0 : Int32))
def mX3_brings (n : Nat) (σ : hv_St) (p0 : Int32) (p1 : Int32) : Option (Int32 × hv_St) := hv_let ((p1) / ((2 : Int32))) fun y3_3 => hv_let ((p1) - (p1) / ((2 : Int32)) * ((2 : Int32))) fun y4_7 => hv_if (hv_ok (p0) 11) (hv_if (hv_ok ((((2 : Int32)) * (σ.1 6 (p0).toNatClampNeg)) + (y4_7)) 12) (hv_if (hv_ok (p0) 11) (hv_if (hv_ok ((((2 : Int32)) * (σ.1 5 (p0).toNatClampNeg)) + (y4_7)) 12) (hv_let ((σ.1 2 ((((2 : Int32)) * (σ.1 6 (p0).toNatClampNeg)) + (y4_7)).toNatClampNeg) - (σ.1 2 ((((2 : Int32)) * (σ.1 5 (p0).toNatClampNeg)) + (y4_7)).toNatClampNeg)) fun y5_42 => hv_if (hv_ok (p0) 11) (if σ.1 5 (p0).toNatClampNeg = y3_3 then (some (y5_42, σ)) else (hv_if (hv_ok (p0) 11) (if σ.1 6 (p0).toNatClampNeg = y3_3 then (some (-(y5_42), σ)) else (some ((0 : Int32), σ)))))))))
def kX0_layRow_77 (n : Nat) (r44 : hv_St → Int32 → Int32 → Option (hv_St)) (σ : hv_St) (x1 : Int32) (x2 : Int32) (z0 : Int64) (z1 : Int32) : Option (hv_St) := hv_if (hv_ok (x1) 12) (hv_if (hv_ok (z1) 23) (hv_let (hv_sJ σ (27 + (x1).toNatClampNeg) (z1).toNatClampNeg (z0)) fun s77 => r44 s77 (x1) (x2 + 1)))
def kX0_layRow_44_b (n : Nat) (r44 : hv_St → Int32 → Int32 → Option (hv_St)) (σ : hv_St) (x1 : Int32) (x2 : Int32) : Option (hv_St) := if σ.1 9 4 ≤ x2 then (some σ) else (hv_if (hv_ok (x1) 12) (if x2 = x1 then (kX0_layRow_77 n r44 σ (x1) (x2) ((1 : Int64)) ((σ.1 1 1) + (x2))) else (kX0_layRow_77 n r44 σ (x1) (x2) ((0 : Int64)) ((σ.1 1 1) + (x2)))))
def kX0_layRow_44 (n : Nat) : Nat → hv_St → Int32 → Int32 → Option (hv_St)
  | 0 => fun _ _ _ => none
  | i + 1 => kX0_layRow_44_b n (kX0_layRow_44 n i)
def kX0_layRow_2_b (n : Nat) (r2 : hv_St → Int32 → Int32 → Option (hv_St)) (σ : hv_St) (x1 : Int32) (x2 : Int32) : Option (hv_St) := if σ.1 1 1 ≤ x2 then (kX0_layRow_44 n n σ (x1) ((0 : Int32))) else (hv_if (hv_ok (x1) 12) (hv_if (hv_ok (x1) 12) (hv_b2 (mX3_brings n σ (x2) (σ.1 11 (x1).toNatClampNeg)) fun r31 s31 => hv_if (hv_ok (x2) 23) (hv_let (hv_sJ s31 (27 + (x1).toNatClampNeg) (x2).toNatClampNeg ((r31).toInt64)) fun s35 => r2 s35 (x1) (x2 + 1)))))
def kX0_layRow_2 (n : Nat) : Nat → hv_St → Int32 → Int32 → Option (hv_St)
  | 0 => fun _ _ _ => none
  | i + 1 => kX0_layRow_2_b n (kX0_layRow_2 n i)
def mX0_layRow (n : Nat) (σ : hv_St) (p0 : Int32) : Option (hv_St) := kX0_layRow_2 n n σ (p0) ((0 : Int32))
def kX0_settle_6_b (n : Nat) (r6 : hv_St → Int32 → Int32 → Option (hv_St)) (σ : hv_St) (x1 : Int32) (x2 : Int32) : Option (hv_St) := if σ.1 9 4 ≤ x2 then (hv_let (hv_sI σ 9 5 ((0 : Int32))) fun s27 => hv_let (hv_sI s27 9 6 ((0 : Int32))) fun s32 => hv_let (hv_sI s32 9 7 ((0 : Int32))) fun s37 => hv_let (hv_sJ s37 9 8 ((1 : Int64))) fun s42 => hv_bd (mX0_extend n s42 (x1)) fun s47 => some s47) else (hv_bd (mX0_layRow n σ (x2)) fun s16 => r6 s16 (x1) (x2 + 1))
def kX0_settle_6 (n : Nat) : Nat → hv_St → Int32 → Int32 → Option (hv_St)
  | 0 => fun _ _ _ => none
  | i + 1 => kX0_settle_6_b n (kX0_settle_6 n i)
def mX0_settle (n : Nat) (σ : hv_St) (p0 : Int32) : Option (hv_St) := hv_bd (mX0_findFree n σ ) fun s1 => kX0_settle_6 n n s1 (p0) ((0 : Int32))
def mJ6_bitCount_0f7a4 (n : Nat) (σ : hv_St) (p0 : Int32) : Option (Int32 × hv_St) := hv_let ((p0) - ((((p0).toUInt32 >>> (((1 : Int32)).toUInt32 &&& Int32.toUInt32 31)).toInt32) &&& ((1431655765 : Int32)))) fun y0_9 => hv_let (((y0_9) &&& ((858993459 : Int32))) + ((((y0_9).toUInt32 >>> (((2 : Int32)).toUInt32 &&& Int32.toUInt32 31)).toInt32) &&& ((858993459 : Int32)))) fun y0_23 => hv_let (((y0_23) + (((y0_23).toUInt32 >>> (((4 : Int32)).toUInt32 &&& Int32.toUInt32 31)).toInt32)) &&& ((252645135 : Int32))) fun y0_33 => hv_let ((y0_33) + (((y0_33).toUInt32 >>> (((8 : Int32)).toUInt32 &&& Int32.toUInt32 31)).toInt32)) fun y0_40 => hv_let ((y0_40) + (((y0_40).toUInt32 >>> (((16 : Int32)).toUInt32 &&& Int32.toUInt32 31)).toInt32)) fun y0_47 => some ((y0_47) &&& ((63 : Int32)), σ)
def mX0_kindNumber (n : Nat) (σ : hv_St) : Option (Int32 × hv_St) := if σ.1 9 4 ≤ σ.1 9 5 then (hv_b2 (mJ6_bitCount_0f7a4 n σ (σ.1 9 7)) fun r21 s21 => hv_let (if ((1 : Int32)) + (r21) < (4 : Int32) then ((1 : Int32)) + (r21) else (4 : Int32)) fun y_25 => some (y_25, s21)) else (some ((0 : Int32), σ))
def mX0_spareNumber (n : Nat) (σ : hv_St) (p0 : Int32) : Option (Int32 × hv_St) := hv_b2 (mX7_has n σ (σ.1 9 7) (p0)) fun r5 s5 => if r5 = 0 then (some ((-1 : Int32), s5)) else (hv_b2 (mJ6_bitCount_0f7a4 n s5 ((s5.1 9 7) &&& ((((1 : Int32)) <<< ((p0) &&& 31)) - ((1 : Int32))))) fun r21 s21 => some (r21, s21))
def kX0_meetsSpares_39 (n : Nat) (r2 : hv_St → Int32 → Int32 → Option (Int32 × hv_St)) (σ : hv_St) (x1 : Int32) (x2 : Int32) : Option (Int32 × hv_St) := r2 σ (x1) (x2 + 1)
def kX0_meetsSpares_2_b (n : Nat) (r2 : hv_St → Int32 → Int32 → Option (Int32 × hv_St)) (σ : hv_St) (x1 : Int32) (x2 : Int32) : Option (Int32 × hv_St) := if σ.1 1 1 ≤ x2 then (some ((0 : Int32), σ)) else (hv_b2 (mX7_has n σ (σ.1 9 7) (x2)) fun r18 s18 => if r18 = 0 then (kX0_meetsSpares_39 n r2 s18 (x1) (x2)) else (hv_if (hv_ok (x1) 12) (hv_if (hv_ok (x2) 23) (if lg_cmp (s18.2 (27 + (x1).toNatClampNeg) (x2).toNatClampNeg) ((0 : Int64)) = 0 then (kX0_meetsSpares_39 n r2 s18 (x1) (x2)) else (some ((1 : Int32), s18))))))
def kX0_meetsSpares_2 (n : Nat) : Nat → hv_St → Int32 → Int32 → Option (Int32 × hv_St)
  | 0 => fun _ _ _ => none
  | i + 1 => kX0_meetsSpares_2_b n (kX0_meetsSpares_2 n i)
def mX0_meetsSpares (n : Nat) (σ : hv_St) (p0 : Int32) : Option (Int32 × hv_St) := kX0_meetsSpares_2 n n σ (p0) ((0 : Int32))
def kX0_neededBars_31 (n : Nat) (r4 : hv_St → Int32 → Int32 → Option (Int32 × hv_St)) (σ : hv_St) (x1 : Int32) (x2 : Int32) : Option (Int32 × hv_St) := r4 σ (x1) (x2 + 1)
def kX0_neededBars_4_b (n : Nat) (r4 : hv_St → Int32 → Int32 → Option (Int32 × hv_St)) (σ : hv_St) (x1 : Int32) (x2 : Int32) : Option (Int32 × hv_St) := if σ.1 9 5 ≤ x2 then (if σ.1 9 4 ≤ σ.1 9 5 then (some (x1, σ)) else (some ((0 : Int32), σ))) else (hv_b2 (mX0_meetsSpares n σ (x2)) fun r14 s14 => if r14 = 0 then (hv_if (hv_ok (x2) 12) (hv_let ((x1) ||| (((1 : Int32)) <<< ((s14.1 12 (x2).toNatClampNeg) &&& 31))) fun y1_30 => kX0_neededBars_31 n r4 s14 (y1_30) (x2))) else (kX0_neededBars_31 n r4 s14 (x1) (x2)))
def kX0_neededBars_4 (n : Nat) : Nat → hv_St → Int32 → Int32 → Option (Int32 × hv_St)
  | 0 => fun _ _ _ => none
  | i + 1 => kX0_neededBars_4_b n (kX0_neededBars_4 n i)
def mX0_neededBars (n : Nat) (σ : hv_St) : Option (Int32 × hv_St) := kX0_neededBars_4 n n σ ((0 : Int32)) ((0 : Int32))
def kX1_isHeld_39 (n : Nat) (r2 : hv_St → Int32 → Int32 → Option (Int32 × hv_St)) (σ : hv_St) (x1 : Int32) (x2 : Int32) : Option (Int32 × hv_St) := r2 σ (x1) (x2 + 1)
def kX1_isHeld_2_b (n : Nat) (r2 : hv_St → Int32 → Int32 → Option (Int32 × hv_St)) (σ : hv_St) (x1 : Int32) (x2 : Int32) : Option (Int32 × hv_St) := if ((2 : Int32)) * (σ.1 1 0) ≤ x2 then (some ((0 : Int32), σ)) else (hv_b2 (mX7_has n σ (x1) ((x2) / ((2 : Int32)))) fun r19 s19 => if r19 = 0 then (kX1_isHeld_39 n r2 s19 (x1) (x2)) else (hv_if (hv_ok (x2) 12) (if s19.1 4 (x2).toNatClampNeg = 0 then (kX1_isHeld_39 n r2 s19 (x1) (x2)) else (some ((1 : Int32), s19)))))
def kX1_isHeld_2 (n : Nat) : Nat → hv_St → Int32 → Int32 → Option (Int32 × hv_St)
  | 0 => fun _ _ _ => none
  | i + 1 => kX1_isHeld_2_b n (kX1_isHeld_2 n i)
def mX1_isHeld (n : Nat) (σ : hv_St) (p0 : Int32) : Option (Int32 × hv_St) := kX1_isHeld_2 n n σ (p0) ((0 : Int32))
def kX3_isBar_16 (n : Nat) (σ : hv_St) : Option (Int32 × hv_St) := some ((0 : Int32), σ)
def mX3_isBar (n : Nat) (σ : hv_St) (p0 : Int32) : Option (Int32 × hv_St) := if p0 < 0 then (kX3_isBar_16 n σ) else (if σ.1 1 1 ≤ p0 then (kX3_isBar_16 n σ) else (some ((1 : Int32), σ)))
def kX3_isOn_23 (n : Nat) (σ : hv_St) : Option (Int32 × hv_St) := some ((0 : Int32), σ)
def mX3_isOn (n : Nat) (σ : hv_St) (p0 : Int32) : Option (Int32 × hv_St) := hv_b2 (mX3_isBar n σ (p0)) fun r2 s2 => if r2 = 0 then (kX3_isOn_23 n s2) else (hv_b2 (mX7_has n s2 (s2.1 1 2) (p0)) fun r13 s13 => if r13 = 0 then (kX3_isOn_23 n s13) else (some ((1 : Int32), s13)))
def kX1_findBars_86 (n : Nat) (r7 : hv_St → Int32 → Int32 → Option (hv_St)) (σ : hv_St) (x1 : Int32) (x2 : Int32) : Option (hv_St) := r7 σ (x1) (x2 + 1)
def kX1_findBars_76 (n : Nat) (r7 : hv_St → Int32 → Int32 → Option (hv_St)) (σ : hv_St) (x1 : Int32) (x2 : Int32) : Option (hv_St) := hv_let (hv_sI σ 19 2 ((σ.1 19 2) + ((1 : Int32)))) fun s83 => kX1_findBars_86 n r7 s83 (x1) (x2)
def kX1_findBars_7_b (n : Nat) (r7 : hv_St → Int32 → Int32 → Option (hv_St)) (σ : hv_St) (x1 : Int32) (x2 : Int32) : Option (hv_St) := if σ.1 1 1 ≤ x2 then (some σ) else (hv_b2 (mX3_isOn n σ (x2)) fun r23 s23 => if r23 = 0 then (kX1_findBars_86 n r7 s23 (x1) (x2)) else (hv_if (hv_ok (x2) 11) (hv_b2 (mX7_has n s23 (x1) (s23.1 5 (x2).toNatClampNeg)) fun r39 s39 => hv_if (hv_ok (x2) 11) (hv_b2 (mX7_has n s39 (x1) (s39.1 6 (x2).toNatClampNeg)) fun r52 s52 => if r39 = r52 then (kX1_findBars_86 n r7 s52 (x1) (x2)) else (if (3 : Int32) ≤ s52.1 19 2 then (kX1_findBars_76 n r7 s52 (x1) (x2)) else (hv_if (hv_ok (s52.1 19 2) 3) (hv_let (hv_sI s52 (20) (s52.1 19 2).toNatClampNeg (x2)) fun s75 => kX1_findBars_76 n r7 s75 (x1) (x2))))))))
def kX1_findBars_7 (n : Nat) : Nat → hv_St → Int32 → Int32 → Option (hv_St)
  | 0 => fun _ _ _ => none
  | i + 1 => kX1_findBars_7_b n (kX1_findBars_7 n i)
def mX1_findBars (n : Nat) (σ : hv_St) (p0 : Int32) : Option (hv_St) := hv_let (hv_sI σ 19 2 ((0 : Int32))) fun s2 => kX1_findBars_7 n n s2 (p0) ((0 : Int32))
def kX1_clear_2_b (n : Nat) (r2 : hv_St → Int32 → Int32 → Option (hv_St)) (σ : hv_St) (x1 : Int32) (x2 : Int32) : Option (hv_St) := if (3 : Int32) ≤ x2 then (some σ) else (hv_if (hv_ok (x2) 3) (hv_if (hv_ok (x1) 4) (hv_let (hv_sJ σ (52 + (x2).toNatClampNeg) (x1).toNatClampNeg ((0 : Int64))) fun s15 => r2 s15 (x1) (x2 + 1))))
def kX1_clear_2 (n : Nat) : Nat → hv_St → Int32 → Int32 → Option (hv_St)
  | 0 => fun _ _ _ => none
  | i + 1 => kX1_clear_2_b n (kX1_clear_2 n i)
def mX1_clear (n : Nat) (σ : hv_St) (p0 : Int32) : Option (hv_St) := kX1_clear_2 n n σ (p0) ((0 : Int32))
def mX1_add (n : Nat) (σ : hv_St) (p0 : Int32) (p1 : Int32) (p2 : Int32) (p3 : Int32) : Option (hv_St) := hv_if (hv_ok ((0 : Int32)) 3) (hv_if (hv_ok (p0) 4) (hv_if (hv_ok (p0) 4) (hv_let (hv_sJ σ (52 + ((0 : Int32)).toNatClampNeg) (p0).toNatClampNeg ((σ.2 (52 + ((0 : Int32)).toNatClampNeg) (p0).toNatClampNeg) + ((p2).toInt64))) fun s12 => hv_if (hv_ok ((1 : Int32)) 3) (hv_if (hv_ok (p0) 4) (hv_if (hv_ok (p0) 4) (hv_let (hv_sJ s12 (52 + ((1 : Int32)).toNatClampNeg) (p0).toNatClampNeg ((s12.2 (52 + ((1 : Int32)).toNatClampNeg) (p0).toNatClampNeg) + ((p3).toInt64))) fun s26 => hv_if (hv_ok ((2 : Int32)) 3) (hv_if (hv_ok (p0) 4) (hv_if (hv_ok (((2 : Int32)) * (p1)) 12) (hv_if (hv_ok ((((2 : Int32)) * (p1)) + ((1 : Int32))) 12) (hv_if (hv_ok (p0) 4) (hv_let (hv_sJ s26 (52 + ((2 : Int32)).toNatClampNeg) (p0).toNatClampNeg ((s26.2 (52 + ((2 : Int32)).toNatClampNeg) (p0).toNatClampNeg) + ((((s26.1 2 (((2 : Int32)) * (p1)).toNatClampNeg) * (p3)) - ((s26.1 2 ((((2 : Int32)) * (p1)) + ((1 : Int32))).toNatClampNeg) * (p2))).toInt64))) fun s68 => some s68)))))))))))
def kX1_addLoads_56 (n : Nat) (r7 : hv_St → Int32 → Int32 → Option (hv_St)) (σ : hv_St) (x1 : Int32) (x2 : Int32) : Option (hv_St) := r7 σ (x1) (x2 + 1)
def kX1_addLoads_7_b (n : Nat) (r7 : hv_St → Int32 → Int32 → Option (hv_St)) (σ : hv_St) (x1 : Int32) (x2 : Int32) : Option (hv_St) := if σ.1 1 0 ≤ x2 then (some σ) else (hv_b2 (mX7_has n σ (x1) (x2)) fun r20 s20 => if r20 = 0 then (kX1_addLoads_56 n r7 s20 (x1) (x2)) else (hv_if (hv_ok (((2 : Int32)) * (x2)) 12) (hv_if (hv_ok ((((2 : Int32)) * (x2)) + ((1 : Int32))) 12) (hv_bd (mX1_add n s20 ((3 : Int32)) (x2) (s20.1 3 (((2 : Int32)) * (x2)).toNatClampNeg) (s20.1 3 ((((2 : Int32)) * (x2)) + ((1 : Int32))).toNatClampNeg)) fun s53 => kX1_addLoads_56 n r7 s53 (x1) (x2)))))
def kX1_addLoads_7 (n : Nat) : Nat → hv_St → Int32 → Int32 → Option (hv_St)
  | 0 => fun _ _ _ => none
  | i + 1 => kX1_addLoads_7_b n (kX1_addLoads_7 n i)
def mX1_addLoads (n : Nat) (σ : hv_St) (p0 : Int32) : Option (hv_St) := hv_bd (mX1_clear n σ ((3 : Int32))) fun s2 => kX1_addLoads_7 n n s2 (p0) ((0 : Int32))
def mX1_determinant (n : Nat) (σ : hv_St) (p0 : Int32) (p1 : Int32) (p2 : Int32) : Option (Int64 × hv_St) := hv_if (hv_ok ((0 : Int32)) 3) (hv_if (hv_ok (p0) 4) (hv_if (hv_ok ((1 : Int32)) 3) (hv_if (hv_ok (p1) 4) (hv_if (hv_ok ((2 : Int32)) 3) (hv_if (hv_ok (p2) 4) (hv_if (hv_ok ((1 : Int32)) 3) (hv_if (hv_ok (p2) 4) (hv_if (hv_ok ((2 : Int32)) 3) (hv_if (hv_ok (p1) 4) (hv_let ((σ.2 (52 + ((0 : Int32)).toNatClampNeg) (p0).toNatClampNeg) * (((σ.2 (52 + ((1 : Int32)).toNatClampNeg) (p1).toNatClampNeg) * (σ.2 (52 + ((2 : Int32)).toNatClampNeg) (p2).toNatClampNeg)) - ((σ.2 (52 + ((1 : Int32)).toNatClampNeg) (p2).toNatClampNeg) * (σ.2 (52 + ((2 : Int32)).toNatClampNeg) (p1).toNatClampNeg)))) fun y4_44 => hv_if (hv_ok ((0 : Int32)) 3) (hv_if (hv_ok (p1) 4) (hv_if (hv_ok ((1 : Int32)) 3) (hv_if (hv_ok (p2) 4) (hv_if (hv_ok ((2 : Int32)) 3) (hv_if (hv_ok (p0) 4) (hv_if (hv_ok ((1 : Int32)) 3) (hv_if (hv_ok (p0) 4) (hv_if (hv_ok ((2 : Int32)) 3) (hv_if (hv_ok (p2) 4) (hv_let ((σ.2 (52 + ((0 : Int32)).toNatClampNeg) (p1).toNatClampNeg) * (((σ.2 (52 + ((1 : Int32)).toNatClampNeg) (p2).toNatClampNeg) * (σ.2 (52 + ((2 : Int32)).toNatClampNeg) (p0).toNatClampNeg)) - ((σ.2 (52 + ((1 : Int32)).toNatClampNeg) (p0).toNatClampNeg) * (σ.2 (52 + ((2 : Int32)).toNatClampNeg) (p2).toNatClampNeg)))) fun y6_90 => hv_if (hv_ok ((0 : Int32)) 3) (hv_if (hv_ok (p2) 4) (hv_if (hv_ok ((1 : Int32)) 3) (hv_if (hv_ok (p0) 4) (hv_if (hv_ok ((2 : Int32)) 3) (hv_if (hv_ok (p1) 4) (hv_if (hv_ok ((1 : Int32)) 3) (hv_if (hv_ok (p1) 4) (hv_if (hv_ok ((2 : Int32)) 3) (hv_if (hv_ok (p0) 4) (hv_let ((σ.2 (52 + ((0 : Int32)).toNatClampNeg) (p2).toNatClampNeg) * (((σ.2 (52 + ((1 : Int32)).toNatClampNeg) (p0).toNatClampNeg) * (σ.2 (52 + ((2 : Int32)).toNatClampNeg) (p1).toNatClampNeg)) - ((σ.2 (52 + ((1 : Int32)).toNatClampNeg) (p1).toNatClampNeg) * (σ.2 (52 + ((2 : Int32)).toNatClampNeg) (p0).toNatClampNeg)))) fun y8_136 => some (((y4_44) + (y6_90)) + (y8_136), σ)))))))))))))))))))))))))))))))
def kX1_divides_90 (n : Nat) (r44 : hv_St → Int32 → Int32 → Option (Int32 × hv_St)) (σ : hv_St) (x1 : Int32) (x2 : Int32) (z0 : Int32) : Option (Int32 × hv_St) := hv_bd (mX1_clear n σ (x2)) fun s94 => hv_if (hv_ok (x2) 3) (hv_b2 (mX3_brings n s94 (s94.1 20 (x2).toNatClampNeg) (((2 : Int32)) * (z0))) fun r115 s115 => hv_if (hv_ok (x2) 3) (hv_b2 (mX3_brings n s115 (s115.1 20 (x2).toNatClampNeg) ((((2 : Int32)) * (z0)) + ((1 : Int32)))) fun r134 s134 => hv_bd (mX1_add n s134 (x2) (z0) (r115) (r134)) fun s137 => r44 s137 (x1) (x2 + 1)))
def kX1_divides_44_b (n : Nat) (r44 : hv_St → Int32 → Int32 → Option (Int32 × hv_St)) (σ : hv_St) (x1 : Int32) (x2 : Int32) : Option (Int32 × hv_St) := if (3 : Int32) ≤ x2 then (hv_bd (mX1_addLoads n σ (x1)) fun s148 => hv_b2 (mX1_determinant n s148 ((0 : Int32)) ((1 : Int32)) ((2 : Int32))) fun r156 s156 => hv_let (hv_sJ s156 19 4 (r156)) fun s159 => if lg_cmp (s159.2 19 4) ((0 : Int64)) = 0 then (some ((0 : Int32), s159)) else (some ((1 : Int32), s159))) else (hv_if (hv_ok (x2) 3) (hv_if (hv_ok (σ.1 20 (x2).toNatClampNeg) 11) (hv_let (σ.1 5 (σ.1 20 (x2).toNatClampNeg).toNatClampNeg) fun y3_63 => hv_b2 (mX7_has n σ (x1) (y3_63)) fun r66 s66 => if r66 = 0 then (hv_if (hv_ok (x2) 3) (hv_if (hv_ok (s66.1 20 (x2).toNatClampNeg) 11) (kX1_divides_90 n r44 s66 (x1) (x2) (s66.1 6 (s66.1 20 (x2).toNatClampNeg).toNatClampNeg)))) else (kX1_divides_90 n r44 s66 (x1) (x2) (y3_63)))))
def kX1_divides_44 (n : Nat) : Nat → hv_St → Int32 → Int32 → Option (Int32 × hv_St)
  | 0 => fun _ _ _ => none
  | i + 1 => kX1_divides_44_b n (kX1_divides_44 n i)
def mX1_divides (n : Nat) (σ : hv_St) (p0 : Int32) : Option (Int32 × hv_St) := if p0 ≤ 0 then (some ((0 : Int32), σ)) else (if ((1 : Int32)) <<< ((σ.1 1 0) &&& 31) ≤ p0 then (some ((0 : Int32), σ)) else (hv_b2 (mX1_isHeld n σ (p0)) fun r19 s19 => if r19 = 0 then (hv_bd (mX1_findBars n s19 (p0)) fun s29 => if s29.1 19 2 = (3 : Int32) then (kX1_divides_44 n n s29 (p0) ((0 : Int32))) else (some ((0 : Int32), s29))) else (some ((0 : Int32), s19))))
def kX1_indexOf_21 (n : Nat) (r4 : hv_St → Int32 → Int32 → Int32 → Option (Int32 × hv_St)) (σ : hv_St) (x1 : Int32) (x2 : Int32) (x3 : Int32) : Option (Int32 × hv_St) := r4 σ (x1) (x2) (x3 + 1)
def kX1_indexOf_4_b (n : Nat) (r4 : hv_St → Int32 → Int32 → Int32 → Option (Int32 × hv_St)) (σ : hv_St) (x1 : Int32) (x2 : Int32) (x3 : Int32) : Option (Int32 × hv_St) := if (3 : Int32) ≤ x3 then (some (x2, σ)) else (hv_if (hv_ok (x3) 3) (if σ.1 20 (x3).toNatClampNeg = x1 then (kX1_indexOf_21 n r4 σ (x1) (x3) (x3)) else (kX1_indexOf_21 n r4 σ (x1) (x2) (x3))))
def kX1_indexOf_4 (n : Nat) : Nat → hv_St → Int32 → Int32 → Int32 → Option (Int32 × hv_St)
  | 0 => fun _ _ _ _ => none
  | i + 1 => kX1_indexOf_4_b n (kX1_indexOf_4 n i)
def mX1_indexOf (n : Nat) (σ : hv_St) (p0 : Int32) : Option (Int32 × hv_St) := kX1_indexOf_4 n n σ (p0) ((-1 : Int32)) ((0 : Int32))
def kX1_overOf_22 (n : Nat) (σ : hv_St) (x1 : Int32) (x2 : Int32) (z0 : Int32) (z1 : Int32) : Option (Int64 × hv_St) := if x1 = (2 : Int32) then (hv_b2 (mX1_determinant n σ (z1) (z0) (x2)) fun r32 s32 => some (-(r32), s32)) else (hv_b2 (mX1_determinant n σ (z1) (z0) ((2 : Int32))) fun r32 s32 => some (-(r32), s32))
def kX1_overOf_12 (n : Nat) (σ : hv_St) (x1 : Int32) (x2 : Int32) (z0 : Int32) : Option (Int64 × hv_St) := if x1 = (1 : Int32) then (kX1_overOf_22 n σ (x1) (x2) (x2) (z0)) else (kX1_overOf_22 n σ (x1) (x2) ((1 : Int32)) (z0))
def mX1_overOf (n : Nat) (σ : hv_St) (p0 : Int32) : Option (Int64 × hv_St) := if p0 = 0 then (kX1_overOf_12 n σ (p0) ((3 : Int32)) ((3 : Int32))) else (kX1_overOf_12 n σ (p0) ((3 : Int32)) ((0 : Int32)))
def kX2_greatestDivisor_9_b (n : Nat) (r9 : hv_St → Int64 → Int64 → Int32 → Option (Int64 × hv_St)) (σ : hv_St) (x4 : Int64) (x6 : Int64) (x8 : Int32) : Option (Int64 × hv_St) := if (200 : Int32) ≤ x8 then (some (x4, σ)) else (if lg_cmp (x6) ((0 : Int64)) = 0 then (some (x4, σ)) else (hv_if (decide (¬ x6 = 0)) (hv_let ((x4) - (x4) / (x6) * (x6)) fun y9_29 => r9 σ (x6) (y9_29) (x8 + 1))))
def kX2_greatestDivisor_9 (n : Nat) : Nat → hv_St → Int64 → Int64 → Int32 → Option (Int64 × hv_St)
  | 0 => fun _ _ _ _ => none
  | i + 1 => kX2_greatestDivisor_9_b n (kX2_greatestDivisor_9 n i)
def mX2_greatestDivisor (n : Nat) (σ : hv_St) (p0 : Int64) (p1 : Int64) : Option (Int64 × hv_St) := kX2_greatestDivisor_9 n n σ (p0) (p1) ((0 : Int32))
def kX2_reduce_27 (n : Nat) (σ : hv_St) (x1 : Int64) (x3 : Int64) (z0 : Int64) : Option (hv_St) := hv_b2 (mX7_quotient n σ (x1) (z0)) fun r33 s33 => hv_let (hv_sJ s33 26 0 (r33)) fun s36 => hv_b2 (mX7_quotient n s36 (x3) (z0)) fun r43 s43 => hv_let (hv_sJ s43 26 1 (r43)) fun s46 => some s46
def mX2_reduce (n : Nat) (σ : hv_St) (p0 : Int64) (p1 : Int64) : Option (hv_St) := hv_let (if 0 < p0 then p0 else -(p0)) fun y_1 => hv_let (if 0 < p1 then p1 else -(p1)) fun y_5 => hv_b2 (mX2_greatestDivisor n σ (y_1) (y_5)) fun r8 s8 => if 0 ≤ lg_cmp (p1) ((0 : Int64)) then (kX2_reduce_27 n s8 (p0) (p1) (r8)) else (kX2_reduce_27 n s8 (p0) (p1) (-(r8)))
def kX3_isPin_16 (n : Nat) (σ : hv_St) : Option (Int32 × hv_St) := some ((0 : Int32), σ)
def mX3_isPin (n : Nat) (σ : hv_St) (p0 : Int32) : Option (Int32 × hv_St) := if p0 < 0 then (kX3_isPin_16 n σ) else (if σ.1 1 0 ≤ p0 then (kX3_isPin_16 n σ) else (some ((1 : Int32), σ)))
def kX3_hasPinAt_38 (n : Nat) (r2 : hv_St → Int32 → Int32 → Int32 → Option (Int32 × hv_St)) (σ : hv_St) (x1 : Int32) (x2 : Int32) (x3 : Int32) : Option (Int32 × hv_St) := r2 σ (x1) (x2) (x3 + 1)
def kX3_hasPinAt_2_b (n : Nat) (r2 : hv_St → Int32 → Int32 → Int32 → Option (Int32 × hv_St)) (σ : hv_St) (x1 : Int32) (x2 : Int32) (x3 : Int32) : Option (Int32 × hv_St) := if σ.1 1 0 ≤ x3 then (some ((0 : Int32), σ)) else (hv_if (hv_ok (((2 : Int32)) * (x3)) 12) (if σ.1 2 (((2 : Int32)) * (x3)).toNatClampNeg = x1 then (hv_if (hv_ok ((((2 : Int32)) * (x3)) + ((1 : Int32))) 12) (if σ.1 2 ((((2 : Int32)) * (x3)) + ((1 : Int32))).toNatClampNeg = x2 then (some ((1 : Int32), σ)) else (kX3_hasPinAt_38 n r2 σ (x1) (x2) (x3)))) else (kX3_hasPinAt_38 n r2 σ (x1) (x2) (x3))))
def kX3_hasPinAt_2 (n : Nat) : Nat → hv_St → Int32 → Int32 → Int32 → Option (Int32 × hv_St)
  | 0 => fun _ _ _ _ => none
  | i + 1 => kX3_hasPinAt_2_b n (kX3_hasPinAt_2 n i)
def mX3_hasPinAt (n : Nat) (σ : hv_St) (p0 : Int32) (p1 : Int32) : Option (Int32 × hv_St) := kX3_hasPinAt_2 n n σ (p0) (p1) ((0 : Int32))
def kX3_hasBar_52 (n : Nat) (r2 : hv_St → Int32 → Int32 → Int32 → Option (Int32 × hv_St)) (σ : hv_St) (x1 : Int32) (x2 : Int32) (x3 : Int32) : Option (Int32 × hv_St) := r2 σ (x1) (x2) (x3 + 1)
def kX3_hasBar_30 (n : Nat) (r2 : hv_St → Int32 → Int32 → Int32 → Option (Int32 × hv_St)) (σ : hv_St) (x1 : Int32) (x2 : Int32) (x3 : Int32) : Option (Int32 × hv_St) := hv_if (hv_ok (x3) 11) (if σ.1 5 (x3).toNatClampNeg = x2 then (hv_if (hv_ok (x3) 11) (if σ.1 6 (x3).toNatClampNeg = x1 then (some ((1 : Int32), σ)) else (kX3_hasBar_52 n r2 σ (x1) (x2) (x3)))) else (kX3_hasBar_52 n r2 σ (x1) (x2) (x3)))
def kX3_hasBar_2_b (n : Nat) (r2 : hv_St → Int32 → Int32 → Int32 → Option (Int32 × hv_St)) (σ : hv_St) (x1 : Int32) (x2 : Int32) (x3 : Int32) : Option (Int32 × hv_St) := if σ.1 1 1 ≤ x3 then (some ((0 : Int32), σ)) else (hv_if (hv_ok (x3) 11) (if σ.1 5 (x3).toNatClampNeg = x1 then (hv_if (hv_ok (x3) 11) (if σ.1 6 (x3).toNatClampNeg = x2 then (some ((1 : Int32), σ)) else (kX3_hasBar_30 n r2 σ (x1) (x2) (x3)))) else (kX3_hasBar_30 n r2 σ (x1) (x2) (x3))))
def kX3_hasBar_2 (n : Nat) : Nat → hv_St → Int32 → Int32 → Int32 → Option (Int32 × hv_St)
  | 0 => fun _ _ _ _ => none
  | i + 1 => kX3_hasBar_2_b n (kX3_hasBar_2 n i)
def mX3_hasBar (n : Nat) (σ : hv_St) (p0 : Int32) (p1 : Int32) : Option (Int32 × hv_St) := kX3_hasBar_2 n n σ (p0) (p1) ((0 : Int32))
def mX3_put (n : Nat) (σ : hv_St) (p0 : Int32) (p1 : Int32) (p2 : Int32) : Option (hv_St) := hv_if (hv_ok (((2 : Int32)) * (p0)) 12) (hv_let (hv_sI σ (2) (((2 : Int32)) * (p0)).toNatClampNeg (p1)) fun s8 => hv_if (hv_ok ((((2 : Int32)) * (p0)) + ((1 : Int32))) 12) (hv_let (hv_sI s8 (2) ((((2 : Int32)) * (p0)) + ((1 : Int32))).toNatClampNeg (p2)) fun s19 => some s19))
def mX3_addBar (n : Nat) (σ : hv_St) (p0 : Int32) (p1 : Int32) (p2 : Int32) : Option (Int32 × hv_St) := hv_let (σ.1 1 1) fun y4_4 => hv_if (hv_ok (y4_4) 11) (hv_let (hv_sI σ (5) (y4_4).toNatClampNeg (p0)) fun s13 => hv_if (hv_ok (y4_4) 11) (hv_let (hv_sI s13 (6) (y4_4).toNatClampNeg (p1)) fun s21 => hv_if (hv_ok (y4_4) 11) (hv_let (hv_sI s21 (7) (y4_4).toNatClampNeg (p2)) fun s29 => hv_if (hv_ok (y4_4) 11) (hv_let (hv_sI s29 (8) (y4_4).toNatClampNeg ((99 : Int32))) fun s38 => hv_let (hv_sI s38 1 2 ((s38.1 1 2) ||| (((1 : Int32)) <<< ((y4_4) &&& 31)))) fun s49 => hv_let (hv_sI s49 1 1 ((s49.1 1 1) + ((1 : Int32)))) fun s59 => some (y4_4, s59)))))
def kX3_barsAt_49 (n : Nat) (r4 : hv_St → Int32 → Int32 → Int32 → Option (Int32 × hv_St)) (σ : hv_St) (x1 : Int32) (x2 : Int32) (x3 : Int32) : Option (Int32 × hv_St) := r4 σ (x1) (x2) (x3 + 1)
def kX3_barsAt_43 (n : Nat) (r4 : hv_St → Int32 → Int32 → Int32 → Option (Int32 × hv_St)) (σ : hv_St) (x1 : Int32) (x2 : Int32) (x3 : Int32) : Option (Int32 × hv_St) := hv_let ((x2) ||| (((1 : Int32)) <<< ((x3) &&& 31))) fun y2_48 => kX3_barsAt_49 n r4 σ (x1) (y2_48) (x3)
def kX3_barsAt_4_b (n : Nat) (r4 : hv_St → Int32 → Int32 → Int32 → Option (Int32 × hv_St)) (σ : hv_St) (x1 : Int32) (x2 : Int32) (x3 : Int32) : Option (Int32 × hv_St) := if σ.1 1 1 ≤ x3 then (some (x2, σ)) else (hv_b2 (mX7_has n σ (σ.1 1 2) (x3)) fun r17 s17 => if r17 = 0 then (kX3_barsAt_49 n r4 s17 (x1) (x2) (x3)) else (hv_if (hv_ok (x3) 11) (if s17.1 5 (x3).toNatClampNeg = x1 then (kX3_barsAt_43 n r4 s17 (x1) (x2) (x3)) else (hv_if (hv_ok (x3) 11) (if s17.1 6 (x3).toNatClampNeg = x1 then (kX3_barsAt_43 n r4 s17 (x1) (x2) (x3)) else (kX3_barsAt_49 n r4 s17 (x1) (x2) (x3)))))))
def kX3_barsAt_4 (n : Nat) : Nat → hv_St → Int32 → Int32 → Int32 → Option (Int32 × hv_St)
  | 0 => fun _ _ _ _ => none
  | i + 1 => kX3_barsAt_4_b n (kX3_barsAt_4 n i)
def mX3_barsAt (n : Nat) (σ : hv_St) (p0 : Int32) : Option (Int32 × hv_St) := kX3_barsAt_4 n n σ (p0) ((0 : Int32)) ((0 : Int32))
def kX4_across_46 (n : Nat) (r6 : hv_St → Int32 → Int32 → Int32 → Int32 → Int32 → Option (Int32 × hv_St)) (σ : hv_St) (x1 : Int32) (x2 : Int32) (x3 : Int32) (x4 : Int32) (x5 : Int32) : Option (Int32 × hv_St) := r6 σ (x1) (x2) (x3) (x4) (x5 + 1)
def kX4_across_6_b (n : Nat) (r6 : hv_St → Int32 → Int32 → Int32 → Int32 → Int32 → Option (Int32 × hv_St)) (σ : hv_St) (x1 : Int32) (x2 : Int32) (x3 : Int32) (x4 : Int32) (x5 : Int32) : Option (Int32 × hv_St) := if σ.1 1 1 ≤ x5 then (some (x4, σ)) else (hv_b2 (mX7_has n σ (x3) (x5)) fun r21 s21 => if r21 = 0 then (kX4_across_46 n r6 s21 (x1) (x2) (x3) (x4) (x5)) else (hv_b2 (mX3_brings n s21 (x5) ((((2 : Int32)) * (x1)) + (x2))) fun r40 s40 => hv_let ((x4) + (r40)) fun y4_44 => kX4_across_46 n r6 s40 (x1) (x2) (x3) (y4_44) (x5)))
def kX4_across_6 (n : Nat) : Nat → hv_St → Int32 → Int32 → Int32 → Int32 → Int32 → Option (Int32 × hv_St)
  | 0 => fun _ _ _ _ _ _ => none
  | i + 1 => kX4_across_6_b n (kX4_across_6 n i)
def mX4_across (n : Nat) (σ : hv_St) (p0 : Int32) (p1 : Int32) (p2 : Int32) : Option (Int32 × hv_St) := kX4_across_6 n n σ (p0) (p1) (p2) ((0 : Int32)) ((0 : Int32))
def mX4_turns (n : Nat) (σ : hv_St) (p0 : Int32) (p1 : Int32) : Option (Int32 × hv_St) := hv_let ((p1) &&& ((p1) - ((1 : Int32)))) fun y3_5 => hv_let ((p1) ^^^ (y3_5)) fun y4_9 => hv_b2 (mX4_across n σ (p0) ((0 : Int32)) (y4_9)) fun r16 s16 => hv_b2 (mX4_across n s16 (p0) ((1 : Int32)) (y3_5)) fun r23 s23 => hv_let ((r16) * (r23)) fun y5_27 => hv_b2 (mX4_across n s23 (p0) ((1 : Int32)) (y4_9)) fun r34 s34 => hv_b2 (mX4_across n s34 (p0) ((0 : Int32)) (y3_5)) fun r41 s41 => hv_let ((r34) * (r41)) fun y6_45 => if y5_27 = y6_45 then (some ((0 : Int32), s41)) else (some ((1 : Int32), s41))
def kX4_determines_129 (n : Nat) (σ : hv_St) : Option (Int32 × hv_St) := some ((0 : Int32), σ)
def kX4_determines_101 (n : Nat) (σ : hv_St) : Option (Int32 × hv_St) := some ((1 : Int32), σ)
def kX4_determines_105 (n : Nat) (σ : hv_St) : Option (Int32 × hv_St) := some ((0 : Int32), σ)
def kX4_determines_86 (n : Nat) (σ : hv_St) (x1 : Int32) (x2 : Int32) (x4 : Int32) : Option (Int32 × hv_St) := if x4 = 0 then (kX4_determines_105 n σ) else (hv_b2 (mX4_across n σ (x1) ((1 : Int32)) (x2)) fun r95 s95 => if r95 = 0 then (kX4_determines_105 n s95) else (kX4_determines_101 n s95))
def kX4_determines_41 (n : Nat) (σ : hv_St) (x1 : Int32) (x2 : Int32) (x3 : Int32) (z0 : Int32) : Option (Int32 × hv_St) := hv_b2 (mJ6_bitCount_0f7a4 n σ (x2)) fun r44 s44 => if r44 = (1 : Int32) then (if x3 = 0 then (kX4_determines_86 n s44 (x1) (x2) (z0)) else (hv_b2 (mX4_across n s44 (x1) ((0 : Int32)) (x2)) fun r80 s80 => if r80 = 0 then (kX4_determines_86 n s80 (x1) (x2) (z0)) else (kX4_determines_101 n s80))) else (if r44 = (2 : Int32) then (if x3 = 0 then (kX4_determines_129 n s44) else (if z0 = 0 then (kX4_determines_129 n s44) else (hv_b2 (mX4_turns n s44 (x1) (x2)) fun r119 s119 => if r119 = 0 then (kX4_determines_129 n s119) else (some ((1 : Int32), s119))))) else (some ((0 : Int32), s44)))
def kX4_determines_19 (n : Nat) (σ : hv_St) (x1 : Int32) (x2 : Int32) (z0 : Int32) : Option (Int32 × hv_St) := hv_if (hv_ok ((((2 : Int32)) * (x1)) + ((1 : Int32))) 12) (if σ.1 4 ((((2 : Int32)) * (x1)) + ((1 : Int32))).toNatClampNeg = 0 then (kX4_determines_41 n σ (x1) (x2) (z0) ((1 : Int32))) else (kX4_determines_41 n σ (x1) (x2) (z0) ((0 : Int32))))
def mX4_determines (n : Nat) (σ : hv_St) (p0 : Int32) (p1 : Int32) : Option (Int32 × hv_St) := hv_if (hv_ok (((2 : Int32)) * (p0)) 12) (if σ.1 4 (((2 : Int32)) * (p0)).toNatClampNeg = 0 then (kX4_determines_19 n σ (p0) (p1) ((1 : Int32))) else (kX4_determines_19 n σ (p0) (p1) ((0 : Int32))))
def kX4_doNext_79 (n : Nat) (r2 : hv_St → Int32 → Option (Int32 × hv_St)) (σ : hv_St) (x1 : Int32) : Option (Int32 × hv_St) := r2 σ (x1 + 1)
def kX4_doNext_2_b (n : Nat) (r2 : hv_St → Int32 → Option (Int32 × hv_St)) (σ : hv_St) (x1 : Int32) : Option (Int32 × hv_St) := if σ.1 1 0 ≤ x1 then (some ((0 : Int32), σ)) else (hv_b2 (mX3_barsAt n σ (x1)) fun r18 s18 => hv_let ((r18) &&& ((s18.1 17 3) ^^^ ((-1 : Int32)))) fun y2_28 => hv_b2 (mX4_determines n s18 (x1) (y2_28)) fun r32 s32 => if r32 = 0 then (kX4_doNext_79 n r2 s32 (x1)) else (if (6 : Int32) ≤ s32.1 17 2 then (kX4_doNext_79 n r2 s32 (x1)) else (hv_if (hv_ok (s32.1 17 2) 6) (hv_let (hv_sI s32 (18) (s32.1 17 2).toNatClampNeg (x1)) fun s56 => hv_let (hv_sI s56 17 2 ((s56.1 17 2) + ((1 : Int32)))) fun s64 => hv_let (hv_sI s64 17 3 ((s64.1 17 3) ||| (y2_28))) fun s74 => some ((1 : Int32), s74)))))
def kX4_doNext_2 (n : Nat) : Nat → hv_St → Int32 → Option (Int32 × hv_St)
  | 0 => fun _ _ => none
  | i + 1 => kX4_doNext_2_b n (kX4_doNext_2 n i)
def mX4_doNext (n : Nat) (σ : hv_St) : Option (Int32 × hv_St) := kX4_doNext_2 n n σ ((0 : Int32))
def kX4_follow_14_b (n : Nat) (r14 : hv_St → Int32 → Int32 → Option (hv_St)) (σ : hv_St) (x1 : Int32) (x2 : Int32) : Option (hv_St) := if (6 : Int32) ≤ x2 then (some σ) else (if x1 = 0 then (some σ) else (hv_b2 (mX4_doNext n σ ) fun r25 s25 => r14 s25 (r25) (x2 + 1)))
def kX4_follow_14 (n : Nat) : Nat → hv_St → Int32 → Int32 → Option (hv_St)
  | 0 => fun _ _ _ => none
  | i + 1 => kX4_follow_14_b n (kX4_follow_14 n i)
def mX4_follow (n : Nat) (σ : hv_St) : Option (hv_St) := hv_let (hv_sI σ 17 2 ((0 : Int32))) fun s2 => hv_let (hv_sI s2 17 3 ((0 : Int32))) fun s7 => kX4_follow_14 n n s7 ((1 : Int32)) ((0 : Int32))
def kX5_isSpare_16 (n : Nat) (σ : hv_St) : Option (Int32 × hv_St) := some ((0 : Int32), σ)
def mX5_isSpare (n : Nat) (σ : hv_St) (p0 : Int32) : Option (Int32 × hv_St) := if p0 < 0 then (kX5_isSpare_16 n σ) else (if σ.1 13 5 ≤ p0 then (kX5_isSpare_16 n σ) else (some ((1 : Int32), σ)))
def kX5_layPairs_138 (n : Nat) (r7 : hv_St → Int32 → Option (hv_St)) (r20 : hv_St → Int32 → Int32 → Option (hv_St)) (σ : hv_St) (x1 : Int32) (x2 : Int32) : Option (hv_St) := r20 σ (x1) (x2 + 1)
def kX5_layPairs_20_b (n : Nat) (r7 : hv_St → Int32 → Option (hv_St)) (r20 : hv_St → Int32 → Int32 → Option (hv_St)) (σ : hv_St) (x1 : Int32) (x2 : Int32) : Option (hv_St) := if σ.1 1 1 ≤ x2 then (r7 σ (x1 + 1)) else (hv_if (hv_ok ((0 : Int32)) 2) (hv_if (hv_ok (x1) 11) (hv_if (hv_ok ((1 : Int32)) 2) (hv_if (hv_ok (x2) 11) (hv_if (hv_ok ((0 : Int32)) 2) (hv_if (hv_ok (x2) 11) (hv_if (hv_ok ((1 : Int32)) 2) (hv_if (hv_ok (x1) 11) (hv_let (((σ.2 (39 + ((0 : Int32)).toNatClampNeg) (x1).toNatClampNeg) * (σ.2 (39 + ((1 : Int32)).toNatClampNeg) (x2).toNatClampNeg)) - ((σ.2 (39 + ((0 : Int32)).toNatClampNeg) (x2).toNatClampNeg) * (σ.2 (39 + ((1 : Int32)).toNatClampNeg) (x1).toNatClampNeg))) fun y3_66 => hv_if (hv_ok (x1) 11) (hv_b2 (mX7_quotient n σ (y3_66) (σ.2 9 8)) fun r82 s82 => hv_if (hv_ok (x2) 11) (hv_let (hv_sJ s82 (41 + (x1).toNatClampNeg) (x2).toNatClampNeg (r82)) fun s85 => if x2 ≤ x1 then (kX5_layPairs_138 n r7 r20 s85 (x1) (x2)) else (hv_if (hv_ok (x1) 11) (hv_if (hv_ok (x2) 11) (hv_if (hv_ok (x1) 11) (hv_if (hv_ok (x2) 11) (hv_if (hv_ok (x1) 11) (hv_if (hv_ok (x2) 11) (hv_let (hv_sJ s85 13 6 ((s85.2 13 6) + (((((s85.1 7 (x1).toNatClampNeg) * (s85.1 7 (x2).toNatClampNeg)).toInt64) * (s85.2 (41 + (x1).toNatClampNeg) (x2).toNatClampNeg)) * (s85.2 (41 + (x1).toNatClampNeg) (x2).toNatClampNeg)))) fun s135 => kX5_layPairs_138 n r7 r20 s135 (x1) (x2)))))))))))))))))))
def kX5_layPairs_20 (n : Nat) (r7 : hv_St → Int32 → Option (hv_St)) : Nat → hv_St → Int32 → Int32 → Option (hv_St)
  | 0 => fun _ _ _ => none
  | i + 1 => kX5_layPairs_20_b n r7 (kX5_layPairs_20 n r7 i)
def kX5_layPairs_7_b (n : Nat) (r7 : hv_St → Int32 → Option (hv_St)) (σ : hv_St) (x1 : Int32) : Option (hv_St) := if σ.1 1 1 ≤ x1 then (some σ) else (kX5_layPairs_20 n r7 n σ (x1) ((0 : Int32)))
def kX5_layPairs_7 (n : Nat) : Nat → hv_St → Int32 → Option (hv_St)
  | 0 => fun _ _ => none
  | i + 1 => kX5_layPairs_7_b n (kX5_layPairs_7 n i)
def mX5_layPairs (n : Nat) (σ : hv_St) : Option (hv_St) := hv_let (hv_sJ σ 13 6 ((0 : Int64))) fun s2 => kX5_layPairs_7 n n s2 ((0 : Int32))
def mX5_stateOf (n : Nat) (σ : hv_St) (p0 : Int32) (p1 : Int32) : Option (Int64 × hv_St) := hv_b2 (mX5_isSpare n σ (p0)) fun r2 s2 => if r2 = 0 then (hv_if (hv_ok (p1) 11) (some (s2.2 14 (p1).toNatClampNeg, s2))) else (hv_if (hv_ok (p0) 2) (hv_if (hv_ok (p1) 11) (some (s2.2 (39 + (p0).toNatClampNeg) (p1).toNatClampNeg, s2))))
def kX5_giving_5_b (n : Nat) (r5 : hv_St → Int32 → Int32 → Int64 → Int32 → Option (Int64 × hv_St)) (σ : hv_St) (x1 : Int32) (x2 : Int32) (x3 : Int64) (x5 : Int32) : Option (Int64 × hv_St) := if σ.1 1 1 ≤ x5 then (some (x3, σ)) else (hv_if (hv_ok (x5) 11) (hv_b2 (mX5_stateOf n σ (x1) (x5)) fun r33 s33 => hv_b2 (mX5_stateOf n s33 (x2) (x5)) fun r41 s41 => hv_let ((x3) + ((((σ.1 7 (x5).toNatClampNeg).toInt64) * (r33)) * (r41))) fun y3_46 => r5 s41 (x1) (x2) (y3_46) (x5 + 1)))
def kX5_giving_5 (n : Nat) : Nat → hv_St → Int32 → Int32 → Int64 → Int32 → Option (Int64 × hv_St)
  | 0 => fun _ _ _ _ _ => none
  | i + 1 => kX5_giving_5_b n (kX5_giving_5 n i)
def mX5_giving (n : Nat) (σ : hv_St) (p0 : Int32) (p1 : Int32) : Option (Int64 × hv_St) := kX5_giving_5 n n σ (p0) (p1) ((0 : Int64)) ((0 : Int32))
def kX5_layUnit_25_b (n : Nat) (r25 : hv_St → Int32 → Int32 → Int32 → Option (hv_St)) (σ : hv_St) (x1 : Int32) (x2 : Int32) (x3 : Int32) : Option (hv_St) := if σ.1 9 5 ≤ x3 then (hv_if (hv_ok (x1) 2) (hv_if (hv_ok (x2) 11) (hv_let (hv_sJ σ (39 + (x1).toNatClampNeg) (x2).toNatClampNeg (σ.2 9 8)) fun s84 => some s84))) else (hv_if (hv_ok (x1) 2) (hv_if (hv_ok (x3) 12) (hv_if (hv_ok (x3) 12) (hv_if (hv_ok (x2) 23) (hv_if (hv_ok (σ.1 12 (x3).toNatClampNeg) 11) (hv_let (hv_sJ σ (39 + (x1).toNatClampNeg) (σ.1 12 (x3).toNatClampNeg).toNatClampNeg (-(σ.2 (27 + (x3).toNatClampNeg) (x2).toNatClampNeg))) fun s63 => r25 s63 (x1) (x2) (x3 + 1)))))))
def kX5_layUnit_25 (n : Nat) : Nat → hv_St → Int32 → Int32 → Int32 → Option (hv_St)
  | 0 => fun _ _ _ _ => none
  | i + 1 => kX5_layUnit_25_b n (kX5_layUnit_25 n i)
def kX5_layUnit_2_b (n : Nat) (r2 : hv_St → Int32 → Int32 → Int32 → Option (hv_St)) (σ : hv_St) (x1 : Int32) (x2 : Int32) (x3 : Int32) : Option (hv_St) := if (11 : Int32) ≤ x3 then (kX5_layUnit_25 n n σ (x1) (x2) ((0 : Int32))) else (hv_if (hv_ok (x1) 2) (hv_if (hv_ok (x3) 11) (hv_let (hv_sJ σ (39 + (x1).toNatClampNeg) (x3).toNatClampNeg ((0 : Int64))) fun s16 => r2 s16 (x1) (x2) (x3 + 1))))
def kX5_layUnit_2 (n : Nat) : Nat → hv_St → Int32 → Int32 → Int32 → Option (hv_St)
  | 0 => fun _ _ _ _ => none
  | i + 1 => kX5_layUnit_2_b n (kX5_layUnit_2 n i)
def mX5_layUnit (n : Nat) (σ : hv_St) (p0 : Int32) (p1 : Int32) : Option (hv_St) := kX5_layUnit_2 n n σ (p0) (p1) ((0 : Int32))
def kX5_prepare_59 (n : Nat) (r7 : hv_St → Int32 → Option (hv_St)) (σ : hv_St) (x1 : Int32) : Option (hv_St) := r7 σ (x1 + 1)
def kX5_prepare_7_b (n : Nat) (r7 : hv_St → Int32 → Option (hv_St)) (σ : hv_St) (x1 : Int32) : Option (hv_St) := if σ.1 1 1 ≤ x1 then (if σ.1 13 5 = 0 then (hv_let (hv_sJ σ 13 6 (σ.2 9 8)) fun s80 => some s80) else (if σ.1 13 5 = (1 : Int32) then (hv_b2 (mX5_giving n σ ((0 : Int32)) ((0 : Int32))) fun r98 s98 => hv_let (hv_sJ s98 13 6 (r98)) fun s101 => some s101) else (hv_bd (mX5_layPairs n σ ) fun s108 => some s108))) else (hv_b2 (mX7_has n σ (σ.1 9 7) (x1)) fun r26 s26 => if r26 = 0 then (kX5_prepare_59 n r7 s26 (x1)) else (if (2 : Int32) ≤ s26.1 13 5 then (kX5_prepare_59 n r7 s26 (x1)) else (hv_bd (mX5_layUnit n s26 (s26.1 13 5) (x1)) fun s46 => hv_let (hv_sI s46 13 5 ((s46.1 13 5) + ((1 : Int32)))) fun s56 => kX5_prepare_59 n r7 s56 (x1))))
def kX5_prepare_7 (n : Nat) : Nat → hv_St → Int32 → Option (hv_St)
  | 0 => fun _ _ => none
  | i + 1 => kX5_prepare_7_b n (kX5_prepare_7 n i)
def mX5_prepare (n : Nat) (σ : hv_St) : Option (hv_St) := hv_let (hv_sI σ 13 5 ((0 : Int32))) fun s2 => kX5_prepare_7 n n s2 ((0 : Int32))
def kX5_bear_39_b (q : Nat) (n : Nat) (r23 : hv_St → Int32 → Option (hv_St)) (r39 : hv_St → Int32 → Int64 → Int32 → Option (hv_St)) (σ : hv_St) (x2 : Int32) (x3 : Int64) (x5 : Int32) : Option (hv_St) := if σ.1 9 4 ≤ x5 then (hv_if (hv_ok (x2) 12) (hv_if (hv_ok (σ.1 12 (x2).toNatClampNeg) 11) (hv_let (hv_sJ σ (14) (σ.1 12 (x2).toNatClampNeg).toNatClampNeg (-(x3))) fun s109 => r23 s109 (x2 + 1)))) else (hv_if (hv_ok (x2) 12) (hv_if (hv_ok ((σ.1 1 1) + (x5)) 23) (hv_if (hv_ok (x5) 12) (hv_if (hv_ok (σ.1 11 (x5).toNatClampNeg) 12) (hv_let ((x3) + ((σ.2 (27 + (x2).toNatClampNeg) ((σ.1 1 1) + (x5)).toNatClampNeg) * ((σ.1 (q) (σ.1 11 (x5).toNatClampNeg).toNatClampNeg).toInt64))) fun y3_87 => r39 σ (x2) (y3_87) (x5 + 1))))))
def kX5_bear_39 (q : Nat) (n : Nat) (r23 : hv_St → Int32 → Option (hv_St)) : Nat → hv_St → Int32 → Int64 → Int32 → Option (hv_St)
  | 0 => fun _ _ _ _ => none
  | i + 1 => kX5_bear_39_b q n r23 (kX5_bear_39 q n r23 i)
def kX5_bear_23_b (q : Nat) (n : Nat) (r23 : hv_St → Int32 → Option (hv_St)) (σ : hv_St) (x2 : Int32) : Option (hv_St) := if σ.1 9 5 ≤ x2 then (some σ) else (kX5_bear_39 q n r23 n σ (x2) ((0 : Int64)) ((0 : Int32)))
def kX5_bear_23 (q : Nat) (n : Nat) : Nat → hv_St → Int32 → Option (hv_St)
  | 0 => fun _ _ => none
  | i + 1 => kX5_bear_23_b q n (kX5_bear_23 q n i)
def kX5_bear_2_b (q : Nat) (n : Nat) (r2 : hv_St → Int32 → Option (hv_St)) (σ : hv_St) (x2 : Int32) : Option (hv_St) := if (11 : Int32) ≤ x2 then (kX5_bear_23 q n n σ ((0 : Int32))) else (hv_if (hv_ok (x2) 11) (hv_let (hv_sJ σ (14) (x2).toNatClampNeg ((0 : Int64))) fun s14 => r2 s14 (x2 + 1)))
def kX5_bear_2 (q : Nat) (n : Nat) : Nat → hv_St → Int32 → Option (hv_St)
  | 0 => fun _ _ => none
  | i + 1 => kX5_bear_2_b q n (kX5_bear_2 q n i)
def mX5_bear (n : Nat) (σ : hv_St) (q : Nat) : Option (hv_St) := kX5_bear_2 q n n σ ((0 : Int32))
def kX5_overWithTwo_23_b (n : Nat) (r5 : hv_St → Int32 → Int64 → Int32 → Option (Int64 × hv_St)) (r23 : hv_St → Int32 → Int64 → Int32 → Int32 → Option (Int64 × hv_St)) (σ : hv_St) (x1 : Int32) (x2 : Int64) (x4 : Int32) (x5 : Int32) : Option (Int64 × hv_St) := if σ.1 1 1 ≤ x5 then (r5 σ (x1) (x2) (x4 + 1)) else (hv_if (hv_ok (x1) 11) (hv_if (hv_ok (x4) 11) (hv_if (hv_ok (x5) 11) (hv_if (hv_ok (x4) 11) (hv_if (hv_ok (x1) 11) (hv_if (hv_ok (x5) 11) (hv_if (hv_ok (x5) 11) (hv_if (hv_ok (x1) 11) (hv_if (hv_ok (x4) 11) (hv_let ((((σ.2 14 (x1).toNatClampNeg) * (σ.2 (41 + (x4).toNatClampNeg) (x5).toNatClampNeg)) - ((σ.2 14 (x4).toNatClampNeg) * (σ.2 (41 + (x1).toNatClampNeg) (x5).toNatClampNeg))) + ((σ.2 14 (x5).toNatClampNeg) * (σ.2 (41 + (x1).toNatClampNeg) (x4).toNatClampNeg))) fun y6_88 => hv_b2 (mX7_quotient n σ (y6_88) (σ.2 9 8)) fun r99 s99 => hv_if (hv_ok (x4) 11) (hv_if (hv_ok (x5) 11) (hv_if (hv_ok (x4) 11) (hv_if (hv_ok (x5) 11) (hv_let ((x2) + (((((s99.1 7 (x4).toNatClampNeg) * (s99.1 7 (x5).toNatClampNeg)).toInt64) * (s99.2 (41 + (x4).toNatClampNeg) (x5).toNatClampNeg)) * (r99))) fun y2_142 => r23 s99 (x1) (y2_142) (x4) (x5 + 1)))))))))))))))
def kX5_overWithTwo_23 (n : Nat) (r5 : hv_St → Int32 → Int64 → Int32 → Option (Int64 × hv_St)) : Nat → hv_St → Int32 → Int64 → Int32 → Int32 → Option (Int64 × hv_St)
  | 0 => fun _ _ _ _ _ => none
  | i + 1 => kX5_overWithTwo_23_b n r5 (kX5_overWithTwo_23 n r5 i)
def kX5_overWithTwo_5_b (n : Nat) (r5 : hv_St → Int32 → Int64 → Int32 → Option (Int64 × hv_St)) (σ : hv_St) (x1 : Int32) (x2 : Int64) (x4 : Int32) : Option (Int64 × hv_St) := if σ.1 1 1 ≤ x4 then (some (x2, σ)) else (hv_let ((x4) + ((1 : Int32))) fun y5_21 => kX5_overWithTwo_23 n r5 n σ (x1) (x2) (x4) (y5_21))
def kX5_overWithTwo_5 (n : Nat) : Nat → hv_St → Int32 → Int64 → Int32 → Option (Int64 × hv_St)
  | 0 => fun _ _ _ _ => none
  | i + 1 => kX5_overWithTwo_5_b n (kX5_overWithTwo_5 n i)
def mX5_overWithTwo (n : Nat) (σ : hv_St) (p0 : Int32) : Option (Int64 × hv_St) := kX5_overWithTwo_5 n n σ (p0) ((0 : Int64)) ((0 : Int32))
def kX5_overWithOne_5_b (n : Nat) (r5 : hv_St → Int32 → Int64 → Int32 → Option (Int64 × hv_St)) (σ : hv_St) (x1 : Int32) (x2 : Int64) (x4 : Int32) : Option (Int64 × hv_St) := if σ.1 1 1 ≤ x4 then (some (x2, σ)) else (hv_if (hv_ok (x1) 11) (hv_if (hv_ok ((0 : Int32)) 2) (hv_if (hv_ok (x4) 11) (hv_if (hv_ok (x4) 11) (hv_if (hv_ok ((0 : Int32)) 2) (hv_if (hv_ok (x1) 11) (hv_let (((σ.2 14 (x1).toNatClampNeg) * (σ.2 (39 + ((0 : Int32)).toNatClampNeg) (x4).toNatClampNeg)) - ((σ.2 14 (x4).toNatClampNeg) * (σ.2 (39 + ((0 : Int32)).toNatClampNeg) (x1).toNatClampNeg))) fun y5_50 => hv_b2 (mX7_quotient n σ (y5_50) (σ.2 9 8)) fun r61 s61 => hv_if (hv_ok (x4) 11) (hv_if (hv_ok ((0 : Int32)) 2) (hv_if (hv_ok (x4) 11) (hv_let ((x2) + ((((s61.1 7 (x4).toNatClampNeg).toInt64) * (s61.2 (39 + ((0 : Int32)).toNatClampNeg) (x4).toNatClampNeg)) * (r61))) fun y2_92 => r5 s61 (x1) (y2_92) (x4 + 1)))))))))))
def kX5_overWithOne_5 (n : Nat) : Nat → hv_St → Int32 → Int64 → Int32 → Option (Int64 × hv_St)
  | 0 => fun _ _ _ _ => none
  | i + 1 => kX5_overWithOne_5_b n (kX5_overWithOne_5 n i)
def mX5_overWithOne (n : Nat) (σ : hv_St) (p0 : Int32) : Option (Int64 × hv_St) := kX5_overWithOne_5 n n σ (p0) ((0 : Int64)) ((0 : Int32))
def mX5_overOf (n : Nat) (σ : hv_St) (p0 : Int32) : Option (Int64 × hv_St) := if σ.1 13 5 = 0 then (hv_if (hv_ok (p0) 11) (some (σ.2 14 (p0).toNatClampNeg, σ))) else (if σ.1 13 5 = (1 : Int32) then (hv_b2 (mX5_overWithOne n σ (p0)) fun r24 s24 => some (r24, s24)) else (hv_b2 (mX5_overWithTwo n σ (p0)) fun r32 s32 => some (r32, s32)))
def kX6_addPin_13_b (n : Nat) (r13 : hv_St → Int32 → Int32 → Option (Int32 × hv_St)) (σ : hv_St) (x1 : Int32) (x2 : Int32) : Option (Int32 × hv_St) := if σ.1 22 0 ≤ x2 then (hv_if (hv_ok (σ.1 22 0) 6) (hv_let (hv_sI σ (23) (σ.1 22 0).toNatClampNeg (x1)) fun s48 => hv_let (hv_sI s48 22 0 ((s48.1 22 0) + ((1 : Int32)))) fun s56 => some (s56.1 22 0, s56))) else (hv_if (hv_ok (x2) 6) (if σ.1 23 (x2).toNatClampNeg = x1 then (some ((-1 : Int32), σ)) else (r13 σ (x1) (x2 + 1))))
def kX6_addPin_13 (n : Nat) : Nat → hv_St → Int32 → Int32 → Option (Int32 × hv_St)
  | 0 => fun _ _ _ => none
  | i + 1 => kX6_addPin_13_b n (kX6_addPin_13 n i)
def mX6_addPin (n : Nat) (σ : hv_St) (p0 : Int32) : Option (Int32 × hv_St) := if σ.1 22 0 < (6 : Int32) then (kX6_addPin_13 n n σ (p0) ((0 : Int32))) else (some ((-1 : Int32), σ))
def kX6_digitsWithoutZero_50 (n : Nat) (σ : hv_St) : Option (Int32 × hv_St) := some ((-1 : Int32), σ)
def kX6_digitsWithoutZero_38 (n : Nat) (σ : hv_St) (x1 : Int32) (x2 : Int32) : Option (Int32 × hv_St) := if x1 = 0 then (if x2 ≤ 0 then (kX6_digitsWithoutZero_50 n σ) else (some (x2, σ))) else (kX6_digitsWithoutZero_50 n σ)
def kX6_digitsWithoutZero_6_b (n : Nat) (r6 : hv_St → Int32 → Int32 → Int32 → Option (Int32 × hv_St)) (σ : hv_St) (x1 : Int32) (x2 : Int32) (x3 : Int32) : Option (Int32 × hv_St) := if (4 : Int32) ≤ x3 then (kX6_digitsWithoutZero_38 n σ (x1) (x2)) else (if x1 ≤ 0 then (kX6_digitsWithoutZero_38 n σ (x1) (x2)) else (if (x1) - (x1) / ((10 : Int32)) * ((10 : Int32)) = 0 then (some ((-1 : Int32), σ)) else (hv_let ((x1) / ((10 : Int32))) fun y1_28 => r6 σ (y1_28) (x2 + 1) (x3 + 1))))
def kX6_digitsWithoutZero_6 (n : Nat) : Nat → hv_St → Int32 → Int32 → Int32 → Option (Int32 × hv_St)
  | 0 => fun _ _ _ _ => none
  | i + 1 => kX6_digitsWithoutZero_6_b n (kX6_digitsWithoutZero_6 n i)
def mX6_digitsWithoutZero (n : Nat) (σ : hv_St) (p0 : Int32) : Option (Int32 × hv_St) := kX6_digitsWithoutZero_6 n n σ (p0) ((0 : Int32)) ((0 : Int32))
def kX6_takeWeights_19_b (n : Nat) (r19 : hv_St → Int32 → Int32 → Int32 → Option (Int32 × hv_St)) (σ : hv_St) (x2 : Int32) (x3 : Int32) (x4 : Int32) : Option (Int32 × hv_St) := if x4 < 0 then (hv_let (hv_sI σ 22 1 (x2)) fun s48 => some (x2, s48)) else (hv_if (hv_ok (x4) 4) (hv_let (hv_sI σ (24) (x4).toNatClampNeg ((x3) - (x3) / ((10 : Int32)) * ((10 : Int32)))) fun s34 => hv_let ((x3) / ((10 : Int32))) fun y3_39 => r19 s34 (x2) (y3_39) ((x4) + (-1))))
def kX6_takeWeights_19 (n : Nat) : Nat → hv_St → Int32 → Int32 → Int32 → Option (Int32 × hv_St)
  | 0 => fun _ _ _ _ => none
  | i + 1 => kX6_takeWeights_19_b n (kX6_takeWeights_19 n i)
def mX6_takeWeights (n : Nat) (σ : hv_St) (p0 : Int32) : Option (Int32 × hv_St) := hv_b2 (mX6_digitsWithoutZero n σ (p0)) fun r1 s1 => if r1 = (-1 : Int32) then (some ((-1 : Int32), s1)) else (hv_let ((r1) - ((1 : Int32))) fun y4_17 => kX6_takeWeights_19 n n s1 (r1) (p0) (y4_17))
def kX6_stands_37 (n : Nat) (σ : hv_St) : Option (Int32 × hv_St) := some ((0 : Int32), σ)
def mX6_stands (n : Nat) (σ : hv_St) (p0 : Int32) : Option (Int32 × hv_St) := if σ.1 22 0 ≤ 0 then (kX6_stands_37 n σ) else (if σ.1 22 1 ≤ 0 then (kX6_stands_37 n σ) else (if p0 < 0 then (kX6_stands_37 n σ) else (if ((σ.1 22 0) + (σ.1 22 1)) - ((2 : Int32)) < p0 then (kX6_stands_37 n σ) else (some ((1 : Int32), σ)))))
def kX6_clearLoads_2_b (n : Nat) (r2 : hv_St → Int32 → Option (hv_St)) (σ : hv_St) (x1 : Int32) : Option (hv_St) := if (12 : Int32) ≤ x1 then (some σ) else (hv_if (hv_ok (x1) 12) (hv_let (hv_sI σ (25) (x1).toNatClampNeg ((0 : Int32))) fun s14 => r2 s14 (x1 + 1)))
def kX6_clearLoads_2 (n : Nat) : Nat → hv_St → Int32 → Option (hv_St)
  | 0 => fun _ _ => none
  | i + 1 => kX6_clearLoads_2_b n (kX6_clearLoads_2 n i)
def mX6_clearLoads (n : Nat) (σ : hv_St) : Option (hv_St) := kX6_clearLoads_2 n n σ ((0 : Int32))
def kX6_loadsAt_52 (n : Nat) (r6 : hv_St → Int32 → Int32 → Option (hv_St)) (σ : hv_St) (x1 : Int32) (x2 : Int32) : Option (hv_St) := r6 σ (x1) (x2 + 1)
def kX6_loadsAt_6_b (n : Nat) (r6 : hv_St → Int32 → Int32 → Option (hv_St)) (σ : hv_St) (x1 : Int32) (x2 : Int32) : Option (hv_St) := if σ.1 22 1 ≤ x2 then (some σ) else (hv_let ((x1) - (x2)) fun y3_17 => if y3_17 < 0 then (kX6_loadsAt_52 n r6 σ (x1) (x2)) else (if σ.1 22 0 ≤ y3_17 then (kX6_loadsAt_52 n r6 σ (x1) (x2)) else (hv_if (hv_ok (y3_17) 6) (hv_if (hv_ok (x2) 4) (hv_if (hv_ok ((((2 : Int32)) * (σ.1 23 (y3_17).toNatClampNeg)) + ((1 : Int32))) 12) (hv_let (hv_sI σ (25) ((((2 : Int32)) * (σ.1 23 (y3_17).toNatClampNeg)) + ((1 : Int32))).toNatClampNeg (-(σ.1 24 (x2).toNatClampNeg))) fun s51 => kX6_loadsAt_52 n r6 s51 (x1) (x2)))))))
def kX6_loadsAt_6 (n : Nat) : Nat → hv_St → Int32 → Int32 → Option (hv_St)
  | 0 => fun _ _ _ => none
  | i + 1 => kX6_loadsAt_6_b n (kX6_loadsAt_6 n i)
def mX6_loadsAt (n : Nat) (σ : hv_St) (p0 : Int32) : Option (hv_St) := hv_bd (mX6_clearLoads n σ ) fun s1 => kX6_loadsAt_6 n n s1 (p0) ((0 : Int32))
def mX6_oneLoad (n : Nat) (σ : hv_St) (p0 : Int32) : Option (hv_St) := hv_bd (mX6_clearLoads n σ ) fun s1 => hv_if (hv_ok (p0) 12) (hv_let (hv_sI s1 (25) (p0).toNatClampNeg ((1 : Int32))) fun s10 => some s10)
def kX7_isFreePlace_44 (n : Nat) (σ : hv_St) : Option (Int32 × hv_St) := some ((0 : Int32), σ)
def kX7_isFreePlace_23 (n : Nat) (σ : hv_St) (x1 : Int32) (x2 : Int32) (z0 : Int32) : Option (Int32 × hv_St) := if z0 = 0 then (kX7_isFreePlace_44 n σ) else (hv_b2 (mX3_hasPinAt n σ (x1) (x2)) fun r34 s34 => if r34 = 0 then (some ((1 : Int32), s34)) else (kX7_isFreePlace_44 n s34))
def kX7_isFreePlace_22 (n : Nat) (σ : hv_St) (x1 : Int32) (x2 : Int32) : Option (Int32 × hv_St) := kX7_isFreePlace_23 n σ (x1) (x2) ((0 : Int32))
def mX7_isFreePlace (n : Nat) (σ : hv_St) (p0 : Int32) (p1 : Int32) : Option (Int32 × hv_St) := if p0 < 0 then (kX7_isFreePlace_22 n σ (p0) (p1)) else (if (4 : Int32) ≤ p0 then (kX7_isFreePlace_22 n σ (p0) (p1)) else (if p1 < 0 then (kX7_isFreePlace_22 n σ (p0) (p1)) else (if (3 : Int32) ≤ p1 then (kX7_isFreePlace_22 n σ (p0) (p1)) else (kX7_isFreePlace_23 n σ (p0) (p1) ((1 : Int32))))))
def mX7_pin (n : Nat) (σ : hv_St) (p0 : Int32) (p1 : Int32) : Option (Int32 × hv_St) := if (6 : Int32) ≤ σ.1 1 0 then (some ((-1 : Int32), σ)) else (hv_b2 (mX7_isFreePlace n σ (p0) (p1)) fun r15 s15 => if r15 = 0 then (some ((-1 : Int32), s15)) else (hv_let (s15.1 1 0) fun y3_30 => hv_let (hv_sI s15 1 0 ((s15.1 1 0) + ((1 : Int32)))) fun s41 => hv_bd (mX3_put n s41 (y3_30) (p0) (p1)) fun s51 => some (y3_30, s51)))
def mX7_place (n : Nat) (σ : hv_St) (p0 : Int32) (p1 : Int32) (p2 : Int32) : Option (Int32 × hv_St) := hv_b2 (mX3_isPin n σ (p0)) fun r5 s5 => if r5 = 0 then (some ((0 : Int32), s5)) else (hv_b2 (mX7_isFreePlace n s5 (p1) (p2)) fun r14 s14 => if r14 = 0 then (some ((0 : Int32), s14)) else (hv_bd (mX3_put n s14 (p0) (p1) (p2)) fun s29 => some ((1 : Int32), s29)))
def kX7_isGive_14 (n : Nat) (σ : hv_St) : Option (Int32 × hv_St) := some ((0 : Int32), σ)
def mX7_isGive (n : Nat) (σ : hv_St) (p0 : Int32) : Option (Int32 × hv_St) := if p0 < (1 : Int32) then (kX7_isGive_14 n σ) else (if (3 : Int32) < p0 then (kX7_isGive_14 n σ) else (some ((1 : Int32), σ)))
def kX7_bar_44 (n : Nat) (σ : hv_St) (x1 : Int32) (x2 : Int32) (x3 : Int32) (z0 : Int32) : Option (Int32 × hv_St) := if z0 = 0 then (some ((-1 : Int32), σ)) else (hv_b2 (mX7_isGive n σ (x3)) fun r52 s52 => if r52 = 0 then (some ((-1 : Int32), s52)) else (hv_b2 (mX3_hasBar n s52 (x1) (x2)) fun r64 s64 => if r64 = 0 then (hv_b2 (mX3_addBar n s64 (x1) (x2) (x3)) fun r79 s79 => some (r79, s79)) else (some ((-1 : Int32), s64))))
def kX7_bar_43 (n : Nat) (σ : hv_St) (x1 : Int32) (x2 : Int32) (x3 : Int32) : Option (Int32 × hv_St) := kX7_bar_44 n σ (x1) (x2) (x3) ((0 : Int32))
def mX7_bar (n : Nat) (σ : hv_St) (p0 : Int32) (p1 : Int32) (p2 : Int32) : Option (Int32 × hv_St) := if (11 : Int32) ≤ σ.1 1 1 then (kX7_bar_43 n σ (p0) (p1) (p2)) else (hv_b2 (mX3_isPin n σ (p0)) fun r17 s17 => if r17 = 0 then (kX7_bar_43 n s17 (p0) (p1) (p2)) else (hv_b2 (mX3_isPin n s17 (p1)) fun r28 s28 => if r28 = 0 then (kX7_bar_43 n s28 (p0) (p1) (p2)) else (if p0 = p1 then (kX7_bar_43 n s28 (p0) (p1) (p2)) else (kX7_bar_44 n s28 (p0) (p1) (p2) ((1 : Int32))))))
def mX7_turn (n : Nat) (σ : hv_St) (p0 : Int32) (p1 : Int32) : Option (Int32 × hv_St) := hv_b2 (mX3_isBar n σ (p0)) fun r5 s5 => if r5 = 0 then (some ((0 : Int32), s5)) else (hv_b2 (mX3_isOn n s5 (p0)) fun r16 s16 => if r16 = p1 then (some ((0 : Int32), s16)) else (hv_let (hv_sI s16 1 2 ((s16.1 1 2) ^^^ (((1 : Int32)) <<< ((p0) &&& 31)))) fun s37 => some ((1 : Int32), s37)))
def mX7_alter (n : Nat) (σ : hv_St) (p0 : Int32) (p1 : Int32) (p2 : Int32) : Option (Int32 × hv_St) := hv_b2 (mX3_isBar n σ (p0)) fun r5 s5 => if r5 = 0 then (some ((0 : Int32), s5)) else (if p1 = 0 then (if p1 = 0 then (hv_b2 (mX7_isGive n s5 (p2)) fun r61 s61 => if r61 = 0 then (some ((0 : Int32), s61)) else (hv_if (hv_ok (p0) 11) (if s61.1 7 (p0).toNatClampNeg = p2 then (some ((0 : Int32), s61)) else (hv_if (hv_ok (p0) 11) (hv_let (hv_sI s61 (7) (p0).toNatClampNeg (p2)) fun s85 => some ((1 : Int32), s85)))))) else (if p2 < (1 : Int32) then (some ((0 : Int32), s5)) else (if (999 : Int32) < p2 then (some ((0 : Int32), s5)) else (hv_if (hv_ok (p0) 11) (if s5.1 7 (p0).toNatClampNeg = p2 then (some ((0 : Int32), s5)) else (hv_if (hv_ok (p0) 11) (hv_let (hv_sI s5 (7) (p0).toNatClampNeg (p2)) fun s85 => some ((1 : Int32), s85)))))))) else (if p1 = 0 then (hv_b2 (mX7_isGive n s5 (p2)) fun r61 s61 => if r61 = 0 then (some ((0 : Int32), s61)) else (hv_if (hv_ok (p0) 11) (if s61.1 8 (p0).toNatClampNeg = p2 then (some ((0 : Int32), s61)) else (hv_if (hv_ok (p0) 11) (hv_let (hv_sI s61 (8) (p0).toNatClampNeg (p2)) fun s85 => some ((1 : Int32), s85)))))) else (if p2 < (1 : Int32) then (some ((0 : Int32), s5)) else (if (999 : Int32) < p2 then (some ((0 : Int32), s5)) else (hv_if (hv_ok (p0) 11) (if s5.1 8 (p0).toNatClampNeg = p2 then (some ((0 : Int32), s5)) else (hv_if (hv_ok (p0) 11) (hv_let (hv_sI s5 (8) (p0).toNatClampNeg (p2)) fun s85 => some ((1 : Int32), s85)))))))))
def kX7_isDirection_9 (n : Nat) (σ : hv_St) : Option (Int32 × hv_St) := some ((1 : Int32), σ)
def mX7_isDirection (n : Nat) (σ : hv_St) (p0 : Int32) : Option (Int32 × hv_St) := if p0 = 0 then (kX7_isDirection_9 n σ) else (if p0 = (1 : Int32) then (kX7_isDirection_9 n σ) else (some ((0 : Int32), σ)))
def mX7_hold (n : Nat) (σ : hv_St) (p0 : Int32) (p1 : Int32) (p2 : Int32) : Option (Int32 × hv_St) := hv_b2 (mX3_isPin n σ (p0)) fun r5 s5 => if r5 = 0 then (some ((0 : Int32), s5)) else (hv_b2 (mX7_isDirection n s5 (p1)) fun r12 s12 => if r12 = 0 then (some ((0 : Int32), s12)) else (hv_let ((((2 : Int32)) * (p0)) + (p1)) fun y4_25 => hv_if (hv_ok (y4_25) 12) (if s12.1 4 (y4_25).toNatClampNeg = p2 then (some ((0 : Int32), s12)) else (hv_if (hv_ok (y4_25) 12) (hv_if (hv_z (p2)) (hv_let (hv_sI s12 (4) (y4_25).toNatClampNeg (p2)) fun s53 => some ((1 : Int32), s53)))))))
def kX7_isLoad_16 (n : Nat) (σ : hv_St) : Option (Int32 × hv_St) := some ((0 : Int32), σ)
def mX7_isLoad (n : Nat) (σ : hv_St) (p0 : Int32) : Option (Int32 × hv_St) := if p0 < (-9 : Int32) then (kX7_isLoad_16 n σ) else (if (9 : Int32) < p0 then (kX7_isLoad_16 n σ) else (some ((1 : Int32), σ)))
def mX7_load (n : Nat) (σ : hv_St) (p0 : Int32) (p1 : Int32) (p2 : Int32) : Option (Int32 × hv_St) := hv_b2 (mX3_isPin n σ (p0)) fun r5 s5 => if r5 = 0 then (some ((0 : Int32), s5)) else (hv_b2 (mX7_isLoad n s5 (p1)) fun r12 s12 => if r12 = 0 then (some ((0 : Int32), s12)) else (hv_b2 (mX7_isLoad n s12 (p2)) fun r19 s19 => if r19 = 0 then (some ((0 : Int32), s19)) else (hv_if (hv_ok (((2 : Int32)) * (p0)) 12) (hv_let (hv_sI s19 (3) (((2 : Int32)) * (p0)).toNatClampNeg (p1)) fun s38 => hv_if (hv_ok ((((2 : Int32)) * (p0)) + ((1 : Int32))) 12) (hv_let (hv_sI s38 (3) ((((2 : Int32)) * (p0)) + ((1 : Int32))).toNatClampNeg (p2)) fun s52 => some ((1 : Int32), s52))))))
def kX7_unload_35 (n : Nat) (r4 : hv_St → Int32 → Int32 → Option (Int32 × hv_St)) (σ : hv_St) (x1 : Int32) (x2 : Int32) : Option (Int32 × hv_St) := r4 σ (x1) (x2 + 1)
def kX7_unload_4_b (n : Nat) (r4 : hv_St → Int32 → Int32 → Option (Int32 × hv_St)) (σ : hv_St) (x1 : Int32) (x2 : Int32) : Option (Int32 × hv_St) := if (12 : Int32) ≤ x2 then (some (x1, σ)) else (hv_if (hv_ok (x2) 12) (if σ.1 3 (x2).toNatClampNeg = 0 then (kX7_unload_35 n r4 σ (x1) (x2)) else (hv_if (hv_ok (x2) 12) (hv_let (hv_sI σ (3) (x2).toNatClampNeg ((0 : Int32))) fun s31 => kX7_unload_35 n r4 s31 (x1 + 1) (x2)))))
def kX7_unload_4 (n : Nat) : Nat → hv_St → Int32 → Int32 → Option (Int32 × hv_St)
  | 0 => fun _ _ _ => none
  | i + 1 => kX7_unload_4_b n (kX7_unload_4 n i)
def mX7_unload (n : Nat) (σ : hv_St) : Option (Int32 × hv_St) := kX7_unload_4 n n σ ((0 : Int32)) ((0 : Int32))
def mX7_deck (n : Nat) (σ : hv_St) (p0 : Int32) : Option (Int32 × hv_St) := hv_b2 (mX3_isPin n σ (p0)) fun r5 s5 => if r5 = 0 then (some ((-1 : Int32), s5)) else (hv_b2 (mX6_addPin n s5 (p0)) fun r16 s16 => some (r16, s16))
def mX7_strip (n : Nat) (σ : hv_St) : Option (Int32 × hv_St) := hv_let (σ.1 22 0) fun y1_7 => hv_let (hv_sI σ 22 0 ((0 : Int32))) fun s13 => some (y1_7, s13)
def mX7_train (n : Nat) (σ : hv_St) (p0 : Int32) : Option (Int32 × hv_St) := hv_b2 (mX6_takeWeights n σ (p0)) fun r5 s5 => some (r5, s5)
def mX7_countOfBalance (n : Nat) (σ : hv_St) (p0 : Int32) : Option (Int32 × hv_St) := hv_bd (mX0_settle n σ (σ.1 1 2)) fun s11 => if p0 = (3 : Int32) then (some (s11.1 9 4, s11)) else (if p0 = (4 : Int32) then (hv_b2 (mX0_kindNumber n s11 ) fun r60 s60 => some (r60, s60)) else (if p0 = (5 : Int32) then (some (s11.1 9 6, s11)) else (if p0 = (6 : Int32) then (some (s11.1 9 7, s11)) else (if p0 = (7 : Int32) then (some ((s11.1 9 4) - (s11.1 9 5), s11)) else (some ((-1 : Int32), s11))))))
def kX7_count_115 (n : Nat) (σ : hv_St) (x1 : Int32) : Option (Int32 × hv_St) := hv_b2 (mX7_countOfBalance n σ (x1)) fun r117 s117 => some (r117, s117)
def mX7_count (n : Nat) (σ : hv_St) (p0 : Int32) : Option (Int32 × hv_St) := if p0 = (0 : Int32) then (some (σ.1 1 0, σ)) else (if p0 = (1 : Int32) then (some (σ.1 1 1, σ)) else (if p0 = (2 : Int32) then (some (σ.1 1 2, σ)) else (if p0 = (3 : Int32) then (kX7_count_115 n σ (p0)) else (if p0 = (4 : Int32) then (kX7_count_115 n σ (p0)) else (if p0 = (5 : Int32) then (kX7_count_115 n σ (p0)) else (if p0 = (6 : Int32) then (kX7_count_115 n σ (p0)) else (if p0 = (7 : Int32) then (kX7_count_115 n σ (p0)) else (if p0 = (8 : Int32) then (some (σ.1 22 0, σ)) else (if p0 = (9 : Int32) then (some (σ.1 22 1, σ)) else (if p0 = (10 : Int32) then (hv_bd (mX4_follow n σ ) fun s104 => some (s104.1 17 3, s104)) else (kX7_count_115 n σ (p0))))))))))))
def kX7_joint_34 (n : Nat) (σ : hv_St) : Option (Int32 × hv_St) := some ((-1 : Int32), σ)
def mX7_joint (n : Nat) (σ : hv_St) (p0 : Int32) : Option (Int32 × hv_St) := hv_bd (mX4_follow n σ ) fun s4 => if p0 < 0 then (kX7_joint_34 n s4) else (if s4.1 17 2 ≤ p0 then (kX7_joint_34 n s4) else (hv_if (hv_ok (p0) 6) (some (s4.1 18 (p0).toNatClampNeg, s4))))
def mX7_bears (n : Nat) (σ : hv_St) (p0 : Int32) (q : Nat) : Option (Int32 × hv_St) := hv_bd (mX0_settle n σ (p0)) fun s5 => hv_b2 (mX0_kindNumber n s5 ) fun r12 s12 => if r12 = 0 then (some ((0 : Int32), s12)) else (if r12 = (4 : Int32) then (some ((0 : Int32), s12)) else (hv_bd (mX5_prepare n s12 ) fun s31 => hv_bd (mX5_bear n s31 (q)) fun s39 => some ((1 : Int32), s39)))
def mX7_isPainted (n : Nat) (σ : hv_St) (p0 : Int32) (p1 : Int32) : Option (Int32 × hv_St) := hv_b2 (mX5_overOf n σ (p0)) fun r9 s9 => hv_bd (mX2_reduce n s9 (r9) (s9.2 13 6)) fun s19 => if p1 = (-1 : Int32) then (if 0 ≤ lg_cmp (s19.2 26 0) ((0 : Int64)) then (some ((0 : Int32), s19)) else (some ((1 : Int32), s19))) else (if p1 = (0 : Int32) then (if lg_cmp (s19.2 26 0) ((0 : Int64)) = 0 then (some ((1 : Int32), s19)) else (some ((0 : Int32), s19))) else (if p1 = (1 : Int32) then (if lg_cmp (s19.2 26 0) ((0 : Int64)) ≤ 0 then (some ((0 : Int32), s19)) else (some ((1 : Int32), s19))) else (hv_let (if 0 < s19.2 26 0 then s19.2 26 0 else -(s19.2 26 0)) fun y_109 => hv_if (hv_ok (p0) 11) (if lg_cmp (y_109) (((s19.1 8 (p0).toNatClampNeg).toInt64) * (s19.2 26 1)) ≤ 0 then (some ((0 : Int32), s19)) else (some ((1 : Int32), s19))))))
def kX7_painted_74 (n : Nat) (r37 : hv_St → Int32 → Int32 → Int32 → Option (Int32 × hv_St)) (σ : hv_St) (x1 : Int32) (x2 : Int32) (x3 : Int32) : Option (Int32 × hv_St) := r37 σ (x1) (x2) (x3 + 1)
def kX7_painted_37_b (n : Nat) (r37 : hv_St → Int32 → Int32 → Int32 → Option (Int32 × hv_St)) (σ : hv_St) (x1 : Int32) (x2 : Int32) (x3 : Int32) : Option (Int32 × hv_St) := if σ.1 1 1 ≤ x3 then (some (x2, σ)) else (hv_b2 (mX3_isOn n σ (x3)) fun r53 s53 => if r53 = 0 then (kX7_painted_74 n r37 s53 (x1) (x2) (x3)) else (hv_b2 (mX7_isPainted n s53 (x3) (x1)) fun r62 s62 => if r62 = 0 then (kX7_painted_74 n r37 s62 (x1) (x2) (x3)) else (hv_let ((x2) ||| (((1 : Int32)) <<< ((x3) &&& 31))) fun y2_73 => kX7_painted_74 n r37 s62 (x1) (y2_73) (x3))))
def kX7_painted_37 (n : Nat) : Nat → hv_St → Int32 → Int32 → Int32 → Option (Int32 × hv_St)
  | 0 => fun _ _ _ _ => none
  | i + 1 => kX7_painted_37_b n (kX7_painted_37 n i)
def mX7_painted (n : Nat) (σ : hv_St) (p0 : Int32) : Option (Int32 × hv_St) := if p0 < (-1 : Int32) then (some ((-1 : Int32), σ)) else (if (2 : Int32) < p0 then (some ((-1 : Int32), σ)) else (hv_b2 (mX7_bears n σ (σ.1 1 2) (3)) fun r25 s25 => if r25 = 0 then (some ((-1 : Int32), s25)) else (kX7_painted_37 n n s25 (p0) ((0 : Int32)) ((0 : Int32)))))
def mX7_timesOf (n : Nat) (σ : hv_St) (p0 : Int32) : Option (Int64 × hv_St) := hv_b2 (mX5_overOf n σ (p0)) fun r9 s9 => hv_bd (mX2_reduce n s9 (r9) (s9.2 13 6)) fun s19 => hv_let (if 0 < s19.2 26 0 then s19.2 26 0 else -(s19.2 26 0)) fun y_29 => hv_b2 (mX7_quotient n s19 (((y_29) + (s19.2 26 1)) - ((1 : Int64))) (s19.2 26 1)) fun r49 s49 => if lg_cmp (r49) ((0 : Int64)) = 0 then (some ((999 : Int64), s49)) else (hv_if (hv_ok (p0) 11) (hv_b2 (mX7_quotient n s49 ((s49.1 8 (p0).toNatClampNeg).toInt64) (r49)) fun r76 s76 => some (r76, s76)))
def kX7_times_61 (n : Nat) (r29 : hv_St → Int64 → Int32 → Option (Int32 × hv_St)) (σ : hv_St) (x1 : Int64) (x3 : Int32) : Option (Int32 × hv_St) := r29 σ (x1) (x3 + 1)
def kX7_times_29_b (n : Nat) (r29 : hv_St → Int64 → Int32 → Option (Int32 × hv_St)) (σ : hv_St) (x1 : Int64) (x3 : Int32) : Option (Int32 × hv_St) := if σ.1 1 1 ≤ x3 then (some ((x1).toInt32, σ)) else (hv_b2 (mX3_isOn n σ (x3)) fun r45 s45 => if r45 = 0 then (kX7_times_61 n r29 s45 (x1) (x3)) else (hv_b2 (mX7_timesOf n s45 (x3)) fun r54 s54 => hv_let (if r54 < x1 then r54 else x1) fun y_57 => kX7_times_61 n r29 s54 (y_57) (x3)))
def kX7_times_29 (n : Nat) : Nat → hv_St → Int64 → Int32 → Option (Int32 × hv_St)
  | 0 => fun _ _ _ => none
  | i + 1 => kX7_times_29_b n (kX7_times_29 n i)
def mX7_times (n : Nat) (σ : hv_St) : Option (Int32 × hv_St) := hv_b2 (mX7_bears n σ (σ.1 1 2) (3)) fun r15 s15 => if r15 = 0 then (some ((-1 : Int32), s15)) else (kX7_times_29 n n s15 ((999 : Int64)) ((0 : Int32)))
def kX7_worst_116 (n : Nat) (r55 : hv_St → Int32 → Int32 → Int64 → Int32 → Option (Int32 × hv_St)) (σ : hv_St) (x1 : Int32) (x2 : Int32) (x3 : Int64) (x5 : Int32) : Option (Int32 × hv_St) := r55 σ (x1) (x2) (x3) (x5 + 1)
def kX7_worst_55_b (n : Nat) (r55 : hv_St → Int32 → Int32 → Int64 → Int32 → Option (Int32 × hv_St)) (σ : hv_St) (x1 : Int32) (x2 : Int32) (x3 : Int64) (x5 : Int32) : Option (Int32 × hv_St) := if (10 : Int32) ≤ x5 then (some (x2, σ)) else (hv_b2 (mX6_stands n σ (x5)) fun r68 s68 => if r68 = 0 then (some (x2, s68)) else (hv_bd (mX6_loadsAt n s68 (x5)) fun s84 => hv_bd (mX5_bear n s84 (25)) fun s87 => hv_b2 (mX5_overOf n s87 (x1)) fun r95 s95 => hv_let (if 0 < r95 then r95 else -(r95)) fun y_98 => if lg_cmp (y_98) (x3) ≤ 0 then (kX7_worst_116 n r55 s95 (x1) (x2) (x3) (x5)) else (kX7_worst_116 n r55 s95 (x1) (x5) (y_98) (x5))))
def kX7_worst_55 (n : Nat) : Nat → hv_St → Int32 → Int32 → Int64 → Int32 → Option (Int32 × hv_St)
  | 0 => fun _ _ _ _ _ => none
  | i + 1 => kX7_worst_55_b n (kX7_worst_55 n i)
def mX7_worst (n : Nat) (σ : hv_St) (p0 : Int32) : Option (Int32 × hv_St) := hv_b2 (mX3_isOn n σ (p0)) fun r5 s5 => if r5 = 0 then (some ((-1 : Int32), s5)) else (hv_b2 (mX6_stands n s5 ((0 : Int32))) fun r16 s16 => if r16 = 0 then (some ((-1 : Int32), s16)) else (hv_bd (mX6_loadsAt n s16 ((0 : Int32))) fun s35 => hv_b2 (mX7_bears n s35 (s16.1 1 2) (25)) fun r38 s38 => if r38 = 0 then (some ((-1 : Int32), s38)) else (kX7_worst_55 n n s38 (p0) ((-1 : Int32)) ((-1 : Int64)) ((0 : Int32)))))
def mX7_without (n : Nat) (σ : hv_St) (p0 : Int32) : Option (Int32 × hv_St) := hv_b2 (mX3_isOn n σ (p0)) fun r5 s5 => if r5 = 0 then (some ((-1 : Int32), s5)) else (hv_bd (mX0_settle n s5 ((s5.1 1 2) &&& ((((1 : Int32)) <<< ((p0) &&& 31)) ^^^ ((-1 : Int32))))) fun s30 => hv_b2 (mX0_kindNumber n s30 ) fun r37 s37 => some (r37, s37))
def mX7_keys (n : Nat) (σ : hv_St) : Option (Int32 × hv_St) := hv_bd (mX0_settle n σ (σ.1 1 2)) fun s11 => hv_b2 (mX0_neededBars n s11 ) fun r18 s18 => some (r18, s18)
def mX7_mend (n : Nat) (σ : hv_St) (p0 : Int32) : Option (Int32 × hv_St) := hv_bd (mX0_settle n σ (σ.1 1 2)) fun s11 => hv_bd (mX0_extend n s11 (((((1 : Int32)) <<< ((s11.1 1 1) &&& 31)) - ((1 : Int32))) &&& ((s11.1 1 2) ^^^ ((-1 : Int32))))) fun s39 => hv_b2 (mX0_kindNumber n s39 ) fun r46 s46 => if r46 = 0 then (some ((-1 : Int32), s46)) else (hv_let ((s46.1 9 6) &&& ((s46.1 1 2) ^^^ ((-1 : Int32)))) fun y2_71 => if p0 = 0 then (hv_b2 (mJ6_bitCount_0f7a4 n s46 (y2_71)) fun r81 s81 => some (r81, s81)) else (some (y2_71, s46)))
def mX7_told (n : Nat) (σ : hv_St) (p0 : Int64) (p1 : Int64) (p2 : Int32) : Option (Int64 × hv_St) := hv_bd (mX2_reduce n σ (p0) (p1)) fun s6 => if p2 = 0 then (some (s6.2 26 0, s6)) else (some (s6.2 26 1, s6))
def mX7_toldPull (n : Nat) (σ : hv_St) (p0 : Int32) (p1 : Int32) : Option (Int64 × hv_St) := hv_b2 (mX5_overOf n σ (p0)) fun r6 s6 => hv_b2 (mX7_told n s6 (r6) (s6.2 13 6) (p1)) fun r17 s17 => some (r17, s17)
def mX7_need (n : Nat) (σ : hv_St) (p0 : Int32) : Option (Option Unit × hv_St) := if p0 = 0 then (some (none, σ)) else (some (some (), σ))
def kX7_of_123 (n : Nat) (σ : hv_St) (x1 : Int32) (z0 : Int32) : Option (Option Int32 × hv_St) := hv_if (hv_ok ((((2 : Int32)) * (x1)) + ((1 : Int32))) 12) (if σ.1 4 ((((2 : Int32)) * (x1)) + ((1 : Int32))).toNatClampNeg = 0 then (some (some ((z0) + ((0 : Int32))), σ)) else (some (some ((z0) + ((2 : Int32))), σ)))
def mX7_of (n : Nat) (σ : hv_St) (p0 : Int32) (p1 : Int32) : Option (Option Int32 × hv_St) := hv_b2 (mX3_isPin n σ (p0)) fun r5 s5 => hv_bx (mX7_need n s5 (r5)) fun y8 s8 => if p1 = (0 : Int32) then (hv_if (hv_ok (((2 : Int32)) * (p0)) 12) (some (some (s8.1 2 (((2 : Int32)) * (p0)).toNatClampNeg), s8))) else (if p1 = (1 : Int32) then (hv_if (hv_ok ((((2 : Int32)) * (p0)) + ((1 : Int32))) 12) (some (some (s8.1 2 ((((2 : Int32)) * (p0)) + ((1 : Int32))).toNatClampNeg), s8))) else (if p1 = (2 : Int32) then (hv_if (hv_ok (((2 : Int32)) * (p0)) 12) (some (some (s8.1 3 (((2 : Int32)) * (p0)).toNatClampNeg), s8))) else (if p1 = (3 : Int32) then (hv_if (hv_ok ((((2 : Int32)) * (p0)) + ((1 : Int32))) 12) (some (some (s8.1 3 ((((2 : Int32)) * (p0)) + ((1 : Int32))).toNatClampNeg), s8))) else (if p1 = (4 : Int32) then (hv_if (hv_ok (((2 : Int32)) * (p0)) 12) (if s8.1 4 (((2 : Int32)) * (p0)).toNatClampNeg = 0 then (kX7_of_123 n s8 (p0) ((0 : Int32))) else (kX7_of_123 n s8 (p0) ((1 : Int32))))) else (if p1 = (5 : Int32) then (hv_b2 (mX3_barsAt n s8 (p0)) fun r151 s151 => some (some (r151), s151)) else (some (none, s8)))))))
def mX7_at (n : Nat) (σ : hv_St) (p0 : Int32) (p1 : Int32) : Option (Option Int32 × hv_St) := hv_b2 (mX3_isBar n σ (p0)) fun r5 s5 => hv_bx (mX7_need n s5 (r5)) fun y8 s8 => if p1 = (0 : Int32) then (hv_if (hv_ok (p0) 11) (some (some (s8.1 5 (p0).toNatClampNeg), s8))) else (if p1 = (1 : Int32) then (hv_if (hv_ok (p0) 11) (some (some (s8.1 6 (p0).toNatClampNeg), s8))) else (if p1 = (2 : Int32) then (hv_if (hv_ok (p0) 11) (some (some (s8.1 7 (p0).toNatClampNeg), s8))) else (if p1 = (3 : Int32) then (hv_if (hv_ok (p0) 11) (some (some (s8.1 8 (p0).toNatClampNeg), s8))) else (if p1 = (4 : Int32) then (hv_b2 (mX3_isOn n s8 (p0)) fun r97 s97 => if r97 = 0 then (some (some ((0 : Int32)), s97)) else (some (some ((1 : Int32)), s97))) else (if p1 = (5 : Int32) then (hv_bd (mX0_settle n s8 (s8.1 1 2)) fun s120 => hv_b2 (mX0_spareNumber n s120 (p0)) fun r128 s128 => some (some (r128), s128)) else (some (none, s8)))))))
def kX7_pull_37 (n : Nat) (σ : hv_St) (x1 : Int32) (x2 : Int32) (z0 : Int32) : Option (Option Int64 × hv_St) := hv_bx (mX7_need n σ (z0)) fun y37 s37 => hv_b2 (mX7_toldPull n s37 (x1) (x2)) fun r43 s43 => some (some (r43), s43)
def kX7_pull_36 (n : Nat) (σ : hv_St) (x1 : Int32) (x2 : Int32) : Option (Option Int64 × hv_St) := kX7_pull_37 n σ (x1) (x2) ((0 : Int32))
def mX7_pull (n : Nat) (σ : hv_St) (p0 : Int32) (p1 : Int32) : Option (Option Int64 × hv_St) := hv_b2 (mX3_isOn n σ (p0)) fun r5 s5 => if r5 = 0 then (kX7_pull_36 n s5 (p0) (p1)) else (hv_b2 (mX7_bears n s5 (s5.1 1 2) (3)) fun r26 s26 => if r26 = 0 then (kX7_pull_36 n s26 (p0) (p1)) else (kX7_pull_37 n s26 (p0) (p1) ((1 : Int32))))
def kX7_state_53 (n : Nat) (σ : hv_St) (x1 : Int32) (x2 : Int32) (x3 : Int32) (z0 : Int32) : Option (Option Int64 × hv_St) := hv_bx (mX7_need n σ (z0)) fun y53 s53 => hv_b2 (mX5_stateOf n s53 (x1) (x2)) fun r63 s63 => hv_b2 (mX7_told n s63 (r63) (s63.2 9 8) (x3)) fun r74 s74 => some (some (r74), s74)
def kX7_state_48 (n : Nat) (σ : hv_St) (x1 : Int32) (x2 : Int32) (x3 : Int32) : Option (Option Int64 × hv_St) := kX7_state_53 n σ (x1) (x2) (x3) ((1 : Int32))
def kX7_state_52 (n : Nat) (σ : hv_St) (x1 : Int32) (x2 : Int32) (x3 : Int32) : Option (Option Int64 × hv_St) := kX7_state_53 n σ (x1) (x2) (x3) ((0 : Int32))
def mX7_state (n : Nat) (σ : hv_St) (p0 : Int32) (p1 : Int32) (p2 : Int32) : Option (Option Int64 × hv_St) := hv_b2 (mX3_isOn n σ (p1)) fun r5 s5 => if r5 = 0 then (kX7_state_52 n s5 (p0) (p1) (p2)) else (hv_b2 (mX7_bears n s5 (s5.1 1 2) (3)) fun r26 s26 => if r26 = 0 then (kX7_state_52 n s26 (p0) (p1) (p2)) else (if p0 = (-1 : Int32) then (kX7_state_48 n s26 (p0) (p1) (p2)) else (hv_b2 (mX5_isSpare n s26 (p0)) fun r42 s42 => if r42 = 0 then (kX7_state_52 n s42 (p0) (p1) (p2)) else (kX7_state_48 n s42 (p0) (p1) (p2)))))
def kX7_flex_53 (n : Nat) (σ : hv_St) (x1 : Int32) (x2 : Int32) (x3 : Int32) (z0 : Int32) : Option (Option Int64 × hv_St) := hv_bx (mX7_need n σ (z0)) fun y53 s53 => hv_b2 (mX5_giving n s53 (x1) (x2)) fun r63 s63 => hv_b2 (mX7_told n s63 (r63) ((s63.2 9 8) * (s63.2 9 8)) (x3)) fun r82 s82 => some (some (r82), s82)
def kX7_flex_48 (n : Nat) (σ : hv_St) (x1 : Int32) (x2 : Int32) (x3 : Int32) : Option (Option Int64 × hv_St) := kX7_flex_53 n σ (x1) (x2) (x3) ((1 : Int32))
def kX7_flex_52 (n : Nat) (σ : hv_St) (x1 : Int32) (x2 : Int32) (x3 : Int32) : Option (Option Int64 × hv_St) := kX7_flex_53 n σ (x1) (x2) (x3) ((0 : Int32))
def mX7_flex (n : Nat) (σ : hv_St) (p0 : Int32) (p1 : Int32) (p2 : Int32) : Option (Option Int64 × hv_St) := hv_b2 (mX7_bears n σ (σ.1 1 2) (3)) fun r15 s15 => if r15 = 0 then (kX7_flex_52 n s15 (p0) (p1) (p2)) else (hv_b2 (mX5_isSpare n s15 (p0)) fun r26 s26 => if r26 = 0 then (kX7_flex_52 n s26 (p0) (p1) (p2)) else (if p1 = (-1 : Int32) then (kX7_flex_48 n s26 (p0) (p1) (p2)) else (hv_b2 (mX5_isSpare n s26 (p1)) fun r42 s42 => if r42 = 0 then (kX7_flex_52 n s42 (p0) (p1) (p2)) else (kX7_flex_48 n s42 (p0) (p1) (p2)))))
def kX7_force_164 (n : Nat) (r99 : hv_St → Int32 → Int32 → Int64 → Int32 → Option (Option Int64 × hv_St)) (σ : hv_St) (x3 : Int32) (x4 : Int32) (x5 : Int64) (x7 : Int32) : Option (Option Int64 × hv_St) := r99 σ (x3) (x4) (x5) (x7 + 1)
def kX7_force_99_b (n : Nat) (r99 : hv_St → Int32 → Int32 → Int64 → Int32 → Option (Option Int64 × hv_St)) (σ : hv_St) (x3 : Int32) (x4 : Int32) (x5 : Int64) (x7 : Int32) : Option (Option Int64 × hv_St) := if σ.1 1 1 ≤ x7 then (hv_b2 (mX7_told n σ (-(x5)) (σ.2 13 6) (x3)) fun r182 s182 => some (some (r182), s182)) else (hv_b2 (mX3_isOn n σ (x7)) fun r117 s117 => if r117 = 0 then (kX7_force_164 n r99 s117 (x3) (x4) (x5) (x7)) else (hv_b2 (mX3_brings n s117 (x7) (x4)) fun r131 s131 => if r131 = 0 then (kX7_force_164 n r99 s131 (x3) (x4) (x5) (x7)) else (hv_b2 (mX3_brings n s131 (x7) (x4)) fun r147 s147 => hv_b2 (mX5_overOf n s147 (x7)) fun r157 s157 => hv_let ((x5) + (((r147).toInt64) * (r157))) fun y5_162 => kX7_force_164 n r99 s157 (x3) (x4) (y5_162) (x7))))
def kX7_force_99 (n : Nat) : Nat → hv_St → Int32 → Int32 → Int64 → Int32 → Option (Option Int64 × hv_St)
  | 0 => fun _ _ _ _ _ => none
  | i + 1 => kX7_force_99_b n (kX7_force_99 n i)
def kX7_force_72 (n : Nat) (σ : hv_St) (x3 : Int32) (x4 : Int32) (z0 : Int32) : Option (Option Int64 × hv_St) := hv_bx (mX7_need n σ (z0)) fun y72 s72 => hv_if (hv_ok (x4) 12) (hv_let (((s72.1 3 (x4).toNatClampNeg).toInt64) * (s72.2 13 6)) fun y5_94 => kX7_force_99 n n s72 (x3) (x4) (y5_94) ((0 : Int32)))
def kX7_force_71 (n : Nat) (σ : hv_St) (x3 : Int32) (x4 : Int32) : Option (Option Int64 × hv_St) := kX7_force_72 n σ (x3) (x4) ((0 : Int32))
def kX7_force_23 (n : Nat) (σ : hv_St) (x1 : Int32) (x2 : Int32) (x3 : Int32) (z0 : Int32) : Option (Option Int64 × hv_St) := hv_bx (mX7_need n σ (z0)) fun y23 s23 => hv_let ((((2 : Int32)) * (x1)) + (x2)) fun y4_31 => hv_if (hv_ok (y4_31) 12) (if s23.1 4 (y4_31).toNatClampNeg = 0 then (kX7_force_71 n s23 (x3) (y4_31)) else (hv_b2 (mX7_bears n s23 (s23.1 1 2) (3)) fun r61 s61 => if r61 = 0 then (kX7_force_71 n s61 (x3) (y4_31)) else (kX7_force_72 n s61 (x3) (y4_31) ((1 : Int32)))))
def kX7_force_22 (n : Nat) (σ : hv_St) (x1 : Int32) (x2 : Int32) (x3 : Int32) : Option (Option Int64 × hv_St) := kX7_force_23 n σ (x1) (x2) (x3) ((0 : Int32))
def mX7_force (n : Nat) (σ : hv_St) (p0 : Int32) (p1 : Int32) (p2 : Int32) : Option (Option Int64 × hv_St) := hv_b2 (mX3_isPin n σ (p0)) fun r5 s5 => if r5 = 0 then (kX7_force_22 n s5 (p0) (p1) (p2)) else (hv_b2 (mX7_isDirection n s5 (p1)) fun r12 s12 => if r12 = 0 then (kX7_force_22 n s12 (p0) (p1) (p2)) else (kX7_force_23 n s12 (p0) (p1) (p2) ((1 : Int32))))
def kX7_influence_34 (n : Nat) (σ : hv_St) (x1 : Int32) (x2 : Int32) (x3 : Int32) (x4 : Int32) (z0 : Int32) : Option (Option Int64 × hv_St) := hv_bx (mX7_need n σ (z0)) fun y34 s34 => hv_bd (mX6_oneLoad n s34 ((((2 : Int32)) * (x2)) + (x3))) fun s54 => hv_b2 (mX7_bears n s54 (s34.1 1 2) (25)) fun r57 s57 => hv_bx (mX7_need n s57 (r57)) fun y60 s60 => hv_b2 (mX7_toldPull n s60 (x1) (x4)) fun r67 s67 => some (some (r67), s67)
def kX7_influence_33 (n : Nat) (σ : hv_St) (x1 : Int32) (x2 : Int32) (x3 : Int32) (x4 : Int32) : Option (Option Int64 × hv_St) := kX7_influence_34 n σ (x1) (x2) (x3) (x4) ((0 : Int32))
def mX7_influence (n : Nat) (σ : hv_St) (p0 : Int32) (p1 : Int32) (p2 : Int32) (p3 : Int32) : Option (Option Int64 × hv_St) := hv_b2 (mX3_isOn n σ (p0)) fun r5 s5 => if r5 = 0 then (kX7_influence_33 n s5 (p0) (p1) (p2) (p3)) else (hv_b2 (mX3_isPin n s5 (p1)) fun r16 s16 => if r16 = 0 then (kX7_influence_33 n s16 (p0) (p1) (p2) (p3)) else (hv_b2 (mX7_isDirection n s16 (p2)) fun r23 s23 => if r23 = 0 then (kX7_influence_33 n s23 (p0) (p1) (p2) (p3)) else (kX7_influence_34 n s23 (p0) (p1) (p2) (p3) ((1 : Int32)))))
def kX7_cut_32 (n : Nat) (σ : hv_St) (x3 : Int32) (x4 : Int32) (z0 : Int32) : Option (Option Int64 × hv_St) := hv_bx (mX7_need n σ (z0)) fun y32 s32 => hv_b2 (mX1_overOf n s32 (x4)) fun r42 s42 => hv_b2 (mX7_told n s42 (r42) (s42.2 19 4) (x3)) fun r53 s53 => some (some (r53), s53)
def mX7_cut (n : Nat) (σ : hv_St) (p0 : Int32) (p1 : Int32) (p2 : Int32) : Option (Option Int64 × hv_St) := hv_b2 (mX1_divides n σ (p0)) fun r5 s5 => hv_bx (mX7_need n s5 (r5)) fun y8 s8 => hv_b2 (mX1_indexOf n s8 (p1)) fun r16 s16 => if r16 = (-1 : Int32) then (kX7_cut_32 n s16 (p2) (r16) ((0 : Int32))) else (kX7_cut_32 n s16 (p2) (r16) ((1 : Int32)))
def kX7_riding_27 (n : Nat) (σ : hv_St) (x1 : Int32) (x2 : Int32) (x3 : Int32) (z0 : Int32) : Option (Option Int64 × hv_St) := hv_bx (mX7_need n σ (z0)) fun y27 s27 => hv_bd (mX6_loadsAt n s27 (x2)) fun s43 => hv_b2 (mX7_bears n s43 (s27.1 1 2) (25)) fun r46 s46 => hv_bx (mX7_need n s46 (r46)) fun y49 s49 => hv_b2 (mX7_toldPull n s49 (x1) (x3)) fun r55 s55 => some (some (r55), s55)
def kX7_riding_26 (n : Nat) (σ : hv_St) (x1 : Int32) (x2 : Int32) (x3 : Int32) : Option (Option Int64 × hv_St) := kX7_riding_27 n σ (x1) (x2) (x3) ((0 : Int32))
def mX7_riding (n : Nat) (σ : hv_St) (p0 : Int32) (p1 : Int32) (p2 : Int32) : Option (Option Int64 × hv_St) := hv_b2 (mX3_isOn n σ (p0)) fun r5 s5 => if r5 = 0 then (kX7_riding_26 n s5 (p0) (p1) (p2)) else (hv_b2 (mX6_stands n s5 (p1)) fun r16 s16 => if r16 = 0 then (kX7_riding_26 n s16 (p0) (p1) (p2)) else (kX7_riding_27 n s16 (p0) (p1) (p2) ((1 : Int32))))
def kX7_left_32 (n : Nat) (σ : hv_St) (x1 : Int32) (x2 : Int32) (x3 : Int32) (z0 : Int32) : Option (Option Int64 × hv_St) := hv_bx (mX7_need n σ (z0)) fun y32 s32 => hv_b2 (mX7_bears n s32 ((s32.1 1 2) &&& ((((1 : Int32)) <<< ((x1) &&& 31)) ^^^ ((-1 : Int32)))) (3)) fun r56 s56 => hv_bx (mX7_need n s56 (r56)) fun y59 s59 => hv_b2 (mX7_toldPull n s59 (x2) (x3)) fun r65 s65 => some (some (r65), s65)
def kX7_left_31 (n : Nat) (σ : hv_St) (x1 : Int32) (x2 : Int32) (x3 : Int32) : Option (Option Int64 × hv_St) := kX7_left_32 n σ (x1) (x2) (x3) ((0 : Int32))
def mX7_left (n : Nat) (σ : hv_St) (p0 : Int32) (p1 : Int32) (p2 : Int32) : Option (Option Int64 × hv_St) := hv_b2 (mX3_isOn n σ (p0)) fun r5 s5 => if r5 = 0 then (kX7_left_31 n s5 (p0) (p1) (p2)) else (hv_b2 (mX3_isOn n s5 (p1)) fun r16 s16 => if r16 = 0 then (kX7_left_31 n s16 (p0) (p1) (p2)) else (if p0 = p1 then (kX7_left_31 n s16 (p0) (p1) (p2)) else (kX7_left_32 n s16 (p0) (p1) (p2) ((1 : Int32)))))
def mX8_thrown (n : Nat) (σ : hv_St) : Option (Int32 × hv_St) := some (σ.1 0 0, σ)
def kX8_in_17 (n : Nat) (σ : hv_St) : Option (Int32 × hv_St) := some ((0 : Int32), σ)
def mX8_in (n : Nat) (σ : hv_St) (p0 : Int64) (p1 : Int64) (p2 : Int64) : Option (Int32 × hv_St) := if lg_cmp (p0) (p1) < 0 then (kX8_in_17 n σ) else (if 0 < lg_cmp (p0) (p2) then (kX8_in_17 n σ) else (some ((1 : Int32), σ)))
def mX8_isOn (n : Nat) (σ : hv_St) (p0 : Int32) (p1 : Int32) : Option (Int32 × hv_St) := if ((p0) >>> ((p1) &&& 31)) &&& ((1 : Int32)) = (1 : Int32) then (some ((1 : Int32), σ)) else (some ((0 : Int32), σ))
def kX8_bits_4_b (n : Nat) (r4 : hv_St → Int32 → Int32 → Int32 → Option (Int32 × hv_St)) (σ : hv_St) (x0 : Int32) (x1 : Int32) (x2 : Int32) : Option (Int32 × hv_St) := if (12 : Int32) ≤ x2 then (some (x1, σ)) else (hv_let ((x1) + (((x0) >>> ((x2) &&& 31)) &&& ((1 : Int32)))) fun y1_17 => r4 σ (x0) (y1_17) (x2 + 1))
def kX8_bits_4 (n : Nat) : Nat → hv_St → Int32 → Int32 → Int32 → Option (Int32 × hv_St)
  | 0 => fun _ _ _ _ => none
  | i + 1 => kX8_bits_4_b n (kX8_bits_4 n i)
def mX8_bits (n : Nat) (σ : hv_St) (p0 : Int32) : Option (Int32 × hv_St) := kX8_bits_4 n n σ (p0) ((0 : Int32)) ((0 : Int32))
def mX8_abs (n : Nat) (σ : hv_St) (p0 : Int64) : Option (Int64 × hv_St) := if 0 ≤ lg_cmp (p0) ((0 : Int64)) then (some (p0, σ)) else (some (-(p0), σ))
def mX8_isPin (n : Nat) (σ : hv_St) (p0 : Int32) : Option (Int32 × hv_St) := hv_b2 (mX8_in n σ ((p0).toInt64) ((0 : Int64)) (((σ.1 0 1) - ((1 : Int32))).toInt64)) fun r10 s10 => hv_if (hv_z (r10)) (some (r10, s10))
def mX8_isBar (n : Nat) (σ : hv_St) (p0 : Int32) : Option (Int32 × hv_St) := hv_b2 (mX8_in n σ ((p0).toInt64) ((0 : Int64)) (((σ.1 0 6) - ((1 : Int32))).toInt64)) fun r10 s10 => hv_if (hv_z (r10)) (some (r10, s10))
def kX8_isPlace_28 (n : Nat) (σ : hv_St) : Option (Int32 × hv_St) := some ((0 : Int32), σ)
def mX8_isPlace (n : Nat) (σ : hv_St) (p0 : Int32) (p1 : Int32) : Option (Int32 × hv_St) := hv_b2 (mX8_in n σ ((p0).toInt64) ((0 : Int64)) ((3 : Int64))) fun r6 s6 => if r6 = 0 then (kX8_isPlace_28 n s6) else (hv_b2 (mX8_in n s6 ((p1).toInt64) ((0 : Int64)) ((2 : Int64))) fun r18 s18 => if r18 = 0 then (kX8_isPlace_28 n s18) else (some ((1 : Int32), s18)))
def kX8_pinAt_32 (n : Nat) (r2 : hv_St → Int32 → Int32 → Int32 → Option (Int32 × hv_St)) (σ : hv_St) (x1 : Int32) (x2 : Int32) (x3 : Int32) : Option (Int32 × hv_St) := r2 σ (x1) (x2) (x3 + 1)
def kX8_pinAt_2_b (n : Nat) (r2 : hv_St → Int32 → Int32 → Int32 → Option (Int32 × hv_St)) (σ : hv_St) (x1 : Int32) (x2 : Int32) (x3 : Int32) : Option (Int32 × hv_St) := if σ.1 0 1 ≤ x3 then (some ((-1 : Int32), σ)) else (hv_if (hv_ok (x3) 6) (if σ.1 1 (x3).toNatClampNeg = x1 then (hv_if (hv_ok (x3) 6) (if σ.1 2 (x3).toNatClampNeg = x2 then (some (x3, σ)) else (kX8_pinAt_32 n r2 σ (x1) (x2) (x3)))) else (kX8_pinAt_32 n r2 σ (x1) (x2) (x3))))
def kX8_pinAt_2 (n : Nat) : Nat → hv_St → Int32 → Int32 → Int32 → Option (Int32 × hv_St)
  | 0 => fun _ _ _ _ => none
  | i + 1 => kX8_pinAt_2_b n (kX8_pinAt_2 n i)
def mX8_pinAt (n : Nat) (σ : hv_St) (p0 : Int32) (p1 : Int32) : Option (Int32 × hv_St) := kX8_pinAt_2 n n σ (p0) (p1) ((0 : Int32))
def mX8_pin (n : Nat) (σ : hv_St) (p0 : Int32) (p1 : Int32) : Option (Int32 × hv_St) := hv_let (hv_sI σ 0 0 ((0 : Int32))) fun s2 => if s2.1 0 1 = (6 : Int32) then (some ((-1 : Int32), s2)) else (hv_b2 (mX8_isPlace n s2 (p0) (p1)) fun r16 s16 => if r16 = 0 then (some ((-1 : Int32), s16)) else (hv_b2 (mX8_pinAt n s16 (p0) (p1)) fun r25 s25 => if r25 = (-1 : Int32) then (hv_if (hv_ok (s25.1 0 1) 6) (hv_let (hv_sI s25 (1) (s25.1 0 1).toNatClampNeg (p0)) fun s43 => hv_if (hv_ok (s43.1 0 1) 6) (hv_let (hv_sI s43 (2) (s43.1 0 1).toNatClampNeg (p1)) fun s53 => hv_let (hv_sI s53 0 1 ((s53.1 0 1) + ((1 : Int32)))) fun s61 => some ((s61.1 0 1) - ((1 : Int32)), s61)))) else (some ((-1 : Int32), s25))))
def mX8_place (n : Nat) (σ : hv_St) (p0 : Int32) (p1 : Int32) (p2 : Int32) : Option (Int32 × hv_St) := hv_let (hv_sI σ 0 0 ((0 : Int32))) fun s2 => hv_b2 (mX8_isPin n s2 (p0)) fun r7 s7 => if r7 = 0 then (some ((0 : Int32), s7)) else (hv_b2 (mX8_isPlace n s7 (p1) (p2)) fun r15 s15 => if r15 = 0 then (some ((0 : Int32), s15)) else (hv_b2 (mX8_pinAt n s15 (p1) (p2)) fun r24 s24 => if r24 = (-1 : Int32) then (hv_if (hv_ok (p0) 6) (hv_let (hv_sI s24 (1) (p0).toNatClampNeg (p1)) fun s39 => hv_if (hv_ok (p0) 6) (hv_let (hv_sI s39 (2) (p0).toNatClampNeg (p2)) fun s46 => some ((1 : Int32), s46)))) else (some ((0 : Int32), s24))))
def kX8_bar_107 (n : Nat) (r52 : hv_St → Int32 → Int32 → Int32 → Int32 → Option (Int32 × hv_St)) (σ : hv_St) (x1 : Int32) (x2 : Int32) (x3 : Int32) (x4 : Int32) : Option (Int32 × hv_St) := r52 σ (x1) (x2) (x3) (x4 + 1)
def kX8_bar_83 (n : Nat) (r52 : hv_St → Int32 → Int32 → Int32 → Int32 → Option (Int32 × hv_St)) (σ : hv_St) (x1 : Int32) (x2 : Int32) (x3 : Int32) (x4 : Int32) : Option (Int32 × hv_St) := hv_if (hv_ok (x4) 11) (if σ.1 5 (x4).toNatClampNeg = x2 then (hv_if (hv_ok (x4) 11) (if σ.1 6 (x4).toNatClampNeg = x1 then (some ((-1 : Int32), σ)) else (kX8_bar_107 n r52 σ (x1) (x2) (x3) (x4)))) else (kX8_bar_107 n r52 σ (x1) (x2) (x3) (x4)))
def kX8_bar_52_b (n : Nat) (r52 : hv_St → Int32 → Int32 → Int32 → Int32 → Option (Int32 × hv_St)) (σ : hv_St) (x1 : Int32) (x2 : Int32) (x3 : Int32) (x4 : Int32) : Option (Int32 × hv_St) := if σ.1 0 6 ≤ x4 then (hv_if (hv_ok (σ.1 0 6) 11) (hv_let (hv_sI σ (5) (σ.1 0 6).toNatClampNeg (x1)) fun s122 => hv_if (hv_ok (s122.1 0 6) 11) (hv_let (hv_sI s122 (6) (s122.1 0 6).toNatClampNeg (x2)) fun s132 => hv_if (hv_ok (s132.1 0 6) 11) (hv_let (hv_sI s132 (7) (s132.1 0 6).toNatClampNeg (x3)) fun s142 => hv_if (hv_ok (s142.1 0 6) 11) (hv_let (hv_sI s142 (8) (s142.1 0 6).toNatClampNeg ((99 : Int32))) fun s153 => hv_let (hv_sI s153 0 11 ((s153.1 0 11) ||| (((1 : Int32)) <<< ((s153.1 0 6) &&& 31)))) fun s166 => hv_let (hv_sI s166 0 6 ((s166.1 0 6) + ((1 : Int32)))) fun s176 => some ((s176.1 0 6) - ((1 : Int32)), s176)))))) else (hv_if (hv_ok (x4) 11) (if σ.1 5 (x4).toNatClampNeg = x1 then (hv_if (hv_ok (x4) 11) (if σ.1 6 (x4).toNatClampNeg = x2 then (some ((-1 : Int32), σ)) else (kX8_bar_83 n r52 σ (x1) (x2) (x3) (x4)))) else (kX8_bar_83 n r52 σ (x1) (x2) (x3) (x4))))
def kX8_bar_52 (n : Nat) : Nat → hv_St → Int32 → Int32 → Int32 → Int32 → Option (Int32 × hv_St)
  | 0 => fun _ _ _ _ _ => none
  | i + 1 => kX8_bar_52_b n (kX8_bar_52 n i)
def mX8_bar (n : Nat) (σ : hv_St) (p0 : Int32) (p1 : Int32) (p2 : Int32) : Option (Int32 × hv_St) := hv_let (hv_sI σ 0 0 ((0 : Int32))) fun s2 => if s2.1 0 6 = (11 : Int32) then (some ((-1 : Int32), s2)) else (hv_b2 (mX8_isPin n s2 (p0)) fun r16 s16 => if r16 = 0 then (some ((-1 : Int32), s16)) else (hv_b2 (mX8_isPin n s16 (p1)) fun r24 s24 => if r24 = 0 then (some ((-1 : Int32), s24)) else (if p0 = p1 then (some ((-1 : Int32), s24)) else (hv_b2 (mX8_in n s24 ((p2).toInt64) ((1 : Int64)) ((3 : Int64))) fun r41 s41 => if r41 = 0 then (some ((-1 : Int32), s41)) else (kX8_bar_52 n n s41 (p0) (p1) (p2) ((0 : Int32)))))))
def mX8_turn (n : Nat) (σ : hv_St) (p0 : Int32) (p1 : Int32) : Option (Int32 × hv_St) := hv_let (hv_sI σ 0 0 ((0 : Int32))) fun s2 => hv_b2 (mX8_isBar n s2 (p0)) fun r7 s7 => if r7 = 0 then (some ((0 : Int32), s7)) else (hv_b2 (mX8_isOn n s7 (s7.1 0 11) (p0)) fun r18 s18 => if r18 = p1 then (some ((0 : Int32), s18)) else (hv_let (hv_sI s18 0 11 ((s18.1 0 11) ^^^ (((1 : Int32)) <<< ((p0) &&& 31)))) fun s36 => some ((1 : Int32), s36)))
def kX8_alter_54 (n : Nat) (σ : hv_St) (x1 : Int32) (x2 : Int32) (x3 : Int32) (z0 : Int32) : Option (Int32 × hv_St) := if z0 = x3 then (some ((0 : Int32), σ)) else (if x2 = 0 then (hv_if (hv_ok (x1) 11) (hv_let (hv_sI σ (7) (x1).toNatClampNeg (x3)) fun s80 => some ((1 : Int32), s80))) else (hv_if (hv_ok (x1) 11) (hv_let (hv_sI σ (8) (x1).toNatClampNeg (x3)) fun s70 => some ((1 : Int32), s70))))
def kX8_alter_29 (n : Nat) (σ : hv_St) (x1 : Int32) (x2 : Int32) (x3 : Int32) (z0 : Int64) (z1 : Int64) (z2 : Int64) : Option (Int32 × hv_St) := hv_b2 (mX8_in n σ (z2) (z1) (z0)) fun r29 s29 => if r29 = 0 then (some ((0 : Int32), s29)) else (if x2 = 0 then (hv_if (hv_ok (x1) 11) (kX8_alter_54 n s29 (x1) (x2) (x3) (s29.1 7 (x1).toNatClampNeg))) else (hv_if (hv_ok (x1) 11) (kX8_alter_54 n s29 (x1) (x2) (x3) (s29.1 8 (x1).toNatClampNeg))))
def mX8_alter (n : Nat) (σ : hv_St) (p0 : Int32) (p1 : Int32) (p2 : Int32) : Option (Int32 × hv_St) := hv_let (hv_sI σ 0 0 ((0 : Int32))) fun s2 => hv_b2 (mX8_isBar n s2 (p0)) fun r7 s7 => if r7 = 0 then (some ((0 : Int32), s7)) else (if p1 = 0 then (kX8_alter_29 n s7 (p0) (p1) (p2) ((3 : Int64)) ((1 : Int64)) ((p2).toInt64)) else (kX8_alter_29 n s7 (p0) (p1) (p2) ((999 : Int64)) ((1 : Int64)) ((p2).toInt64)))
def mX8_hold (n : Nat) (σ : hv_St) (p0 : Int32) (p1 : Int32) (p2 : Int32) : Option (Int32 × hv_St) := hv_let (hv_sI σ 0 0 ((0 : Int32))) fun s2 => hv_b2 (mX8_isPin n s2 (p0)) fun r7 s7 => if r7 = 0 then (some ((0 : Int32), s7)) else (hv_b2 (mX8_in n s7 ((p1).toInt64) ((0 : Int64)) ((1 : Int64))) fun r17 s17 => if r17 = 0 then (some ((0 : Int32), s17)) else (hv_if (hv_ok (p0) 6) (hv_b2 (mX8_isOn n s17 (s17.1 3 (p0).toNatClampNeg) (p1)) fun r30 s30 => if r30 = p2 then (some ((0 : Int32), s30)) else (hv_if (hv_ok (p0) 6) (hv_if (hv_ok (p0) 6) (hv_let (hv_sI s30 (3) (p0).toNatClampNeg ((s30.1 3 (p0).toNatClampNeg) ^^^ (((1 : Int32)) <<< ((p1) &&& 31)))) fun s50 => some ((1 : Int32), s50)))))))
def mX8_load (n : Nat) (σ : hv_St) (p0 : Int32) (p1 : Int32) (p2 : Int32) : Option (Int32 × hv_St) := hv_let (hv_sI σ 0 0 ((0 : Int32))) fun s2 => hv_b2 (mX8_isPin n s2 (p0)) fun r7 s7 => if r7 = 0 then (some ((0 : Int32), s7)) else (hv_b2 (mX8_in n s7 ((p1).toInt64) ((-9 : Int64)) ((9 : Int64))) fun r21 s21 => if r21 = 0 then (some ((0 : Int32), s21)) else (hv_b2 (mX8_in n s21 ((p2).toInt64) ((-9 : Int64)) ((9 : Int64))) fun r35 s35 => if r35 = 0 then (some ((0 : Int32), s35)) else (hv_if (hv_ok (((2 : Int32)) * (p0)) 12) (hv_let (hv_sI s35 (4) (((2 : Int32)) * (p0)).toNatClampNeg (p1)) fun s51 => hv_if (hv_ok ((((2 : Int32)) * (p0)) + ((1 : Int32))) 12) (hv_let (hv_sI s51 (4) ((((2 : Int32)) * (p0)) + ((1 : Int32))).toNatClampNeg (p2)) fun s62 => some ((1 : Int32), s62))))))
def kX8_unload_30 (n : Nat) (r9 : hv_St → Int32 → Int32 → Option (Int32 × hv_St)) (σ : hv_St) (x2 : Int32) (z0 : Int32) (z1 : Int32) : Option (Int32 × hv_St) := hv_let ((z1) + (z0)) fun y1_31 => hv_if (hv_ok (x2) 12) (hv_let (hv_sI σ (4) (x2).toNatClampNeg ((0 : Int32))) fun s38 => r9 s38 (y1_31) (x2 + 1))
def kX8_unload_9_b (n : Nat) (r9 : hv_St → Int32 → Int32 → Option (Int32 × hv_St)) (σ : hv_St) (x1 : Int32) (x2 : Int32) : Option (Int32 × hv_St) := if (12 : Int32) ≤ x2 then (some (x1, σ)) else (hv_if (hv_ok (x2) 12) (if σ.1 4 (x2).toNatClampNeg = 0 then (kX8_unload_30 n r9 σ (x2) ((0 : Int32)) (x1)) else (kX8_unload_30 n r9 σ (x2) ((1 : Int32)) (x1))))
def kX8_unload_9 (n : Nat) : Nat → hv_St → Int32 → Int32 → Option (Int32 × hv_St)
  | 0 => fun _ _ _ => none
  | i + 1 => kX8_unload_9_b n (kX8_unload_9 n i)
def mX8_unload (n : Nat) (σ : hv_St) : Option (Int32 × hv_St) := hv_let (hv_sI σ 0 0 ((0 : Int32))) fun s2 => kX8_unload_9 n n s2 ((0 : Int32)) ((0 : Int32))
def kX8_deck_17_b (n : Nat) (r17 : hv_St → Int32 → Int32 → Option (Int32 × hv_St)) (σ : hv_St) (x1 : Int32) (x2 : Int32) : Option (Int32 × hv_St) := if σ.1 0 13 ≤ x2 then (hv_if (hv_ok (σ.1 0 13) 6) (hv_let (hv_sI σ (9) (σ.1 0 13).toNatClampNeg (x1)) fun s52 => hv_let (hv_sI s52 0 13 ((s52.1 0 13) + ((1 : Int32)))) fun s60 => some (s60.1 0 13, s60))) else (hv_if (hv_ok (x2) 6) (if σ.1 9 (x2).toNatClampNeg = x1 then (some ((-1 : Int32), σ)) else (r17 σ (x1) (x2 + 1))))
def kX8_deck_17 (n : Nat) : Nat → hv_St → Int32 → Int32 → Option (Int32 × hv_St)
  | 0 => fun _ _ _ => none
  | i + 1 => kX8_deck_17_b n (kX8_deck_17 n i)
def mX8_deck (n : Nat) (σ : hv_St) (p0 : Int32) : Option (Int32 × hv_St) := hv_let (hv_sI σ 0 0 ((0 : Int32))) fun s2 => hv_b2 (mX8_isPin n s2 (p0)) fun r7 s7 => if r7 = 0 then (some ((-1 : Int32), s7)) else (kX8_deck_17 n n s7 (p0) ((0 : Int32)))
def mX8_strip (n : Nat) (σ : hv_St) : Option (Int32 × hv_St) := hv_let (hv_sI σ 0 0 ((0 : Int32))) fun s2 => hv_let (s2.1 0 13) fun y1_9 => hv_let (hv_sI s2 0 13 ((0 : Int32))) fun s12 => some (y1_9, s12)
def kX8_train_90_b (n : Nat) (r90 : hv_St → Int32 → Int32 → Int32 → Option (Int32 × hv_St)) (σ : hv_St) (x2 : Int32) (x3 : Int32) (x4 : Int32) : Option (Int32 × hv_St) := if x4 < 0 then (hv_let (hv_sI σ 0 15 (x2)) fun s119 => some (x2, s119)) else (hv_if (hv_ok (x4) 4) (hv_let (hv_sI σ (10) (x4).toNatClampNeg ((x3) - (x3) / ((10 : Int32)) * ((10 : Int32)))) fun s105 => hv_let ((x3) / ((10 : Int32))) fun y3_110 => r90 s105 (x2) (y3_110) ((x4) + (-1))))
def kX8_train_90 (n : Nat) : Nat → hv_St → Int32 → Int32 → Int32 → Option (Int32 × hv_St)
  | 0 => fun _ _ _ _ => none
  | i + 1 => kX8_train_90_b n (kX8_train_90 n i)
def kX8_train_57_b (n : Nat) (r57 : hv_St → Int32 → Int32 → Int32 → Int32 → Option (Int32 × hv_St)) (σ : hv_St) (x1 : Int32) (x2 : Int32) (x3 : Int32) (x4 : Int32) : Option (Int32 × hv_St) := if x2 ≤ x4 then (hv_let ((x2) - ((1 : Int32))) fun y4_88 => kX8_train_90 n n σ (x2) (x1) (y4_88)) else (if (x3) - (x3) / ((10 : Int32)) * ((10 : Int32)) = 0 then (some ((-1 : Int32), σ)) else (hv_let ((x3) / ((10 : Int32))) fun y3_76 => r57 σ (x1) (x2) (y3_76) (x4 + 1)))
def kX8_train_57 (n : Nat) : Nat → hv_St → Int32 → Int32 → Int32 → Int32 → Option (Int32 × hv_St)
  | 0 => fun _ _ _ _ _ => none
  | i + 1 => kX8_train_57_b n (kX8_train_57 n i)
def kX8_train_51 (n : Nat) (σ : hv_St) (x1 : Int32) (z0 : Int32) : Option (Int32 × hv_St) := kX8_train_57 n n σ (x1) (z0) (x1) ((0 : Int32))
def mX8_train (n : Nat) (σ : hv_St) (p0 : Int32) : Option (Int32 × hv_St) := hv_let (hv_sI σ 0 0 ((0 : Int32))) fun s2 => hv_b2 (mX8_in n s2 ((p0).toInt64) ((1 : Int64)) ((9999 : Int64))) fun r11 s11 => if r11 = 0 then (some ((-1 : Int32), s11)) else (if (10 : Int32) ≤ p0 then (if (100 : Int32) ≤ p0 then (if (1000 : Int32) ≤ p0 then (kX8_train_51 n s11 (p0) ((4 : Int32))) else (kX8_train_51 n s11 (p0) ((3 : Int32)))) else (kX8_train_51 n s11 (p0) ((2 : Int32)))) else (kX8_train_51 n s11 (p0) ((1 : Int32))))
def kX8_laysFree_65 (n : Nat) (r7 : hv_St → Int32 → Option (hv_St)) (r17 : hv_St → Int32 → Int32 → Option (hv_St)) (σ : hv_St) (x1 : Int32) (x2 : Int32) : Option (hv_St) := r17 σ (x1) (x2 + 1)
def kX8_laysFree_17_b (n : Nat) (r7 : hv_St → Int32 → Option (hv_St)) (r17 : hv_St → Int32 → Int32 → Option (hv_St)) (σ : hv_St) (x1 : Int32) (x2 : Int32) : Option (hv_St) := if (2 : Int32) ≤ x2 then (r7 σ (x1 + 1)) else (hv_if (hv_ok (x1) 6) (hv_b2 (mX8_isOn n σ (σ.1 3 (x1).toNatClampNeg) (x2)) fun r29 s29 => if r29 = 0 then (hv_if (hv_ok (s29.1 0 18) 12) (hv_let (hv_sI s29 (11) (s29.1 0 18).toNatClampNeg (x1)) fun s44 => hv_if (hv_ok (s44.1 0 18) 12) (hv_let (hv_sI s44 (12) (s44.1 0 18).toNatClampNeg (x2)) fun s54 => hv_let (hv_sI s54 0 18 ((s54.1 0 18) + ((1 : Int32)))) fun s62 => kX8_laysFree_65 n r7 r17 s62 (x1) (x2)))) else (kX8_laysFree_65 n r7 r17 s29 (x1) (x2))))
def kX8_laysFree_17 (n : Nat) (r7 : hv_St → Int32 → Option (hv_St)) : Nat → hv_St → Int32 → Int32 → Option (hv_St)
  | 0 => fun _ _ _ => none
  | i + 1 => kX8_laysFree_17_b n r7 (kX8_laysFree_17 n r7 i)
def kX8_laysFree_7_b (n : Nat) (r7 : hv_St → Int32 → Option (hv_St)) (σ : hv_St) (x1 : Int32) : Option (hv_St) := if σ.1 0 1 ≤ x1 then (some σ) else (kX8_laysFree_17 n r7 n σ (x1) ((0 : Int32)))
def kX8_laysFree_7 (n : Nat) : Nat → hv_St → Int32 → Option (hv_St)
  | 0 => fun _ _ => none
  | i + 1 => kX8_laysFree_7_b n (kX8_laysFree_7 n i)
def mX8_laysFree (n : Nat) (σ : hv_St) : Option (hv_St) := hv_let (hv_sI σ 0 18 ((0 : Int32))) fun s2 => kX8_laysFree_7 n n s2 ((0 : Int32))
def kX8_brings_67 (n : Nat) (σ : hv_St) (x2 : Int32) (x4 : Int32) (z0 : Int32) : Option (Int32 × hv_St) := if x2 = x4 then (some (z0, σ)) else (some (-(z0), σ))
def kX8_brings_30 (n : Nat) (σ : hv_St) (x2 : Int32) (x3 : Int32) (x4 : Int32) (x5 : Int32) : Option (Int32 × hv_St) := if x3 = 0 then (hv_if (hv_ok (x5) 6) (hv_if (hv_ok (x4) 6) (kX8_brings_67 n σ (x2) (x4) ((σ.1 1 (x5).toNatClampNeg) - (σ.1 1 (x4).toNatClampNeg))))) else (hv_if (hv_ok (x5) 6) (hv_if (hv_ok (x4) 6) (kX8_brings_67 n σ (x2) (x4) ((σ.1 2 (x5).toNatClampNeg) - (σ.1 2 (x4).toNatClampNeg)))))
def mX8_brings (n : Nat) (σ : hv_St) (p0 : Int32) (p1 : Int32) (p2 : Int32) : Option (Int32 × hv_St) := hv_if (hv_ok (p0) 11) (hv_let (σ.1 5 (p0).toNatClampNeg) fun y4_6 => hv_if (hv_ok (p0) 11) (hv_let (σ.1 6 (p0).toNatClampNeg) fun y5_14 => if p1 = y4_6 then (kX8_brings_30 n σ (p1) (p2) (y4_6) (y5_14)) else (if p1 = y5_14 then (kX8_brings_30 n σ (p1) (p2) (y4_6) (y5_14)) else (some ((0 : Int32), σ)))))
def kX8_swaps_3_b (n : Nat) (r3 : hv_St → Int32 → Int32 → Int32 → Int32 → Option (hv_St)) (σ : hv_St) (x1 : Int32) (x2 : Int32) (x3 : Int32) (x4 : Int32) : Option (hv_St) := if x3 ≤ x4 then (some σ) else (hv_if (hv_ok ((((12 : Int32)) * (x1)) + (x4)) 144) (hv_let (σ.2 13 ((((12 : Int32)) * (x1)) + (x4)).toNatClampNeg) fun y5_21 => hv_if (hv_ok ((((12 : Int32)) * (x2)) + (x4)) 144) (hv_if (hv_ok ((((12 : Int32)) * (x1)) + (x4)) 144) (hv_let (hv_sJ σ (13) ((((12 : Int32)) * (x1)) + (x4)).toNatClampNeg (σ.2 13 ((((12 : Int32)) * (x2)) + (x4)).toNatClampNeg)) fun s46 => hv_if (hv_ok ((((12 : Int32)) * (x2)) + (x4)) 144) (hv_let (hv_sJ s46 (13) ((((12 : Int32)) * (x2)) + (x4)).toNatClampNeg (y5_21)) fun s60 => r3 s60 (x1) (x2) (x3) (x4 + 1))))))
def kX8_swaps_3 (n : Nat) : Nat → hv_St → Int32 → Int32 → Int32 → Int32 → Option (hv_St)
  | 0 => fun _ _ _ _ _ => none
  | i + 1 => kX8_swaps_3_b n (kX8_swaps_3 n i)
def mX8_swaps (n : Nat) (σ : hv_St) (p0 : Int32) (p1 : Int32) (p2 : Int32) : Option (hv_St) := kX8_swaps_3 n n σ (p0) (p1) (p2) ((0 : Int32))
def kX8_determinant_93_b (n : Nat) (r8 : hv_St → Int32 → Int64 → Int64 → Int32 → Option (Int64 × hv_St)) (r81 : hv_St → Int32 → Int64 → Int64 → Int32 → Int32 → Option (Int64 × hv_St)) (r93 : hv_St → Int32 → Int64 → Int64 → Int32 → Int32 → Int32 → Option (Int64 × hv_St)) (σ : hv_St) (x1 : Int32) (x2 : Int64) (x4 : Int64) (x6 : Int32) (x8 : Int32) (x9 : Int32) : Option (Int64 × hv_St) := if x1 ≤ x9 then (r81 σ (x1) (x2) (x4) (x6) (x8 + 1)) else (hv_if (hv_ok ((((12 : Int32)) * (x8)) + (x9)) 144) (hv_if (hv_ok ((((12 : Int32)) * (x6)) + (x6)) 144) (hv_if (hv_ok ((((12 : Int32)) * (x8)) + (x6)) 144) (hv_if (hv_ok ((((12 : Int32)) * (x6)) + (x9)) 144) (hv_if (decide (¬ x4 = 0)) (hv_if (hv_ok ((((12 : Int32)) * (x8)) + (x9)) 144) (hv_let (hv_sJ σ (13) ((((12 : Int32)) * (x8)) + (x9)).toNatClampNeg ((((σ.2 13 ((((12 : Int32)) * (x8)) + (x9)).toNatClampNeg) * (σ.2 13 ((((12 : Int32)) * (x6)) + (x6)).toNatClampNeg)) - ((σ.2 13 ((((12 : Int32)) * (x8)) + (x6)).toNatClampNeg) * (σ.2 13 ((((12 : Int32)) * (x6)) + (x9)).toNatClampNeg))) / (x4))) fun s169 => r93 s169 (x1) (x2) (x4) (x6) (x8) (x9 + 1))))))))
def kX8_determinant_93 (n : Nat) (r8 : hv_St → Int32 → Int64 → Int64 → Int32 → Option (Int64 × hv_St)) (r81 : hv_St → Int32 → Int64 → Int64 → Int32 → Int32 → Option (Int64 × hv_St)) : Nat → hv_St → Int32 → Int64 → Int64 → Int32 → Int32 → Int32 → Option (Int64 × hv_St)
  | 0 => fun _ _ _ _ _ _ _ => none
  | i + 1 => kX8_determinant_93_b n r8 r81 (kX8_determinant_93 n r8 r81 i)
def kX8_determinant_81_b (n : Nat) (r8 : hv_St → Int32 → Int64 → Int64 → Int32 → Option (Int64 × hv_St)) (r81 : hv_St → Int32 → Int64 → Int64 → Int32 → Int32 → Option (Int64 × hv_St)) (σ : hv_St) (x1 : Int32) (x2 : Int64) (x4 : Int64) (x6 : Int32) (x8 : Int32) : Option (Int64 × hv_St) := if x1 ≤ x8 then (hv_if (hv_ok ((((12 : Int32)) * (x6)) + (x6)) 144) (hv_let (σ.2 13 ((((12 : Int32)) * (x6)) + (x6)).toNatClampNeg) fun y4_195 => r8 σ (x1) (x2) (y4_195) (x6 + 1))) else (hv_let ((x6) + ((1 : Int32))) fun y9_91 => kX8_determinant_93 n r8 r81 n σ (x1) (x2) (x4) (x6) (x8) (y9_91))
def kX8_determinant_81 (n : Nat) (r8 : hv_St → Int32 → Int64 → Int64 → Int32 → Option (Int64 × hv_St)) : Nat → hv_St → Int32 → Int64 → Int64 → Int32 → Int32 → Option (Int64 × hv_St)
  | 0 => fun _ _ _ _ _ _ => none
  | i + 1 => kX8_determinant_81_b n r8 (kX8_determinant_81 n r8 i)
def kX8_determinant_75 (n : Nat) (r8 : hv_St → Int32 → Int64 → Int64 → Int32 → Option (Int64 × hv_St)) (σ : hv_St) (x1 : Int32) (x2 : Int64) (x4 : Int64) (x6 : Int32) : Option (Int64 × hv_St) := hv_let ((x6) + ((1 : Int32))) fun y8_79 => kX8_determinant_81 n r8 n σ (x1) (x2) (x4) (x6) (y8_79)
def kX8_determinant_48 (n : Nat) (r8 : hv_St → Int32 → Int64 → Int64 → Int32 → Option (Int64 × hv_St)) (σ : hv_St) (x1 : Int32) (x2 : Int64) (x4 : Int64) (x6 : Int32) (x7 : Int32) : Option (Int64 × hv_St) := if x7 = x1 then (some ((0 : Int64), σ)) else (if x7 = x6 then (kX8_determinant_75 n r8 σ (x1) (x2) (x4) (x6)) else (hv_bd (mX8_swaps n σ (x7) (x6) (x1)) fun s69 => hv_let (-(x2)) fun y2_74 => kX8_determinant_75 n r8 s69 (x1) (y2_74) (x4) (x6)))
def kX8_determinant_18_b (n : Nat) (r8 : hv_St → Int32 → Int64 → Int64 → Int32 → Option (Int64 × hv_St)) (r18 : hv_St → Int32 → Int64 → Int64 → Int32 → Int32 → Option (Int64 × hv_St)) (σ : hv_St) (x1 : Int32) (x2 : Int64) (x4 : Int64) (x6 : Int32) (x7 : Int32) : Option (Int64 × hv_St) := if x1 ≤ x7 then (kX8_determinant_48 n r8 σ (x1) (x2) (x4) (x6) (x7)) else (hv_if (hv_ok ((((12 : Int32)) * (x7)) + (x6)) 144) (if lg_cmp (σ.2 13 ((((12 : Int32)) * (x7)) + (x6)).toNatClampNeg) ((0 : Int64)) = 0 then (r18 σ (x1) (x2) (x4) (x6) (x7 + 1)) else (kX8_determinant_48 n r8 σ (x1) (x2) (x4) (x6) (x7))))
def kX8_determinant_18 (n : Nat) (r8 : hv_St → Int32 → Int64 → Int64 → Int32 → Option (Int64 × hv_St)) : Nat → hv_St → Int32 → Int64 → Int64 → Int32 → Int32 → Option (Int64 × hv_St)
  | 0 => fun _ _ _ _ _ _ => none
  | i + 1 => kX8_determinant_18_b n r8 (kX8_determinant_18 n r8 i)
def kX8_determinant_8_b (n : Nat) (r8 : hv_St → Int32 → Int64 → Int64 → Int32 → Option (Int64 × hv_St)) (σ : hv_St) (x1 : Int32) (x2 : Int64) (x4 : Int64) (x6 : Int32) : Option (Int64 × hv_St) := if x1 ≤ x6 then (if x1 = 0 then (some ((x2) * ((1 : Int64)), σ)) else (hv_if (hv_ok (((((12 : Int32)) * ((x1) - ((1 : Int32)))) + (x1)) - ((1 : Int32))) 144) (some ((x2) * (σ.2 13 (((((12 : Int32)) * ((x1) - ((1 : Int32)))) + (x1)) - ((1 : Int32))).toNatClampNeg), σ)))) else (kX8_determinant_18 n r8 n σ (x1) (x2) (x4) (x6) (x6))
def kX8_determinant_8 (n : Nat) : Nat → hv_St → Int32 → Int64 → Int64 → Int32 → Option (Int64 × hv_St)
  | 0 => fun _ _ _ _ _ => none
  | i + 1 => kX8_determinant_8_b n (kX8_determinant_8 n i)
def mX8_determinant (n : Nat) (σ : hv_St) (p0 : Int32) : Option (Int64 × hv_St) := kX8_determinant_8 n n σ (p0) ((1 : Int64)) ((1 : Int64)) ((0 : Int32))
def kX8_common_12_b (n : Nat) (r12 : hv_St → Int64 → Int64 → Option (Int64 × hv_St)) (σ : hv_St) (x4 : Int64) (x6 : Int64) : Option (Int64 × hv_St) := if lg_cmp (x6) ((0 : Int64)) = 0 then (some (x4, σ)) else (hv_if (decide (¬ x6 = 0)) (hv_let ((x4) - (x4) / (x6) * (x6)) fun y8_24 => r12 σ (x6) (y8_24)))
def kX8_common_12 (n : Nat) : Nat → hv_St → Int64 → Int64 → Option (Int64 × hv_St)
  | 0 => fun _ _ _ => none
  | i + 1 => kX8_common_12_b n (kX8_common_12 n i)
def mX8_common (n : Nat) (σ : hv_St) (p0 : Int64) (p1 : Int64) : Option (Int64 × hv_St) := hv_b2 (mX8_abs n σ (p0)) fun r1 s1 => hv_b2 (mX8_abs n s1 (p1)) fun r7 s7 => kX8_common_12 n n s7 (r1) (r7)
def kX8_lessens_40_b (n : Nat) (r40 : hv_St → Int32 → Int64 → Int32 → Option (hv_St)) (σ : hv_St) (x1 : Int32) (x2 : Int64) (x4 : Int32) : Option (hv_St) := if σ.1 0 18 ≤ x4 then (some σ) else (if lg_cmp (x2) ((1 : Int64)) ≤ 0 then (some σ) else (hv_if (hv_ok ((((12 : Int32)) * (x1)) + (x4)) 144) (hv_if (decide (¬ x2 = 0)) (hv_if (hv_ok ((((12 : Int32)) * (x1)) + (x4)) 144) (hv_let (hv_sJ σ (13) ((((12 : Int32)) * (x1)) + (x4)).toNatClampNeg ((σ.2 13 ((((12 : Int32)) * (x1)) + (x4)).toNatClampNeg) / (x2))) fun s70 => r40 s70 (x1) (x2) (x4 + 1))))))
def kX8_lessens_40 (n : Nat) : Nat → hv_St → Int32 → Int64 → Int32 → Option (hv_St)
  | 0 => fun _ _ _ _ => none
  | i + 1 => kX8_lessens_40_b n (kX8_lessens_40 n i)
def kX8_lessens_5_b (n : Nat) (r5 : hv_St → Int32 → Int64 → Int32 → Option (hv_St)) (σ : hv_St) (x1 : Int32) (x2 : Int64) (x4 : Int32) : Option (hv_St) := if σ.1 0 18 ≤ x4 then (kX8_lessens_40 n n σ (x1) (x2) ((0 : Int32))) else (hv_if (hv_ok ((((12 : Int32)) * (x1)) + (x4)) 144) (hv_b2 (mX8_common n σ (x2) (σ.2 13 ((((12 : Int32)) * (x1)) + (x4)).toNatClampNeg)) fun r27 s27 => r5 s27 (x1) (r27) (x4 + 1)))
def kX8_lessens_5 (n : Nat) : Nat → hv_St → Int32 → Int64 → Int32 → Option (hv_St)
  | 0 => fun _ _ _ _ => none
  | i + 1 => kX8_lessens_5_b n (kX8_lessens_5 n i)
def mX8_lessens (n : Nat) (σ : hv_St) (p0 : Int32) : Option (hv_St) := kX8_lessens_5 n n σ (p0) ((0 : Int64)) ((0 : Int32))
def kX8_isNew_138_b (n : Nat) (r138 : hv_St → Int32 → Int32 → Option (Int32 × hv_St)) (σ : hv_St) (x1 : Int32) (x2 : Int32) : Option (Int32 × hv_St) := if σ.1 0 18 ≤ x2 then (some ((0 : Int32), σ)) else (hv_if (hv_ok ((((12 : Int32)) * (x1)) + (x2)) 144) (if lg_cmp (σ.2 13 ((((12 : Int32)) * (x1)) + (x2)).toNatClampNeg) ((0 : Int64)) = 0 then (r138 σ (x1) (x2 + 1)) else (some ((1 : Int32), σ))))
def kX8_isNew_138 (n : Nat) : Nat → hv_St → Int32 → Int32 → Option (Int32 × hv_St)
  | 0 => fun _ _ _ => none
  | i + 1 => kX8_isNew_138_b n (kX8_isNew_138 n i)
def kX8_isNew_125 (n : Nat) (r2 : hv_St → Int32 → Int32 → Option (Int32 × hv_St)) (σ : hv_St) (x1 : Int32) (x2 : Int32) : Option (Int32 × hv_St) := hv_bd (mX8_lessens n σ (x1)) fun s127 => r2 s127 (x1) (x2 + 1)
def kX8_isNew_60_b (n : Nat) (r2 : hv_St → Int32 → Int32 → Option (Int32 × hv_St)) (r60 : hv_St → Int32 → Int32 → Int64 → Int64 → Int32 → Option (Int32 × hv_St)) (σ : hv_St) (x1 : Int32) (x2 : Int32) (x4 : Int64) (x6 : Int64) (x8 : Int32) : Option (Int32 × hv_St) := if σ.1 0 18 ≤ x8 then (kX8_isNew_125 n r2 σ (x1) (x2)) else (if lg_cmp (x6) ((0 : Int64)) = 0 then (kX8_isNew_125 n r2 σ (x1) (x2)) else (hv_if (hv_ok ((((12 : Int32)) * (x1)) + (x8)) 144) (hv_if (hv_ok ((((12 : Int32)) * (x2)) + (x8)) 144) (hv_if (hv_ok ((((12 : Int32)) * (x1)) + (x8)) 144) (hv_let (hv_sJ σ (13) ((((12 : Int32)) * (x1)) + (x8)).toNatClampNeg (((σ.2 13 ((((12 : Int32)) * (x1)) + (x8)).toNatClampNeg) * (x4)) - ((x6) * (σ.2 13 ((((12 : Int32)) * (x2)) + (x8)).toNatClampNeg)))) fun s118 => r60 s118 (x1) (x2) (x4) (x6) (x8 + 1))))))
def kX8_isNew_60 (n : Nat) (r2 : hv_St → Int32 → Int32 → Option (Int32 × hv_St)) : Nat → hv_St → Int32 → Int32 → Int64 → Int64 → Int32 → Option (Int32 × hv_St)
  | 0 => fun _ _ _ _ _ _ => none
  | i + 1 => kX8_isNew_60_b n r2 (kX8_isNew_60 n r2 i)
def kX8_isNew_9_b (n : Nat) (r2 : hv_St → Int32 → Int32 → Option (Int32 × hv_St)) (r9 : hv_St → Int32 → Int32 → Int32 → Option (Int32 × hv_St)) (σ : hv_St) (x1 : Int32) (x2 : Int32) (x3 : Int32) : Option (Int32 × hv_St) := hv_if (hv_ok ((((12 : Int32)) * (x2)) + (x3)) 144) (if lg_cmp (σ.2 13 ((((12 : Int32)) * (x2)) + (x3)).toNatClampNeg) ((0 : Int64)) = 0 then (r9 σ (x1) (x2) (x3 + 1)) else (hv_if (hv_ok ((((12 : Int32)) * (x2)) + (x3)) 144) (hv_let (σ.2 13 ((((12 : Int32)) * (x2)) + (x3)).toNatClampNeg) fun y4_42 => hv_if (hv_ok ((((12 : Int32)) * (x1)) + (x3)) 144) (hv_let (σ.2 13 ((((12 : Int32)) * (x1)) + (x3)).toNatClampNeg) fun y6_55 => kX8_isNew_60 n r2 n σ (x1) (x2) (y4_42) (y6_55) ((0 : Int32))))))
def kX8_isNew_9 (n : Nat) (r2 : hv_St → Int32 → Int32 → Option (Int32 × hv_St)) : Nat → hv_St → Int32 → Int32 → Int32 → Option (Int32 × hv_St)
  | 0 => fun _ _ _ _ => none
  | i + 1 => kX8_isNew_9_b n r2 (kX8_isNew_9 n r2 i)
def kX8_isNew_2_b (n : Nat) (r2 : hv_St → Int32 → Int32 → Option (Int32 × hv_St)) (σ : hv_St) (x1 : Int32) (x2 : Int32) : Option (Int32 × hv_St) := if x1 ≤ x2 then (kX8_isNew_138 n n σ (x1) ((0 : Int32))) else (kX8_isNew_9 n r2 n σ (x1) (x2) ((0 : Int32)))
def kX8_isNew_2 (n : Nat) : Nat → hv_St → Int32 → Int32 → Option (Int32 × hv_St)
  | 0 => fun _ _ _ => none
  | i + 1 => kX8_isNew_2_b n (kX8_isNew_2 n i)
def mX8_isNew (n : Nat) (σ : hv_St) (p0 : Int32) : Option (Int32 × hv_St) := kX8_isNew_2 n n σ (p0) ((0 : Int32))
def kX8_laysBase_165 (n : Nat) (r18 : hv_St → Int32 → Int32 → Int32 → Option (hv_St)) (σ : hv_St) (x1 : Int32) (x2 : Int32) (x3 : Int32) : Option (hv_St) := r18 σ (x1) (x2) (x3 + 1)
def kX8_laysBase_163 (n : Nat) (r18 : hv_St → Int32 → Int32 → Int32 → Option (hv_St)) (σ : hv_St) (x1 : Int32) (x3 : Int32) (z0 : Int32) (z1 : Int32) : Option (hv_St) := hv_let ((z1) + (z0)) fun y2_164 => kX8_laysBase_165 n r18 σ (x1) (y2_164) (x3)
def kX8_laysBase_148 (n : Nat) (r18 : hv_St → Int32 → Int32 → Int32 → Option (hv_St)) (σ : hv_St) (x1 : Int32) (x2 : Int32) (x3 : Int32) (x4 : Int32) (z0 : Int32) (z1 : Int32) : Option (hv_St) := hv_let (hv_sI σ 0 21 ((z1) ||| (z0))) fun s149 => if x4 = 0 then (kX8_laysBase_163 n r18 s149 (x1) (x3) ((0 : Int32)) (x2)) else (kX8_laysBase_163 n r18 s149 (x1) (x3) ((1 : Int32)) (x2))
def kX8_laysBase_127 (n : Nat) (r18 : hv_St → Int32 → Int32 → Int32 → Option (hv_St)) (σ : hv_St) (x1 : Int32) (x2 : Int32) (x3 : Int32) (x4 : Int32) (z0 : Int32) (z1 : Int32) : Option (hv_St) := hv_let (hv_sI σ 0 20 ((z1) ||| (z0))) fun s128 => if x4 = 0 then (kX8_laysBase_148 n r18 s128 (x1) (x2) (x3) (x4) (((1 : Int32)) <<< ((x3) &&& 31)) (s128.1 0 21)) else (kX8_laysBase_148 n r18 s128 (x1) (x2) (x3) (x4) ((0 : Int32)) (s128.1 0 21))
def kX8_laysBase_108 (n : Nat) (r18 : hv_St → Int32 → Int32 → Int32 → Option (hv_St)) (σ : hv_St) (x1 : Int32) (x2 : Int32) (x3 : Int32) (z0 : Int32) : Option (hv_St) := if z0 = 0 then (kX8_laysBase_127 n r18 σ (x1) (x2) (x3) (z0) ((0 : Int32)) (σ.1 0 20)) else (kX8_laysBase_127 n r18 σ (x1) (x2) (x3) (z0) (((1 : Int32)) <<< ((x3) &&& 31)) (σ.1 0 20))
def kX8_laysBase_107 (n : Nat) (r18 : hv_St → Int32 → Int32 → Int32 → Option (hv_St)) (σ : hv_St) (x1 : Int32) (x2 : Int32) (x3 : Int32) : Option (hv_St) := kX8_laysBase_108 n r18 σ (x1) (x2) (x3) ((0 : Int32))
def kX8_laysBase_40_b (n : Nat) (r18 : hv_St → Int32 → Int32 → Int32 → Option (hv_St)) (r40 : hv_St → Int32 → Int32 → Int32 → Int32 → Option (hv_St)) (σ : hv_St) (x1 : Int32) (x2 : Int32) (x3 : Int32) (x4 : Int32) : Option (hv_St) := if σ.1 0 18 ≤ x4 then (if σ.1 0 18 ≤ x2 then (kX8_laysBase_107 n r18 σ (x1) (x2) (x3)) else (hv_b2 (mX8_isNew n σ (x2)) fun r97 s97 => if r97 = 0 then (kX8_laysBase_107 n r18 s97 (x1) (x2) (x3)) else (kX8_laysBase_108 n r18 s97 (x1) (x2) (x3) ((1 : Int32))))) else (hv_if (hv_ok (x4) 12) (hv_if (hv_ok (x4) 12) (hv_b2 (mX8_brings n σ (x3) (σ.1 11 (x4).toNatClampNeg) (σ.1 12 (x4).toNatClampNeg)) fun r76 s76 => hv_if (hv_ok ((((12 : Int32)) * (x2)) + (x4)) 144) (hv_let (hv_sJ s76 (13) ((((12 : Int32)) * (x2)) + (x4)).toNatClampNeg ((r76).toInt64)) fun s80 => r40 s80 (x1) (x2) (x3) (x4 + 1)))))
def kX8_laysBase_40 (n : Nat) (r18 : hv_St → Int32 → Int32 → Int32 → Option (hv_St)) : Nat → hv_St → Int32 → Int32 → Int32 → Int32 → Option (hv_St)
  | 0 => fun _ _ _ _ _ => none
  | i + 1 => kX8_laysBase_40_b n r18 (kX8_laysBase_40 n r18 i)
def kX8_laysBase_18_b (n : Nat) (r18 : hv_St → Int32 → Int32 → Int32 → Option (hv_St)) (σ : hv_St) (x1 : Int32) (x2 : Int32) (x3 : Int32) : Option (hv_St) := if σ.1 0 6 ≤ x3 then (some σ) else (hv_b2 (mX8_isOn n σ (x1) (x3)) fun r28 s28 => if r28 = 0 then (kX8_laysBase_165 n r18 s28 (x1) (x2) (x3)) else (kX8_laysBase_40 n r18 n s28 (x1) (x2) (x3) ((0 : Int32))))
def kX8_laysBase_18 (n : Nat) : Nat → hv_St → Int32 → Int32 → Int32 → Option (hv_St)
  | 0 => fun _ _ _ _ => none
  | i + 1 => kX8_laysBase_18_b n (kX8_laysBase_18 n i)
def mX8_laysBase (n : Nat) (σ : hv_St) (p0 : Int32) : Option (hv_St) := hv_bd (mX8_laysFree n σ ) fun s1 => hv_let (hv_sI s1 0 20 ((0 : Int32))) fun s6 => hv_let (hv_sI s6 0 21 ((0 : Int32))) fun s11 => kX8_laysBase_18 n n s11 (p0) ((0 : Int32)) ((0 : Int32))
def mX8_kind (n : Nat) (σ : hv_St) : Option (Int32 × hv_St) := hv_b2 (mX8_bits n σ (σ.1 0 20)) fun r4 s4 => if s4.1 0 18 ≤ r4 then (hv_b2 (mX8_bits n s4 (s4.1 0 21)) fun r20 s20 => if r20 ≤ (2 : Int32) then (hv_b2 (mX8_bits n s20 (s20.1 0 21)) fun r36 s36 => some (((1 : Int32)) + (r36), s36)) else (some ((4 : Int32), s20))) else (some ((0 : Int32), s4))
def mX8_kindOf (n : Nat) (σ : hv_St) (p0 : Int32) : Option (Int32 × hv_St) := hv_bd (mX8_laysBase n σ (p0)) fun s2 => hv_b2 (mX8_kind n s2 ) fun r6 s6 => some (r6, s6)
def kX8_isFirm_13 (n : Nat) (σ : hv_St) : Option (Int32 × hv_St) := some ((0 : Int32), σ)
def mX8_isFirm (n : Nat) (σ : hv_St) (p0 : Int32) : Option (Int32 × hv_St) := if p0 ≤ 0 then (kX8_isFirm_13 n σ) else (if (4 : Int32) ≤ p0 then (kX8_isFirm_13 n σ) else (some ((1 : Int32), σ)))
def kX8_setDeterminant_97 (n : Nat) (r5 : hv_St → Int32 → Int32 → Int32 → Int32 → Option (Int64 × hv_St)) (σ : hv_St) (x1 : Int32) (x2 : Int32) (x3 : Int32) (x4 : Int32) : Option (Int64 × hv_St) := r5 σ (x1) (x2) (x3) (x4 + 1)
def kX8_setDeterminant_87 (n : Nat) (r5 : hv_St → Int32 → Int32 → Int32 → Int32 → Option (Int64 × hv_St)) (r29 : hv_St → Int32 → Int32 → Int32 → Int32 → Int32 → Option (Int64 × hv_St)) (σ : hv_St) (x1 : Int32) (x2 : Int32) (x3 : Int32) (x4 : Int32) (x5 : Int32) (z0 : Int64) (z1 : Int32) : Option (Int64 × hv_St) := hv_if (hv_ok (z1) 144) (hv_let (hv_sJ σ (13) (z1).toNatClampNeg (z0)) fun s87 => r29 s87 (x1) (x2) (x3) (x4) (x5 + 1))
def kX8_setDeterminant_29_b (n : Nat) (r5 : hv_St → Int32 → Int32 → Int32 → Int32 → Option (Int64 × hv_St)) (r29 : hv_St → Int32 → Int32 → Int32 → Int32 → Int32 → Option (Int64 × hv_St)) (σ : hv_St) (x1 : Int32) (x2 : Int32) (x3 : Int32) (x4 : Int32) (x5 : Int32) : Option (Int64 × hv_St) := if σ.1 0 18 ≤ x5 then (kX8_setDeterminant_97 n r5 σ (x1) (x2) (x3 + 1) (x4)) else (if x4 = x2 then (hv_if (hv_ok (x5) 12) (kX8_setDeterminant_87 n r5 r29 σ (x1) (x2) (x3) (x4) (x5) ((σ.1 14 (x5).toNatClampNeg).toInt64) ((((12 : Int32)) * (x5)) + (x3)))) else (hv_if (hv_ok (x5) 12) (hv_if (hv_ok (x5) 12) (hv_b2 (mX8_brings n σ (x4) (σ.1 11 (x5).toNatClampNeg) (σ.1 12 (x5).toNatClampNeg)) fun r83 s83 => kX8_setDeterminant_87 n r5 r29 s83 (x1) (x2) (x3) (x4) (x5) ((r83).toInt64) ((((12 : Int32)) * (x5)) + (x3))))))
def kX8_setDeterminant_29 (n : Nat) (r5 : hv_St → Int32 → Int32 → Int32 → Int32 → Option (Int64 × hv_St)) : Nat → hv_St → Int32 → Int32 → Int32 → Int32 → Int32 → Option (Int64 × hv_St)
  | 0 => fun _ _ _ _ _ _ => none
  | i + 1 => kX8_setDeterminant_29_b n r5 (kX8_setDeterminant_29 n r5 i)
def kX8_setDeterminant_5_b (n : Nat) (r5 : hv_St → Int32 → Int32 → Int32 → Int32 → Option (Int64 × hv_St)) (σ : hv_St) (x1 : Int32) (x2 : Int32) (x3 : Int32) (x4 : Int32) : Option (Int64 × hv_St) := if σ.1 0 6 ≤ x4 then (hv_b2 (mX8_determinant n σ (σ.1 0 18)) fun r108 s108 => some (r108, s108)) else (hv_b2 (mX8_isOn n σ (x1) (x4)) fun r17 s17 => if r17 = 0 then (kX8_setDeterminant_97 n r5 s17 (x1) (x2) (x3) (x4)) else (kX8_setDeterminant_29 n r5 n s17 (x1) (x2) (x3) (x4) ((0 : Int32))))
def kX8_setDeterminant_5 (n : Nat) : Nat → hv_St → Int32 → Int32 → Int32 → Int32 → Option (Int64 × hv_St)
  | 0 => fun _ _ _ _ _ => none
  | i + 1 => kX8_setDeterminant_5_b n (kX8_setDeterminant_5 n i)
def mX8_setDeterminant (n : Nat) (σ : hv_St) (p0 : Int32) (p1 : Int32) : Option (Int64 × hv_St) := kX8_setDeterminant_5 n n σ (p0) (p1) ((0 : Int32)) ((0 : Int32))
def kX8_takesLoads_2_b (n : Nat) (r2 : hv_St → Int32 → Option (hv_St)) (σ : hv_St) (x1 : Int32) : Option (hv_St) := if (12 : Int32) ≤ x1 then (some σ) else (hv_if (hv_ok (x1) 12) (hv_if (hv_ok (x1) 12) (hv_let (hv_sI σ (16) (x1).toNatClampNeg (σ.1 4 (x1).toNatClampNeg)) fun s19 => r2 s19 (x1 + 1))))
def kX8_takesLoads_2 (n : Nat) : Nat → hv_St → Int32 → Option (hv_St)
  | 0 => fun _ _ => none
  | i + 1 => kX8_takesLoads_2_b n (kX8_takesLoads_2 n i)
def mX8_takesLoads (n : Nat) (σ : hv_St) : Option (hv_St) := kX8_takesLoads_2 n n σ ((0 : Int32))
def kX8_takesNone_2_b (n : Nat) (r2 : hv_St → Int32 → Option (hv_St)) (σ : hv_St) (x1 : Int32) : Option (hv_St) := if (12 : Int32) ≤ x1 then (some σ) else (hv_if (hv_ok (x1) 12) (hv_let (hv_sI σ (16) (x1).toNatClampNeg ((0 : Int32))) fun s14 => r2 s14 (x1 + 1)))
def kX8_takesNone_2 (n : Nat) : Nat → hv_St → Int32 → Option (hv_St)
  | 0 => fun _ _ => none
  | i + 1 => kX8_takesNone_2_b n (kX8_takesNone_2 n i)
def mX8_takesNone (n : Nat) (σ : hv_St) : Option (hv_St) := kX8_takesNone_2 n n σ ((0 : Int32))
def kX8_laysColumn_2_b (n : Nat) (r2 : hv_St → Int32 → Option (hv_St)) (σ : hv_St) (x1 : Int32) : Option (hv_St) := if σ.1 0 18 ≤ x1 then (some σ) else (hv_if (hv_ok (x1) 12) (hv_if (hv_ok (x1) 12) (hv_if (hv_ok ((((2 : Int32)) * (σ.1 11 (x1).toNatClampNeg)) + (σ.1 12 (x1).toNatClampNeg)) 12) (hv_if (hv_ok (x1) 12) (hv_let (hv_sI σ (14) (x1).toNatClampNeg (-(σ.1 16 ((((2 : Int32)) * (σ.1 11 (x1).toNatClampNeg)) + (σ.1 12 (x1).toNatClampNeg)).toNatClampNeg))) fun s36 => r2 s36 (x1 + 1))))))
def kX8_laysColumn_2 (n : Nat) : Nat → hv_St → Int32 → Option (hv_St)
  | 0 => fun _ _ => none
  | i + 1 => kX8_laysColumn_2_b n (kX8_laysColumn_2 n i)
def mX8_laysColumn (n : Nat) (σ : hv_St) : Option (hv_St) := kX8_laysColumn_2 n n σ ((0 : Int32))
def kX8_addsSet_124 (n : Nat) (r75 : hv_St → Int32 → Int64 → Int64 → Int32 → Option (hv_St)) (σ : hv_St) (x1 : Int32) (x3 : Int64) (x5 : Int64) (x7 : Int32) (z0 : Int64) (z1 : Int64) (z2 : Int32) : Option (hv_St) := hv_if (hv_ok (z2) 11) (hv_let (hv_sJ σ (15) (z2).toNatClampNeg ((z1) + (z0))) fun s125 => r75 s125 (x1) (x3) (x5) (x7 + 1))
def kX8_addsSet_75_b (n : Nat) (r75 : hv_St → Int32 → Int64 → Int64 → Int32 → Option (hv_St)) (σ : hv_St) (x1 : Int32) (x3 : Int64) (x5 : Int64) (x7 : Int32) : Option (hv_St) := if σ.1 0 6 ≤ x7 then (some σ) else (if lg_cmp (x5) ((0 : Int64)) = 0 then (some σ) else (hv_if (hv_ok (x7) 11) (hv_b2 (mX8_isOn n σ (x1) (x7)) fun r102 s102 => if r102 = 0 then (kX8_addsSet_124 n r75 s102 (x1) (x3) (x5) (x7) ((0 : Int64)) (σ.2 15 (x7).toNatClampNeg) (x7)) else (hv_b2 (mX8_setDeterminant n s102 (x1) (x7)) fun r116 s116 => kX8_addsSet_124 n r75 s116 (x1) (x3) (x5) (x7) (((x3) * (x5)) * (r116)) (σ.2 15 (x7).toNatClampNeg) (x7)))))
def kX8_addsSet_75 (n : Nat) : Nat → hv_St → Int32 → Int64 → Int64 → Int32 → Option (hv_St)
  | 0 => fun _ _ _ _ _ => none
  | i + 1 => kX8_addsSet_75_b n (kX8_addsSet_75 n i)
def kX8_addsSet_40 (n : Nat) (r5 : hv_St → Int32 → Int32 → Int64 → Int32 → Option (hv_St)) (σ : hv_St) (x1 : Int32) (x2 : Int32) (x5 : Int32) (z0 : Int64) (z1 : Int64) : Option (hv_St) := hv_let ((z1) * (z0)) fun y3_41 => r5 σ (x1) (x2) (y3_41) (x5 + 1)
def kX8_addsSet_5_b (n : Nat) (r5 : hv_St → Int32 → Int32 → Int64 → Int32 → Option (hv_St)) (σ : hv_St) (x1 : Int32) (x2 : Int32) (x3 : Int64) (x5 : Int32) : Option (hv_St) := if σ.1 0 6 ≤ x5 then (hv_b2 (mX8_setDeterminant n σ (x1) ((-1 : Int32))) fun r51 s51 => hv_let (hv_sJ s51 0 24 ((s51.2 0 24) + (((x3) * (r51)) * (r51)))) fun s69 => kX8_addsSet_75 n n s69 (x1) (x3) (r51) ((0 : Int32))) else (hv_b2 (mX8_isOn n σ ((x2) &&& ((x1) ^^^ ((-1 : Int32)))) (x5)) fun r22 s22 => if r22 = 0 then (kX8_addsSet_40 n r5 s22 (x1) (x2) (x5) ((1 : Int64)) (x3)) else (hv_if (hv_ok (x5) 11) (kX8_addsSet_40 n r5 s22 (x1) (x2) (x5) ((s22.1 7 (x5).toNatClampNeg).toInt64) (x3))))
def kX8_addsSet_5 (n : Nat) : Nat → hv_St → Int32 → Int32 → Int64 → Int32 → Option (hv_St)
  | 0 => fun _ _ _ _ _ => none
  | i + 1 => kX8_addsSet_5_b n (kX8_addsSet_5 n i)
def mX8_addsSet (n : Nat) (σ : hv_St) (p0 : Int32) (p1 : Int32) : Option (hv_St) := kX8_addsSet_5 n n σ (p0) (p1) ((1 : Int64)) ((0 : Int32))
def kX8_bears_80 (n : Nat) (r45 : hv_St → Int32 → Int32 → Option (Int32 × hv_St)) (σ : hv_St) (x1 : Int32) (x2 : Int32) : Option (Int32 × hv_St) := r45 σ (x1) (x2 + 1)
def kX8_bears_45_b (n : Nat) (r45 : hv_St → Int32 → Int32 → Option (Int32 × hv_St)) (σ : hv_St) (x1 : Int32) (x2 : Int32) : Option (Int32 × hv_St) := if ((1 : Int32)) <<< ((σ.1 0 6) &&& 31) ≤ x2 then (some ((1 : Int32), σ)) else (if (x2) &&& ((x1) ^^^ ((-1 : Int32))) = 0 then (hv_b2 (mX8_bits n σ (x2)) fun r64 s64 => if r64 = s64.1 0 18 then (hv_bd (mX8_addsSet n s64 (x2) (x1)) fun s77 => kX8_bears_80 n r45 s77 (x1) (x2)) else (kX8_bears_80 n r45 s64 (x1) (x2))) else (kX8_bears_80 n r45 σ (x1) (x2)))
def kX8_bears_45 (n : Nat) : Nat → hv_St → Int32 → Int32 → Option (Int32 × hv_St)
  | 0 => fun _ _ _ => none
  | i + 1 => kX8_bears_45_b n (kX8_bears_45 n i)
def kX8_bears_24_b (n : Nat) (r24 : hv_St → Int32 → Int32 → Option (Int32 × hv_St)) (σ : hv_St) (x1 : Int32) (x2 : Int32) : Option (Int32 × hv_St) := if (11 : Int32) ≤ x2 then (kX8_bears_45 n n σ (x1) ((0 : Int32))) else (hv_if (hv_ok (x2) 11) (hv_let (hv_sJ σ (15) (x2).toNatClampNeg ((0 : Int64))) fun s36 => r24 s36 (x1) (x2 + 1)))
def kX8_bears_24 (n : Nat) : Nat → hv_St → Int32 → Int32 → Option (Int32 × hv_St)
  | 0 => fun _ _ _ => none
  | i + 1 => kX8_bears_24_b n (kX8_bears_24 n i)
def mX8_bears (n : Nat) (σ : hv_St) (p0 : Int32) : Option (Int32 × hv_St) := hv_b2 (mX8_kindOf n σ (p0)) fun r2 s2 => hv_b2 (mX8_isFirm n s2 (r2)) fun r5 s5 => if r5 = 0 then (some ((0 : Int32), s5)) else (hv_bd (mX8_laysColumn n s5 ) fun s14 => hv_let (hv_sJ s14 0 24 ((0 : Int64))) fun s19 => kX8_bears_24 n n s19 (p0) ((0 : Int32)))
def kX8_told_34 (n : Nat) (σ : hv_St) (x5 : Int64) (z0 : Int64) (z1 : Int64) : Option (Int64 × hv_St) := hv_if (decide (¬ x5 = 0)) (some (((z1) * (z0)) / (x5), σ))
def kX8_told_20 (n : Nat) (σ : hv_St) (x0 : Int64) (x2 : Int64) (x4 : Int32) (x5 : Int64) (z0 : Int64) : Option (Int64 × hv_St) := if x4 = 0 then (kX8_told_34 n σ (x5) (x0) (z0)) else (kX8_told_34 n σ (x5) (x2) (z0))
def mX8_told (n : Nat) (σ : hv_St) (p0 : Int64) (p1 : Int64) (p2 : Int32) : Option (Int64 × hv_St) := hv_b2 (mX8_common n σ (p0) (p1)) fun r2 s2 => if 0 ≤ lg_cmp (p1) ((0 : Int64)) then (kX8_told_20 n s2 (p0) (p1) (p2) (r2) ((1 : Int64))) else (kX8_told_20 n s2 (p0) (p1) (p2) (r2) ((-1 : Int64)))
def kX8_pull_40 (n : Nat) (σ : hv_St) (x1 : Int32) (x2 : Int32) (z0 : Int32) : Option (Int64 × hv_St) := hv_let (hv_sI σ 0 0 (z0)) fun s40 => if s40.1 0 0 ≤ 0 then (hv_if (hv_ok (x1) 11) (hv_b2 (mX8_told n s40 (s40.2 15 (x1).toNatClampNeg) (s40.2 0 24) (x2)) fun r65 s65 => some (r65, s65))) else (some ((0 : Int64), s40))
def kX8_pull_39 (n : Nat) (σ : hv_St) (x1 : Int32) (x2 : Int32) : Option (Int64 × hv_St) := kX8_pull_40 n σ (x1) (x2) ((1 : Int32))
def mX8_pull (n : Nat) (σ : hv_St) (p0 : Int32) (p1 : Int32) : Option (Int64 × hv_St) := hv_bd (mX8_takesLoads n σ ) fun s1 => hv_b2 (mX8_isBar n s1 (p0)) fun r7 s7 => if r7 = 0 then (kX8_pull_39 n s7 (p0) (p1)) else (hv_b2 (mX8_isOn n s7 (s7.1 0 11) (p0)) fun r18 s18 => if r18 = 0 then (kX8_pull_39 n s18 (p0) (p1)) else (hv_b2 (mX8_bears n s18 (s18.1 0 11)) fun r29 s29 => if r29 = 0 then (kX8_pull_39 n s29 (p0) (p1)) else (kX8_pull_40 n s29 (p0) (p1) ((0 : Int32)))))
def kX8_spareAt_33 (n : Nat) (r4 : hv_St → Int32 → Int32 → Int32 → Option (Int32 × hv_St)) (σ : hv_St) (x1 : Int32) (x2 : Int32) (x3 : Int32) : Option (Int32 × hv_St) := r4 σ (x1) (x2) (x3 + 1)
def kX8_spareAt_4_b (n : Nat) (r4 : hv_St → Int32 → Int32 → Int32 → Option (Int32 × hv_St)) (σ : hv_St) (x1 : Int32) (x2 : Int32) (x3 : Int32) : Option (Int32 × hv_St) := if σ.1 0 6 ≤ x3 then (some ((-1 : Int32), σ)) else (hv_b2 (mX8_isOn n σ (σ.1 0 21) (x3)) fun r17 s17 => if r17 = 0 then (kX8_spareAt_33 n r4 s17 (x1) (x2) (x3)) else (if x2 = x1 then (some (x3, s17)) else (kX8_spareAt_33 n r4 s17 (x1) (x2 + 1) (x3))))
def kX8_spareAt_4 (n : Nat) : Nat → hv_St → Int32 → Int32 → Int32 → Option (Int32 × hv_St)
  | 0 => fun _ _ _ _ => none
  | i + 1 => kX8_spareAt_4_b n (kX8_spareAt_4 n i)
def mX8_spareAt (n : Nat) (σ : hv_St) (p0 : Int32) : Option (Int32 × hv_St) := kX8_spareAt_4 n n σ (p0) ((0 : Int32)) ((0 : Int32))
def kX8_laysState_47 (q : Nat) (n : Nat) (r15 : hv_St → Int32 → Option (hv_St)) (σ : hv_St) (x2 : Int32) (z0 : Int64) (z1 : Int32) : Option (hv_St) := hv_if (hv_ok (z1) 11) (hv_let (hv_sJ σ (q) (z1).toNatClampNeg (z0)) fun s47 => r15 s47 (x2 + 1))
def kX8_laysState_15_b (q : Nat) (n : Nat) (r15 : hv_St → Int32 → Option (hv_St)) (σ : hv_St) (x2 : Int32) : Option (hv_St) := if (11 : Int32) ≤ x2 then (some σ) else (hv_b2 (mX8_isOn n σ (σ.1 0 20) (x2)) fun r28 s28 => if r28 = 0 then (kX8_laysState_47 q n r15 s28 (x2) ((0 : Int64)) (x2)) else (hv_b2 (mX8_setDeterminant n s28 (s28.1 0 20) (x2)) fun r40 s40 => kX8_laysState_47 q n r15 s40 (x2) (r40) (x2)))
def kX8_laysState_15 (q : Nat) (n : Nat) : Nat → hv_St → Int32 → Option (hv_St)
  | 0 => fun _ _ => none
  | i + 1 => kX8_laysState_15_b q n (kX8_laysState_15 q n i)
def mX8_laysState (n : Nat) (σ : hv_St) (q : Nat) : Option (hv_St) := hv_b2 (mX8_setDeterminant n σ (σ.1 0 20) ((-1 : Int32))) fun r7 s7 => hv_let (hv_sJ s7 0 29 (r7)) fun s10 => kX8_laysState_15 q n n s10 ((0 : Int32))
def mX8_laysBare (n : Nat) (σ : hv_St) : Option (hv_St) := hv_bd (mX8_takesLoads n σ ) fun s1 => hv_bd (mX8_laysColumn n s1 ) fun s5 => hv_bd (mX8_laysState n s5 (17)) fun s13 => some s13
def kX8_laysUnit_2_b (q : Nat) (n : Nat) (r2 : hv_St → Int32 → Int32 → Option (hv_St)) (σ : hv_St) (x1 : Int32) (x3 : Int32) : Option (hv_St) := if σ.1 0 18 ≤ x3 then (hv_bd (mX8_laysState n σ (q)) fun s42 => hv_if (hv_ok (x1) 11) (hv_let (hv_sJ s42 (q) (x1).toNatClampNeg (s42.2 0 29)) fun s51 => some s51)) else (hv_if (hv_ok (x3) 12) (hv_if (hv_ok (x3) 12) (hv_b2 (mX8_brings n σ (x1) (σ.1 11 (x3).toNatClampNeg) (σ.1 12 (x3).toNatClampNeg)) fun r29 s29 => hv_if (hv_ok (x3) 12) (hv_let (hv_sI s29 (14) (x3).toNatClampNeg (-(r29))) fun s33 => r2 s33 (x1) (x3 + 1)))))
def kX8_laysUnit_2 (q : Nat) (n : Nat) : Nat → hv_St → Int32 → Int32 → Option (hv_St)
  | 0 => fun _ _ _ => none
  | i + 1 => kX8_laysUnit_2_b q n (kX8_laysUnit_2 q n i)
def mX8_laysUnit (n : Nat) (σ : hv_St) (p0 : Int32) (q : Nat) : Option (hv_St) := kX8_laysUnit_2 q n n σ (p0) ((0 : Int32))
def kX8_state_82 (n : Nat) (σ : hv_St) (x1 : Int32) (x2 : Int32) (x3 : Int32) (x5 : Int32) (z0 : Int32) : Option (Int64 × hv_St) := hv_let (hv_sI σ 0 0 (z0)) fun s82 => if s82.1 0 0 ≤ 0 then (if x1 = (-1 : Int32) then (hv_bd (mX8_laysBare n s82 ) fun s100 => hv_if (hv_ok (x2) 11) (hv_b2 (mX8_told n s100 (s100.2 17 (x2).toNatClampNeg) (s100.2 0 29) (x3)) fun r114 s114 => some (r114, s114))) else (hv_bd (mX8_laysUnit n s82 (x5) (18)) fun s125 => hv_if (hv_ok (x2) 11) (hv_b2 (mX8_told n s125 (s125.2 18 (x2).toNatClampNeg) (s125.2 0 29) (x3)) fun r139 s139 => some (r139, s139)))) else (some ((0 : Int64), s82))
def kX8_state_81 (n : Nat) (σ : hv_St) (x1 : Int32) (x2 : Int32) (x3 : Int32) (x5 : Int32) : Option (Int64 × hv_St) := kX8_state_82 n σ (x1) (x2) (x3) (x5) ((1 : Int32))
def kX8_state_77 (n : Nat) (σ : hv_St) (x1 : Int32) (x2 : Int32) (x3 : Int32) (x5 : Int32) : Option (Int64 × hv_St) := kX8_state_82 n σ (x1) (x2) (x3) (x5) ((0 : Int32))
def kX8_state_58 (n : Nat) (σ : hv_St) (x1 : Int32) (x2 : Int32) (x3 : Int32) (x4 : Int32) (z0 : Int32) : Option (Int64 × hv_St) := if x4 = 0 then (kX8_state_81 n σ (x1) (x2) (x3) (z0)) else (if x1 = (-1 : Int32) then (kX8_state_77 n σ (x1) (x2) (x3) (z0)) else (if z0 = (-1 : Int32) then (kX8_state_81 n σ (x1) (x2) (x3) (z0)) else (kX8_state_77 n σ (x1) (x2) (x3) (z0))))
def kX8_state_57 (n : Nat) (σ : hv_St) (x1 : Int32) (x2 : Int32) (x3 : Int32) (x4 : Int32) : Option (Int64 × hv_St) := kX8_state_58 n σ (x1) (x2) (x3) (x4) ((-1 : Int32))
def kX8_state_38 (n : Nat) (σ : hv_St) (x1 : Int32) (x2 : Int32) (x3 : Int32) (z0 : Int32) : Option (Int64 × hv_St) := if z0 = 0 then (kX8_state_57 n σ (x1) (x2) (x3) (z0)) else (if x1 < 0 then (kX8_state_57 n σ (x1) (x2) (x3) (z0)) else (hv_b2 (mX8_spareAt n σ (x1)) fun r51 s51 => kX8_state_58 n s51 (x1) (x2) (x3) (z0) (r51)))
def kX8_state_37 (n : Nat) (σ : hv_St) (x1 : Int32) (x2 : Int32) (x3 : Int32) : Option (Int64 × hv_St) := kX8_state_38 n σ (x1) (x2) (x3) ((0 : Int32))
def mX8_state (n : Nat) (σ : hv_St) (p0 : Int32) (p1 : Int32) (p2 : Int32) : Option (Int64 × hv_St) := hv_b2 (mX8_isBar n σ (p1)) fun r2 s2 => if r2 = 0 then (kX8_state_37 n s2 (p0) (p1) (p2)) else (hv_b2 (mX8_isOn n s2 (s2.1 0 11) (p1)) fun r13 s13 => if r13 = 0 then (kX8_state_37 n s13 (p0) (p1) (p2)) else (hv_b2 (mX8_kindOf n s13 (s13.1 0 11)) fun r24 s24 => hv_b2 (mX8_isFirm n s24 (r24)) fun r27 s27 => if r27 = 0 then (kX8_state_37 n s27 (p0) (p1) (p2)) else (kX8_state_38 n s27 (p0) (p1) (p2) ((1 : Int32)))))
def kX8_flex_175 (n : Nat) (r126 : hv_St → Int32 → Int32 → Int64 → Int32 → Option (Int64 × hv_St)) (σ : hv_St) (x2 : Int32) (x3 : Int32) (x9 : Int32) (z0 : Int64) (z1 : Int64) (z2 : Int64) : Option (Int64 × hv_St) := hv_let ((z2) + ((z1) * (z0))) fun y7_177 => r126 σ (x2) (x3) (y7_177) (x9 + 1)
def kX8_flex_126_b (n : Nat) (r126 : hv_St → Int32 → Int32 → Int64 → Int32 → Option (Int64 × hv_St)) (σ : hv_St) (x2 : Int32) (x3 : Int32) (x7 : Int64) (x9 : Int32) : Option (Int64 × hv_St) := if σ.1 0 6 ≤ x9 then (hv_b2 (mX8_told n σ (x7) ((σ.2 0 29) * (σ.2 0 29)) (x3)) fun r197 s197 => some (r197, s197)) else (hv_if (hv_ok (x9) 11) (hv_if (hv_ok (x9) 11) (if x2 = (-1 : Int32) then (hv_if (hv_ok (x9) 11) (kX8_flex_175 n r126 σ (x2) (x3) (x9) (σ.2 17 (x9).toNatClampNeg) (((σ.1 7 (x9).toNatClampNeg).toInt64) * (σ.2 18 (x9).toNatClampNeg)) (x7))) else (hv_if (hv_ok (x9) 11) (kX8_flex_175 n r126 σ (x2) (x3) (x9) (σ.2 19 (x9).toNatClampNeg) (((σ.1 7 (x9).toNatClampNeg).toInt64) * (σ.2 18 (x9).toNatClampNeg)) (x7))))))
def kX8_flex_126 (n : Nat) : Nat → hv_St → Int32 → Int32 → Int64 → Int32 → Option (Int64 × hv_St)
  | 0 => fun _ _ _ _ _ => none
  | i + 1 => kX8_flex_126_b n (kX8_flex_126 n i)
def kX8_flex_120 (n : Nat) (σ : hv_St) (x2 : Int32) (x3 : Int32) : Option (Int64 × hv_St) := kX8_flex_126 n n σ (x2) (x3) ((0 : Int64)) ((0 : Int32))
def kX8_flex_76 (n : Nat) (σ : hv_St) (x2 : Int32) (x3 : Int32) (x5 : Int32) (x6 : Int32) (z0 : Int32) : Option (Int64 × hv_St) := hv_let (hv_sI σ 0 0 (z0)) fun s76 => if s76.1 0 0 ≤ 0 then (hv_bd (mX8_laysUnit n s76 (x5) (18)) fun s95 => if x2 = (-1 : Int32) then (hv_bd (mX8_laysBare n s95 ) fun s104 => kX8_flex_120 n s104 (x2) (x3)) else (hv_bd (mX8_laysUnit n s95 (x6) (19)) fun s117 => kX8_flex_120 n s117 (x2) (x3))) else (some ((0 : Int64), s76))
def kX8_flex_75 (n : Nat) (σ : hv_St) (x2 : Int32) (x3 : Int32) (x5 : Int32) (x6 : Int32) : Option (Int64 × hv_St) := kX8_flex_76 n σ (x2) (x3) (x5) (x6) ((1 : Int32))
def kX8_flex_71 (n : Nat) (σ : hv_St) (x2 : Int32) (x3 : Int32) (x5 : Int32) (x6 : Int32) : Option (Int64 × hv_St) := kX8_flex_76 n σ (x2) (x3) (x5) (x6) ((0 : Int32))
def kX8_flex_51 (n : Nat) (σ : hv_St) (x2 : Int32) (x3 : Int32) (x5 : Int32) (z0 : Int32) : Option (Int64 × hv_St) := if x5 = (-1 : Int32) then (kX8_flex_75 n σ (x2) (x3) (x5) (z0)) else (if x2 = (-1 : Int32) then (kX8_flex_71 n σ (x2) (x3) (x5) (z0)) else (if z0 = (-1 : Int32) then (kX8_flex_75 n σ (x2) (x3) (x5) (z0)) else (kX8_flex_71 n σ (x2) (x3) (x5) (z0))))
def kX8_flex_50 (n : Nat) (σ : hv_St) (x2 : Int32) (x3 : Int32) (x5 : Int32) : Option (Int64 × hv_St) := kX8_flex_51 n σ (x2) (x3) (x5) ((-1 : Int32))
def kX8_flex_31 (n : Nat) (σ : hv_St) (x2 : Int32) (x3 : Int32) (x4 : Int32) (z0 : Int32) : Option (Int64 × hv_St) := if x4 = 0 then (kX8_flex_50 n σ (x2) (x3) (z0)) else (if x2 < 0 then (kX8_flex_50 n σ (x2) (x3) (z0)) else (hv_b2 (mX8_spareAt n σ (x2)) fun r44 s44 => kX8_flex_51 n s44 (x2) (x3) (z0) (r44)))
def kX8_flex_30 (n : Nat) (σ : hv_St) (x2 : Int32) (x3 : Int32) (x4 : Int32) : Option (Int64 × hv_St) := kX8_flex_31 n σ (x2) (x3) (x4) ((-1 : Int32))
def mX8_flex (n : Nat) (σ : hv_St) (p0 : Int32) (p1 : Int32) (p2 : Int32) : Option (Int64 × hv_St) := hv_b2 (mX8_kindOf n σ (σ.1 0 11)) fun r5 s5 => hv_b2 (mX8_isFirm n s5 (r5)) fun r8 s8 => if r8 = 0 then (kX8_flex_30 n s8 (p1) (p2) (r8)) else (if p0 < 0 then (kX8_flex_30 n s8 (p1) (p2) (r8)) else (hv_b2 (mX8_spareAt n s8 (p0)) fun r24 s24 => kX8_flex_31 n s24 (p1) (p2) (r8) (r24)))
def kX8_force_85_b (n : Nat) (r85 : hv_St → Int32 → Int32 → Int32 → Int64 → Int32 → Option (Int64 × hv_St)) (σ : hv_St) (x1 : Int32) (x2 : Int32) (x3 : Int32) (x4 : Int64) (x6 : Int32) : Option (Int64 × hv_St) := if σ.1 0 6 ≤ x6 then (hv_b2 (mX8_told n σ (-(x4)) (σ.2 0 24) (x3)) fun r130 s130 => some (r130, s130)) else (hv_if (hv_ok (x6) 11) (hv_b2 (mX8_brings n σ (x6) (x1) (x2)) fun r108 s108 => hv_let ((x4) + ((σ.2 15 (x6).toNatClampNeg) * ((r108).toInt64))) fun y4_114 => r85 s108 (x1) (x2) (x3) (y4_114) (x6 + 1)))
def kX8_force_85 (n : Nat) : Nat → hv_St → Int32 → Int32 → Int32 → Int64 → Int32 → Option (Int64 × hv_St)
  | 0 => fun _ _ _ _ _ _ => none
  | i + 1 => kX8_force_85_b n (kX8_force_85 n i)
def kX8_force_52 (n : Nat) (σ : hv_St) (x1 : Int32) (x2 : Int32) (x3 : Int32) (z0 : Int32) : Option (Int64 × hv_St) := hv_let (hv_sI σ 0 0 (z0)) fun s52 => if s52.1 0 0 ≤ 0 then (hv_if (hv_ok ((((2 : Int32)) * (x1)) + (x2)) 12) (hv_let (((s52.1 4 ((((2 : Int32)) * (x1)) + (x2)).toNatClampNeg).toInt64) * (s52.2 0 24)) fun y4_80 => kX8_force_85 n n s52 (x1) (x2) (x3) (y4_80) ((0 : Int32)))) else (some ((0 : Int64), s52))
def kX8_force_51 (n : Nat) (σ : hv_St) (x1 : Int32) (x2 : Int32) (x3 : Int32) : Option (Int64 × hv_St) := kX8_force_52 n σ (x1) (x2) (x3) ((1 : Int32))
def mX8_force (n : Nat) (σ : hv_St) (p0 : Int32) (p1 : Int32) (p2 : Int32) : Option (Int64 × hv_St) := hv_bd (mX8_takesLoads n σ ) fun s1 => hv_b2 (mX8_isPin n s1 (p0)) fun r7 s7 => if r7 = 0 then (kX8_force_51 n s7 (p0) (p1) (p2)) else (hv_b2 (mX8_in n s7 ((p1).toInt64) ((0 : Int64)) ((1 : Int64))) fun r17 s17 => if r17 = 0 then (kX8_force_51 n s17 (p0) (p1) (p2)) else (hv_if (hv_ok (p0) 6) (hv_b2 (mX8_isOn n s17 (s17.1 3 (p0).toNatClampNeg) (p1)) fun r30 s30 => if r30 = 0 then (kX8_force_51 n s30 (p0) (p1) (p2)) else (hv_b2 (mX8_bears n s30 (s30.1 0 11)) fun r41 s41 => if r41 = 0 then (kX8_force_51 n s41 (p0) (p1) (p2)) else (kX8_force_52 n s41 (p0) (p1) (p2) ((0 : Int32)))))))
def kX8_influence_86 (n : Nat) (σ : hv_St) (x1 : Int32) (x4 : Int32) (z0 : Int32) : Option (Int64 × hv_St) := hv_let (hv_sI σ 0 0 (z0)) fun s86 => if s86.1 0 0 ≤ 0 then (hv_if (hv_ok (x1) 11) (hv_b2 (mX8_told n s86 (s86.2 15 (x1).toNatClampNeg) (s86.2 0 24) (x4)) fun r112 s112 => some (r112, s112))) else (some ((0 : Int64), s86))
def kX8_influence_85 (n : Nat) (σ : hv_St) (x1 : Int32) (x4 : Int32) : Option (Int64 × hv_St) := kX8_influence_86 n σ (x1) (x4) ((1 : Int32))
def kX8_influence_64 (n : Nat) (σ : hv_St) (x1 : Int32) (x4 : Int32) (x5 : Int32) : Option (Int64 × hv_St) := if x5 = 0 then (kX8_influence_85 n σ (x1) (x4)) else (hv_b2 (mX8_bears n σ (σ.1 0 11)) fun r75 s75 => if r75 = 0 then (kX8_influence_85 n s75 (x1) (x4)) else (kX8_influence_86 n s75 (x1) (x4) ((0 : Int32))))
def kX8_influence_46 (n : Nat) (σ : hv_St) (x1 : Int32) (x2 : Int32) (x3 : Int32) (x4 : Int32) (z0 : Int32) : Option (Int64 × hv_St) := if z0 = 0 then (kX8_influence_64 n σ (x1) (x4) (z0)) else (hv_if (hv_ok ((((2 : Int32)) * (x2)) + (x3)) 12) (hv_let (hv_sI σ (16) ((((2 : Int32)) * (x2)) + (x3)).toNatClampNeg ((1 : Int32))) fun s63 => kX8_influence_64 n s63 (x1) (x4) (z0)))
def kX8_influence_45 (n : Nat) (σ : hv_St) (x1 : Int32) (x2 : Int32) (x3 : Int32) (x4 : Int32) : Option (Int64 × hv_St) := kX8_influence_46 n σ (x1) (x2) (x3) (x4) ((0 : Int32))
def mX8_influence (n : Nat) (σ : hv_St) (p0 : Int32) (p1 : Int32) (p2 : Int32) (p3 : Int32) : Option (Int64 × hv_St) := hv_bd (mX8_takesNone n σ ) fun s1 => hv_b2 (mX8_isBar n s1 (p0)) fun r6 s6 => if r6 = 0 then (kX8_influence_45 n s6 (p0) (p1) (p2) (p3)) else (hv_b2 (mX8_isOn n s6 (s6.1 0 11) (p0)) fun r17 s17 => if r17 = 0 then (kX8_influence_45 n s17 (p0) (p1) (p2) (p3)) else (hv_b2 (mX8_isPin n s17 (p1)) fun r25 s25 => if r25 = 0 then (kX8_influence_45 n s25 (p0) (p1) (p2) (p3)) else (hv_b2 (mX8_in n s25 ((p2).toInt64) ((0 : Int64)) ((1 : Int64))) fun r35 s35 => if r35 = 0 then (kX8_influence_45 n s35 (p0) (p1) (p2) (p3)) else (kX8_influence_46 n s35 (p0) (p1) (p2) (p3) ((1 : Int32))))))
def mX8_endIn (n : Nat) (σ : hv_St) (p0 : Int32) (p1 : Int32) : Option (Int32 × hv_St) := hv_if (hv_ok (p0) 11) (hv_b2 (mX8_isOn n σ (p1) (σ.1 5 (p0).toNatClampNeg)) fun r7 s7 => hv_if (hv_ok (p0) 11) (hv_b2 (mX8_isOn n s7 (p1) (s7.1 6 (p0).toNatClampNeg)) fun r18 s18 => if r7 = r18 then (some ((-1 : Int32), s18)) else (if r7 = 0 then (hv_if (hv_ok (p0) 11) (some (s18.1 6 (p0).toNatClampNeg, s18))) else (hv_if (hv_ok (p0) 11) (some (s18.1 5 (p0).toNatClampNeg, s18))))))
def kX8_cuts_105 (n : Nat) (r78 : hv_St → Int32 → Int32 → Int32 → Option (Int32 × hv_St)) (σ : hv_St) (x1 : Int32) (x2 : Int32) (x3 : Int32) : Option (Int32 × hv_St) := r78 σ (x1) (x2) (x3 + 1)
def kX8_cuts_78_b (n : Nat) (r78 : hv_St → Int32 → Int32 → Int32 → Option (Int32 × hv_St)) (σ : hv_St) (x1 : Int32) (x2 : Int32) (x3 : Int32) : Option (Int32 × hv_St) := if σ.1 0 1 ≤ x3 then (if x2 = (3 : Int32) then (some ((1 : Int32), σ)) else (some ((0 : Int32), σ))) else (hv_b2 (mX8_isOn n σ (x1) (x3)) fun r88 s88 => if r88 = 0 then (kX8_cuts_105 n r78 s88 (x1) (x2) (x3)) else (hv_if (hv_ok (x3) 6) (if s88.1 3 (x3).toNatClampNeg = 0 then (kX8_cuts_105 n r78 s88 (x1) (x2) (x3)) else (some ((0 : Int32), s88)))))
def kX8_cuts_78 (n : Nat) : Nat → hv_St → Int32 → Int32 → Int32 → Option (Int32 × hv_St)
  | 0 => fun _ _ _ _ => none
  | i + 1 => kX8_cuts_78_b n (kX8_cuts_78 n i)
def kX8_cuts_70 (n : Nat) (r24 : hv_St → Int32 → Int32 → Int32 → Option (Int32 × hv_St)) (σ : hv_St) (x1 : Int32) (x2 : Int32) (x3 : Int32) : Option (Int32 × hv_St) := r24 σ (x1) (x2) (x3 + 1)
def kX8_cuts_24_b (n : Nat) (r24 : hv_St → Int32 → Int32 → Int32 → Option (Int32 × hv_St)) (σ : hv_St) (x1 : Int32) (x2 : Int32) (x3 : Int32) : Option (Int32 × hv_St) := if σ.1 0 6 ≤ x3 then (kX8_cuts_78 n n σ (x1) (x2) ((0 : Int32))) else (hv_b2 (mX8_isOn n σ (σ.1 0 11) (x3)) fun r37 s37 => if r37 = 0 then (kX8_cuts_70 n r24 s37 (x1) (x2) (x3)) else (hv_b2 (mX8_endIn n s37 (x3) (x1)) fun r46 s46 => if r46 = (-1 : Int32) then (kX8_cuts_70 n r24 s46 (x1) (x2) (x3)) else (if x2 = (3 : Int32) then (some ((0 : Int32), s46)) else (hv_if (hv_ok (x2) 3) (hv_let (hv_sI s46 (20) (x2).toNatClampNeg (x3)) fun s66 => kX8_cuts_70 n r24 s66 (x1) (x2 + 1) (x3))))))
def kX8_cuts_24 (n : Nat) : Nat → hv_St → Int32 → Int32 → Int32 → Option (Int32 × hv_St)
  | 0 => fun _ _ _ _ => none
  | i + 1 => kX8_cuts_24_b n (kX8_cuts_24 n i)
def mX8_cuts (n : Nat) (σ : hv_St) (p0 : Int32) : Option (Int32 × hv_St) := hv_b2 (mX8_in n σ ((p0).toInt64) ((1 : Int64)) (((((1 : Int32)) <<< ((σ.1 0 1) &&& 31)) - ((1 : Int32))).toInt64)) fun r12 s12 => if r12 = 0 then (some ((0 : Int32), s12)) else (kX8_cuts_24 n n s12 (p0) ((0 : Int32)) ((0 : Int32)))
def kX8_laysSums_238 (n : Nat) (r138 : hv_St → Int32 → Int32 → Option (hv_St)) (σ : hv_St) (x1 : Int32) (x2 : Int32) : Option (hv_St) := r138 σ (x1) (x2 + 1)
def kX8_laysSums_138_b (n : Nat) (r138 : hv_St → Int32 → Int32 → Option (hv_St)) (σ : hv_St) (x1 : Int32) (x2 : Int32) : Option (hv_St) := if σ.1 0 1 ≤ x2 then (some σ) else (hv_b2 (mX8_isOn n σ (x1) (x2)) fun r148 s148 => if r148 = 0 then (kX8_laysSums_238 n r138 s148 (x1) (x2)) else (hv_if (hv_ok ((9 : Int32)) 12) (hv_if (hv_ok (((2 : Int32)) * (x2)) 12) (hv_if (hv_ok ((9 : Int32)) 12) (hv_let (hv_sJ s148 (21) ((9 : Int32)).toNatClampNeg ((s148.2 21 ((9 : Int32)).toNatClampNeg) - ((s148.1 4 (((2 : Int32)) * (x2)).toNatClampNeg).toInt64))) fun s172 => hv_if (hv_ok ((10 : Int32)) 12) (hv_if (hv_ok ((((2 : Int32)) * (x2)) + ((1 : Int32))) 12) (hv_if (hv_ok ((10 : Int32)) 12) (hv_let (hv_sJ s172 (21) ((10 : Int32)).toNatClampNeg ((s172.2 21 ((10 : Int32)).toNatClampNeg) - ((s172.1 4 ((((2 : Int32)) * (x2)) + ((1 : Int32))).toNatClampNeg).toInt64))) fun s193 => hv_if (hv_ok ((11 : Int32)) 12) (hv_if (hv_ok (x2) 6) (hv_if (hv_ok ((((2 : Int32)) * (x2)) + ((1 : Int32))) 12) (hv_if (hv_ok (x2) 6) (hv_if (hv_ok (((2 : Int32)) * (x2)) 12) (hv_if (hv_ok ((11 : Int32)) 12) (hv_let (hv_sJ s193 (21) ((11 : Int32)).toNatClampNeg ((s193.2 21 ((11 : Int32)).toNatClampNeg) - ((((s193.1 1 (x2).toNatClampNeg) * (s193.1 4 ((((2 : Int32)) * (x2)) + ((1 : Int32))).toNatClampNeg)) - ((s193.1 2 (x2).toNatClampNeg) * (s193.1 4 (((2 : Int32)) * (x2)).toNatClampNeg))).toInt64))) fun s237 => kX8_laysSums_238 n r138 s237 (x1) (x2)))))))))))))))
def kX8_laysSums_138 (n : Nat) : Nat → hv_St → Int32 → Int32 → Option (hv_St)
  | 0 => fun _ _ _ => none
  | i + 1 => kX8_laysSums_138_b n (kX8_laysSums_138 n i)
def kX8_laysSums_117_b (n : Nat) (r117 : hv_St → Int32 → Int32 → Option (hv_St)) (σ : hv_St) (x1 : Int32) (x2 : Int32) : Option (hv_St) := if (12 : Int32) ≤ x2 then (kX8_laysSums_138 n n σ (x1) ((0 : Int32))) else (hv_if (hv_ok (x2) 12) (hv_let (hv_sJ σ (21) (x2).toNatClampNeg ((0 : Int64))) fun s129 => r117 s129 (x1) (x2 + 1)))
def kX8_laysSums_117 (n : Nat) : Nat → hv_St → Int32 → Int32 → Option (hv_St)
  | 0 => fun _ _ _ => none
  | i + 1 => kX8_laysSums_117_b n (kX8_laysSums_117 n i)
def kX8_laysSums_2_b (n : Nat) (r2 : hv_St → Int32 → Int32 → Option (hv_St)) (σ : hv_St) (x1 : Int32) (x2 : Int32) : Option (hv_St) := if (3 : Int32) ≤ x2 then (kX8_laysSums_117 n n σ (x1) ((9 : Int32))) else (hv_if (hv_ok (x2) 3) (hv_b2 (mX8_endIn n σ (σ.1 20 (x2).toNatClampNeg) (x1)) fun r15 s15 => hv_if (hv_ok (x2) 3) (hv_b2 (mX8_brings n s15 (s15.1 20 (x2).toNatClampNeg) (r15) ((0 : Int32))) fun r35 s35 => hv_if (hv_ok (((3 : Int32)) * (x2)) 12) (hv_let (hv_sJ s35 (21) (((3 : Int32)) * (x2)).toNatClampNeg ((r35).toInt64)) fun s39 => hv_if (hv_ok (x2) 3) (hv_b2 (mX8_brings n s39 (s39.1 20 (x2).toNatClampNeg) (r15) ((1 : Int32))) fun r58 s58 => hv_if (hv_ok ((((3 : Int32)) * (x2)) + ((1 : Int32))) 12) (hv_let (hv_sJ s58 (21) ((((3 : Int32)) * (x2)) + ((1 : Int32))).toNatClampNeg ((r58).toInt64)) fun s62 => hv_if (hv_ok (r15) 6) (hv_if (hv_ok ((((3 : Int32)) * (x2)) + ((1 : Int32))) 12) (hv_if (hv_ok (r15) 6) (hv_if (hv_ok (((3 : Int32)) * (x2)) 12) (hv_if (hv_ok ((((3 : Int32)) * (x2)) + ((2 : Int32))) 12) (hv_let (hv_sJ s62 (21) ((((3 : Int32)) * (x2)) + ((2 : Int32))).toNatClampNeg ((((s62.1 1 (r15).toNatClampNeg).toInt64) * (s62.2 21 ((((3 : Int32)) * (x2)) + ((1 : Int32))).toNatClampNeg)) - (((s62.1 2 (r15).toNatClampNeg).toInt64) * (s62.2 21 (((3 : Int32)) * (x2)).toNatClampNeg)))) fun s107 => r2 s107 (x1) (x2 + 1))))))))))))
def kX8_laysSums_2 (n : Nat) : Nat → hv_St → Int32 → Int32 → Option (hv_St)
  | 0 => fun _ _ _ => none
  | i + 1 => kX8_laysSums_2_b n (kX8_laysSums_2 n i)
def mX8_laysSums (n : Nat) (σ : hv_St) (p0 : Int32) : Option (hv_St) := kX8_laysSums_2 n n σ (p0) ((0 : Int32))
def kX8_cutBy_21_b (n : Nat) (r2 : hv_St → Int32 → Int32 → Option (Int64 × hv_St)) (r21 : hv_St → Int32 → Int32 → Int32 → Int32 → Option (Int64 × hv_St)) (σ : hv_St) (x1 : Int32) (x2 : Int32) (x3 : Int32) (x4 : Int32) : Option (Int64 × hv_St) := if (3 : Int32) ≤ x4 then (r2 σ (x1) (x2 + 1)) else (hv_if (hv_ok ((((3 : Int32)) * (x3)) + (x4)) 12) (hv_if (hv_ok ((((12 : Int32)) * (x4)) + (x2)) 144) (hv_let (hv_sJ σ (13) ((((12 : Int32)) * (x4)) + (x2)).toNatClampNeg (σ.2 21 ((((3 : Int32)) * (x3)) + (x4)).toNatClampNeg)) fun s49 => r21 s49 (x1) (x2) (x3) (x4 + 1))))
def kX8_cutBy_21 (n : Nat) (r2 : hv_St → Int32 → Int32 → Option (Int64 × hv_St)) : Nat → hv_St → Int32 → Int32 → Int32 → Int32 → Option (Int64 × hv_St)
  | 0 => fun _ _ _ _ _ => none
  | i + 1 => kX8_cutBy_21_b n r2 (kX8_cutBy_21 n r2 i)
def kX8_cutBy_17 (n : Nat) (r2 : hv_St → Int32 → Int32 → Option (Int64 × hv_St)) (σ : hv_St) (x1 : Int32) (x2 : Int32) (z0 : Int32) : Option (Int64 × hv_St) := kX8_cutBy_21 n r2 n σ (x1) (x2) (z0) ((0 : Int32))
def kX8_cutBy_2_b (n : Nat) (r2 : hv_St → Int32 → Int32 → Option (Int64 × hv_St)) (σ : hv_St) (x1 : Int32) (x2 : Int32) : Option (Int64 × hv_St) := if (3 : Int32) ≤ x2 then (hv_b2 (mX8_determinant n σ ((3 : Int32))) fun r64 s64 => some (r64, s64)) else (if x2 = x1 then (kX8_cutBy_17 n r2 σ (x1) (x2) ((3 : Int32))) else (kX8_cutBy_17 n r2 σ (x1) (x2) (x2)))
def kX8_cutBy_2 (n : Nat) : Nat → hv_St → Int32 → Int32 → Option (Int64 × hv_St)
  | 0 => fun _ _ _ => none
  | i + 1 => kX8_cutBy_2_b n (kX8_cutBy_2 n i)
def mX8_cutBy (n : Nat) (σ : hv_St) (p0 : Int32) : Option (Int64 × hv_St) := kX8_cutBy_2 n n σ (p0) ((0 : Int32))
def kX8_cut_30_b (n : Nat) (r30 : hv_St → Int32 → Int32 → Int64 → Int32 → Option (Int64 × hv_St)) (σ : hv_St) (x2 : Int32) (x3 : Int32) (x4 : Int64) (x6 : Int32) : Option (Int64 × hv_St) := if (3 : Int32) ≤ x6 then (some ((0 : Int64), σ)) else (if lg_cmp (x4) ((0 : Int64)) = 0 then (some ((0 : Int64), σ)) else (hv_if (hv_ok (x6) 3) (if σ.1 20 (x6).toNatClampNeg = x2 then (hv_let (hv_sI σ 0 0 ((0 : Int32))) fun s56 => hv_b2 (mX8_cutBy n s56 (x6)) fun r62 s62 => hv_b2 (mX8_told n s62 (r62) (x4) (x3)) fun r68 s68 => some (r68, s68)) else (r30 σ (x2) (x3) (x4) (x6 + 1)))))
def kX8_cut_30 (n : Nat) : Nat → hv_St → Int32 → Int32 → Int64 → Int32 → Option (Int64 × hv_St)
  | 0 => fun _ _ _ _ _ => none
  | i + 1 => kX8_cut_30_b n (kX8_cut_30 n i)
def mX8_cut (n : Nat) (σ : hv_St) (p0 : Int32) (p1 : Int32) (p2 : Int32) : Option (Int64 × hv_St) := hv_let (hv_sI σ 0 0 ((1 : Int32))) fun s2 => hv_b2 (mX8_cuts n s2 (p0)) fun r7 s7 => if r7 = 0 then (some ((0 : Int64), s7)) else (hv_bd (mX8_laysSums n s7 (p0)) fun s17 => hv_b2 (mX8_cutBy n s17 ((-1 : Int32))) fun r22 s22 => kX8_cut_30 n n s22 (p1) (p2) (r22) ((0 : Int32)))
def kX8_toldAt_194_b (n : Nat) (r194 : hv_St → Int32 → Int32 → Int32 → Int32 → Option (Int32 × hv_St)) (σ : hv_St) (x1 : Int32) (x2 : Int32) (x3 : Int32) (x4 : Int32) : Option (Int32 × hv_St) := hv_b2 (mX8_isOn n σ (x2) (x4)) fun r197 s197 => if r197 = 0 then (r194 s197 (x1) (x2) (x3) (x4 + 1)) else (hv_b2 (mX8_brings n s197 (x3) (x1) ((0 : Int32))) fun r213 s213 => hv_b2 (mX8_brings n s213 (x4) (x1) ((1 : Int32))) fun r221 s221 => hv_b2 (mX8_brings n s221 (x3) (x1) ((1 : Int32))) fun r229 s229 => hv_b2 (mX8_brings n s229 (x4) (x1) ((0 : Int32))) fun r237 s237 => if (r213) * (r221) = (r229) * (r237) then (some ((0 : Int32), s237)) else (some (x2, s237)))
def kX8_toldAt_194 (n : Nat) : Nat → hv_St → Int32 → Int32 → Int32 → Int32 → Option (Int32 × hv_St)
  | 0 => fun _ _ _ _ _ => none
  | i + 1 => kX8_toldAt_194_b n (kX8_toldAt_194 n i)
def kX8_toldAt_175_b (n : Nat) (r175 : hv_St → Int32 → Int32 → Int32 → Option (Int32 × hv_St)) (σ : hv_St) (x1 : Int32) (x2 : Int32) (x3 : Int32) : Option (Int32 × hv_St) := hv_b2 (mX8_isOn n σ (x2) (x3)) fun r177 s177 => if r177 = 0 then (r175 s177 (x1) (x2) (x3 + 1)) else (hv_let ((x3) + ((1 : Int32))) fun y4_192 => kX8_toldAt_194 n n s177 (x1) (x2) (x3) (y4_192))
def kX8_toldAt_175 (n : Nat) : Nat → hv_St → Int32 → Int32 → Int32 → Option (Int32 × hv_St)
  | 0 => fun _ _ _ _ => none
  | i + 1 => kX8_toldAt_175_b n (kX8_toldAt_175 n i)
def kX8_toldAt_141 (n : Nat) (σ : hv_St) (x2 : Int32) (z0 : Int32) : Option (Int32 × hv_St) := if z0 = 0 then (some ((0 : Int32), σ)) else (some (x2, σ))
def kX8_toldAt_136 (n : Nat) (σ : hv_St) (x2 : Int32) : Option (Int32 × hv_St) := kX8_toldAt_141 n σ (x2) ((1 : Int32))
def kX8_toldAt_140 (n : Nat) (σ : hv_St) (x2 : Int32) : Option (Int32 × hv_St) := kX8_toldAt_141 n σ (x2) ((0 : Int32))
def kX8_toldAt_113 (n : Nat) (σ : hv_St) (x1 : Int32) (x2 : Int32) (x3 : Int32) : Option (Int32 × hv_St) := hv_if (hv_ok (x1) 6) (hv_b2 (mX8_isOn n σ (σ.1 3 (x1).toNatClampNeg) ((1 : Int32))) fun r120 s120 => if r120 = 0 then (hv_b2 (mX8_brings n s120 (x3) (x1) ((1 : Int32))) fun r130 s130 => if r130 = 0 then (kX8_toldAt_140 n s130 (x2)) else (kX8_toldAt_136 n s130 (x2))) else (kX8_toldAt_140 n s120 (x2)))
def kX8_toldAt_76_b (n : Nat) (r76 : hv_St → Int32 → Int32 → Int32 → Option (Int32 × hv_St)) (σ : hv_St) (x1 : Int32) (x2 : Int32) (x3 : Int32) : Option (Int32 × hv_St) := hv_b2 (mX8_isOn n σ (x2) (x3)) fun r78 s78 => if r78 = 0 then (r76 s78 (x1) (x2) (x3 + 1)) else (hv_if (hv_ok (x1) 6) (hv_b2 (mX8_isOn n s78 (s78.1 3 (x1).toNatClampNeg) ((0 : Int32))) fun r97 s97 => if r97 = 0 then (hv_b2 (mX8_brings n s97 (x3) (x1) ((0 : Int32))) fun r107 s107 => if r107 = 0 then (kX8_toldAt_113 n s107 (x1) (x2) (x3)) else (kX8_toldAt_136 n s107 (x2))) else (kX8_toldAt_113 n s97 (x1) (x2) (x3))))
def kX8_toldAt_76 (n : Nat) : Nat → hv_St → Int32 → Int32 → Int32 → Option (Int32 × hv_St)
  | 0 => fun _ _ _ _ => none
  | i + 1 => kX8_toldAt_76_b n (kX8_toldAt_76 n i)
def kX8_toldAt_58 (n : Nat) (r4 : hv_St → Int32 → Int32 → Int32 → Option (Int32 × hv_St)) (σ : hv_St) (x1 : Int32) (x3 : Int32) (z0 : Int32) (z1 : Int32) : Option (Int32 × hv_St) := hv_let ((z1) ||| (z0)) fun y2_59 => r4 σ (x1) (y2_59) (x3 + 1)
def kX8_toldAt_57 (n : Nat) (r4 : hv_St → Int32 → Int32 → Int32 → Option (Int32 × hv_St)) (σ : hv_St) (x1 : Int32) (x3 : Int32) (z0 : Int32) : Option (Int32 × hv_St) := kX8_toldAt_58 n r4 σ (x1) (x3) ((0 : Int32)) (z0)
def kX8_toldAt_51 (n : Nat) (r4 : hv_St → Int32 → Int32 → Int32 → Option (Int32 × hv_St)) (σ : hv_St) (x1 : Int32) (x3 : Int32) (z0 : Int32) : Option (Int32 × hv_St) := kX8_toldAt_58 n r4 σ (x1) (x3) (((1 : Int32)) <<< ((x3) &&& 31)) (z0)
def kX8_toldAt_4_b (n : Nat) (r4 : hv_St → Int32 → Int32 → Int32 → Option (Int32 × hv_St)) (σ : hv_St) (x1 : Int32) (x2 : Int32) (x3 : Int32) : Option (Int32 × hv_St) := if σ.1 0 6 ≤ x3 then (hv_b2 (mX8_bits n σ (x2)) fun r67 s67 => if r67 = (1 : Int32) then (kX8_toldAt_76 n n s67 (x1) (x2) ((0 : Int32))) else (hv_b2 (mX8_bits n s67 (x2)) fun r155 s155 => if r155 = (2 : Int32) then (hv_if (hv_ok (x1) 6) (if s155.1 3 (x1).toNatClampNeg = 0 then (kX8_toldAt_175 n n s155 (x1) (x2) ((0 : Int32))) else (some ((0 : Int32), s155)))) else (some ((0 : Int32), s155)))) else (hv_b2 (mX8_isOn n σ ((σ.1 0 11) &&& ((σ.1 0 32) ^^^ ((-1 : Int32)))) (x3)) fun r25 s25 => if r25 = 0 then (kX8_toldAt_57 n r4 s25 (x1) (x3) (x2)) else (hv_if (hv_ok (x3) 11) (if s25.1 5 (x3).toNatClampNeg = x1 then (kX8_toldAt_51 n r4 s25 (x1) (x3) (x2)) else (hv_if (hv_ok (x3) 11) (if s25.1 6 (x3).toNatClampNeg = x1 then (kX8_toldAt_51 n r4 s25 (x1) (x3) (x2)) else (kX8_toldAt_57 n r4 s25 (x1) (x3) (x2)))))))
def kX8_toldAt_4 (n : Nat) : Nat → hv_St → Int32 → Int32 → Int32 → Option (Int32 × hv_St)
  | 0 => fun _ _ _ _ => none
  | i + 1 => kX8_toldAt_4_b n (kX8_toldAt_4 n i)
def mX8_toldAt (n : Nat) (σ : hv_St) (p0 : Int32) : Option (Int32 × hv_St) := kX8_toldAt_4 n n σ (p0) ((0 : Int32)) ((0 : Int32))
def kX8_laysJoints_39 (n : Nat) (r14 : hv_St → Int32 → Int32 → Option (hv_St)) (σ : hv_St) (x1 : Int32) (x2 : Int32) (z0 : Int32) : Option (hv_St) := if z0 = 0 then (r14 σ (x1) (x2 + 1)) else (hv_let (hv_sI σ 0 32 ((σ.1 0 32) ||| (z0))) fun s57 => hv_let ((x1) ||| (((1 : Int32)) <<< ((x2) &&& 31))) fun y1_65 => hv_if (hv_ok (s57.1 0 34) 6) (hv_let (hv_sI s57 (22) (s57.1 0 34).toNatClampNeg (x2)) fun s75 => hv_let (hv_sI s75 0 34 ((s75.1 0 34) + ((1 : Int32)))) fun s83 => r14 s83 (y1_65) ((0 : Int32))))
def kX8_laysJoints_14_b (n : Nat) (r14 : hv_St → Int32 → Int32 → Option (hv_St)) (σ : hv_St) (x1 : Int32) (x2 : Int32) : Option (hv_St) := if σ.1 0 1 ≤ x2 then (some σ) else (hv_b2 (mX8_isOn n σ (x1) (x2)) fun r24 s24 => if r24 = 0 then (hv_b2 (mX8_toldAt n s24 (x2)) fun r36 s36 => kX8_laysJoints_39 n r14 s36 (x1) (x2) (r36)) else (kX8_laysJoints_39 n r14 s24 (x1) (x2) ((0 : Int32))))
def kX8_laysJoints_14 (n : Nat) : Nat → hv_St → Int32 → Int32 → Option (hv_St)
  | 0 => fun _ _ _ => none
  | i + 1 => kX8_laysJoints_14_b n (kX8_laysJoints_14 n i)
def mX8_laysJoints (n : Nat) (σ : hv_St) : Option (hv_St) := hv_let (hv_sI σ 0 32 ((0 : Int32))) fun s2 => hv_let (hv_sI s2 0 34 ((0 : Int32))) fun s7 => kX8_laysJoints_14 n n s7 ((0 : Int32)) ((0 : Int32))
def mX8_joint (n : Nat) (σ : hv_St) (p0 : Int32) : Option (Int32 × hv_St) := hv_let (hv_sI σ 0 0 ((0 : Int32))) fun s2 => hv_bd (mX8_laysJoints n s2 ) fun s6 => hv_b2 (mX8_in n s6 ((p0).toInt64) ((0 : Int64)) (((s6.1 0 34) - ((1 : Int32))).toInt64)) fun r19 s19 => if r19 = 0 then (some ((-1 : Int32), s19)) else (hv_if (hv_ok (p0) 6) (some (s19.1 22 (p0).toNatClampNeg, s19)))
def mX8_count (n : Nat) (σ : hv_St) (p0 : Int32) : Option (Int32 × hv_St) := hv_let (hv_sI σ 0 0 ((0 : Int32))) fun s2 => hv_b2 (mX8_kindOf n s2 (s2.1 0 11)) fun r10 s10 => hv_bd (mX8_laysJoints n s10 ) fun s15 => if p0 = (0 : Int32) then (some (s15.1 0 1, s15)) else (if p0 = (1 : Int32) then (some (s15.1 0 6, s15)) else (if p0 = (2 : Int32) then (some (s15.1 0 11, s15)) else (if p0 = (3 : Int32) then (some (s15.1 0 18, s15)) else (if p0 = (4 : Int32) then (some (r10, s15)) else (if p0 = (5 : Int32) then (some (s15.1 0 20, s15)) else (if p0 = (6 : Int32) then (some (s15.1 0 21, s15)) else (if p0 = (7 : Int32) then (hv_b2 (mX8_bits n s15 (s15.1 0 20)) fun r116 s116 => some ((s15.1 0 18) - (r116), s116)) else (if p0 = (8 : Int32) then (some (s15.1 0 13, s15)) else (if p0 = (9 : Int32) then (some (s15.1 0 15, s15)) else (if p0 = (10 : Int32) then (some (s15.1 0 32, s15)) else (some ((-1 : Int32), s15))))))))))))
def kX8_of_163 (n : Nat) (r111 : hv_St → Int32 → Int32 → Int32 → Option (Int32 × hv_St)) (σ : hv_St) (x1 : Int32) (x4 : Int32) (z0 : Int32) (z1 : Int32) : Option (Int32 × hv_St) := hv_let ((z1) ||| (z0)) fun y3_164 => r111 σ (x1) (y3_164) (x4 + 1)
def kX8_of_162 (n : Nat) (r111 : hv_St → Int32 → Int32 → Int32 → Option (Int32 × hv_St)) (σ : hv_St) (x1 : Int32) (x4 : Int32) (z0 : Int32) : Option (Int32 × hv_St) := kX8_of_163 n r111 σ (x1) (x4) ((0 : Int32)) (z0)
def kX8_of_155 (n : Nat) (r111 : hv_St → Int32 → Int32 → Int32 → Option (Int32 × hv_St)) (σ : hv_St) (x1 : Int32) (x4 : Int32) (z0 : Int32) : Option (Int32 × hv_St) := kX8_of_163 n r111 σ (x1) (x4) (((1 : Int32)) <<< ((x4) &&& 31)) (z0)
def kX8_of_111_b (n : Nat) (r111 : hv_St → Int32 → Int32 → Int32 → Option (Int32 × hv_St)) (σ : hv_St) (x1 : Int32) (x3 : Int32) (x4 : Int32) : Option (Int32 × hv_St) := if σ.1 0 6 ≤ x4 then (some (x3, σ)) else (hv_b2 (mX8_isOn n σ (σ.1 0 11) (x4)) fun r127 s127 => if r127 = 0 then (kX8_of_162 n r111 s127 (x1) (x4) (x3)) else (hv_if (hv_ok (x4) 11) (if s127.1 5 (x4).toNatClampNeg = x1 then (kX8_of_155 n r111 s127 (x1) (x4) (x3)) else (hv_if (hv_ok (x4) 11) (if s127.1 6 (x4).toNatClampNeg = x1 then (kX8_of_155 n r111 s127 (x1) (x4) (x3)) else (kX8_of_162 n r111 s127 (x1) (x4) (x3)))))))
def kX8_of_111 (n : Nat) : Nat → hv_St → Int32 → Int32 → Int32 → Option (Int32 × hv_St)
  | 0 => fun _ _ _ _ => none
  | i + 1 => kX8_of_111_b n (kX8_of_111 n i)
def kX8_of_86 (n : Nat) (σ : hv_St) (x1 : Int32) (x2 : Int32) : Option (Int32 × hv_St) := hv_if (hv_ok (((((2 : Int32)) * (x1)) + (x2)) - ((2 : Int32))) 12) (some (σ.1 4 (((((2 : Int32)) * (x1)) + (x2)) - ((2 : Int32))).toNatClampNeg, σ))
def kX8_of_26 (n : Nat) (σ : hv_St) (x1 : Int32) (x2 : Int32) (z0 : Int32) : Option (Int32 × hv_St) := hv_let (hv_sI σ 0 0 (z0)) fun s26 => if s26.1 0 0 ≤ 0 then (if x2 = (0 : Int32) then (hv_if (hv_ok (x1) 6) (some (s26.1 1 (x1).toNatClampNeg, s26))) else (if x2 = (1 : Int32) then (hv_if (hv_ok (x1) 6) (some (s26.1 2 (x1).toNatClampNeg, s26))) else (if x2 = (2 : Int32) then (kX8_of_86 n s26 (x1) (x2)) else (if x2 = (3 : Int32) then (kX8_of_86 n s26 (x1) (x2)) else (if x2 = (4 : Int32) then (hv_if (hv_ok (x1) 6) (some (s26.1 3 (x1).toNatClampNeg, s26))) else (kX8_of_111 n n s26 (x1) ((0 : Int32)) ((0 : Int32)))))))) else (some ((0 : Int32), s26))
def kX8_of_25 (n : Nat) (σ : hv_St) (x1 : Int32) (x2 : Int32) : Option (Int32 × hv_St) := kX8_of_26 n σ (x1) (x2) ((1 : Int32))
def mX8_of (n : Nat) (σ : hv_St) (p0 : Int32) (p1 : Int32) : Option (Int32 × hv_St) := hv_b2 (mX8_isPin n σ (p0)) fun r3 s3 => if r3 = 0 then (kX8_of_25 n s3 (p0) (p1)) else (hv_b2 (mX8_in n s3 ((p1).toInt64) ((0 : Int64)) ((5 : Int64))) fun r15 s15 => if r15 = 0 then (kX8_of_25 n s15 (p0) (p1)) else (kX8_of_26 n s15 (p0) (p1) ((0 : Int32))))
def mX8_spareNumber (n : Nat) (σ : hv_St) (p0 : Int32) : Option (Int32 × hv_St) := hv_bd (mX8_laysBase n σ (σ.1 0 11)) fun s5 => hv_b2 (mX8_isOn n s5 (s5.1 0 21) (p0)) fun r13 s13 => if r13 = 0 then (some ((-1 : Int32), s13)) else (hv_b2 (mX8_bits n s13 ((s13.1 0 21) &&& ((((1 : Int32)) <<< ((p0) &&& 31)) - ((1 : Int32))))) fun r29 s29 => some (r29, s29))
def kX8_at_26 (n : Nat) (σ : hv_St) (x1 : Int32) (x2 : Int32) (z0 : Int32) : Option (Int32 × hv_St) := hv_let (hv_sI σ 0 0 (z0)) fun s26 => if s26.1 0 0 ≤ 0 then (if x2 = (0 : Int32) then (hv_if (hv_ok (x1) 11) (some (s26.1 5 (x1).toNatClampNeg, s26))) else (if x2 = (1 : Int32) then (hv_if (hv_ok (x1) 11) (some (s26.1 6 (x1).toNatClampNeg, s26))) else (if x2 = (2 : Int32) then (hv_if (hv_ok (x1) 11) (some (s26.1 7 (x1).toNatClampNeg, s26))) else (if x2 = (3 : Int32) then (hv_if (hv_ok (x1) 11) (some (s26.1 8 (x1).toNatClampNeg, s26))) else (if x2 = (4 : Int32) then (some (((s26.1 0 11) >>> ((x1) &&& 31)) &&& ((1 : Int32)), s26)) else (hv_b2 (mX8_spareNumber n s26 (x1)) fun r111 s111 => some (r111, s111))))))) else (some ((0 : Int32), s26))
def kX8_at_25 (n : Nat) (σ : hv_St) (x1 : Int32) (x2 : Int32) : Option (Int32 × hv_St) := kX8_at_26 n σ (x1) (x2) ((1 : Int32))
def mX8_at (n : Nat) (σ : hv_St) (p0 : Int32) (p1 : Int32) : Option (Int32 × hv_St) := hv_b2 (mX8_isBar n σ (p0)) fun r3 s3 => if r3 = 0 then (kX8_at_25 n s3 (p0) (p1)) else (hv_b2 (mX8_in n s3 ((p1).toInt64) ((0 : Int64)) ((5 : Int64))) fun r15 s15 => if r15 = 0 then (kX8_at_25 n s15 (p0) (p1)) else (kX8_at_26 n s15 (p0) (p1) ((0 : Int32))))
def kX8_painted_152 (n : Nat) (r40 : hv_St → Int32 → Int32 → Int32 → Option (Int32 × hv_St)) (σ : hv_St) (x1 : Int32) (x3 : Int32) (z0 : Int32) (z1 : Int32) : Option (Int32 × hv_St) := hv_let ((z1) ||| (z0)) fun y2_153 => r40 σ (x1) (y2_153) (x3 + 1)
def kX8_painted_151 (n : Nat) (r40 : hv_St → Int32 → Int32 → Int32 → Option (Int32 × hv_St)) (σ : hv_St) (x1 : Int32) (x3 : Int32) (z0 : Int32) : Option (Int32 × hv_St) := kX8_painted_152 n r40 σ (x1) (x3) ((0 : Int32)) (z0)
def kX8_painted_126 (n : Nat) (r40 : hv_St → Int32 → Int32 → Int32 → Option (Int32 × hv_St)) (σ : hv_St) (x1 : Int32) (x2 : Int32) (x3 : Int32) (z0 : Int32) : Option (Int32 × hv_St) := if z0 = 0 then (kX8_painted_151 n r40 σ (x1) (x3) (x2)) else (hv_b2 (mX8_isOn n σ (σ.1 0 11) (x3)) fun r139 s139 => if r139 = 0 then (kX8_painted_151 n r40 s139 (x1) (x3) (x2)) else (kX8_painted_152 n r40 s139 (x1) (x3) (((1 : Int32)) <<< ((x3) &&& 31)) (x2)))
def kX8_painted_118 (n : Nat) (r40 : hv_St → Int32 → Int32 → Int32 → Option (Int32 × hv_St)) (σ : hv_St) (x1 : Int32) (x2 : Int32) (x3 : Int32) (z0 : Int32) (z1 : Int32) : Option (Int32 × hv_St) := if z1 = z0 then (kX8_painted_126 n r40 σ (x1) (x2) (x3) ((1 : Int32))) else (kX8_painted_126 n r40 σ (x1) (x2) (x3) ((0 : Int32)))
def kX8_painted_40_b (n : Nat) (r40 : hv_St → Int32 → Int32 → Int32 → Option (Int32 × hv_St)) (σ : hv_St) (x1 : Int32) (x2 : Int32) (x3 : Int32) : Option (Int32 × hv_St) := if σ.1 0 6 ≤ x3 then (some (x2, σ)) else (if x1 = (2 : Int32) then (hv_if (hv_ok (x3) 11) (hv_b2 (mX8_abs n σ (σ.2 15 (x3).toNatClampNeg)) fun r59 s59 => hv_if (hv_ok (x3) 11) (if lg_cmp (r59) (((s59.1 8 (x3).toNatClampNeg).toInt64) * (s59.2 0 24)) ≤ 0 then (kX8_painted_126 n r40 s59 (x1) (x2) (x3) ((0 : Int32))) else (kX8_painted_126 n r40 s59 (x1) (x2) (x3) ((1 : Int32)))))) else (hv_if (hv_ok (x3) 11) (if lg_cmp (σ.2 15 (x3).toNatClampNeg) ((0 : Int64)) ≤ 0 then (hv_if (hv_ok (x3) 11) (if 0 ≤ lg_cmp (σ.2 15 (x3).toNatClampNeg) ((0 : Int64)) then (kX8_painted_118 n r40 σ (x1) (x2) (x3) ((0 : Int32)) (x1)) else (kX8_painted_118 n r40 σ (x1) (x2) (x3) ((-1 : Int32)) (x1)))) else (kX8_painted_118 n r40 σ (x1) (x2) (x3) ((1 : Int32)) (x1)))))
def kX8_painted_40 (n : Nat) : Nat → hv_St → Int32 → Int32 → Int32 → Option (Int32 × hv_St)
  | 0 => fun _ _ _ _ => none
  | i + 1 => kX8_painted_40_b n (kX8_painted_40 n i)
def mX8_painted (n : Nat) (σ : hv_St) (p0 : Int32) : Option (Int32 × hv_St) := hv_let (hv_sI σ 0 0 ((0 : Int32))) fun s2 => hv_bd (mX8_takesLoads n s2 ) fun s6 => hv_b2 (mX8_in n s6 ((p0).toInt64) ((-1 : Int64)) ((2 : Int64))) fun r17 s17 => if r17 = 0 then (some ((-1 : Int32), s17)) else (hv_b2 (mX8_bears n s17 (s17.1 0 11)) fun r28 s28 => if r28 = 0 then (some ((-1 : Int32), s28)) else (kX8_painted_40 n n s28 (p0) ((0 : Int32)) ((0 : Int32))))
def kX8_times_90 (n : Nat) (r28 : hv_St → Int32 → Int32 → Option (Int32 × hv_St)) (σ : hv_St) (x1 : Int32) (x2 : Int32) : Option (Int32 × hv_St) := r28 σ (x1) (x2 + 1)
def kX8_times_28_b (n : Nat) (r28 : hv_St → Int32 → Int32 → Option (Int32 × hv_St)) (σ : hv_St) (x1 : Int32) (x2 : Int32) : Option (Int32 × hv_St) := if σ.1 0 6 ≤ x2 then (some (x1, σ)) else (hv_if (hv_ok (x2) 11) (hv_b2 (mX8_abs n σ (σ.2 15 (x2).toNatClampNeg)) fun r42 s42 => hv_if (decide (¬ s42.2 0 24 = 0)) (hv_let ((((r42) + (s42.2 0 24)) - ((1 : Int64))) / (s42.2 0 24)) fun y3_57 => if lg_cmp (y3_57) ((0 : Int64)) ≤ 0 then (kX8_times_90 n r28 s42 (x1) (x2)) else (hv_if (hv_ok (x2) 11) (hv_if (decide (¬ y3_57 = 0)) (if 0 ≤ lg_cmp (((s42.1 8 (x2).toNatClampNeg).toInt64) / (y3_57)) ((x1).toInt64) then (kX8_times_90 n r28 s42 (x1) (x2)) else (hv_if (hv_ok (x2) 11) (hv_if (decide (¬ y3_57 = 0)) (hv_let ((((s42.1 8 (x2).toNatClampNeg).toInt64) / (y3_57)).toInt32) fun y1_89 => kX8_times_90 n r28 s42 (y1_89) (x2))))))))))
def kX8_times_28 (n : Nat) : Nat → hv_St → Int32 → Int32 → Option (Int32 × hv_St)
  | 0 => fun _ _ _ => none
  | i + 1 => kX8_times_28_b n (kX8_times_28 n i)
def mX8_times (n : Nat) (σ : hv_St) : Option (Int32 × hv_St) := hv_let (hv_sI σ 0 0 ((0 : Int32))) fun s2 => hv_bd (mX8_takesLoads n s2 ) fun s6 => hv_b2 (mX8_bears n s6 (s6.1 0 11)) fun r14 s14 => if r14 = 0 then (some ((-1 : Int32), s14)) else (kX8_times_28 n n s14 ((999 : Int32)) ((0 : Int32)))
def kX8_isRide_39 (n : Nat) (σ : hv_St) : Option (Int32 × hv_St) := some ((0 : Int32), σ)
def mX8_isRide (n : Nat) (σ : hv_St) (p0 : Int32) : Option (Int32 × hv_St) := if σ.1 0 13 ≤ 0 then (kX8_isRide_39 n σ) else (if σ.1 0 15 ≤ 0 then (kX8_isRide_39 n σ) else (hv_b2 (mX8_in n σ ((p0).toInt64) ((0 : Int64)) ((((σ.1 0 13) + (σ.1 0 15)) - ((2 : Int32))).toInt64)) fun r29 s29 => if r29 = 0 then (kX8_isRide_39 n s29) else (some ((1 : Int32), s29))))
def kX8_rides_56 (n : Nat) (r6 : hv_St → Int32 → Int32 → Option (hv_St)) (σ : hv_St) (x1 : Int32) (x2 : Int32) : Option (hv_St) := r6 σ (x1) (x2 + 1)
def kX8_rides_6_b (n : Nat) (r6 : hv_St → Int32 → Int32 → Option (hv_St)) (σ : hv_St) (x1 : Int32) (x2 : Int32) : Option (hv_St) := if σ.1 0 15 ≤ x2 then (some σ) else (hv_b2 (mX8_in n σ (((x1) - (x2)).toInt64) ((0 : Int64)) (((σ.1 0 13) - ((1 : Int32))).toInt64)) fun r26 s26 => if r26 = 0 then (kX8_rides_56 n r6 s26 (x1) (x2)) else (hv_if (hv_ok ((x1) - (x2)) 6) (hv_if (hv_ok (x2) 4) (hv_if (hv_ok ((((2 : Int32)) * (s26.1 9 ((x1) - (x2)).toNatClampNeg)) + ((1 : Int32))) 12) (hv_let (hv_sI s26 (16) ((((2 : Int32)) * (s26.1 9 ((x1) - (x2)).toNatClampNeg)) + ((1 : Int32))).toNatClampNeg (-(s26.1 10 (x2).toNatClampNeg))) fun s55 => kX8_rides_56 n r6 s55 (x1) (x2))))))
def kX8_rides_6 (n : Nat) : Nat → hv_St → Int32 → Int32 → Option (hv_St)
  | 0 => fun _ _ _ => none
  | i + 1 => kX8_rides_6_b n (kX8_rides_6 n i)
def mX8_rides (n : Nat) (σ : hv_St) (p0 : Int32) : Option (hv_St) := hv_bd (mX8_takesNone n σ ) fun s1 => kX8_rides_6 n n s1 (p0) ((0 : Int32))
def kX8_riding_56 (n : Nat) (σ : hv_St) (x1 : Int32) (x3 : Int32) (z0 : Int32) : Option (Int64 × hv_St) := hv_let (hv_sI σ 0 0 (z0)) fun s56 => if s56.1 0 0 ≤ 0 then (hv_if (hv_ok (x1) 11) (hv_b2 (mX8_told n s56 (s56.2 15 (x1).toNatClampNeg) (s56.2 0 24) (x3)) fun r81 s81 => some (r81, s81))) else (some ((0 : Int64), s56))
def mX8_riding (n : Nat) (σ : hv_St) (p0 : Int32) (p1 : Int32) (p2 : Int32) : Option (Int64 × hv_St) := hv_let (hv_sI σ 0 0 ((1 : Int32))) fun s2 => hv_b2 (mX8_isBar n s2 (p0)) fun r7 s7 => if r7 = 0 then (some ((0 : Int64), s7)) else (hv_b2 (mX8_isOn n s7 (s7.1 0 11) (p0)) fun r18 s18 => if r18 = 0 then (some ((0 : Int64), s18)) else (hv_b2 (mX8_isRide n s18 (p1)) fun r26 s26 => if r26 = 0 then (some ((0 : Int64), s26)) else (hv_bd (mX8_rides n s26 (p1)) fun s36 => hv_b2 (mX8_bears n s36 (s36.1 0 11)) fun r45 s45 => if r45 = 0 then (kX8_riding_56 n s45 (p0) (p2) ((1 : Int32))) else (kX8_riding_56 n s45 (p0) (p2) ((0 : Int32))))))
def kX8_worst_101 (n : Nat) (r41 : hv_St → Int32 → Int32 → Int64 → Int32 → Option (Int32 × hv_St)) (σ : hv_St) (x1 : Int32) (x2 : Int32) (x3 : Int64) (x5 : Int32) : Option (Int32 × hv_St) := r41 σ (x1) (x2) (x3) (x5 + 1)
def kX8_worst_88 (n : Nat) (r41 : hv_St → Int32 → Int32 → Int64 → Int32 → Option (Int32 × hv_St)) (σ : hv_St) (x1 : Int32) (x5 : Int32) : Option (Int32 × hv_St) := hv_if (hv_ok (x1) 11) (hv_b2 (mX8_abs n σ (σ.2 15 (x1).toNatClampNeg)) fun r97 s97 => kX8_worst_101 n r41 s97 (x1) (x5) (r97) (x5))
def kX8_worst_41_b (n : Nat) (r41 : hv_St → Int32 → Int32 → Int64 → Int32 → Option (Int32 × hv_St)) (σ : hv_St) (x1 : Int32) (x2 : Int32) (x3 : Int64) (x5 : Int32) : Option (Int32 × hv_St) := hv_b2 (mX8_isRide n σ (x5)) fun r44 s44 => if r44 = 0 then (some (x2, s44)) else (hv_bd (mX8_rides n s44 (x5)) fun s53 => hv_b2 (mX8_bears n s53 (s53.1 0 11)) fun r61 s61 => if r61 = 0 then (some ((-1 : Int32), s61)) else (if x2 = (-1 : Int32) then (kX8_worst_88 n r41 s61 (x1) (x5)) else (hv_if (hv_ok (x1) 11) (hv_b2 (mX8_abs n s61 (s61.2 15 (x1).toNatClampNeg)) fun r80 s80 => if lg_cmp (r80) (x3) ≤ 0 then (kX8_worst_101 n r41 s80 (x1) (x2) (x3) (x5)) else (kX8_worst_88 n r41 s80 (x1) (x5))))))
def kX8_worst_41 (n : Nat) : Nat → hv_St → Int32 → Int32 → Int64 → Int32 → Option (Int32 × hv_St)
  | 0 => fun _ _ _ _ _ => none
  | i + 1 => kX8_worst_41_b n (kX8_worst_41 n i)
def mX8_worst (n : Nat) (σ : hv_St) (p0 : Int32) : Option (Int32 × hv_St) := hv_let (hv_sI σ 0 0 ((0 : Int32))) fun s2 => hv_b2 (mX8_isBar n s2 (p0)) fun r7 s7 => if r7 = 0 then (some ((-1 : Int32), s7)) else (hv_b2 (mX8_isOn n s7 (s7.1 0 11) (p0)) fun r18 s18 => if r18 = 0 then (some ((-1 : Int32), s18)) else (hv_b2 (mX8_isRide n s18 ((0 : Int32))) fun r26 s26 => if r26 = 0 then (some ((-1 : Int32), s26)) else (kX8_worst_41 n n s26 (p0) ((-1 : Int32)) ((0 : Int64)) ((0 : Int32)))))
def kX8_without_41 (n : Nat) (σ : hv_St) : Option (Int32 × hv_St) := some ((-1 : Int32), σ)
def mX8_without (n : Nat) (σ : hv_St) (p0 : Int32) : Option (Int32 × hv_St) := hv_let (hv_sI σ 0 0 ((0 : Int32))) fun s2 => hv_b2 (mX8_isBar n s2 (p0)) fun r7 s7 => if r7 = 0 then (kX8_without_41 n s7) else (hv_b2 (mX8_isOn n s7 (s7.1 0 11) (p0)) fun r18 s18 => if r18 = 0 then (kX8_without_41 n s18) else (hv_b2 (mX8_kindOf n s18 ((s18.1 0 11) &&& ((((1 : Int32)) <<< ((p0) &&& 31)) ^^^ ((-1 : Int32))))) fun r35 s35 => some (r35, s35)))
def kX8_left_82 (n : Nat) (σ : hv_St) (x2 : Int32) (x3 : Int32) (z0 : Int32) : Option (Int64 × hv_St) := hv_let (hv_sI σ 0 0 (z0)) fun s82 => if s82.1 0 0 ≤ 0 then (hv_if (hv_ok (x2) 11) (hv_b2 (mX8_told n s82 (s82.2 15 (x2).toNatClampNeg) (s82.2 0 24) (x3)) fun r107 s107 => some (r107, s107))) else (some ((0 : Int64), s82))
def kX8_left_81 (n : Nat) (σ : hv_St) (x2 : Int32) (x3 : Int32) : Option (Int64 × hv_St) := kX8_left_82 n σ (x2) (x3) ((1 : Int32))
def kX8_left_52 (n : Nat) (σ : hv_St) (x1 : Int32) (x2 : Int32) (x3 : Int32) (z0 : Int32) : Option (Int64 × hv_St) := if z0 = 0 then (kX8_left_81 n σ (x2) (x3)) else (hv_b2 (mX8_bears n σ ((σ.1 0 11) &&& ((((1 : Int32)) <<< ((x1) &&& 31)) ^^^ ((-1 : Int32))))) fun r71 s71 => if r71 = 0 then (kX8_left_81 n s71 (x2) (x3)) else (kX8_left_82 n s71 (x2) (x3) ((0 : Int32))))
def kX8_left_51 (n : Nat) (σ : hv_St) (x1 : Int32) (x2 : Int32) (x3 : Int32) : Option (Int64 × hv_St) := kX8_left_52 n σ (x1) (x2) (x3) ((0 : Int32))
def mX8_left (n : Nat) (σ : hv_St) (p0 : Int32) (p1 : Int32) (p2 : Int32) : Option (Int64 × hv_St) := hv_bd (mX8_takesLoads n σ ) fun s1 => hv_b2 (mX8_isBar n s1 (p0)) fun r6 s6 => if r6 = 0 then (kX8_left_51 n s6 (p0) (p1) (p2)) else (hv_b2 (mX8_isBar n s6 (p1)) fun r14 s14 => if r14 = 0 then (kX8_left_51 n s14 (p0) (p1) (p2)) else (if p0 = p1 then (kX8_left_51 n s14 (p0) (p1) (p2)) else (hv_b2 (mX8_isOn n s14 (s14.1 0 11) (p0)) fun r30 s30 => if r30 = 0 then (kX8_left_51 n s30 (p0) (p1) (p2)) else (hv_b2 (mX8_isOn n s30 (s30.1 0 11) (p1)) fun r41 s41 => if r41 = 0 then (kX8_left_51 n s41 (p0) (p1) (p2)) else (kX8_left_52 n s41 (p0) (p1) (p2) ((1 : Int32)))))))
def kX8_keys_66 (n : Nat) (r22 : hv_St → Int32 → Int32 → Option (Int32 × hv_St)) (σ : hv_St) (x2 : Int32) (z0 : Int32) (z1 : Int32) : Option (Int32 × hv_St) := hv_let ((z1) ||| (z0)) fun y1_67 => r22 σ (y1_67) (x2 + 1)
def kX8_keys_65 (n : Nat) (r22 : hv_St → Int32 → Int32 → Option (Int32 × hv_St)) (σ : hv_St) (x2 : Int32) (z0 : Int32) : Option (Int32 × hv_St) := kX8_keys_66 n r22 σ (x2) ((0 : Int32)) (z0)
def kX8_keys_22_b (n : Nat) (r22 : hv_St → Int32 → Int32 → Option (Int32 × hv_St)) (σ : hv_St) (x1 : Int32) (x2 : Int32) : Option (Int32 × hv_St) := if σ.1 0 6 ≤ x2 then (some (x1, σ)) else (hv_b2 (mX8_isOn n σ (σ.1 0 11) (x2)) fun r36 s36 => if r36 = 0 then (kX8_keys_65 n r22 s36 (x2) (x1)) else (hv_b2 (mX8_kindOf n s36 ((s36.1 0 11) &&& ((((1 : Int32)) <<< ((x2) &&& 31)) ^^^ ((-1 : Int32))))) fun r53 s53 => if r53 = 0 then (kX8_keys_66 n r22 s53 (x2) (((1 : Int32)) <<< ((x2) &&& 31)) (x1)) else (kX8_keys_65 n r22 s53 (x2) (x1))))
def kX8_keys_22 (n : Nat) : Nat → hv_St → Int32 → Int32 → Option (Int32 × hv_St)
  | 0 => fun _ _ _ => none
  | i + 1 => kX8_keys_22_b n (kX8_keys_22 n i)
def mX8_keys (n : Nat) (σ : hv_St) : Option (Int32 × hv_St) := hv_let (hv_sI σ 0 0 ((0 : Int32))) fun s2 => hv_b2 (mX8_kindOf n s2 (s2.1 0 11)) fun r10 s10 => if r10 = 0 then (some ((0 : Int32), s10)) else (kX8_keys_22 n n s10 ((0 : Int32)) ((0 : Int32)))
def kX8_mend_90 (n : Nat) (σ : hv_St) (x3 : Int32) : Option (Int32 × hv_St) := some (x3, σ)
def kX8_mend_75 (n : Nat) (r26 : hv_St → Int32 → Int32 → Int32 → Int32 → Option (Int32 × hv_St)) (σ : hv_St) (x1 : Int32) (x2 : Int32) (x3 : Int32) (x4 : Int32) : Option (Int32 × hv_St) := r26 σ (x1) (x2) (x3) (x4 + 1)
def kX8_mend_58 (n : Nat) (r26 : hv_St → Int32 → Int32 → Int32 → Int32 → Option (Int32 × hv_St)) (σ : hv_St) (x1 : Int32) (x2 : Int32) (x3 : Int32) (x4 : Int32) : Option (Int32 × hv_St) := hv_b2 (mX8_kindOf n σ ((σ.1 0 11) ||| (x4))) fun r66 s66 => if r66 = 0 then (kX8_mend_75 n r26 s66 (x1) (x2) (x3) (x4)) else (kX8_mend_75 n r26 s66 (x1) (x2) (x4) (x4))
def kX8_mend_26_b (n : Nat) (r26 : hv_St → Int32 → Int32 → Int32 → Int32 → Option (Int32 × hv_St)) (σ : hv_St) (x1 : Int32) (x2 : Int32) (x3 : Int32) (x4 : Int32) : Option (Int32 × hv_St) := if x2 < x4 then (if x3 = (-1 : Int32) then (kX8_mend_90 n σ (x3)) else (if x1 = 0 then (hv_b2 (mX8_bits n σ (x3)) fun r95 s95 => some (r95, s95)) else (kX8_mend_90 n σ (x3)))) else (if (x4) &&& ((x2) ^^^ ((-1 : Int32))) = 0 then (if x3 = (-1 : Int32) then (kX8_mend_58 n r26 σ (x1) (x2) (x3) (x4)) else (hv_b2 (mX8_bits n σ (x4)) fun r48 s48 => hv_b2 (mX8_bits n s48 (x3)) fun r52 s52 => if r52 ≤ r48 then (kX8_mend_75 n r26 s52 (x1) (x2) (x3) (x4)) else (kX8_mend_58 n r26 s52 (x1) (x2) (x3) (x4)))) else (kX8_mend_75 n r26 σ (x1) (x2) (x3) (x4)))
def kX8_mend_26 (n : Nat) : Nat → hv_St → Int32 → Int32 → Int32 → Int32 → Option (Int32 × hv_St)
  | 0 => fun _ _ _ _ _ => none
  | i + 1 => kX8_mend_26_b n (kX8_mend_26 n i)
def mX8_mend (n : Nat) (σ : hv_St) (p0 : Int32) : Option (Int32 × hv_St) := hv_let (hv_sI σ 0 0 ((0 : Int32))) fun s2 => hv_let (((((1 : Int32)) <<< ((s2.1 0 6) &&& 31)) - ((1 : Int32))) &&& ((s2.1 0 11) ^^^ ((-1 : Int32)))) fun y2_20 => kX8_mend_26 n n s2 (p0) (y2_20) ((-1 : Int32)) ((0 : Int32))
def mL_of (n : Nat) (σ : hv_St) (p1 : Int32) (p2 : Int32) : Option (Int32 × hv_St) := hv_by (mX7_of n (hv_sh 0 σ) p1 p2) (fun τ => some (1, hv_mg 0 55 σ τ)) (fun v τ => some (0, hv_sJ (hv_mg 0 55 σ τ) 55 (0 : Int32).toNatClampNeg v.toInt64))
def mL_at (n : Nat) (σ : hv_St) (p1 : Int32) (p2 : Int32) : Option (Int32 × hv_St) := hv_by (mX7_at n (hv_sh 0 σ) p1 p2) (fun τ => some (1, hv_mg 0 55 σ τ)) (fun v τ => some (0, hv_sJ (hv_mg 0 55 σ τ) 55 (0 : Int32).toNatClampNeg v.toInt64))
def mL_pull (n : Nat) (σ : hv_St) (p1 : Int32) (p2 : Int32) : Option (Int32 × hv_St) := hv_by (mX7_pull n (hv_sh 0 σ) p1 p2) (fun τ => some (1, hv_mg 0 55 σ τ)) (fun v τ => some (0, hv_sJ (hv_mg 0 55 σ τ) 55 (0 : Int32).toNatClampNeg v))
def mL_state (n : Nat) (σ : hv_St) (p1 : Int32) (p2 : Int32) (p3 : Int32) : Option (Int32 × hv_St) := hv_by (mX7_state n (hv_sh 0 σ) p1 p2 p3) (fun τ => some (1, hv_mg 0 55 σ τ)) (fun v τ => some (0, hv_sJ (hv_mg 0 55 σ τ) 55 (0 : Int32).toNatClampNeg v))
def mL_flex (n : Nat) (σ : hv_St) (p1 : Int32) (p2 : Int32) (p3 : Int32) : Option (Int32 × hv_St) := hv_by (mX7_flex n (hv_sh 0 σ) p1 p2 p3) (fun τ => some (1, hv_mg 0 55 σ τ)) (fun v τ => some (0, hv_sJ (hv_mg 0 55 σ τ) 55 (0 : Int32).toNatClampNeg v))
def mL_force (n : Nat) (σ : hv_St) (p1 : Int32) (p2 : Int32) (p3 : Int32) : Option (Int32 × hv_St) := hv_by (mX7_force n (hv_sh 0 σ) p1 p2 p3) (fun τ => some (1, hv_mg 0 55 σ τ)) (fun v τ => some (0, hv_sJ (hv_mg 0 55 σ τ) 55 (0 : Int32).toNatClampNeg v))
def mL_influence (n : Nat) (σ : hv_St) (p1 : Int32) (p2 : Int32) (p3 : Int32) (p4 : Int32) : Option (Int32 × hv_St) := hv_by (mX7_influence n (hv_sh 0 σ) p1 p2 p3 p4) (fun τ => some (1, hv_mg 0 55 σ τ)) (fun v τ => some (0, hv_sJ (hv_mg 0 55 σ τ) 55 (0 : Int32).toNatClampNeg v))
def mL_cut (n : Nat) (σ : hv_St) (p1 : Int32) (p2 : Int32) (p3 : Int32) : Option (Int32 × hv_St) := hv_by (mX7_cut n (hv_sh 0 σ) p1 p2 p3) (fun τ => some (1, hv_mg 0 55 σ τ)) (fun v τ => some (0, hv_sJ (hv_mg 0 55 σ τ) 55 (0 : Int32).toNatClampNeg v))
def mL_riding (n : Nat) (σ : hv_St) (p1 : Int32) (p2 : Int32) (p3 : Int32) : Option (Int32 × hv_St) := hv_by (mX7_riding n (hv_sh 0 σ) p1 p2 p3) (fun τ => some (1, hv_mg 0 55 σ τ)) (fun v τ => some (0, hv_sJ (hv_mg 0 55 σ τ) 55 (0 : Int32).toNatClampNeg v))
def mL_left (n : Nat) (σ : hv_St) (p1 : Int32) (p2 : Int32) (p3 : Int32) : Option (Int32 × hv_St) := hv_by (mX7_left n (hv_sh 0 σ) p1 p2 p3) (fun τ => some (1, hv_mg 0 55 σ τ)) (fun v τ => some (0, hv_sJ (hv_mg 0 55 σ τ) 55 (0 : Int32).toNatClampNeg v))
def kL_law_1699 (n L : Nat) (xs : Nat → Int32) (r23 : hv_St → Int32 → Option Unit) (σ : hv_St) (x4 : Int32) : Option Unit := r23 σ (x4 + 5)
def kL_law_1691 (n L : Nat) (xs : Nat → Int32) (r23 : hv_St → Int32 → Option Unit) (σ : hv_St) (x4 : Int32) (z0 : Int32) (z2 : Int32) : Option Unit := hv_b2 (mX8_mend n (hv_sh 56 (σ)) (z0)) fun r1691 t1691 => if z2 = r1691 then (kL_law_1699 n L xs r23 (hv_mg 56 23 (σ) t1691) (x4)) else (none)
def kL_law_1673 (n L : Nat) (xs : Nat → Int32) (r23 : hv_St → Int32 → Option Unit) (σ : hv_St) (x4 : Int32) (z0 : Int32) : Option Unit := hv_b2 (mX7_mend n (hv_sh 0 (σ)) (z0)) fun r1673 t1673 => hv_if (hv_ok ((x4) + ((1 : Int32))) L) (if xs ((x4) + ((1 : Int32))).toNatClampNeg = 0 then (kL_law_1691 n L xs r23 (hv_mg 0 55 (σ) t1673) (x4) ((0 : Int32)) (r1673)) else (kL_law_1691 n L xs r23 (hv_mg 0 55 (σ) t1673) (x4) ((1 : Int32)) (r1673)))
def kL_law_1658 (n L : Nat) (xs : Nat → Int32) (r23 : hv_St → Int32 → Option Unit) (σ : hv_St) (x4 : Int32) : Option Unit := hv_if (hv_ok ((x4) + ((1 : Int32))) L) (if xs ((x4) + ((1 : Int32))).toNatClampNeg = 0 then (kL_law_1673 n L xs r23 σ (x4) ((0 : Int32))) else (kL_law_1673 n L xs r23 σ (x4) ((1 : Int32))))
def kL_law_1645 (n L : Nat) (xs : Nat → Int32) (r23 : hv_St → Int32 → Option Unit) (σ : hv_St) (x4 : Int32) : Option Unit := hv_b2 (mX7_keys n (hv_sh 0 (σ)) ) fun r1646 t1646 => hv_b2 (mX8_keys n (hv_sh 56 ((hv_mg 0 55 (σ) t1646))) ) fun r1650 t1650 => if r1646 = r1650 then (kL_law_1699 n L xs r23 (hv_mg 56 23 ((hv_mg 0 55 (σ) t1646)) t1650) (x4)) else (none)
def kL_law_1642 (n L : Nat) (xs : Nat → Int32) (r23 : hv_St → Int32 → Option Unit) (σ : hv_St) (x4 : Int32) : Option Unit := kL_law_1699 n L xs r23 σ (x4)
def kL_law_1610 (n L : Nat) (xs : Nat → Int32) (r23 : hv_St → Int32 → Option Unit) (σ : hv_St) (x4 : Int32) (x5 : Int32) (z0 : Int32) (z1 : Int32) (z2 : Int32) : Option Unit := hv_b2 (mX8_left n (hv_sh 56 (σ)) (z2) (z1) (z0)) fun r1610 t1610 => hv_b2 (mX8_thrown n (hv_sh 56 ((hv_mg 56 23 (σ) t1610))) ) fun r1616 t1616 => if r1616 = x5 then (if x5 = 0 then (if lg_cmp (((hv_mg 56 23 ((hv_mg 56 23 (σ) t1610)) t1616)).2 55 (0 : Int32).toNatClampNeg) (r1610) = 0 then (kL_law_1642 n L xs r23 (hv_mg 56 23 ((hv_mg 56 23 (σ) t1610)) t1616) (x4)) else (none)) else (kL_law_1642 n L xs r23 (hv_mg 56 23 ((hv_mg 56 23 (σ) t1610)) t1616) (x4))) else (none)
def kL_law_1577 (n L : Nat) (xs : Nat → Int32) (r23 : hv_St → Int32 → Option Unit) (σ : hv_St) (x4 : Int32) (z0 : Int32) (z1 : Int32) (z2 : Int32) : Option Unit := hv_b2 (mL_left n (hv_sh 0 (σ)) (z2) (z1) (z0)) fun r1578 t1578 => hv_if (hv_ok ((x4) + ((1 : Int32))) L) (hv_if (hv_ok ((x4) + ((2 : Int32))) L) (hv_if (hv_ok ((x4) + ((3 : Int32))) L) (if xs ((x4) + ((3 : Int32))).toNatClampNeg = 0 then (kL_law_1610 n L xs r23 (hv_mg 0 56 (σ) t1578) (x4) (r1578) ((0 : Int32)) (xs ((x4) + ((2 : Int32))).toNatClampNeg) (xs ((x4) + ((1 : Int32))).toNatClampNeg)) else (kL_law_1610 n L xs r23 (hv_mg 0 56 (σ) t1578) (x4) (r1578) ((1 : Int32)) (xs ((x4) + ((2 : Int32))).toNatClampNeg) (xs ((x4) + ((1 : Int32))).toNatClampNeg)))))
def kL_law_1550 (n L : Nat) (xs : Nat → Int32) (r23 : hv_St → Int32 → Option Unit) (σ : hv_St) (x4 : Int32) : Option Unit := hv_if (hv_ok ((x4) + ((1 : Int32))) L) (hv_if (hv_ok ((x4) + ((2 : Int32))) L) (hv_if (hv_ok ((x4) + ((3 : Int32))) L) (if xs ((x4) + ((3 : Int32))).toNatClampNeg = 0 then (kL_law_1577 n L xs r23 σ (x4) ((0 : Int32)) (xs ((x4) + ((2 : Int32))).toNatClampNeg) (xs ((x4) + ((1 : Int32))).toNatClampNeg)) else (kL_law_1577 n L xs r23 σ (x4) ((1 : Int32)) (xs ((x4) + ((2 : Int32))).toNatClampNeg) (xs ((x4) + ((1 : Int32))).toNatClampNeg)))))
def kL_law_1525 (n L : Nat) (xs : Nat → Int32) (r23 : hv_St → Int32 → Option Unit) (σ : hv_St) (x4 : Int32) : Option Unit := hv_if (hv_ok ((x4) + ((1 : Int32))) L) (hv_b2 (mX7_without n (hv_sh 0 (σ)) (xs ((x4) + ((1 : Int32))).toNatClampNeg)) fun r1532 t1532 => hv_if (hv_ok ((x4) + ((1 : Int32))) L) (hv_b2 (mX8_without n (hv_sh 56 ((hv_mg 0 55 (σ) t1532))) (xs ((x4) + ((1 : Int32))).toNatClampNeg)) fun r1542 t1542 => if r1532 = r1542 then (kL_law_1699 n L xs r23 (hv_mg 56 23 ((hv_mg 0 55 (σ) t1532)) t1542) (x4)) else (none)))
def kL_law_1500 (n L : Nat) (xs : Nat → Int32) (r23 : hv_St → Int32 → Option Unit) (σ : hv_St) (x4 : Int32) : Option Unit := hv_if (hv_ok ((x4) + ((1 : Int32))) L) (hv_b2 (mX7_worst n (hv_sh 0 (σ)) (xs ((x4) + ((1 : Int32))).toNatClampNeg)) fun r1507 t1507 => hv_if (hv_ok ((x4) + ((1 : Int32))) L) (hv_b2 (mX8_worst n (hv_sh 56 ((hv_mg 0 55 (σ) t1507))) (xs ((x4) + ((1 : Int32))).toNatClampNeg)) fun r1517 t1517 => if r1507 = r1517 then (kL_law_1699 n L xs r23 (hv_mg 56 23 ((hv_mg 0 55 (σ) t1507)) t1517) (x4)) else (none)))
def kL_law_1497 (n L : Nat) (xs : Nat → Int32) (r23 : hv_St → Int32 → Option Unit) (σ : hv_St) (x4 : Int32) : Option Unit := kL_law_1699 n L xs r23 σ (x4)
def kL_law_1465 (n L : Nat) (xs : Nat → Int32) (r23 : hv_St → Int32 → Option Unit) (σ : hv_St) (x4 : Int32) (x5 : Int32) (z0 : Int32) (z1 : Int32) (z2 : Int32) : Option Unit := hv_b2 (mX8_riding n (hv_sh 56 (σ)) (z2) (z1) (z0)) fun r1465 t1465 => hv_b2 (mX8_thrown n (hv_sh 56 ((hv_mg 56 23 (σ) t1465))) ) fun r1471 t1471 => if r1471 = x5 then (if x5 = 0 then (if lg_cmp (((hv_mg 56 23 ((hv_mg 56 23 (σ) t1465)) t1471)).2 55 (0 : Int32).toNatClampNeg) (r1465) = 0 then (kL_law_1497 n L xs r23 (hv_mg 56 23 ((hv_mg 56 23 (σ) t1465)) t1471) (x4)) else (none)) else (kL_law_1497 n L xs r23 (hv_mg 56 23 ((hv_mg 56 23 (σ) t1465)) t1471) (x4))) else (none)
def kL_law_1432 (n L : Nat) (xs : Nat → Int32) (r23 : hv_St → Int32 → Option Unit) (σ : hv_St) (x4 : Int32) (z0 : Int32) (z1 : Int32) (z2 : Int32) : Option Unit := hv_b2 (mL_riding n (hv_sh 0 (σ)) (z2) (z1) (z0)) fun r1433 t1433 => hv_if (hv_ok ((x4) + ((1 : Int32))) L) (hv_if (hv_ok ((x4) + ((2 : Int32))) L) (hv_if (hv_ok ((x4) + ((3 : Int32))) L) (if xs ((x4) + ((3 : Int32))).toNatClampNeg = 0 then (kL_law_1465 n L xs r23 (hv_mg 0 56 (σ) t1433) (x4) (r1433) ((0 : Int32)) (xs ((x4) + ((2 : Int32))).toNatClampNeg) (xs ((x4) + ((1 : Int32))).toNatClampNeg)) else (kL_law_1465 n L xs r23 (hv_mg 0 56 (σ) t1433) (x4) (r1433) ((1 : Int32)) (xs ((x4) + ((2 : Int32))).toNatClampNeg) (xs ((x4) + ((1 : Int32))).toNatClampNeg)))))
def kL_law_1405 (n L : Nat) (xs : Nat → Int32) (r23 : hv_St → Int32 → Option Unit) (σ : hv_St) (x4 : Int32) : Option Unit := hv_if (hv_ok ((x4) + ((1 : Int32))) L) (hv_if (hv_ok ((x4) + ((2 : Int32))) L) (hv_if (hv_ok ((x4) + ((3 : Int32))) L) (if xs ((x4) + ((3 : Int32))).toNatClampNeg = 0 then (kL_law_1432 n L xs r23 σ (x4) ((0 : Int32)) (xs ((x4) + ((2 : Int32))).toNatClampNeg) (xs ((x4) + ((1 : Int32))).toNatClampNeg)) else (kL_law_1432 n L xs r23 σ (x4) ((1 : Int32)) (xs ((x4) + ((2 : Int32))).toNatClampNeg) (xs ((x4) + ((1 : Int32))).toNatClampNeg)))))
def kL_law_1392 (n L : Nat) (xs : Nat → Int32) (r23 : hv_St → Int32 → Option Unit) (σ : hv_St) (x4 : Int32) : Option Unit := hv_b2 (mX7_times n (hv_sh 0 (σ)) ) fun r1393 t1393 => hv_b2 (mX8_times n (hv_sh 56 ((hv_mg 0 55 (σ) t1393))) ) fun r1397 t1397 => if r1393 = r1397 then (kL_law_1699 n L xs r23 (hv_mg 56 23 ((hv_mg 0 55 (σ) t1393)) t1397) (x4)) else (none)
def kL_law_1367 (n L : Nat) (xs : Nat → Int32) (r23 : hv_St → Int32 → Option Unit) (σ : hv_St) (x4 : Int32) : Option Unit := hv_if (hv_ok ((x4) + ((1 : Int32))) L) (hv_b2 (mX7_painted n (hv_sh 0 (σ)) (xs ((x4) + ((1 : Int32))).toNatClampNeg)) fun r1374 t1374 => hv_if (hv_ok ((x4) + ((1 : Int32))) L) (hv_b2 (mX8_painted n (hv_sh 56 ((hv_mg 0 55 (σ) t1374))) (xs ((x4) + ((1 : Int32))).toNatClampNeg)) fun r1384 t1384 => if r1374 = r1384 then (kL_law_1699 n L xs r23 (hv_mg 56 23 ((hv_mg 0 55 (σ) t1374)) t1384) (x4)) else (none)))
def kL_law_1342 (n L : Nat) (xs : Nat → Int32) (r23 : hv_St → Int32 → Option Unit) (σ : hv_St) (x4 : Int32) : Option Unit := hv_if (hv_ok ((x4) + ((1 : Int32))) L) (hv_b2 (mX7_joint n (hv_sh 0 (σ)) (xs ((x4) + ((1 : Int32))).toNatClampNeg)) fun r1349 t1349 => hv_if (hv_ok ((x4) + ((1 : Int32))) L) (hv_b2 (mX8_joint n (hv_sh 56 ((hv_mg 0 55 (σ) t1349))) (xs ((x4) + ((1 : Int32))).toNatClampNeg)) fun r1359 t1359 => if r1349 = r1359 then (kL_law_1699 n L xs r23 (hv_mg 56 23 ((hv_mg 0 55 (σ) t1349)) t1359) (x4)) else (none)))
def kL_law_1339 (n L : Nat) (xs : Nat → Int32) (r23 : hv_St → Int32 → Option Unit) (σ : hv_St) (x4 : Int32) : Option Unit := kL_law_1699 n L xs r23 σ (x4)
def kL_law_1307 (n L : Nat) (xs : Nat → Int32) (r23 : hv_St → Int32 → Option Unit) (σ : hv_St) (x4 : Int32) (x5 : Int32) (z0 : Int32) (z1 : Int32) (z2 : Int32) : Option Unit := hv_b2 (mX8_cut n (hv_sh 56 (σ)) (z2) (z1) (z0)) fun r1307 t1307 => hv_b2 (mX8_thrown n (hv_sh 56 ((hv_mg 56 23 (σ) t1307))) ) fun r1313 t1313 => if r1313 = x5 then (if x5 = 0 then (if lg_cmp (((hv_mg 56 23 ((hv_mg 56 23 (σ) t1307)) t1313)).2 55 (0 : Int32).toNatClampNeg) (r1307) = 0 then (kL_law_1339 n L xs r23 (hv_mg 56 23 ((hv_mg 56 23 (σ) t1307)) t1313) (x4)) else (none)) else (kL_law_1339 n L xs r23 (hv_mg 56 23 ((hv_mg 56 23 (σ) t1307)) t1313) (x4))) else (none)
def kL_law_1274 (n L : Nat) (xs : Nat → Int32) (r23 : hv_St → Int32 → Option Unit) (σ : hv_St) (x4 : Int32) (z0 : Int32) (z1 : Int32) (z2 : Int32) : Option Unit := hv_b2 (mL_cut n (hv_sh 0 (σ)) (z2) (z1) (z0)) fun r1275 t1275 => hv_if (hv_ok ((x4) + ((1 : Int32))) L) (hv_if (hv_ok ((x4) + ((2 : Int32))) L) (hv_if (hv_ok ((x4) + ((3 : Int32))) L) (if xs ((x4) + ((3 : Int32))).toNatClampNeg = 0 then (kL_law_1307 n L xs r23 (hv_mg 0 56 (σ) t1275) (x4) (r1275) ((0 : Int32)) (xs ((x4) + ((2 : Int32))).toNatClampNeg) (xs ((x4) + ((1 : Int32))).toNatClampNeg)) else (kL_law_1307 n L xs r23 (hv_mg 0 56 (σ) t1275) (x4) (r1275) ((1 : Int32)) (xs ((x4) + ((2 : Int32))).toNatClampNeg) (xs ((x4) + ((1 : Int32))).toNatClampNeg)))))
def kL_law_1247 (n L : Nat) (xs : Nat → Int32) (r23 : hv_St → Int32 → Option Unit) (σ : hv_St) (x4 : Int32) : Option Unit := hv_if (hv_ok ((x4) + ((1 : Int32))) L) (hv_if (hv_ok ((x4) + ((2 : Int32))) L) (hv_if (hv_ok ((x4) + ((3 : Int32))) L) (if xs ((x4) + ((3 : Int32))).toNatClampNeg = 0 then (kL_law_1274 n L xs r23 σ (x4) ((0 : Int32)) (xs ((x4) + ((2 : Int32))).toNatClampNeg) (xs ((x4) + ((1 : Int32))).toNatClampNeg)) else (kL_law_1274 n L xs r23 σ (x4) ((1 : Int32)) (xs ((x4) + ((2 : Int32))).toNatClampNeg) (xs ((x4) + ((1 : Int32))).toNatClampNeg)))))
def kL_law_1244 (n L : Nat) (xs : Nat → Int32) (r23 : hv_St → Int32 → Option Unit) (σ : hv_St) (x4 : Int32) : Option Unit := kL_law_1699 n L xs r23 σ (x4)
def kL_law_1212 (n L : Nat) (xs : Nat → Int32) (r23 : hv_St → Int32 → Option Unit) (σ : hv_St) (x4 : Int32) (x5 : Int32) (z0 : Int32) (z1 : Int32) (z2 : Int32) (z3 : Int32) : Option Unit := hv_b2 (mX8_influence n (hv_sh 56 (σ)) (z3) (z2) (z1) (z0)) fun r1212 t1212 => hv_b2 (mX8_thrown n (hv_sh 56 ((hv_mg 56 23 (σ) t1212))) ) fun r1218 t1218 => if r1218 = x5 then (if x5 = 0 then (if lg_cmp (((hv_mg 56 23 ((hv_mg 56 23 (σ) t1212)) t1218)).2 55 (0 : Int32).toNatClampNeg) (r1212) = 0 then (kL_law_1244 n L xs r23 (hv_mg 56 23 ((hv_mg 56 23 (σ) t1212)) t1218) (x4)) else (none)) else (kL_law_1244 n L xs r23 (hv_mg 56 23 ((hv_mg 56 23 (σ) t1212)) t1218) (x4))) else (none)
def kL_law_1173 (n L : Nat) (xs : Nat → Int32) (r23 : hv_St → Int32 → Option Unit) (σ : hv_St) (x4 : Int32) (z0 : Int32) (z1 : Int32) (z2 : Int32) (z3 : Int32) : Option Unit := hv_b2 (mL_influence n (hv_sh 0 (σ)) (z3) (z2) (z1) (z0)) fun r1174 t1174 => hv_if (hv_ok ((x4) + ((1 : Int32))) L) (hv_if (hv_ok ((x4) + ((2 : Int32))) L) (hv_if (hv_ok ((x4) + ((3 : Int32))) L) (hv_if (hv_ok ((x4) + ((4 : Int32))) L) (if xs ((x4) + ((4 : Int32))).toNatClampNeg = 0 then (kL_law_1212 n L xs r23 (hv_mg 0 56 (σ) t1174) (x4) (r1174) ((0 : Int32)) (xs ((x4) + ((3 : Int32))).toNatClampNeg) (xs ((x4) + ((2 : Int32))).toNatClampNeg) (xs ((x4) + ((1 : Int32))).toNatClampNeg)) else (kL_law_1212 n L xs r23 (hv_mg 0 56 (σ) t1174) (x4) (r1174) ((1 : Int32)) (xs ((x4) + ((3 : Int32))).toNatClampNeg) (xs ((x4) + ((2 : Int32))).toNatClampNeg) (xs ((x4) + ((1 : Int32))).toNatClampNeg))))))
def kL_law_1140 (n L : Nat) (xs : Nat → Int32) (r23 : hv_St → Int32 → Option Unit) (σ : hv_St) (x4 : Int32) : Option Unit := hv_if (hv_ok ((x4) + ((1 : Int32))) L) (hv_if (hv_ok ((x4) + ((2 : Int32))) L) (hv_if (hv_ok ((x4) + ((3 : Int32))) L) (hv_if (hv_ok ((x4) + ((4 : Int32))) L) (if xs ((x4) + ((4 : Int32))).toNatClampNeg = 0 then (kL_law_1173 n L xs r23 σ (x4) ((0 : Int32)) (xs ((x4) + ((3 : Int32))).toNatClampNeg) (xs ((x4) + ((2 : Int32))).toNatClampNeg) (xs ((x4) + ((1 : Int32))).toNatClampNeg)) else (kL_law_1173 n L xs r23 σ (x4) ((1 : Int32)) (xs ((x4) + ((3 : Int32))).toNatClampNeg) (xs ((x4) + ((2 : Int32))).toNatClampNeg) (xs ((x4) + ((1 : Int32))).toNatClampNeg))))))
def kL_law_1137 (n L : Nat) (xs : Nat → Int32) (r23 : hv_St → Int32 → Option Unit) (σ : hv_St) (x4 : Int32) : Option Unit := kL_law_1699 n L xs r23 σ (x4)
def kL_law_1105 (n L : Nat) (xs : Nat → Int32) (r23 : hv_St → Int32 → Option Unit) (σ : hv_St) (x4 : Int32) (x5 : Int32) (z0 : Int32) (z1 : Int32) (z2 : Int32) : Option Unit := hv_b2 (mX8_force n (hv_sh 56 (σ)) (z2) (z1) (z0)) fun r1105 t1105 => hv_b2 (mX8_thrown n (hv_sh 56 ((hv_mg 56 23 (σ) t1105))) ) fun r1111 t1111 => if r1111 = x5 then (if x5 = 0 then (if lg_cmp (((hv_mg 56 23 ((hv_mg 56 23 (σ) t1105)) t1111)).2 55 (0 : Int32).toNatClampNeg) (r1105) = 0 then (kL_law_1137 n L xs r23 (hv_mg 56 23 ((hv_mg 56 23 (σ) t1105)) t1111) (x4)) else (none)) else (kL_law_1137 n L xs r23 (hv_mg 56 23 ((hv_mg 56 23 (σ) t1105)) t1111) (x4))) else (none)
def kL_law_1072 (n L : Nat) (xs : Nat → Int32) (r23 : hv_St → Int32 → Option Unit) (σ : hv_St) (x4 : Int32) (z0 : Int32) (z1 : Int32) (z2 : Int32) : Option Unit := hv_b2 (mL_force n (hv_sh 0 (σ)) (z2) (z1) (z0)) fun r1073 t1073 => hv_if (hv_ok ((x4) + ((1 : Int32))) L) (hv_if (hv_ok ((x4) + ((2 : Int32))) L) (hv_if (hv_ok ((x4) + ((3 : Int32))) L) (if xs ((x4) + ((3 : Int32))).toNatClampNeg = 0 then (kL_law_1105 n L xs r23 (hv_mg 0 56 (σ) t1073) (x4) (r1073) ((0 : Int32)) (xs ((x4) + ((2 : Int32))).toNatClampNeg) (xs ((x4) + ((1 : Int32))).toNatClampNeg)) else (kL_law_1105 n L xs r23 (hv_mg 0 56 (σ) t1073) (x4) (r1073) ((1 : Int32)) (xs ((x4) + ((2 : Int32))).toNatClampNeg) (xs ((x4) + ((1 : Int32))).toNatClampNeg)))))
def kL_law_1045 (n L : Nat) (xs : Nat → Int32) (r23 : hv_St → Int32 → Option Unit) (σ : hv_St) (x4 : Int32) : Option Unit := hv_if (hv_ok ((x4) + ((1 : Int32))) L) (hv_if (hv_ok ((x4) + ((2 : Int32))) L) (hv_if (hv_ok ((x4) + ((3 : Int32))) L) (if xs ((x4) + ((3 : Int32))).toNatClampNeg = 0 then (kL_law_1072 n L xs r23 σ (x4) ((0 : Int32)) (xs ((x4) + ((2 : Int32))).toNatClampNeg) (xs ((x4) + ((1 : Int32))).toNatClampNeg)) else (kL_law_1072 n L xs r23 σ (x4) ((1 : Int32)) (xs ((x4) + ((2 : Int32))).toNatClampNeg) (xs ((x4) + ((1 : Int32))).toNatClampNeg)))))
def kL_law_1042 (n L : Nat) (xs : Nat → Int32) (r23 : hv_St → Int32 → Option Unit) (σ : hv_St) (x4 : Int32) : Option Unit := kL_law_1699 n L xs r23 σ (x4)
def kL_law_1010 (n L : Nat) (xs : Nat → Int32) (r23 : hv_St → Int32 → Option Unit) (σ : hv_St) (x4 : Int32) (x5 : Int32) (z0 : Int32) (z1 : Int32) (z2 : Int32) : Option Unit := hv_b2 (mX8_flex n (hv_sh 56 (σ)) (z2) (z1) (z0)) fun r1010 t1010 => hv_b2 (mX8_thrown n (hv_sh 56 ((hv_mg 56 23 (σ) t1010))) ) fun r1016 t1016 => if r1016 = x5 then (if x5 = 0 then (if lg_cmp (((hv_mg 56 23 ((hv_mg 56 23 (σ) t1010)) t1016)).2 55 (0 : Int32).toNatClampNeg) (r1010) = 0 then (kL_law_1042 n L xs r23 (hv_mg 56 23 ((hv_mg 56 23 (σ) t1010)) t1016) (x4)) else (none)) else (kL_law_1042 n L xs r23 (hv_mg 56 23 ((hv_mg 56 23 (σ) t1010)) t1016) (x4))) else (none)
def kL_law_977 (n L : Nat) (xs : Nat → Int32) (r23 : hv_St → Int32 → Option Unit) (σ : hv_St) (x4 : Int32) (z0 : Int32) (z1 : Int32) (z2 : Int32) : Option Unit := hv_b2 (mL_flex n (hv_sh 0 (σ)) (z2) (z1) (z0)) fun r978 t978 => hv_if (hv_ok ((x4) + ((1 : Int32))) L) (hv_if (hv_ok ((x4) + ((2 : Int32))) L) (hv_if (hv_ok ((x4) + ((3 : Int32))) L) (if xs ((x4) + ((3 : Int32))).toNatClampNeg = 0 then (kL_law_1010 n L xs r23 (hv_mg 0 56 (σ) t978) (x4) (r978) ((0 : Int32)) (xs ((x4) + ((2 : Int32))).toNatClampNeg) (xs ((x4) + ((1 : Int32))).toNatClampNeg)) else (kL_law_1010 n L xs r23 (hv_mg 0 56 (σ) t978) (x4) (r978) ((1 : Int32)) (xs ((x4) + ((2 : Int32))).toNatClampNeg) (xs ((x4) + ((1 : Int32))).toNatClampNeg)))))
def kL_law_950 (n L : Nat) (xs : Nat → Int32) (r23 : hv_St → Int32 → Option Unit) (σ : hv_St) (x4 : Int32) : Option Unit := hv_if (hv_ok ((x4) + ((1 : Int32))) L) (hv_if (hv_ok ((x4) + ((2 : Int32))) L) (hv_if (hv_ok ((x4) + ((3 : Int32))) L) (if xs ((x4) + ((3 : Int32))).toNatClampNeg = 0 then (kL_law_977 n L xs r23 σ (x4) ((0 : Int32)) (xs ((x4) + ((2 : Int32))).toNatClampNeg) (xs ((x4) + ((1 : Int32))).toNatClampNeg)) else (kL_law_977 n L xs r23 σ (x4) ((1 : Int32)) (xs ((x4) + ((2 : Int32))).toNatClampNeg) (xs ((x4) + ((1 : Int32))).toNatClampNeg)))))
def kL_law_947 (n L : Nat) (xs : Nat → Int32) (r23 : hv_St → Int32 → Option Unit) (σ : hv_St) (x4 : Int32) : Option Unit := kL_law_1699 n L xs r23 σ (x4)
def kL_law_915 (n L : Nat) (xs : Nat → Int32) (r23 : hv_St → Int32 → Option Unit) (σ : hv_St) (x4 : Int32) (x5 : Int32) (z0 : Int32) (z1 : Int32) (z2 : Int32) : Option Unit := hv_b2 (mX8_state n (hv_sh 56 (σ)) (z2) (z1) (z0)) fun r915 t915 => hv_b2 (mX8_thrown n (hv_sh 56 ((hv_mg 56 23 (σ) t915))) ) fun r921 t921 => if r921 = x5 then (if x5 = 0 then (if lg_cmp (((hv_mg 56 23 ((hv_mg 56 23 (σ) t915)) t921)).2 55 (0 : Int32).toNatClampNeg) (r915) = 0 then (kL_law_947 n L xs r23 (hv_mg 56 23 ((hv_mg 56 23 (σ) t915)) t921) (x4)) else (none)) else (kL_law_947 n L xs r23 (hv_mg 56 23 ((hv_mg 56 23 (σ) t915)) t921) (x4))) else (none)
def kL_law_882 (n L : Nat) (xs : Nat → Int32) (r23 : hv_St → Int32 → Option Unit) (σ : hv_St) (x4 : Int32) (z0 : Int32) (z1 : Int32) (z2 : Int32) : Option Unit := hv_b2 (mL_state n (hv_sh 0 (σ)) (z2) (z1) (z0)) fun r883 t883 => hv_if (hv_ok ((x4) + ((1 : Int32))) L) (hv_if (hv_ok ((x4) + ((2 : Int32))) L) (hv_if (hv_ok ((x4) + ((3 : Int32))) L) (if xs ((x4) + ((3 : Int32))).toNatClampNeg = 0 then (kL_law_915 n L xs r23 (hv_mg 0 56 (σ) t883) (x4) (r883) ((0 : Int32)) (xs ((x4) + ((2 : Int32))).toNatClampNeg) (xs ((x4) + ((1 : Int32))).toNatClampNeg)) else (kL_law_915 n L xs r23 (hv_mg 0 56 (σ) t883) (x4) (r883) ((1 : Int32)) (xs ((x4) + ((2 : Int32))).toNatClampNeg) (xs ((x4) + ((1 : Int32))).toNatClampNeg)))))
def kL_law_855 (n L : Nat) (xs : Nat → Int32) (r23 : hv_St → Int32 → Option Unit) (σ : hv_St) (x4 : Int32) : Option Unit := hv_if (hv_ok ((x4) + ((1 : Int32))) L) (hv_if (hv_ok ((x4) + ((2 : Int32))) L) (hv_if (hv_ok ((x4) + ((3 : Int32))) L) (if xs ((x4) + ((3 : Int32))).toNatClampNeg = 0 then (kL_law_882 n L xs r23 σ (x4) ((0 : Int32)) (xs ((x4) + ((2 : Int32))).toNatClampNeg) (xs ((x4) + ((1 : Int32))).toNatClampNeg)) else (kL_law_882 n L xs r23 σ (x4) ((1 : Int32)) (xs ((x4) + ((2 : Int32))).toNatClampNeg) (xs ((x4) + ((1 : Int32))).toNatClampNeg)))))
def kL_law_852 (n L : Nat) (xs : Nat → Int32) (r23 : hv_St → Int32 → Option Unit) (σ : hv_St) (x4 : Int32) : Option Unit := kL_law_1699 n L xs r23 σ (x4)
def kL_law_820 (n L : Nat) (xs : Nat → Int32) (r23 : hv_St → Int32 → Option Unit) (σ : hv_St) (x4 : Int32) (x5 : Int32) (z0 : Int32) (z1 : Int32) : Option Unit := hv_b2 (mX8_pull n (hv_sh 56 (σ)) (z1) (z0)) fun r820 t820 => hv_b2 (mX8_thrown n (hv_sh 56 ((hv_mg 56 23 (σ) t820))) ) fun r826 t826 => if r826 = x5 then (if x5 = 0 then (if lg_cmp (((hv_mg 56 23 ((hv_mg 56 23 (σ) t820)) t826)).2 55 (0 : Int32).toNatClampNeg) (r820) = 0 then (kL_law_852 n L xs r23 (hv_mg 56 23 ((hv_mg 56 23 (σ) t820)) t826) (x4)) else (none)) else (kL_law_852 n L xs r23 (hv_mg 56 23 ((hv_mg 56 23 (σ) t820)) t826) (x4))) else (none)
def kL_law_793 (n L : Nat) (xs : Nat → Int32) (r23 : hv_St → Int32 → Option Unit) (σ : hv_St) (x4 : Int32) (z0 : Int32) (z1 : Int32) : Option Unit := hv_b2 (mL_pull n (hv_sh 0 (σ)) (z1) (z0)) fun r794 t794 => hv_if (hv_ok ((x4) + ((1 : Int32))) L) (hv_if (hv_ok ((x4) + ((2 : Int32))) L) (if xs ((x4) + ((2 : Int32))).toNatClampNeg = 0 then (kL_law_820 n L xs r23 (hv_mg 0 56 (σ) t794) (x4) (r794) ((0 : Int32)) (xs ((x4) + ((1 : Int32))).toNatClampNeg)) else (kL_law_820 n L xs r23 (hv_mg 0 56 (σ) t794) (x4) (r794) ((1 : Int32)) (xs ((x4) + ((1 : Int32))).toNatClampNeg))))
def kL_law_772 (n L : Nat) (xs : Nat → Int32) (r23 : hv_St → Int32 → Option Unit) (σ : hv_St) (x4 : Int32) : Option Unit := hv_if (hv_ok ((x4) + ((1 : Int32))) L) (hv_if (hv_ok ((x4) + ((2 : Int32))) L) (if xs ((x4) + ((2 : Int32))).toNatClampNeg = 0 then (kL_law_793 n L xs r23 σ (x4) ((0 : Int32)) (xs ((x4) + ((1 : Int32))).toNatClampNeg)) else (kL_law_793 n L xs r23 σ (x4) ((1 : Int32)) (xs ((x4) + ((1 : Int32))).toNatClampNeg))))
def kL_law_769 (n L : Nat) (xs : Nat → Int32) (r23 : hv_St → Int32 → Option Unit) (σ : hv_St) (x4 : Int32) : Option Unit := kL_law_1699 n L xs r23 σ (x4)
def kL_law_704 (n L : Nat) (xs : Nat → Int32) (r23 : hv_St → Int32 → Option Unit) (σ : hv_St) (x4 : Int32) : Option Unit := hv_if (hv_ok ((x4) + ((1 : Int32))) L) (hv_if (hv_ok ((x4) + ((2 : Int32))) L) (hv_b2 (mL_at n (hv_sh 0 (σ)) (xs ((x4) + ((1 : Int32))).toNatClampNeg) (xs ((x4) + ((2 : Int32))).toNatClampNeg)) fun r718 t718 => hv_if (hv_ok ((x4) + ((1 : Int32))) L) (hv_if (hv_ok ((x4) + ((2 : Int32))) L) (hv_b2 (mX8_at n (hv_sh 56 ((hv_mg 0 56 (σ) t718))) (xs ((x4) + ((1 : Int32))).toNatClampNeg) (xs ((x4) + ((2 : Int32))).toNatClampNeg)) fun r736 t736 => hv_b2 (mX8_thrown n (hv_sh 56 ((hv_mg 56 23 ((hv_mg 0 56 (σ) t718)) t736))) ) fun r742 t742 => if r742 = r718 then (if r718 = 0 then (if lg_cmp (((hv_mg 56 23 ((hv_mg 56 23 ((hv_mg 0 56 (σ) t718)) t736)) t742)).2 55 (0 : Int32).toNatClampNeg) ((r736).toInt64) = 0 then (kL_law_769 n L xs r23 (hv_mg 56 23 ((hv_mg 56 23 ((hv_mg 0 56 (σ) t718)) t736)) t742) (x4)) else (none)) else (kL_law_769 n L xs r23 (hv_mg 56 23 ((hv_mg 56 23 ((hv_mg 0 56 (σ) t718)) t736)) t742) (x4))) else (none)))))
def kL_law_701 (n L : Nat) (xs : Nat → Int32) (r23 : hv_St → Int32 → Option Unit) (σ : hv_St) (x4 : Int32) : Option Unit := kL_law_1699 n L xs r23 σ (x4)
def kL_law_636 (n L : Nat) (xs : Nat → Int32) (r23 : hv_St → Int32 → Option Unit) (σ : hv_St) (x4 : Int32) : Option Unit := hv_if (hv_ok ((x4) + ((1 : Int32))) L) (hv_if (hv_ok ((x4) + ((2 : Int32))) L) (hv_b2 (mL_of n (hv_sh 0 (σ)) (xs ((x4) + ((1 : Int32))).toNatClampNeg) (xs ((x4) + ((2 : Int32))).toNatClampNeg)) fun r650 t650 => hv_if (hv_ok ((x4) + ((1 : Int32))) L) (hv_if (hv_ok ((x4) + ((2 : Int32))) L) (hv_b2 (mX8_of n (hv_sh 56 ((hv_mg 0 56 (σ) t650))) (xs ((x4) + ((1 : Int32))).toNatClampNeg) (xs ((x4) + ((2 : Int32))).toNatClampNeg)) fun r668 t668 => hv_b2 (mX8_thrown n (hv_sh 56 ((hv_mg 56 23 ((hv_mg 0 56 (σ) t650)) t668))) ) fun r674 t674 => if r674 = r650 then (if r650 = 0 then (if lg_cmp (((hv_mg 56 23 ((hv_mg 56 23 ((hv_mg 0 56 (σ) t650)) t668)) t674)).2 55 (0 : Int32).toNatClampNeg) ((r668).toInt64) = 0 then (kL_law_701 n L xs r23 (hv_mg 56 23 ((hv_mg 56 23 ((hv_mg 0 56 (σ) t650)) t668)) t674) (x4)) else (none)) else (kL_law_701 n L xs r23 (hv_mg 56 23 ((hv_mg 56 23 ((hv_mg 0 56 (σ) t650)) t668)) t674) (x4))) else (none)))))
def kL_law_611 (n L : Nat) (xs : Nat → Int32) (r23 : hv_St → Int32 → Option Unit) (σ : hv_St) (x4 : Int32) : Option Unit := hv_if (hv_ok ((x4) + ((1 : Int32))) L) (hv_b2 (mX7_count n (hv_sh 0 (σ)) (xs ((x4) + ((1 : Int32))).toNatClampNeg)) fun r618 t618 => hv_if (hv_ok ((x4) + ((1 : Int32))) L) (hv_b2 (mX8_count n (hv_sh 56 ((hv_mg 0 55 (σ) t618))) (xs ((x4) + ((1 : Int32))).toNatClampNeg)) fun r628 t628 => if r618 = r628 then (kL_law_1699 n L xs r23 (hv_mg 56 23 ((hv_mg 0 55 (σ) t618)) t628) (x4)) else (none)))
def kL_law_586 (n L : Nat) (xs : Nat → Int32) (r23 : hv_St → Int32 → Option Unit) (σ : hv_St) (x4 : Int32) : Option Unit := hv_if (hv_ok ((x4) + ((1 : Int32))) L) (hv_b2 (mX7_train n (hv_sh 0 (σ)) (xs ((x4) + ((1 : Int32))).toNatClampNeg)) fun r593 t593 => hv_if (hv_ok ((x4) + ((1 : Int32))) L) (hv_b2 (mX8_train n (hv_sh 56 ((hv_mg 0 55 (σ) t593))) (xs ((x4) + ((1 : Int32))).toNatClampNeg)) fun r603 t603 => if r593 = r603 then (kL_law_1699 n L xs r23 (hv_mg 56 23 ((hv_mg 0 55 (σ) t593)) t603) (x4)) else (none)))
def kL_law_573 (n L : Nat) (xs : Nat → Int32) (r23 : hv_St → Int32 → Option Unit) (σ : hv_St) (x4 : Int32) : Option Unit := hv_b2 (mX7_strip n (hv_sh 0 (σ)) ) fun r574 t574 => hv_b2 (mX8_strip n (hv_sh 56 ((hv_mg 0 55 (σ) t574))) ) fun r578 t578 => if r574 = r578 then (kL_law_1699 n L xs r23 (hv_mg 56 23 ((hv_mg 0 55 (σ) t574)) t578) (x4)) else (none)
def kL_law_548 (n L : Nat) (xs : Nat → Int32) (r23 : hv_St → Int32 → Option Unit) (σ : hv_St) (x4 : Int32) : Option Unit := hv_if (hv_ok ((x4) + ((1 : Int32))) L) (hv_b2 (mX7_deck n (hv_sh 0 (σ)) (xs ((x4) + ((1 : Int32))).toNatClampNeg)) fun r555 t555 => hv_if (hv_ok ((x4) + ((1 : Int32))) L) (hv_b2 (mX8_deck n (hv_sh 56 ((hv_mg 0 55 (σ) t555))) (xs ((x4) + ((1 : Int32))).toNatClampNeg)) fun r565 t565 => if r555 = r565 then (kL_law_1699 n L xs r23 (hv_mg 56 23 ((hv_mg 0 55 (σ) t555)) t565) (x4)) else (none)))
def kL_law_535 (n L : Nat) (xs : Nat → Int32) (r23 : hv_St → Int32 → Option Unit) (σ : hv_St) (x4 : Int32) : Option Unit := hv_b2 (mX7_unload n (hv_sh 0 (σ)) ) fun r536 t536 => hv_b2 (mX8_unload n (hv_sh 56 ((hv_mg 0 55 (σ) t536))) ) fun r540 t540 => if r536 = r540 then (kL_law_1699 n L xs r23 (hv_mg 56 23 ((hv_mg 0 55 (σ) t536)) t540) (x4)) else (none)
def kL_law_486 (n L : Nat) (xs : Nat → Int32) (r23 : hv_St → Int32 → Option Unit) (σ : hv_St) (x4 : Int32) : Option Unit := hv_if (hv_ok ((x4) + ((1 : Int32))) L) (hv_if (hv_ok ((x4) + ((2 : Int32))) L) (hv_if (hv_ok ((x4) + ((3 : Int32))) L) (hv_b2 (mX7_load n (hv_sh 0 (σ)) (xs ((x4) + ((1 : Int32))).toNatClampNeg) (xs ((x4) + ((2 : Int32))).toNatClampNeg) (xs ((x4) + ((3 : Int32))).toNatClampNeg)) fun r505 t505 => hv_if (hv_ok ((x4) + ((1 : Int32))) L) (hv_if (hv_ok ((x4) + ((2 : Int32))) L) (hv_if (hv_ok ((x4) + ((3 : Int32))) L) (hv_b2 (mX8_load n (hv_sh 56 ((hv_mg 0 55 (σ) t505))) (xs ((x4) + ((1 : Int32))).toNatClampNeg) (xs ((x4) + ((2 : Int32))).toNatClampNeg) (xs ((x4) + ((3 : Int32))).toNatClampNeg)) fun r527 t527 => if r505 = r527 then (kL_law_1699 n L xs r23 (hv_mg 56 23 ((hv_mg 0 55 (σ) t505)) t527) (x4)) else (none)))))))
def kL_law_478 (n L : Nat) (xs : Nat → Int32) (r23 : hv_St → Int32 → Option Unit) (σ : hv_St) (x4 : Int32) (z0 : Int32) (z1 : Int32) (z2 : Int32) (z4 : Int32) : Option Unit := hv_b2 (mX8_hold n (hv_sh 56 (σ)) (z2) (z1) (z0)) fun r478 t478 => if z4 = r478 then (kL_law_1699 n L xs r23 (hv_mg 56 23 (σ) t478) (x4)) else (none)
def kL_law_448 (n L : Nat) (xs : Nat → Int32) (r23 : hv_St → Int32 → Option Unit) (σ : hv_St) (x4 : Int32) (z0 : Int32) (z1 : Int32) (z2 : Int32) : Option Unit := hv_b2 (mX7_hold n (hv_sh 0 (σ)) (z2) (z1) (z0)) fun r448 t448 => hv_if (hv_ok ((x4) + ((1 : Int32))) L) (hv_if (hv_ok ((x4) + ((2 : Int32))) L) (hv_if (hv_ok ((x4) + ((3 : Int32))) L) (if xs ((x4) + ((3 : Int32))).toNatClampNeg = 0 then (kL_law_478 n L xs r23 (hv_mg 0 55 (σ) t448) (x4) ((0 : Int32)) (xs ((x4) + ((2 : Int32))).toNatClampNeg) (xs ((x4) + ((1 : Int32))).toNatClampNeg) (r448)) else (kL_law_478 n L xs r23 (hv_mg 0 55 (σ) t448) (x4) ((1 : Int32)) (xs ((x4) + ((2 : Int32))).toNatClampNeg) (xs ((x4) + ((1 : Int32))).toNatClampNeg) (r448)))))
def kL_law_421 (n L : Nat) (xs : Nat → Int32) (r23 : hv_St → Int32 → Option Unit) (σ : hv_St) (x4 : Int32) : Option Unit := hv_if (hv_ok ((x4) + ((1 : Int32))) L) (hv_if (hv_ok ((x4) + ((2 : Int32))) L) (hv_if (hv_ok ((x4) + ((3 : Int32))) L) (if xs ((x4) + ((3 : Int32))).toNatClampNeg = 0 then (kL_law_448 n L xs r23 σ (x4) ((0 : Int32)) (xs ((x4) + ((2 : Int32))).toNatClampNeg) (xs ((x4) + ((1 : Int32))).toNatClampNeg)) else (kL_law_448 n L xs r23 σ (x4) ((1 : Int32)) (xs ((x4) + ((2 : Int32))).toNatClampNeg) (xs ((x4) + ((1 : Int32))).toNatClampNeg)))))
def kL_law_407 (n L : Nat) (xs : Nat → Int32) (r23 : hv_St → Int32 → Option Unit) (σ : hv_St) (x4 : Int32) (z0 : Int32) (z1 : Int32) (z3 : Int32) : Option Unit := hv_if (hv_ok ((x4) + ((3 : Int32))) L) (hv_b2 (mX8_alter n (hv_sh 56 (σ)) (z1) (z0) (xs ((x4) + ((3 : Int32))).toNatClampNeg)) fun r413 t413 => if z3 = r413 then (kL_law_1699 n L xs r23 (hv_mg 56 23 (σ) t413) (x4)) else (none))
def kL_law_377 (n L : Nat) (xs : Nat → Int32) (r23 : hv_St → Int32 → Option Unit) (σ : hv_St) (x4 : Int32) (z0 : Int32) (z1 : Int32) : Option Unit := hv_if (hv_ok ((x4) + ((3 : Int32))) L) (hv_b2 (mX7_alter n (hv_sh 0 (σ)) (z1) (z0) (xs ((x4) + ((3 : Int32))).toNatClampNeg)) fun r383 t383 => hv_if (hv_ok ((x4) + ((1 : Int32))) L) (hv_if (hv_ok ((x4) + ((2 : Int32))) L) (if xs ((x4) + ((2 : Int32))).toNatClampNeg = 0 then (kL_law_407 n L xs r23 (hv_mg 0 55 (σ) t383) (x4) ((0 : Int32)) (xs ((x4) + ((1 : Int32))).toNatClampNeg) (r383)) else (kL_law_407 n L xs r23 (hv_mg 0 55 (σ) t383) (x4) ((1 : Int32)) (xs ((x4) + ((1 : Int32))).toNatClampNeg) (r383)))))
def kL_law_356 (n L : Nat) (xs : Nat → Int32) (r23 : hv_St → Int32 → Option Unit) (σ : hv_St) (x4 : Int32) : Option Unit := hv_if (hv_ok ((x4) + ((1 : Int32))) L) (hv_if (hv_ok ((x4) + ((2 : Int32))) L) (if xs ((x4) + ((2 : Int32))).toNatClampNeg = 0 then (kL_law_377 n L xs r23 σ (x4) ((0 : Int32)) (xs ((x4) + ((1 : Int32))).toNatClampNeg)) else (kL_law_377 n L xs r23 σ (x4) ((1 : Int32)) (xs ((x4) + ((1 : Int32))).toNatClampNeg))))
def kL_law_348 (n L : Nat) (xs : Nat → Int32) (r23 : hv_St → Int32 → Option Unit) (σ : hv_St) (x4 : Int32) (z0 : Int32) (z1 : Int32) (z3 : Int32) : Option Unit := hv_b2 (mX8_turn n (hv_sh 56 (σ)) (z1) (z0)) fun r348 t348 => if z3 = r348 then (kL_law_1699 n L xs r23 (hv_mg 56 23 (σ) t348) (x4)) else (none)
def kL_law_324 (n L : Nat) (xs : Nat → Int32) (r23 : hv_St → Int32 → Option Unit) (σ : hv_St) (x4 : Int32) (z0 : Int32) (z1 : Int32) : Option Unit := hv_b2 (mX7_turn n (hv_sh 0 (σ)) (z1) (z0)) fun r324 t324 => hv_if (hv_ok ((x4) + ((1 : Int32))) L) (hv_if (hv_ok ((x4) + ((2 : Int32))) L) (if xs ((x4) + ((2 : Int32))).toNatClampNeg = 0 then (kL_law_348 n L xs r23 (hv_mg 0 55 (σ) t324) (x4) ((0 : Int32)) (xs ((x4) + ((1 : Int32))).toNatClampNeg) (r324)) else (kL_law_348 n L xs r23 (hv_mg 0 55 (σ) t324) (x4) ((1 : Int32)) (xs ((x4) + ((1 : Int32))).toNatClampNeg) (r324))))
def kL_law_303 (n L : Nat) (xs : Nat → Int32) (r23 : hv_St → Int32 → Option Unit) (σ : hv_St) (x4 : Int32) : Option Unit := hv_if (hv_ok ((x4) + ((1 : Int32))) L) (hv_if (hv_ok ((x4) + ((2 : Int32))) L) (if xs ((x4) + ((2 : Int32))).toNatClampNeg = 0 then (kL_law_324 n L xs r23 σ (x4) ((0 : Int32)) (xs ((x4) + ((1 : Int32))).toNatClampNeg)) else (kL_law_324 n L xs r23 σ (x4) ((1 : Int32)) (xs ((x4) + ((1 : Int32))).toNatClampNeg))))
def kL_law_254 (n L : Nat) (xs : Nat → Int32) (r23 : hv_St → Int32 → Option Unit) (σ : hv_St) (x4 : Int32) : Option Unit := hv_if (hv_ok ((x4) + ((1 : Int32))) L) (hv_if (hv_ok ((x4) + ((2 : Int32))) L) (hv_if (hv_ok ((x4) + ((3 : Int32))) L) (hv_b2 (mX7_bar n (hv_sh 0 (σ)) (xs ((x4) + ((1 : Int32))).toNatClampNeg) (xs ((x4) + ((2 : Int32))).toNatClampNeg) (xs ((x4) + ((3 : Int32))).toNatClampNeg)) fun r273 t273 => hv_if (hv_ok ((x4) + ((1 : Int32))) L) (hv_if (hv_ok ((x4) + ((2 : Int32))) L) (hv_if (hv_ok ((x4) + ((3 : Int32))) L) (hv_b2 (mX8_bar n (hv_sh 56 ((hv_mg 0 55 (σ) t273))) (xs ((x4) + ((1 : Int32))).toNatClampNeg) (xs ((x4) + ((2 : Int32))).toNatClampNeg) (xs ((x4) + ((3 : Int32))).toNatClampNeg)) fun r295 t295 => if r273 = r295 then (kL_law_1699 n L xs r23 (hv_mg 56 23 ((hv_mg 0 55 (σ) t273)) t295) (x4)) else (none)))))))
def kL_law_205 (n L : Nat) (xs : Nat → Int32) (r23 : hv_St → Int32 → Option Unit) (σ : hv_St) (x4 : Int32) : Option Unit := hv_if (hv_ok ((x4) + ((1 : Int32))) L) (hv_if (hv_ok ((x4) + ((2 : Int32))) L) (hv_if (hv_ok ((x4) + ((3 : Int32))) L) (hv_b2 (mX7_place n (hv_sh 0 (σ)) (xs ((x4) + ((1 : Int32))).toNatClampNeg) (xs ((x4) + ((2 : Int32))).toNatClampNeg) (xs ((x4) + ((3 : Int32))).toNatClampNeg)) fun r224 t224 => hv_if (hv_ok ((x4) + ((1 : Int32))) L) (hv_if (hv_ok ((x4) + ((2 : Int32))) L) (hv_if (hv_ok ((x4) + ((3 : Int32))) L) (hv_b2 (mX8_place n (hv_sh 56 ((hv_mg 0 55 (σ) t224))) (xs ((x4) + ((1 : Int32))).toNatClampNeg) (xs ((x4) + ((2 : Int32))).toNatClampNeg) (xs ((x4) + ((3 : Int32))).toNatClampNeg)) fun r246 t246 => if r224 = r246 then (kL_law_1699 n L xs r23 (hv_mg 56 23 ((hv_mg 0 55 (σ) t224)) t246) (x4)) else (none)))))))
def kL_law_168 (n L : Nat) (xs : Nat → Int32) (r23 : hv_St → Int32 → Option Unit) (σ : hv_St) (x4 : Int32) : Option Unit := hv_if (hv_ok ((x4) + ((1 : Int32))) L) (hv_if (hv_ok ((x4) + ((2 : Int32))) L) (hv_b2 (mX7_pin n (hv_sh 0 (σ)) (xs ((x4) + ((1 : Int32))).toNatClampNeg) (xs ((x4) + ((2 : Int32))).toNatClampNeg)) fun r181 t181 => hv_if (hv_ok ((x4) + ((1 : Int32))) L) (hv_if (hv_ok ((x4) + ((2 : Int32))) L) (hv_b2 (mX8_pin n (hv_sh 56 ((hv_mg 0 55 (σ) t181))) (xs ((x4) + ((1 : Int32))).toNatClampNeg) (xs ((x4) + ((2 : Int32))).toNatClampNeg)) fun r197 t197 => if r181 = r197 then (kL_law_1699 n L xs r23 (hv_mg 56 23 ((hv_mg 0 55 (σ) t181)) t197) (x4)) else (none)))))
def kL_law_23_b (n L : Nat) (xs : Nat → Int32) (r23 : hv_St → Int32 → Option Unit) (σ : hv_St) (x4 : Int32) : Option Unit := if (Int32.ofNat L) - ((5 : Int32)) < x4 then (some ()) else (hv_if (hv_ok (x4) L) (hv_let ((xs (x4).toNatClampNeg) &&& ((31 : Int32))) fun y_39 => if y_39 = (0 : Int32) then (kL_law_168 n L xs r23 σ (x4)) else (if y_39 = (1 : Int32) then (kL_law_205 n L xs r23 σ (x4)) else (if y_39 = (2 : Int32) then (kL_law_254 n L xs r23 σ (x4)) else (if y_39 = (3 : Int32) then (kL_law_303 n L xs r23 σ (x4)) else (if y_39 = (4 : Int32) then (kL_law_356 n L xs r23 σ (x4)) else (if y_39 = (5 : Int32) then (kL_law_421 n L xs r23 σ (x4)) else (if y_39 = (6 : Int32) then (kL_law_486 n L xs r23 σ (x4)) else (if y_39 = (7 : Int32) then (kL_law_535 n L xs r23 σ (x4)) else (if y_39 = (8 : Int32) then (kL_law_548 n L xs r23 σ (x4)) else (if y_39 = (9 : Int32) then (kL_law_573 n L xs r23 σ (x4)) else (if y_39 = (10 : Int32) then (kL_law_586 n L xs r23 σ (x4)) else (if y_39 = (11 : Int32) then (kL_law_611 n L xs r23 σ (x4)) else (if y_39 = (12 : Int32) then (kL_law_636 n L xs r23 σ (x4)) else (if y_39 = (13 : Int32) then (kL_law_704 n L xs r23 σ (x4)) else (if y_39 = (14 : Int32) then (kL_law_772 n L xs r23 σ (x4)) else (if y_39 = (15 : Int32) then (kL_law_855 n L xs r23 σ (x4)) else (if y_39 = (16 : Int32) then (kL_law_950 n L xs r23 σ (x4)) else (if y_39 = (17 : Int32) then (kL_law_1045 n L xs r23 σ (x4)) else (if y_39 = (18 : Int32) then (kL_law_1140 n L xs r23 σ (x4)) else (if y_39 = (19 : Int32) then (kL_law_1247 n L xs r23 σ (x4)) else (if y_39 = (20 : Int32) then (kL_law_1342 n L xs r23 σ (x4)) else (if y_39 = (21 : Int32) then (kL_law_1367 n L xs r23 σ (x4)) else (if y_39 = (22 : Int32) then (kL_law_1392 n L xs r23 σ (x4)) else (if y_39 = (23 : Int32) then (kL_law_1405 n L xs r23 σ (x4)) else (if y_39 = (24 : Int32) then (kL_law_1500 n L xs r23 σ (x4)) else (if y_39 = (25 : Int32) then (kL_law_1525 n L xs r23 σ (x4)) else (if y_39 = (26 : Int32) then (kL_law_1550 n L xs r23 σ (x4)) else (if y_39 = (27 : Int32) then (kL_law_1645 n L xs r23 σ (x4)) else (if y_39 = (28 : Int32) then (kL_law_1658 n L xs r23 σ (x4)) else (kL_law_1699 n L xs r23 σ (x4))))))))))))))))))))))))))))))))
def kL_law_23 (n L : Nat) (xs : Nat → Int32) : Nat → hv_St → Int32 → Option Unit
  | 0 => fun _ _ => none
  | i + 1 => kL_law_23_b n L xs (kL_law_23 n L xs i)
end
section
/-! numbers of the machine as integers -/
abbrev iI (z : Int) : Int32 := Int32.ofInt z
abbrev iL (z : Int) : Int64 := Int64.ofInt z
def rI (z : Int) : Prop := -2147483648 < z ∧ z < 2147483648
def rL (z : Int) : Prop := -9223372036854775808 < z ∧ z < 9223372036854775808
theorem iI_toInt {z : Int} (h : rI z) : (iI z).toInt = z := Int32.toInt_ofInt_of_le (by have := h.1; omega) (by have := h.2; omega)
theorem iL_toInt {z : Int} (h : rL z) : (iL z).toInt = z := Int64.toInt_ofInt_of_le (by have := h.1; omega) (by have := h.2; omega)
theorem iI_of (x : Int32) : x = iI x.toInt := (Int32.ofInt_toInt x).symm
theorem iL_of (x : Int64) : x = iL x.toInt := (Int64.ofInt_toInt x).symm
theorem iI_add (a b : Int) : iI a + iI b = iI (a + b) := (Int32.ofInt_add a b).symm
theorem iI_sub (a b : Int) : iI a - iI b = iI (a - b) := (Int32.ofInt_sub a b).symm
theorem iI_mul (a b : Int) : iI a * iI b = iI (a * b) := (Int32.ofInt_mul a b).symm
theorem iI_neg (a : Int) : - iI a = iI (-a) := (Int32.ofInt_neg a).symm
theorem iL_add (a b : Int) : iL a + iL b = iL (a + b) := (Int64.ofInt_add a b).symm
theorem iL_sub (a b : Int) : iL a - iL b = iL (a - b) := (Int64.ofInt_sub a b).symm
theorem iL_mul (a b : Int) : iL a * iL b = iL (a * b) := (Int64.ofInt_mul a b).symm
theorem iL_neg (a : Int) : - iL a = iL (-a) := (Int64.ofInt_neg a).symm
theorem iI_eq {a b : Int} (ha : rI a) (hb : rI b) : iI a = iI b ↔ a = b := ⟨fun h => by rw [← iI_toInt ha, h, iI_toInt hb], fun h => by rw [h]⟩
theorem iI_le {a b : Int} (ha : rI a) (hb : rI b) : iI a ≤ iI b ↔ a ≤ b := by rw [Int32.le_iff_toInt_le, iI_toInt ha, iI_toInt hb]
theorem iI_lt {a b : Int} (ha : rI a) (hb : rI b) : iI a < iI b ↔ a < b := by rw [Int32.lt_iff_toInt_lt, iI_toInt ha, iI_toInt hb]
theorem iL_eq {a b : Int} (ha : rL a) (hb : rL b) : iL a = iL b ↔ a = b := ⟨fun h => by rw [← iL_toInt ha, h, iL_toInt hb], fun h => by rw [h]⟩
theorem iL_le {a b : Int} (ha : rL a) (hb : rL b) : iL a ≤ iL b ↔ a ≤ b := by rw [Int64.le_iff_toInt_le, iL_toInt ha, iL_toInt hb]
theorem iL_lt {a b : Int} (ha : rL a) (hb : rL b) : iL a < iL b ↔ a < b := by rw [Int64.lt_iff_toInt_lt, iL_toInt ha, iL_toInt hb]
theorem iL_div {a b : Int} (ha : rL a) (hb : rL b) : iL a / iL b = iL (a.tdiv b) := by
  refine (Int64.ofInt_tdiv ?_ ?_ ?_ ?_).symm
  · have := ha.1; show -9223372036854775808 ≤ a; omega
  · have := ha.2; show a ≤ 9223372036854775807; omega
  · have := hb.1; show -9223372036854775808 ≤ b; omega
  · have := hb.2; show b ≤ 9223372036854775807; omega
theorem iI_div {a b : Int} (ha : rI a) (hb : rI b) : iI a / iI b = iI (a.tdiv b) := by
  refine (Int32.ofInt_tdiv ?_ ?_ ?_ ?_).symm
  · have := ha.1; show -2147483648 ≤ a; omega
  · have := ha.2; show a ≤ 2147483647; omega
  · have := hb.1; show -2147483648 ≤ b; omega
  · have := hb.2; show b ≤ 2147483647; omega
theorem iI_L {a : Int} (h : rI a) : (iI a).toInt64 = iL a := by
  refine Int32.toInt64_ofInt ?_ ?_
  · have := h.1; show -2147483648 ≤ a; omega
  · have := h.2; show a ≤ 2147483647; omega
theorem nI_iI (n : Nat) : nI n = iI (n : Int) := (Int32.ofInt_eq_ofNat (n := n)).symm
theorem hv_ok_nI {k n : Nat} (h : k < n) (hn : n < 2 ^ 31) : hv_ok (nI k) n = true := decide_eq_true (vp_in_nI h hn)
theorem lg_cmp0 (x y : Int64) : lg_cmp x y = 0 ↔ x = y := by
  unfold lg_cmp
  by_cases h1 : y < x
  · rw [if_pos h1]
    constructor
    · intro h
      exact absurd h (by decide)
    · intro h
      subst h
      exact absurd h1 Int64.lt_irrefl
  · rw [if_neg h1]
    by_cases h2 : x = y
    · rw [if_pos h2]
      exact ⟨fun _ => h2, fun _ => rfl⟩
    · rw [if_neg h2]
      exact ⟨fun h => absurd h (by decide), fun h => absurd h h2⟩
end
section
/-! states: whole arrays put; indices -/
def hv_wJ (σ : hv_St) (c : Nat) (f : Nat → Int64) : hv_St := (σ.1, fun j => if j = c then f else σ.2 j)
def hv_wI (σ : hv_St) (c : Nat) (f : Nat → Int32) : hv_St := (fun j => if j = c then f else σ.1 j, σ.2)
theorem hv_wJ_1 (σ : hv_St) (c : Nat) (f : Nat → Int64) : (hv_wJ σ c f).1 = σ.1 := rfl
theorem hv_wI_2 (σ : hv_St) (c : Nat) (f : Nat → Int32) : (hv_wI σ c f).2 = σ.2 := rfl
theorem hv_wJ_at (σ : hv_St) (c : Nat) (f : Nat → Int64) : (hv_wJ σ c f).2 c = f := if_pos rfl
theorem hv_wI_at (σ : hv_St) (c : Nat) (f : Nat → Int32) : (hv_wI σ c f).1 c = f := if_pos rfl
theorem hv_wJ_ne (σ : hv_St) {c j : Nat} (f : Nat → Int64) (h : j ≠ c) : (hv_wJ σ c f).2 j = σ.2 j := if_neg h
theorem hv_wI_ne (σ : hv_St) {c j : Nat} (f : Nat → Int32) (h : j ≠ c) : (hv_wI σ c f).1 j = σ.1 j := if_neg h
theorem hv_wJ_self (σ : hv_St) (c : Nat) : hv_wJ σ c (σ.2 c) = σ := Prod.ext rfl (funext fun j => by
  show (if j = c then σ.2 c else σ.2 j) = σ.2 j
  by_cases h : j = c
  · rw [if_pos h, h]
  · rw [if_neg h])
theorem hv_wI_self (σ : hv_St) (c : Nat) : hv_wI σ c (σ.1 c) = σ := Prod.ext (funext fun j => by
  show (if j = c then σ.1 c else σ.1 j) = σ.1 j
  by_cases h : j = c
  · rw [if_pos h, h]
  · rw [if_neg h]) rfl
theorem hv_sJ_w (σ : hv_St) (c k : Nat) (v : Int64) : hv_sJ σ c k v = hv_wJ σ c (vp_updL (σ.2 c) k v) := Prod.ext rfl (funext fun j => by
  show (if j = c then vp_updL (σ.2 j) k v else σ.2 j) = if j = c then vp_updL (σ.2 c) k v else σ.2 j
  by_cases h : j = c
  · rw [if_pos h, if_pos h, h]
  · rw [if_neg h, if_neg h])
theorem hv_sI_w (σ : hv_St) (c k : Nat) (v : Int32) : hv_sI σ c k v = hv_wI σ c (upd (σ.1 c) k v) := Prod.ext (funext fun j => by
  show (if j = c then upd (σ.1 j) k v else σ.1 j) = if j = c then upd (σ.1 c) k v else σ.1 j
  by_cases h : j = c
  · rw [if_pos h, if_pos h, h]
  · rw [if_neg h, if_neg h]) rfl
theorem hv_wJ_w (σ : hv_St) (c : Nat) (f g : Nat → Int64) : hv_wJ (hv_wJ σ c f) c g = hv_wJ σ c g := Prod.ext rfl (funext fun j => by
  show (if j = c then g else if j = c then f else σ.2 j) = if j = c then g else σ.2 j
  by_cases h : j = c
  · rw [if_pos h, if_pos h]
  · rw [if_neg h, if_neg h, if_neg h])
theorem hv_wI_w (σ : hv_St) (c : Nat) (f g : Nat → Int32) : hv_wI (hv_wI σ c f) c g = hv_wI σ c g := Prod.ext (funext fun j => by
  show (if j = c then g else if j = c then f else σ.1 j) = if j = c then g else σ.1 j
  by_cases h : j = c
  · rw [if_pos h, if_pos h]
  · rw [if_neg h, if_neg h, if_neg h]) rfl
theorem hv_sJ_wJ (σ : hv_St) (c k : Nat) (f : Nat → Int64) (v : Int64) : hv_sJ (hv_wJ σ c f) c k v = hv_wJ σ c (vp_updL f k v) := by
  rw [hv_sJ_w, hv_wJ_w, hv_wJ_at]
theorem hv_sI_wI (σ : hv_St) (c k : Nat) (f : Nat → Int32) (v : Int32) : hv_sI (hv_wI σ c f) c k v = hv_wI σ c (upd f k v) := by
  rw [hv_sI_w, hv_wI_w, hv_wI_at]
theorem hv_if_t {ρ : Type} {b : Bool} (h : b = true) (k : Option ρ) : hv_if b k = k := by
  subst h
  rfl
theorem hv_let_e {τ ρ : Type} (x : τ) (k : τ → Option ρ) : hv_let x k = k x := rfl
theorem hv_bd_e {τ ρ : Type} (x : τ) (k : τ → Option ρ) : hv_bd (some x) k = k x := rfl
theorem hv_b2_e {τ ρ : Type} (x : τ) (σ : hv_St) (k : τ → hv_St → Option ρ) : hv_b2 (some (x, σ)) k = k x σ := rfl
theorem nI_mul' (a b : Nat) : nI a * nI b = nI (a * b) := (Int32.ofNat_mul a b).symm
theorem nI_12 (a b : Nat) : (12 : Int32) * nI a + nI b = nI (12 * a + b) := by
  rw [show (12 : Int32) = nI 12 from rfl, nI_mul', nI_add]
theorem nI_2 (a : Nat) : (2 : Int32) * nI a = nI (2 * a) := by
  rw [show (2 : Int32) = nI 2 from rfl, nI_mul']
end
section
/-! determinants over a list of rows and a list of columns, by the first row; the replacement identity (Cramer), the exchange identities -/
abbrev md_V : Type := Nat → Int
def md_alt (u : md_V → Int) : List md_V → (List md_V → Int) → Int
  | [], _ => 0
  | x :: c, Ψ => u x * Ψ c - md_alt u c (fun l => Ψ (x :: l))
theorem md_alt_add (u : md_V → Int) : ∀ (c : List md_V) (Ψ Φ : List md_V → Int), md_alt u c (fun l => Ψ l + Φ l) = md_alt u c Ψ + md_alt u c Φ
  | [], _, _ => rfl
  | x :: c, Ψ, Φ => by
    simp only [md_alt]
    rw [md_alt_add u c (fun l => Ψ (x :: l)) (fun l => Φ (x :: l))]
    grind
theorem md_alt_smul (u : md_V → Int) (k : Int) : ∀ (c : List md_V) (Ψ : List md_V → Int), md_alt u c (fun l => k * Ψ l) = k * md_alt u c Ψ
  | [], _ => by simp [md_alt]
  | x :: c, Ψ => by
    simp only [md_alt]
    rw [md_alt_smul u k c (fun l => Ψ (x :: l))]
    grind
theorem md_alt_zero (u : md_V → Int) : ∀ (c : List md_V), md_alt u c (fun _ => 0) = 0
  | [] => rfl
  | x :: c => by
    simp only [md_alt]
    rw [md_alt_zero u c]
    simp
theorem md_alt_neg (u : md_V → Int) (c : List md_V) (Ψ : List md_V → Int) : md_alt u c (fun l => - Ψ l) = - md_alt u c Ψ := by
  have h := md_alt_smul u (-1) c Ψ
  have e : (fun l => (-1 : Int) * Ψ l) = fun l => - Ψ l := funext fun l => by omega
  rw [e] at h
  omega
theorem md_alt_sub (u : md_V → Int) (c : List md_V) (Ψ Φ : List md_V → Int) : md_alt u c (fun l => Ψ l - Φ l) = md_alt u c Ψ - md_alt u c Φ := by
  have h := md_alt_add u c Ψ (fun l => - Φ l)
  rw [md_alt_neg] at h
  have e : (fun l => Ψ l - Φ l) = fun l => Ψ l + - Φ l := funext fun l => by omega
  rw [e, h]
  omega
theorem md_alt_anti (u w : md_V → Int) : ∀ (c : List md_V) (Φ : List md_V → Int), md_alt u c (fun l => md_alt w l Φ) = - md_alt w c (fun l => md_alt u l Φ)
  | [], _ => rfl
  | x :: c, Φ => by
    simp only [md_alt]
    rw [md_alt_sub u c (fun l => w x * Φ l), md_alt_sub w c (fun l => u x * Φ l), md_alt_smul, md_alt_smul, md_alt_anti u w c (fun l => Φ (x :: l))]
    grind
def md_D : List Nat → List md_V → Int
  | [], [] => 1
  | [], _ :: _ => 0
  | r :: R, c => md_alt (fun v => v r) c (md_D R)
theorem md_alt_swap (u : md_V → Int) : ∀ (pre : List md_V) (Ψ : List md_V → Int), (∀ pre x y post, Ψ (pre ++ x :: y :: post) = - Ψ (pre ++ y :: x :: post)) → ∀ x y post, md_alt u (pre ++ x :: y :: post) Ψ = - md_alt u (pre ++ y :: x :: post) Ψ
  | [], Ψ, h, x, y, post => by
    simp only [List.nil_append, md_alt]
    have e : (fun l => Ψ (x :: y :: l)) = fun l => - Ψ (y :: x :: l) := funext fun l => h [] x y l
    rw [e, md_alt_neg]
    grind
  | z :: pre, Ψ, h, x, y, post => by
    simp only [List.cons_append, md_alt]
    rw [h pre x y post, md_alt_swap u pre (fun l => Ψ (z :: l)) (fun p a b q => h (z :: p) a b q) x y post]
    grind
theorem md_D_swap : ∀ (R : List Nat) (pre : List md_V) (x y : md_V) (post : List md_V), md_D R (pre ++ x :: y :: post) = - md_D R (pre ++ y :: x :: post)
  | [], pre, x, y, post => by cases pre <;> rfl
  | r :: R, pre, x, y, post => md_alt_swap _ pre (md_D R) (md_D_swap R) x y post
theorem md_D_two (R : List Nat) : ∀ (mid pre : List md_V) (x : md_V) (post : List md_V), md_D R (pre ++ x :: (mid ++ x :: post)) = 0
  | [], pre, x, post => by
    have h := md_D_swap R pre x x post
    simp only [List.nil_append]
    omega
  | y :: mid, pre, x, post => by
    have h := md_D_two R mid (pre ++ [y]) x post
    rw [List.cons_append, md_D_swap R pre x y]
    simp only [List.append_assoc, List.cons_append, List.nil_append] at h
    rw [h]
    rfl
theorem md_D_row (R1 R2 : List Nat) (r s : Nat) : ∀ c, md_D (R1 ++ r :: s :: R2) c = - md_D (R1 ++ s :: r :: R2) c := by
  induction R1 with
  | nil => exact fun c => md_alt_anti _ _ c (md_D R2)
  | cons t R1 ih =>
    intro c
    simp only [List.cons_append, md_D]
    have e : md_D (R1 ++ r :: s :: R2) = fun l => - md_D (R1 ++ s :: r :: R2) l := funext ih
    rw [e, md_alt_neg]
/-- a functional that all of the rows' identities hold for -/
def md_Z (R : List Nat) (u : md_V → Int) : Prop := ∀ c, md_alt u c (md_D R) = 0
theorem md_alt_uadd (u w : md_V → Int) : ∀ (c : List md_V) (Ψ : List md_V → Int), md_alt (fun v => u v - w v) c Ψ = md_alt u c Ψ - md_alt w c Ψ
  | [], _ => rfl
  | x :: c, Ψ => by
    simp only [md_alt]
    rw [md_alt_uadd u w c]
    grind
theorem md_alt_usmul (k : Int) (u : md_V → Int) : ∀ (c : List md_V) (Ψ : List md_V → Int), md_alt (fun v => k * u v) c Ψ = k * md_alt u c Ψ
  | [], _ => by simp [md_alt]
  | x :: c, Ψ => by
    simp only [md_alt]
    rw [md_alt_usmul k u c]
    grind
theorem md_alt_uzero : ∀ (c : List md_V) (Ψ : List md_V → Int), md_alt (fun _ => 0) c Ψ = 0
  | [], _ => rfl
  | x :: c, Ψ => by
    simp only [md_alt]
    rw [md_alt_uzero c]
    simp
theorem md_Z_row : ∀ (R : List Nat) (r : Nat), r ∈ R → md_Z R (fun v => v r)
  | r0 :: R, r, h, c => by
    show md_alt (fun v => v r) c (fun l => md_alt (fun v => v r0) l (md_D R)) = 0
    rcases List.mem_cons.mp h with rfl | h
    · have := md_alt_anti (fun v => v r) (fun v => v r) c (md_D R)
      omega
    · rw [md_alt_anti]
      have e : (fun l => md_alt (fun v => v r) l (md_D R)) = fun _ => 0 := funext fun l => md_Z_row R r h l
      rw [e, md_alt_zero]
      rfl
theorem md_alt_fam (P : (md_V → Int) → Prop) (h0 : P (fun _ => 0)) (hs : ∀ (k : Int) u, P u → P (fun v => k * u v)) (ha : ∀ u w, P u → P w → P (fun v => u v - w v)) (w : md_V → Int) : ∀ (post : List md_V) (Θ : md_V → List md_V → Int), (∀ l, P (fun v => Θ v l)) → P (fun v => md_alt w post (Θ v))
  | [], _, _ => h0
  | z :: post, Θ, h => by
    simp only [md_alt]
    exact ha _ _ (hs _ _ (h post)) (md_alt_fam P h0 hs ha w post (fun v l => Θ v (z :: l)) (fun l => h (z :: l)))
theorem md_alt_ins (P : (md_V → Int) → Prop) (h0 : P (fun _ => 0)) (hs : ∀ (k : Int) u, P u → P (fun v => k * u v)) (ha : ∀ u w, P u → P w → P (fun v => u v - w v)) (w : md_V → Int) (hw : P w) : ∀ (pre : List md_V) (Ψ : List md_V → Int), (∀ pre post, P (fun v => Ψ (pre ++ v :: post))) → ∀ post, P (fun v => md_alt w (pre ++ v :: post) Ψ)
  | [], Ψ, h, post => by
    simp only [List.nil_append, md_alt]
    refine ha _ _ ?_ (md_alt_fam P h0 hs ha w post (fun v l => Ψ (v :: l)) (fun l => h [] l))
    have e : (fun v => w v * Ψ post) = fun v => Ψ post * w v := funext fun v => Int.mul_comm _ _
    rw [e]
    exact hs _ _ hw
  | z :: pre, Ψ, h, post => by
    simp only [List.cons_append, md_alt]
    exact ha _ _ (hs _ _ (h pre post)) (md_alt_ins P h0 hs ha w hw pre (fun l => Ψ (z :: l)) (fun p q => h (z :: p) q) post)
theorem md_ins (P : (md_V → Int) → Prop) (h0 : P (fun _ => 0)) (hs : ∀ (k : Int) u, P u → P (fun v => k * u v)) (ha : ∀ u w, P u → P w → P (fun v => u v - w v)) : ∀ (R : List Nat), (∀ r ∈ R, P (fun v => v r)) → ∀ pre post, P (fun v => md_D R (pre ++ v :: post))
  | [], _, pre, post => by
    have e : (fun v => md_D [] (pre ++ v :: post)) = fun _ => 0 := funext fun v => by cases pre <;> rfl
    rw [e]
    exact h0
  | r :: R, h, pre, post => md_alt_ins P h0 hs ha _ (h r List.mem_cons_self) pre (md_D R) (md_ins P h0 hs ha R (fun q hq => h q (List.mem_cons_of_mem _ hq))) post
theorem md_Z_ins (R : List Nat) (pre post : List md_V) : md_Z R (fun v => md_D R (pre ++ v :: post)) :=
  md_ins (md_Z R) (fun c => md_alt_uzero c _) (fun k u h c => by rw [md_alt_usmul, h c]; simp) (fun u w h1 h2 c => by rw [md_alt_uadd, h1 c, h2 c]; rfl) R (md_Z_row R) pre post
def md_lin (u : md_V → Int) : Prop := ∀ (k q : Int) (v w : md_V), u (fun r => k * v r + q * w r) = k * u v + q * u w
theorem md_lin_ins (R : List Nat) (pre post : List md_V) : md_lin (fun v => md_D R (pre ++ v :: post)) :=
  md_ins md_lin (fun k q v w => by simp) (fun k u h a b v w => by have e := h a b v w; show k * u _ = a * (k * u v) + b * (k * u w); rw [e]; grind) (fun u w h1 h2 a b v x => by have e1 := h1 a b v x; have e2 := h2 a b v x; show u _ - w _ = a * (u v - w v) + b * (u x - w x); rw [e1, e2]; grind) R (fun r _ k q v w => rfl) pre post
/-- a functional that looks at the rows alone -/
def md_on (R : List Nat) (u : md_V → Int) : Prop := ∀ v w : md_V, (∀ r ∈ R, v r = w r) → u v = u w
theorem md_on_ins (R : List Nat) (pre post : List md_V) : md_on R (fun v => md_D R (pre ++ v :: post)) :=
  md_ins (md_on R) (fun v w _ => rfl) (fun k u h v w e => by show k * u v = k * u w; rw [h v w e]) (fun u w h1 h2 v x e => by show u v - w v = u x - w x; rw [h1 v x e, h2 v x e]) R (fun r hr v w e => e r hr) pre post
def md_cl (A : Nat → md_V) : Nat → Nat → List md_V
  | _, 0 => []
  | s, n + 1 => A s :: md_cl A (s + 1) n
theorem md_cl_app (A : Nat → md_V) : ∀ (m s n : Nat), md_cl A s (m + n) = md_cl A s m ++ md_cl A (s + m) n
  | 0, s, n => by simp [md_cl]
  | m + 1, s, n => by
    rw [show m + 1 + n = (m + n) + 1 by omega]
    simp only [md_cl, List.cons_append]
    rw [md_cl_app A m (s + 1) n, show s + 1 + m = s + (m + 1) by omega]
theorem md_cl_congr {A B : Nat → md_V} : ∀ (n s : Nat), (∀ i, s ≤ i → i < s + n → A i = B i) → md_cl A s n = md_cl B s n
  | 0, _, _ => rfl
  | n + 1, s, h => by
    simp only [md_cl]
    rw [h s (Nat.le_refl _) (by omega), md_cl_congr n (s + 1) (fun i h1 h2 => h i (by omega) (by omega))]
def md_up (A : Nat → md_V) (i : Nat) (v : md_V) : Nat → md_V := fun j => if j = i then v else A j
theorem md_up_at (A : Nat → md_V) (i : Nat) (v : md_V) : md_up A i v i = v := if_pos rfl
theorem md_up_ne (A : Nat → md_V) {i j : Nat} (v : md_V) (h : j ≠ i) : md_up A i v j = A j := if_neg h
theorem md_up_self (A : Nat → md_V) (i : Nat) : md_up A i (A i) = A := funext fun j => by
  by_cases h : j = i
  · subst h; exact md_up_at _ _ _
  · exact md_up_ne _ _ h
theorem md_up_up (A : Nat → md_V) (i : Nat) (v w : md_V) : md_up (md_up A i v) i w = md_up A i w := funext fun j => by
  by_cases h : j = i
  · subst h; simp [md_up]
  · simp [md_up, h]
theorem md_up_comm (A : Nat → md_V) {i k : Nat} (v w : md_V) (h : i ≠ k) : md_up (md_up A i v) k w = md_up (md_up A k w) i v := funext fun j => by
  by_cases h1 : j = i
  · subst h1; simp [md_up, h]
  · by_cases h2 : j = k
    · subst h2; simp [md_up, h1]
    · simp [md_up, h1, h2]
def md_dt (R : List Nat) (A : Nat → md_V) (n : Nat) : Int := md_D R (md_cl A 0 n)
theorem md_dt_congr {R : List Nat} {A B : Nat → md_V} {n : Nat} (h : ∀ i, i < n → A i = B i) : md_dt R A n = md_dt R B n := by
  unfold md_dt
  rw [md_cl_congr n 0 (fun i _ h2 => h i (by omega))]
theorem md_cl_at (A : Nat → md_V) {i n : Nat} (h : i < n) : md_cl A 0 n = md_cl A 0 i ++ A i :: md_cl A (i + 1) (n - i - 1) := by
  have e : n = i + ((n - i - 1) + 1) := by omega
  rw [e, md_cl_app A i 0]
  simp only [md_cl, Nat.zero_add]
  rw [show i + (n - i - 1 + 1) - i - 1 = n - i - 1 by omega]
theorem md_cl_up (A : Nat → md_V) {i n : Nat} (h : i < n) (v : md_V) : md_cl (md_up A i v) 0 n = md_cl A 0 i ++ v :: md_cl A (i + 1) (n - i - 1) := by
  rw [md_cl_at _ h, md_up_at, md_cl_congr (A := md_up A i v) (B := A) i 0 (fun j _ h2 => md_up_ne _ _ (by omega)), md_cl_congr (A := md_up A i v) (B := A) (n - i - 1) (i + 1) (fun j h1 _ => md_up_ne _ _ (by omega))]
theorem md_dt_Z (R : List Nat) (A : Nat → md_V) {i n : Nat} (h : i < n) : md_Z R (fun v => md_dt R (md_up A i v) n) := by
  have e : (fun v => md_dt R (md_up A i v) n) = fun v => md_D R (md_cl A 0 i ++ v :: md_cl A (i + 1) (n - i - 1)) := funext fun v => by
    unfold md_dt
    rw [md_cl_up A h]
  rw [e]
  exact md_Z_ins R _ _
theorem md_dt_lin (R : List Nat) (A : Nat → md_V) {i n : Nat} (h : i < n) : md_lin (fun v => md_dt R (md_up A i v) n) := by
  have e : (fun v => md_dt R (md_up A i v) n) = fun v => md_D R (md_cl A 0 i ++ v :: md_cl A (i + 1) (n - i - 1)) := funext fun v => by
    unfold md_dt
    rw [md_cl_up A h]
  rw [e]
  exact md_lin_ins R _ _
theorem md_dt_on (R : List Nat) (A : Nat → md_V) {i n : Nat} (h : i < n) : md_on R (fun v => md_dt R (md_up A i v) n) := by
  have e : (fun v => md_dt R (md_up A i v) n) = fun v => md_D R (md_cl A 0 i ++ v :: md_cl A (i + 1) (n - i - 1)) := funext fun v => by
    unfold md_dt
    rw [md_cl_up A h]
  rw [e]
  exact md_on_ins R _ _
theorem md_dt_eq0 (R : List Nat) (A : Nat → md_V) {i j n : Nat} (hij : i < j) (hj : j < n) (h : A i = A j) : md_dt R A n = 0 := by
  unfold md_dt
  rw [md_cl_at A (show i < n by omega)]
  have e : n - i - 1 = (j - i - 1) + ((n - j - 1) + 1) := by omega
  rw [e, md_cl_app A (j - i - 1) (i + 1)]
  simp only [md_cl]
  rw [show i + 1 + (j - i - 1) = j by omega, ← h]
  exact md_D_two R _ _ _ _
theorem md_dt_eq (R : List Nat) (A : Nat → md_V) {i j n : Nat} (hij : i ≠ j) (hi : i < n) (hj : j < n) (h : A i = A j) : md_dt R A n = 0 := by
  rcases Nat.lt_or_gt_of_ne hij with q | q
  · exact md_dt_eq0 R A q hj h
  · exact md_dt_eq0 R A q hi h.symm
theorem md_dt_swap (R : List Nat) (A : Nat → md_V) {p q n : Nat} (hpq : p ≠ q) (hp : p < n) (hq : q < n) (x y : md_V) : md_dt R (md_up (md_up A p x) q y) n = - md_dt R (md_up (md_up A p y) q x) n := by
  have hz : ∀ v : md_V, md_dt R (md_up (md_up A p v) q v) n = 0 := fun v => md_dt_eq R _ hpq hp hq (by rw [md_up_at, md_up_ne _ _ hpq, md_up_at])
  have l2 : ∀ (v a b : md_V), md_dt R (md_up (md_up A p v) q (fun r => 1 * a r + 1 * b r)) n = 1 * md_dt R (md_up (md_up A p v) q a) n + 1 * md_dt R (md_up (md_up A p v) q b) n := fun v a b => md_dt_lin R (md_up A p v) hq 1 1 a b
  have l1 : ∀ (v a b : md_V), md_dt R (md_up (md_up A p (fun r => 1 * a r + 1 * b r)) q v) n = 1 * md_dt R (md_up (md_up A p a) q v) n + 1 * md_dt R (md_up (md_up A p b) q v) n := fun v a b => by
    rw [md_up_comm A _ v hpq, md_up_comm A a v hpq, md_up_comm A b v hpq]
    exact md_dt_lin R (md_up A q v) hp 1 1 a b
  have h := hz (fun r => 1 * x r + 1 * y r)
  rw [l2, l1, l1, hz x, hz y] at h
  omega
def md_S : Nat → Nat → (Nat → Int) → Int
  | _, 0, _ => 0
  | s, n + 1, f => f s + md_S (s + 1) n f
theorem md_S_congr {f g : Nat → Int} : ∀ (n s : Nat), (∀ i, s ≤ i → i < s + n → f i = g i) → md_S s n f = md_S s n g
  | 0, _, _ => rfl
  | n + 1, s, h => by
    simp only [md_S]
    rw [h s (Nat.le_refl _) (by omega), md_S_congr n (s + 1) (fun i h1 h2 => h i (by omega) (by omega))]
theorem md_S_zero : ∀ (n s : Nat) (f : Nat → Int), (∀ i, s ≤ i → i < s + n → f i = 0) → md_S s n f = 0
  | 0, _, _, _ => rfl
  | n + 1, s, f, h => by
    simp only [md_S]
    rw [h s (Nat.le_refl _) (by omega), md_S_zero n (s + 1) f (fun i h1 h2 => h i (by omega) (by omega))]
    rfl
theorem md_S_add (f g : Nat → Int) : ∀ (n s : Nat), md_S s n (fun i => f i + g i) = md_S s n f + md_S s n g
  | 0, _ => rfl
  | n + 1, s => by
    simp only [md_S]
    rw [md_S_add f g n (s + 1)]
    omega
theorem md_S_smul (k : Int) (f : Nat → Int) : ∀ (n s : Nat), md_S s n (fun i => k * f i) = k * md_S s n f
  | 0, _ => by simp [md_S]
  | n + 1, s => by
    simp only [md_S]
    rw [md_S_smul k f n (s + 1)]
    grind
theorem md_S_one (f : Nat → Int) : ∀ (n s p : Nat), s ≤ p → p < s + n → (∀ i, s ≤ i → i < s + n → i ≠ p → f i = 0) → md_S s n f = f p
  | 0, s, p, h1, h2, _ => absurd h2 (by omega)
  | n + 1, s, p, h1, h2, h => by
    simp only [md_S]
    by_cases e : s = p
    · subst e
      rw [md_S_zero n (s + 1) f (fun i q1 q2 => h i (by omega) (by omega) (by omega))]
      omega
    · rw [h s (Nat.le_refl _) (by omega) e, md_S_one f n (s + 1) p (by omega) (by omega) (fun i q1 q2 => h i (by omega) (by omega))]
      omega
theorem md_S_two (f : Nat → Int) {n p q : Nat} (hpq : p ≠ q) (hp : p < n) (hq : q < n) (h : ∀ i, i < n → i ≠ p → i ≠ q → f i = 0) : md_S 0 n f = f p + f q := by
  have e : md_S 0 n f = md_S 0 n (fun i => (if i = p then f i else 0) + (if i = p then 0 else f i)) := md_S_congr n 0 (fun i _ _ => by by_cases e : i = p <;> simp [e])
  rw [e, md_S_add, md_S_one _ n 0 p (by omega) (by omega) (fun i _ _ e => by simp [e]), md_S_one _ n 0 q (by omega) (by omega) (fun i _ h2 e => by
    by_cases e2 : i = p
    · simp [e2]
    · simp [e2, h i (by omega) e2 e])]
  simp [Ne.symm hpq]
theorem md_S_three (f : Nat → Int) {n p q r : Nat} (hpq : p ≠ q) (hpr : p ≠ r) (hqr : q ≠ r) (hp : p < n) (hq : q < n) (hr : r < n) (h : ∀ i, i < n → i ≠ p → i ≠ q → i ≠ r → f i = 0) : md_S 0 n f = f p + f q + f r := by
  have e : md_S 0 n f = md_S 0 n (fun i => (if i = p then f i else 0) + (if i = p then 0 else f i)) := md_S_congr n 0 (fun i _ _ => by by_cases e : i = p <;> simp [e])
  rw [e, md_S_add, md_S_one _ n 0 p (by omega) (by omega) (fun i _ _ e => by simp [e]), md_S_two _ hqr hq hr (fun i h2 e1 e3 => by
    by_cases e2 : i = p
    · simp [e2]
    · simp [e2, h i (by omega) e2 e1 e3])]
  simp [Ne.symm hpq, Ne.symm hpr]
  omega
def md_sg : Nat → Int
  | 0 => 1
  | n + 1 => - md_sg n
theorem md_sg2 : ∀ n, md_sg n * md_sg n = 1
  | 0 => rfl
  | n + 1 => by
    simp only [md_sg]
    rw [Int.neg_mul_neg]
    exact md_sg2 n
theorem md_D_move (R : List Nat) (v : md_V) : ∀ (pre q l : List md_V), md_D R (q ++ v :: (pre ++ l)) = md_sg pre.length * md_D R (q ++ (pre ++ v :: l))
  | [], q, l => by simp [md_sg]
  | y :: pre, q, l => by
    have h := md_D_move R v pre (q ++ [y]) l
    simp only [List.append_assoc, List.cons_append, List.nil_append] at h
    rw [List.cons_append, md_D_swap R q v y, h]
    simp only [List.length_cons, md_sg, List.cons_append]
    grind
theorem md_alt_rep (R : List Nat) (u : md_V → Int) (A : Nat → md_V) (v : md_V) : ∀ (n s : Nat) (pre : List md_V), md_alt u (md_cl A s n) (fun l => md_D R (v :: (pre ++ l))) = md_sg pre.length * md_S s n (fun i => md_D R (pre ++ md_cl (md_up A i v) s n) * u (A i))
  | 0, s, pre => by simp [md_cl, md_alt, md_S]
  | n + 1, s, pre => by
    have h := md_alt_rep R u A v n (s + 1) (pre ++ [A s])
    simp only [List.append_assoc, List.cons_append, List.nil_append, List.length_append, List.length_cons, List.length_nil] at h
    have hm := md_D_move R v pre [] (md_cl A (s + 1) n)
    simp only [List.nil_append] at hm
    simp only [md_cl, md_alt, md_S]
    rw [h, hm, md_up_at, md_cl_congr (A := md_up A s v) (B := A) n (s + 1) (fun j h1 _ => md_up_ne _ _ (by omega)), md_S_congr (f := fun i => md_D R (pre ++ md_up A i v s :: md_cl (md_up A i v) (s + 1) n) * u (A i)) (g := fun i => md_D R (pre ++ A s :: md_cl (md_up A i v) (s + 1) n) * u (A i)) n (s + 1) (fun i h1 _ => by rw [md_up_ne _ _ (by omega)])]
    simp only [Nat.zero_add, md_sg]
    grind
/-- Cramer's identity: a functional of the rows at v, by the columns -/
theorem md_cramer {R : List Nat} {u : md_V → Int} (hu : md_Z R u) (A : Nat → md_V) (v : md_V) (n : Nat) : md_dt R A n * u v = md_S 0 n (fun i => md_dt R (md_up A i v) n * u (A i)) := by
  have h := hu (v :: md_cl A 0 n)
  simp only [md_alt] at h
  have h2 := md_alt_rep R u A v n 0 []
  simp only [List.nil_append, List.length_nil, md_sg] at h2
  rw [h2] at h
  unfold md_dt
  grind
/-- two columns exchanged -/
theorem md_plu (R : List Nat) (A : Nat → md_V) {p r n : Nat} (hpr : p ≠ r) (hp : p < n) (hr : r < n) (x v : md_V) : md_dt R A n * md_dt R (md_up (md_up A p x) r v) n = md_dt R (md_up A p x) n * md_dt R (md_up A r v) n - md_dt R (md_up A r x) n * md_dt R (md_up A p v) n := by
  rw [md_cramer (md_dt_Z R (md_up A p x) hr) A v n, md_S_two _ hpr hp hr (fun i hi h1 h2 => by
    rw [md_dt_eq R (md_up (md_up A p x) r (A i)) h2 hi hr (by rw [md_up_ne _ _ h2, md_up_ne _ _ h1, md_up_at])]
    simp)]
  rw [md_dt_swap R A hpr hp hr x (A p), md_up_self]
  have e : md_up (md_up A p x) r (A r) = md_up A p x := by
    have := md_up_self (md_up A p x) r
    rw [md_up_ne _ _ (Ne.symm hpr)] at this
    exact this
  rw [e]
  grind
/-- three columns exchanged -/
theorem md_plu3 (R : List Nat) (A : Nat → md_V) {p q r n : Nat} (hpq : p ≠ q) (hpr : p ≠ r) (hqr : q ≠ r) (hp : p < n) (hq : q < n) (hr : r < n) (x y v : md_V) : md_dt R A n * md_dt R (md_up (md_up (md_up A p x) q y) r v) n = md_dt R (md_up A r v) n * md_dt R (md_up (md_up A p x) q y) n - md_dt R (md_up A p v) n * md_dt R (md_up (md_up A r x) q y) n - md_dt R (md_up A q v) n * md_dt R (md_up (md_up A p x) r y) n := by
  rw [md_cramer (md_dt_Z R (md_up (md_up A p x) q y) hr) A v n, md_S_three _ hpq hpr hqr hp hq hr (fun i hi h1 h2 h3 => by
    rw [md_dt_eq R (md_up (md_up (md_up A p x) q y) r (A i)) h3 hi hr (by rw [md_up_ne _ _ h3, md_up_ne _ _ h2, md_up_ne _ _ h1, md_up_at])]
    simp)]
  have e1 : md_dt R (md_up (md_up (md_up A p x) q y) r (A p)) n = - md_dt R (md_up (md_up A r x) q y) n := by
    rw [md_up_comm A x y hpq, md_dt_swap R (md_up A q y) hpr hp hr x (A p)]
    have := md_up_self (md_up A q y) p
    rw [md_up_ne _ _ hpq] at this
    rw [this, md_up_comm A y x hqr]
  have e2 : md_dt R (md_up (md_up (md_up A p x) q y) r (A q)) n = - md_dt R (md_up (md_up A p x) r y) n := by
    rw [md_dt_swap R (md_up A p x) hqr hq hr y (A q)]
    have := md_up_self (md_up A p x) q
    rw [md_up_ne _ _ (Ne.symm hpq)] at this
    rw [this]
  have e3 : md_up (md_up (md_up A p x) q y) r (A r) = md_up (md_up A p x) q y := by
    have := md_up_self (md_up (md_up A p x) q y) r
    rw [md_up_ne _ _ (Ne.symm hqr), md_up_ne _ _ (Ne.symm hpr)] at this
    exact this
  rw [e1, e2, e3]
  grind
end
section
/-! how large a determinant is: columns of a graph have determinants 0, 1, -1; sums of such by their weights -/
theorem md_D_zero (R : List Nat) (pre post : List md_V) (v : md_V) (h : ∀ r ∈ R, v r = 0) : md_D R (pre ++ v :: post) = 0 := by
  have h1 := md_on_ins R pre post v (fun r => 0 * v r + 0 * v r) (fun r hr => by rw [h r hr]; rfl)
  have h2 := md_lin_ins R pre post 0 0 v v
  have h3 := h1.trans h2
  simp only [Int.zero_mul, Int.add_zero] at h3
  exact h3
theorem md_D_rowmove (R2 : List Nat) (r : Nat) : ∀ (R1 : List Nat) (c : List md_V), md_D (R1 ++ r :: R2) c = md_sg R1.length * md_D (r :: (R1 ++ R2)) c
  | [], c => by simp [md_sg]
  | t :: R1, c => by
    have e : md_D (R1 ++ r :: R2) = fun l => md_sg R1.length * md_D (r :: (R1 ++ R2)) l := funext (md_D_rowmove R2 r R1)
    have e2 : md_D (t :: r :: (R1 ++ R2)) c = - md_D (r :: t :: (R1 ++ R2)) c := md_D_row [] (R1 ++ R2) t r c
    simp only [List.cons_append, List.length_cons]
    show md_alt (fun v => v t) c (md_D (R1 ++ r :: R2)) = _
    rw [e, md_alt_smul]
    show md_sg R1.length * md_D (t :: r :: (R1 ++ R2)) c = _
    rw [e2]
    simp only [md_sg]
    grind
theorem md_sg_abs : ∀ n, md_sg n = 1 ∨ md_sg n = -1
  | 0 => Or.inl rfl
  | n + 1 => by
    simp only [md_sg]
    rcases md_sg_abs n with h | h <;> rw [h]
    · exact Or.inr rfl
    · exact Or.inl rfl
def md_le1 (x : Int) : Prop := x = 0 ∨ x = 1 ∨ x = -1
theorem md_le1_neg {x : Int} (h : md_le1 x) : md_le1 (-x) := by
  rcases h with rfl | rfl | rfl
  · exact Or.inl rfl
  · exact Or.inr (Or.inr rfl)
  · exact Or.inr (Or.inl rfl)
theorem md_le1_sg {x : Int} (n : Nat) (h : md_le1 x) : md_le1 (md_sg n * x) := by
  rcases md_sg_abs n with e | e <;> rw [e]
  · rw [Int.one_mul]; exact h
  · have : -1 * x = -x := by omega
    rw [this]; exact md_le1_neg h
theorem md_le1_mul {x y : Int} (h : md_le1 x) (q : md_le1 y) : md_le1 (x * y) := by
  rcases h with rfl | rfl | rfl
  · rw [Int.zero_mul]; exact Or.inl rfl
  · rw [Int.one_mul]; exact q
  · have : -1 * y = -y := by omega
    rw [this]; exact md_le1_neg q
/-- a column of a graph: at most one 1, at most one -1 -/
def md_net (R : List Nat) (v : md_V) : Prop := (∀ r ∈ R, md_le1 (v r)) ∧ (∀ r ∈ R, ∀ s ∈ R, v r = 1 → v s = 1 → r = s) ∧ (∀ r ∈ R, ∀ s ∈ R, v r = -1 → v s = -1 → r = s)
theorem md_net_sub {R R' : List Nat} {v : md_V} (h : md_net R v) (hs : ∀ r ∈ R', r ∈ R) : md_net R' v := ⟨fun r hr => h.1 r (hs r hr), fun r hr s q => h.2.1 r (hs r hr) s (hs s q), fun r hr s q => h.2.2 r (hs r hr) s (hs s q)⟩
def md_su (R : List Nat) (v : md_V) : Int := match R with
  | [] => 0
  | r :: R => v r + md_su R v
theorem md_su_none : ∀ (R : List Nat) (v : md_V), (∀ r ∈ R, v r = 0) → md_su R v = 0
  | [], _, _ => rfl
  | r :: R, v, h => by
    simp only [md_su]
    rw [h r List.mem_cons_self, md_su_none R v (fun s hs => h s (List.mem_cons_of_mem _ hs))]
    rfl
theorem md_su_one : ∀ (R : List Nat) (v : md_V) (r : Nat), R.Nodup → r ∈ R → (∀ s ∈ R, s ≠ r → v s = 0) → md_su R v = v r
  | t :: R, v, r, hn, hr, h => by
    have hn' := List.nodup_cons.mp hn
    simp only [md_su]
    by_cases e : t = r
    · subst e
      rw [md_su_none R v (fun s hs => h s (List.mem_cons_of_mem _ hs) (fun q => hn'.1 (q ▸ hs)))]
      omega
    · rw [h t List.mem_cons_self e, md_su_one R v r hn'.2 (by rcases List.mem_cons.mp hr with q | q; exact absurd q.symm e; exact q) (fun s hs => h s (List.mem_cons_of_mem _ hs))]
      omega
theorem md_su_two : ∀ (R : List Nat) (v : md_V) (r s : Nat), R.Nodup → r ∈ R → s ∈ R → r ≠ s → (∀ t ∈ R, t ≠ r → t ≠ s → v t = 0) → md_su R v = v r + v s
  | t :: R, v, r, s, hn, hr, hs, hne, h => by
    have hn' := List.nodup_cons.mp hn
    simp only [md_su]
    by_cases e : t = r
    · subst e
      have hs' : s ∈ R := by rcases List.mem_cons.mp hs with q | q; exact absurd q.symm hne; exact q
      rw [md_su_one R v s hn'.2 hs' (fun q hq h2 => h q (List.mem_cons_of_mem _ hq) (fun z => hn'.1 (z ▸ hq)) h2)]
    · by_cases e2 : t = s
      · subst e2
        have hr' : r ∈ R := by rcases List.mem_cons.mp hr with q | q; exact absurd q hne; exact q
        rw [md_su_one R v r hn'.2 hr' (fun q hq h2 => h q (List.mem_cons_of_mem _ hq) h2 (fun z => hn'.1 (z ▸ hq)))]
        omega
      · rw [h t List.mem_cons_self e e2, md_su_two R v r s hn'.2 (by rcases List.mem_cons.mp hr with q | q; exact absurd q.symm e; exact q) (by rcases List.mem_cons.mp hs with q | q; exact absurd q.symm e2; exact q) hne (fun q hq => h q (List.mem_cons_of_mem _ hq))]
        omega
theorem md_su_Z : ∀ (R R' : List Nat), (∀ r ∈ R', r ∈ R) → md_Z R (md_su R')
  | R, [], _ => fun c => md_alt_uzero c _
  | R, r :: R', h => by
    intro c
    have h1 := md_Z_row R r (h r List.mem_cons_self) c
    have h2 := md_su_Z R R' (fun s hs => h s (List.mem_cons_of_mem _ hs)) c
    have e : md_su (r :: R') = fun v => v r - (-1) * md_su R' v := funext fun v => by
      simp only [md_su]
      omega
    rw [e, md_alt_uadd, md_alt_usmul, h1, h2]
    rfl
theorem md_alt_kill (u : md_V → Int) : ∀ (c : List md_V) (Ψ : List md_V → Int), (∀ v ∈ c, u v = 0) → md_alt u c Ψ = 0
  | [], _, _ => rfl
  | x :: c, Ψ, h => by
    simp only [md_alt]
    rw [h x List.mem_cons_self, md_alt_kill u c _ (fun v hv => h v (List.mem_cons_of_mem _ hv))]
    simp
theorem md_tu : ∀ (k : Nat) (R : List Nat), R.length = k → R.Nodup → ∀ c : List md_V, (∀ v ∈ c, md_net R v) → md_le1 (md_D R c)
  | 0, R, hk, _, c, _ => by
    have : R = [] := List.length_eq_zero_iff.mp hk
    subst this
    cases c with
    | nil => exact Or.inr (Or.inl rfl)
    | cons x c => exact Or.inl rfl
  | k + 1, R, hk, hn, c, hc => by
    by_cases h1 : ∃ v ∈ c, ∃ r ∈ R, v r ≠ 0 ∧ ∀ s ∈ R, s ≠ r → v s = 0
    · obtain ⟨v, hv, r, hr, h0, hz⟩ := h1
      obtain ⟨pre, post, rfl⟩ := List.append_of_mem hv
      obtain ⟨R1, R2, rfl⟩ := List.append_of_mem hr
      have hsub : ∀ s ∈ R1 ++ R2, s ∈ R1 ++ r :: R2 := fun s hs => by
        rcases List.mem_append.mp hs with q | q
        · exact List.mem_append_left _ q
        · exact List.mem_append_right _ (List.mem_cons_of_mem _ q)
      have hn2 : (R1 ++ R2).Nodup ∧ r ∉ R1 ++ R2 := by
        have := (List.perm_middle.nodup_iff).mp hn
        have := List.nodup_cons.mp this
        exact ⟨this.2, this.1⟩
      have hm := md_D_move (r :: (R1 ++ R2)) v pre [] post
      simp only [List.nil_append] at hm
      have hd : md_D (r :: (R1 ++ R2)) (v :: (pre ++ post)) = v r * md_D (R1 ++ R2) (pre ++ post) := by
        show md_alt (fun v => v r) (v :: (pre ++ post)) (md_D (R1 ++ R2)) = _
        simp only [md_alt]
        have e : (fun l => md_D (R1 ++ R2) (v :: l)) = fun _ => 0 := funext fun l => md_D_zero (R1 ++ R2) [] l v (fun s hs => hz s (hsub s hs) (fun q => hn2.2 (q ▸ hs)))
        rw [e, md_alt_zero]
        omega
      have ih := md_tu k (R1 ++ R2) (by simp at hk ⊢; omega) hn2.1 (pre ++ post) (fun w hw => md_net_sub (hc w (by
        rcases List.mem_append.mp hw with q | q
        · exact List.mem_append_left _ q
        · exact List.mem_append_right _ (List.mem_cons_of_mem _ q))) hsub)
      have hvr : md_le1 (v r) := (hc v (List.mem_append_right _ List.mem_cons_self)).1 r hr
      rw [md_D_rowmove]
      refine md_le1_sg _ ?_
      have h2 : md_D (r :: (R1 ++ R2)) (pre ++ v :: post) = md_sg pre.length * (v r * md_D (R1 ++ R2) (pre ++ post)) := by
        rw [← hd, hm, ← Int.mul_assoc, md_sg2, Int.one_mul]
      rw [h2]
      exact md_le1_sg _ (md_le1_mul hvr ih)
    · have hs : ∀ v ∈ c, md_su R v = 0 := by
        intro v hv
        have hnv := hc v hv
        by_cases hp : ∃ r ∈ R, v r = 1
        · obtain ⟨r, hr, er⟩ := hp
          by_cases hq : ∃ s ∈ R, v s = -1
          · obtain ⟨s, hs, es⟩ := hq
            rw [md_su_two R v r s hn hr hs (fun q => by rw [q, es] at er; cases er) (fun t ht h2 h3 => by
              rcases hnv.1 t ht with q | q | q
              · exact q
              · exact absurd (hnv.2.1 t ht r hr q er) h2
              · exact absurd (hnv.2.2 t ht s hs q es) h3), er, es]
            rfl
          · exact absurd ⟨v, hv, r, hr, by rw [er]; decide, fun s hs h2 => by
              rcases hnv.1 s hs with q | q | q
              · exact q
              · exact absurd (hnv.2.1 s hs r hr q er) h2
              · exact absurd ⟨s, hs, q⟩ hq⟩ h1
        · by_cases hq : ∃ s ∈ R, v s = -1
          · obtain ⟨s, hs, es⟩ := hq
            exact absurd ⟨v, hv, s, hs, by rw [es]; decide, fun t ht h2 => by
              rcases hnv.1 t ht with q | q | q
              · exact q
              · exact absurd ⟨t, ht, q⟩ hp
              · exact absurd (hnv.2.2 t ht s hs q es) h2⟩ h1
          · exact md_su_none R v (fun t ht => by
              rcases hnv.1 t ht with q | q | q
              · exact q
              · exact absurd ⟨t, ht, q⟩ hp
              · exact absurd ⟨t, ht, q⟩ hq)
      cases R with
      | nil => cases hk
      | cons r R =>
        have hz := md_su_Z (r :: R) (r :: R) (fun _ h => h) ((fun j => if j = r then 1 else 0) :: c)
        simp only [md_alt] at hz
        rw [md_alt_kill _ c _ hs] at hz
        have hn' := List.nodup_cons.mp hn
        have e : md_su (r :: R) (fun j => if j = r then 1 else 0) = 1 := by
          simp only [md_su]
          rw [md_su_none R _ (fun s hs => by
            have : s ≠ r := fun q => hn'.1 (q ▸ hs)
            simp [this])]
          simp
        rw [e] at hz
        exact Or.inl (by omega)
/-- a column of weight w: as a sum of w columns of a graph, for all that is linear -/
def md_W (R : List Nat) (v : md_V) (w : Nat) : Prop := ∀ u : md_V → Int, md_lin u → md_on R u → ∀ B : Nat, (∀ x, md_net R x → (u x).natAbs ≤ B) → (u v).natAbs ≤ w * B
theorem md_W_net {R : List Nat} {v : md_V} (h : md_net R v) : md_W R v 1 := fun u _ _ B hB => by
  rw [Nat.one_mul]
  exact hB v h
theorem md_W_le {R : List Nat} {v : md_V} {w w' : Nat} (h : md_W R v w) (hw : w ≤ w') : md_W R v w' := fun u h1 h2 B hB => Nat.le_trans (h u h1 h2 B hB) (Nat.mul_le_mul_right _ hw)
theorem md_W_on {R : List Nat} {v v' : md_V} {w : Nat} (h : md_W R v w) (e : ∀ r ∈ R, v' r = v r) : md_W R v' w := fun u h1 h2 B hB => by
  rw [h2 v' v e]
  exact h u h1 h2 B hB
theorem md_W_lin {R : List Nat} {x y : md_V} {a b : Nat} (hx : md_W R x a) (hy : md_W R y b) (k q : Int) : md_W R (fun r => k * x r + q * y r) (k.natAbs * a + q.natAbs * b) := fun u h1 h2 B hB => by
  rw [h1 k q x y]
  have e1 := hx u h1 h2 B hB
  have e2 := hy u h1 h2 B hB
  refine Nat.le_trans (Int.natAbs_add_le _ _) ?_
  rw [Int.natAbs_mul, Int.natAbs_mul, Nat.add_mul, Nat.mul_assoc, Nat.mul_assoc]
  exact Nat.add_le_add (Nat.mul_le_mul_left _ e1) (Nat.mul_le_mul_left _ e2)
theorem md_W_zero {R : List Nat} : md_W R (fun _ => 0) 0 := fun u h1 h2 B hB => by
  have h := h1 0 0 (fun _ => 0) (fun _ => 0)
  simp at h
  have e : u (fun _ => 0) = 0 := by
    have e0 : (fun r : Nat => (0 : Int)) = fun _ => 0 := rfl
    omega
  rw [e]
  simp
def md_P : List Nat → Nat
  | [] => 1
  | w :: l => w * md_P l
theorem md_bound {R : List Nat} (hn : R.Nodup) : ∀ (cw : List (md_V × Nat)) (pre : List md_V), (∀ v ∈ pre, md_net R v) → (∀ q ∈ cw, md_W R q.1 q.2) → (md_D R (pre ++ cw.map (fun q => q.1))).natAbs ≤ md_P (cw.map (fun q => q.2))
  | [], pre, hp, _ => by
    have h := md_tu R.length R rfl hn pre hp
    simp only [List.map_nil, List.append_nil, md_P]
    rcases h with e | e | e <;> rw [e] <;> decide
  | (v, w) :: cw, pre, hp, hw => by
    simp only [List.map_cons, md_P]
    refine hw (v, w) List.mem_cons_self (fun x => md_D R (pre ++ x :: cw.map (fun q => q.1))) (md_lin_ins R pre _) (md_on_ins R pre _) (md_P (cw.map (fun q => q.2))) (fun x hx => ?_)
    have h := md_bound hn cw (pre ++ [x]) (fun y hy => by
      rcases List.mem_append.mp hy with q | q
      · exact hp y q
      · rw [List.mem_singleton.mp q]; exact hx) (fun q hq => hw q (List.mem_cons_of_mem _ hq))
    simp only [List.append_assoc, List.cons_append, List.nil_append] at h
    exact h
end
section
/-! tableaus: the units as a basis, swaps, pivots; spans by functionals; the greedy base -/
def md_e (k : Nat) : md_V := fun j => if j = k then 1 else 0
theorem md_cl_mem {A : Nat → md_V} : ∀ (n s : Nat) {v : md_V}, v ∈ md_cl A s n → ∃ i, (s ≤ i ∧ i < s + n) ∧ v = A i
  | 0, _, _, h => by cases h
  | n + 1, s, v, h => by
    rcases List.mem_cons.mp h with h | h
    · exact ⟨s, ⟨by omega, by omega⟩, h⟩
    · obtain ⟨i, h1, h2⟩ := md_cl_mem n (s + 1) h
      exact ⟨i, ⟨by omega, by omega⟩, h2⟩
theorem md_D_e : ∀ (n s : Nat), md_D (List.range' s n) (md_cl md_e s n) = 1
  | 0, _ => rfl
  | n + 1, s => by
    show md_alt (fun v => v s) (md_e s :: md_cl md_e (s + 1) n) (md_D (List.range' (s + 1) n)) = 1
    simp only [md_alt]
    rw [md_D_e n (s + 1), md_alt_kill]
    · show (if s = s then (1 : Int) else 0) * 1 - 0 = 1
      rw [if_pos rfl]
      rfl
    · intro v hv
      obtain ⟨i, h1, rfl⟩ := md_cl_mem n (s + 1) hv
      show (if s = i then (1 : Int) else 0) = 0
      exact if_neg (by omega)
theorem md_dt_e (n : Nat) : md_dt (List.range n) md_e n = 1 := by
  rw [List.range_eq_range']
  exact md_D_e n 0
theorem md_T_e {n k : Nat} (h : k < n) (X : md_V) : md_dt (List.range n) (md_up md_e k X) n = X k := by
  have h1 := md_cramer (md_Z_row (List.range n) k (List.mem_range.mpr h)) md_e X n
  rw [md_dt_e, md_S_one _ n 0 k (Nat.zero_le _) (by omega) (fun i _ _ hi => by
    show _ * (if k = i then (1 : Int) else 0) = 0
    rw [if_neg (fun e => hi e.symm), Int.mul_zero])] at h1
  have e : md_e k k = 1 := if_pos rfl
  rw [e] at h1
  omega
def md_T (R : List Nat) (n : Nat) (A : Nat → md_V) (X : md_V) (k : Nat) : Int := md_dt R (md_up A k X) n
def md_sw (A : Nat → md_V) (p q : Nat) : Nat → md_V := md_up (md_up A p (A q)) q (A p)
theorem md_sw_dt {R : List Nat} {n : Nat} (A : Nat → md_V) {p q : Nat} (hpq : p ≠ q) (hp : p < n) (hq : q < n) : md_dt R (md_sw A p q) n = - md_dt R A n := by
  unfold md_sw
  rw [md_dt_swap R A hpq hp hq, md_up_self, md_up_self]
theorem md_sw_p {R : List Nat} {n : Nat} (A : Nat → md_V) {p q : Nat} (hpq : p ≠ q) (hp : p < n) (hq : q < n) (X : md_V) : md_T R n (md_sw A p q) X p = - md_T R n A X q := by
  unfold md_T md_sw
  rw [md_up_comm _ _ _ (Ne.symm hpq), md_up_up, md_dt_swap R A hpq hp hq, md_up_self]
theorem md_sw_q {R : List Nat} {n : Nat} (A : Nat → md_V) {p q : Nat} (hpq : p ≠ q) (hp : p < n) (hq : q < n) (X : md_V) : md_T R n (md_sw A p q) X q = - md_T R n A X p := by
  unfold md_T md_sw
  rw [md_up_up, md_dt_swap R A hpq hp hq, md_up_comm _ _ _ hpq, md_up_self]
theorem md_sw_k {R : List Nat} {n : Nat} (A : Nat → md_V) {p q k : Nat} (hpq : p ≠ q) (hkp : k ≠ p) (hkq : k ≠ q) (hp : p < n) (hq : q < n) (X : md_V) : md_T R n (md_sw A p q) X k = - md_T R n A X k := by
  have e : md_up (md_sw A p q) k X = md_sw (md_up A k X) p q := by
    unfold md_sw
    rw [md_up_ne A X (Ne.symm hkp), md_up_ne A X (Ne.symm hkq), md_up_comm _ _ _ (Ne.symm hkq), md_up_comm A _ _ (Ne.symm hkp)]
  unfold md_T
  rw [e, md_sw_dt _ hpq hp hq]
/-- a pivot: the new rows by the old ones -/
theorem md_pv {R : List Nat} {n : Nat} (A : Nat → md_V) {r k : Nat} (hk : k ≠ r) (hr : r < n) (hkn : k < n) (a X : md_V) : md_dt R A n * md_T R n (md_up A r a) X k = md_T R n A a r * md_T R n A X k - md_T R n A a k * md_T R n A X r :=
  md_plu R A (Ne.symm hk) hr hkn a X
theorem md_pv_r {R : List Nat} {n : Nat} (A : Nat → md_V) {r : Nat} (a X : md_V) : md_T R n (md_up A r a) X r = md_T R n A X r := by
  unfold md_T
  rw [md_up_up]
theorem md_T_own {R : List Nat} {n : Nat} (A : Nat → md_V) (k : Nat) : md_T R n A (A k) k = md_dt R A n := by
  unfold md_T
  rw [md_up_self]
theorem md_T_other {R : List Nat} {n : Nat} (A : Nat → md_V) {j k : Nat} (h : j ≠ k) (hj : j < n) (hk : k < n) : md_T R n A (A j) k = 0 :=
  md_dt_eq R _ h hj hk (by rw [md_up_ne _ _ h, md_up_at])
/-- X is made of L: each functional that is 0 on L is 0 at X -/
def md_in (R : List Nat) (L : md_V → Prop) (X : md_V) : Prop := ∀ u : md_V → Int, md_Z R u → (∀ v, L v → u v = 0) → u X = 0
theorem md_in_of {R : List Nat} {L : md_V → Prop} {X : md_V} (h : L X) : md_in R L X := fun _ _ h2 => h2 X h
theorem md_in_mono {R : List Nat} {L M : md_V → Prop} {X : md_V} (h : md_in R L X) (hLM : ∀ v, L v → md_in R M v) : md_in R M X := fun u hu hM => h u hu (fun v hv => hLM v hv u hu hM)
theorem md_in_iff {R : List Nat} {n : Nat} {A : Nat → md_V} (hA : md_dt R A n ≠ 0) {L : md_V → Prop} {I : Nat → Prop} (hL : ∀ v, L v ↔ ∃ k, k < n ∧ I k ∧ A k = v) (X : md_V) : md_in R L X ↔ ∀ k, k < n → ¬ I k → md_T R n A X k = 0 := by
  constructor
  · intro h k hk hI
    refine h (fun v => md_dt R (md_up A k v) n) (md_dt_Z R A hk) (fun v hv => ?_)
    obtain ⟨j, hj, hIj, rfl⟩ := (hL v).mp hv
    exact md_T_other A (fun e => hI (e ▸ hIj)) hj hk
  · intro h u hu hv
    have h1 := md_cramer hu A X n
    rw [md_S_zero n 0 _ (fun i _ hi => by
      by_cases hI : I i
      · rw [hv _ ((hL _).mpr ⟨i, by omega, hI, rfl⟩), Int.mul_zero]
      · have := h i (by omega) hI
        unfold md_T at this
        rw [this, Int.zero_mul])] at h1
    rcases Int.mul_eq_zero.mp h1 with e | e
    · exact absurd e hA
    · exact e
end
section
/-! the greedy base of a list of bars -/
def md_cs (C : Nat → md_V) (acc : List Nat) : md_V → Prop := fun v => ∃ j, j ∈ acc ∧ C j = v
noncomputable def md_gr (R : List Nat) (C : Nat → md_V) : List Nat → List Nat → List Nat
  | acc, [] => acc
  | acc, b :: l => md_gr R C (@ite _ (md_in R (md_cs C acc) (C b)) (Classical.propDecidable _) acc (acc ++ [b])) l
theorem md_gr_old {R : List Nat} {C : Nat → md_V} {acc : List Nat} {b : Nat} {l : List Nat} (h : md_in R (md_cs C acc) (C b)) : md_gr R C acc (b :: l) = md_gr R C acc l := by
  show md_gr R C (@ite _ _ (Classical.propDecidable _) acc (acc ++ [b])) l = _
  rw [if_pos h]
theorem md_gr_new {R : List Nat} {C : Nat → md_V} {acc : List Nat} {b : Nat} {l : List Nat} (h : ¬ md_in R (md_cs C acc) (C b)) : md_gr R C acc (b :: l) = md_gr R C (acc ++ [b]) l := by
  show md_gr R C (@ite _ _ (Classical.propDecidable _) acc (acc ++ [b])) l = _
  rw [if_neg h]
theorem md_gr_ind {R : List Nat} {C : Nat → md_V} {P : List Nat → List Nat → List Nat → Prop} (h0 : ∀ acc, P acc [] acc) (h1 : ∀ acc b l, md_in R (md_cs C acc) (C b) → P acc l (md_gr R C acc l) → P acc (b :: l) (md_gr R C acc l)) (h2 : ∀ acc b l, ¬ md_in R (md_cs C acc) (C b) → P (acc ++ [b]) l (md_gr R C (acc ++ [b]) l) → P acc (b :: l) (md_gr R C (acc ++ [b]) l)) : ∀ (l acc : List Nat), P acc l (md_gr R C acc l)
  | [], acc => h0 acc
  | b :: l, acc => by
    by_cases h : md_in R (md_cs C acc) (C b)
    · rw [md_gr_old h]
      exact h1 acc b l h (md_gr_ind h0 h1 h2 l acc)
    · rw [md_gr_new h]
      exact h2 acc b l h (md_gr_ind h0 h1 h2 l (acc ++ [b]))
theorem md_gr_app {R : List Nat} {C : Nat → md_V} (m : List Nat) (l acc : List Nat) : md_gr R C acc (l ++ m) = md_gr R C (md_gr R C acc l) m :=
  md_gr_ind (R := R) (C := C) (P := fun acc l r => md_gr R C acc (l ++ m) = md_gr R C r m) (fun _ => rfl) (fun acc b l h k => by
    rw [List.cons_append, md_gr_old h, k]) (fun acc b l h k => by
    rw [List.cons_append, md_gr_new h, k]) l acc
theorem md_gr_pre {R : List Nat} {C : Nat → md_V} (l acc : List Nat) : ∃ t, md_gr R C acc l = acc ++ t ∧ ∀ j ∈ t, j ∈ l :=
  md_gr_ind (R := R) (C := C) (P := fun acc l r => ∃ t, r = acc ++ t ∧ ∀ j ∈ t, j ∈ l) (fun acc => ⟨[], (List.append_nil acc).symm, fun _ h => h⟩) (fun acc b l h k => by
    obtain ⟨t, e, ht⟩ := k
    exact ⟨t, e, fun j hj => List.mem_cons_of_mem _ (ht j hj)⟩) (fun acc b l h k => by
    obtain ⟨t, e, ht⟩ := k
    refine ⟨b :: t, by rw [e, List.append_assoc]; rfl, fun j hj => ?_⟩
    rcases List.mem_cons.mp hj with rfl | hj
    · exact List.mem_cons_self
    · exact List.mem_cons_of_mem _ (ht j hj)) l acc
theorem md_gr_acc {R : List Nat} {C : Nat → md_V} {l acc : List Nat} {j : Nat} (h : j ∈ acc) : j ∈ md_gr R C acc l := by
  obtain ⟨t, e, -⟩ := md_gr_pre (R := R) (C := C) l acc
  rw [e]
  exact List.mem_append_left _ h
theorem md_gr_mem {R : List Nat} {C : Nat → md_V} {l acc : List Nat} {j : Nat} (h : j ∈ md_gr R C acc l) : j ∈ acc ∨ j ∈ l := by
  obtain ⟨t, e, ht⟩ := md_gr_pre (R := R) (C := C) l acc
  rw [e] at h
  rcases List.mem_append.mp h with h | h
  · exact Or.inl h
  · exact Or.inr (ht j h)
theorem md_cs_sub {C : Nat → md_V} {a b : List Nat} (h : ∀ j ∈ a, j ∈ b) : ∀ v, md_cs C a v → md_cs C b v := fun v ⟨j, h1, h2⟩ => ⟨j, h j h1, h2⟩
theorem md_gr_in {R : List Nat} {C : Nat → md_V} (l acc : List Nat) : ∀ j ∈ l, md_in R (md_cs C (md_gr R C acc l)) (C j) :=
  md_gr_ind (R := R) (C := C) (P := fun acc l r => (∀ j ∈ acc, j ∈ r) → ∀ j ∈ l, md_in R (md_cs C r) (C j)) (fun _ _ _ h => by cases h) (fun acc b l h k hs j hj => by
    rcases List.mem_cons.mp hj with rfl | hj
    · exact md_in_mono h (fun v hv => md_in_of (md_cs_sub hs v hv))
    · exact k hs j hj) (fun acc b l h k hs j hj => by
    have hs2 : ∀ i ∈ acc ++ [b], i ∈ md_gr R C (acc ++ [b]) l := fun i hi => md_gr_acc hi
    rcases List.mem_cons.mp hj with rfl | hj
    · exact md_in_of ⟨j, hs2 j (by simp), rfl⟩
    · exact k hs2 j hj) l acc (fun _ h => md_gr_acc h)
/-- a basis that has the base's columns at the places pos -/
def md_tb (R : List Nat) (n : Nat) (C : Nat → md_V) (A : Nat → md_V) (pos : Nat → Nat) (acc : List Nat) : Prop :=
  md_dt R A n ≠ 0 ∧ (∀ j, j < acc.length → pos j < n ∧ A (pos j) = C (acc.getD j 0)) ∧ ∀ i j, i < acc.length → j < acc.length → pos i = pos j → i = j
theorem md_tb_in {R : List Nat} {n : Nat} {C : Nat → md_V} {A : Nat → md_V} {pos : Nat → Nat} {acc : List Nat} (h : md_tb R n C A pos acc) (X : md_V) : md_in R (md_cs C acc) X ↔ ∀ k, k < n → (∀ j, j < acc.length → pos j ≠ k) → md_T R n A X k = 0 := by
  rw [md_in_iff (n := n) (A := A) (I := fun k => ∃ j, j < acc.length ∧ pos j = k) h.1 (fun v => ?_) X]
  · constructor
    · intro q k hk hp
      exact q k hk (fun ⟨j, h1, h2⟩ => hp j h1 h2)
    · intro q k hk hp
      exact q k hk (fun j h1 h2 => hp ⟨j, h1, h2⟩)
  · constructor
    · rintro ⟨j, hj, rfl⟩
      obtain ⟨i, hi, e⟩ := List.getElem_of_mem hj
      have h2 := h.2.1 i hi
      refine ⟨pos i, h2.1, ⟨i, hi, rfl⟩, ?_⟩
      rw [h2.2, List.getD_eq_getElem?_getD, List.getElem?_eq_getElem hi, Option.getD_some, e]
    · rintro ⟨k, hk, ⟨i, hi, rfl⟩, rfl⟩
      rw [(h.2.1 i hi).2]
      refine ⟨acc.getD i 0, ?_, rfl⟩
      rw [List.getD_eq_getElem?_getD, List.getElem?_eq_getElem hi, Option.getD_some]
      exact List.getElem_mem hi
/-- a pivot takes one more bar into the base -/
theorem md_tb_take {R : List Nat} {n : Nat} {C : Nat → md_V} {A : Nat → md_V} {pos : Nat → Nat} {acc : List Nat} (h : md_tb R n C A pos acc) {b k : Nat} (hk : k < n) (hp : ∀ j, j < acc.length → pos j ≠ k) (hT : md_T R n A (C b) k ≠ 0) : md_tb R n C (md_up A k (C b)) (fun j => if j = acc.length then k else pos j) (acc ++ [b]) := by
  refine ⟨hT, fun j hj => ?_, fun i j hi hj e => ?_⟩
  · rw [List.length_append, List.length_singleton] at hj
    dsimp only
    by_cases e : j = acc.length
    · rw [if_pos e]
      refine ⟨hk, ?_⟩
      rw [md_up_at, e]
      simp
    · rw [if_neg e]
      have hj2 : j < acc.length := by omega
      have h2 := h.2.1 j hj2
      refine ⟨h2.1, ?_⟩
      rw [md_up_ne _ _ (hp j hj2), h2.2]
      simp [List.getD_eq_getElem?_getD, List.getElem?_append_left hj2]
  · rw [List.length_append, List.length_singleton] at hi hj
    dsimp only at e
    by_cases e1 : i = acc.length
    · by_cases e2 : j = acc.length
      · omega
      · rw [if_pos e1, if_neg e2] at e
        exact absurd e.symm (hp j (by omega))
    · by_cases e2 : j = acc.length
      · rw [if_neg e1, if_pos e2] at e
        exact absurd e (hp i (by omega))
      · rw [if_neg e1, if_neg e2] at e
        exact h.2.2 i j (by omega) (by omega) e
/-- .. and there is a place for it exactly if it is new -/
theorem md_tb_new {R : List Nat} {n : Nat} {C : Nat → md_V} {A : Nat → md_V} {pos : Nat → Nat} {acc : List Nat} (h : md_tb R n C A pos acc) (X : md_V) : ¬ md_in R (md_cs C acc) X ↔ ∃ k, k < n ∧ (∀ j, j < acc.length → pos j ≠ k) ∧ md_T R n A X k ≠ 0 := by
  rw [md_tb_in h X]
  constructor
  · intro q
    refine Classical.byContradiction fun h2 => q fun k hk hp => Classical.byContradiction fun h3 => h2 ⟨k, hk, hp, h3⟩
  · rintro ⟨k, hk, hp, h3⟩ q
    exact h3 (q k hk hp)
def md_full (R : List Nat) (L : md_V → Prop) : Prop := ∀ X, md_in R L X
end
section
/-! the reference's determinant -/
theorem r8_swaps {n : Nat} {σ : hv_St} {a c N : Nat} (ha : a < 12) (hc : c < 12) (hac : a ≠ c) (hN : N ≤ 12) : ∀ (d k fuel : Nat) (f : Nat → Int64), k + d = N → d < fuel → ∃ g, kX8_swaps_3 n fuel (hv_wJ σ 13 f) (nI a) (nI c) (nI N) (nI k) = some (hv_wJ σ 13 g) ∧ ∀ i j, i < 12 → j < 12 → g (12 * i + j) = if k ≤ j ∧ j < N then (if i = a then f (12 * c + j) else if i = c then f (12 * a + j) else f (12 * i + j)) else f (12 * i + j) := by
  intro d
  induction d with
  | zero =>
    intro k fuel f hk hf
    obtain ⟨fuel, rfl⟩ : ∃ m, fuel = m + 1 := ⟨fuel - 1, by omega⟩
    refine ⟨f, ?_, fun i j _ _ => ?_⟩
    · show kX8_swaps_3_b n _ _ _ _ _ _ = _
      unfold kX8_swaps_3_b
      rw [if_pos (nI_le (by omega) (by omega))]
    · rw [if_neg (by omega)]
  | succ d ih =>
    intro k fuel f hk hf
    obtain ⟨fuel, rfl⟩ : ∃ m, fuel = m + 1 := ⟨fuel - 1, by omega⟩
    obtain ⟨g, e, hg⟩ := ih (k + 1) fuel (vp_updL (vp_updL f (12 * a + k) (f (12 * c + k))) (12 * c + k) (f (12 * a + k))) (by omega) (by omega)
    refine ⟨g, ?_, fun i j hi hj => ?_⟩
    · rw [← e]
      show kX8_swaps_3_b n _ _ _ _ _ _ = _
      unfold kX8_swaps_3_b
      rw [if_neg (nI_ge (by omega) (by omega))]
      simp only [nI_12, hv_if_t (hv_ok_nI (show 12 * a + k < 144 by omega) (by decide)), hv_if_t (hv_ok_nI (show 12 * c + k < 144 by omega) (by decide)), hv_let_e, nI_clamp (show 12 * a + k < 2 ^ 31 by omega), nI_clamp (show 12 * c + k < 2 ^ 31 by omega), hv_wJ_at, hv_sJ_wJ, nI_1]
    · rw [hg i j hi hj]
      by_cases h1 : k + 1 ≤ j ∧ j < N
      · rw [if_pos h1, if_pos (show k ≤ j ∧ j < N by omega)]
        by_cases h2 : i = a
        · rw [if_pos h2, if_pos h2, pk_uLn (by omega), pk_uLn (by omega)]
        · rw [if_neg h2, if_neg h2]
          by_cases h3 : i = c
          · rw [if_pos h3, if_pos h3, pk_uLn (by omega), pk_uLn (by omega)]
          · rw [if_neg h3, if_neg h3, pk_uLn (by omega), pk_uLn (by omega)]
      · rw [if_neg h1]
        by_cases h4 : j = k
        · subst h4
          rw [if_pos (show j ≤ j ∧ j < N by omega)]
          by_cases h2 : i = a
          · rw [if_pos h2, h2, pk_uLn (by omega), pk_uLs]
          · rw [if_neg h2]
            by_cases h3 : i = c
            · rw [if_pos h3, h3, pk_uLs]
            · rw [if_neg h3, pk_uLn (by omega), pk_uLn (by omega)]
        · rw [if_neg (show ¬ (k ≤ j ∧ j < N) by omega), pk_uLn (by omega), pk_uLn (by omega)]
def cM (N : Nat) (f : Nat → Int64) (M : Nat → Nat → Int) : Prop := ∀ a b, a < N → b < N → f (12 * a + b) = iL (M a b)
theorem r8_det93 {n : Nat} {r8 : hv_St → Int32 → Int64 → Int64 → Int32 → Option (Int64 × hv_St)} {r81 : hv_St → Int32 → Int64 → Int64 → Int32 → Int32 → Option (Int64 × hv_St)} {σ : hv_St} {sg : Int64} {c i N : Nat} (hci : c < i) (hi : i < N) (hN : N ≤ 12) {l : Int} (hl : l ≠ 0) (hlr : rL l) {Q : Nat → Int} {M : Nat → Nat → Int} (hQ : ∀ b, c < b → b < N → M i b * M c c - M i c * M c b = l * Q b) (hr : ∀ b, c < b → b < N → rL (M i b * M c c - M i c * M c b)) : ∀ (d k fuel : Nat) (f : Nat → Int64), k + d = N → c < k → d < fuel → cM N f (fun a b => if a = i ∧ c < b ∧ b < k then Q b else M a b) → ∃ g, kX8_determinant_93 n r8 r81 fuel (hv_wJ σ 13 f) (nI N) sg (iL l) (nI c) (nI i) (nI k) = r81 (hv_wJ σ 13 g) (nI N) sg (iL l) (nI c) (nI (i + 1)) ∧ cM N g (fun a b => if a = i ∧ c < b then Q b else M a b) := by
  intro d
  induction d with
  | zero =>
    intro k fuel f hk hck hf hM
    obtain ⟨fuel, rfl⟩ : ∃ m, fuel = m + 1 := ⟨fuel - 1, by omega⟩
    refine ⟨f, ?_, fun a b ha hb => ?_⟩
    · show kX8_determinant_93_b n _ _ _ _ _ _ _ _ _ _ = _
      unfold kX8_determinant_93_b
      rw [if_pos (nI_le (by omega) (by omega)), nI_1]
    · rw [hM a b ha hb]
      dsimp only
      by_cases h : a = i ∧ c < b
      · rw [if_pos h, if_pos ⟨h.1, h.2, by omega⟩]
      · rw [if_neg h, if_neg (fun h2 => h ⟨h2.1, h2.2.1⟩)]
  | succ d ih =>
    intro k fuel f hk hck hf hM
    obtain ⟨fuel, rfl⟩ : ∃ m, fuel = m + 1 := ⟨fuel - 1, by omega⟩
    have e1 : f (12 * i + k) = iL (M i k) := by rw [hM i k hi (by omega)]; dsimp only; rw [if_neg (by omega)]
    have e2 : f (12 * c + c) = iL (M c c) := by rw [hM c c (by omega) (by omega)]; dsimp only; rw [if_neg (by omega)]
    have e3 : f (12 * i + c) = iL (M i c) := by rw [hM i c hi (by omega)]; dsimp only; rw [if_neg (by omega)]
    have e4 : f (12 * c + k) = iL (M c k) := by rw [hM c k (by omega) (by omega)]; dsimp only; rw [if_neg (by omega)]
    have e5 : (iL (M i k) * iL (M c c) - iL (M i c) * iL (M c k)) / iL l = iL (Q k) := by
      rw [iL_mul, iL_mul, iL_sub, iL_div (hr k hck (by omega)) hlr, hQ k hck (by omega), Int.mul_tdiv_cancel_left _ hl]
    have hl0 : decide (¬ iL l = 0) = true := decide_eq_true (fun h => hl ((iL_eq hlr ⟨by decide, by decide⟩).mp h))
    obtain ⟨g, e, hg⟩ := ih (k + 1) fuel (vp_updL f (12 * i + k) (iL (Q k))) (by omega) (by omega) (by omega) (fun a b ha hb => by
      by_cases h : a = i ∧ b = k
      · rw [h.1, h.2, pk_uLs]
        show _ = iL (if i = i ∧ c < k ∧ k < k + 1 then Q k else M i k)
        rw [if_pos ⟨rfl, hck, by omega⟩]
      · rw [pk_uLn (by omega), hM a b ha hb]
        dsimp only
        show iL (if a = i ∧ c < b ∧ b < k then Q b else M a b) = iL (if a = i ∧ c < b ∧ b < k + 1 then Q b else M a b)
        by_cases h2 : a = i ∧ c < b ∧ b < k
        · rw [if_pos h2, if_pos ⟨h2.1, h2.2.1, by omega⟩]
        · rw [if_neg h2, if_neg (by omega)])
    refine ⟨g, ?_, hg⟩
    rw [← e]
    show kX8_determinant_93_b n _ _ _ _ _ _ _ _ _ _ = _
    unfold kX8_determinant_93_b
    rw [if_neg (nI_ge (by omega) (by omega))]
    simp only [nI_12, hv_if_t (hv_ok_nI (show 12 * i + k < 144 by omega) (by decide)), hv_if_t (hv_ok_nI (show 12 * c + c < 144 by omega) (by decide)), hv_if_t (hv_ok_nI (show 12 * i + c < 144 by omega) (by decide)), hv_if_t (hv_ok_nI (show 12 * c + k < 144 by omega) (by decide)), hv_if_t hl0, hv_let_e, nI_clamp (show 12 * i + k < 2 ^ 31 by omega), nI_clamp (show 12 * c + c < 2 ^ 31 by omega), nI_clamp (show 12 * i + c < 2 ^ 31 by omega), nI_clamp (show 12 * c + k < 2 ^ 31 by omega), hv_wJ_at, hv_sJ_wJ, nI_1, e1, e2, e3, e4, e5]
theorem r8_det81 {n : Nat} {r8 : hv_St → Int32 → Int64 → Int64 → Int32 → Option (Int64 × hv_St)} {σ : hv_St} {sg : Int64} {c N : Nat} (hc : c < N) (hN : N ≤ 12) (hn : 12 < n) {l : Int} (hl : l ≠ 0) (hlr : rL l) {Q M : Nat → Nat → Int} (hQ : ∀ a b, c < a → a < N → c < b → b < N → M a b * M c c - M a c * M c b = l * Q a b) (hr : ∀ a b, c < a → a < N → c < b → b < N → rL (M a b * M c c - M a c * M c b)) : ∀ (d i fuel : Nat) (f : Nat → Int64), i + d = N → c < i → d < fuel → cM N f (fun a b => if c < a ∧ a < i ∧ c < b then Q a b else M a b) → ∃ g, kX8_determinant_81 n r8 fuel (hv_wJ σ 13 f) (nI N) sg (iL l) (nI c) (nI i) = r8 (hv_wJ σ 13 g) (nI N) sg (iL (M c c)) (nI (c + 1)) ∧ cM N g (fun a b => if c < a ∧ c < b then Q a b else M a b) := by
  intro d
  induction d with
  | zero =>
    intro i fuel f hk hci hf hM
    obtain ⟨fuel, rfl⟩ : ∃ m, fuel = m + 1 := ⟨fuel - 1, by omega⟩
    have e2 : f (12 * c + c) = iL (M c c) := by rw [hM c c hc hc]; dsimp only; rw [if_neg (by omega)]
    refine ⟨f, ?_, fun a b ha hb => ?_⟩
    · show kX8_determinant_81_b n _ _ _ _ _ _ _ _ = _
      unfold kX8_determinant_81_b
      rw [if_pos (nI_le (by omega) (by omega))]
      simp only [nI_12, hv_if_t (hv_ok_nI (show 12 * c + c < 144 by omega) (by decide)), hv_let_e, nI_clamp (show 12 * c + c < 2 ^ 31 by omega), hv_wJ_at, nI_1, e2]
    · rw [hM a b ha hb]
      dsimp only
      by_cases h : c < a ∧ c < b
      · rw [if_pos h, if_pos ⟨h.1, by omega, h.2⟩]
      · rw [if_neg h, if_neg (fun h2 => h ⟨h2.1, h2.2.2⟩)]
  | succ d ih =>
    intro i fuel f hk hci hf hM
    obtain ⟨fuel, rfl⟩ : ∃ m, fuel = m + 1 := ⟨fuel - 1, by omega⟩
    have hMc : ∀ b, (if c < c ∧ c < i ∧ c < b then Q c b else M c b) = M c b := fun b => if_neg (by omega)
    have hMi : ∀ b, (if c < i ∧ i < i ∧ c < b then Q i b else M i b) = M i b := fun b => if_neg (by omega)
    obtain ⟨g, e, hg⟩ := r8_det93 (n := n) (r8 := r8) (r81 := kX8_determinant_81 n r8 fuel) (σ := σ) (sg := sg) hci (show i < N by omega) hN hl hlr (Q := Q i) (M := fun a b => if c < a ∧ a < i ∧ c < b then Q a b else M a b) (fun b h1 h2 => by
      show (if c < i ∧ i < i ∧ c < b then Q i b else M i b) * (if c < c ∧ c < i ∧ c < c then Q c c else M c c) - (if c < i ∧ i < i ∧ c < c then Q i c else M i c) * (if c < c ∧ c < i ∧ c < b then Q c b else M c b) = _
      rw [hMc, hMc, hMi, hMi]
      exact hQ i b hci (by omega) h1 h2) (fun b h1 h2 => by
      show rL ((if c < i ∧ i < i ∧ c < b then Q i b else M i b) * (if c < c ∧ c < i ∧ c < c then Q c c else M c c) - (if c < i ∧ i < i ∧ c < c then Q i c else M i c) * (if c < c ∧ c < i ∧ c < b then Q c b else M c b))
      rw [hMc, hMc, hMi, hMi]
      exact hr i b hci (by omega) h1 h2) (N - (c + 1)) (c + 1) n f (by omega) (by omega) (by omega) (fun a b ha hb => by
      rw [hM a b ha hb]
      dsimp only
      show _ = iL (if a = i ∧ c < b ∧ b < c + 1 then Q i b else _)
      rw [if_neg (show ¬ (a = i ∧ c < b ∧ b < c + 1) by omega)])
    obtain ⟨g2, e3, hg2⟩ := ih (i + 1) fuel g (by omega) (by omega) (by omega) (fun a b ha hb => by
      rw [hg a b ha hb]
      dsimp only
      by_cases h : a = i ∧ c < b
      · rw [if_pos h, if_pos (show c < a ∧ a < i + 1 ∧ c < b by omega), h.1]
      · rw [if_neg h]
        by_cases h2 : c < a ∧ a < i ∧ c < b
        · rw [if_pos h2, if_pos (show c < a ∧ a < i + 1 ∧ c < b by omega)]
        · rw [if_neg h2, if_neg (show ¬ (c < a ∧ a < i + 1 ∧ c < b) by omega)])
    refine ⟨g2, ?_, hg2⟩
    rw [← e3, ← e]
    show kX8_determinant_81_b n _ _ _ _ _ _ _ _ = _
    unfold kX8_determinant_81_b
    rw [if_neg (nI_ge (by omega) (by omega)), nI_1]
    rfl
theorem r8_det18 {n : Nat} {r8 : hv_St → Int32 → Int64 → Int64 → Int32 → Option (Int64 × hv_St)} {σ : hv_St} {sg la : Int64} {c N : Nat} {f : Nat → Int64} (hc : c < N) (hN : N ≤ 12) : ∀ (d r fuel : Nat), r + d = N → d < fuel → ∃ r', r ≤ r' ∧ r' ≤ N ∧ kX8_determinant_18 n r8 fuel (hv_wJ σ 13 f) (nI N) sg la (nI c) (nI r) = kX8_determinant_48 n r8 (hv_wJ σ 13 f) (nI N) sg la (nI c) (nI r') ∧ (r' = N → ∀ a, r ≤ a → a < N → f (12 * a + c) = 0) ∧ (r' < N → f (12 * r' + c) ≠ 0) := by
  intro d
  induction d with
  | zero =>
    intro r fuel hk hf
    obtain ⟨fuel, rfl⟩ : ∃ m, fuel = m + 1 := ⟨fuel - 1, by omega⟩
    refine ⟨r, Nat.le_refl _, by omega, ?_, fun _ a h1 h2 => by omega, fun h => by omega⟩
    show kX8_determinant_18_b n _ _ _ _ _ _ _ _ = _
    unfold kX8_determinant_18_b
    rw [if_pos (nI_le (by omega) (by omega))]
  | succ d ih =>
    intro r fuel hk hf
    obtain ⟨fuel, rfl⟩ : ∃ m, fuel = m + 1 := ⟨fuel - 1, by omega⟩
    have hs : kX8_determinant_18 n r8 (fuel + 1) (hv_wJ σ 13 f) (nI N) sg la (nI c) (nI r) = if lg_cmp (f (12 * r + c)) ((0 : Int64)) = 0 then kX8_determinant_18 n r8 fuel (hv_wJ σ 13 f) (nI N) sg la (nI c) (nI (r + 1)) else kX8_determinant_48 n r8 (hv_wJ σ 13 f) (nI N) sg la (nI c) (nI r) := by
      show kX8_determinant_18_b n _ _ _ _ _ _ _ _ = _
      unfold kX8_determinant_18_b
      rw [if_neg (nI_ge (by omega) (by omega))]
      simp only [nI_12, hv_if_t (hv_ok_nI (show 12 * r + c < 144 by omega) (by decide)), nI_clamp (show 12 * r + c < 2 ^ 31 by omega), hv_wJ_at, nI_1]
    by_cases h0 : f (12 * r + c) = 0
    · obtain ⟨r', h1, h2, e, h3, h4⟩ := ih (r + 1) fuel (by omega) (by omega)
      refine ⟨r', by omega, h2, ?_, fun h5 a h6 h7 => ?_, h4⟩
      · rw [hs, if_pos ((lg_cmp0 _ _).mpr h0), e]
      · by_cases h8 : a = r
        · rw [h8, h0]
        · exact h3 h5 a (by omega) h7
    · refine ⟨r, Nat.le_refl _, by omega, ?_, fun h => by omega, fun _ => h0⟩
      rw [hs, if_neg (fun h => h0 ((lg_cmp0 _ _).mp h))]
def md_of (N : Nat) (m : Nat → md_V) (A : Nat → md_V) : Prop := ∀ k, k < N → (∃ b, b < N ∧ A k = m b) ∨ ∃ j, j < N ∧ A k = md_e j
theorem md_of_up {N : Nat} {m A : Nat → md_V} (h : md_of N m A) {b : Nat} (hb : b < N) (k : Nat) : md_of N m (md_up A k (m b)) := fun j hj => by
  by_cases e : j = k
  · rw [e, md_up_at]
    exact Or.inl ⟨b, hb, rfl⟩
  · rw [md_up_ne _ _ e]
    exact h j hj
theorem md_of_sw {N : Nat} {m A : Nat → md_V} (h : md_of N m A) {p q : Nat} (hp : p < N) (hq : q < N) : md_of N m (md_sw A p q) := fun j hj => by
  unfold md_sw
  by_cases e : j = q
  · rw [e, md_up_at]
    exact h p hp
  · rw [md_up_ne _ _ e]
    by_cases e2 : j = p
    · rw [e2, md_up_at]
      exact h q hq
    · rw [md_up_ne _ _ e2]
      exact h j hj
theorem pm1 {x : Int} (h : x = 1 ∨ x = -1) : x * x = 1 := by
  rcases h with rfl | rfl <;> rfl
theorem rL_of {x : Int} (h : x.natAbs ≤ 2 ^ 62) : rL x := by
  unfold rL
  omega
theorem natAbs_pm {e x : Int} (he : e = 1 ∨ e = -1) : (e * x).natAbs = x.natAbs := by
  rcases he with rfl | rfl <;> omega
theorem rL_mm {a b c d : Int} (ha : a.natAbs ≤ 2 ^ 30) (hb : b.natAbs ≤ 2 ^ 30) (hc : c.natAbs ≤ 2 ^ 30) (hd : d.natAbs ≤ 2 ^ 30) : rL (a * b - c * d) := by
  have h1 : (a * b).natAbs ≤ 2 ^ 60 := by
    rw [Int.natAbs_mul]
    exact Nat.le_trans (Nat.mul_le_mul ha hb) (by decide)
  have h2 : (c * d).natAbs ≤ 2 ^ 60 := by
    rw [Int.natAbs_mul]
    exact Nat.le_trans (Nat.mul_le_mul hc hd) (by decide)
  unfold rL
  omega
/-- the determinant's loop: from the column c on, the basis A so far, the sign e of the rows' order -/
theorem r8_det8 {n : Nat} {σ : hv_St} {N : Nat} (hN : N ≤ 12) (hn : 12 < n) {m : Nat → md_V} (hB : ∀ A, md_of N m A → (md_dt (List.range N) A N).natAbs ≤ 2 ^ 30) : ∀ (d c fuel : Nat) (f : Nat → Int64) (A : Nat → md_V) (e : Int), c + d = N → d < fuel → md_of N m A → (∀ j, j < c → A j = m j) → md_dt (List.range N) A N ≠ 0 → (e = 1 ∨ e = -1) → (∀ a b, c ≤ a → a < N → c ≤ b → b < N → f (12 * a + b) = iL (e * md_T (List.range N) N A (m b) a)) → (0 < c → f (12 * (c - 1) + (c - 1)) = iL (e * md_dt (List.range N) A N)) → (c = 0 → e * md_dt (List.range N) A N = 1) → ∃ g, kX8_determinant_8 n fuel (hv_wJ σ 13 f) (nI N) (iL e) (iL (e * md_dt (List.range N) A N)) (nI c) = some (iL (md_dt (List.range N) m N), hv_wJ σ 13 g) := by
  intro d
  induction d with
  | zero =>
    intro c fuel f A e hk hf hof hA hD he hcell hlast hfirst
    obtain ⟨fuel, rfl⟩ : ∃ q, fuel = q + 1 := ⟨fuel - 1, by omega⟩
    have hc : c = N := by omega
    subst hc
    have hAm : md_dt (List.range c) A c = md_dt (List.range c) m c := md_dt_congr hA
    refine ⟨f, ?_⟩
    show kX8_determinant_8_b n _ _ _ _ _ _ = _
    unfold kX8_determinant_8_b
    rw [if_pos (nI_le (Nat.le_refl _) (by omega))]
    by_cases h0 : c = 0
    · subst h0
      have h1 := hfirst rfl
      rw [hAm] at h1
      have h2 : md_dt (List.range 0) m 0 = 1 := rfl
      rw [h2] at h1
      rw [if_pos nI_0, h2]
      have h3 : e = 1 := by omega
      rw [h3]
      rfl
    · obtain ⟨c', rfl⟩ : ∃ q, c = q + 1 := ⟨c - 1, by omega⟩
      have h1 := hlast (by omega)
      rw [show c' + 1 - 1 = c' from rfl] at h1
      have h4 : (12 : Int32) * (nI (c' + 1) - 1) + nI (c' + 1) - 1 = nI (12 * c' + c') := by
        rw [nI_pred, nI_12, show 12 * c' + (c' + 1) = (12 * c' + c') + 1 from rfl, nI_pred]
      rw [if_neg (nI_ne0 (by omega) (by omega)), h4, hv_if_t (hv_ok_nI (by omega) (by decide)), nI_clamp (by omega), hv_wJ_at, h1, iL_mul, ← Int.mul_assoc, pm1 he, Int.one_mul, hAm]
  | succ d ih =>
    intro c fuel f A e hk hf hof hA hD he hcell hlast hfirst
    obtain ⟨fuel, rfl⟩ : ∃ q, fuel = q + 1 := ⟨fuel - 1, by omega⟩
    have hcN : c < N := by omega
    have hT : ∀ (A : Nat → md_V), md_of N m A → ∀ a b, b < N → (md_T (List.range N) N A (m b) a).natAbs ≤ 2 ^ 30 := fun A h a b hb => hB _ (md_of_up h hb a)
    have s8 : kX8_determinant_8 n (fuel + 1) (hv_wJ σ 13 f) (nI N) (iL e) (iL (e * md_dt (List.range N) A N)) (nI c) = kX8_determinant_18 n (kX8_determinant_8 n fuel) n (hv_wJ σ 13 f) (nI N) (iL e) (iL (e * md_dt (List.range N) A N)) (nI c) (nI c) := by
      show kX8_determinant_8_b n _ _ _ _ _ _ = _
      unfold kX8_determinant_8_b
      rw [if_neg (nI_ge hcN (by omega))]
    obtain ⟨r, h1, h2, e18, hz, hnz⟩ := r8_det18 (n := n) (r8 := kX8_determinant_8 n fuel) (σ := σ) (sg := iL e) (la := iL (e * md_dt (List.range N) A N)) (f := f) hcN hN (N - c) c n (by omega) (by omega)
    rw [s8, e18]
    by_cases hr : r = N
    · subst hr
      refine ⟨f, ?_⟩
      unfold kX8_determinant_48
      rw [if_pos rfl]
      have hm : md_dt (List.range r) m r = 0 := by
        have h3 := md_cramer (md_dt_Z (List.range r) m hcN) A (m c) r
        rw [md_S_zero r 0 _ (fun i _ hi => by
          by_cases hic : i < c
          · rw [hA i hic]
            show _ * md_T (List.range r) r m (m i) c = 0
            rw [md_T_other m (by omega) (by omega) hcN, Int.mul_zero]
          · have h5 := hz rfl i (by omega) (by omega)
            rw [hcell i c (by omega) (by omega) (Nat.le_refl _) hcN] at h5
            have h6 : e * md_T (List.range r) r A (m c) i = 0 := (iL_eq (rL_of (by rw [natAbs_pm he]; exact Nat.le_trans (hT A hof i c hcN) (by decide))) ⟨by decide, by decide⟩).mp h5
            have h7 : md_T (List.range r) r A (m c) i = 0 := by
              rcases he with rfl | rfl <;> omega
            have h8 : md_dt (List.range r) (md_up A i (m c)) r = 0 := h7
            rw [h8, Int.zero_mul])] at h3
        rcases Int.mul_eq_zero.mp h3 with h4 | h4
        · exact absurd h4 hD
        · have h5 : md_dt (List.range r) (md_up m c (m c)) r = 0 := h4
          rw [md_up_self] at h5
          exact h5
      rw [hm]
      rfl
    · have hrN : r < N := by omega
      have hpiv : f (12 * r + c) ≠ 0 := hnz hrN
      -- the rows swapped: the basis A2, the sign e2
      obtain ⟨f2, A2, e2, s48, hof2, hA2, hD2, he2, hcell2, hDD, hT2⟩ : ∃ (f2 : Nat → Int64) (A2 : Nat → md_V) (e2 : Int), kX8_determinant_48 n (kX8_determinant_8 n fuel) (hv_wJ σ 13 f) (nI N) (iL e) (iL (e * md_dt (List.range N) A N)) (nI c) (nI r) = kX8_determinant_75 n (kX8_determinant_8 n fuel) (hv_wJ σ 13 f2) (nI N) (iL e2) (iL (e * md_dt (List.range N) A N)) (nI c) ∧ md_of N m A2 ∧ (∀ j, j < c → A2 j = m j) ∧ md_dt (List.range N) A2 N ≠ 0 ∧ (e2 = 1 ∨ e2 = -1) ∧ (∀ a b, c ≤ a → a < N → c ≤ b → b < N → f2 (12 * a + b) = iL (e2 * md_T (List.range N) N A2 (m b) a)) ∧ e2 * md_dt (List.range N) A2 N = e * md_dt (List.range N) A N ∧ md_T (List.range N) N A2 (m c) c ≠ 0 := by
        have hTr : md_T (List.range N) N A (m c) r ≠ 0 := fun h => hpiv (by rw [hcell r c h1 hrN (Nat.le_refl _) hcN, h, Int.mul_zero]; rfl)
        by_cases hrc : r = c
        · subst hrc
          refine ⟨f, A, e, ?_, hof, hA, hD, he, hcell, rfl, hTr⟩
          unfold kX8_determinant_48
          rw [if_neg (fun h => hr ((nI_eq (by omega) (by omega)).mp h)), if_pos rfl]
        · obtain ⟨g, eg, hg⟩ := r8_swaps (n := n) (σ := σ) (show r < 12 by omega) (show c < 12 by omega) hrc hN N 0 n f (by omega) (by omega)
          refine ⟨g, md_sw A c r, -e, ?_, md_of_sw hof hcN hrN, fun j hj => ?_, ?_, ?_, fun a b ha1 ha2 hb1 hb2 => ?_, ?_, ?_⟩
          · unfold kX8_determinant_48
            rw [if_neg (fun h => hr ((nI_eq (by omega) (by omega)).mp h)), if_neg (fun h => hrc ((nI_eq (by omega) (by omega)).mp h))]
            show hv_bd (kX8_swaps_3 n n (hv_wJ σ 13 f) (nI r) (nI c) (nI N) (nI 0)) _ = _
            rw [eg, hv_bd_e, hv_let_e, iL_neg]
          · unfold md_sw
            rw [md_up_ne _ _ (by omega), md_up_ne _ _ (by omega)]
            exact hA j hj
          · rw [md_sw_dt A (Ne.symm hrc) hcN hrN]
            omega
          · rcases he with rfl | rfl
            · exact Or.inr rfl
            · exact Or.inl rfl
          · rw [hg a b (by omega) (by omega), if_pos (by omega)]
            by_cases har : a = r
            · rw [if_pos har, har, md_sw_q A (Ne.symm hrc) hcN hrN, hcell c b (Nat.le_refl _) hcN hb1 hb2, Int.neg_mul_neg]
            · rw [if_neg har]
              by_cases hac : a = c
              · rw [if_pos hac, hac, md_sw_p A (Ne.symm hrc) hcN hrN, hcell r b h1 hrN hb1 hb2, Int.neg_mul_neg]
              · rw [if_neg hac, md_sw_k A (Ne.symm hrc) hac har hcN hrN, hcell a b ha1 ha2 hb1 hb2, Int.neg_mul_neg]
          · rw [md_sw_dt A (Ne.symm hrc) hcN hrN, Int.neg_mul_neg]
          · rw [md_sw_p A (Ne.symm hrc) hcN hrN]
            omega
      rw [s48]
      have hM : ∀ a b, c ≤ a → a < N → c ≤ b → b < N → (f2 (12 * a + b)).toInt = e2 * md_T (List.range N) N A2 (m b) a := fun a b ha1 ha2 hb1 hb2 => by
        rw [hcell2 a b ha1 ha2 hb1 hb2]
        exact iL_toInt (rL_of (by rw [natAbs_pm he2]; exact Nat.le_trans (hT A2 hof2 a b hb2) (by decide)))
      have hMb : ∀ a b, c ≤ a → a < N → c ≤ b → b < N → ((f2 (12 * a + b)).toInt).natAbs ≤ 2 ^ 30 := fun a b ha1 ha2 hb1 hb2 => by
        rw [hM a b ha1 ha2 hb1 hb2, natAbs_pm he2]
        exact hT A2 hof2 a b hb2
      have hQ : ∀ a b, c < a → a < N → c < b → b < N → (f2 (12 * a + b)).toInt * (f2 (12 * c + c)).toInt - (f2 (12 * a + c)).toInt * (f2 (12 * c + b)).toInt = (e * md_dt (List.range N) A N) * (e2 * md_T (List.range N) N (md_up A2 c (m c)) (m b) a) := fun a b ha1 ha2 hb1 hb2 => by
        rw [hM a b (by omega) ha2 (by omega) hb2, hM c c (Nat.le_refl _) hcN (Nat.le_refl _) hcN, hM a c (by omega) ha2 (Nat.le_refl _) hcN, hM c b (Nat.le_refl _) hcN (by omega) hb2, ← hDD]
        have hp := md_pv (R := List.range N) (n := N) A2 (r := c) (k := a) (by omega) hcN ha2 (m c) (m b)
        have he3 := pm1 he2
        grind
      have hl0 : e * md_dt (List.range N) A N ≠ 0 := by
        rcases he with rfl | rfl <;> omega
      have hlr : rL (e * md_dt (List.range N) A N) := rL_of (by rw [natAbs_pm he]; exact Nat.le_trans (hB A hof) (by decide))
      obtain ⟨g, e81, hg⟩ := r8_det81 (n := n) (r8 := kX8_determinant_8 n fuel) (σ := σ) (sg := iL e2) hcN hN hn hl0 hlr (Q := fun a b => e2 * md_T (List.range N) N (md_up A2 c (m c)) (m b) a) (M := fun a b => (f2 (12 * a + b)).toInt) hQ (fun a b ha1 ha2 hb1 hb2 => rL_mm (hMb a b (by omega) ha2 (by omega) hb2) (hMb c c (Nat.le_refl _) hcN (Nat.le_refl _) hcN) (hMb a c (by omega) ha2 (Nat.le_refl _) hcN) (hMb c b (Nat.le_refl _) hcN (by omega) hb2)) (N - (c + 1)) (c + 1) n f2 (by omega) (by omega) (by omega) (fun a b ha hb => by
        show _ = iL (if c < a ∧ a < c + 1 ∧ c < b then _ else (f2 (12 * a + b)).toInt)
        rw [if_neg (by omega)]
        exact iL_of _)
      have hDn : md_dt (List.range N) (md_up A2 c (m c)) N = md_T (List.range N) N A2 (m c) c := rfl
      have hlast2 : (f2 (12 * c + c)).toInt = e2 * md_dt (List.range N) (md_up A2 c (m c)) N := by
        rw [hM c c (Nat.le_refl _) hcN (Nat.le_refl _) hcN, hDn]
      obtain ⟨g2, e9⟩ := ih (c + 1) fuel g (md_up A2 c (m c)) e2 (by omega) (by omega) (md_of_up hof2 hcN c) (fun j hj => by
        by_cases h : j = c
        · rw [h, md_up_at]
        · rw [md_up_ne _ _ h]
          exact hA2 j (by omega)) (by rw [hDn]; exact hT2) he2 (fun a b ha1 ha2 hb1 hb2 => by
        rw [hg a b ha2 hb2]
        dsimp only
        rw [if_pos (by omega)]) (fun _ => by
        rw [show c + 1 - 1 = c from rfl, hg c c hcN hcN]
        dsimp only
        rw [if_neg (by omega), hlast2]) (fun h => by omega)
      refine ⟨g2, ?_⟩
      rw [← e9, ← hlast2, ← e81]
      unfold kX8_determinant_75
      rw [hv_let_e, show (1 : Int32) = nI 1 from rfl, nI_add]
/-- the determinant of the reference's cells -/
theorem r8_determinant {n : Nat} {σ : hv_St} {N : Nat} (hN : N ≤ 12) (hn : 12 < n) {m : Nat → md_V} (hB : ∀ A, md_of N m A → (md_dt (List.range N) A N).natAbs ≤ 2 ^ 30) {f : Nat → Int64} (hf : ∀ a b, a < N → b < N → f (12 * a + b) = iL (m b a)) : ∃ g, mX8_determinant n (hv_wJ σ 13 f) (nI N) = some (iL (md_dt (List.range N) m N), hv_wJ σ 13 g) := by
  obtain ⟨g, e⟩ := r8_det8 (n := n) (σ := σ) hN hn hB N 0 n f md_e 1 (by omega) (by omega) (fun k hk => Or.inr ⟨k, hk, rfl⟩) (fun j hj => by omega) (by rw [md_dt_e]; decide) (Or.inl rfl) (fun a b _ ha _ hb => by
    unfold md_T
    rw [hf a b ha hb, md_T_e ha, Int.one_mul]) (fun h => by omega) (fun _ => by rw [md_dt_e]; rfl)
  refine ⟨g, ?_⟩
  rw [← e, md_dt_e]
  rfl
end
section
/-! Euclid, least terms -/
theorem nat_half {a b : Nat} (hb : 0 < b) (h : a % b ≠ 0) : 2 * (b % (a % b)) < b := by
  have h1 : a % b < b := Nat.mod_lt _ hb
  generalize a % b = r at h h1
  by_cases h2 : 2 * r ≤ b
  · have := Nat.mod_lt b (show 0 < r by omega)
    omega
  · rw [Nat.mod_eq_sub_mod (by omega), Nat.mod_eq_of_lt (by omega)]
    omega
theorem iL_mod {a b : Nat} (ha : a < 2 ^ 63) (hb : b < 2 ^ 63) : iL (a : Int) - iL (a : Int) / iL (b : Int) * iL (b : Int) = iL ((a % b : Nat) : Int) := by
  rw [iL_div ⟨by omega, by omega⟩ ⟨by omega, by omega⟩, iL_mul, iL_sub, show ((a : Int).tdiv (b : Int)) = ((a / b : Nat) : Int) from rfl]
  congr 1
  have h := Nat.div_add_mod a b
  have h2 : ((b * (a / b) + a % b : Nat) : Int) = (a : Int) := by rw [h]
  rw [Int.natCast_add, Int.natCast_mul] at h2
  rw [Int.mul_comm] at h2
  omega
theorem iL_ne0 {b : Nat} (hb : b < 2 ^ 63) (h : b ≠ 0) : iL (b : Int) ≠ 0 := fun e => by
  have h1 := (iL_eq (a := (b : Int)) (b := 0) ⟨by omega, by omega⟩ ⟨by decide, by decide⟩).mp e
  omega
theorem r8_gcd {n : Nat} {σ : hv_St} : ∀ (k a b fuel : Nat), a < 2 ^ 63 → b < 2 ^ 63 → b < 2 ^ k → 2 * k + 1 ≤ fuel → kX8_common_12 n fuel σ (iL (a : Int)) (iL (b : Int)) = some (iL ((Nat.gcd b a : Nat) : Int), σ) := by
  have h0 : ∀ (a fuel : Nat), 1 ≤ fuel → kX8_common_12 n fuel σ (iL (a : Int)) (iL ((0 : Nat) : Int)) = some (iL ((Nat.gcd 0 a : Nat) : Int), σ) := fun a fuel hf => by
    obtain ⟨fuel, rfl⟩ : ∃ q, fuel = q + 1 := ⟨fuel - 1, by omega⟩
    show kX8_common_12_b n _ _ _ _ = _
    unfold kX8_common_12_b
    rw [if_pos ((lg_cmp0 (iL ((0 : Nat) : Int)) (0 : Int64)).mpr rfl), Nat.gcd_zero_left]
  have h1 : ∀ (a b fuel : Nat), a < 2 ^ 63 → b < 2 ^ 63 → b ≠ 0 → kX8_common_12 n (fuel + 1) σ (iL (a : Int)) (iL (b : Int)) = kX8_common_12 n fuel σ (iL (b : Int)) (iL ((a % b : Nat) : Int)) := fun a b fuel ha hb hb0 => by
    show kX8_common_12_b n _ _ _ _ = _
    unfold kX8_common_12_b
    rw [if_neg (fun h => iL_ne0 hb hb0 ((lg_cmp0 _ _).mp h)), hv_if_t (decide_eq_true (iL_ne0 hb hb0)), hv_let_e, iL_mod ha hb]
  intro k
  induction k with
  | zero =>
    intro a b fuel ha hb hk hf
    have : b = 0 := by omega
    subst this
    exact h0 a fuel (by omega)
  | succ k ih =>
    intro a b fuel ha hb hk hf
    by_cases hb0 : b = 0
    · subst hb0
      exact h0 a fuel (by omega)
    · obtain ⟨fuel, rfl⟩ : ∃ q, fuel = q + 2 := ⟨fuel - 2, by omega⟩
      have hr : a % b < b := Nat.mod_lt _ (by omega)
      rw [h1 a b (fuel + 1) ha hb hb0, Nat.gcd_rec b a]
      by_cases hr0 : a % b = 0
      · rw [hr0]
        exact h0 b (fuel + 1) (by omega)
      · have h2 := nat_half (a := a) (b := b) (by omega) hr0
        rw [h1 b (a % b) fuel hb (by omega) hr0, Nat.gcd_rec (a % b) b]
        exact ih (a % b) (b % (a % b)) fuel (by omega) (by omega) (by rw [Nat.pow_succ] at hk; omega) (by omega)
theorem x2_gcd {n : Nat} {σ : hv_St} : ∀ (k a b fuel st : Nat), a < 2 ^ 63 → b < 2 ^ 63 → b < 2 ^ k → 2 * k + 1 ≤ fuel → st + 2 * k + 1 ≤ 200 → kX2_greatestDivisor_9 n fuel σ (iL (a : Int)) (iL (b : Int)) (nI st) = some (iL ((Nat.gcd b a : Nat) : Int), σ) := by
  have h0 : ∀ (a fuel st : Nat), 1 ≤ fuel → st < 200 → kX2_greatestDivisor_9 n fuel σ (iL (a : Int)) (iL ((0 : Nat) : Int)) (nI st) = some (iL ((Nat.gcd 0 a : Nat) : Int), σ) := fun a fuel st hf hs => by
    obtain ⟨fuel, rfl⟩ : ∃ q, fuel = q + 1 := ⟨fuel - 1, by omega⟩
    show kX2_greatestDivisor_9_b n _ _ _ _ _ = _
    unfold kX2_greatestDivisor_9_b
    rw [if_neg (show ¬ (200 : Int32) ≤ nI st from nI_ge hs (by decide)), if_pos ((lg_cmp0 (iL ((0 : Nat) : Int)) (0 : Int64)).mpr rfl), Nat.gcd_zero_left]
  have h1 : ∀ (a b fuel st : Nat), a < 2 ^ 63 → b < 2 ^ 63 → b ≠ 0 → st < 200 → kX2_greatestDivisor_9 n (fuel + 1) σ (iL (a : Int)) (iL (b : Int)) (nI st) = kX2_greatestDivisor_9 n fuel σ (iL (b : Int)) (iL ((a % b : Nat) : Int)) (nI (st + 1)) := fun a b fuel st ha hb hb0 hs => by
    show kX2_greatestDivisor_9_b n _ _ _ _ _ = _
    unfold kX2_greatestDivisor_9_b
    rw [if_neg (show ¬ (200 : Int32) ≤ nI st from nI_ge hs (by decide)), if_neg (fun h => iL_ne0 hb hb0 ((lg_cmp0 _ _).mp h)), hv_if_t (decide_eq_true (iL_ne0 hb hb0)), hv_let_e, iL_mod ha hb, nI_1]
  intro k
  induction k with
  | zero =>
    intro a b fuel st ha hb hk hf hs
    have : b = 0 := by omega
    subst this
    exact h0 a fuel st (by omega) (by omega)
  | succ k ih =>
    intro a b fuel st ha hb hk hf hs
    by_cases hb0 : b = 0
    · subst hb0
      exact h0 a fuel st (by omega) (by omega)
    · obtain ⟨fuel, rfl⟩ : ∃ q, fuel = q + 2 := ⟨fuel - 2, by omega⟩
      have hr : a % b < b := Nat.mod_lt _ (by omega)
      rw [h1 a b (fuel + 1) st ha hb hb0 (by omega), Nat.gcd_rec b a]
      by_cases hr0 : a % b = 0
      · rw [hr0]
        exact h0 b (fuel + 1) (st + 1) (by omega) (by omega)
      · have h2 := nat_half (a := a) (b := b) (by omega) hr0
        rw [h1 b (a % b) fuel (st + 1) hb (by omega) hr0 (by omega), Nat.gcd_rec (a % b) b]
        exact ih (a % b) (b % (a % b)) fuel (st + 1 + 1) (by omega) (by omega) (by rw [Nat.pow_succ] at hk; omega) (by omega) (by omega)
/-- z over c's own sign and the greatest divisor of a and c -/
def tlN (a c z : Int) : Int := (c.sign * z) / ((Int.gcd a c : Nat) : Int)
theorem tlN_scale {k : Int} (hk : k ≠ 0) (a c z : Int) : tlN (k * a) (k * c) (k * z) = tlN a c z := by
  unfold tlN
  have h1 : (k * c).sign * (k * z) = (k.natAbs : Int) * (c.sign * z) := by
    have h2 : k.sign * k = (k.natAbs : Int) := by
      rcases Int.lt_or_gt_of_ne hk with h | h
      · rw [Int.sign_eq_neg_one_of_neg h]
        omega
      · rw [Int.sign_eq_one_of_pos h]
        omega
    rw [Int.sign_mul, ← h2]
    grind
  rw [h1, Int.gcd_mul_left, Int.natCast_mul, Int.mul_ediv_mul_of_pos _ _ (by omega)]
theorem tlN_eq {a c a' c' : Int} (hc : c ≠ 0) (hc' : c' ≠ 0) (h : a * c' = a' * c) : tlN a c a = tlN a' c' a' ∧ tlN a c c = tlN a' c' c' := by
  have h1 : c' * a = c * a' := by grind
  have h2 : c' * c = c * c' := Int.mul_comm _ _
  constructor
  · rw [← tlN_scale hc' a c a, h1, h2, tlN_scale hc]
  · rw [← tlN_scale hc' a c c, h1, h2, tlN_scale hc]
end
section
/-! told, on both sides -/
theorem lg_cmp_ge0 {a : Int} (h : rL a) : 0 ≤ lg_cmp (iL a) (0 : Int64) ↔ 0 ≤ a := by
  have e0 : (0 : Int64) = iL 0 := rfl
  have r0 : rL 0 := ⟨by decide, by decide⟩
  unfold lg_cmp
  rw [e0]
  by_cases h1 : iL 0 < iL a
  · rw [if_pos h1]
    have := (iL_lt r0 h).mp h1
    exact ⟨fun _ => by omega, fun _ => by decide⟩
  · rw [if_neg h1]
    by_cases h2 : iL a = iL 0
    · rw [if_pos h2]
      have := (iL_eq h r0).mp h2
      exact ⟨fun _ => by omega, fun _ => by decide⟩
    · rw [if_neg h2]
      have h3 : ¬ 0 < a := fun q => h1 ((iL_lt r0 h).mpr q)
      have h4 : a ≠ 0 := fun q => h2 (by rw [q])
      exact ⟨fun q => absurd q (by decide), fun q => by omega⟩
theorem r8_abs {n : Nat} {σ : hv_St} {a : Int} (h : rL a) : mX8_abs n σ (iL a) = some (iL (a.natAbs : Int), σ) := by
  unfold mX8_abs
  by_cases h1 : 0 ≤ a
  · rw [if_pos ((lg_cmp_ge0 h).mpr h1), show (a.natAbs : Int) = a by omega]
  · rw [if_neg (fun q => h1 ((lg_cmp_ge0 h).mp q)), iL_neg, show (a.natAbs : Int) = -a by omega]
theorem r8_common {n : Nat} (hn : 200 ≤ n) {σ : hv_St} {a c : Int} (ha : rL a) (hc : rL c) : mX8_common n σ (iL a) (iL c) = some (iL ((Int.gcd a c : Nat) : Int), σ) := by
  have := ha.1; have := ha.2; have := hc.1; have := hc.2
  unfold mX8_common
  rw [r8_abs ha, hv_b2_e, r8_abs hc, hv_b2_e, r8_gcd 63 a.natAbs c.natAbs n (by omega) (by omega) (by omega) (by omega), Nat.gcd_comm]
  rfl
theorem tl_div {a c z : Int} (ha : rL a) (hc : rL c) (hc0 : c ≠ 0) (hz : z = a ∨ z = c) : (iL c.sign * iL z) / iL ((Int.gcd a c : Nat) : Int) = iL (tlN a c z) := by
  have := ha.1; have := ha.2; have := hc.1; have := hc.2
  have hg : 0 < Int.gcd a c := Int.gcd_pos_of_ne_zero_right _ hc0
  have hgc : Int.gcd a c ≤ c.natAbs := Nat.le_of_dvd (by omega) (Int.gcd_dvd_natAbs_right a c)
  have hzr : rL z := by rcases hz with rfl | rfl <;> assumption
  have hd : ((Int.gcd a c : Nat) : Int) ∣ z := by
    rcases hz with rfl | rfl
    · exact Int.gcd_dvd_left ..
    · exact Int.gcd_dvd_right ..
  have hs : c.sign * z = z ∨ c.sign * z = -z := by
    rcases Int.lt_or_gt_of_ne hc0 with h | h
    · rw [Int.sign_eq_neg_one_of_neg h]; omega
    · rw [Int.sign_eq_one_of_pos h]; omega
  have hzr2 : rL (c.sign * z) := by
    have := hzr.1; have := hzr.2
    rcases hs with h | h <;> rw [h] <;> exact ⟨by omega, by omega⟩
  rw [iL_mul, iL_div hzr2 ⟨by omega, by omega⟩]
  unfold tlN
  rw [Int.tdiv_eq_ediv_of_dvd (Int.dvd_mul_of_dvd_right hd)]
theorem r8_told {n : Nat} (hn : 200 ≤ n) {σ : hv_St} {a c : Int} (ha : rL a) (hc : rL c) (hc0 : c ≠ 0) (u : Int32) : mX8_told n σ (iL a) (iL c) u = some (iL (tlN a c (if u = 0 then a else c)), σ) := by
  have := ha.1; have := ha.2; have := hc.1; have := hc.2
  have hg : 0 < Int.gcd a c := Int.gcd_pos_of_ne_zero_right _ hc0
  have hgc : Int.gcd a c ≤ c.natAbs := Nat.le_of_dvd (by omega) (Int.gcd_dvd_natAbs_right a c)
  have hg0 : decide (¬ iL ((Int.gcd a c : Nat) : Int) = 0) = true := decide_eq_true (iL_ne0 (by omega) (by omega))
  unfold mX8_told
  rw [r8_common hn ha hc, hv_b2_e]
  have key : ∀ sg : Int64, sg = iL c.sign → kX8_told_20 n σ (iL a) (iL c) u (iL ((Int.gcd a c : Nat) : Int)) sg = some (iL (tlN a c (if u = 0 then a else c)), σ) := fun sg hs => by
    subst hs
    unfold kX8_told_20
    by_cases hu : u = 0
    · rw [if_pos hu, if_pos hu]
      unfold kX8_told_34
      rw [hv_if_t hg0, tl_div ha hc hc0 (Or.inl rfl)]
    · rw [if_neg hu, if_neg hu]
      unfold kX8_told_34
      rw [hv_if_t hg0, tl_div ha hc hc0 (Or.inr rfl)]
  by_cases h1 : 0 ≤ c
  · rw [if_pos ((lg_cmp_ge0 hc).mpr h1)]
    exact key _ (by rw [Int.sign_eq_one_of_pos (by omega)]; rfl)
  · rw [if_neg (fun q => h1 ((lg_cmp_ge0 hc).mp q))]
    exact key _ (by rw [Int.sign_eq_neg_one_of_neg (by omega)]; rfl)
end
section
/-! told, the class's side -/
theorem x7_quotient {n : Nat} {σ : hv_St} {a b : Int} (ha : rL a) (hb : rL b) (hb0 : b ≠ 0) : mX7_quotient n σ (iL a) (iL b) = some (iL (a.tdiv b), σ) := by
  have h1 : ¬ iL b = 0 := fun e => hb0 ((iL_eq hb (b := 0) ⟨by decide, by decide⟩).mp e)
  unfold mX7_quotient
  rw [if_neg (fun h => h1 ((lg_cmp0 _ _).mp h)), hv_if_t (decide_eq_true h1), iL_div ha hb]
theorem iL_abs {a : Int} (h : rL a) : (if 0 < iL a then iL a else -(iL a)) = iL (a.natAbs : Int) := by
  have h1 : (0 : Int64) < iL a ↔ 0 < a := iL_lt (a := 0) (b := a) ⟨by decide, by decide⟩ h
  by_cases h2 : 0 < a
  · rw [if_pos (h1.mpr h2), show (a.natAbs : Int) = a by omega]
  · rw [if_neg (fun q => h2 (h1.mp q)), iL_neg, show (a.natAbs : Int) = -a by omega]
theorem tl_tdiv {a c z : Int} (hc0 : c ≠ 0) (hz : z = a ∨ z = c) (g : Int) (hg : g = if 0 ≤ c then ((Int.gcd a c : Nat) : Int) else - ((Int.gcd a c : Nat) : Int)) : z.tdiv g = tlN a c z := by
  have hd : ((Int.gcd a c : Nat) : Int) ∣ z := by
    rcases hz with rfl | rfl
    · exact Int.gcd_dvd_left ..
    · exact Int.gcd_dvd_right ..
  have hg0 : ((Int.gcd a c : Nat) : Int) ≠ 0 := by
    have : 0 < Int.gcd a c := Int.gcd_pos_of_ne_zero_right _ hc0
    omega
  unfold tlN
  rw [← Int.tdiv_eq_ediv_of_dvd (Int.dvd_mul_of_dvd_right hd)]
  by_cases h : 0 ≤ c
  · rw [hg, if_pos h, Int.sign_eq_one_of_pos (by omega), Int.one_mul]
  · rw [hg, if_neg h, Int.sign_eq_neg_one_of_neg (by omega), Int.tdiv_neg, Int.neg_one_mul, Int.neg_tdiv]
theorem x2_reduce {n : Nat} (hn : 200 ≤ n) {σ : hv_St} {a c : Int} (ha : rL a) (hc : rL c) (hc0 : c ≠ 0) : mX2_reduce n σ (iL a) (iL c) = some (hv_sJ (hv_sJ σ 26 0 (iL (tlN a c a))) 26 1 (iL (tlN a c c))) := by
  have := ha.1; have := ha.2; have := hc.1; have := hc.2
  have hg : 0 < Int.gcd a c := Int.gcd_pos_of_ne_zero_right _ hc0
  have hgc : Int.gcd a c ≤ c.natAbs := Nat.le_of_dvd (by omega) (Int.gcd_dvd_natAbs_right a c)
  unfold mX2_reduce
  rw [iL_abs ha, iL_abs hc, hv_let_e, hv_let_e]
  have h1 : mX2_greatestDivisor n σ (iL (a.natAbs : Int)) (iL (c.natAbs : Int)) = some (iL ((Int.gcd a c : Nat) : Int), σ) := by
    show kX2_greatestDivisor_9 n n σ (iL (a.natAbs : Int)) (iL (c.natAbs : Int)) (nI 0) = _
    rw [x2_gcd 63 a.natAbs c.natAbs n 0 (by omega) (by omega) (by omega) (by omega) (by omega), Nat.gcd_comm]
    rfl
  rw [h1, hv_b2_e]
  have key : ∀ g : Int, (g = if 0 ≤ c then ((Int.gcd a c : Nat) : Int) else - ((Int.gcd a c : Nat) : Int)) → kX2_reduce_27 n σ (iL a) (iL c) (iL g) = some (hv_sJ (hv_sJ σ 26 0 (iL (tlN a c a))) 26 1 (iL (tlN a c c))) := fun g hg2 => by
    have hgr : rL g ∧ g ≠ 0 := by
      by_cases h : 0 ≤ c
      · rw [if_pos h] at hg2
        exact ⟨⟨by omega, by omega⟩, by omega⟩
      · rw [if_neg h] at hg2
        exact ⟨⟨by omega, by omega⟩, by omega⟩
    unfold kX2_reduce_27
    rw [x7_quotient ha hgr.1 hgr.2, hv_b2_e, hv_let_e, x7_quotient hc hgr.1 hgr.2, hv_b2_e, hv_let_e, tl_tdiv hc0 (Or.inl rfl) g hg2, tl_tdiv hc0 (Or.inr rfl) g hg2]
  by_cases h : 0 ≤ c
  · rw [if_pos ((lg_cmp_ge0 hc).mpr h)]
    exact key _ (by rw [if_pos h])
  · rw [if_neg (fun q => h ((lg_cmp_ge0 hc).mp q)), iL_neg]
    exact key _ (by rw [if_neg h])
theorem x7_told {n : Nat} (hn : 200 ≤ n) {σ : hv_St} {a c : Int} (ha : rL a) (hc : rL c) (hc0 : c ≠ 0) (u : Int32) : mX7_told n σ (iL a) (iL c) u = some (iL (tlN a c (if u = 0 then a else c)), hv_sJ (hv_sJ σ 26 0 (iL (tlN a c a))) 26 1 (iL (tlN a c c))) := by
  unfold mX7_told
  rw [x2_reduce hn ha hc hc0, hv_bd_e]
  by_cases hu : u = 0
  · rw [if_pos hu, if_pos hu]
    rfl
  · rw [if_neg hu, if_neg hu]
    rfl
end
section
/-! the small tests of both sides; what is kept of a frame: F, the reference's own numbers -/
theorem i64_le {a b : Int32} : a.toInt64 ≤ b.toInt64 ↔ a ≤ b := by
  rw [Int64.le_iff_toInt_le, Int32.le_iff_toInt_le, Int32.toInt_toInt64, Int32.toInt_toInt64]
theorem r8_in {n : Nat} {σ : hv_St} (v a b : Int64) : mX8_in n σ v a b = some (if a ≤ v ∧ v ≤ b then 1 else 0, σ) := by
  unfold mX8_in
  by_cases h1 : v < a
  · rw [if_pos ((lg_cmp_lt v a).mpr h1), if_neg (fun h => Int64.not_lt.mpr h.1 h1)]
    rfl
  · rw [if_neg (fun h => h1 ((lg_cmp_lt v a).mp h))]
    by_cases h2 : b < v
    · rw [if_pos ((lg_cmp_gt v b).mpr h2), if_neg (fun h => Int64.not_lt.mpr h.2 h2)]
      rfl
    · rw [if_neg (fun h => h2 ((lg_cmp_gt v b).mp h)), if_pos ⟨Int64.not_lt.mp h1, Int64.not_lt.mp h2⟩]
theorem r8_in32 {n : Nat} {σ : hv_St} (v a b : Int32) : mX8_in n σ v.toInt64 a.toInt64 b.toInt64 = some (if a ≤ v ∧ v ≤ b then 1 else 0, σ) := by
  rw [r8_in]
  by_cases h : a ≤ v ∧ v ≤ b
  · rw [if_pos h, if_pos ⟨i64_le.mpr h.1, i64_le.mpr h.2⟩]
  · rw [if_neg h, if_neg (fun q => h ⟨i64_le.mp q.1, i64_le.mp q.2⟩)]
/-- v is one of the first N numbers -/
def fN (N : Nat) (v : Int32) : Prop := ∃ k, k < N ∧ v = nI k
theorem fN_iff {N : Nat} (hN : N < 2 ^ 31) (v : Int32) : fN N v ↔ ¬ v < 0 ∧ ¬ nI N ≤ v := by
  constructor
  · rintro ⟨k, hk, rfl⟩
    exact ⟨nI_pos (by omega), nI_ge hk hN⟩
  · rintro ⟨h1, h2⟩
    obtain ⟨j, hj, rfl⟩ := nI_of h1
    exact ⟨j, Nat.lt_of_not_le (fun q => h2 ((nI_leI hN hj).mpr q)), rfl⟩
theorem fN_in {N : Nat} (hN : N < 2 ^ 31) (v : Int32) : fN N v ↔ 0 ≤ v ∧ v ≤ nI N - 1 := by
  rw [fN_iff hN]
  have e0 : (nI N).toInt = N := nI_toInt hN
  have e1 : (nI N - 1).toInt = (N : Int) - 1 := by
    rw [nI_iI, show (1 : Int32) = iI 1 from rfl, iI_sub, iI_toInt ⟨by omega, by omega⟩]
  rw [Int32.lt_iff_toInt_lt, Int32.le_iff_toInt_le, Int32.le_iff_toInt_le, Int32.le_iff_toInt_le, e0, e1, show (0 : Int32).toInt = 0 from rfl]
  omega
def rM (F : Nat → Nat → Int32) (σ : hv_St) : Prop := (σ.1 0 1 = F 0 1 ∧ σ.1 0 6 = F 0 6 ∧ σ.1 0 11 = F 0 11 ∧ σ.1 0 13 = F 0 13 ∧ σ.1 0 15 = F 0 15) ∧ ∀ k, 1 ≤ k → k ≤ 10 → σ.1 k = F k
def rX (F : Nat → Nat → Int32) (σ : hv_St) : Prop := (σ.1 1 0 = F 0 1 ∧ σ.1 1 1 = F 0 6 ∧ σ.1 1 2 = F 0 11 ∧ σ.1 22 0 = F 0 13 ∧ σ.1 22 1 = F 0 15) ∧ (∀ p, p < 6 → σ.1 2 (2 * p) = F 1 p ∧ σ.1 2 (2 * p + 1) = F 2 p) ∧ (∀ s, s < 12 → σ.1 3 s = F 4 s) ∧ (∀ p w, p < 6 → w < 2 → σ.1 4 (2 * p + w) = ((F 3 p) >>> nI w) &&& 1) ∧ (∀ b, b < 11 → σ.1 5 b = F 5 b ∧ σ.1 6 b = F 6 b ∧ σ.1 7 b = F 7 b ∧ σ.1 8 b = F 8 b) ∧ (∀ i, i < 6 → σ.1 23 i = F 9 i) ∧ ∀ i, i < 4 → σ.1 24 i = F 10 i
theorem r8_isPin {n : Nat} {σ : hv_St} {P : Nat} (hP : P < 2 ^ 31) (hs : σ.1 0 1 = nI P) (v : Int32) : (fN P v → mX8_isPin n σ v = some (1, σ)) ∧ (¬ fN P v → mX8_isPin n σ v = some (0, σ)) := by
  have e : mX8_isPin n σ v = some (if 0 ≤ v ∧ v ≤ nI P - 1 then 1 else 0, σ) := by
    unfold mX8_isPin
    rw [hs, show (0 : Int64) = (0 : Int32).toInt64 from rfl, r8_in32, hv_b2_e]
    refine hv_if_t ?_ _
    by_cases h : 0 ≤ v ∧ v ≤ nI P - 1
    · rw [if_pos h]; decide
    · rw [if_neg h]; decide
  rw [e]
  constructor
  · intro h
    rw [if_pos ((fN_in hP v).mp h)]
  · intro h
    rw [if_neg (fun q => h ((fN_in hP v).mpr q))]
theorem r8_isBar {n : Nat} {σ : hv_St} {P : Nat} (hP : P < 2 ^ 31) (hs : σ.1 0 6 = nI P) (v : Int32) : (fN P v → mX8_isBar n σ v = some (1, σ)) ∧ (¬ fN P v → mX8_isBar n σ v = some (0, σ)) := by
  have e : mX8_isBar n σ v = some (if 0 ≤ v ∧ v ≤ nI P - 1 then 1 else 0, σ) := by
    unfold mX8_isBar
    rw [hs, show (0 : Int64) = (0 : Int32).toInt64 from rfl, r8_in32, hv_b2_e]
    refine hv_if_t ?_ _
    by_cases h : 0 ≤ v ∧ v ≤ nI P - 1
    · rw [if_pos h]; decide
    · rw [if_neg h]; decide
  rw [e]
  constructor
  · intro h
    rw [if_pos ((fN_in hP v).mp h)]
  · intro h
    rw [if_neg (fun q => h ((fN_in hP v).mpr q))]
theorem x3_isPin {n : Nat} {σ : hv_St} {P : Nat} (hP : P < 2 ^ 31) (hs : σ.1 1 0 = nI P) (v : Int32) : (fN P v → mX3_isPin n σ v = some (1, σ)) ∧ (¬ fN P v → mX3_isPin n σ v = some (0, σ)) := by
  unfold mX3_isPin
  rw [hs]
  by_cases h1 : v < 0
  · rw [if_pos h1]
    exact ⟨fun h => absurd h1 ((fN_iff hP v).mp h).1, fun _ => rfl⟩
  · rw [if_neg h1]
    by_cases h2 : nI P ≤ v
    · rw [if_pos h2]
      exact ⟨fun h => absurd h2 ((fN_iff hP v).mp h).2, fun _ => rfl⟩
    · rw [if_neg h2]
      exact ⟨fun _ => rfl, fun h => absurd ((fN_iff hP v).mpr ⟨h1, h2⟩) h⟩
theorem x3_isBar {n : Nat} {σ : hv_St} {P : Nat} (hP : P < 2 ^ 31) (hs : σ.1 1 1 = nI P) (v : Int32) : (fN P v → mX3_isBar n σ v = some (1, σ)) ∧ (¬ fN P v → mX3_isBar n σ v = some (0, σ)) := by
  unfold mX3_isBar
  rw [hs]
  by_cases h1 : v < 0
  · rw [if_pos h1]
    exact ⟨fun h => absurd h1 ((fN_iff hP v).mp h).1, fun _ => rfl⟩
  · rw [if_neg h1]
    by_cases h2 : nI P ≤ v
    · rw [if_pos h2]
      exact ⟨fun h => absurd h2 ((fN_iff hP v).mp h).2, fun _ => rfl⟩
    · rw [if_neg h2]
      exact ⟨fun _ => rfl, fun h => absurd ((fN_iff hP v).mpr ⟨h1, h2⟩) h⟩
/-- bit k of a set -/
def fB (s k : Int32) : Prop := (s >>> (k &&& 31)) &&& 1 = 1
theorem r8_isOn {n : Nat} {σ : hv_St} (s k : Int32) : (fB s k → mX8_isOn n σ s k = some (1, σ)) ∧ (¬ fB s k → mX8_isOn n σ s k = some (0, σ)) := by
  unfold mX8_isOn fB
  exact ⟨fun h => if_pos h, fun h => if_neg h⟩
theorem x7_has {n : Nat} {σ : hv_St} (s k : Int32) : (fB s k → mX7_has n σ s k = some (1, σ)) ∧ (¬ fB s k → mX7_has n σ s k = some (0, σ)) := by
  unfold mX7_has fB
  exact ⟨fun h => if_pos h, fun h => if_neg h⟩
/-- a bar that is on: of the first B, its bit set -/
def fO (B : Nat) (s v : Int32) : Prop := fN B v ∧ fB s v
theorem x3_isOn {n : Nat} {σ : hv_St} {B : Nat} (hB : B < 2 ^ 31) (hs : σ.1 1 1 = nI B) (v : Int32) : (fO B (σ.1 1 2) v → mX3_isOn n σ v = some (1, σ)) ∧ (¬ fO B (σ.1 1 2) v → mX3_isOn n σ v = some (0, σ)) := by
  unfold mX3_isOn
  by_cases h1 : fN B v
  · rw [(x3_isBar hB hs v).1 h1, hv_b2_e, if_neg (by decide)]
    by_cases h2 : fB (σ.1 1 2) v
    · rw [(x7_has _ v).1 h2, hv_b2_e, if_neg (by decide)]
      exact ⟨fun _ => rfl, fun h => absurd ⟨h1, h2⟩ h⟩
    · rw [(x7_has _ v).2 h2, hv_b2_e, if_pos rfl]
      exact ⟨fun h => absurd h.2 h2, fun _ => rfl⟩
  · rw [(x3_isBar hB hs v).2 h1, hv_b2_e, if_pos rfl]
    exact ⟨fun h => absurd h.1 h1, fun _ => rfl⟩
end
section
/-! places -/
def fPl (x y : Int32) : Prop := fN 4 x ∧ fN 3 y
theorem r8_isPlace {n : Nat} {σ : hv_St} (x y : Int32) : (fPl x y → mX8_isPlace n σ x y = some (1, σ)) ∧ (¬ fPl x y → mX8_isPlace n σ x y = some (0, σ)) := by
  have hx : fN 4 x ↔ (0 : Int32) ≤ x ∧ x ≤ 3 := fN_in (N := 4) (by decide) x
  have hy : fN 3 y ↔ (0 : Int32) ≤ y ∧ y ≤ 2 := fN_in (N := 3) (by decide) y
  unfold mX8_isPlace
  rw [show (0 : Int64) = (0 : Int32).toInt64 from rfl, show (3 : Int64) = (3 : Int32).toInt64 from rfl, show (2 : Int64) = (2 : Int32).toInt64 from rfl, r8_in32, hv_b2_e]
  by_cases h1 : fN 4 x
  · rw [if_pos (hx.mp h1), if_neg (by decide), r8_in32, hv_b2_e]
    by_cases h2 : fN 3 y
    · rw [if_pos (hy.mp h2), if_neg (by decide)]
      exact ⟨fun _ => rfl, fun h => absurd ⟨h1, h2⟩ h⟩
    · rw [if_neg (fun q => h2 (hy.mpr q)), if_pos rfl]
      exact ⟨fun h => absurd h.2 h2, fun _ => rfl⟩
  · rw [if_neg (fun q => h1 (hx.mpr q)), if_pos rfl]
    exact ⟨fun h => absurd h.1 h1, fun _ => rfl⟩
theorem x3_hasPin {n : Nat} {σ : hv_St} {P : Nat} (hP : P ≤ 6) (hs : σ.1 1 0 = nI P) (x y : Int32) : ∀ (d k fuel : Nat), k + d = P → d < fuel → ((∃ p, k ≤ p ∧ p < P ∧ σ.1 2 (2 * p) = x ∧ σ.1 2 (2 * p + 1) = y) → kX3_hasPinAt_2 n fuel σ x y (nI k) = some (1, σ)) ∧ ((¬ ∃ p, k ≤ p ∧ p < P ∧ σ.1 2 (2 * p) = x ∧ σ.1 2 (2 * p + 1) = y) → kX3_hasPinAt_2 n fuel σ x y (nI k) = some (0, σ)) := by
  intro d
  induction d with
  | zero =>
    intro k fuel hk hf
    obtain ⟨fuel, rfl⟩ : ∃ q, fuel = q + 1 := ⟨fuel - 1, by omega⟩
    refine ⟨fun ⟨p, h1, h2, _⟩ => by omega, fun _ => ?_⟩
    show kX3_hasPinAt_2_b n _ _ _ _ _ = _
    unfold kX3_hasPinAt_2_b
    rw [hs, if_pos (nI_le (by omega) (by omega))]
  | succ d ih =>
    intro k fuel hk hf
    obtain ⟨fuel, rfl⟩ : ∃ q, fuel = q + 1 := ⟨fuel - 1, by omega⟩
    have hi := ih (k + 1) fuel (by omega) (by omega)
    have e : kX3_hasPinAt_2 n (fuel + 1) σ x y (nI k) = if σ.1 2 (2 * k) = x then (if σ.1 2 (2 * k + 1) = y then some (1, σ) else kX3_hasPinAt_2 n fuel σ x y (nI (k + 1))) else kX3_hasPinAt_2 n fuel σ x y (nI (k + 1)) := by
      show kX3_hasPinAt_2_b n _ _ _ _ _ = _
      unfold kX3_hasPinAt_2_b kX3_hasPinAt_38
      rw [hs, if_neg (nI_ge (by omega) (by omega))]
      simp only [nI_2, nI_1, hv_if_t (hv_ok_nI (show 2 * k < 12 by omega) (by decide)), hv_if_t (hv_ok_nI (show 2 * k + 1 < 12 by omega) (by decide)), nI_clamp (show 2 * k < 2 ^ 31 by omega), nI_clamp (show 2 * k + 1 < 2 ^ 31 by omega)]
    rw [e]
    by_cases h1 : σ.1 2 (2 * k) = x ∧ σ.1 2 (2 * k + 1) = y
    · rw [if_pos h1.1, if_pos h1.2]
      exact ⟨fun _ => rfl, fun h => absurd ⟨k, Nat.le_refl _, by omega, h1⟩ h⟩
    · have e2 : (if σ.1 2 (2 * k) = x then (if σ.1 2 (2 * k + 1) = y then some ((1 : Int32), σ) else kX3_hasPinAt_2 n fuel σ x y (nI (k + 1))) else kX3_hasPinAt_2 n fuel σ x y (nI (k + 1))) = kX3_hasPinAt_2 n fuel σ x y (nI (k + 1)) := by
        by_cases h2 : σ.1 2 (2 * k) = x
        · rw [if_pos h2, if_neg (fun h3 => h1 ⟨h2, h3⟩)]
        · rw [if_neg h2]
      rw [e2]
      refine ⟨fun ⟨p, h2, h3, h4⟩ => hi.1 ⟨p, ?_, h3, h4⟩, fun h => hi.2 (fun ⟨p, h2, h3, h4⟩ => h ⟨p, by omega, h3, h4⟩)⟩
      by_cases h5 : p = k
      · rw [h5] at h4
        exact absurd h4 h1
      · omega
theorem r8_pinAt {n : Nat} {σ : hv_St} {P : Nat} (hP : P ≤ 6) (hs : σ.1 0 1 = nI P) (x y : Int32) : ∀ (d k fuel : Nat), k + d = P → d < fuel → ((∃ p, k ≤ p ∧ p < P ∧ σ.1 1 p = x ∧ σ.1 2 p = y) → ∃ p, p < P ∧ kX8_pinAt_2 n fuel σ x y (nI k) = some (nI p, σ)) ∧ ((¬ ∃ p, k ≤ p ∧ p < P ∧ σ.1 1 p = x ∧ σ.1 2 p = y) → kX8_pinAt_2 n fuel σ x y (nI k) = some (-1, σ)) := by
  intro d
  induction d with
  | zero =>
    intro k fuel hk hf
    obtain ⟨fuel, rfl⟩ : ∃ q, fuel = q + 1 := ⟨fuel - 1, by omega⟩
    refine ⟨fun ⟨p, h1, h2, _⟩ => by omega, fun _ => ?_⟩
    show kX8_pinAt_2_b n _ _ _ _ _ = _
    unfold kX8_pinAt_2_b
    rw [hs, if_pos (nI_le (by omega) (by omega))]
  | succ d ih =>
    intro k fuel hk hf
    obtain ⟨fuel, rfl⟩ : ∃ q, fuel = q + 1 := ⟨fuel - 1, by omega⟩
    have hi := ih (k + 1) fuel (by omega) (by omega)
    have e : kX8_pinAt_2 n (fuel + 1) σ x y (nI k) = if σ.1 1 k = x then (if σ.1 2 k = y then some (nI k, σ) else kX8_pinAt_2 n fuel σ x y (nI (k + 1))) else kX8_pinAt_2 n fuel σ x y (nI (k + 1)) := by
      show kX8_pinAt_2_b n _ _ _ _ _ = _
      unfold kX8_pinAt_2_b kX8_pinAt_32
      rw [hs, if_neg (nI_ge (by omega) (by omega))]
      simp only [nI_1, hv_if_t (hv_ok_nI (show k < 6 by omega) (by decide)), nI_clamp (show k < 2 ^ 31 by omega)]
    rw [e]
    by_cases h1 : σ.1 1 k = x ∧ σ.1 2 k = y
    · rw [if_pos h1.1, if_pos h1.2]
      exact ⟨fun _ => ⟨k, by omega, rfl⟩, fun h => absurd ⟨k, Nat.le_refl _, by omega, h1⟩ h⟩
    · have e2 : (if σ.1 1 k = x then (if σ.1 2 k = y then some (nI k, σ) else kX8_pinAt_2 n fuel σ x y (nI (k + 1))) else kX8_pinAt_2 n fuel σ x y (nI (k + 1))) = kX8_pinAt_2 n fuel σ x y (nI (k + 1)) := by
        by_cases h2 : σ.1 1 k = x
        · rw [if_pos h2, if_neg (fun h3 => h1 ⟨h2, h3⟩)]
        · rw [if_neg h2]
      rw [e2]
      refine ⟨fun ⟨p, h2, h3, h4⟩ => hi.1 ⟨p, ?_, h3, h4⟩, fun h => hi.2 (fun ⟨p, h2, h3, h4⟩ => h ⟨p, by omega, h3, h4⟩)⟩
      by_cases h5 : p = k
      · rw [h5] at h4
        exact absurd h4 h1
      · omega
theorem x7_isFreePlace {n : Nat} {σ : hv_St} {P : Nat} (hn : 6 < n) (hP : P ≤ 6) (hs : σ.1 1 0 = nI P) (x y : Int32) : (fPl x y ∧ (¬ ∃ p, p < P ∧ σ.1 2 (2 * p) = x ∧ σ.1 2 (2 * p + 1) = y) → mX7_isFreePlace n σ x y = some (1, σ)) ∧ (¬ (fPl x y ∧ ¬ ∃ p, p < P ∧ σ.1 2 (2 * p) = x ∧ σ.1 2 (2 * p + 1) = y) → mX7_isFreePlace n σ x y = some (0, σ)) := by
  have hx : fN 4 x ↔ ¬ x < 0 ∧ ¬ (4 : Int32) ≤ x := fN_iff (N := 4) (by decide) x
  have hy : fN 3 y ↔ ¬ y < 0 ∧ ¬ (3 : Int32) ≤ y := fN_iff (N := 3) (by decide) y
  have e0 : kX7_isFreePlace_22 n σ x y = some (0, σ) := rfl
  have e1 : kX7_isFreePlace_23 n σ x y 1 = hv_b2 (mX3_hasPinAt n σ x y) fun r34 s34 => if r34 = 0 then (some ((1 : Int32), s34)) else (kX7_isFreePlace_44 n s34) := rfl
  have hh := x3_hasPin (n := n) hP hs x y P 0 n (by omega) (by omega)
  have e2 : kX3_hasPinAt_2 n n σ x y (nI 0) = mX3_hasPinAt n σ x y := rfl
  rw [e2] at hh
  unfold mX7_isFreePlace
  rw [e0, e1]
  by_cases h1 : x < 0
  · rw [if_pos h1]
    exact ⟨fun h => absurd h1 (hx.mp h.1.1).1, fun _ => rfl⟩
  · rw [if_neg h1]
    by_cases h2 : (4 : Int32) ≤ x
    · rw [if_pos h2]
      exact ⟨fun h => absurd h2 (hx.mp h.1.1).2, fun _ => rfl⟩
    · rw [if_neg h2]
      by_cases h3 : y < 0
      · rw [if_pos h3]
        exact ⟨fun h => absurd h3 (hy.mp h.1.2).1, fun _ => rfl⟩
      · rw [if_neg h3]
        by_cases h4 : (3 : Int32) ≤ y
        · rw [if_pos h4]
          exact ⟨fun h => absurd h4 (hy.mp h.1.2).2, fun _ => rfl⟩
        · rw [if_neg h4]
          have hpl : fPl x y := ⟨hx.mpr ⟨h1, h2⟩, hy.mpr ⟨h3, h4⟩⟩
          by_cases h5 : ∃ p, p < P ∧ σ.1 2 (2 * p) = x ∧ σ.1 2 (2 * p + 1) = y
          · rw [hh.1 (by obtain ⟨p, q⟩ := h5; exact ⟨p, Nat.zero_le _, q⟩), hv_b2_e]
            exact ⟨fun h => absurd h5 h.2, fun _ => rfl⟩
          · rw [hh.2 (fun ⟨p, _, q⟩ => h5 ⟨p, q⟩), hv_b2_e]
            exact ⟨fun _ => rfl, fun h => absurd ⟨hpl, h5⟩ h⟩
end
section
/-! the two states and the frame F -/
def fU (F : Nat → Nat → Int32) (k i : Nat) (v : Int32) : Nat → Nat → Int32 := fun j => if j = k then upd (F j) i v else F j
theorem fU_at (F : Nat → Nat → Int32) (k i j : Nat) (v : Int32) : fU F k i v k j = if j = i then v else F k j := by
  unfold fU
  rw [if_pos rfl]
  rfl
theorem fU_ne (F : Nat → Nat → Int32) {k q : Nat} (i : Nat) (v : Int32) (h : q ≠ k) : fU F k i v q = F q := if_neg h
theorem hv_sI_rd (σ : hv_St) (k i j : Nat) (v : Int32) : (hv_sI σ k i v).1 k j = if j = i then v else σ.1 k j := by
  rw [hv_sI_at]
  rfl
theorem rM_up {F : Nat → Nat → Int32} {σ : hv_St} (h : rM F σ) {k : Nat} (hk : k ≤ 10) (i : Nat) (v : Int32) : rM (fU F k i v) (hv_sI σ k i v) := by
  obtain ⟨⟨h1, h2, h3, h4, h5⟩, h6⟩ := h
  by_cases e : k = 0
  · subst e
    refine ⟨⟨?_, ?_, ?_, ?_, ?_⟩, fun q q1 q2 => ?_⟩
    · rw [hv_sI_rd, fU_at, h1]
    · rw [hv_sI_rd, fU_at, h2]
    · rw [hv_sI_rd, fU_at, h3]
    · rw [hv_sI_rd, fU_at, h4]
    · rw [hv_sI_rd, fU_at, h5]
    · rw [hv_sI_ne _ _ _ (by omega), fU_ne _ _ _ (by omega)]
      exact h6 q q1 q2
  · refine ⟨?_, fun q q1 q2 => ?_⟩
    · rw [hv_sI_ne _ _ _ (fun e2 => e e2.symm), fU_ne _ _ _ (fun e2 => e e2.symm)]
      exact ⟨h1, h2, h3, h4, h5⟩
    · by_cases e2 : q = k
      · subst e2
        funext j
        rw [hv_sI_rd, fU_at, h6 q q1 q2]
      · rw [hv_sI_ne _ _ _ e2, fU_ne _ _ _ e2]
        exact h6 q q1 q2
theorem rM_sc {F : Nat → Nat → Int32} {σ : hv_St} (h : rM F σ) {i : Nat} (hi : i ≠ 1 ∧ i ≠ 6 ∧ i ≠ 11 ∧ i ≠ 13 ∧ i ≠ 15) (v : Int32) : rM F (hv_sI σ 0 i v) := by
  obtain ⟨⟨h1, h2, h3, h4, h5⟩, h6⟩ := h
  refine ⟨⟨?_, ?_, ?_, ?_, ?_⟩, fun q q1 q2 => ?_⟩
  · rw [hv_sI_rd, if_neg (fun e => hi.1 e.symm), h1]
  · rw [hv_sI_rd, if_neg (fun e => hi.2.1 e.symm), h2]
  · rw [hv_sI_rd, if_neg (fun e => hi.2.2.1 e.symm), h3]
  · rw [hv_sI_rd, if_neg (fun e => hi.2.2.2.1 e.symm), h4]
  · rw [hv_sI_rd, if_neg (fun e => hi.2.2.2.2 e.symm), h5]
  · rw [hv_sI_ne _ _ _ (by omega)]
    exact h6 q q1 q2
theorem rM_sI {F : Nat → Nat → Int32} {σ : hv_St} (h : rM F σ) {c : Nat} (hc : 10 < c) (i : Nat) (v : Int32) : rM F (hv_sI σ c i v) := by
  obtain ⟨h1, h6⟩ := h
  refine ⟨?_, fun q q1 q2 => ?_⟩
  · rw [hv_sI_ne _ _ _ (by omega)]
    exact h1
  · rw [hv_sI_ne _ _ _ (by omega)]
    exact h6 q q1 q2
theorem rM_sJ {F : Nat → Nat → Int32} {σ : hv_St} (h : rM F σ) (c i : Nat) (v : Int64) : rM F (hv_sJ σ c i v) := h
theorem rM_1 {F : Nat → Nat → Int32} {σ τ : hv_St} (h : rM F σ) (e : τ.1 = σ.1) : rM F τ := by
  unfold rM
  rw [e]
  exact h
theorem rX_1 {F : Nat → Nat → Int32} {σ τ : hv_St} (h : rX F σ) (e : ∀ k, (1 ≤ k ∧ k ≤ 8) ∨ (22 ≤ k ∧ k ≤ 24) → τ.1 k = σ.1 k) : rX F τ := by
  unfold rX
  rw [e 1 (by omega), e 2 (by omega), e 3 (by omega), e 4 (by omega), e 5 (by omega), e 6 (by omega), e 7 (by omega), e 8 (by omega), e 22 (by omega), e 23 (by omega), e 24 (by omega)]
  exact h
/-- a frame's numbers: P pins, B bars, O on, D of the deck, W weights -/
def hI (F : Nat → Nat → Int32) (P B O D W : Nat) : Prop :=
  (F 0 1 = nI P ∧ P ≤ 6) ∧ (F 0 6 = nI B ∧ B ≤ 11) ∧ (F 0 11 = nI O ∧ O < 2 ^ B) ∧ (F 0 13 = nI D ∧ D ≤ P) ∧ (F 0 15 = nI W ∧ W ≤ 4) ∧
  (∀ p, p < P → fN 4 (F 1 p) ∧ fN 3 (F 2 p)) ∧
  (∀ b, b < B → fN P (F 5 b) ∧ fN P (F 6 b) ∧ (∃ g, F 7 b = nI g ∧ 1 ≤ g ∧ g ≤ 3) ∧ ∃ s, F 8 b = nI s ∧ 1 ≤ s ∧ s ≤ 999) ∧
  (∀ s, s < 12 → ∃ z : Int, F 4 s = iI z ∧ -9 ≤ z ∧ z ≤ 9) ∧ (∀ p, p < 6 → fN 4 (F 3 p)) ∧ (∀ i, i < D → fN P (F 9 i)) ∧ (∀ i j, i < D → j < D → F 9 i = F 9 j → i = j) ∧
  ∀ i, i < W → ∃ w, F 10 i = nI w ∧ 1 ≤ w ∧ w ≤ 9
def hR (F : Nat → Nat → Int32) (P B O D W : Nat) (σX σM : hv_St) : Prop := hI F P B O D W ∧ rX F σX ∧ rM F σM
theorem fN_mono {N M : Nat} (h : N ≤ M) {v : Int32} (hv : fN N v) : fN M v := by
  obtain ⟨k, hk, e⟩ := hv
  exact ⟨k, by omega, e⟩
theorem op_pin {n : Nat} (hn : 100 < n) {F : Nat → Nat → Int32} {P B O D W : Nat} {σX σM : hv_St} (h : hR F P B O D W σX σM) (x y : Int32) : ∃ r σX' σM' F' P', mX7_pin n σX x y = some (r, σX') ∧ mX8_pin n σM x y = some (r, σM') ∧ hR F' P' B O D W σX' σM' := by
  obtain ⟨hi, hx, hm⟩ := h
  have hP := hi.1
  have sX : σX.1 1 0 = nI P := hx.1.1.trans hP.1
  have hm0 : rM F (hv_sI σM 0 0 0) := rM_sc hm (by decide) 0
  have sM : (hv_sI σM 0 0 0).1 0 1 = nI P := hm0.1.1.trans hP.1
  by_cases h6 : P = 6
  · refine ⟨-1, σX, hv_sI σM 0 0 0, F, P, ?_, ?_, hi, hx, hm0⟩
    · unfold mX7_pin
      rw [sX, h6]
      rfl
    · unfold mX8_pin
      rw [hv_let_e, sM, h6]
      rfl
  · have hP5 : P < 6 := by have := hP.2; omega
    have n6 : ¬ (6 : Int32) ≤ nI P := nI_ge (b := 6) (by omega) (by decide)
    have e6 : ¬ nI P = (6 : Int32) := fun e => h6 ((nI_eq (b := 6) (by omega) (by decide)).mp e)
    have hf := x7_isFreePlace (n := n) (by omega) hP.2 sX x y
    have hp := r8_isPlace (n := n) (σ := hv_sI σM 0 0 0) x y
    have ha := r8_pinAt (n := n) hP.2 sM x y P 0 n (by omega) (by omega)
    have ea : kX8_pinAt_2 n n (hv_sI σM 0 0 0) x y (nI 0) = mX8_pinAt n (hv_sI σM 0 0 0) x y := rfl
    rw [ea] at ha
    have hit : (∃ p, p < P ∧ σX.1 2 (2 * p) = x ∧ σX.1 2 (2 * p + 1) = y) ↔ ∃ p, 0 ≤ p ∧ p < P ∧ (hv_sI σM 0 0 0).1 1 p = x ∧ (hv_sI σM 0 0 0).1 2 p = y := by
      constructor
      · rintro ⟨p, q1, q2, q3⟩
        refine ⟨p, Nat.zero_le _, q1, ?_, ?_⟩
        · rw [hm0.2 1 (by decide) (by decide), ← (hx.2.1 p (by omega)).1, q2]
        · rw [hm0.2 2 (by decide) (by decide), ← (hx.2.1 p (by omega)).2, q3]
      · rintro ⟨p, -, q1, q2, q3⟩
        rw [hm0.2 1 (by decide) (by decide)] at q2
        rw [hm0.2 2 (by decide) (by decide)] at q3
        exact ⟨p, q1, (hx.2.1 p (by omega)).1.trans q2, (hx.2.1 p (by omega)).2.trans q3⟩
    by_cases hpl : fPl x y
    · by_cases hh : ∃ p, p < P ∧ σX.1 2 (2 * p) = x ∧ σX.1 2 (2 * p + 1) = y
      · refine ⟨-1, σX, hv_sI σM 0 0 0, F, P, ?_, ?_, hi, hx, hm0⟩
        · unfold mX7_pin
          rw [sX, if_neg n6, hf.2 (fun q => q.2 hh), hv_b2_e, if_pos rfl]
        · obtain ⟨p, p1, p2⟩ := ha.1 (hit.mp hh)
          have e1 : ¬ nI p = (-1 : Int32) := fun e => nI_pos (n := p) (by omega) (by rw [e]; decide)
          unfold mX8_pin
          rw [hv_let_e, sM, if_neg e6, hp.1 hpl, hv_b2_e, if_neg (by decide), p2, hv_b2_e, if_neg e1]
      · refine ⟨nI P, hv_sI (hv_sI (hv_sI σX 1 0 (nI (P + 1))) 2 (2 * P) x) 2 (2 * P + 1) y, hv_sI (hv_sI (hv_sI (hv_sI σM 0 0 0) 1 P x) 2 P y) 0 1 (nI (P + 1)), fU (fU (fU F 1 P x) 2 P y) 0 1 (nI (P + 1)), P + 1, ?_, ?_, ?_, ?_, rM_up (rM_up (rM_up hm0 (k := 1) (by decide) P x) (k := 2) (by decide) P y) (k := 0) (by decide) 1 (nI (P + 1))⟩
        · unfold mX7_pin
          rw [sX, if_neg n6, hf.1 ⟨hpl, hh⟩, hv_b2_e, if_neg (by decide), sX]
          simp only [hv_let_e]
          unfold mX3_put
          simp only [nI_2, nI_1, hv_if_t (hv_ok_nI (show 2 * P < 12 by omega) (by decide)), hv_if_t (hv_ok_nI (show 2 * P + 1 < 12 by omega) (by decide)), nI_clamp (show 2 * P < 2 ^ 31 by omega), nI_clamp (show 2 * P + 1 < 2 ^ 31 by omega), hv_let_e, hv_bd_e]
        · unfold mX8_pin
          rw [hv_let_e, sM, if_neg e6, hp.1 hpl, hv_b2_e, if_neg (by decide), ha.2 (fun q => hh (hit.mpr q)), hv_b2_e, if_pos rfl]
          have s1 : (hv_sI (hv_sI σM 0 0 0) 1 P x).1 0 1 = nI P := by rw [hv_sI_ne _ _ _ (by decide)]; exact sM
          have s2 : (hv_sI (hv_sI (hv_sI σM 0 0 0) 1 P x) 2 P y).1 0 1 = nI P := by rw [hv_sI_ne _ _ _ (by decide)]; exact s1
          simp only [sM, hv_if_t (hv_ok_nI (show P < 6 by omega) (by decide)), nI_clamp (show P < 2 ^ 31 by omega), hv_let_e, s1, s2, nI_1, hv_sI_rd, if_true, nI_pred]
        · obtain ⟨-, g2, g3, g4, g5, g6, g7, g8, g9, g10, g11, g12⟩ := hi
          refine ⟨⟨by simp [fU, upd], by omega⟩, ⟨by simp [fU, upd, g2.1], g2.2⟩, ⟨by simp [fU, upd, g3.1], g3.2⟩, ⟨by simp [fU, upd, g4.1], by have := g4.2; omega⟩, ⟨by simp [fU, upd, g5.1], g5.2⟩, fun p hp' => ?_, fun b hb => ?_, fun s hs => by simpa [fU, upd] using g8 s hs, fun p hp' => by simpa [fU, upd] using g9 p hp', fun i hi' => by simpa [fU, upd] using fN_mono (M := P + 1) (by omega) (g10 i hi'), fun i j hi' hj => by simpa [fU, upd] using g11 i j hi' hj, fun i hi' => by simpa [fU, upd] using g12 i hi'⟩
          · by_cases e : p = P
            · simp [fU, upd, e, hpl.1, hpl.2]
            · simpa [fU, upd, e] using g6 p (by omega)
          · have q := g7 b hb
            simpa [fU, upd] using ⟨fN_mono (M := P + 1) (by omega) q.1, fN_mono (M := P + 1) (by omega) q.2.1, q.2.2⟩
        · obtain ⟨⟨k1, k2, k3, k4, k5⟩, k6, k7, k8, k9, k10, k11⟩ := hx
          refine ⟨⟨by simp [hv_sI, fU, upd], by simp [hv_sI, fU, upd, k2], by simp [hv_sI, fU, upd, k3], by simp [hv_sI, fU, upd, k4], by simp [hv_sI, fU, upd, k5]⟩, fun p hp' => ?_, fun s hs => by simpa [hv_sI, fU, upd] using k7 s hs, fun p w hp' hw => by simpa [hv_sI, fU, upd] using k8 p w hp' hw, fun b hb => by simpa [hv_sI, fU, upd] using k9 b hb, fun i hi' => by simpa [hv_sI, fU, upd] using k10 i hi', fun i hi' => by simpa [hv_sI, fU, upd] using k11 i hi'⟩
          have q := k6 p hp'
          have a1 : ¬ 2 * p = 2 * P + 1 := by omega
          have a2 : ¬ 2 * p + 1 = 2 * P := by omega
          have a3 : (2 * p = 2 * P) ↔ p = P := by omega
          have a4 : (2 * p + 1 = 2 * P + 1) ↔ p = P := by omega
          by_cases e : p = P
          · simp [hv_sI, fU, upd, e]
          · have a5 : ¬ 2 * p = 2 * P := by omega
            simp [hv_sI, fU, upd, e, a1, a2, a5, q]
    · refine ⟨-1, σX, hv_sI σM 0 0 0, F, P, ?_, ?_, hi, hx, hm0⟩
      · unfold mX7_pin
        rw [sX, if_neg n6, hf.2 (fun q => hpl q.1), hv_b2_e, if_pos rfl]
      · unfold mX8_pin
        rw [hv_let_e, sM, if_neg e6, hp.2 hpl, hv_b2_e, if_pos rfl]
end
section
/-! place, strip, turn -/
theorem op_place {n : Nat} (hn : 100 < n) {F : Nat → Nat → Int32} {P B O D W : Nat} {σX σM : hv_St} (h : hR F P B O D W σX σM) (v x y : Int32) : ∃ r σX' σM' F', mX7_place n σX v x y = some (r, σX') ∧ mX8_place n σM v x y = some (r, σM') ∧ hR F' P B O D W σX' σM' := by
  obtain ⟨hi, hx, hm⟩ := h
  have hP := hi.1
  have hP6 := hP.2
  have sX : σX.1 1 0 = nI P := hx.1.1.trans hP.1
  have hm0 : rM F (hv_sI σM 0 0 0) := rM_sc hm (by decide) 0
  have sM : (hv_sI σM 0 0 0).1 0 1 = nI P := hm0.1.1.trans hP.1
  have hf := x7_isFreePlace (n := n) (by omega) hP.2 sX x y
  have hp := r8_isPlace (n := n) (σ := hv_sI σM 0 0 0) x y
  have ha := r8_pinAt (n := n) hP.2 sM x y P 0 n (by omega) (by omega)
  have ea : kX8_pinAt_2 n n (hv_sI σM 0 0 0) x y (nI 0) = mX8_pinAt n (hv_sI σM 0 0 0) x y := rfl
  rw [ea] at ha
  have hit : (∃ p, p < P ∧ σX.1 2 (2 * p) = x ∧ σX.1 2 (2 * p + 1) = y) ↔ ∃ p, 0 ≤ p ∧ p < P ∧ (hv_sI σM 0 0 0).1 1 p = x ∧ (hv_sI σM 0 0 0).1 2 p = y := by
    constructor
    · rintro ⟨p, q1, q2, q3⟩
      refine ⟨p, Nat.zero_le _, q1, ?_, ?_⟩
      · rw [hm0.2 1 (by decide) (by decide), ← (hx.2.1 p (by omega)).1, q2]
      · rw [hm0.2 2 (by decide) (by decide), ← (hx.2.1 p (by omega)).2, q3]
    · rintro ⟨p, -, q1, q2, q3⟩
      rw [hm0.2 1 (by decide) (by decide)] at q2
      rw [hm0.2 2 (by decide) (by decide)] at q3
      exact ⟨p, q1, (hx.2.1 p (by omega)).1.trans q2, (hx.2.1 p (by omega)).2.trans q3⟩
  by_cases hv : fN P v
  · by_cases hpl : fPl x y
    · by_cases hh : ∃ p, p < P ∧ σX.1 2 (2 * p) = x ∧ σX.1 2 (2 * p + 1) = y
      · refine ⟨0, σX, hv_sI σM 0 0 0, F, ?_, ?_, hi, hx, hm0⟩
        · unfold mX7_place
          rw [(x3_isPin (by omega) sX v).1 hv, hv_b2_e, if_neg (by decide), hf.2 (fun q => q.2 hh), hv_b2_e, if_pos rfl]
        · obtain ⟨p, p1, p2⟩ := ha.1 (hit.mp hh)
          have e1 : ¬ nI p = (-1 : Int32) := fun e => nI_pos (n := p) (by omega) (by rw [e]; decide)
          unfold mX8_place
          rw [hv_let_e, (r8_isPin (by omega) sM v).1 hv, hv_b2_e, if_neg (by decide), hp.1 hpl, hv_b2_e, if_neg (by decide), p2, hv_b2_e, if_neg e1]
      · obtain ⟨k, hk, rfl⟩ := hv
        refine ⟨1, hv_sI (hv_sI σX 2 (2 * k) x) 2 (2 * k + 1) y, hv_sI (hv_sI (hv_sI σM 0 0 0) 1 k x) 2 k y, fU (fU F 1 k x) 2 k y, ?_, ?_, ?_, ?_, rM_up (rM_up hm0 (k := 1) (by decide) k x) (k := 2) (by decide) k y⟩
        · unfold mX7_place
          rw [(x3_isPin (by omega) sX (nI k)).1 ⟨k, hk, rfl⟩, hv_b2_e, if_neg (by decide), hf.1 ⟨hpl, hh⟩, hv_b2_e, if_neg (by decide)]
          unfold mX3_put
          simp only [nI_2, nI_1, hv_if_t (hv_ok_nI (show 2 * k < 12 by omega) (by decide)), hv_if_t (hv_ok_nI (show 2 * k + 1 < 12 by omega) (by decide)), nI_clamp (show 2 * k < 2 ^ 31 by omega), nI_clamp (show 2 * k + 1 < 2 ^ 31 by omega), hv_let_e, hv_bd_e]
        · unfold mX8_place
          rw [hv_let_e, (r8_isPin (by omega) sM (nI k)).1 ⟨k, hk, rfl⟩, hv_b2_e, if_neg (by decide), hp.1 hpl, hv_b2_e, if_neg (by decide), ha.2 (fun q => hh (hit.mpr q)), hv_b2_e, if_pos rfl]
          simp only [hv_if_t (hv_ok_nI (show k < 6 by omega) (by decide)), nI_clamp (show k < 2 ^ 31 by omega), hv_let_e]
        · obtain ⟨g1, g2, g3, g4, g5, g6, g7, g8, g9, g10, g11, g12⟩ := hi
          refine ⟨⟨by simp [fU, upd, g1.1], g1.2⟩, ⟨by simp [fU, upd, g2.1], g2.2⟩, ⟨by simp [fU, upd, g3.1], g3.2⟩, ⟨by simp [fU, upd, g4.1], g4.2⟩, ⟨by simp [fU, upd, g5.1], g5.2⟩, fun p hp' => ?_, fun b hb => by simpa [fU, upd] using g7 b hb, fun s hs => by simpa [fU, upd] using g8 s hs, fun p hp' => by simpa [fU, upd] using g9 p hp', fun i hi' => by simpa [fU, upd] using g10 i hi', fun i j hi' hj => by simpa [fU, upd] using g11 i j hi' hj, fun i hi' => by simpa [fU, upd] using g12 i hi'⟩
          by_cases e : p = k
          · simp [fU, upd, e, hpl.1, hpl.2]
          · simpa [fU, upd, e] using g6 p hp'
        · obtain ⟨⟨k1, k2, k3, k4, k5⟩, k6, k7, k8, k9, k10, k11⟩ := hx
          refine ⟨⟨by simp [hv_sI, fU, upd, k1], by simp [hv_sI, fU, upd, k2], by simp [hv_sI, fU, upd, k3], by simp [hv_sI, fU, upd, k4], by simp [hv_sI, fU, upd, k5]⟩, fun p hp' => ?_, fun s hs => by simpa [hv_sI, fU, upd] using k7 s hs, fun p w hp' hw => by simpa [hv_sI, fU, upd] using k8 p w hp' hw, fun b hb => by simpa [hv_sI, fU, upd] using k9 b hb, fun i hi' => by simpa [hv_sI, fU, upd] using k10 i hi', fun i hi' => by simpa [hv_sI, fU, upd] using k11 i hi'⟩
          have q := k6 p hp'
          have a1 : ¬ 2 * p = 2 * k + 1 := by omega
          have a2 : ¬ 2 * p + 1 = 2 * k := by omega
          by_cases e : p = k
          · simp [hv_sI, fU, upd, e]
          · have a5 : ¬ 2 * p = 2 * k := by omega
            simp [hv_sI, fU, upd, e, a1, a2, a5, q]
    · refine ⟨0, σX, hv_sI σM 0 0 0, F, ?_, ?_, hi, hx, hm0⟩
      · unfold mX7_place
        rw [(x3_isPin (by omega) sX v).1 hv, hv_b2_e, if_neg (by decide), hf.2 (fun q => hpl q.1), hv_b2_e, if_pos rfl]
      · unfold mX8_place
        rw [hv_let_e, (r8_isPin (by omega) sM v).1 hv, hv_b2_e, if_neg (by decide), hp.2 hpl, hv_b2_e, if_pos rfl]
  · refine ⟨0, σX, hv_sI σM 0 0 0, F, ?_, ?_, hi, hx, hm0⟩
    · unfold mX7_place
      rw [(x3_isPin (by omega) sX v).2 hv, hv_b2_e, if_pos rfl]
    · unfold mX8_place
      rw [hv_let_e, (r8_isPin (by omega) sM v).2 hv, hv_b2_e, if_pos rfl]
end
section
/-! strip, turn, load -/
theorem op_strip {n : Nat} {F : Nat → Nat → Int32} {P B O D W : Nat} {σX σM : hv_St} (h : hR F P B O D W σX σM) : ∃ r σX' σM' F', mX7_strip n σX = some (r, σX') ∧ mX8_strip n σM = some (r, σM') ∧ hR F' P B O 0 W σX' σM' := by
  obtain ⟨hi, hx, hm⟩ := h
  have hm0 : rM F (hv_sI σM 0 0 0) := rM_sc hm (by decide) 0
  refine ⟨nI D, hv_sI σX 22 0 0, hv_sI (hv_sI σM 0 0 0) 0 13 0, fU F 0 13 0, ?_, ?_, ?_, ?_, rM_up hm0 (k := 0) (by decide) 13 0⟩
  · unfold mX7_strip
    simp only [hv_let_e]
    rw [hx.1.2.2.2.1, hi.2.2.2.1.1]
  · unfold mX8_strip
    simp only [hv_let_e]
    rw [hm0.1.2.2.2.1, hi.2.2.2.1.1]
  · obtain ⟨g1, g2, g3, g4, g5, g6, g7, g8, g9, g10, g11, g12⟩ := hi
    exact ⟨⟨by simp [fU, upd, g1.1], g1.2⟩, ⟨by simp [fU, upd, g2.1], g2.2⟩, ⟨by simp [fU, upd, g3.1], g3.2⟩, ⟨by simp [fU, upd]; rfl, Nat.zero_le _⟩, ⟨by simp [fU, upd, g5.1], g5.2⟩, fun p hp' => by simpa [fU, upd] using g6 p hp', fun b hb => by simpa [fU, upd] using g7 b hb, fun s hs => by simpa [fU, upd] using g8 s hs, fun p hp' => by simpa [fU, upd] using g9 p hp', fun i hi' => absurd hi' (by omega), fun i j hi' hj => absurd hi' (by omega), fun i hi' => by simpa [fU, upd] using g12 i hi'⟩
  · obtain ⟨⟨k1, k2, k3, k4, k5⟩, k6, k7, k8, k9, k10, k11⟩ := hx
    exact ⟨⟨by simp [hv_sI, fU, upd, k1], by simp [hv_sI, fU, upd, k2], by simp [hv_sI, fU, upd, k3], by simp [hv_sI, fU, upd], by simp [hv_sI, fU, upd, k5]⟩, fun p hp' => by simpa [hv_sI, fU, upd] using k6 p hp', fun s hs => by simpa [hv_sI, fU, upd] using k7 s hs, fun p w hp' hw => by simpa [hv_sI, fU, upd] using k8 p w hp' hw, fun b hb => by simpa [hv_sI, fU, upd] using k9 b hb, fun i hi' => by simpa [hv_sI, fU, upd] using k10 i hi', fun i hi' => by simpa [hv_sI, fU, upd] using k11 i hi'⟩
theorem nI_shl {k : Nat} (h : k < 31) : (1 : Int32) <<< (nI k &&& 31) = nI (2 ^ k) := by
  have : ∀ k : Fin 31, (1 : Int32) <<< (nI k.val &&& 31) = nI (2 ^ k.val) := by decide +kernel
  exact this ⟨k, h⟩
theorem nI_xor (a b : Nat) : nI a ^^^ nI b = nI (a ^^^ b) := by
  show Int32.ofNat a ^^^ Int32.ofNat b = Int32.ofNat (a ^^^ b)
  rw [← Int32.toBitVec_inj, Int32.toBitVec_xor, Int32.toBitVec_ofNat', Int32.toBitVec_ofNat', Int32.toBitVec_ofNat', BitVec.ofNat_xor]
/-- the set turned: another set of the same bars -/
theorem set_turn {B O k : Nat} (hO : O < 2 ^ B) (hk : k < B) (hB : B ≤ 11) : nI O ^^^ ((1 : Int32) <<< (nI k &&& 31)) = nI (O ^^^ 2 ^ k) ∧ O ^^^ 2 ^ k < 2 ^ B := by
  rw [nI_shl (by omega), nI_xor]
  exact ⟨rfl, Nat.xor_lt_two_pow hO (Nat.pow_lt_pow_right (by decide) hk)⟩
theorem op_turn {n : Nat} {F : Nat → Nat → Int32} {P B O D W : Nat} {σX σM : hv_St} (h : hR F P B O D W σX σM) (v w : Int32) (hw : w = 0 ∨ w = 1) : ∃ r σX' σM' F' O', mX7_turn n σX v w = some (r, σX') ∧ mX8_turn n σM v w = some (r, σM') ∧ hR F' P B O' D W σX' σM' := by
  obtain ⟨hi, hx, hm⟩ := h
  have hm0 : rM F (hv_sI σM 0 0 0) := rM_sc hm (by decide) 0
  have hB := hi.2.1
  have hB11 := hB.2
  have sX : σX.1 1 1 = nI B := hx.1.2.1.trans hB.1
  have sM : (hv_sI σM 0 0 0).1 0 6 = nI B := hm0.1.2.1.trans hB.1
  have oX : σX.1 1 2 = nI O := hx.1.2.2.1.trans hi.2.2.1.1
  have oM : (hv_sI σM 0 0 0).1 0 11 = nI O := hm0.1.2.2.1.trans hi.2.2.1.1
  have hgo : ∀ k, k < B → ∃ σX' σM' F' O', hv_sI σX 1 2 ((σX.1 1 2) ^^^ (((1 : Int32)) <<< ((nI k) &&& 31))) = σX' ∧ hv_sI (hv_sI σM 0 0 0) 0 11 (((hv_sI σM 0 0 0).1 0 11) ^^^ (((1 : Int32)) <<< ((nI k) &&& 31))) = σM' ∧ hR F' P B O' D W σX' σM' := fun k hk => by
    obtain ⟨t1, t2⟩ := set_turn hi.2.2.1.2 hk hB.2
    refine ⟨_, _, fU F 0 11 (nI (O ^^^ 2 ^ k)), O ^^^ 2 ^ k, rfl, rfl, ?_, ?_, ?_⟩
    · obtain ⟨g1, g2, g3, g4, g5, g6, g7, g8, g9, g10, g11, g12⟩ := hi
      exact ⟨⟨by simp [fU, upd, g1.1], g1.2⟩, ⟨by simp [fU, upd, g2.1], g2.2⟩, ⟨by simp [fU, upd], t2⟩, ⟨by simp [fU, upd, g4.1], g4.2⟩, ⟨by simp [fU, upd, g5.1], g5.2⟩, fun p hp' => by simpa [fU, upd] using g6 p hp', fun b hb => by simpa [fU, upd] using g7 b hb, fun s hs => by simpa [fU, upd] using g8 s hs, fun p hp' => by simpa [fU, upd] using g9 p hp', fun i hi' => by simpa [fU, upd] using g10 i hi', fun i j hi' hj => by simpa [fU, upd] using g11 i j hi' hj, fun i hi' => by simpa [fU, upd] using g12 i hi'⟩
    · rw [oX, t1]
      obtain ⟨⟨k1, k2, k3, k4, k5⟩, k6, k7, k8, k9, k10, k11⟩ := hx
      exact ⟨⟨by simp [hv_sI, fU, upd, k1], by simp [hv_sI, fU, upd, k2], by simp [hv_sI, fU, upd], by simp [hv_sI, fU, upd, k4], by simp [hv_sI, fU, upd, k5]⟩, fun p hp' => by simpa [hv_sI, fU, upd] using k6 p hp', fun s hs => by simpa [hv_sI, fU, upd] using k7 s hs, fun p w hp' hw => by simpa [hv_sI, fU, upd] using k8 p w hp' hw, fun b hb => by simpa [hv_sI, fU, upd] using k9 b hb, fun i hi' => by simpa [hv_sI, fU, upd] using k10 i hi', fun i hi' => by simpa [hv_sI, fU, upd] using k11 i hi'⟩
    · rw [oM, t1]
      exact rM_up hm0 (k := 0) (by decide) 11 _
  by_cases hv : fN B v
  · have hvc := hv
    obtain ⟨k, hk, e⟩ := hvc
    subst e
    obtain ⟨σX', σM', F', O', e1, e2, e3⟩ := hgo k hk
    by_cases hb : fB (nI O) (nI k)
    · have c1 := (x3_isOn (n := n) (by omega) sX (nI k)).1 ⟨hv, by rw [oX]; exact hb⟩
      have c2 := (r8_isOn (n := n) (σ := hv_sI σM 0 0 0) (nI O) (nI k)).1 hb
      rcases hw with rfl | rfl
      · refine ⟨1, σX', σM', F', O', ?_, ?_, e3⟩
        · unfold mX7_turn
          rw [(x3_isBar (by omega) sX (nI k)).1 hv, hv_b2_e, if_neg (by decide), c1, hv_b2_e, if_neg (by decide), hv_let_e, e1]
        · unfold mX8_turn
          rw [hv_let_e, (r8_isBar (by omega) sM (nI k)).1 hv, hv_b2_e, if_neg (by decide), ← e2, oM, c2, hv_b2_e, if_neg (by decide), hv_let_e, oM]
      · refine ⟨0, σX, hv_sI σM 0 0 0, F, O, ?_, ?_, hi, hx, hm0⟩
        · unfold mX7_turn
          rw [(x3_isBar (by omega) sX (nI k)).1 hv, hv_b2_e, if_neg (by decide), c1, hv_b2_e, if_pos rfl]
        · unfold mX8_turn
          rw [hv_let_e, (r8_isBar (by omega) sM (nI k)).1 hv, hv_b2_e, if_neg (by decide), oM, c2, hv_b2_e, if_pos rfl]
    · have c1 := (x3_isOn (n := n) (by omega) sX (nI k)).2 (fun q => hb (by rw [← oX]; exact q.2))
      have c2 := (r8_isOn (n := n) (σ := hv_sI σM 0 0 0) (nI O) (nI k)).2 hb
      rcases hw with rfl | rfl
      · refine ⟨0, σX, hv_sI σM 0 0 0, F, O, ?_, ?_, hi, hx, hm0⟩
        · unfold mX7_turn
          rw [(x3_isBar (by omega) sX (nI k)).1 hv, hv_b2_e, if_neg (by decide), c1, hv_b2_e, if_pos rfl]
        · unfold mX8_turn
          rw [hv_let_e, (r8_isBar (by omega) sM (nI k)).1 hv, hv_b2_e, if_neg (by decide), oM, c2, hv_b2_e, if_pos rfl]
      · refine ⟨1, σX', σM', F', O', ?_, ?_, e3⟩
        · unfold mX7_turn
          rw [(x3_isBar (by omega) sX (nI k)).1 hv, hv_b2_e, if_neg (by decide), c1, hv_b2_e, if_neg (by decide), hv_let_e, e1]
        · unfold mX8_turn
          rw [hv_let_e, (r8_isBar (by omega) sM (nI k)).1 hv, hv_b2_e, if_neg (by decide), ← e2, oM, c2, hv_b2_e, if_neg (by decide), hv_let_e, oM]
  · refine ⟨0, σX, hv_sI σM 0 0 0, F, O, ?_, ?_, hi, hx, hm0⟩
    · unfold mX7_turn
      rw [(x3_isBar (by omega) sX v).2 hv, hv_b2_e, if_pos rfl]
    · unfold mX8_turn
      rw [hv_let_e, (r8_isBar (by omega) sM v).2 hv, hv_b2_e, if_pos rfl]
end
section
/-! load -/
theorem nI_ld (k : Nat) : nI (2 * k) + 1 = nI (2 * k + 1) := nI_1 _
/-- v is a load: -9 to 9 -/
def fLd (v : Int32) : Prop := (-9 : Int32) ≤ v ∧ v ≤ (9 : Int32)
theorem fLd_z {v : Int32} (h : fLd v) : ∃ z : Int, v = iI z ∧ -9 ≤ z ∧ z ≤ 9 := by
  refine ⟨v.toInt, iI_of v, ?_, ?_⟩
  · have := Int32.le_iff_toInt_le.mp h.1
    exact this
  · have := Int32.le_iff_toInt_le.mp h.2
    exact this
theorem x7_isLoad {n : Nat} {σ : hv_St} (v : Int32) : (fLd v → mX7_isLoad n σ v = some (1, σ)) ∧ (¬ fLd v → mX7_isLoad n σ v = some (0, σ)) := by
  unfold mX7_isLoad
  by_cases h1 : v < (-9 : Int32)
  · rw [if_pos h1]
    exact ⟨fun h => absurd h1 (Int32.not_lt.mpr h.1), fun _ => rfl⟩
  · rw [if_neg h1]
    by_cases h2 : (9 : Int32) < v
    · rw [if_pos h2]
      exact ⟨fun h => absurd h2 (Int32.not_lt.mpr h.2), fun _ => rfl⟩
    · rw [if_neg h2]
      exact ⟨fun _ => rfl, fun h => absurd ⟨Int32.not_lt.mp h1, Int32.not_lt.mp h2⟩ h⟩
theorem r8_inLd {n : Nat} {σ : hv_St} (v : Int32) : (fLd v → mX8_in n σ v.toInt64 (-9 : Int64) (9 : Int64) = some (1, σ)) ∧ (¬ fLd v → mX8_in n σ v.toInt64 (-9 : Int64) (9 : Int64) = some (0, σ)) := by
  rw [show (-9 : Int64) = (-9 : Int32).toInt64 by decide, show (9 : Int64) = (9 : Int32).toInt64 by decide, r8_in32]
  exact ⟨fun h => by rw [if_pos (show (-9 : Int32) ≤ v ∧ v ≤ (9 : Int32) from h)], fun h => by rw [if_neg (show ¬ ((-9 : Int32) ≤ v ∧ v ≤ (9 : Int32)) from h)]⟩
theorem op_load {n : Nat} {F : Nat → Nat → Int32} {P B O D W : Nat} {σX σM : hv_St} (h : hR F P B O D W σX σM) (v x y : Int32) : ∃ r σX' σM' F', mX7_load n σX v x y = some (r, σX') ∧ mX8_load n σM v x y = some (r, σM') ∧ hR F' P B O D W σX' σM' := by
  obtain ⟨hi, hx, hm⟩ := h
  have hP := hi.1
  have hP6 := hP.2
  have sX : σX.1 1 0 = nI P := hx.1.1.trans hP.1
  have hm0 : rM F (hv_sI σM 0 0 0) := rM_sc hm (by decide) 0
  have sM : (hv_sI σM 0 0 0).1 0 1 = nI P := hm0.1.1.trans hP.1
  by_cases hv : fN P v
  · by_cases h1 : fLd x
    · by_cases h2 : fLd y
      · obtain ⟨k, hk, rfl⟩ := hv
        refine ⟨1, hv_sI (hv_sI σX 3 (2 * k) x) 3 (2 * k + 1) y, hv_sI (hv_sI (hv_sI σM 0 0 0) 4 (2 * k) x) 4 (2 * k + 1) y, fU (fU F 4 (2 * k) x) 4 (2 * k + 1) y, ?_, ?_, ?_, ?_, rM_up (rM_up hm0 (k := 4) (by decide) (2 * k) x) (k := 4) (by decide) (2 * k + 1) y⟩
        · unfold mX7_load
          rw [(x3_isPin (by omega) sX (nI k)).1 ⟨k, hk, rfl⟩, hv_b2_e, if_neg (by decide), (x7_isLoad x).1 h1, hv_b2_e, if_neg (by decide), (x7_isLoad y).1 h2, hv_b2_e, if_neg (by decide)]
          simp only [nI_2, nI_1, hv_if_t (hv_ok_nI (show 2 * k < 12 by omega) (by decide)), hv_if_t (hv_ok_nI (show 2 * k + 1 < 12 by omega) (by decide)), nI_clamp (show 2 * k < 2 ^ 31 by omega), nI_clamp (show 2 * k + 1 < 2 ^ 31 by omega), hv_let_e]
        · unfold mX8_load
          rw [hv_let_e, (r8_isPin (by omega) sM (nI k)).1 ⟨k, hk, rfl⟩, hv_b2_e, if_neg (by decide), (r8_inLd x).1 h1, hv_b2_e, if_neg (by decide), (r8_inLd y).1 h2, hv_b2_e, if_neg (by decide)]
          simp only [nI_2, nI_1, hv_if_t (hv_ok_nI (show 2 * k < 12 by omega) (by decide)), hv_if_t (hv_ok_nI (show 2 * k + 1 < 12 by omega) (by decide)), nI_clamp (show 2 * k < 2 ^ 31 by omega), nI_clamp (show 2 * k + 1 < 2 ^ 31 by omega), hv_let_e]
        · obtain ⟨g1, g2, g3, g4, g5, g6, g7, g8, g9, g10, g11, g12⟩ := hi
          refine ⟨⟨by simp [fU, upd, g1.1], g1.2⟩, ⟨by simp [fU, upd, g2.1], g2.2⟩, ⟨by simp [fU, upd, g3.1], g3.2⟩, ⟨by simp [fU, upd, g4.1], g4.2⟩, ⟨by simp [fU, upd, g5.1], g5.2⟩, fun p hp' => by simpa [fU, upd] using g6 p hp', fun b hb => by simpa [fU, upd] using g7 b hb, fun s hs => ?_, fun p hp' => by simpa [fU, upd] using g9 p hp', fun i hi' => by simpa [fU, upd] using g10 i hi', fun i j hi' hj => by simpa [fU, upd] using g11 i j hi' hj, fun i hi' => by simpa [fU, upd] using g12 i hi'⟩
          rw [fU_at, fU_at]
          by_cases e : s = 2 * k + 1
          · rw [if_pos e]
            exact fLd_z h2
          · rw [if_neg e]
            by_cases e2 : s = 2 * k
            · rw [if_pos e2]
              exact fLd_z h1
            · rw [if_neg e2]
              exact g8 s hs
        · obtain ⟨⟨k1, k2, k3, k4, k5⟩, k6, k7, k8, k9, k10, k11⟩ := hx
          refine ⟨⟨by simp [hv_sI, fU, upd, k1], by simp [hv_sI, fU, upd, k2], by simp [hv_sI, fU, upd, k3], by simp [hv_sI, fU, upd, k4], by simp [hv_sI, fU, upd, k5]⟩, fun p hp' => by simpa [hv_sI, fU, upd] using k6 p hp', fun s hs => ?_, fun p w hp' hw => by simpa [hv_sI, fU, upd] using k8 p w hp' hw, fun b hb => by simpa [hv_sI, fU, upd] using k9 b hb, fun i hi' => by simpa [hv_sI, fU, upd] using k10 i hi', fun i hi' => by simpa [hv_sI, fU, upd] using k11 i hi'⟩
          rw [hv_sI_rd, hv_sI_rd, fU_at, fU_at, k7 s hs]
      · refine ⟨0, σX, hv_sI σM 0 0 0, F, ?_, ?_, hi, hx, hm0⟩
        · unfold mX7_load
          rw [(x3_isPin (by omega) sX v).1 hv, hv_b2_e, if_neg (by decide), (x7_isLoad x).1 h1, hv_b2_e, if_neg (by decide), (x7_isLoad y).2 h2, hv_b2_e, if_pos rfl]
        · unfold mX8_load
          rw [hv_let_e, (r8_isPin (by omega) sM v).1 hv, hv_b2_e, if_neg (by decide), (r8_inLd x).1 h1, hv_b2_e, if_neg (by decide), (r8_inLd y).2 h2, hv_b2_e, if_pos rfl]
    · refine ⟨0, σX, hv_sI σM 0 0 0, F, ?_, ?_, hi, hx, hm0⟩
      · unfold mX7_load
        rw [(x3_isPin (by omega) sX v).1 hv, hv_b2_e, if_neg (by decide), (x7_isLoad x).2 h1, hv_b2_e, if_pos rfl]
      · unfold mX8_load
        rw [hv_let_e, (r8_isPin (by omega) sM v).1 hv, hv_b2_e, if_neg (by decide), (r8_inLd x).2 h1, hv_b2_e, if_pos rfl]
  · refine ⟨0, σX, hv_sI σM 0 0 0, F, ?_, ?_, hi, hx, hm0⟩
    · unfold mX7_load
      rw [(x3_isPin (by omega) sX v).2 hv, hv_b2_e, if_pos rfl]
    · unfold mX8_load
      rw [hv_let_e, (r8_isPin (by omega) sM v).2 hv, hv_b2_e, if_pos rfl]
end
section
/-! alter -/
def fRg (M : Nat) (v : Int32) : Prop := (1 : Int32) ≤ v ∧ v ≤ nI M
theorem fRg_n {M : Nat} (hM : M < 2 ^ 31) {v : Int32} (h : fRg M v) : ∃ g, v = nI g ∧ 1 ≤ g ∧ g ≤ M := by
  have h0 : ¬ v < 0 := by
    have h1 := Int32.le_iff_toInt_le.mp h.1
    rw [Int32.lt_iff_toInt_lt]
    have e0 : (0 : Int32).toInt = 0 := rfl
    have e1 : (1 : Int32).toInt = 1 := rfl
    omega
  obtain ⟨j, hj, rfl⟩ := nI_of2 (nI_toInt hM) h0 h.2
  exact ⟨j, rfl, (nI_leI (a := 1) (by decide) (by omega)).mp h.1, hj⟩
theorem r8_inR {n : Nat} {σ : hv_St} (M : Nat) (v : Int32) : (fRg M v → mX8_in n σ v.toInt64 (1 : Int32).toInt64 (nI M).toInt64 = some (1, σ)) ∧ (¬ fRg M v → mX8_in n σ v.toInt64 (1 : Int32).toInt64 (nI M).toInt64 = some (0, σ)) := by
  rw [r8_in32]
  exact ⟨fun h => by rw [if_pos (show (1 : Int32) ≤ v ∧ v ≤ nI M from h)], fun h => by rw [if_neg (show ¬ ((1 : Int32) ≤ v ∧ v ≤ nI M) from h)]⟩
theorem x7_isGive {n : Nat} {σ : hv_St} (v : Int32) : (fRg 3 v → mX7_isGive n σ v = some (1, σ)) ∧ (¬ fRg 3 v → mX7_isGive n σ v = some (0, σ)) := by
  unfold mX7_isGive
  by_cases h1 : v < (1 : Int32)
  · rw [if_pos h1]
    exact ⟨fun h => absurd h1 (Int32.not_lt.mpr h.1), fun _ => rfl⟩
  · rw [if_neg h1]
    by_cases h2 : (3 : Int32) < v
    · rw [if_pos h2]
      exact ⟨fun h => absurd h2 (Int32.not_lt.mpr h.2), fun _ => rfl⟩
    · rw [if_neg h2]
      exact ⟨fun _ => rfl, fun h => absurd ⟨Int32.not_lt.mp h1, Int32.not_lt.mp h2⟩ h⟩
theorem hR_num {F : Nat → Nat → Int32} {P B O D W : Nat} {σX σM : hv_St} (h : hR F P B O D W σX σM) {c k : Nat} (hk : k < B) {v : Int32} (hc : (c = 7 ∧ fRg 3 v) ∨ (c = 8 ∧ fRg 999 v)) : hR (fU F c k v) P B O D W (hv_sI σX c k v) (hv_sI σM c k v) := by
  obtain ⟨hi, hx, hm⟩ := h
  refine ⟨?_, ?_, rM_up hm (by omega) k v⟩
  · obtain ⟨g1, g2, g3, g4, g5, g6, g7, g8, g9, g10, g11, g12⟩ := hi
    rcases hc with ⟨rfl, hv⟩ | ⟨rfl, hv⟩
    · refine ⟨⟨by simp [fU, upd, g1.1], g1.2⟩, ⟨by simp [fU, upd, g2.1], g2.2⟩, ⟨by simp [fU, upd, g3.1], g3.2⟩, ⟨by simp [fU, upd, g4.1], g4.2⟩, ⟨by simp [fU, upd, g5.1], g5.2⟩, fun p hp' => by simpa [fU, upd] using g6 p hp', fun b hb => ?_, fun s hs => by simpa [fU, upd] using g8 s hs, fun p hp' => by simpa [fU, upd] using g9 p hp', fun i hi' => by simpa [fU, upd] using g10 i hi', fun i j hi' hj => by simpa [fU, upd] using g11 i j hi' hj, fun i hi' => by simpa [fU, upd] using g12 i hi'⟩
      have q := g7 b hb
      rw [fU_ne _ _ _ (by decide), fU_ne _ _ _ (by decide), fU_at, fU_ne _ _ _ (by decide)]
      refine ⟨q.1, q.2.1, ?_, q.2.2.2⟩
      by_cases e : b = k
      · rw [if_pos e]
        exact fRg_n (by decide) hv
      · rw [if_neg e]
        exact q.2.2.1
    · refine ⟨⟨by simp [fU, upd, g1.1], g1.2⟩, ⟨by simp [fU, upd, g2.1], g2.2⟩, ⟨by simp [fU, upd, g3.1], g3.2⟩, ⟨by simp [fU, upd, g4.1], g4.2⟩, ⟨by simp [fU, upd, g5.1], g5.2⟩, fun p hp' => by simpa [fU, upd] using g6 p hp', fun b hb => ?_, fun s hs => by simpa [fU, upd] using g8 s hs, fun p hp' => by simpa [fU, upd] using g9 p hp', fun i hi' => by simpa [fU, upd] using g10 i hi', fun i j hi' hj => by simpa [fU, upd] using g11 i j hi' hj, fun i hi' => by simpa [fU, upd] using g12 i hi'⟩
      have q := g7 b hb
      rw [fU_ne _ _ _ (by decide), fU_ne _ _ _ (by decide), fU_ne _ _ _ (by decide), fU_at]
      refine ⟨q.1, q.2.1, q.2.2.1, ?_⟩
      by_cases e : b = k
      · rw [if_pos e]
        exact fRg_n (by decide) hv
      · rw [if_neg e]
        exact q.2.2.2
  · obtain ⟨⟨k1, k2, k3, k4, k5⟩, k6, k7, k8, k9, k10, k11⟩ := hx
    rcases hc with ⟨rfl, hv⟩ | ⟨rfl, hv⟩
    · refine ⟨⟨by simp [hv_sI, fU, upd, k1], by simp [hv_sI, fU, upd, k2], by simp [hv_sI, fU, upd, k3], by simp [hv_sI, fU, upd, k4], by simp [hv_sI, fU, upd, k5]⟩, fun p hp' => by simpa [hv_sI, fU, upd] using k6 p hp', fun s hs => by simpa [hv_sI, fU, upd] using k7 s hs, fun p w hp' hw => by simpa [hv_sI, fU, upd] using k8 p w hp' hw, fun b hb => ?_, fun i hi' => by simpa [hv_sI, fU, upd] using k10 i hi', fun i hi' => by simpa [hv_sI, fU, upd] using k11 i hi'⟩
      have q := k9 b hb
      rw [hv_sI_ne _ _ _ (by decide), hv_sI_ne _ _ _ (by decide), hv_sI_rd, hv_sI_ne _ _ _ (by decide), fU_ne _ _ _ (by decide), fU_ne _ _ _ (by decide), fU_at, fU_ne _ _ _ (by decide), q.2.2.1]
      exact ⟨q.1, q.2.1, rfl, q.2.2.2⟩
    · refine ⟨⟨by simp [hv_sI, fU, upd, k1], by simp [hv_sI, fU, upd, k2], by simp [hv_sI, fU, upd, k3], by simp [hv_sI, fU, upd, k4], by simp [hv_sI, fU, upd, k5]⟩, fun p hp' => by simpa [hv_sI, fU, upd] using k6 p hp', fun s hs => by simpa [hv_sI, fU, upd] using k7 s hs, fun p w hp' hw => by simpa [hv_sI, fU, upd] using k8 p w hp' hw, fun b hb => ?_, fun i hi' => by simpa [hv_sI, fU, upd] using k10 i hi', fun i hi' => by simpa [hv_sI, fU, upd] using k11 i hi'⟩
      have q := k9 b hb
      rw [hv_sI_ne _ _ _ (by decide), hv_sI_ne _ _ _ (by decide), hv_sI_ne _ _ _ (by decide), hv_sI_rd, fU_ne _ _ _ (by decide), fU_ne _ _ _ (by decide), fU_ne _ _ _ (by decide), fU_at, q.2.2.2]
      exact ⟨q.1, q.2.1, q.2.2.1, rfl⟩
end
section
theorem op_alter {n : Nat} {F : Nat → Nat → Int32} {P B O D W : Nat} {σX σM : hv_St} (h : hR F P B O D W σX σM) (v w x : Int32) : ∃ r σX' σM' F', mX7_alter n σX v w x = some (r, σX') ∧ mX8_alter n σM v w x = some (r, σM') ∧ hR F' P B O D W σX' σM' := by
  obtain ⟨hi, hx, hm⟩ := h
  have hm0 : rM F (hv_sI σM 0 0 0) := rM_sc hm (by decide) 0
  have h0 : hR F P B O D W σX (hv_sI σM 0 0 0) := ⟨hi, hx, hm0⟩
  have hB := hi.2.1
  have hB11 := hB.2
  have sX : σX.1 1 1 = nI B := hx.1.2.1.trans hB.1
  have sM : (hv_sI σM 0 0 0).1 0 6 = nI B := hm0.1.2.1.trans hB.1
  by_cases hv : fN B v
  · have hvc := hv
    obtain ⟨k, hk, e⟩ := hvc
    subst e
    have hk11 : hv_ok (nI k) 11 = true := hv_ok_nI (by omega) (by decide)
    have kc : (nI k).toNatClampNeg = k := nI_clamp (by omega)
    have q := hx.2.2.2.2.1 k (by omega)
    have m7 : (hv_sI σM 0 0 0).1 7 k = F 7 k := by rw [hm0.2 7 (by decide) (by decide)]
    have m8 : (hv_sI σM 0 0 0).1 8 k = F 8 k := by rw [hm0.2 8 (by decide) (by decide)]
    by_cases hw : w = 0
    · by_cases hg : fRg 3 x
      · by_cases he : F 7 k = x
        · refine ⟨0, σX, hv_sI σM 0 0 0, F, ?_, ?_, h0⟩
          · unfold mX7_alter
            rw [(x3_isBar (by omega) sX (nI k)).1 hv, hv_b2_e, if_neg (by decide), if_pos hw, if_pos hw, (x7_isGive x).1 hg, hv_b2_e, if_neg (by decide), hv_if_t hk11, kc, if_pos (q.2.2.1.trans he)]
          · unfold mX8_alter kX8_alter_29 kX8_alter_54
            rw [hv_let_e, (r8_isBar (by omega) sM (nI k)).1 hv, hv_b2_e, if_neg (by decide), if_pos hw]
            rw [show (3 : Int64) = (nI 3).toInt64 from rfl, show (1 : Int64) = (1 : Int32).toInt64 from rfl, (r8_inR 3 x).1 hg, hv_b2_e, if_neg (by decide), if_pos hw, hv_if_t hk11, kc, if_pos (m7.trans he)]
        · refine ⟨1, hv_sI σX 7 k x, hv_sI (hv_sI σM 0 0 0) 7 k x, fU F 7 k x, ?_, ?_, hR_num h0 hk (Or.inl ⟨rfl, hg⟩)⟩
          · unfold mX7_alter
            rw [(x3_isBar (by omega) sX (nI k)).1 hv, hv_b2_e, if_neg (by decide), if_pos hw, if_pos hw, (x7_isGive x).1 hg, hv_b2_e, if_neg (by decide), hv_if_t hk11, kc, if_neg (fun e => he (q.2.2.1.symm.trans e)), hv_if_t hk11, hv_let_e]
          · unfold mX8_alter kX8_alter_29 kX8_alter_54
            rw [hv_let_e, (r8_isBar (by omega) sM (nI k)).1 hv, hv_b2_e, if_neg (by decide), if_pos hw]
            rw [show (3 : Int64) = (nI 3).toInt64 from rfl, show (1 : Int64) = (1 : Int32).toInt64 from rfl, (r8_inR 3 x).1 hg, hv_b2_e, if_neg (by decide), if_pos hw, hv_if_t hk11, kc, if_neg (fun e => he (m7.symm.trans e)), if_pos hw, hv_if_t hk11, hv_let_e]
      · refine ⟨0, σX, hv_sI σM 0 0 0, F, ?_, ?_, h0⟩
        · unfold mX7_alter
          rw [(x3_isBar (by omega) sX (nI k)).1 hv, hv_b2_e, if_neg (by decide), if_pos hw, if_pos hw, (x7_isGive x).2 hg, hv_b2_e, if_pos rfl]
        · unfold mX8_alter kX8_alter_29
          rw [hv_let_e, (r8_isBar (by omega) sM (nI k)).1 hv, hv_b2_e, if_neg (by decide), if_pos hw]
          rw [show (3 : Int64) = (nI 3).toInt64 from rfl, show (1 : Int64) = (1 : Int32).toInt64 from rfl, (r8_inR 3 x).2 hg, hv_b2_e, if_pos rfl]
    · by_cases hg : fRg 999 x
      · have l1 : ¬ x < (1 : Int32) := Int32.not_lt.mpr hg.1
        have l2 : ¬ (999 : Int32) < x := Int32.not_lt.mpr hg.2
        by_cases he : F 8 k = x
        · refine ⟨0, σX, hv_sI σM 0 0 0, F, ?_, ?_, h0⟩
          · unfold mX7_alter
            rw [(x3_isBar (by omega) sX (nI k)).1 hv, hv_b2_e, if_neg (by decide), if_neg hw, if_neg hw, if_neg l1, if_neg l2, hv_if_t hk11, kc, if_pos (q.2.2.2.trans he)]
          · unfold mX8_alter kX8_alter_29 kX8_alter_54
            rw [hv_let_e, (r8_isBar (by omega) sM (nI k)).1 hv, hv_b2_e, if_neg (by decide), if_neg hw]
            rw [show (999 : Int64) = (nI 999).toInt64 from rfl, show (1 : Int64) = (1 : Int32).toInt64 from rfl, (r8_inR 999 x).1 hg, hv_b2_e, if_neg (by decide), if_neg hw, hv_if_t hk11, kc, if_pos (m8.trans he)]
        · refine ⟨1, hv_sI σX 8 k x, hv_sI (hv_sI σM 0 0 0) 8 k x, fU F 8 k x, ?_, ?_, hR_num h0 hk (Or.inr ⟨rfl, hg⟩)⟩
          · unfold mX7_alter
            rw [(x3_isBar (by omega) sX (nI k)).1 hv, hv_b2_e, if_neg (by decide), if_neg hw, if_neg hw, if_neg l1, if_neg l2, hv_if_t hk11, kc, if_neg (fun e => he (q.2.2.2.symm.trans e)), hv_if_t hk11, hv_let_e]
          · unfold mX8_alter kX8_alter_29 kX8_alter_54
            rw [hv_let_e, (r8_isBar (by omega) sM (nI k)).1 hv, hv_b2_e, if_neg (by decide), if_neg hw]
            rw [show (999 : Int64) = (nI 999).toInt64 from rfl, show (1 : Int64) = (1 : Int32).toInt64 from rfl, (r8_inR 999 x).1 hg, hv_b2_e, if_neg (by decide), if_neg hw, hv_if_t hk11, kc, if_neg (fun e => he (m8.symm.trans e)), if_neg hw, hv_if_t hk11, hv_let_e]
      · refine ⟨0, σX, hv_sI σM 0 0 0, F, ?_, ?_, h0⟩
        · unfold mX7_alter
          rw [(x3_isBar (by omega) sX (nI k)).1 hv, hv_b2_e, if_neg (by decide), if_neg hw, if_neg hw]
          by_cases l1 : x < (1 : Int32)
          · rw [if_pos l1]
          · rw [if_neg l1, if_pos (show (999 : Int32) < x from Int32.not_le.mp (fun l2 => hg ⟨Int32.not_lt.mp l1, l2⟩))]
        · unfold mX8_alter kX8_alter_29
          rw [hv_let_e, (r8_isBar (by omega) sM (nI k)).1 hv, hv_b2_e, if_neg (by decide), if_neg hw]
          rw [show (999 : Int64) = (nI 999).toInt64 from rfl, show (1 : Int64) = (1 : Int32).toInt64 from rfl, (r8_inR 999 x).2 hg, hv_b2_e, if_pos rfl]
  · refine ⟨0, σX, hv_sI σM 0 0 0, F, ?_, ?_, h0⟩
    · unfold mX7_alter
      rw [(x3_isBar (by omega) sX v).2 hv, hv_b2_e, if_pos rfl]
    · unfold mX8_alter
      rw [hv_let_e, (r8_isBar (by omega) sM v).2 hv, hv_b2_e, if_pos rfl]
end
section
/-! hold, unload -/
theorem bit_fin : ∀ (h : Fin 4) (w : Fin 2), ((nI h.val >>> (nI w.val &&& 31)) &&& 1 = 0 ∨ (nI h.val >>> (nI w.val &&& 31)) &&& 1 = 1) ∧ (∃ k : Fin 4, nI h.val ^^^ ((1 : Int32) <<< (nI w.val &&& 31)) = nI k.val) ∧ (nI h.val >>> (nI w.val &&& 31) = nI h.val >>> nI w.val) ∧ ∀ v : Fin 2, ((nI h.val ^^^ ((1 : Int32) <<< (nI w.val &&& 31))) >>> nI v.val) &&& 1 = if v = w then (if (nI h.val >>> nI w.val) &&& 1 = 0 then 1 else 0) else (nI h.val >>> nI v.val) &&& 1 := by decide +kernel
theorem bit_p {h w : Nat} (hh : h < 4) (hw : w < 2) : ((nI h >>> (nI w &&& 31)) &&& 1 = 0 ∨ (nI h >>> (nI w &&& 31)) &&& 1 = 1) ∧ fN 4 (nI h ^^^ ((1 : Int32) <<< (nI w &&& 31))) ∧ (nI h >>> (nI w &&& 31) = nI h >>> nI w) ∧ ∀ v, v < 2 → ((nI h ^^^ ((1 : Int32) <<< (nI w &&& 31))) >>> nI v) &&& 1 = if v = w then (if (nI h >>> nI w) &&& 1 = 0 then 1 else 0) else (nI h >>> nI v) &&& 1 := by
  obtain ⟨h1, ⟨k, hk⟩, h3, h4⟩ := bit_fin ⟨h, hh⟩ ⟨w, hw⟩
  refine ⟨h1, ⟨k.val, k.isLt, hk⟩, h3, fun v hv => ?_⟩
  have q := h4 ⟨v, hv⟩
  by_cases e : v = w
  · rw [if_pos (Fin.ext e)] at q
    rw [if_pos e]
    exact q
  · rw [if_neg (fun e2 => e (Fin.mk.inj e2))] at q
    rw [if_neg e]
    exact q
theorem r8_inDir {n : Nat} {σ : hv_St} (v : Int32) : (fN 2 v → mX8_in n σ v.toInt64 (0 : Int64) (1 : Int64) = some (1, σ)) ∧ (¬ fN 2 v → mX8_in n σ v.toInt64 (0 : Int64) (1 : Int64) = some (0, σ)) := by
  have hx : fN 2 v ↔ (0 : Int32) ≤ v ∧ v ≤ 1 := fN_in (N := 2) (by decide) v
  rw [show (0 : Int64) = (0 : Int32).toInt64 from rfl, show (1 : Int64) = (1 : Int32).toInt64 from rfl, r8_in32]
  exact ⟨fun h => by rw [if_pos (hx.mp h)], fun h => by rw [if_neg (fun q => h (hx.mpr q))]⟩
theorem x7_isDirection {n : Nat} {σ : hv_St} (v : Int32) : (fN 2 v → mX7_isDirection n σ v = some (1, σ)) ∧ (¬ fN 2 v → mX7_isDirection n σ v = some (0, σ)) := by
  unfold mX7_isDirection kX7_isDirection_9
  by_cases h1 : v = 0
  · rw [if_pos h1]
    exact ⟨fun _ => rfl, fun h => absurd ⟨0, by decide, h1⟩ h⟩
  · rw [if_neg h1]
    by_cases h2 : v = 1
    · rw [if_pos h2]
      exact ⟨fun _ => rfl, fun h => absurd ⟨1, by decide, h2⟩ h⟩
    · rw [if_neg h2]
      refine ⟨fun h => ?_, fun _ => rfl⟩
      obtain ⟨k, hk, rfl⟩ := h
      rcases (show k = 0 ∨ k = 1 by omega) with rfl | rfl
      · exact absurd rfl h1
      · exact absurd rfl h2
theorem op_hold {n : Nat} {F : Nat → Nat → Int32} {P B O D W : Nat} {σX σM : hv_St} (h : hR F P B O D W σX σM) (v w x : Int32) (hxb : x = 0 ∨ x = 1) : ∃ r σX' σM' F', mX7_hold n σX v w x = some (r, σX') ∧ mX8_hold n σM v w x = some (r, σM') ∧ hR F' P B O D W σX' σM' := by
  obtain ⟨hi, hx, hm⟩ := h
  have hP := hi.1
  have hP6 := hP.2
  have sX : σX.1 1 0 = nI P := hx.1.1.trans hP.1
  have hm0 : rM F (hv_sI σM 0 0 0) := rM_sc hm (by decide) 0
  have sM : (hv_sI σM 0 0 0).1 0 1 = nI P := hm0.1.1.trans hP.1
  by_cases hv : fN P v
  · by_cases hw : fN 2 w
    · obtain ⟨k, hk, rfl⟩ := hv
      obtain ⟨q, hq, rfl⟩ := hw
      obtain ⟨m, hm4, em⟩ := hi.2.2.2.2.2.2.2.2.1 k (by omega)
      obtain ⟨b1, b2, b3, b4⟩ := bit_p hm4 hq
      have eX : σX.1 4 (2 * k + q) = (nI m >>> nI q) &&& 1 := by rw [hx.2.2.2.1 k q (by omega) hq, em]
      have eM : (hv_sI σM 0 0 0).1 3 k = nI m := by rw [hm0.2 3 (by decide) (by decide), em]
      have c1 : (2 : Int32) * nI k + nI q = nI (2 * k + q) := by rw [nI_2, nI_add]
      have ok12 : hv_ok (nI (2 * k + q)) 12 = true := hv_ok_nI (by omega) (by decide)
      have ok6 : hv_ok (nI k) 6 = true := hv_ok_nI (by omega) (by decide)
      have k12 : (nI (2 * k + q)).toNatClampNeg = 2 * k + q := nI_clamp (by omega)
      have k6 : (nI k).toNatClampNeg = k := nI_clamp (by omega)
      have hz : hv_z x = true := by rcases hxb with rfl | rfl <;> rfl
      have iOn : mX8_isOn n (hv_sI σM 0 0 0) (nI m) (nI q) = some ((nI m >>> nI q) &&& 1, hv_sI σM 0 0 0) := by
        unfold mX8_isOn
        rw [b3]
        rw [b3] at b1
        rcases b1 with e | e
        · rw [e, if_neg (by decide)]
        · rw [e, if_pos rfl]
      by_cases he : (nI m >>> nI q) &&& 1 = x
      · refine ⟨0, σX, hv_sI σM 0 0 0, F, ?_, ?_, hi, hx, hm0⟩
        · unfold mX7_hold
          rw [(x3_isPin (by omega) sX (nI k)).1 ⟨k, hk, rfl⟩, hv_b2_e, if_neg (by decide), (x7_isDirection (nI q)).1 ⟨q, hq, rfl⟩, hv_b2_e, if_neg (by decide), hv_let_e, c1, hv_if_t ok12, k12, if_pos (eX.trans he)]
        · unfold mX8_hold
          rw [hv_let_e, (r8_isPin (by omega) sM (nI k)).1 ⟨k, hk, rfl⟩, hv_b2_e, if_neg (by decide), (r8_inDir (nI q)).1 ⟨q, hq, rfl⟩, hv_b2_e, if_neg (by decide), hv_if_t ok6, k6, eM, iOn, hv_b2_e, if_pos he]
      · refine ⟨1, hv_sI σX 4 (2 * k + q) x, hv_sI (hv_sI σM 0 0 0) 3 k (nI m ^^^ ((1 : Int32) <<< (nI q &&& 31))), fU F 3 k (nI m ^^^ ((1 : Int32) <<< (nI q &&& 31))), ?_, ?_, ?_, ?_, rM_up hm0 (k := 3) (by decide) k _⟩
        · unfold mX7_hold
          rw [(x3_isPin (by omega) sX (nI k)).1 ⟨k, hk, rfl⟩, hv_b2_e, if_neg (by decide), (x7_isDirection (nI q)).1 ⟨q, hq, rfl⟩, hv_b2_e, if_neg (by decide), hv_let_e, c1, hv_if_t ok12, k12, if_neg (fun e => he (eX.symm.trans e)), hv_if_t ok12, hv_if_t hz, hv_let_e]
        · unfold mX8_hold
          rw [hv_let_e, (r8_isPin (by omega) sM (nI k)).1 ⟨k, hk, rfl⟩, hv_b2_e, if_neg (by decide), (r8_inDir (nI q)).1 ⟨q, hq, rfl⟩, hv_b2_e, if_neg (by decide), hv_if_t ok6, k6, eM, iOn, hv_b2_e, if_neg he, hv_if_t ok6, hv_if_t ok6, hv_let_e, eM]
        · obtain ⟨g1, g2, g3, g4, g5, g6, g7, g8, g9, g10, g11, g12⟩ := hi
          refine ⟨⟨by simp [fU, upd, g1.1], g1.2⟩, ⟨by simp [fU, upd, g2.1], g2.2⟩, ⟨by simp [fU, upd, g3.1], g3.2⟩, ⟨by simp [fU, upd, g4.1], g4.2⟩, ⟨by simp [fU, upd, g5.1], g5.2⟩, fun p hp' => by simpa [fU, upd] using g6 p hp', fun b hb => by simpa [fU, upd] using g7 b hb, fun s hs => by simpa [fU, upd] using g8 s hs, fun p hp' => ?_, fun i hi' => by simpa [fU, upd] using g10 i hi', fun i j hi' hj => by simpa [fU, upd] using g11 i j hi' hj, fun i hi' => by simpa [fU, upd] using g12 i hi'⟩
          rw [fU_at]
          by_cases e : p = k
          · rw [if_pos e]
            exact b2
          · rw [if_neg e]
            exact g9 p hp'
        · obtain ⟨⟨k1, k2, k3, k4, k5⟩, k6, k7, k8, k9, k10, k11⟩ := hx
          refine ⟨⟨by simp [hv_sI, fU, upd, k1], by simp [hv_sI, fU, upd, k2], by simp [hv_sI, fU, upd, k3], by simp [hv_sI, fU, upd, k4], by simp [hv_sI, fU, upd, k5]⟩, fun p hp' => by simpa [hv_sI, fU, upd] using k6 p hp', fun s hs => by simpa [hv_sI, fU, upd] using k7 s hs, fun p w hp' hw => ?_, fun b hb => by simpa [hv_sI, fU, upd] using k9 b hb, fun i hi' => by simpa [hv_sI, fU, upd] using k10 i hi', fun i hi' => by simpa [hv_sI, fU, upd] using k11 i hi'⟩
          rw [hv_sI_rd, fU_at]
          by_cases e : p = k
          · subst e
            rw [if_pos rfl, b4 w hw]
            by_cases e2 : w = q
            · subst e2
              rw [if_pos rfl, if_pos rfl]
              rw [b3] at b1
              rcases b1 with f | f
              · rw [f, if_pos rfl]
                rw [f] at he
                rcases hxb with r | r
                · exact absurd r.symm he
                · exact r
              · rw [f, if_neg (by decide)]
                rw [f] at he
                rcases hxb with r | r
                · exact r
                · exact absurd r.symm he
            · rw [if_neg (by omega), if_neg e2, k8 p w hp' hw, em]
          · rw [if_neg (by omega), if_neg e]
            exact k8 p w hp' hw
    · refine ⟨0, σX, hv_sI σM 0 0 0, F, ?_, ?_, hi, hx, hm0⟩
      · unfold mX7_hold
        rw [(x3_isPin (by omega) sX v).1 hv, hv_b2_e, if_neg (by decide), (x7_isDirection w).2 hw, hv_b2_e, if_pos rfl]
      · unfold mX8_hold
        rw [hv_let_e, (r8_isPin (by omega) sM v).1 hv, hv_b2_e, if_neg (by decide), (r8_inDir w).2 hw, hv_b2_e, if_pos rfl]
  · refine ⟨0, σX, hv_sI σM 0 0 0, F, ?_, ?_, hi, hx, hm0⟩
    · unfold mX7_hold
      rw [(x3_isPin (by omega) sX v).2 hv, hv_b2_e, if_pos rfl]
    · unfold mX8_hold
      rw [hv_let_e, (r8_isPin (by omega) sM v).2 hv, hv_b2_e, if_pos rfl]
/-- how many of f k .. f (k + d - 1) aren't 0 -/
def fCz (f : Nat → Int32) : Nat → Nat → Nat
  | _, 0 => 0
  | k, d + 1 => (if f k = 0 then 0 else 1) + fCz f (k + 1) d
theorem fCz_congr {f g : Nat → Int32} : ∀ (d k : Nat), (∀ i, k ≤ i → i < k + d → f i = g i) → fCz f k d = fCz g k d
  | 0, _, _ => rfl
  | d + 1, k, h => by
    show (if f k = 0 then 0 else 1) + fCz f (k + 1) d = (if g k = 0 then 0 else 1) + fCz g (k + 1) d
    rw [h k (Nat.le_refl _) (by omega), fCz_congr d (k + 1) (fun i h1 h2 => h i (by omega) (by omega))]
theorem x7_unload {n : Nat} : ∀ (d k fuel c : Nat) (σ : hv_St), k + d = 12 → d < fuel → ∃ f, kX7_unload_4 n fuel σ (nI c) (nI k) = some (nI (c + fCz (σ.1 3) k d), hv_wI σ 3 f) ∧ ∀ s, s < 12 → f s = if k ≤ s then 0 else σ.1 3 s := by
  intro d
  induction d with
  | zero =>
    intro k fuel c σ hk hf
    obtain ⟨fuel, rfl⟩ : ∃ q, fuel = q + 1 := ⟨fuel - 1, by omega⟩
    refine ⟨σ.1 3, ?_, fun s hs => by rw [if_neg (by omega)]⟩
    show kX7_unload_4_b n _ _ _ _ = _
    unfold kX7_unload_4_b
    rw [if_pos (show (12 : Int32) ≤ nI k from nI_le (a := 12) (by omega) (by omega)), hv_wI_self]
    rfl
  | succ d ih =>
    intro k fuel c σ hk hf
    obtain ⟨fuel, rfl⟩ : ∃ q, fuel = q + 1 := ⟨fuel - 1, by omega⟩
    have e : kX7_unload_4 n (fuel + 1) σ (nI c) (nI k) = if σ.1 3 k = 0 then kX7_unload_4 n fuel σ (nI c) (nI (k + 1)) else kX7_unload_4 n fuel (hv_sI σ 3 k 0) (nI (c + 1)) (nI (k + 1)) := by
      show kX7_unload_4_b n _ _ _ _ = _
      unfold kX7_unload_4_b kX7_unload_35
      rw [if_neg (show ¬ (12 : Int32) ≤ nI k from nI_ge (b := 12) (by omega) (by omega))]
      simp only [nI_1, hv_if_t (hv_ok_nI (show k < 12 by omega) (by decide)), nI_clamp (show k < 2 ^ 31 by omega), hv_let_e]
    rw [e]
    show ∃ f, _ = some (nI (c + ((if σ.1 3 k = 0 then 0 else 1) + fCz (σ.1 3) (k + 1) d)), _) ∧ _
    by_cases h1 : σ.1 3 k = 0
    · rw [if_pos h1, if_pos h1, Nat.zero_add]
      obtain ⟨f, f1, f2⟩ := ih (k + 1) fuel c σ (by omega) (by omega)
      refine ⟨f, f1, fun s hs => ?_⟩
      rw [f2 s hs]
      by_cases a : k + 1 ≤ s
      · rw [if_pos a, if_pos (by omega)]
      · rw [if_neg a]
        by_cases b : k ≤ s
        · rw [if_pos b, show s = k by omega, h1]
        · rw [if_neg b]
    · rw [if_neg h1, if_neg h1]
      obtain ⟨f, f1, f2⟩ := ih (k + 1) fuel (c + 1) (hv_sI σ 3 k 0) (by omega) (by omega)
      refine ⟨f, ?_, fun s hs => ?_⟩
      · rw [f1, hv_sI_w, hv_wI_w, hv_wI_at, fCz_congr (g := σ.1 3) d (k + 1) (fun i h1 _ => pk_un (by omega)), Nat.add_assoc]
      · rw [f2 s hs, hv_sI_rd]
        by_cases a : k + 1 ≤ s
        · rw [if_pos a, if_pos (by omega)]
        · rw [if_neg a]
          by_cases b : s = k
          · rw [if_pos b, if_pos (by omega)]
          · rw [if_neg b, if_neg (by omega)]
theorem r8_unload {n : Nat} : ∀ (d k fuel c : Nat) (σ : hv_St), k + d = 12 → d < fuel → ∃ f, kX8_unload_9 n fuel σ (nI c) (nI k) = some (nI (c + fCz (σ.1 4) k d), hv_wI σ 4 f) ∧ ∀ s, s < 12 → f s = if k ≤ s then 0 else σ.1 4 s := by
  intro d
  induction d with
  | zero =>
    intro k fuel c σ hk hf
    obtain ⟨fuel, rfl⟩ : ∃ q, fuel = q + 1 := ⟨fuel - 1, by omega⟩
    refine ⟨σ.1 4, ?_, fun s hs => by rw [if_neg (by omega)]⟩
    show kX8_unload_9_b n _ _ _ _ = _
    unfold kX8_unload_9_b
    rw [if_pos (show (12 : Int32) ≤ nI k from nI_le (a := 12) (by omega) (by omega)), hv_wI_self]
    rfl
  | succ d ih =>
    intro k fuel c σ hk hf
    obtain ⟨fuel, rfl⟩ : ∃ q, fuel = q + 1 := ⟨fuel - 1, by omega⟩
    have e : kX8_unload_9 n (fuel + 1) σ (nI c) (nI k) = kX8_unload_9 n fuel (hv_sI σ 4 k 0) (nI (c + if σ.1 4 k = 0 then 0 else 1)) (nI (k + 1)) := by
      show kX8_unload_9_b n _ _ _ _ = _
      unfold kX8_unload_9_b kX8_unload_30
      rw [if_neg (show ¬ (12 : Int32) ≤ nI k from nI_ge (b := 12) (by omega) (by omega))]
      simp only [nI_1, hv_if_t (hv_ok_nI (show k < 12 by omega) (by decide)), nI_clamp (show k < 2 ^ 31 by omega), hv_let_e]
      by_cases h1 : σ.1 4 k = 0
      · rw [if_pos h1, if_pos h1, show nI c + 0 = nI (c + 0) from nI_add c 0]
      · rw [if_neg h1, if_neg h1]
    rw [e]
    obtain ⟨f, f1, f2⟩ := ih (k + 1) fuel (c + if σ.1 4 k = 0 then 0 else 1) (hv_sI σ 4 k 0) (by omega) (by omega)
    refine ⟨f, ?_, fun s hs => ?_⟩
    · rw [f1, hv_sI_w, hv_wI_w, hv_wI_at, fCz_congr (g := σ.1 4) d (k + 1) (fun i h1 _ => pk_un (by omega)), Nat.add_assoc]
      rfl
    · rw [f2 s hs, hv_sI_rd]
      by_cases a : k + 1 ≤ s
      · rw [if_pos a, if_pos (by omega)]
      · rw [if_neg a]
        by_cases b : s = k
        · rw [if_pos b, if_pos (by omega)]
        · rw [if_neg b, if_neg (by omega)]
theorem op_unload {n : Nat} (hn : 12 < n) {F : Nat → Nat → Int32} {P B O D W : Nat} {σX σM : hv_St} (h : hR F P B O D W σX σM) : ∃ r σX' σM' F', mX7_unload n σX = some (r, σX') ∧ mX8_unload n σM = some (r, σM') ∧ hR F' P B O D W σX' σM' := by
  obtain ⟨hi, hx, hm⟩ := h
  have hm0 : rM F (hv_sI σM 0 0 0) := rM_sc hm (by decide) 0
  obtain ⟨f, f1, f2⟩ := x7_unload (n := n) 12 0 n 0 σX rfl hn
  obtain ⟨g, g1, g2⟩ := r8_unload (n := n) 12 0 n 0 (hv_sI σM 0 0 0) rfl hn
  have ec : fCz ((hv_sI σM 0 0 0).1 4) 0 12 = fCz (σX.1 3) 0 12 := fCz_congr 12 0 (fun i _ hi' => by
    rw [hm0.2 4 (by decide) (by decide), hx.2.2.1 i (by omega)])
  refine ⟨nI (0 + fCz (σX.1 3) 0 12), hv_wI σX 3 f, hv_wI (hv_sI σM 0 0 0) 4 g, fun j => if j = 4 then g else F j, f1, ?_, ?_, ?_, ?_⟩
  · unfold mX8_unload
    rw [hv_let_e]
    rw [ec] at g1
    exact g1
  · obtain ⟨g1, g2', g3, g4, g5, g6, g7, g8, g9, g10, g11, g12⟩ := hi
    refine ⟨g1, g2', g3, g4, g5, g6, g7, fun s hs => ⟨0, ?_, by decide, by decide⟩, g9, g10, g11, g12⟩
    show g s = _
    rw [g2 s hs, if_pos (Nat.zero_le _)]
    rfl
  · obtain ⟨k5, k6, k7, k8, k9, k10, k11⟩ := hx
    refine ⟨k5, k6, fun s hs => ?_, k8, k9, k10, k11⟩
    show f s = g s
    rw [f2 s hs, g2 s hs, if_pos (Nat.zero_le _), if_pos (Nat.zero_le _)]
  · obtain ⟨h1, h2⟩ := hm0
    refine ⟨h1, fun k k1 k2 => ?_⟩
    show (if k = 4 then g else (hv_sI σM 0 0 0).1 k) = if k = 4 then g else F k
    by_cases e : k = 4
    · rw [if_pos e, if_pos e]
    · rw [if_neg e, if_neg e]
      exact h2 k k1 k2
end
section
/-! bar, deck -/
theorem pig : ∀ (P : Nat) (l : List Nat), l.Nodup → (∀ x ∈ l, x < P) → l.length ≤ P
  | 0, [], _, _ => Nat.le_refl _
  | 0, x :: l, _, h => absurd (h x List.mem_cons_self) (Nat.not_lt_zero _)
  | P + 1, l, hd, h => by
    have h1 := pig P (l.erase P) (hd.erase P) (fun x hx => by
      have h2 := (hd.mem_erase_iff).mp hx
      have h3 := h x h2.2
      have h4 := h2.1
      omega)
    by_cases hm : P ∈ l
    · have h2 := List.length_erase_of_mem hm
      omega
    · rw [List.erase_of_not_mem hm] at h1
      omega
theorem pig_deck {F : Nat → Nat → Int32} {P D : Nat} (hP : P ≤ 6) (hD : D ≤ P) (h1 : ∀ i, i < D → fN P (F 9 i)) (h2 : ∀ i j, i < D → j < D → F 9 i = F 9 j → i = j) {v : Int32} (hv : fN P v) (h3 : ∀ i, i < D → F 9 i ≠ v) : D < P := by
  have hg : ∀ x, fN P x → ∃ k, k < P ∧ x = nI k := fun x h => h
  refine Nat.lt_of_le_of_ne hD (fun e => ?_)
  have q := pig P ((v :: (List.range D).map (F 9)).map (fun x => x.toNatClampNeg)) ?_ ?_
  · simp at q
    omega
  · have inj : ∀ x y, fN P x → fN P y → x.toNatClampNeg = y.toNatClampNeg → x = y := by
      rintro x y ⟨a, ha, rfl⟩ ⟨b, hb, rfl⟩ e
      rw [nI_clamp (by omega), nI_clamp (by omega)] at e
      rw [e]
    rw [List.map_cons, List.map_map, List.nodup_cons]
    refine ⟨fun hm => ?_, ?_⟩
    · obtain ⟨i, hi, e2⟩ := List.mem_map.mp hm
      have hi2 := List.mem_range.mp hi
      exact h3 i hi2 (inj _ _ (h1 i hi2) hv e2)
    · refine List.Pairwise.map _ (R := fun i j => i < D ∧ j < D ∧ i ≠ j) (fun i j hij e2 => hij.2.2 (h2 i j hij.1 hij.2.1 (inj _ _ (h1 i hij.1) (h1 j hij.2.1) e2))) ?_
      exact List.Pairwise.imp_of_mem (fun {a b} ha hb hab => ⟨List.mem_range.mp ha, List.mem_range.mp hb, hab⟩) (List.nodup_range (n := D))
  · intro x hx
    obtain ⟨y, hy, rfl⟩ := List.mem_map.mp hx
    have hy2 : fN P y := by
      rcases List.mem_cons.mp hy with rfl | hy
      · exact hv
      · obtain ⟨i, hi, rfl⟩ := List.mem_map.mp hy
        exact h1 i (List.mem_range.mp hi)
    obtain ⟨k, hk, rfl⟩ := hy2
    rw [nI_clamp (by omega)]
    exact hk
theorem x6_addPin {n : Nat} {σ : hv_St} {v : Int32} {D : Nat} (hD : D ≤ 6) (hs : σ.1 22 0 = nI D) : ∀ (d k fuel : Nat), k + d = D → d < fuel → ((∃ i, k ≤ i ∧ i < D ∧ σ.1 23 i = v) → kX6_addPin_13 n fuel σ v (nI k) = some (-1, σ)) ∧ ((¬ ∃ i, k ≤ i ∧ i < D ∧ σ.1 23 i = v) → D < 6 → kX6_addPin_13 n fuel σ v (nI k) = some (nI (D + 1), hv_sI (hv_sI σ 23 D v) 22 0 (nI (D + 1)))) := by
  intro d
  induction d with
  | zero =>
    intro k fuel hk hf
    obtain ⟨fuel, rfl⟩ : ∃ q, fuel = q + 1 := ⟨fuel - 1, by omega⟩
    refine ⟨fun ⟨i, h1, h2, _⟩ => by omega, fun _ h6 => ?_⟩
    show kX6_addPin_13_b n _ _ _ _ = _
    unfold kX6_addPin_13_b
    rw [hs, if_pos (nI_le (by omega) (by omega)), hv_if_t (hv_ok_nI h6 (by decide)), nI_clamp (by omega), hv_let_e, hv_let_e, hv_sI_rd, if_pos rfl, hv_sI_ne _ _ _ (by decide), hs, nI_1]
  | succ d ih =>
    intro k fuel hk hf
    obtain ⟨fuel, rfl⟩ : ∃ q, fuel = q + 1 := ⟨fuel - 1, by omega⟩
    have hi := ih (k + 1) fuel (by omega) (by omega)
    have e : kX6_addPin_13 n (fuel + 1) σ v (nI k) = if σ.1 23 k = v then some (-1, σ) else kX6_addPin_13 n fuel σ v (nI (k + 1)) := by
      show kX6_addPin_13_b n _ _ _ _ = _
      unfold kX6_addPin_13_b
      rw [hs, if_neg (nI_ge (by omega) (by omega)), hv_if_t (hv_ok_nI (show k < 6 by omega) (by decide)), nI_clamp (by omega), nI_1]
    rw [e]
    by_cases h1 : σ.1 23 k = v
    · rw [if_pos h1]
      exact ⟨fun _ => rfl, fun h => absurd ⟨k, Nat.le_refl _, by omega, h1⟩ h⟩
    · rw [if_neg h1]
      refine ⟨fun ⟨p, h2, h3, h4⟩ => hi.1 ⟨p, ?_, h3, h4⟩, fun h => hi.2 (fun ⟨p, h2, h3, h4⟩ => h ⟨p, by omega, h3, h4⟩)⟩
      by_cases h5 : p = k
      · rw [h5] at h4
        exact absurd h4 h1
      · omega
theorem r8_deck {n : Nat} {σ : hv_St} {v : Int32} {D : Nat} (hD : D ≤ 6) (hs : σ.1 0 13 = nI D) : ∀ (d k fuel : Nat), k + d = D → d < fuel → ((∃ i, k ≤ i ∧ i < D ∧ σ.1 9 i = v) → kX8_deck_17 n fuel σ v (nI k) = some (-1, σ)) ∧ ((¬ ∃ i, k ≤ i ∧ i < D ∧ σ.1 9 i = v) → D < 6 → kX8_deck_17 n fuel σ v (nI k) = some (nI (D + 1), hv_sI (hv_sI σ 9 D v) 0 13 (nI (D + 1)))) := by
  intro d
  induction d with
  | zero =>
    intro k fuel hk hf
    obtain ⟨fuel, rfl⟩ : ∃ q, fuel = q + 1 := ⟨fuel - 1, by omega⟩
    refine ⟨fun ⟨i, h1, h2, _⟩ => by omega, fun _ h6 => ?_⟩
    show kX8_deck_17_b n _ _ _ _ = _
    unfold kX8_deck_17_b
    rw [hs, if_pos (nI_le (by omega) (by omega)), hv_if_t (hv_ok_nI h6 (by decide)), nI_clamp (by omega), hv_let_e, hv_let_e, hv_sI_rd, if_pos rfl, hv_sI_ne _ _ _ (by decide), hs, nI_1]
  | succ d ih =>
    intro k fuel hk hf
    obtain ⟨fuel, rfl⟩ : ∃ q, fuel = q + 1 := ⟨fuel - 1, by omega⟩
    have hi := ih (k + 1) fuel (by omega) (by omega)
    have e : kX8_deck_17 n (fuel + 1) σ v (nI k) = if σ.1 9 k = v then some (-1, σ) else kX8_deck_17 n fuel σ v (nI (k + 1)) := by
      show kX8_deck_17_b n _ _ _ _ = _
      unfold kX8_deck_17_b
      rw [hs, if_neg (nI_ge (by omega) (by omega)), hv_if_t (hv_ok_nI (show k < 6 by omega) (by decide)), nI_clamp (by omega), nI_1]
    rw [e]
    by_cases h1 : σ.1 9 k = v
    · rw [if_pos h1]
      exact ⟨fun _ => rfl, fun h => absurd ⟨k, Nat.le_refl _, by omega, h1⟩ h⟩
    · rw [if_neg h1]
      refine ⟨fun ⟨p, h2, h3, h4⟩ => hi.1 ⟨p, ?_, h3, h4⟩, fun h => hi.2 (fun ⟨p, h2, h3, h4⟩ => h ⟨p, by omega, h3, h4⟩)⟩
      by_cases h5 : p = k
      · rw [h5] at h4
        exact absurd h4 h1
      · omega
theorem op_deck {n : Nat} (hn : 12 < n) {F : Nat → Nat → Int32} {P B O D W : Nat} {σX σM : hv_St} (h : hR F P B O D W σX σM) (v : Int32) : ∃ r σX' σM' F' D', mX7_deck n σX v = some (r, σX') ∧ mX8_deck n σM v = some (r, σM') ∧ hR F' P B O D' W σX' σM' := by
  obtain ⟨hi, hx, hm⟩ := h
  have hP := hi.1
  have hP6 := hP.2
  have hD := hi.2.2.2.1
  have hDP := hD.2
  have sX : σX.1 1 0 = nI P := hx.1.1.trans hP.1
  have dX : σX.1 22 0 = nI D := hx.1.2.2.2.1.trans hD.1
  have hm0 : rM F (hv_sI σM 0 0 0) := rM_sc hm (by decide) 0
  have sM : (hv_sI σM 0 0 0).1 0 1 = nI P := hm0.1.1.trans hP.1
  have dM : (hv_sI σM 0 0 0).1 0 13 = nI D := hm0.1.2.2.2.1.trans hD.1
  have e9 : (hv_sI σM 0 0 0).1 9 = F 9 := hm0.2 9 (by decide) (by decide)
  by_cases hv : fN P v
  · have cX := x6_addPin (n := n) (σ := σX) (v := v) (by omega) dX D 0 n (by omega) (by omega)
    have cM := r8_deck (n := n) (σ := hv_sI σM 0 0 0) (v := v) (by omega) dM D 0 n (by omega) (by omega)
    by_cases hit : ∃ i, i < D ∧ F 9 i = v
    · obtain ⟨i, i1, i2⟩ := hit
      refine ⟨-1, σX, hv_sI σM 0 0 0, F, D, ?_, ?_, hi, hx, hm0⟩
      · unfold mX7_deck mX6_addPin
        rw [(x3_isPin (by omega) sX v).1 hv, hv_b2_e, if_neg (by decide), dX]
        by_cases l6 : nI D < (6 : Int32)
        · rw [if_pos l6]
          rw [show kX6_addPin_13 n n σX v 0 = some (-1, σX) from cX.1 ⟨i, Nat.zero_le _, i1, (hx.2.2.2.2.2.1 i (by omega)).trans i2⟩]
          rfl
        · rw [if_neg l6]
          rfl
      · unfold mX8_deck
        rw [hv_let_e, (r8_isPin (by omega) sM v).1 hv, hv_b2_e, if_neg (by decide)]
        exact cM.1 ⟨i, Nat.zero_le _, i1, by rw [e9]; exact i2⟩
    · have hlt : D < P := pig_deck hP6 hDP hi.2.2.2.2.2.2.2.2.2.1 hi.2.2.2.2.2.2.2.2.2.2.1 hv (fun i i1 i2 => hit ⟨i, i1, i2⟩)
      refine ⟨nI (D + 1), hv_sI (hv_sI σX 23 D v) 22 0 (nI (D + 1)), hv_sI (hv_sI (hv_sI σM 0 0 0) 9 D v) 0 13 (nI (D + 1)), fU (fU F 9 D v) 0 13 (nI (D + 1)), D + 1, ?_, ?_, ?_, ?_, rM_up (rM_up hm0 (k := 9) (by decide) D v) (k := 0) (by decide) 13 _⟩
      · unfold mX7_deck mX6_addPin
        rw [(x3_isPin (by omega) sX v).1 hv, hv_b2_e, if_neg (by decide), dX, if_pos (show nI D < (6 : Int32) from nI_lt (b := 6) (by omega) (by decide))]
        rw [show kX6_addPin_13 n n σX v 0 = _ from cX.2 (fun ⟨i, _, i1, i2⟩ => hit ⟨i, i1, (hx.2.2.2.2.2.1 i (by omega)).symm.trans i2⟩) (by omega)]
        rfl
      · unfold mX8_deck
        rw [hv_let_e, (r8_isPin (by omega) sM v).1 hv, hv_b2_e, if_neg (by decide)]
        exact cM.2 (fun ⟨i, _, i1, i2⟩ => hit ⟨i, i1, by rw [e9] at i2; exact i2⟩) (by omega)
      · obtain ⟨g1, g2, g3, g4, g5, g6, g7, g8, g9, g10, g11, g12⟩ := hi
        refine ⟨⟨by simp [fU, upd, g1.1], g1.2⟩, ⟨by simp [fU, upd, g2.1], g2.2⟩, ⟨by simp [fU, upd, g3.1], g3.2⟩, ⟨by simp [fU, upd], hlt⟩, ⟨by simp [fU, upd, g5.1], g5.2⟩, fun p hp' => by simpa [fU, upd] using g6 p hp', fun b hb => by simpa [fU, upd] using g7 b hb, fun s hs => by simpa [fU, upd] using g8 s hs, fun p hp' => by simpa [fU, upd] using g9 p hp', fun i hi' => ?_, fun i j hi' hj => ?_, fun i hi' => by simpa [fU, upd] using g12 i hi'⟩
        · rw [fU_ne _ _ _ (by decide), fU_at]
          by_cases e : i = D
          · rw [if_pos e]
            exact hv
          · rw [if_neg e]
            exact g10 i (by omega)
        · rw [fU_ne _ _ _ (by decide), fU_at, fU_at]
          by_cases e : i = D
          · rw [if_pos e]
            by_cases e2 : j = D
            · rw [if_pos e2]
              omega
            · rw [if_neg e2]
              exact fun q => absurd ⟨j, by omega, q.symm⟩ hit
          · rw [if_neg e]
            by_cases e2 : j = D
            · rw [if_pos e2]
              exact fun q => absurd ⟨i, by omega, q⟩ hit
            · rw [if_neg e2]
              exact g11 i j (by omega) (by omega)
      · obtain ⟨⟨k1, k2, k3, k4, k5⟩, k6, k7, k8, k9, k10, k11⟩ := hx
        refine ⟨⟨by simp [hv_sI, fU, upd, k1], by simp [hv_sI, fU, upd, k2], by simp [hv_sI, fU, upd, k3], by simp [hv_sI, fU, upd], by simp [hv_sI, fU, upd, k5]⟩, fun p hp' => by simpa [hv_sI, fU, upd] using k6 p hp', fun s hs => by simpa [hv_sI, fU, upd] using k7 s hs, fun p w hp' hw => by simpa [hv_sI, fU, upd] using k8 p w hp' hw, fun b hb => by simpa [hv_sI, fU, upd] using k9 b hb, fun i hi' => ?_, fun i hi' => by simpa [hv_sI, fU, upd] using k11 i hi'⟩
        rw [hv_sI_ne _ _ _ (by decide), hv_sI_rd, fU_ne _ _ _ (by decide), fU_at, k10 i hi']
  · refine ⟨-1, σX, hv_sI σM 0 0 0, F, D, ?_, ?_, hi, hx, hm0⟩
    · unfold mX7_deck
      rw [(x3_isPin (by omega) sX v).2 hv, hv_b2_e, if_pos rfl]
    · unfold mX8_deck
      rw [hv_let_e, (r8_isPin (by omega) sM v).2 hv, hv_b2_e, if_pos rfl]
end
section
/-! bar -/
theorem nI_or (a b : Nat) : nI a ||| nI b = nI (a ||| b) := by
  show Int32.ofNat a ||| Int32.ofNat b = Int32.ofNat (a ||| b)
  rw [← Int32.toBitVec_inj, Int32.toBitVec_or, Int32.toBitVec_ofNat', Int32.toBitVec_ofNat', Int32.toBitVec_ofNat', BitVec.ofNat_or]
theorem nI_and (a b : Nat) : nI a &&& nI b = nI (a &&& b) := by
  show Int32.ofNat a &&& Int32.ofNat b = Int32.ofNat (a &&& b)
  rw [← Int32.toBitVec_inj, Int32.toBitVec_and, Int32.toBitVec_ofNat', Int32.toBitVec_ofNat', Int32.toBitVec_ofNat', BitVec.ofNat_and]
def fBe (f g : Nat → Int32) (B : Nat) (v w : Int32) (k : Nat) : Prop := ∃ b, k ≤ b ∧ b < B ∧ ((f b = v ∧ g b = w) ∨ (f b = w ∧ g b = v))
theorem fBe_step {f g : Nat → Int32} {B : Nat} {v w : Int32} {k : Nat} (h1 : ¬ ((f k = v ∧ g k = w) ∨ (f k = w ∧ g k = v))) (h : fBe f g B v w k) : fBe f g B v w (k + 1) := by
  obtain ⟨b, b1, b2, b3⟩ := h
  refine ⟨b, ?_, b2, b3⟩
  by_cases e : b = k
  · subst e
    exact absurd b3 h1
  · omega
theorem fBe_up {f g : Nat → Int32} {B : Nat} {v w : Int32} {k : Nat} (h : fBe f g B v w (k + 1)) : fBe f g B v w k := by
  obtain ⟨b, b1, b2, b3⟩ := h
  exact ⟨b, by omega, b2, b3⟩
theorem bar_ite {α : Type} {a b c d : Prop} [Decidable a] [Decidable b] [Decidable c] [Decidable d] (x y : α) : (if a then (if b then x else (if c then (if d then x else y) else y)) else (if c then (if d then x else y) else y)) = if (a ∧ b) ∨ (c ∧ d) then x else y := by
  by_cases ha : a <;> by_cases hb : b <;> by_cases hc : c <;> by_cases hd : d <;> simp [ha, hb, hc, hd]
theorem x3_hasBar {n : Nat} {σ : hv_St} {B : Nat} (hB : B ≤ 11) (hs : σ.1 1 1 = nI B) (v w : Int32) : ∀ (d k fuel : Nat), k + d = B → d < fuel → (fBe (σ.1 5) (σ.1 6) B v w k → kX3_hasBar_2 n fuel σ v w (nI k) = some (1, σ)) ∧ ((¬ fBe (σ.1 5) (σ.1 6) B v w k) → kX3_hasBar_2 n fuel σ v w (nI k) = some (0, σ)) := by
  intro d
  induction d with
  | zero =>
    intro k fuel hk hf
    obtain ⟨fuel, rfl⟩ : ∃ q, fuel = q + 1 := ⟨fuel - 1, by omega⟩
    refine ⟨fun ⟨p, h1, h2, _⟩ => by omega, fun _ => ?_⟩
    show kX3_hasBar_2_b n _ _ _ _ _ = _
    unfold kX3_hasBar_2_b
    rw [hs, if_pos (nI_le (by omega) (by omega))]
  | succ d ih =>
    intro k fuel hk hf
    obtain ⟨fuel, rfl⟩ : ∃ q, fuel = q + 1 := ⟨fuel - 1, by omega⟩
    have hi := ih (k + 1) fuel (by omega) (by omega)
    have e : kX3_hasBar_2 n (fuel + 1) σ v w (nI k) = if (σ.1 5 k = v ∧ σ.1 6 k = w) ∨ (σ.1 5 k = w ∧ σ.1 6 k = v) then some (1, σ) else kX3_hasBar_2 n fuel σ v w (nI (k + 1)) := by
      show kX3_hasBar_2_b n _ _ _ _ _ = _
      unfold kX3_hasBar_2_b kX3_hasBar_30 kX3_hasBar_52
      rw [hs, if_neg (nI_ge (by omega) (by omega))]
      simp only [nI_1, hv_if_t (hv_ok_nI (show k < 11 by omega) (by decide)), nI_clamp (show k < 2 ^ 31 by omega)]
      exact bar_ite _ _
    rw [e]
    by_cases h1 : (σ.1 5 k = v ∧ σ.1 6 k = w) ∨ (σ.1 5 k = w ∧ σ.1 6 k = v)
    · rw [if_pos h1]
      exact ⟨fun _ => rfl, fun h => absurd ⟨k, Nat.le_refl _, by omega, h1⟩ h⟩
    · rw [if_neg h1]
      exact ⟨fun h => hi.1 (fBe_step h1 h), fun h => hi.2 (fun h2 => h (fBe_up h2))⟩
def r8_barEnd (σ : hv_St) (B : Nat) (v w x : Int32) : hv_St := hv_sI (hv_sI (hv_sI (hv_sI (hv_sI (hv_sI σ 5 B v) 6 B w) 7 B x) 8 B 99) 0 11 (σ.1 0 11 ||| nI (2 ^ B))) 0 6 (nI (B + 1))
theorem r8_bar {n : Nat} {σ : hv_St} {B : Nat} (hB : B < 11) (hs : σ.1 0 6 = nI B) (v w x : Int32) : ∀ (d k fuel : Nat), k + d = B → d < fuel → (fBe (σ.1 5) (σ.1 6) B v w k → kX8_bar_52 n fuel σ v w x (nI k) = some (-1, σ)) ∧ ((¬ fBe (σ.1 5) (σ.1 6) B v w k) → kX8_bar_52 n fuel σ v w x (nI k) = some (nI B, r8_barEnd σ B v w x)) := by
  intro d
  induction d with
  | zero =>
    intro k fuel hk hf
    obtain ⟨fuel, rfl⟩ : ∃ q, fuel = q + 1 := ⟨fuel - 1, by omega⟩
    refine ⟨fun ⟨p, h1, h2, _⟩ => by omega, fun _ => ?_⟩
    show kX8_bar_52_b n _ _ _ _ _ _ = _
    unfold kX8_bar_52_b r8_barEnd
    rw [hs, if_pos (nI_le (by omega) (by omega))]
    have t1 : (hv_sI σ 5 B v).1 0 6 = nI B := by rw [hv_sI_ne _ _ _ (by decide)]; exact hs
    have t2 : (hv_sI (hv_sI σ 5 B v) 6 B w).1 0 6 = nI B := by rw [hv_sI_ne _ _ _ (by decide)]; exact t1
    have t3 : (hv_sI (hv_sI (hv_sI σ 5 B v) 6 B w) 7 B x).1 0 6 = nI B := by rw [hv_sI_ne _ _ _ (by decide)]; exact t2
    have t4 : (hv_sI (hv_sI (hv_sI (hv_sI σ 5 B v) 6 B w) 7 B x) 8 B 99).1 0 6 = nI B := by rw [hv_sI_ne _ _ _ (by decide)]; exact t3
    have t5 : (hv_sI (hv_sI (hv_sI (hv_sI σ 5 B v) 6 B w) 7 B x) 8 B 99).1 0 11 = σ.1 0 11 := by rw [hv_sI_ne _ _ _ (by decide), hv_sI_ne _ _ _ (by decide), hv_sI_ne _ _ _ (by decide), hv_sI_ne _ _ _ (by decide)]
    simp only [hv_if_t (hv_ok_nI (show B < 11 by omega) (by decide)), nI_clamp (show B < 2 ^ 31 by omega), hv_let_e, t1, t2, t3, t4, t5, nI_shl (show B < 31 by omega), hv_sI_rd, if_true, if_neg (show ¬ (6 : Nat) = 11 by decide), nI_1, nI_pred]
  | succ d ih =>
    intro k fuel hk hf
    obtain ⟨fuel, rfl⟩ : ∃ q, fuel = q + 1 := ⟨fuel - 1, by omega⟩
    have hi := ih (k + 1) fuel (by omega) (by omega)
    have e : kX8_bar_52 n (fuel + 1) σ v w x (nI k) = if (σ.1 5 k = v ∧ σ.1 6 k = w) ∨ (σ.1 5 k = w ∧ σ.1 6 k = v) then some (-1, σ) else kX8_bar_52 n fuel σ v w x (nI (k + 1)) := by
      show kX8_bar_52_b n _ _ _ _ _ _ = _
      unfold kX8_bar_52_b kX8_bar_83 kX8_bar_107
      rw [hs, if_neg (nI_ge (by omega) (by omega))]
      simp only [nI_1, hv_if_t (hv_ok_nI (show k < 11 by omega) (by decide)), nI_clamp (show k < 2 ^ 31 by omega)]
      exact bar_ite _ _
    rw [e]
    by_cases h1 : (σ.1 5 k = v ∧ σ.1 6 k = w) ∨ (σ.1 5 k = w ∧ σ.1 6 k = v)
    · rw [if_pos h1]
      exact ⟨fun _ => rfl, fun h => absurd ⟨k, Nat.le_refl _, by omega, h1⟩ h⟩
    · rw [if_neg h1]
      exact ⟨fun h => hi.1 (fBe_step h1 h), fun h => hi.2 (fun h2 => h (fBe_up h2))⟩
theorem op_bar {n : Nat} (hn : 12 < n) {F : Nat → Nat → Int32} {P B O D W : Nat} {σX σM : hv_St} (h : hR F P B O D W σX σM) (v w x : Int32) : ∃ r σX' σM' F' B' O', mX7_bar n σX v w x = some (r, σX') ∧ mX8_bar n σM v w x = some (r, σM') ∧ hR F' P B' O' D W σX' σM' := by
  obtain ⟨hi, hx, hm⟩ := h
  have hP := hi.1
  have hP6 := hP.2
  have hB := hi.2.1
  have hB11 := hB.2
  have hO := hi.2.2.1
  have sX : σX.1 1 0 = nI P := hx.1.1.trans hP.1
  have bX : σX.1 1 1 = nI B := hx.1.2.1.trans hB.1
  have oX : σX.1 1 2 = nI O := hx.1.2.2.1.trans hO.1
  have hm0 : rM F (hv_sI σM 0 0 0) := rM_sc hm (by decide) 0
  have sM : (hv_sI σM 0 0 0).1 0 1 = nI P := hm0.1.1.trans hP.1
  have bM : (hv_sI σM 0 0 0).1 0 6 = nI B := hm0.1.2.1.trans hB.1
  have oM : (hv_sI σM 0 0 0).1 0 11 = nI O := hm0.1.2.2.1.trans hO.1
  by_cases h11 : B = 11
  · refine ⟨-1, σX, hv_sI σM 0 0 0, F, B, O, ?_, ?_, hi, hx, hm0⟩
    · unfold mX7_bar
      rw [bX, h11]
      rfl
    · unfold mX8_bar
      rw [hv_let_e, bM, h11]
      rfl
  · have n11 : ¬ (11 : Int32) ≤ nI B := nI_ge (b := 11) (by omega) (by decide)
    have e11 : ¬ nI B = (11 : Int32) := fun e => h11 ((nI_eq (b := 11) (by omega) (by decide)).mp e)
    by_cases hv : fN P v
    · by_cases hw : fN P w
      · by_cases hvw : v = w
        · refine ⟨-1, σX, hv_sI σM 0 0 0, F, B, O, ?_, ?_, hi, hx, hm0⟩
          · unfold mX7_bar kX7_bar_43 kX7_bar_44
            rw [bX, if_neg n11, (x3_isPin (by omega) sX v).1 hv, hv_b2_e, if_neg (by decide), (x3_isPin (by omega) sX w).1 hw, hv_b2_e, if_neg (by decide), if_pos hvw, if_pos rfl]
          · unfold mX8_bar
            rw [hv_let_e, bM, if_neg e11, (r8_isPin (by omega) sM v).1 hv, hv_b2_e, if_neg (by decide), (r8_isPin (by omega) sM w).1 hw, hv_b2_e, if_neg (by decide), if_pos hvw]
        · by_cases hg : fRg 3 x
          · have cX := x3_hasBar (n := n) (by omega) bX v w B 0 n (by omega) (by omega)
            have cM := r8_bar (n := n) (by omega) bM v w x B 0 n (by omega) (by omega)
            have m5 : (hv_sI σM 0 0 0).1 5 = F 5 := hm0.2 5 (by decide) (by decide)
            have m6 : (hv_sI σM 0 0 0).1 6 = F 6 := hm0.2 6 (by decide) (by decide)
            rw [m5, m6] at cM
            have hit : fBe (σX.1 5) (σX.1 6) B v w 0 ↔ fBe (F 5) (F 6) B v w 0 := by
              constructor
              · rintro ⟨b, b1, b2, b3⟩
                have q := hx.2.2.2.2.1 b (by omega)
                rw [q.1, q.2.1] at b3
                exact ⟨b, b1, b2, b3⟩
              · rintro ⟨b, b1, b2, b3⟩
                have q := hx.2.2.2.2.1 b (by omega)
                rw [← q.1, ← q.2.1] at b3
                exact ⟨b, b1, b2, b3⟩
            have pX : ∀ o, mX3_hasBar n σX v w = o → (kX7_bar_44 n σX v w x 1 = hv_b2 o fun r64 s64 => if r64 = 0 then (hv_b2 (mX3_addBar n s64 v w x) fun r79 s79 => some (r79, s79)) else (some ((-1 : Int32), s64))) := fun o ho => by
              unfold kX7_bar_44
              rw [if_neg (by decide), (x7_isGive x).1 hg, hv_b2_e, if_neg (by decide), ho]
            by_cases hh : fBe (F 5) (F 6) B v w 0
            · refine ⟨-1, σX, hv_sI σM 0 0 0, F, B, O, ?_, ?_, hi, hx, hm0⟩
              · unfold mX7_bar
                rw [bX, if_neg n11, (x3_isPin (by omega) sX v).1 hv, hv_b2_e, if_neg (by decide), (x3_isPin (by omega) sX w).1 hw, hv_b2_e, if_neg (by decide), if_neg hvw, pX _ (cX.1 (hit.mpr hh)), hv_b2_e, if_neg (by decide)]
              · unfold mX8_bar
                rw [hv_let_e, bM, if_neg e11, (r8_isPin (by omega) sM v).1 hv, hv_b2_e, if_neg (by decide), (r8_isPin (by omega) sM w).1 hw, hv_b2_e, if_neg (by decide), if_neg hvw]
                rw [show (3 : Int64) = (nI 3).toInt64 from rfl, show (1 : Int64) = (1 : Int32).toInt64 from rfl, (r8_inR 3 x).1 hg, hv_b2_e, if_neg (by decide)]
                exact cM.1 hh
            · have hO2 : O ||| 2 ^ B < 2 ^ (B + 1) := Nat.or_lt_two_pow (Nat.lt_trans hO.2 (Nat.pow_lt_pow_right (by decide) (by omega))) (Nat.pow_lt_pow_right (by decide) (by omega))
              refine ⟨nI B, hv_sI (hv_sI (hv_sI (hv_sI (hv_sI (hv_sI σX 5 B v) 6 B w) 7 B x) 8 B 99) 1 2 (nI (O ||| 2 ^ B))) 1 1 (nI (B + 1)), r8_barEnd (hv_sI σM 0 0 0) B v w x, fU (fU (fU (fU (fU (fU F 5 B v) 6 B w) 7 B x) 8 B 99) 0 11 (nI (O ||| 2 ^ B))) 0 6 (nI (B + 1)), B + 1, O ||| 2 ^ B, ?_, ?_, ?_, ?_, ?_⟩
              · unfold mX7_bar
                rw [bX, if_neg n11, (x3_isPin (by omega) sX v).1 hv, hv_b2_e, if_neg (by decide), (x3_isPin (by omega) sX w).1 hw, hv_b2_e, if_neg (by decide), if_neg hvw, pX _ (cX.2 (fun q => hh (hit.mp q))), hv_b2_e, if_pos rfl]
                unfold mX3_addBar
                have t5 : (hv_sI (hv_sI (hv_sI (hv_sI σX 5 B v) 6 B w) 7 B x) 8 B 99).1 1 2 = nI O := by rw [hv_sI_ne _ _ _ (by decide), hv_sI_ne _ _ _ (by decide), hv_sI_ne _ _ _ (by decide), hv_sI_ne _ _ _ (by decide)]; exact oX
                have t6 : (hv_sI (hv_sI (hv_sI (hv_sI σX 5 B v) 6 B w) 7 B x) 8 B 99).1 1 1 = nI B := by rw [hv_sI_ne _ _ _ (by decide), hv_sI_ne _ _ _ (by decide), hv_sI_ne _ _ _ (by decide), hv_sI_ne _ _ _ (by decide)]; exact bX
                simp only [hv_let_e, bX, hv_if_t (hv_ok_nI (show B < 11 by omega) (by decide)), nI_clamp (show B < 2 ^ 31 by omega), t5, t6, nI_shl (show B < 31 by omega), hv_sI_rd, if_neg (show ¬ (1 : Nat) = 2 by decide), nI_1, hv_b2_e, nI_or]
              · unfold mX8_bar
                rw [hv_let_e, bM, if_neg e11, (r8_isPin (by omega) sM v).1 hv, hv_b2_e, if_neg (by decide), (r8_isPin (by omega) sM w).1 hw, hv_b2_e, if_neg (by decide), if_neg hvw]
                rw [show (3 : Int64) = (nI 3).toInt64 from rfl, show (1 : Int64) = (1 : Int32).toInt64 from rfl, (r8_inR 3 x).1 hg, hv_b2_e, if_neg (by decide)]
                exact cM.2 hh
              · obtain ⟨g1, g2, g3, g4, g5, g6, g7, g8, g9, g10, g11, g12⟩ := hi
                refine ⟨⟨by simp [fU, upd, g1.1], g1.2⟩, ⟨by simp [fU, upd], by omega⟩, ⟨by simp [fU, upd], hO2⟩, ⟨by simp [fU, upd, g4.1], g4.2⟩, ⟨by simp [fU, upd, g5.1], g5.2⟩, fun p hp' => by simpa [fU, upd] using g6 p hp', fun b hb => ?_, fun s hs => by simpa [fU, upd] using g8 s hs, fun p hp' => by simpa [fU, upd] using g9 p hp', fun i hi' => by simpa [fU, upd] using g10 i hi', fun i j hi' hj => by simpa [fU, upd] using g11 i j hi' hj, fun i hi' => by simpa [fU, upd] using g12 i hi'⟩
                by_cases e : b = B
                · subst e
                  exact ⟨by simpa [fU, upd] using hv, by simpa [fU, upd] using hw, by simpa [fU, upd] using fRg_n (M := 3) (by decide) hg, 99, by simp [fU, upd]; rfl, by decide, by decide⟩
                · have q := g7 b (by omega)
                  simpa [fU, upd, e] using q
              · obtain ⟨⟨k1, k2, k3, k4, k5⟩, k6, k7, k8, k9, k10, k11⟩ := hx
                refine ⟨⟨by simp [hv_sI, fU, upd, k1], by simp [hv_sI, fU, upd], by simp [hv_sI, fU, upd], by simp [hv_sI, fU, upd, k4], by simp [hv_sI, fU, upd, k5]⟩, fun p hp' => by simpa [hv_sI, fU, upd] using k6 p hp', fun s hs => by simpa [hv_sI, fU, upd] using k7 s hs, fun p w hp' hw => by simpa [hv_sI, fU, upd] using k8 p w hp' hw, fun b hb => ?_, fun i hi' => by simpa [hv_sI, fU, upd] using k10 i hi', fun i hi' => by simpa [hv_sI, fU, upd] using k11 i hi'⟩
                have q := k9 b hb
                by_cases e : b = B
                · simp [hv_sI, fU, upd, e]
                · simpa [hv_sI, fU, upd, e] using q
              · unfold r8_barEnd
                rw [oM, nI_or]
                exact rM_up (rM_up (rM_up (rM_up (rM_up (rM_up hm0 (k := 5) (by decide) B v) (k := 6) (by decide) B w) (k := 7) (by decide) B x) (k := 8) (by decide) B 99) (k := 0) (by decide) 11 _) (k := 0) (by decide) 6 _
          · refine ⟨-1, σX, hv_sI σM 0 0 0, F, B, O, ?_, ?_, hi, hx, hm0⟩
            · unfold mX7_bar kX7_bar_44
              rw [bX, if_neg n11, (x3_isPin (by omega) sX v).1 hv, hv_b2_e, if_neg (by decide), (x3_isPin (by omega) sX w).1 hw, hv_b2_e, if_neg (by decide), if_neg hvw, if_neg (by decide), (x7_isGive x).2 hg, hv_b2_e, if_pos rfl]
            · unfold mX8_bar
              rw [hv_let_e, bM, if_neg e11, (r8_isPin (by omega) sM v).1 hv, hv_b2_e, if_neg (by decide), (r8_isPin (by omega) sM w).1 hw, hv_b2_e, if_neg (by decide), if_neg hvw]
              rw [show (3 : Int64) = (nI 3).toInt64 from rfl, show (1 : Int64) = (1 : Int32).toInt64 from rfl, (r8_inR 3 x).2 hg, hv_b2_e, if_pos rfl]
      · refine ⟨-1, σX, hv_sI σM 0 0 0, F, B, O, ?_, ?_, hi, hx, hm0⟩
        · unfold mX7_bar kX7_bar_43 kX7_bar_44
          rw [bX, if_neg n11, (x3_isPin (by omega) sX v).1 hv, hv_b2_e, if_neg (by decide), (x3_isPin (by omega) sX w).2 hw, hv_b2_e, if_pos rfl, if_pos rfl]
        · unfold mX8_bar
          rw [hv_let_e, bM, if_neg e11, (r8_isPin (by omega) sM v).1 hv, hv_b2_e, if_neg (by decide), (r8_isPin (by omega) sM w).2 hw, hv_b2_e, if_pos rfl]
    · refine ⟨-1, σX, hv_sI σM 0 0 0, F, B, O, ?_, ?_, hi, hx, hm0⟩
      · unfold mX7_bar kX7_bar_43 kX7_bar_44
        rw [bX, if_neg n11, (x3_isPin (by omega) sX v).2 hv, hv_b2_e, if_pos rfl, if_pos rfl]
      · unfold mX8_bar
        rw [hv_let_e, bM, if_neg e11, (r8_isPin (by omega) sM v).2 hv, hv_b2_e, if_pos rfl]
end
section
/-! train -/
def fNz : Nat → Nat → Prop
  | 0, _ => True
  | m + 1, r => r % 10 ≠ 0 ∧ fNz m (r / 10)
theorem nI_d10 {r : Nat} (h : r < 2 ^ 31) : nI r / (10 : Int32) = nI (r / 10) := pk_div h (by decide) (by decide)
theorem nI_r10 {r : Nat} (h : r < 2 ^ 31) : nI r - nI r / (10 : Int32) * (10 : Int32) = nI (r % 10) := pk_rem h (by decide) (by decide)
theorem nI_0e {r : Nat} (h : r < 2 ^ 31) : nI r = 0 ↔ r = 0 := nI_eq (b := 0) h (by decide)
theorem x6_dz {n : Nat} {σ : hv_St} : ∀ (m i c r fuel : Nat), i + m ≤ 4 → c + m < 100 → (m = 0 → r = 0) → (0 < m → 10 ^ (m - 1) ≤ r ∧ r < 10 ^ m) → m < fuel → (fNz m r → 0 < c + m → kX6_digitsWithoutZero_6 n fuel σ (nI r) (nI c) (nI i) = some (nI (c + m), σ)) ∧ (¬ fNz m r → kX6_digitsWithoutZero_6 n fuel σ (nI r) (nI c) (nI i) = some (-1, σ)) := by
  intro m
  induction m with
  | zero =>
    intro i c r fuel hi hc h0 _ hf
    obtain ⟨fuel, rfl⟩ : ∃ q, fuel = q + 1 := ⟨fuel - 1, by omega⟩
    have hr := h0 rfl
    subst hr
    refine ⟨fun _ hcm => ?_, fun h => absurd trivial h⟩
    show kX6_digitsWithoutZero_6_b n _ _ _ _ _ = _
    unfold kX6_digitsWithoutZero_6_b kX6_digitsWithoutZero_38
    rw [if_pos (show nI 0 = 0 from rfl), if_neg (nI_nle (by omega) (by omega)), if_pos (show nI 0 ≤ 0 by decide)]
    by_cases h4 : (4 : Int32) ≤ nI i
    · rw [if_pos h4]
      rfl
    · rw [if_neg h4]
      rfl
  | succ m ih =>
    intro i c r fuel hi hc _ hr hf
    obtain ⟨fuel, rfl⟩ : ∃ q, fuel = q + 1 := ⟨fuel - 1, by omega⟩
    obtain ⟨r1, r2⟩ := hr (by omega)
    have r0 : 0 < r := Nat.lt_of_lt_of_le (Nat.pow_pos (by decide)) r1
    have rb : r < 2 ^ 31 := Nat.lt_of_lt_of_le r2 (Nat.le_trans (Nat.pow_le_pow_right (by decide) (show m + 1 ≤ 4 by omega)) (by decide))
    have q := ih (i + 1) (c + 1) (r / 10) fuel (by omega) (by omega) (fun e => by subst e; simp at r2; omega) (fun e => by
      obtain ⟨m, rfl⟩ : ∃ q, m = q + 1 := ⟨m - 1, by omega⟩
      have e1 : 10 ^ (m + 1 + 1 - 1) = 10 ^ m * 10 := Nat.pow_succ 10 m
      have e2 : 10 ^ (m + 1 + 1) = 10 ^ (m + 1) * 10 := Nat.pow_succ 10 (m + 1)
      rw [e1] at r1
      rw [e2] at r2
      rw [Nat.add_sub_cancel]
      omega) (by omega)
    have e : kX6_digitsWithoutZero_6 n (fuel + 1) σ (nI r) (nI c) (nI i) = if r % 10 = 0 then some (-1, σ) else kX6_digitsWithoutZero_6 n fuel σ (nI (r / 10)) (nI (c + 1)) (nI (i + 1)) := by
      show kX6_digitsWithoutZero_6_b n _ _ _ _ _ = _
      unfold kX6_digitsWithoutZero_6_b
      rw [if_neg (show ¬ (4 : Int32) ≤ nI i from nI_ge (b := 4) (by omega) (by decide)), if_neg (nI_nle r0 rb), nI_r10 rb, hv_let_e, nI_d10 rb, nI_1, nI_1]
      by_cases h : r % 10 = 0
      · rw [if_pos ((nI_0e (by omega)).mpr h), if_pos h]
      · rw [if_neg (fun q => h ((nI_0e (by omega)).mp q)), if_neg h]
    rw [e]
    by_cases h : r % 10 = 0
    · rw [if_pos h]
      exact ⟨fun q _ => absurd h q.1, fun _ => rfl⟩
    · rw [if_neg h]
      refine ⟨fun h2 _ => ?_, fun h2 => q.2 (fun h3 => h2 ⟨h, h3⟩)⟩
      rw [q.1 h2.2 (by omega), show c + 1 + m = c + (m + 1) by omega]
theorem x6_dzBig {n : Nat} {σ : hv_St} : ∀ (j i c r fuel : Nat), i + j = 4 → 10 ^ j ≤ r → r < 2 ^ 31 → j < fuel → kX6_digitsWithoutZero_6 n fuel σ (nI r) (nI c) (nI i) = some (-1, σ) := by
  intro j
  induction j with
  | zero =>
    intro i c r fuel hi hr hb hf
    obtain ⟨fuel, rfl⟩ : ∃ q, fuel = q + 1 := ⟨fuel - 1, by omega⟩
    show kX6_digitsWithoutZero_6_b n _ _ _ _ _ = _
    unfold kX6_digitsWithoutZero_6_b kX6_digitsWithoutZero_38 kX6_digitsWithoutZero_50
    rw [if_pos (show (4 : Int32) ≤ nI i from nI_le (a := 4) (by omega) (by omega)), if_neg (nI_ne0 (by omega) hb)]
  | succ j ih =>
    intro i c r fuel hi hr hb hf
    obtain ⟨fuel, rfl⟩ : ∃ q, fuel = q + 1 := ⟨fuel - 1, by omega⟩
    have e1 : 10 ^ (j + 1) = 10 ^ j * 10 := Nat.pow_succ 10 j
    have r0 : 0 < r := Nat.lt_of_lt_of_le (Nat.pow_pos (by decide)) hr
    show kX6_digitsWithoutZero_6_b n _ _ _ _ _ = _
    unfold kX6_digitsWithoutZero_6_b
    rw [if_neg (show ¬ (4 : Int32) ≤ nI i from nI_ge (b := 4) (by omega) (by decide)), if_neg (nI_nle r0 hb), nI_r10 hb, hv_let_e, nI_d10 hb, nI_1, nI_1]
    by_cases h : nI (r % 10) = 0
    · rw [if_pos h]
    · rw [if_neg h]
      exact ih (i + 1) (c + 1) (r / 10) fuel (by omega) (by omega) (by omega) (by omega)
theorem r8_train57 {n : Nat} {σ : hv_St} {m d : Nat} (hm : m < 100) : ∀ (e k r fuel : Nat), k + e = m → e < fuel → r < 2 ^ 31 → (fNz e r → kX8_train_57 n fuel σ (nI d) (nI m) (nI r) (nI k) = kX8_train_90 n n σ (nI m) (nI d) (nI m - 1)) ∧ (¬ fNz e r → kX8_train_57 n fuel σ (nI d) (nI m) (nI r) (nI k) = some (-1, σ)) := by
  intro e
  induction e with
  | zero =>
    intro k r fuel hk hf hr
    obtain ⟨fuel, rfl⟩ : ∃ q, fuel = q + 1 := ⟨fuel - 1, by omega⟩
    refine ⟨fun _ => ?_, fun h => absurd trivial h⟩
    show kX8_train_57_b n _ _ _ _ _ _ = _
    unfold kX8_train_57_b
    rw [if_pos (nI_le (by omega) (by omega)), hv_let_e]
  | succ e ih =>
    intro k r fuel hk hf hr
    obtain ⟨fuel, rfl⟩ : ∃ q, fuel = q + 1 := ⟨fuel - 1, by omega⟩
    have q := ih (k + 1) (r / 10) fuel (by omega) (by omega) (by omega)
    have e : kX8_train_57 n (fuel + 1) σ (nI d) (nI m) (nI r) (nI k) = if r % 10 = 0 then some (-1, σ) else kX8_train_57 n fuel σ (nI d) (nI m) (nI (r / 10)) (nI (k + 1)) := by
      show kX8_train_57_b n _ _ _ _ _ _ = _
      unfold kX8_train_57_b
      rw [if_neg (nI_ge (by omega) (by omega)), nI_r10 hr, hv_let_e, nI_d10 hr, nI_1]
      by_cases h : r % 10 = 0
      · rw [if_pos ((nI_0e (by omega)).mpr h), if_pos h]
      · rw [if_neg (fun q => h ((nI_0e (by omega)).mp q)), if_neg h]
    rw [e]
    by_cases h : r % 10 = 0
    · rw [if_pos h]
      exact ⟨fun q => absurd h q.1, fun _ => rfl⟩
    · rw [if_neg h]
      exact ⟨fun h2 => q.1 h2.2, fun h2 => q.2 (fun h3 => h2 ⟨h, h3⟩)⟩
def fWd (f : Nat → Int32) : Nat → Nat → Nat → Int32
  | 0, _ => f
  | j + 1, r => fWd (upd f j (nI (r % 10))) j (r / 10)
theorem fWd_hi : ∀ (j r : Nat) (f : Nat → Int32) (i : Nat), j ≤ i → fWd f j r i = f i
  | 0, _, _, _, _ => rfl
  | j + 1, r, f, i, h => by
    show fWd (upd f j (nI (r % 10))) j (r / 10) i = f i
    rw [fWd_hi j _ _ i (by omega), pk_un (by omega)]
theorem fWd_lo : ∀ (j r : Nat) (f : Nat → Int32) (i : Nat), fNz j r → i < j → ∃ w, fWd f j r i = nI w ∧ 1 ≤ w ∧ w ≤ 9
  | 0, _, _, _, _, h => absurd h (Nat.not_lt_zero _)
  | j + 1, r, f, i, hz, h => by
    show ∃ w, fWd (upd f j (nI (r % 10))) j (r / 10) i = nI w ∧ _
    by_cases e : i = j
    · refine ⟨r % 10, ?_, by have := hz.1; omega, by omega⟩
      rw [fWd_hi j _ _ i (by omega), e, pk_us]
    · exact fWd_lo j _ _ i hz.2 (by omega)
theorem fWd_eq : ∀ (j r : Nat) (f g : Nat → Int32) (N : Nat), (∀ i, i < N → f i = g i) → ∀ i, i < N → fWd f j r i = fWd g j r i
  | 0, _, _, _, _, h => h
  | j + 1, r, f, g, N, h => fWd_eq j (r / 10) _ _ N (fun i hi => by
    show (if i = j then _ else f i) = if i = j then _ else g i
    rw [h i hi])
theorem x6_take {n m : Nat} : ∀ (j r fuel : Nat) (σ : hv_St), j ≤ 4 → j < fuel → r < 2 ^ 31 → kX6_takeWeights_19 n fuel σ (nI m) (nI r) (nI j - 1) = some (nI m, hv_sI (hv_wI σ 24 (fWd (σ.1 24) j r)) 22 1 (nI m)) := by
  intro j
  induction j with
  | zero =>
    intro r fuel σ _ hf hr
    obtain ⟨fuel, rfl⟩ : ∃ q, fuel = q + 1 := ⟨fuel - 1, by omega⟩
    show kX6_takeWeights_19_b n _ _ _ _ _ = _
    unfold kX6_takeWeights_19_b
    rw [if_pos (show nI 0 - 1 < 0 by decide), hv_let_e]
    show _ = some (nI m, hv_sI (hv_wI σ 24 (σ.1 24)) 22 1 (nI m))
    rw [hv_wI_self]
  | succ j ih =>
    intro r fuel σ hj hf hr
    obtain ⟨fuel, rfl⟩ : ∃ q, fuel = q + 1 := ⟨fuel - 1, by omega⟩
    show kX6_takeWeights_19_b n _ _ _ _ _ = _
    unfold kX6_takeWeights_19_b
    rw [nI_pred, if_neg (nI_pos (by omega)), hv_if_t (hv_ok_nI (show j < 4 by omega) (by decide)), hv_let_e, hv_let_e, nI_r10 hr, nI_d10 hr, nI_clamp (by omega), show nI j + -1 = nI j - 1 from (Int32.sub_eq_add_neg _ _).symm, ih (r / 10) fuel _ (by omega) (by omega) (by omega), hv_sI_w σ 24 j, hv_wI_w, hv_wI_at]
    rfl
theorem r8_take {n m : Nat} : ∀ (j r fuel : Nat) (σ : hv_St), j ≤ 4 → j < fuel → r < 2 ^ 31 → kX8_train_90 n fuel σ (nI m) (nI r) (nI j - 1) = some (nI m, hv_sI (hv_wI σ 10 (fWd (σ.1 10) j r)) 0 15 (nI m)) := by
  intro j
  induction j with
  | zero =>
    intro r fuel σ _ hf hr
    obtain ⟨fuel, rfl⟩ : ∃ q, fuel = q + 1 := ⟨fuel - 1, by omega⟩
    show kX8_train_90_b n _ _ _ _ _ = _
    unfold kX8_train_90_b
    rw [if_pos (show nI 0 - 1 < 0 by decide), hv_let_e]
    show _ = some (nI m, hv_sI (hv_wI σ 10 (σ.1 10)) 0 15 (nI m))
    rw [hv_wI_self]
  | succ j ih =>
    intro r fuel σ hj hf hr
    obtain ⟨fuel, rfl⟩ : ∃ q, fuel = q + 1 := ⟨fuel - 1, by omega⟩
    show kX8_train_90_b n _ _ _ _ _ = _
    unfold kX8_train_90_b
    rw [nI_pred, if_neg (nI_pos (by omega)), hv_if_t (hv_ok_nI (show j < 4 by omega) (by decide)), hv_let_e, hv_let_e, nI_r10 hr, nI_d10 hr, nI_clamp (by omega), show nI j + -1 = nI j - 1 from (Int32.sub_eq_add_neg _ _).symm, ih (r / 10) fuel _ (by omega) (by omega) (by omega), hv_sI_w σ 10 j, hv_wI_w, hv_wI_at]
    rfl
theorem dg_size {d : Nat} (h1 : 1 ≤ d) (h2 : d ≤ 9999) : ∃ m, 1 ≤ m ∧ m ≤ 4 ∧ 10 ^ (m - 1) ≤ d ∧ d < 10 ^ m := by
  by_cases a : d < 10
  · exact ⟨1, by decide, by decide, by simpa using h1, by simpa using a⟩
  · by_cases b : d < 100
    · exact ⟨2, by decide, by decide, by simp; omega, by simp; omega⟩
    · by_cases c : d < 1000
      · exact ⟨3, by decide, by decide, by simp; omega, by simp; omega⟩
      · exact ⟨4, by decide, by decide, by simp; omega, by simp; omega⟩
theorem r8_trainM {n : Nat} {σ : hv_St} {d m : Nat} (hm1 : 1 ≤ m) (hm4 : m ≤ 4) (h1 : 10 ^ (m - 1) ≤ d) (h2 : d < 10 ^ m) (h3 : d ≤ 9999) : (if (10 : Int32) ≤ nI d then (if (100 : Int32) ≤ nI d then (if (1000 : Int32) ≤ nI d then (kX8_train_51 n σ (nI d) ((4 : Int32))) else (kX8_train_51 n σ (nI d) ((3 : Int32)))) else (kX8_train_51 n σ (nI d) ((2 : Int32)))) else (kX8_train_51 n σ (nI d) ((1 : Int32)))) = kX8_train_57 n n σ (nI d) (nI m) (nI d) (nI 0) := by
  have a1 : (10 : Int32) ≤ nI d ↔ 10 ≤ d := nI_leI (a := 10) (by decide) (by omega)
  have a2 : (100 : Int32) ≤ nI d ↔ 100 ≤ d := nI_leI (a := 100) (by decide) (by omega)
  have a3 : (1000 : Int32) ≤ nI d ↔ 1000 ≤ d := nI_leI (a := 1000) (by decide) (by omega)
  simp only [a1, a2, a3]
  rcases (show m = 1 ∨ m = 2 ∨ m = 3 ∨ m = 4 by omega) with rfl | rfl | rfl | rfl
  · simp at h1 h2
    rw [if_neg (by omega)]
    rfl
  · simp at h1 h2
    rw [if_pos (by omega), if_neg (by omega)]
    rfl
  · simp at h1 h2
    rw [if_pos (by omega), if_pos (by omega), if_neg (by omega)]
    rfl
  · simp at h1 h2
    rw [if_pos (by omega), if_pos (by omega), if_pos (by omega)]
    rfl
theorem op_train {n : Nat} (hn : 12 < n) {F : Nat → Nat → Int32} {P B O D W : Nat} {σX σM : hv_St} (h : hR F P B O D W σX σM) (v : Int32) : ∃ r σX' σM' F' W', mX7_train n σX v = some (r, σX') ∧ mX8_train n σM v = some (r, σM') ∧ hR F' P B O D W' σX' σM' := by
  obtain ⟨hi, hx, hm⟩ := h
  have hm0 : rM F (hv_sI σM 0 0 0) := rM_sc hm (by decide) 0
  by_cases hv : fRg 9999 v
  · obtain ⟨d, rfl, d1, d2⟩ := fRg_n (by decide) hv
    obtain ⟨m, m1, m4, e1, e2⟩ := dg_size d1 d2
    have cX := x6_dz (n := n) (σ := σX) m 0 0 d n (by omega) (by omega) (by omega) (fun _ => ⟨e1, e2⟩) (by omega)
    have cM := r8_train57 (n := n) (σ := hv_sI σM 0 0 0) (m := m) (d := d) (by omega) m 0 d n (by omega) (by omega) (by omega)
    have pM : mX8_train n σM (nI d) = kX8_train_57 n n (hv_sI σM 0 0 0) (nI d) (nI m) (nI d) (nI 0) := by
      unfold mX8_train
      rw [hv_let_e, show (9999 : Int64) = (nI 9999).toInt64 from rfl, show (1 : Int64) = (1 : Int32).toInt64 from rfl, (r8_inR 9999 (nI d)).1 hv, hv_b2_e, if_neg (by decide)]
      exact r8_trainM m1 m4 e1 e2 d2
    by_cases hz : fNz m d
    · have nm : ¬ nI m = (-1 : Int32) := fun e => nI_pos (n := m) (by omega) (by rw [e]; decide)
      refine ⟨nI m, hv_sI (hv_wI σX 24 (fWd (σX.1 24) m d)) 22 1 (nI m), hv_sI (hv_wI (hv_sI σM 0 0 0) 10 (fWd ((hv_sI σM 0 0 0).1 10) m d)) 0 15 (nI m), fU (fun k => if k = 10 then fWd (F 10) m d else F k) 0 15 (nI m), m, ?_, ?_, ?_, ?_, ?_⟩
      · unfold mX7_train mX6_takeWeights
        rw [show mX6_digitsWithoutZero n σX (nI d) = some (nI (0 + m), σX) from cX.1 hz (by omega), hv_b2_e, Nat.zero_add, if_neg nm, hv_let_e, x6_take m d n σX m4 (by omega) (by omega)]
        rfl
      · rw [pM, cM.1 hz, r8_take m d n _ m4 (by omega) (by omega)]
      · obtain ⟨g1, g2, g3, g4, g5, g6, g7, g8, g9, g10, g11, g12⟩ := hi
        refine ⟨⟨by simp [fU, upd, g1.1], g1.2⟩, ⟨by simp [fU, upd, g2.1], g2.2⟩, ⟨by simp [fU, upd, g3.1], g3.2⟩, ⟨by simp [fU, upd, g4.1], g4.2⟩, ⟨by simp [fU, upd], m4⟩, fun p hp' => by simpa [fU, upd] using g6 p hp', fun b hb => by simpa [fU, upd] using g7 b hb, fun s hs => by simpa [fU, upd] using g8 s hs, fun p hp' => by simpa [fU, upd] using g9 p hp', fun i hi' => by simpa [fU, upd] using g10 i hi', fun i j hi' hj => by simpa [fU, upd] using g11 i j hi' hj, fun i hi' => ?_⟩
        have q := fWd_lo m d (F 10) i hz hi'
        simpa [fU, upd] using q
      · obtain ⟨⟨k1, k2, k3, k4, k5⟩, k6, k7, k8, k9, k10, k11⟩ := hx
        refine ⟨⟨by simp [hv_sI, hv_wI, fU, upd, k1], by simp [hv_sI, hv_wI, fU, upd, k2], by simp [hv_sI, hv_wI, fU, upd, k3], by simp [hv_sI, hv_wI, fU, upd, k4], by simp [hv_sI, hv_wI, fU, upd]⟩, fun p hp' => by simpa [hv_sI, hv_wI, fU, upd] using k6 p hp', fun s hs => by simpa [hv_sI, hv_wI, fU, upd] using k7 s hs, fun p w hp' hw => by simpa [hv_sI, hv_wI, fU, upd] using k8 p w hp' hw, fun b hb => by simpa [hv_sI, hv_wI, fU, upd] using k9 b hb, fun i hi' => by simpa [hv_sI, hv_wI, fU, upd] using k10 i hi', fun i hi' => ?_⟩
        rw [hv_sI_ne _ _ _ (by decide), hv_wI_at, fU_ne _ _ _ (by decide)]
        exact fWd_eq m d _ _ 4 k11 i hi'
      · refine rM_up (F := fun k => if k = 10 then fWd (F 10) m d else F k) ?_ (k := 0) (by decide) 15 _
        obtain ⟨h1, h2⟩ := hm0
        refine ⟨h1, fun k k1 k2 => ?_⟩
        show (if k = 10 then fWd ((hv_sI σM 0 0 0).1 10) m d else (hv_sI σM 0 0 0).1 k) = if k = 10 then fWd (F 10) m d else F k
        rw [h2 10 (by decide) (by decide), h2 k k1 k2]
    · refine ⟨-1, σX, hv_sI σM 0 0 0, F, W, ?_, ?_, hi, hx, hm0⟩
      · unfold mX7_train mX6_takeWeights
        rw [show mX6_digitsWithoutZero n σX (nI d) = some (-1, σX) from cX.2 hz, hv_b2_e, if_pos rfl]
        rfl
      · rw [pM, cM.2 hz]
  · refine ⟨-1, σX, hv_sI σM 0 0 0, F, W, ?_, ?_, hi, hx, hm0⟩
    · have e : mX6_digitsWithoutZero n σX v = some (-1, σX) := by
        by_cases h0 : v ≤ 0
        · obtain ⟨k, rfl⟩ : ∃ k, n = k + 1 := ⟨n - 1, by omega⟩
          show kX6_digitsWithoutZero_6_b (k + 1) (kX6_digitsWithoutZero_6 (k + 1) k) σX v 0 0 = _
          unfold kX6_digitsWithoutZero_6_b kX6_digitsWithoutZero_38 kX6_digitsWithoutZero_50
          rw [if_neg (by decide), if_pos h0]
          by_cases e : v = 0
          · rw [if_pos e]
            rfl
          · rw [if_neg e]
        · have h1 : ¬ v < 0 := fun q => h0 (Int32.le_of_lt q)
          obtain ⟨d, hd, rfl⟩ := nI_of h1
          have hd0 : d ≠ 0 := fun q => h0 (by rw [q]; decide)
          refine x6_dzBig 4 0 0 d n rfl ?_ hd (by omega)
          refine Nat.le_of_not_lt fun q => hv ⟨nI_le (a := 1) (by omega) hd, nI_le (b := 9999) (by omega) (by decide)⟩
      unfold mX7_train mX6_takeWeights
      rw [e, hv_b2_e, if_pos rfl]
      rfl
    · unfold mX8_train
      rw [hv_let_e, show (9999 : Int64) = (nI 9999).toInt64 from rfl, show (1 : Int64) = (1 : Int32).toInt64 from rfl, (r8_inR 9999 v).2 hv, hv_b2_e, if_pos rfl]
end
section
/-! sets of bars as numbers; what a bar brings; frames of states -/
theorem sh_fin : ∀ k : Fin 31, ((nI k.val &&& 31).toBitVec.smod 32).toNat = k.val := by decide +kernel
theorem nI_shr {s k : Nat} (hs : s < 2 ^ 31) (hk : k < 31) : nI s >>> (nI k &&& 31) = nI (s / 2 ^ k) := pk_shrN hs _ k (sh_fin ⟨k, hk⟩)
theorem nI_bit {s k : Nat} (hs : s < 2 ^ 31) (hk : k < 31) : (nI s >>> (nI k &&& 31)) &&& 1 = nI (if s.testBit k = true then 1 else 0) := by
  rw [nI_shr hs hk, show (1 : Int32) = nI 1 from rfl, nI_and, Nat.and_one_is_mod, Nat.testBit_eq_decide_div_mod_eq]
  by_cases h : s / 2 ^ k % 2 = 1
  · rw [h]
    rfl
  · rw [if_neg (by simpa using h), show s / 2 ^ k % 2 = 0 by omega]
theorem fB_iff {s k : Nat} (hs : s < 2 ^ 31) (hk : k < 31) : fB (nI s) (nI k) ↔ s.testBit k = true := by
  unfold fB
  rw [nI_bit hs hk]
  by_cases h : s.testBit k = true
  · rw [if_pos h]
    exact ⟨fun _ => h, fun _ => rfl⟩
  · rw [if_neg h]
    exact ⟨fun q => absurd q (by decide), fun q => absurd q h⟩
def pcK (s k : Nat) : Nat := ((List.range k).filter (fun j => s.testBit j)).length
def pc (s : Nat) : Nat := pcK s 12
theorem pcK_succ (s k : Nat) : pcK s (k + 1) = pcK s k + if s.testBit k = true then 1 else 0 := by
  unfold pcK
  rw [List.range_succ, List.filter_append, List.length_append]
  by_cases h : s.testBit k = true
  · rw [if_pos h, List.filter_cons_of_pos h]
    rfl
  · rw [if_neg h, List.filter_cons_of_neg h]
    rfl
theorem pcK_le (s : Nat) : ∀ k, pcK s k ≤ k
  | 0 => Nat.le_refl _
  | k + 1 => by
    have := pcK_le s k
    rw [pcK_succ]
    by_cases h : s.testBit k = true
    · rw [if_pos h]; omega
    · rw [if_neg h]; omega
def bcF (p0 : Int32) : Int32 :=
  let y0 := p0 - ((p0.toUInt32 >>> ((1 : Int32).toUInt32 &&& Int32.toUInt32 31)).toInt32 &&& 1431655765)
  let y1 := (y0 &&& 858993459) + ((y0.toUInt32 >>> ((2 : Int32).toUInt32 &&& Int32.toUInt32 31)).toInt32 &&& 858993459)
  let y2 := (y1 + (y1.toUInt32 >>> ((4 : Int32).toUInt32 &&& Int32.toUInt32 31)).toInt32) &&& 252645135
  let y3 := y2 + (y2.toUInt32 >>> ((8 : Int32).toUInt32 &&& Int32.toUInt32 31)).toInt32
  let y4 := y3 + (y3.toUInt32 >>> ((16 : Int32).toUInt32 &&& Int32.toUInt32 31)).toInt32
  y4 &&& 63
theorem bc_fin : ∀ s : Fin 2048, bcF (nI s.val) = nI (pc s.val) := by decide +kernel
theorem x_bitCount {n : Nat} {σ : hv_St} {s : Nat} (h : s < 2048) : mJ6_bitCount_0f7a4 n σ (nI s) = some (nI (pc s), σ) := by
  rw [← bc_fin ⟨s, h⟩]
  rfl
theorem r8_bits_loop {n : Nat} {σ : hv_St} {s : Nat} (hs : s < 2 ^ 31) : ∀ (d k fuel : Nat), k + d = 12 → d < fuel → kX8_bits_4 n fuel σ (nI s) (nI (pcK s k)) (nI k) = some (nI (pc s), σ) := by
  intro d
  induction d with
  | zero =>
    intro k fuel hk hf
    obtain ⟨fuel, rfl⟩ : ∃ q, fuel = q + 1 := ⟨fuel - 1, by omega⟩
    obtain rfl : k = 12 := by omega
    rfl
  | succ d ih =>
    intro k fuel hk hf
    obtain ⟨fuel, rfl⟩ : ∃ q, fuel = q + 1 := ⟨fuel - 1, by omega⟩
    show kX8_bits_4_b n _ _ _ _ _ = _
    unfold kX8_bits_4_b
    rw [if_neg (show ¬ (12 : Int32) ≤ nI k from nI_ge (b := 12) (by omega) (by decide)), hv_let_e, nI_bit hs (by omega), nI_add, nI_1, ← pcK_succ]
    exact ih (k + 1) fuel (by omega) (by omega)
theorem r8_bits {n : Nat} (hn : 12 < n) {σ : hv_St} {s : Nat} (hs : s < 2 ^ 31) : mX8_bits n σ (nI s) = some (nI (pc s), σ) := r8_bits_loop hs 12 0 n rfl hn
/-! frames -/
def fr (A B : Nat → Prop) (σ τ : hv_St) : Prop := (∀ k, ¬ A k → τ.1 k = σ.1 k) ∧ ∀ k, ¬ B k → τ.2 k = σ.2 k
theorem fr_rfl {A B : Nat → Prop} {σ : hv_St} : fr A B σ σ := ⟨fun _ _ => rfl, fun _ _ => rfl⟩
theorem fr_tr {A B : Nat → Prop} {σ τ υ : hv_St} (h : fr A B σ τ) (q : fr A B τ υ) : fr A B σ υ := ⟨fun k hk => (q.1 k hk).trans (h.1 k hk), fun k hk => (q.2 k hk).trans (h.2 k hk)⟩
theorem fr_mono {A B A' B' : Nat → Prop} {σ τ : hv_St} (h : fr A B σ τ) (a : ∀ k, A k → A' k) (b : ∀ k, B k → B' k) : fr A' B' σ τ := ⟨fun k hk => h.1 k (fun q => hk (a k q)), fun k hk => h.2 k (fun q => hk (b k q))⟩
theorem fr_I {A B : Nat → Prop} {σ : hv_St} {c : Nat} (h : A c) (k : Nat) (v : Int32) : fr A B σ (hv_sI σ c k v) := ⟨fun j hj => hv_sI_ne _ _ _ (fun e => hj (e ▸ h)), fun _ _ => rfl⟩
theorem fr_J {A B : Nat → Prop} {σ : hv_St} {c : Nat} (h : B c) (k : Nat) (v : Int64) : fr A B σ (hv_sJ σ c k v) := ⟨fun _ _ => rfl, fun j hj => hv_sJ_ne _ _ _ (fun e => hj (e ▸ h))⟩
theorem fr_wJ {A B : Nat → Prop} {σ : hv_St} {c : Nat} (h : B c) (f : Nat → Int64) : fr A B σ (hv_wJ σ c f) := ⟨fun _ _ => rfl, fun j hj => hv_wJ_ne _ _ (fun e => hj (e ▸ h))⟩
theorem fr_wI {A B : Nat → Prop} {σ : hv_St} {c : Nat} (h : A c) (f : Nat → Int32) : fr A B σ (hv_wI σ c f) := ⟨fun j hj => hv_wI_ne _ _ (fun e => hj (e ▸ h)), fun _ _ => rfl⟩
theorem fr_I' {A B : Nat → Prop} {σ τ : hv_St} (q : fr A B σ τ) {c : Nat} (h : A c) (k : Nat) (v : Int32) : fr A B σ (hv_sI τ c k v) := fr_tr q (fr_I h k v)
theorem fr_J' {A B : Nat → Prop} {σ τ : hv_St} (q : fr A B σ τ) {c : Nat} (h : B c) (k : Nat) (v : Int64) : fr A B σ (hv_sJ τ c k v) := fr_tr q (fr_J h k v)
theorem hv_sJ_rd (σ : hv_St) (k i j : Nat) (v : Int64) : (hv_sJ σ k i v).2 k j = if j = i then v else σ.2 k j := by
  rw [hv_sJ_at]
  rfl
theorem rX_fr {F : Nat → Nat → Int32} {A B : Nat → Prop} {σ τ : hv_St} (h : rX F σ) (q : fr A B σ τ) (hA : ∀ k, A k → (9 ≤ k ∧ k ≤ 21) ∨ 25 ≤ k) : rX F τ := rX_1 h (fun k hk => q.1 k (fun a => by have := hA k a; omega))
theorem rM_fr {F : Nat → Nat → Int32} {A B : Nat → Prop} {σ τ : hv_St} (h : rM F σ) (q : fr A B σ τ) (hA : ∀ k, A k → 11 ≤ k) : rM F τ := by
  have e : ∀ k, k ≤ 10 → τ.1 k = σ.1 k := fun k hk => q.1 k (fun a => by have := hA k a; omega)
  obtain ⟨h1, h2⟩ := h
  refine ⟨?_, fun k k1 k2 => (e k k2).trans (h2 k k1 k2)⟩
  rw [e 0 (by decide)]
  exact h1
/-! the frame's numbers -/
def fX (F : Nat → Nat → Int32) (p w : Nat) : Int := if w = 0 then (F 1 p).toInt else (F 2 p).toInt
def fA (F : Nat → Nat → Int32) (b : Nat) : Nat := (F 5 b).toNatClampNeg
def fC (F : Nat → Nat → Int32) (b : Nat) : Nat := (F 6 b).toNatClampNeg
def fBr (F : Nat → Nat → Int32) (b p w : Nat) : Int := if fA F b = p then fX F (fC F b) w - fX F (fA F b) w else if fC F b = p then -(fX F (fC F b) w - fX F (fA F b) w) else 0
theorem fN_e {N : Nat} (hN : N < 2 ^ 31) {v : Int32} (h : fN N v) : v = nI v.toNatClampNeg ∧ v.toNatClampNeg < N := by
  obtain ⟨k, hk, rfl⟩ := h
  rw [nI_clamp (by omega)]
  exact ⟨rfl, hk⟩
theorem hI_ends {F : Nat → Nat → Int32} {P B O D W : Nat} (h : hI F P B O D W) {b : Nat} (hb : b < B) : F 5 b = nI (fA F b) ∧ fA F b < P ∧ F 6 b = nI (fC F b) ∧ fC F b < P := by
  have h1 := h.1.2
  have q := h.2.2.2.2.2.2.1 b hb
  have q1 := fN_e (by omega) q.1
  have q2 := fN_e (by omega) q.2.1
  exact ⟨q1.1, q1.2, q2.1, q2.2⟩
theorem fX_0 (F : Nat → Nat → Int32) (p : Nat) : F 1 p = iI (fX F p 0) := iI_of _
theorem fX_1 (F : Nat → Nat → Int32) (p : Nat) : F 2 p = iI (fX F p 1) := iI_of _
theorem fX_le {F : Nat → Nat → Int32} {P B O D W : Nat} (h : hI F P B O D W) {p : Nat} (hp : p < P) (w : Nat) : 0 ≤ fX F p w ∧ (fX F p w ≤ if w = 0 then 3 else 2) := by
  obtain ⟨⟨a, a1, a2⟩, ⟨c, c1, c2⟩⟩ := h.2.2.2.2.2.1 p hp
  unfold fX
  by_cases e : w = 0
  · rw [if_pos e, if_pos e, a2, nI_toInt (by omega)]
    omega
  · rw [if_neg e, if_neg e, c2, nI_toInt (by omega)]
    omega
theorem hR_spot {F : Nat → Nat → Int32} {σ : hv_St} (h : rX F σ) {p w : Nat} (hp : p < 6) (hw : w < 2) : σ.1 2 (2 * p + w) = iI (fX F p w) := by
  have q := h.2.1 p hp
  rcases (show w = 0 ∨ w = 1 by omega) with rfl | rfl
  · exact q.1.trans (fX_0 F p)
  · exact q.2.trans (fX_1 F p)
theorem x3_brings {n : Nat} {F : Nat → Nat → Int32} {P B O D W : Nat} {σ : hv_St} (hi : hI F P B O D W) (hx : rX F σ) {b p w : Nat} (hb : b < B) (hp : p < 6) (hw : w < 2) : mX3_brings n σ (nI b) (nI (2 * p + w)) = some (iI (fBr F b p w), σ) := by
  have hB := hi.2.1.2
  have hP := hi.1.2
  obtain ⟨e1, e2, e3, e4⟩ := hI_ends hi hb
  have q := hx.2.2.2.2.1 b (by omega)
  unfold mX3_brings
  have d1 : nI (2 * p + w) / (2 : Int32) = nI p := by
    rw [show (2 : Int32) = nI 2 from rfl, pk_div (by omega) (by decide) (by decide), show (2 * p + w) / 2 = p by omega]
  have d2 : nI (2 * p + w) - nI p * (2 : Int32) = nI w := by
    rw [show (2 : Int32) = nI 2 from rfl, pk_mul, pk_sub (by omega), show 2 * p + w - p * 2 = w by omega]
  rw [hv_let_e, hv_let_e, d1, d2, hv_if_t (hv_ok_nI (show b < 11 by omega) (by decide)), nI_clamp (show b < 2 ^ 31 by omega), q.1, q.2.1, e1, e3, nI_2, nI_2, nI_add, nI_add, hv_if_t (hv_ok_nI (show 2 * fC F b + w < 12 by omega) (by decide)), hv_if_t (hv_ok_nI (show b < 11 by omega) (by decide)), hv_if_t (hv_ok_nI (show 2 * fA F b + w < 12 by omega) (by decide)), nI_clamp (by omega), nI_clamp (by omega), hR_spot hx (by omega) hw, hR_spot hx (by omega) hw, hv_let_e, iI_sub, hv_if_t (hv_ok_nI (show b < 11 by omega) (by decide)), hv_if_t (hv_ok_nI (show b < 11 by omega) (by decide))]
  unfold fBr
  by_cases c1 : fA F b = p
  · rw [if_pos ((nI_eq (by omega) (by omega)).mpr c1), if_pos c1]
  · rw [if_neg (fun e => c1 ((nI_eq (by omega) (by omega)).mp e)), if_neg c1]
    by_cases c2 : fC F b = p
    · rw [if_pos ((nI_eq (by omega) (by omega)).mpr c2), if_pos c2, iI_neg]
    · rw [if_neg (fun e => c2 ((nI_eq (by omega) (by omega)).mp e)), if_neg c2]
      rfl
theorem r8_brings {n : Nat} {F : Nat → Nat → Int32} {P B O D W : Nat} {σ : hv_St} (hi : hI F P B O D W) (hm : rM F σ) {b p w : Nat} (hb : b < B) (hp : p < 6) (hw : w < 2) : mX8_brings n σ (nI b) (nI p) (nI w) = some (iI (fBr F b p w), σ) := by
  have hB := hi.2.1.2
  have hP := hi.1.2
  obtain ⟨e1, e2, e3, e4⟩ := hI_ends hi hb
  unfold mX8_brings
  rw [hv_if_t (hv_ok_nI (show b < 11 by omega) (by decide)), hv_let_e, nI_clamp (show b < 2 ^ 31 by omega), hm.2 5 (by decide) (by decide), hm.2 6 (by decide) (by decide), e1, e3, hv_if_t (hv_ok_nI (show b < 11 by omega) (by decide)), hv_let_e]
  have e67 : kX8_brings_30 n σ (nI p) (nI w) (nI (fA F b)) (nI (fC F b)) = if fA F b = p then some (iI (fX F (fC F b) w - fX F (fA F b) w), σ) else some (iI (-(fX F (fC F b) w - fX F (fA F b) w)), σ) := by
    unfold kX8_brings_30 kX8_brings_67
    simp only [hv_if_t (hv_ok_nI (show fC F b < 6 by omega) (by decide)), hv_if_t (hv_ok_nI (show fA F b < 6 by omega) (by decide)), nI_clamp (show fC F b < 2 ^ 31 by omega), nI_clamp (show fA F b < 2 ^ 31 by omega), hm.2 1 (by decide) (by decide), hm.2 2 (by decide) (by decide), nI_eq (show p < 2 ^ 31 by omega) (show fA F b < 2 ^ 31 by omega)]
    rcases (show w = 0 ∨ w = 1 by omega) with rfl | rfl
    · rw [if_pos (show nI 0 = 0 from rfl), fX_0 F (fC F b), fX_0 F (fA F b), iI_sub, iI_neg]
      by_cases c : fA F b = p
      · rw [if_pos c.symm, if_pos c]
      · rw [if_neg (fun e => c e.symm), if_neg c]
    · rw [if_neg (show ¬ nI 1 = 0 by decide), fX_1 F (fC F b), fX_1 F (fA F b), iI_sub, iI_neg]
      by_cases c : fA F b = p
      · rw [if_pos c.symm, if_pos c]
      · rw [if_neg (fun e => c e.symm), if_neg c]
  rw [e67]
  unfold fBr
  by_cases c1 : fA F b = p
  · rw [if_pos ((nI_eq (by omega) (by omega)).mpr c1.symm), if_pos c1, if_pos c1]
  · rw [if_neg (fun e => c1 ((nI_eq (by omega) (by omega)).mp e).symm), if_neg c1, if_neg c1]
    by_cases c2 : fC F b = p
    · rw [if_pos ((nI_eq (by omega) (by omega)).mpr c2.symm), if_pos c2]
    · rw [if_neg (fun e => c2 ((nI_eq (by omega) (by omega)).mp e).symm), if_neg c2]
      rfl
theorem fBr_le {F : Nat → Nat → Int32} {P B O D W : Nat} (h : hI F P B O D W) {b : Nat} (hb : b < B) (p w : Nat) : -3 ≤ fBr F b p w ∧ fBr F b p w ≤ 3 := by
  obtain ⟨e1, e2, e3, e4⟩ := hI_ends h hb
  have q1 := fX_le h e2 w
  have q2 := fX_le h e4 w
  have q3 : (if w = 0 then (3 : Int) else 2) ≤ 3 := by by_cases e : w = 0 <;> simp [e]
  unfold fBr
  by_cases c1 : fA F b = p
  · rw [if_pos c1]; omega
  · rw [if_neg c1]
    by_cases c2 : fC F b = p
    · rw [if_pos c2]; omega
    · rw [if_neg c2]; omega
end
section
/-! free directions; the columns; both sides lay them -/
def fFree (F : Nat → Nat → Int32) (s : Nat) : Bool := decide ((F 3 (s / 2) >>> nI (s % 2)) &&& 1 = 0)
def fL (F : Nat → Nat → Int32) (k : Nat) : List Nat := (List.range k).filter (fFree F)
def fCol (F : Nat → Nat → Int32) (P b : Nat) : md_V := fun k => fBr F b ((fL F (2 * P)).getD k 0 / 2) ((fL F (2 * P)).getD k 0 % 2)
def fXc (F : Nat → Nat → Int32) (P B c : Nat) : md_V := if c < B then fCol F P c else md_e (c - B)
theorem fL_le (F : Nat → Nat → Int32) (k : Nat) : (fL F k).length ≤ k := by
  have := List.length_filter_le (fFree F) (List.range k)
  rw [List.length_range] at this
  exact this
theorem fL_succ (F : Nat → Nat → Int32) (k : Nat) : fL F (k + 1) = if fFree F k = true then fL F k ++ [k] else fL F k := by
  unfold fL
  rw [List.range_succ, List.filter_append]
  by_cases h : fFree F k = true
  · rw [if_pos h, List.filter_cons_of_pos h, List.filter_nil]
  · rw [if_neg h, List.filter_cons_of_neg h, List.filter_nil, List.append_nil]
theorem fL_lt {F : Nat → Nat → Int32} {k j : Nat} (h : j < (fL F k).length) : (fL F k).getD j 0 < k ∧ fFree F ((fL F k).getD j 0) = true := by
  rw [List.getD_eq_getElem?_getD, List.getElem?_eq_getElem h, Option.getD_some]
  have q := List.mem_filter.mp (List.getElem_mem h)
  exact ⟨List.mem_range.mp q.1, q.2⟩
theorem getD_app_lt {l : List Nat} {x j : Nat} (h : j < l.length) : (l ++ [x]).getD j 0 = l.getD j 0 := by
  simp [List.getD_eq_getElem?_getD, List.getElem?_append_left h]
theorem getD_app_at {l : List Nat} {x : Nat} : (l ++ [x]).getD l.length 0 = x := by
  simp [List.getD_eq_getElem?_getD]
theorem sI9_rd {σ : hv_St} {i j : Nat} {v : Int32} (h : j ≠ i) (c : Nat) : (hv_sI σ c i v).1 c j = σ.1 c j := by
  rw [hv_sI_rd, if_neg h]
theorem x0_findFree_loop {n : Nat} {F : Nat → Nat → Int32} {P : Nat} (hP : P ≤ 6) (hF : F 0 1 = nI P) : ∀ (d k fuel : Nat) (σ : hv_St), k + d = 2 * P → d < fuel → rX F σ → σ.1 9 4 = nI (fL F k).length → (∀ j, j < (fL F k).length → σ.1 11 j = nI ((fL F k).getD j 0)) → ∃ τ, kX0_findFree_7 n fuel σ (nI k) = some τ ∧ fr (fun c => c = 9 ∨ c = 11) (fun _ => False) σ τ ∧ τ.1 9 4 = nI (fL F (2 * P)).length ∧ ∀ j, j < (fL F (2 * P)).length → τ.1 11 j = nI ((fL F (2 * P)).getD j 0) := by
  intro d
  induction d with
  | zero =>
    intro k fuel σ hk hf hx h1 h2
    obtain ⟨fuel, rfl⟩ : ∃ q, fuel = q + 1 := ⟨fuel - 1, by omega⟩
    obtain rfl : k = 2 * P := by omega
    refine ⟨σ, ?_, fr_rfl, h1, h2⟩
    show kX0_findFree_7_b n _ _ _ = _
    unfold kX0_findFree_7_b
    rw [hx.1.1, hF, nI_2, if_pos (nI_le (Nat.le_refl _) (by omega))]
  | succ d ih =>
    intro k fuel σ hk hf hx h1 h2
    obtain ⟨fuel, rfl⟩ : ∃ q, fuel = q + 1 := ⟨fuel - 1, by omega⟩
    have hl := fL_le F k
    have e4 : σ.1 4 k = (F 3 (k / 2) >>> nI (k % 2)) &&& 1 := by
      have q := hx.2.2.2.1 (k / 2) (k % 2) (by omega) (by omega)
      rw [show 2 * (k / 2) + k % 2 = k by omega] at q
      exact q
    have e : kX0_findFree_7 n (fuel + 1) σ (nI k) = if fFree F k = true then kX0_findFree_7 n fuel (hv_sI (hv_sI σ 11 (fL F k).length (nI k)) 9 4 (nI ((fL F k).length + 1))) (nI (k + 1)) else kX0_findFree_7 n fuel σ (nI (k + 1)) := by
      show kX0_findFree_7_b n _ _ _ = _
      unfold kX0_findFree_7_b kX0_findFree_52
      rw [hx.1.1, hF, nI_2, if_neg (nI_ge (by omega) (by omega)), hv_if_t (hv_ok_nI (show k < 12 by omega) (by decide)), nI_clamp (by omega), nI_1, e4]
      by_cases h : (F 3 (k / 2) >>> nI (k % 2)) &&& 1 = 0
      · rw [if_pos h, if_pos (show fFree F k = true from decide_eq_true h), h1, hv_if_t (hv_ok_nI (show (fL F k).length < 12 by omega) (by decide)), nI_clamp (by omega), hv_let_e, hv_let_e, hv_sI_ne _ _ _ (by decide), h1, nI_1]
      · rw [if_neg h, if_neg (show ¬ fFree F k = true from fun q => h (of_decide_eq_true q))]
    rw [e]
    have es := fL_succ F k
    by_cases h : fFree F k = true
    · rw [if_pos h]
      rw [if_pos h] at es
      have hx2 : rX F (hv_sI (hv_sI σ 11 (fL F k).length (nI k)) 9 4 (nI ((fL F k).length + 1))) := rX_1 hx (fun q hq => by
        rw [hv_sI_ne _ _ _ (by omega), hv_sI_ne _ _ _ (by omega)])
      obtain ⟨τ, t1, t2, t3, t4⟩ := ih (k + 1) fuel _ (by omega) (by omega) hx2 (by
        rw [hv_sI_rd, if_pos rfl, es, List.length_append]
        rfl) (fun j hj => by
        rw [hv_sI_ne _ _ _ (by decide), hv_sI_rd, es]
        rw [es, List.length_append, List.length_singleton] at hj
        by_cases ej : j = (fL F k).length
        · rw [if_pos ej, ej, getD_app_at]
        · rw [if_neg ej, getD_app_lt (by omega), h2 j (by omega)])
      exact ⟨τ, t1, fr_tr (fr_I' (fr_I (Or.inr rfl) _ _) (Or.inl rfl) _ _) t2, t3, t4⟩
    · rw [if_neg h]
      rw [if_neg h] at es
      exact ih (k + 1) fuel σ (by omega) (by omega) hx (by rw [es]; exact h1) (by rw [es]; exact h2)
theorem x0_findFree {n : Nat} (hn : 12 < n) {F : Nat → Nat → Int32} {P : Nat} (hP : P ≤ 6) (hF : F 0 1 = nI P) {σ : hv_St} (hx : rX F σ) : ∃ τ, mX0_findFree n σ = some τ ∧ fr (fun c => c = 9 ∨ c = 11) (fun _ => False) σ τ ∧ τ.1 9 4 = nI (fL F (2 * P)).length ∧ ∀ j, j < (fL F (2 * P)).length → τ.1 11 j = nI ((fL F (2 * P)).getD j 0) := by
  obtain ⟨τ, t1, t2, t3, t4⟩ := x0_findFree_loop (n := n) hP hF (2 * P) 0 n (hv_sI σ 9 4 0) (by omega) (by omega) (rX_1 hx (fun q hq => by rw [hv_sI_ne _ _ _ (by omega)])) (by rw [hv_sI_rd, if_pos rfl]; rfl) (fun j hj => absurd hj (Nat.not_lt_zero _))
  exact ⟨τ, t1, fr_tr (fr_I (Or.inl rfl) _ _) t2, t3, t4⟩
/-- the reference's -/
def rFr (F : Nat → Nat → Int32) (P : Nat) (σ : hv_St) : Prop := σ.1 0 18 = nI (fL F (2 * P)).length ∧ ∀ j, j < (fL F (2 * P)).length → σ.1 11 j = nI ((fL F (2 * P)).getD j 0 / 2) ∧ σ.1 12 j = nI ((fL F (2 * P)).getD j 0 % 2)
def rFk (F : Nat → Nat → Int32) (k : Nat) (σ : hv_St) : Prop := σ.1 0 18 = nI (fL F k).length ∧ ∀ j, j < (fL F k).length → σ.1 11 j = nI ((fL F k).getD j 0 / 2) ∧ σ.1 12 j = nI ((fL F k).getD j 0 % 2)
theorem r8_free_step {n : Nat} {F : Nat → Nat → Int32} {P B O D W : Nat} (hi : hI F P B O D W) {r7 : hv_St → Int32 → Option hv_St} {p w fuel : Nat} {σ : hv_St} (hp : p < P) (hw : w < 2) (hm : rM F σ) (hk : rFk F (2 * p + w) σ) : ∃ τ, kX8_laysFree_17 n r7 (fuel + 1) σ (nI p) (nI w) = kX8_laysFree_17 n r7 fuel τ (nI p) (nI (w + 1)) ∧ rM F τ ∧ rFk F (2 * p + w + 1) τ ∧ fr (fun c => c = 0 ∨ c = 11 ∨ c = 12) (fun _ => False) σ τ ∧ ∀ i, i ≠ 18 → τ.1 0 i = σ.1 0 i := by
  have hP := hi.1.2
  have hl := fL_le F (2 * p + w)
  obtain ⟨m, hm4, em⟩ := hi.2.2.2.2.2.2.2.2.1 p (by omega)
  obtain ⟨b1, -, b3, -⟩ := bit_p hm4 hw
  have ef : fFree F (2 * p + w) = decide ((nI m >>> nI w) &&& 1 = 0) := by
    unfold fFree
    rw [show (2 * p + w) / 2 = p by omega, show (2 * p + w) % 2 = w by omega, em]
  have e : kX8_laysFree_17 n r7 (fuel + 1) σ (nI p) (nI w) = if fFree F (2 * p + w) = true then kX8_laysFree_17 n r7 fuel (hv_sI (hv_sI (hv_sI σ 11 (fL F (2 * p + w)).length (nI p)) 12 (fL F (2 * p + w)).length (nI w)) 0 18 (nI ((fL F (2 * p + w)).length + 1))) (nI p) (nI (w + 1)) else kX8_laysFree_17 n r7 fuel σ (nI p) (nI (w + 1)) := by
    show kX8_laysFree_17_b n r7 _ _ _ _ = _
    unfold kX8_laysFree_17_b kX8_laysFree_65
    rw [if_neg (show ¬ (2 : Int32) ≤ nI w from nI_ge (b := 2) (by omega) (by decide)), hv_if_t (hv_ok_nI (show p < 6 by omega) (by decide)), nI_clamp (by omega), hm.2 3 (by decide) (by decide), em, nI_1, ef]
    rw [b3] at b1
    rcases b1 with q | q
    · rw [(r8_isOn (nI m) (nI w)).2 (fun h => by unfold fB at h; rw [b3, q] at h; exact absurd h (by decide)), hv_b2_e, if_pos rfl, if_pos (decide_eq_true q), hk.1, hv_if_t (hv_ok_nI (show (fL F (2 * p + w)).length < 12 by omega) (by decide)), nI_clamp (by omega), hv_let_e, hv_sI_ne _ _ _ (by decide), hk.1, hv_if_t (hv_ok_nI (show (fL F (2 * p + w)).length < 12 by omega) (by decide)), nI_clamp (by omega), hv_let_e, hv_let_e, hv_sI_ne _ _ _ (by decide), hv_sI_ne _ _ _ (by decide), hk.1, nI_1]
    · rw [(r8_isOn (nI m) (nI w)).1 (by unfold fB; rw [b3, q]), hv_b2_e, if_neg (by decide), if_neg (by rw [q]; decide)]
  rw [e]
  have es := fL_succ F (2 * p + w)
  by_cases h : fFree F (2 * p + w) = true
  · rw [if_pos h]
    rw [if_pos h] at es
    refine ⟨_, rfl, rM_sc (rM_sI (rM_sI hm (by decide) _ _) (by decide) _ _) (by decide) _, ⟨?_, fun j hj => ?_⟩, fr_I' (fr_I' (fr_I (Or.inr (Or.inl rfl)) _ _) (Or.inr (Or.inr rfl)) _ _) (Or.inl rfl) _ _, fun i hi' => ?_⟩
    · rw [hv_sI_rd, if_pos rfl, es, List.length_append]
      rfl
    · rw [es, List.length_append, List.length_singleton] at hj
      rw [hv_sI_ne _ _ _ (by decide), hv_sI_ne _ _ _ (by decide), hv_sI_rd, hv_sI_ne _ _ _ (by decide), hv_sI_rd, es]
      by_cases ej : j = (fL F (2 * p + w)).length
      · rw [if_pos ej, if_pos ej, ej, getD_app_at, show (2 * p + w) / 2 = p by omega, show (2 * p + w) % 2 = w by omega]
        exact ⟨rfl, rfl⟩
      · rw [if_neg ej, if_neg ej, getD_app_lt (by omega)]
        exact hk.2 j (by omega)
    · rw [hv_sI_rd, if_neg hi', hv_sI_ne _ _ _ (by decide), hv_sI_ne _ _ _ (by decide)]
  · rw [if_neg h]
    rw [if_neg h] at es
    refine ⟨σ, rfl, hm, ?_, fr_rfl, fun _ _ => rfl⟩
    unfold rFk
    rw [es]
    exact hk
theorem r8_free_loop {n : Nat} (hn : 12 < n) {F : Nat → Nat → Int32} {P B O D W : Nat} (hi : hI F P B O D W) : ∀ (d p fuel : Nat) (σ : hv_St), p + d = P → d < fuel → rM F σ → rFk F (2 * p) σ → ∃ τ, kX8_laysFree_7 n fuel σ (nI p) = some τ ∧ rM F τ ∧ rFr F P τ ∧ fr (fun c => c = 0 ∨ c = 11 ∨ c = 12) (fun _ => False) σ τ ∧ ∀ i, i ≠ 18 → τ.1 0 i = σ.1 0 i := by
  have hP := hi.1.2
  intro d
  induction d with
  | zero =>
    intro p fuel σ hp hf hm hk
    obtain ⟨fuel, rfl⟩ : ∃ q, fuel = q + 1 := ⟨fuel - 1, by omega⟩
    obtain rfl : p = P := by omega
    refine ⟨σ, ?_, hm, hk, fr_rfl, fun _ _ => rfl⟩
    show kX8_laysFree_7_b n _ _ _ = _
    unfold kX8_laysFree_7_b
    rw [hm.1.1, hi.1.1, if_pos (nI_le (Nat.le_refl _) (by omega))]
  | succ d ih =>
    intro p fuel σ hp hf hm hk
    obtain ⟨fuel, rfl⟩ : ∃ q, fuel = q + 1 := ⟨fuel - 1, by omega⟩
    obtain ⟨n', rfl⟩ : ∃ q, n = q + 3 := ⟨n - 3, by omega⟩
    obtain ⟨τ1, a1, a2, a3, a4, a5⟩ := r8_free_step (n := n' + 3) (r7 := kX8_laysFree_7 (n' + 3) fuel) (fuel := n' + 2) hi (show p < P by omega) (show 0 < 2 by omega) hm hk
    obtain ⟨τ2, b1, b2, b3, b4, b5⟩ := r8_free_step (n := n' + 3) (r7 := kX8_laysFree_7 (n' + 3) fuel) (fuel := n' + 1) hi (show p < P by omega) (show 1 < 2 by omega) a2 a3
    obtain ⟨τ, c1, c2, c3, c4, c5⟩ := ih (p + 1) fuel τ2 (by omega) (by omega) b2 (by rw [show 2 * (p + 1) = 2 * p + 1 + 1 by omega]; exact b3)
    refine ⟨τ, ?_, c2, c3, fr_tr (fr_tr a4 b4) c4, fun i hi' => (c5 i hi').trans ((b5 i hi').trans (a5 i hi'))⟩
    show kX8_laysFree_7_b (n' + 3) _ _ _ = _
    unfold kX8_laysFree_7_b
    rw [hm.1.1, hi.1.1, if_neg (nI_ge (by omega) (by omega))]
    show kX8_laysFree_17 (n' + 3) (kX8_laysFree_7 (n' + 3) fuel) (n' + 2 + 1) σ (nI p) (nI 0) = _
    rw [a1]
    show kX8_laysFree_17 (n' + 3) (kX8_laysFree_7 (n' + 3) fuel) (n' + 1 + 1) τ1 (nI p) (nI 1) = _
    rw [b1]
    show kX8_laysFree_17_b (n' + 3) _ _ _ _ _ = _
    unfold kX8_laysFree_17_b
    rw [if_pos (show (2 : Int32) ≤ nI (1 + 1) by decide), nI_1]
    exact c1
theorem r8_laysFree {n : Nat} (hn : 12 < n) {F : Nat → Nat → Int32} {P B O D W : Nat} (hi : hI F P B O D W) {σ : hv_St} (hm : rM F σ) : ∃ τ, mX8_laysFree n σ = some τ ∧ rM F τ ∧ rFr F P τ ∧ fr (fun c => c = 0 ∨ c = 11 ∨ c = 12) (fun _ => False) σ τ ∧ ∀ i, i ≠ 18 → τ.1 0 i = σ.1 0 i := by
  have hP := hi.1.2
  obtain ⟨τ, a1, a2, a3, a4, a5⟩ := r8_free_loop hn hi P 0 n (hv_sI σ 0 18 0) (by omega) (by omega) (rM_sc hm (by decide) 0) ⟨by rw [hv_sI_rd, if_pos rfl]; rfl, fun j hj => absurd hj (Nat.not_lt_zero _)⟩
  exact ⟨τ, a1, a2, a3, fr_tr (fr_I (Or.inl rfl) _ _) a4, fun i hi' => (a5 i hi').trans (by rw [hv_sI_rd, if_neg hi'])⟩
end
section
/-! the class's rows: laid, swapped, cleared -/
theorem x0_layRow_44 {n : Nat} {σ : hv_St} {B N r : Nat} (hb : σ.1 1 1 = nI B) (hN : σ.1 9 4 = nI N) (hBN : B ≤ 11 ∧ N ≤ 12) (hr : r < N) : ∀ (d k fuel : Nat) (g : Nat → Int64), k + d = N → d < fuel → ∃ g', kX0_layRow_44 n fuel (hv_wJ σ (27 + r) g) (nI r) (nI k) = some (hv_wJ σ (27 + r) g') ∧ ∀ c, c < B + N → g' c = if c < B + k then g c else if c = B + r then 1 else 0 := by
  intro d
  induction d with
  | zero =>
    intro k fuel g hk hf
    obtain ⟨fuel, rfl⟩ : ∃ q, fuel = q + 1 := ⟨fuel - 1, by omega⟩
    refine ⟨g, ?_, fun c hc => by rw [if_pos (by omega)]⟩
    show kX0_layRow_44_b n _ _ _ _ = _
    unfold kX0_layRow_44_b
    rw [hv_wJ_1, hN, if_pos (nI_le (by omega) (by omega))]
  | succ d ih =>
    intro k fuel g hk hf
    obtain ⟨fuel, rfl⟩ : ∃ q, fuel = q + 1 := ⟨fuel - 1, by omega⟩
    obtain ⟨g', g1, g2⟩ := ih (k + 1) fuel (vp_updL g (B + k) (if k = r then 1 else 0)) (by omega) (by omega)
    refine ⟨g', ?_, fun c hc => ?_⟩
    · show kX0_layRow_44_b n _ _ _ _ = _
      unfold kX0_layRow_44_b kX0_layRow_77
      rw [hv_wJ_1, hN, if_neg (nI_ge (by omega) (by omega)), hb]
      simp only [hv_if_t (hv_ok_nI (show r < 12 by omega) (by decide)), nI_add, hv_if_t (hv_ok_nI (show B + k < 23 by omega) (by decide)), nI_clamp (show r < 2 ^ 31 by omega), nI_clamp (show B + k < 2 ^ 31 by omega), hv_let_e, nI_1, hv_sJ_wJ]
      by_cases e : k = r
      · rw [if_pos ((nI_eq (by omega) (by omega)).mpr e)]
        rw [if_pos e] at g1
        exact g1
      · rw [if_neg (fun q => e ((nI_eq (by omega) (by omega)).mp q))]
        rw [if_neg e] at g1
        exact g1
    · rw [g2 c hc]
      by_cases h1 : c < B + k
      · rw [if_pos (by omega), if_pos h1, pk_uLn (by omega)]
      · rw [if_neg h1]
        by_cases h2 : c = B + k
        · rw [if_pos (by omega), h2, pk_uLs]
          by_cases e : k = r
          · rw [if_pos e, if_pos (by omega)]
          · rw [if_neg e, if_neg (by omega)]
        · rw [if_neg (by omega)]
theorem fXc_ent {F : Nat → Nat → Int32} {P B r c : Nat} (h : B ≤ c) : fXc F P B c r = if c = B + r then 1 else 0 := by
  unfold fXc md_e
  rw [if_neg (by omega)]
  by_cases e : c = B + r
  · rw [if_pos e, if_pos (by omega)]
  · rw [if_neg e, if_neg (by omega)]
theorem x0_layRow {n : Nat} (hn : 12 < n) {F : Nat → Nat → Int32} {P B O D W : Nat} {σ : hv_St} (hi : hI F P B O D W) (hx : rX F σ) {r : Nat} (hN : σ.1 9 4 = nI (fL F (2 * P)).length) (hr : r < (fL F (2 * P)).length) (hs : σ.1 11 r = nI ((fL F (2 * P)).getD r 0)) : ∀ (d k fuel : Nat) (g : Nat → Int64), k + d = B → d < fuel → (∀ c, c < k → g c = iL (fXc F P B c r)) → ∃ g', kX0_layRow_2 n fuel (hv_wJ σ (27 + r) g) (nI r) (nI k) = some (hv_wJ σ (27 + r) g') ∧ ∀ c, c < B + (fL F (2 * P)).length → g' c = iL (fXc F P B c r) := by
  have hP := hi.1.2
  have hB := hi.2.1.2
  have hl := fL_le F (2 * P)
  have hb : σ.1 1 1 = nI B := hx.1.2.1.trans hi.2.1.1
  have hsl := (fL_lt hr).1
  intro d
  induction d with
  | zero =>
    intro k fuel g hk hf hg
    obtain ⟨fuel, rfl⟩ : ∃ q, fuel = q + 1 := ⟨fuel - 1, by omega⟩
    obtain ⟨g', g1, g2⟩ := x0_layRow_44 (n := n) (r := r) hb hN (by omega) hr (fL F (2 * P)).length 0 n g (by omega) (by omega)
    refine ⟨g', ?_, fun c hc => ?_⟩
    · show kX0_layRow_2_b n _ _ _ _ = _
      unfold kX0_layRow_2_b
      rw [hv_wJ_1, hb, if_pos (nI_le (by omega) (by omega))]
      exact g1
    · rw [g2 c hc]
      by_cases h1 : c < B
      · rw [if_pos (by omega)]
        exact hg c (by omega)
      · rw [if_neg (by omega), fXc_ent (by omega)]
        by_cases e : c = B + r
        · rw [if_pos e, if_pos e]; rfl
        · rw [if_neg e, if_neg e]; rfl
  | succ d ih =>
    intro k fuel g hk hf hg
    obtain ⟨fuel, rfl⟩ : ∃ q, fuel = q + 1 := ⟨fuel - 1, by omega⟩
    have hv : fXc F P B k r = fBr F k ((fL F (2 * P)).getD r 0 / 2) ((fL F (2 * P)).getD r 0 % 2) := by
      unfold fXc fCol
      rw [if_pos (by omega)]
    have hbr := fBr_le hi (show k < B by omega) ((fL F (2 * P)).getD r 0 / 2) ((fL F (2 * P)).getD r 0 % 2)
    obtain ⟨g', g1, g2⟩ := ih (k + 1) fuel (vp_updL g k (iL (fXc F P B k r))) (by omega) (by omega) (fun c hc => by
      by_cases e : c = k
      · rw [e, pk_uLs]
      · rw [pk_uLn e]
        exact hg c (by omega))
    refine ⟨g', ?_, g2⟩
    show kX0_layRow_2_b n _ _ _ _ = _
    unfold kX0_layRow_2_b
    have hx2 : rX F (hv_wJ σ (27 + r) g) := hx
    rw [hv_wJ_1, hb, if_neg (nI_ge (by omega) (by omega)), hv_if_t (hv_ok_nI (show r < 12 by omega) (by decide)), hv_if_t (hv_ok_nI (show r < 12 by omega) (by decide)), nI_clamp (by omega), hs]
    have eb := x3_brings (n := n) hi hx2 (show k < B by omega) (show (fL F (2 * P)).getD r 0 / 2 < 6 by omega) (show (fL F (2 * P)).getD r 0 % 2 < 2 by omega)
    rw [show 2 * ((fL F (2 * P)).getD r 0 / 2) + (fL F (2 * P)).getD r 0 % 2 = (fL F (2 * P)).getD r 0 by omega] at eb
    rw [eb, hv_b2_e, hv_if_t (hv_ok_nI (show k < 23 by omega) (by decide)), nI_clamp (by omega), hv_let_e, nI_1, iI_L ⟨by omega, by omega⟩, hv_sJ_wJ, ← hv]
    exact g1
/-- two rows swapped -/
theorem x0_swap_loop {n : Nat} {σ₀ : hv_St} {B N p q : Nat} (hb : σ₀.1 1 1 = nI B) (hN : σ₀.1 9 4 = nI N) (hBN : B ≤ 11 ∧ N ≤ 12) (hp : p < 12) (hq : q < 12) : ∀ (d k fuel : Nat) (σ : hv_St), k + d = B + N → d < fuel → σ.1 = σ₀.1 → (∀ j, j < 27 ∨ 39 ≤ j → σ.2 j = σ₀.2 j) → (∀ r c, σ.2 (27 + r) c = if c < k then (if r = p then σ₀.2 (27 + q) c else if r = q then σ₀.2 (27 + p) c else σ₀.2 (27 + r) c) else σ₀.2 (27 + r) c) → ∃ τ, kX0_swap_2 n fuel σ (nI p) (nI q) (nI k) = some τ ∧ τ.1 = σ₀.1 ∧ (∀ j, j < 27 ∨ 39 ≤ j → τ.2 j = σ₀.2 j) ∧ ∀ r c, c < B + N → τ.2 (27 + r) c = if r = p then σ₀.2 (27 + q) c else if r = q then σ₀.2 (27 + p) c else σ₀.2 (27 + r) c := by
  intro d
  induction d with
  | zero =>
    intro k fuel σ hk hf h1 h2 h3
    obtain ⟨fuel, rfl⟩ : ∃ q, fuel = q + 1 := ⟨fuel - 1, by omega⟩
    refine ⟨σ, ?_, h1, h2, fun r c hc => by rw [h3 r c, if_pos (by omega)]⟩
    show kX0_swap_2_b n _ _ _ _ _ = _
    unfold kX0_swap_2_b
    rw [h1, hb, hN, nI_add, if_pos (nI_le (by omega) (by omega))]
  | succ d ih =>
    intro k fuel σ hk hf h1 h2 h3
    obtain ⟨fuel, rfl⟩ : ∃ q, fuel = q + 1 := ⟨fuel - 1, by omega⟩
    obtain ⟨τ, t1, t2, t3, t4⟩ := ih (k + 1) fuel (hv_sJ (hv_sJ σ (27 + p) k (σ.2 (27 + q) k)) (27 + q) k (σ.2 (27 + p) k)) (by omega) (by omega) h1 (fun j hj => by rw [hv_sJ_ne _ _ _ (by omega), hv_sJ_ne _ _ _ (by omega)]; exact h2 j hj) (fun r c => by
      have a1 := h3 p k
      have a2 := h3 q k
      rw [if_neg (by omega)] at a1 a2
      by_cases e2 : r = q
      · rw [e2, hv_sJ_rd]
        by_cases ec : c = k
        · rw [if_pos ec, ec, if_pos (by omega), a1]
          by_cases e3 : q = p
          · rw [if_pos e3, e3]
          · rw [if_neg e3, if_pos rfl]
        · rw [if_neg ec]
          by_cases e3 : q = p
          · rw [e3, hv_sJ_rd, if_neg ec, h3 p c]
            by_cases l : c < k
            · simp [l, show c < k + 1 by omega, e3]
            · simp [l, show ¬ c < k + 1 by omega]
          · rw [hv_sJ_ne _ _ _ (by omega), h3 q c]
            by_cases l : c < k
            · rw [if_pos l, if_pos (show c < k + 1 by omega)]
            · rw [if_neg l, if_neg (show ¬ c < k + 1 by omega)]
      · rw [hv_sJ_ne _ _ _ (by omega)]
        by_cases e1 : r = p
        · rw [e1, hv_sJ_rd]
          by_cases ec : c = k
          · rw [if_pos ec, ec, if_pos (by omega), a2, if_pos rfl]
          · rw [if_neg ec, h3 p c]
            by_cases l : c < k
            · rw [if_pos l, if_pos (show c < k + 1 by omega)]
            · rw [if_neg l, if_neg (show ¬ c < k + 1 by omega)]
        · rw [hv_sJ_ne _ _ _ (by omega), h3 r c, if_neg e1, if_neg e2]
          by_cases l : c < k
          · rw [if_pos l, if_pos (by omega)]
          · rw [if_neg l]
            by_cases l2 : c < k + 1
            · rw [if_pos l2]
            · rw [if_neg l2])
    refine ⟨τ, ?_, t2, t3, t4⟩
    show kX0_swap_2_b n _ _ _ _ _ = _
    unfold kX0_swap_2_b
    rw [h1, hb, hN, nI_add, if_neg (nI_ge (by omega) (by omega))]
    simp only [hv_if_t (hv_ok_nI (show p < 12 by omega) (by decide)), hv_if_t (hv_ok_nI (show q < 12 by omega) (by decide)), hv_if_t (hv_ok_nI (show k < 23 by omega) (by decide)), hv_let_e, nI_clamp (show p < 2 ^ 31 by omega), nI_clamp (show q < 2 ^ 31 by omega), nI_clamp (show k < 2 ^ 31 by omega), nI_1]
    exact t1
theorem x0_swap {n : Nat} (hn : 30 < n) {σ : hv_St} {B N p q : Nat} (hb : σ.1 1 1 = nI B) (hN : σ.1 9 4 = nI N) (hBN : B ≤ 11 ∧ N ≤ 12) (hp : p < 12) (hq : q < 12) : ∃ τ, mX0_swap n σ (nI p) (nI q) = some τ ∧ τ.1 = σ.1 ∧ (∀ j, j < 27 ∨ 39 ≤ j → τ.2 j = σ.2 j) ∧ ∀ r c, c < B + N → τ.2 (27 + r) c = if r = p then σ.2 (27 + q) c else if r = q then σ.2 (27 + p) c else σ.2 (27 + r) c :=
  x0_swap_loop (n := n) hb hN hBN hp hq (B + N) 0 n σ (by omega) (by omega) rfl (fun _ _ => rfl) (fun r c => by rw [if_neg (Nat.not_lt_zero _)])
/-- a row cleared -/
theorem x0_clear_44 {n : Nat} {r12 : hv_St → Int32 → Int32 → Int64 → Int32 → Option hv_St} {σ : hv_St} {B N r y b : Nat} (hb : σ.1 1 1 = nI B) (hN : σ.1 9 4 = nI N) (hBN : B ≤ 11 ∧ N ≤ 12) (hr : r < 12) (hy : y < 12) (hyr : y ≠ r) {l pv fc : Int} {Mr My Q : Nat → Int} (hl : l ≠ 0) (hlr : rL l) (hsc : σ.2 9 8 = iL l) (hQ : ∀ c, c < B + N → pv * Mr c - fc * My c = l * Q c) (hrg : ∀ c, c < B + N → rL (pv * Mr c - fc * My c)) (hM : ∀ c, c < B + N → σ.2 (27 + y) c = iL (My c)) : ∀ (d k fuel : Nat) (g : Nat → Int64), k + d = B + N → d < fuel → (∀ c, c < B + N → g c = iL (if c < k then Q c else Mr c)) → ∃ g', kX0_clearColumn_44 n r12 fuel (hv_wJ σ (27 + r) g) (nI b) (nI y) (iL pv) (nI r) (iL fc) (nI k) = r12 (hv_wJ σ (27 + r) g') (nI b) (nI y) (iL pv) (nI (r + 1)) ∧ ∀ c, c < B + N → g' c = iL (Q c) := by
  intro d
  induction d with
  | zero =>
    intro k fuel g hk hf hg
    obtain ⟨fuel, rfl⟩ : ∃ q, fuel = q + 1 := ⟨fuel - 1, by omega⟩
    refine ⟨g, ?_, fun c hc => by rw [hg c hc, if_pos (by omega)]⟩
    show kX0_clearColumn_44_b n _ _ _ _ _ _ _ _ _ = _
    unfold kX0_clearColumn_44_b kX0_clearColumn_113
    rw [hv_wJ_1, hb, hN, nI_add, if_pos (nI_le (by omega) (by omega)), nI_1]
  | succ d ih =>
    intro k fuel g hk hf hg
    obtain ⟨fuel, rfl⟩ : ∃ q, fuel = q + 1 := ⟨fuel - 1, by omega⟩
    obtain ⟨g', g1, g2⟩ := ih (k + 1) fuel (vp_updL g k (iL (Q k))) (by omega) (by omega) (fun c hc => by
      by_cases e : c = k
      · rw [e, pk_uLs, if_pos (by omega)]
      · rw [pk_uLn e, hg c hc]
        by_cases l : c < k
        · rw [if_pos l, if_pos (by omega)]
        · rw [if_neg l, if_neg (by omega)])
    refine ⟨g', ?_, g2⟩
    have hgk := hg k (by omega)
    rw [if_neg (Nat.lt_irrefl k)] at hgk
    have hQk := hQ k (by omega)
    have hrk := hrg k (by omega)
    have hdiv : (pv * Mr k - fc * My k).tdiv l = Q k := by
      rw [hQk]
      exact Int.mul_tdiv_cancel_left _ hl
    have sc : (hv_wJ σ (27 + r) g).2 9 8 = iL l := by
      rw [hv_wJ_ne _ _ (by omega)]
      exact hsc
    show kX0_clearColumn_44_b n _ _ _ _ _ _ _ _ _ = _
    unfold kX0_clearColumn_44_b
    rw [hv_wJ_1, hb, hN, nI_add, if_neg (nI_ge (by omega) (by omega)), hv_if_t (hv_ok_nI (show r < 12 by omega) (by decide)), hv_if_t (hv_ok_nI (show k < 23 by omega) (by decide)), hv_if_t (hv_ok_nI (show y < 12 by omega) (by decide)), hv_if_t (hv_ok_nI (show k < 23 by omega) (by decide)), hv_let_e, nI_clamp (show r < 2 ^ 31 by omega), nI_clamp (show k < 2 ^ 31 by omega), nI_clamp (show y < 2 ^ 31 by omega), hv_wJ_at, hv_wJ_ne _ _ (show 27 + y ≠ 27 + r by omega), hM k (by omega), hgk, iL_mul, iL_mul, iL_sub, hv_if_t (hv_ok_nI (show r < 12 by omega) (by decide)), sc, x7_quotient hrk hlr hl, hv_b2_e, hv_if_t (hv_ok_nI (show k < 23 by omega) (by decide)), hv_let_e, hdiv, hv_sJ_wJ, nI_1]
    exact g1
theorem x0_clear_loop {n : Nat} (hn : 30 < n) {σ₀ : hv_St} {B N y b : Nat} (hb : σ₀.1 1 1 = nI B) (hN : σ₀.1 9 4 = nI N) (hBN : B ≤ 11 ∧ N ≤ 12) (hy : y < N) (hbB : b < B) {l : Int} {M Q : Nat → Nat → Int} (hl : l ≠ 0) (hlr : rL l) (hsc : σ₀.2 9 8 = iL l) (hQ : ∀ r c, r < N → r ≠ y → c < B + N → M y b * M r c - M r b * M y c = l * Q r c) (hrg : ∀ r c, r < N → r ≠ y → c < B + N → rL (M y b * M r c - M r b * M y c)) : ∀ (d r fuel : Nat) (σ : hv_St), r + d = N → d < fuel → σ.1 = σ₀.1 → (∀ j, j < 27 ∨ 39 ≤ j → σ.2 j = σ₀.2 j) → (∀ i c, i < N → c < B + N → σ.2 (27 + i) c = iL (if i < r ∧ i ≠ y then Q i c else M i c)) → ∃ τ, kX0_clearColumn_12 n fuel σ (nI b) (nI y) (iL (M y b)) (nI r) = some (hv_sJ τ 9 8 (iL (M y b))) ∧ τ.1 = σ₀.1 ∧ (∀ j, j < 27 ∨ 39 ≤ j → τ.2 j = σ₀.2 j) ∧ ∀ i c, i < N → c < B + N → τ.2 (27 + i) c = iL (if i ≠ y then Q i c else M i c) := by
  intro d
  induction d with
  | zero =>
    intro r fuel σ hr hf h1 h2 h3
    obtain ⟨fuel, rfl⟩ : ∃ q, fuel = q + 1 := ⟨fuel - 1, by omega⟩
    refine ⟨σ, ?_, h1, h2, fun i c hi hc => ?_⟩
    · show kX0_clearColumn_12_b n _ _ _ _ _ _ = _
      unfold kX0_clearColumn_12_b
      rw [h1, hN, if_pos (nI_le (by omega) (by omega)), hv_let_e]
    · rw [h3 i c hi hc]
      by_cases e : i = y
      · rw [if_neg (fun q => q.2 e), if_neg (fun q => q e)]
      · rw [if_pos ⟨by omega, e⟩, if_pos e]
  | succ d ih =>
    intro r fuel σ hr hf h1 h2 h3
    obtain ⟨fuel, rfl⟩ : ∃ q, fuel = q + 1 := ⟨fuel - 1, by omega⟩
    have hs1 : kX0_clearColumn_12 n (fuel + 1) σ (nI b) (nI y) (iL (M y b)) (nI r) = if r = y then kX0_clearColumn_12 n fuel σ (nI b) (nI y) (iL (M y b)) (nI (r + 1)) else kX0_clearColumn_44 n (kX0_clearColumn_12 n fuel) n σ (nI b) (nI y) (iL (M y b)) (nI r) (σ.2 (27 + r) b) (nI 0) := by
      show kX0_clearColumn_12_b n _ _ _ _ _ _ = _
      unfold kX0_clearColumn_12_b kX0_clearColumn_113
      rw [h1, hN, if_neg (nI_ge (by omega) (by omega)), nI_1, hv_if_t (hv_ok_nI (show r < 12 by omega) (by decide)), hv_if_t (hv_ok_nI (show b < 23 by omega) (by decide)), hv_let_e, nI_clamp (by omega), nI_clamp (by omega)]
      by_cases e : r = y
      · rw [if_pos ((nI_eq (by omega) (by omega)).mpr e), if_pos e]
      · rw [if_neg (fun q => e ((nI_eq (by omega) (by omega)).mp q)), if_neg e]
        rfl
    rw [hs1]
    by_cases e : r = y
    · rw [if_pos e]
      refine ih (r + 1) fuel σ (by omega) (by omega) h1 h2 (fun i c hi hc => ?_)
      rw [h3 i c hi hc]
      by_cases l : i < r
      · by_cases e2 : i = y
        · rw [if_neg (fun q => q.2 e2), if_neg (fun q => q.2 e2)]
        · rw [if_pos ⟨l, e2⟩, if_pos ⟨by omega, e2⟩]
      · rw [if_neg (fun q => l q.1), if_neg (fun q => q.2 (by omega))]
    · rw [if_neg e]
      have hfc : σ.2 (27 + r) b = iL (M r b) := by
        rw [h3 r b (by omega) (by omega), if_neg (fun q => Nat.lt_irrefl r q.1)]
      obtain ⟨g', g1, g2⟩ := x0_clear_44 (n := n) (r12 := kX0_clearColumn_12 n fuel) (σ := σ) (B := B) (N := N) (r := r) (y := y) (b := b) (by rw [h1]; exact hb) (by rw [h1]; exact hN) hBN (by omega) (by omega) (fun q => e q.symm) (l := l) (pv := M y b) (fc := M r b) (Mr := M r) (My := M y) (Q := Q r) hl hlr (by rw [h2 9 (by decide)]; exact hsc) (fun c hc => hQ r c (by omega) e hc) (fun c hc => hrg r c (by omega) e hc) (fun c hc => by rw [h3 y c hy hc, if_neg (fun q => q.2 rfl)]) (B + N) 0 n (σ.2 (27 + r)) (by omega) (by omega) (fun c hc => by rw [h3 r c (by omega) hc, if_neg (fun q => Nat.lt_irrefl r q.1), if_neg (Nat.not_lt_zero c)])
      rw [hv_wJ_self] at g1
      rw [hfc, g1]
      refine ih (r + 1) fuel (hv_wJ σ (27 + r) g') (by omega) (by omega) h1 (fun j hj => by rw [hv_wJ_ne _ _ (by omega)]; exact h2 j hj) (fun i c hi hc => ?_)
      by_cases e2 : i = r
      · rw [e2, hv_wJ_at, g2 c hc, if_pos ⟨by omega, e⟩]
      · rw [hv_wJ_ne _ _ (by omega), h3 i c hi hc]
        by_cases l : i < r
        · by_cases e3 : i = y
          · rw [if_neg (fun q => q.2 e3), if_neg (fun q => q.2 e3)]
          · rw [if_pos ⟨l, e3⟩, if_pos ⟨by omega, e3⟩]
        · rw [if_neg (fun q => l q.1), if_neg (fun q => by have := q.1; omega)]
theorem x0_clear {n : Nat} (hn : 30 < n) {σ : hv_St} {B N y b : Nat} (hb : σ.1 1 1 = nI B) (hN : σ.1 9 4 = nI N) (hBN : B ≤ 11 ∧ N ≤ 12) (hy : y < N) (hbB : b < B) {l : Int} {M Q : Nat → Nat → Int} (hl : l ≠ 0) (hlr : rL l) (hsc : σ.2 9 8 = iL l) (hQ : ∀ r c, r < N → r ≠ y → c < B + N → M y b * M r c - M r b * M y c = l * Q r c) (hrg : ∀ r c, r < N → r ≠ y → c < B + N → rL (M y b * M r c - M r b * M y c)) (hM : ∀ i c, i < N → c < B + N → σ.2 (27 + i) c = iL (M i c)) : ∃ τ, mX0_clearColumn n σ (nI b) (nI y) = some (hv_sJ τ 9 8 (iL (M y b))) ∧ τ.1 = σ.1 ∧ (∀ j, j < 27 ∨ 39 ≤ j → τ.2 j = σ.2 j) ∧ ∀ i c, i < N → c < B + N → τ.2 (27 + i) c = iL (if i ≠ y then Q i c else M i c) := by
  obtain ⟨τ, t1, t2, t3, t4⟩ := x0_clear_loop hn hb hN hBN hy hbB hl hlr hsc hQ hrg N 0 n σ (by omega) (by omega) rfl (fun _ _ => rfl) (fun i c hi hc => by rw [if_neg (fun q => Nat.not_lt_zero _ q.1)]; exact hM i c hi hc)
  refine ⟨τ, ?_, t2, t3, t4⟩
  unfold mX0_clearColumn
  rw [hv_if_t (hv_ok_nI (show y < 12 by omega) (by decide)), hv_if_t (hv_ok_nI (show b < 23 by omega) (by decide)), hv_let_e, nI_clamp (by omega), nI_clamp (by omega), hM y b hy (by omega)]
  exact t1
end
section
/-! the columns' weights; what determinants of them are at most -/
theorem md_P_app : ∀ l m : List Nat, md_P (l ++ m) = md_P l * md_P m
  | [], m => by simp [md_P]
  | x :: l, m => by
    show x * md_P (l ++ m) = x * md_P l * md_P m
    rw [md_P_app l m, Nat.mul_assoc]
theorem md_P_rep (w : Nat) (c : List md_V) : md_P ((c.map (fun v => (v, w))).map (fun q => q.2)) = w ^ c.length := by
  induction c with
  | nil => rfl
  | cons v c ih =>
    show w * md_P _ = _
    rw [ih, List.length_cons, Nat.pow_succ, Nat.mul_comm]
theorem md_fst (w : Nat) (c : List md_V) : (c.map (fun v => (v, w))).map (fun q => q.1) = c := by
  rw [List.map_map]
  exact List.map_id c
theorem md_D_W {R : List Nat} (hn : R.Nodup) {w : Nat} {c : List md_V} (h : ∀ v ∈ c, md_W R v w) : (md_D R c).natAbs ≤ w ^ c.length := by
  have q := md_bound hn (c.map (fun v => (v, w))) [] (fun _ h => by cases h) (fun q hq => by
    obtain ⟨v, hv, rfl⟩ := List.mem_map.mp hq
    exact h v hv)
  rw [List.nil_append, md_fst, md_P_rep] at q
  exact q
theorem md_D_W2 {R : List Nat} (hn : R.Nodup) {w z : Nat} {c d : List md_V} {x : md_V} (h : ∀ v ∈ c, md_W R v w) (hx : md_W R x z) (h2 : ∀ v ∈ d, md_W R v w) : (md_D R (c ++ x :: d)).natAbs ≤ z * w ^ (c.length + d.length) := by
  have q := md_bound hn (c.map (fun v => (v, w)) ++ (x, z) :: d.map (fun v => (v, w))) [] (fun _ h => by cases h) (fun q hq => by
    rcases List.mem_append.mp hq with hq | hq
    · obtain ⟨v, hv, rfl⟩ := List.mem_map.mp hq
      exact h v hv
    · rcases List.mem_cons.mp hq with rfl | hq
      · exact hx
      · obtain ⟨v, hv, rfl⟩ := List.mem_map.mp hq
        exact h2 v hv)
  rw [List.nil_append, List.map_append, List.map_append, List.map_cons, List.map_cons, md_fst, md_fst, md_P_app, md_P_rep] at q
  show _ ≤ z * w ^ (c.length + d.length)
  have e : w ^ c.length * md_P (z :: (d.map (fun v => (v, w))).map (fun q => q.2)) = z * w ^ (c.length + d.length) := by
    show w ^ c.length * (z * md_P ((d.map (fun v => (v, w))).map (fun q => q.2))) = _
    rw [md_P_rep, Nat.pow_add, ← Nat.mul_assoc, ← Nat.mul_assoc, Nat.mul_comm (w ^ c.length) z]
  rw [e] at q
  exact q
theorem md_cl_len (A : Nat → md_V) : ∀ (n s : Nat), (md_cl A s n).length = n
  | 0, _ => rfl
  | n + 1, s => by
    show (md_cl A (s + 1) n).length + 1 = n + 1
    rw [md_cl_len A n (s + 1)]
theorem md_dt_W {R : List Nat} (hn : R.Nodup) {w n : Nat} {A : Nat → md_V} (h : ∀ k, k < n → md_W R (A k) w) : (md_dt R A n).natAbs ≤ w ^ n := by
  have q := md_D_W hn (c := md_cl A 0 n) (w := w) (fun v hv => by
    obtain ⟨i, hi, rfl⟩ := md_cl_mem n 0 hv
    exact h i (by omega))
  rw [md_cl_len] at q
  exact q
theorem md_dt_W2 {R : List Nat} (hn : R.Nodup) {w z n i : Nat} {A : Nat → md_V} (hi : i < n) (h : ∀ k, k < n → md_W R (A k) w) {x : md_V} (hx : md_W R x z) : (md_dt R (md_up A i x) n).natAbs ≤ z * w ^ (n - 1) := by
  have q := md_D_W2 hn (c := md_cl A 0 i) (d := md_cl A (i + 1) (n - i - 1)) (w := w) (fun v hv => by
    obtain ⟨j, hj, rfl⟩ := md_cl_mem i 0 hv
    exact h j (by omega)) hx (fun v hv => by
    obtain ⟨j, hj, rfl⟩ := md_cl_mem (n - i - 1) (i + 1) hv
    exact h j (by omega))
  rw [md_cl_len, md_cl_len, show i + (n - i - 1) = n - 1 by omega, ← md_cl_up A hi] at q
  exact q
theorem md_net_e {n : Nat} (j : Nat) : md_net (List.range n) (md_e j) := by
  refine ⟨fun r _ => ?_, fun r _ s _ h1 h2 => ?_, fun r _ s _ h1 h2 => ?_⟩
  · unfold md_e
    by_cases e : r = j
    · rw [if_pos e]; exact Or.inr (Or.inl rfl)
    · rw [if_neg e]; exact Or.inl rfl
  · unfold md_e at h1 h2
    by_cases e : r = j
    · by_cases e2 : s = j
      · rw [e, e2]
      · rw [if_neg e2] at h2; exact absurd h2 (by decide)
    · rw [if_neg e] at h1; exact absurd h1 (by decide)
  · unfold md_e at h1
    by_cases e : r = j
    · rw [if_pos e] at h1; exact absurd h1 (by decide)
    · rw [if_neg e] at h1; exact absurd h1 (by decide)
theorem fL_inj {F : Nat → Nat → Int32} {k i j : Nat} (hi : i < (fL F k).length) (hj : j < (fL F k).length) (h : (fL F k).getD i 0 = (fL F k).getD j 0) : i = j := by
  have hp : List.Pairwise (· < ·) (fL F k) := List.Pairwise.filter _ List.pairwise_lt_range
  have q := List.pairwise_iff_getElem.mp hp
  rw [List.getD_eq_getElem?_getD, List.getD_eq_getElem?_getD, List.getElem?_eq_getElem hi, List.getElem?_eq_getElem hj, Option.getD_some, Option.getD_some] at h
  rcases Nat.lt_trichotomy i j with l | l | l
  · have := q i j hi hj l
    omega
  · exact l
  · have := q j i hj hi l
    omega
/-- a net of two ends: 1 at one pin's direction, -1 at the other's -/
def fNet (F : Nat → Nat → Int32) (P a c w : Nat) : md_V := fun k => if (fL F (2 * P)).getD k 0 % 2 = w then (if a = (fL F (2 * P)).getD k 0 / 2 then 1 else if c = (fL F (2 * P)).getD k 0 / 2 then -1 else 0) else 0
theorem fNet_net (F : Nat → Nat → Int32) (P a c w : Nat) : md_net (List.range (fL F (2 * P)).length) (fNet F P a c w) := by
  have key : ∀ k, (fNet F P a c w k = 1 → (fL F (2 * P)).getD k 0 = 2 * a + w) ∧ (fNet F P a c w k = -1 → (fL F (2 * P)).getD k 0 = 2 * c + w) ∧ md_le1 (fNet F P a c w k) := by
    intro k
    unfold fNet
    by_cases e1 : (fL F (2 * P)).getD k 0 % 2 = w
    · rw [if_pos e1]
      by_cases e2 : a = (fL F (2 * P)).getD k 0 / 2
      · rw [if_pos e2]
        exact ⟨fun _ => by omega, fun h => absurd h (by decide), Or.inr (Or.inl rfl)⟩
      · rw [if_neg e2]
        by_cases e3 : c = (fL F (2 * P)).getD k 0 / 2
        · rw [if_pos e3]
          exact ⟨fun h => absurd h (by decide), fun _ => by omega, Or.inr (Or.inr rfl)⟩
        · rw [if_neg e3]
          exact ⟨fun h => absurd h (by decide), fun h => absurd h (by decide), Or.inl rfl⟩
    · rw [if_neg e1]
      exact ⟨fun h => absurd h (by decide), fun h => absurd h (by decide), Or.inl rfl⟩
  refine ⟨fun r _ => (key r).2.2, fun r hr s hs h1 h2 => ?_, fun r hr s hs h1 h2 => ?_⟩
  · exact fL_inj (List.mem_range.mp hr) (List.mem_range.mp hs) (((key r).1 h1).trans ((key s).1 h2).symm)
  · exact fL_inj (List.mem_range.mp hr) (List.mem_range.mp hs) (((key r).2.1 h1).trans ((key s).2.1 h2).symm)
theorem fCol_W {F : Nat → Nat → Int32} {P B O D W : Nat} (hi : hI F P B O D W) {b : Nat} (hb : b < B) : md_W (List.range (fL F (2 * P)).length) (fCol F P b) 5 := by
  obtain ⟨-, e2, -, e4⟩ := hI_ends hi hb
  have h1 := fX_le hi e2 0
  have h2 := fX_le hi e4 0
  have h3 := fX_le hi e2 1
  have h4 := fX_le hi e4 1
  rw [if_pos rfl] at h1 h2
  rw [if_neg (by decide)] at h3 h4
  refine md_W_on (md_W_le (md_W_lin (md_W_net (fNet_net F P (fA F b) (fC F b) 0)) (md_W_net (fNet_net F P (fA F b) (fC F b) 1)) (fX F (fC F b) 0 - fX F (fA F b) 0) (fX F (fC F b) 1 - fX F (fA F b) 1)) (by omega)) (fun r _ => ?_)
  show fBr F b _ _ = _
  unfold fBr fNet
  have hw : (fL F (2 * P)).getD r 0 % 2 = 0 ∨ (fL F (2 * P)).getD r 0 % 2 = 1 := by omega
  rcases hw with e | e
  · rw [e, if_pos (show (0 : Nat) = 0 from rfl), if_neg (show ¬ (0 : Nat) = 1 by decide)]
    by_cases c1 : fA F b = (fL F (2 * P)).getD r 0 / 2
    · rw [if_pos c1, if_pos c1]; omega
    · rw [if_neg c1, if_neg c1]
      by_cases c2 : fC F b = (fL F (2 * P)).getD r 0 / 2
      · rw [if_pos c2, if_pos c2]; omega
      · rw [if_neg c2, if_neg c2]; omega
  · rw [e, if_neg (show ¬ (1 : Nat) = 0 by decide), if_pos (show (1 : Nat) = 1 from rfl)]
    by_cases c1 : fA F b = (fL F (2 * P)).getD r 0 / 2
    · rw [if_pos c1, if_pos c1]; omega
    · rw [if_neg c1, if_neg c1]
      by_cases c2 : fC F b = (fL F (2 * P)).getD r 0 / 2
      · rw [if_pos c2, if_pos c2]; omega
      · rw [if_neg c2, if_neg c2]; omega
theorem fXc_W {F : Nat → Nat → Int32} {P B O D W : Nat} (hi : hI F P B O D W) (c : Nat) : md_W (List.range (fL F (2 * P)).length) (fXc F P B c) 5 := by
  unfold fXc
  by_cases h : c < B
  · rw [if_pos h]
    exact fCol_W hi h
  · rw [if_neg h]
    exact md_W_le (md_W_net (md_net_e _)) (by decide)
theorem nd_range (n : Nat) : (List.range n).Nodup := List.nodup_range
def fXs (F : Nat → Nat → Int32) (P B : Nat) (A : Nat → md_V) : Prop := ∀ k, k < (fL F (2 * P)).length → ∃ c, c < B + (fL F (2 * P)).length ∧ A k = fXc F P B c
theorem fXs_bd {F : Nat → Nat → Int32} {P B O D W : Nat} (hi : hI F P B O D W) {A : Nat → md_V} (h : fXs F P B A) : (md_dt (List.range (fL F (2 * P)).length) A (fL F (2 * P)).length).natAbs ≤ 5 ^ (fL F (2 * P)).length :=
  md_dt_W (nd_range _) (fun k hk => by
    obtain ⟨c, -, e⟩ := h k hk
    rw [e]
    exact fXc_W hi c)
theorem pow5 {N : Nat} (h : N ≤ 12) : 5 ^ N ≤ 2 ^ 28 := Nat.le_trans (Nat.pow_le_pow_right (by decide) h) (by decide)
theorem fXs_bd28 {F : Nat → Nat → Int32} {P B O D W : Nat} (hi : hI F P B O D W) {A : Nat → md_V} (h : fXs F P B A) : (md_dt (List.range (fL F (2 * P)).length) A (fL F (2 * P)).length).natAbs ≤ 2 ^ 28 := by
  have hP := hi.1.2
  have hl := fL_le F (2 * P)
  exact Nat.le_trans (fXs_bd hi h) (pow5 (by omega))
theorem fXs_up {F : Nat → Nat → Int32} {P B : Nat} {A : Nat → md_V} (h : fXs F P B A) {c : Nat} (hc : c < B + (fL F (2 * P)).length) (i : Nat) : fXs F P B (md_up A i (fXc F P B c)) := fun k hk => by
  by_cases e : k = i
  · rw [e, md_up_at]
    exact ⟨c, hc, rfl⟩
  · rw [md_up_ne _ _ e]
    exact h k hk
theorem fXs_sw {F : Nat → Nat → Int32} {P B : Nat} {A : Nat → md_V} (h : fXs F P B A) {p q : Nat} (hp : p < (fL F (2 * P)).length) (hq : q < (fL F (2 * P)).length) : fXs F P B (md_sw A p q) := fun k hk => by
  unfold md_sw
  by_cases e : k = q
  · rw [e, md_up_at]
    exact h p hp
  · rw [md_up_ne _ _ e]
    by_cases e2 : k = p
    · rw [e2, md_up_at]
      exact h q hq
    · rw [md_up_ne _ _ e2]
      exact h k hk
end
section
/-! the class's table: a bar taken -/
theorem set_add {B s b : Nat} (hB : B ≤ 11) (hs : s < 2 ^ B) (hb : b < B) : nI s ||| ((1 : Int32) <<< (nI b &&& 31)) = nI (s ||| 2 ^ b) ∧ s ||| 2 ^ b < 2 ^ B ∧ ∀ j, (s ||| 2 ^ b).testBit j = true ↔ s.testBit j = true ∨ j = b := by
  refine ⟨?_, Nat.or_lt_two_pow hs (Nat.pow_lt_pow_right (by decide) hb), fun j => ?_⟩
  · rw [nI_shl (by omega), nI_or]
  · rw [Nat.testBit_or, Nat.testBit_two_pow, Bool.or_eq_true, decide_eq_true_iff]
    exact or_congr Iff.rfl ⟨fun h => h.symm, fun h => h.symm⟩
def tX (F : Nat → Nat → Int32) (P B : Nat) (σ : hv_St) (acc : List Nat) (A : Nat → md_V) (e : Int) : Prop :=
  (e = 1 ∨ e = -1) ∧ md_dt (List.range (fL F (2 * P)).length) A (fL F (2 * P)).length ≠ 0 ∧ fXs F P B A ∧ acc.length ≤ (fL F (2 * P)).length ∧ (∀ j, j < acc.length → A j = fCol F P (acc.getD j 0) ∧ acc.getD j 0 < B ∧ σ.1 12 j = nI (acc.getD j 0)) ∧ σ.1 9 4 = nI (fL F (2 * P)).length ∧ σ.1 9 5 = nI acc.length ∧ σ.2 9 8 = iL (e * md_dt (List.range (fL F (2 * P)).length) A (fL F (2 * P)).length) ∧ ∀ r c, r < (fL F (2 * P)).length → c < B + (fL F (2 * P)).length → σ.2 (27 + r) c = iL (e * md_T (List.range (fL F (2 * P)).length) (fL F (2 * P)).length A (fXc F P B c) r)
def sX (B : Nat) (σ : hv_St) (acc : List Nat) (pr : Nat → Prop) : Prop := ∃ Eb Es, σ.1 9 6 = nI Eb ∧ Eb < 2 ^ B ∧ (∀ b, Eb.testBit b = true ↔ b ∈ acc) ∧ σ.1 9 7 = nI Es ∧ Es < 2 ^ B ∧ ∀ b, Es.testBit b = true ↔ pr b ∧ b ∉ acc
def fA9 (k : Nat) : Prop := k = 9 ∨ k = 12
def fB9 (k : Nat) : Prop := k = 9 ∨ (27 ≤ k ∧ k ≤ 38)
theorem pm_rL {e z : Int} (he : e = 1 ∨ e = -1) (hz : z.natAbs ≤ 2 ^ 28) : rL (e * z) := rL_of (by rw [natAbs_pm he]; exact Nat.le_trans hz (by decide))
theorem pm_ne {e z : Int} (he : e = 1 ∨ e = -1) (hz : z ≠ 0) : e * z ≠ 0 := by
  rcases he with rfl | rfl <;> omega
theorem tX_bd {F : Nat → Nat → Int32} {P B O D W : Nat} (hi : hI F P B O D W) {A : Nat → md_V} (h : fXs F P B A) {c r : Nat} (hc : c < B + (fL F (2 * P)).length) : (md_T (List.range (fL F (2 * P)).length) (fL F (2 * P)).length A (fXc F P B c) r).natAbs ≤ 2 ^ 28 := fXs_bd28 hi (fXs_up h hc r)
theorem tX_tb {F : Nat → Nat → Int32} {P B : Nat} {σ : hv_St} {acc : List Nat} {A : Nat → md_V} {e : Int} (h : tX F P B σ acc A e) : md_tb (List.range (fL F (2 * P)).length) (fL F (2 * P)).length (fCol F P) A (fun j => j) acc := by
  obtain ⟨h1, h2, h3, h4, h5, -⟩ := h
  exact ⟨h2, fun j hj => ⟨Nat.lt_of_lt_of_le hj h4, (h5 j hj).1⟩, fun i j _ _ e => e⟩
theorem fXc_bar {F : Nat → Nat → Int32} {P B b : Nat} (h : b < B) : fXc F P B b = fCol F P b := if_pos h
theorem x0_take_5 {n : Nat} {F : Nat → Nat → Int32} {P B O D W : Nat} (hi : hI F P B O D W) {σ : hv_St} {acc : List Nat} {A : Nat → md_V} {e : Int} (h : tX F P B σ acc A e) {b : Nat} (hb : b < B) : ∀ (d r fuel : Nat), r + d = (fL F (2 * P)).length → d < fuel → ∃ r', r ≤ r' ∧ r' ≤ (fL F (2 * P)).length ∧ kX0_take_5 n fuel σ (nI b) (nI r) = kX0_take_32 n σ (nI b) (nI r') ∧ (∀ i, r ≤ i → i < r' → md_T (List.range (fL F (2 * P)).length) (fL F (2 * P)).length A (fCol F P b) i = 0) ∧ (r' < (fL F (2 * P)).length → md_T (List.range (fL F (2 * P)).length) (fL F (2 * P)).length A (fCol F P b) r' ≠ 0) := by
  obtain ⟨h1, h2, h3, h4, h5, h6, h7, h8, h9⟩ := h
  have hP := hi.1.2
  have hB := hi.2.1.2
  have hl := fL_le F (2 * P)
  intro d
  induction d with
  | zero =>
    intro r fuel hr hf
    obtain ⟨fuel, rfl⟩ : ∃ q, fuel = q + 1 := ⟨fuel - 1, by omega⟩
    refine ⟨r, Nat.le_refl _, by omega, ?_, fun i i1 i2 => by omega, fun q => by omega⟩
    show kX0_take_5_b n _ _ _ _ = _
    unfold kX0_take_5_b
    rw [h6, if_pos (nI_le (by omega) (by omega))]
  | succ d ih =>
    intro r fuel hr hf
    obtain ⟨fuel, rfl⟩ : ∃ q, fuel = q + 1 := ⟨fuel - 1, by omega⟩
    have hv := h9 r b (by omega) (by omega)
    rw [fXc_bar hb] at hv
    have bd : (md_T (List.range (fL F (2 * P)).length) (fL F (2 * P)).length A (fCol F P b) r).natAbs ≤ 2 ^ 28 := by
      have := tX_bd hi h3 (c := b) (r := r) (by omega)
      rw [fXc_bar hb] at this
      exact this
    have hz : lg_cmp (σ.2 (27 + r) b) (0 : Int64) = 0 ↔ md_T (List.range (fL F (2 * P)).length) (fL F (2 * P)).length A (fCol F P b) r = 0 := by
      rw [lg_cmp0, hv, show (0 : Int64) = iL 0 from rfl, iL_eq (pm_rL h1 bd) ⟨by decide, by decide⟩]
      rcases h1 with rfl | rfl <;> omega
    have es : kX0_take_5 n (fuel + 1) σ (nI b) (nI r) = if lg_cmp (σ.2 (27 + r) b) (0 : Int64) = 0 then kX0_take_5 n fuel σ (nI b) (nI (r + 1)) else kX0_take_32 n σ (nI b) (nI r) := by
      show kX0_take_5_b n _ _ _ _ = _
      unfold kX0_take_5_b
      rw [h6, if_neg (nI_ge (by omega) (by omega)), hv_if_t (hv_ok_nI (show r < 12 by omega) (by decide)), hv_if_t (hv_ok_nI (show b < 23 by omega) (by decide)), nI_clamp (by omega), nI_clamp (by omega), nI_1]
    rw [es]
    by_cases q : lg_cmp (σ.2 (27 + r) b) (0 : Int64) = 0
    · rw [if_pos q]
      obtain ⟨r', a1, a2, a3, a4, a5⟩ := ih (r + 1) fuel (by omega) (by omega)
      refine ⟨r', by omega, a2, a3, fun i i1 i2 => ?_, a5⟩
      by_cases ei : i = r
      · rw [ei]
        exact hz.mp q
      · exact a4 i (by omega) i2
    · rw [if_neg q]
      exact ⟨r, Nat.le_refl _, by omega, rfl, fun i i1 i2 => by omega, fun _ h0 => q (hz.mpr h0)⟩
theorem x0_take {n : Nat} (hn : 30 < n) {F : Nat → Nat → Int32} {P B O D W : Nat} (hi : hI F P B O D W) {σ : hv_St} (hx : rX F σ) {acc : List Nat} {A : Nat → md_V} {e : Int} (h : tX F P B σ acc A e) {pr : Nat → Prop} (hs : sX B σ acc pr) {b : Nat} (hb : b < B) (hba : b ∉ acc) (hpb : ¬ pr b) : ∃ τ A' e', mX0_take n σ (nI b) = some τ ∧ fr fA9 fB9 σ τ ∧ tX F P B τ (md_gr (List.range (fL F (2 * P)).length) (fCol F P) acc [b]) A' e' ∧ sX B τ (md_gr (List.range (fL F (2 * P)).length) (fCol F P) acc [b]) (fun j => pr j ∨ j = b) := by
  have hP := hi.1.2
  have hB := hi.2.1.2
  have hl := fL_le F (2 * P)
  have hbX : σ.1 1 1 = nI B := hx.1.2.1.trans hi.2.1.1
  have htb := tX_tb h
  have h' := h
  obtain ⟨h1, h2, h3, h4, h5, h6, h7, h8, h9⟩ := h
  obtain ⟨Eb, Es, s1, s2, s3, s4, s5, s6⟩ := hs
  obtain ⟨r, a1, a2, a3, a4, a5⟩ := x0_take_5 (n := n) hi h' hb ((fL F (2 * P)).length - acc.length) acc.length n (by omega) (by omega)
  have et : mX0_take n σ (nI b) = kX0_take_32 n σ (nI b) (nI r) := by
    unfold mX0_take
    rw [hv_let_e, h7]
    exact a3
  rw [et]
  by_cases hr : r = (fL F (2 * P)).length
  · have hin : md_in (List.range (fL F (2 * P)).length) (md_cs (fCol F P) acc) (fCol F P b) := (md_tb_in htb _).mpr (fun k hk hp => a4 k (Nat.le_of_not_lt fun q => hp k q rfl) (by omega))
    have eg : md_gr (List.range (fL F (2 * P)).length) (fCol F P) acc [b] = acc := md_gr_old hin
    rw [eg]
    obtain ⟨c1, c2, c3⟩ := set_add hB s5 hb
    refine ⟨hv_sI σ 9 7 (nI (Es ||| 2 ^ b)), A, e, ?_, fr_I (Or.inl rfl) _ _, ⟨h1, h2, h3, h4, fun j hj => ?_, ?_, ?_, h8, h9⟩, Eb, Es ||| 2 ^ b, ?_, s2, s3, ?_, c2, fun j => ?_⟩
    · unfold kX0_take_32
      rw [h6, if_pos (by rw [hr]), hv_let_e, s4, c1]
    · rw [hv_sI_ne _ _ _ (by decide)]
      exact h5 j hj
    · rw [hv_sI_rd, if_neg (by decide)]
      exact h6
    · rw [hv_sI_rd, if_neg (by decide)]
      exact h7
    · rw [hv_sI_rd, if_neg (by decide)]
      exact s1
    · rw [hv_sI_rd, if_pos rfl]
    · rw [c3 j, s6 j]
      constructor
      · rintro (⟨q1, q2⟩ | rfl)
        · exact ⟨Or.inl q1, q2⟩
        · exact ⟨Or.inr rfl, hba⟩
      · rintro ⟨q1 | rfl, q2⟩
        · exact Or.inl ⟨q1, q2⟩
        · exact Or.inr rfl
  · have hrN : r < (fL F (2 * P)).length := by omega
    have hTr := a5 hrN
    have hnin : ¬ md_in (List.range (fL F (2 * P)).length) (md_cs (fCol F P) acc) (fCol F P b) := (md_tb_new htb _).mpr ⟨r, hrN, fun j hj => by show j ≠ r; omega, hTr⟩
    have eg : md_gr (List.range (fL F (2 * P)).length) (fCol F P) acc [b] = acc ++ [b] := md_gr_new hnin
    rw [eg]
    have hlt : acc.length < (fL F (2 * P)).length := by omega
    obtain ⟨τ1, w1, w2, w3, w4⟩ := x0_swap (n := n) (p := r) (q := acc.length) hn hbX h6 (by omega) (by omega) (by omega)
    -- the basis behind the swap
    obtain ⟨A1, e1, b1, b2, b3, b4, b5, b6, b7⟩ : ∃ A1 e1, (e1 = 1 ∨ e1 = -1) ∧ md_dt (List.range (fL F (2 * P)).length) A1 (fL F (2 * P)).length ≠ 0 ∧ fXs F P B A1 ∧ (∀ j, j < acc.length → A1 j = A j) ∧ e1 * md_dt (List.range (fL F (2 * P)).length) A1 (fL F (2 * P)).length = e * md_dt (List.range (fL F (2 * P)).length) A (fL F (2 * P)).length ∧ md_T (List.range (fL F (2 * P)).length) (fL F (2 * P)).length A1 (fCol F P b) acc.length ≠ 0 ∧ ∀ k c, k < (fL F (2 * P)).length → c < B + (fL F (2 * P)).length → τ1.2 (27 + k) c = iL (e1 * md_T (List.range (fL F (2 * P)).length) (fL F (2 * P)).length A1 (fXc F P B c) k) := by
      by_cases er : r = acc.length
      · refine ⟨A, e, h1, h2, h3, fun _ _ => rfl, rfl, by rw [← er]; exact hTr, fun k c hk hc => ?_⟩
        rw [w4 k c hc]
        by_cases ek : k = r
        · rw [if_pos ek, ek, er, h9 _ c hlt hc]
        · rw [if_neg ek, if_neg (by omega), h9 k c hk hc]
      · refine ⟨md_sw A r acc.length, -e, by omega, ?_, fXs_sw h3 hrN hlt, fun j hj => ?_, ?_, ?_, fun k c hk hc => ?_⟩
        · rw [md_sw_dt A er hrN hlt]
          omega
        · unfold md_sw
          rw [md_up_ne _ _ (by omega), md_up_ne _ _ (by omega)]
        · rw [md_sw_dt A er hrN hlt, Int.neg_mul_neg]
        · rw [md_sw_q A er hrN hlt]
          omega
        · rw [w4 k c hc]
          by_cases ek : k = r
          · rw [if_pos ek, ek, md_sw_p A er hrN hlt, Int.neg_mul_neg, h9 _ c hlt hc]
          · rw [if_neg ek]
            by_cases ek2 : k = acc.length
            · rw [if_pos ek2, ek2, md_sw_q A er hrN hlt, Int.neg_mul_neg, h9 _ c hrN hc]
            · rw [if_neg ek2, md_sw_k A er ek ek2 hrN hlt, Int.neg_mul_neg, h9 k c hk hc]
    have eb : fXc F P B b = fCol F P b := fXc_bar hb
    have h8' : τ1.2 9 8 = iL (e1 * md_dt (List.range (fL F (2 * P)).length) A1 (fL F (2 * P)).length) := by
      rw [w3 9 (by decide), b5]
      exact h8
    have hee : e1 * e1 = 1 := pm1 b1
    obtain ⟨τ2, v1, v2, v3, v4⟩ := x0_clear (n := n) (σ := τ1) (B := B) (N := (fL F (2 * P)).length) (y := acc.length) (b := b) hn (by rw [w2]; exact hbX) (by rw [w2]; exact h6) (by omega) hlt hb
      (l := e1 * md_dt (List.range (fL F (2 * P)).length) A1 (fL F (2 * P)).length)
      (M := fun k c => e1 * md_T (List.range (fL F (2 * P)).length) (fL F (2 * P)).length A1 (fXc F P B c) k)
      (Q := fun k c => e1 * md_T (List.range (fL F (2 * P)).length) (fL F (2 * P)).length (md_up A1 acc.length (fXc F P B b)) (fXc F P B c) k)
      (pm_ne b1 b2) (pm_rL b1 (fXs_bd28 hi b3)) h8' (fun k c hk hky hc => by
        have q := md_pv (R := List.range (fL F (2 * P)).length) A1 (r := acc.length) (k := k) hky hlt hk (fXc F P B b) (fXc F P B c)
        grind) (fun k c hk hky hc => rL_mm (by rw [natAbs_pm b1]; exact Nat.le_trans (tX_bd hi b3 (by omega)) (by decide)) (by rw [natAbs_pm b1]; exact Nat.le_trans (tX_bd hi b3 hc) (by decide)) (by rw [natAbs_pm b1]; exact Nat.le_trans (tX_bd hi b3 (by omega)) (by decide)) (by rw [natAbs_pm b1]; exact Nat.le_trans (tX_bd hi b3 hc) (by decide))) b7
    obtain ⟨c1, c2, c3⟩ := set_add hB s2 hb
    have m9 : ∀ j, τ2.1 9 j = σ.1 9 j := fun j => by rw [v2, w2]
    refine ⟨hv_sI (hv_sI (hv_sI (hv_sJ τ2 9 8 (iL (e1 * md_T (List.range (fL F (2 * P)).length) (fL F (2 * P)).length A1 (fXc F P B b) acc.length))) 12 acc.length (nI b)) 9 6 (nI (Eb ||| 2 ^ b))) 9 5 (nI (acc.length + 1)), md_up A1 acc.length (fXc F P B b), e1, ?_, ?_, ⟨b1, ?_, fXs_up b3 (by omega) _, ?_, fun j hj => ?_, ?_, ?_, ?_, fun k c hk hc => ?_⟩, Eb ||| 2 ^ b, Es, ?_, c2, fun j => ?_, ?_, s5, fun j => ?_⟩
    · unfold kX0_take_32
      rw [h6, if_neg (fun q => hr ((nI_eq (by omega) (by omega)).mp q)), h7, w1, hv_bd_e, w2, h7, v1, hv_bd_e]
      have m5 : (hv_sJ τ2 9 8 (iL (e1 * md_T (List.range (fL F (2 * P)).length) (fL F (2 * P)).length A1 (fXc F P B b) acc.length))).1 9 5 = nI acc.length := (m9 5).trans h7
      have m6 : (hv_sJ τ2 9 8 (iL (e1 * md_T (List.range (fL F (2 * P)).length) (fL F (2 * P)).length A1 (fXc F P B b) acc.length))).1 9 6 = nI Eb := (m9 6).trans s1
      rw [m5, hv_if_t (hv_ok_nI (show acc.length < 12 by omega) (by decide)), nI_clamp (by omega), hv_let_e, hv_sI_ne _ _ _ (show 9 ≠ 12 by decide), m6, c1, hv_let_e, hv_sI_rd, if_neg (show ¬ (5 : Nat) = 6 by decide), hv_sI_ne _ _ _ (show 9 ≠ 12 by decide), m5, nI_1, hv_let_e]
    · refine ⟨fun k hk => ?_, fun k hk => ?_⟩
      · rw [hv_sI_ne _ _ _ (fun q => hk (Or.inl q)), hv_sI_ne _ _ _ (fun q => hk (Or.inl q)), hv_sI_ne _ _ _ (fun q => hk (Or.inr q))]
        show τ2.1 k = _
        rw [v2, w2]
      · show (hv_sJ τ2 9 8 _).2 k = _
        have k9 : ¬ k = 9 := fun q => hk (Or.inl q)
        have k2 : k < 27 ∨ 39 ≤ k := by
          have : ¬ (27 ≤ k ∧ k ≤ 38) := fun q => hk (Or.inr q)
          omega
        rw [hv_sJ_ne _ _ _ k9, v3 k k2, w3 k k2]
    · rw [eb]
      exact b6
    · rw [List.length_append, List.length_singleton]
      omega
    · rw [List.length_append, List.length_singleton] at hj
      rw [hv_sI_ne _ _ _ (by decide), hv_sI_ne _ _ _ (by decide), hv_sI_rd]
      by_cases ej : j = acc.length
      · rw [ej, md_up_at, getD_app_at, eb, if_pos rfl]
        exact ⟨rfl, hb, rfl⟩
      · rw [md_up_ne _ _ ej, getD_app_lt (by omega), if_neg ej, b4 j (by omega)]
        have q := h5 j (by omega)
        refine ⟨q.1, q.2.1, ?_⟩
        show τ2.1 12 j = _
        rw [v2, w2]
        exact q.2.2
    · rw [hv_sI_rd, if_neg (by decide), hv_sI_rd, if_neg (by decide), hv_sI_ne _ _ _ (by decide)]
      exact (m9 4).trans h6
    · rw [hv_sI_rd, if_pos rfl, List.length_append]
      rfl
    · show (hv_sJ τ2 9 8 _).2 9 8 = _
      rw [hv_sJ_rd, if_pos rfl]
      rfl
    · show (hv_sJ τ2 9 8 _).2 (27 + k) c = _
      rw [hv_sJ_ne _ _ _ (by omega), v4 k c hk hc]
      by_cases ek : k = acc.length
      · rw [if_neg (fun q => q ek), ek, md_pv_r]
      · rw [if_pos ek]
    · rw [hv_sI_rd, if_neg (by decide), hv_sI_rd, if_pos rfl]
    · rw [c3 j, s3 j, List.mem_append, List.mem_singleton]
    · rw [hv_sI_rd, if_neg (by decide), hv_sI_rd, if_neg (by decide), hv_sI_ne _ _ _ (by decide)]
      exact (m9 7).trans s4
    · rw [s6 j, List.mem_append, List.mem_singleton]
      constructor
      · rintro ⟨q1, q2⟩
        refine ⟨Or.inl q1, fun q3 => ?_⟩
        rcases q3 with q3 | q3
        · exact q2 q3
        · exact absurd q1 (by rw [q3]; exact hpb)
      · rintro ⟨q1 | q1, q2⟩
        · exact ⟨q1, fun q => q2 (Or.inl q)⟩
        · exact absurd (Or.inr q1) q2
end
section
/-! the class's table: settled -/
def fBl (S B : Nat) : List Nat := (List.range B).filter (fun j => S.testBit j)
abbrev fR (F : Nat → Nat → Int32) (P : Nat) : List Nat := List.range (fL F (2 * P)).length
abbrev fN' (F : Nat → Nat → Int32) (P : Nat) : Nat := (fL F (2 * P)).length
noncomputable def fBase (F : Nat → Nat → Int32) (P : Nat) (L : List Nat) : List Nat := md_gr (fR F P) (fCol F P) [] L
theorem sX_congr {B : Nat} {σ : hv_St} {acc : List Nat} {p q : Nat → Prop} (h : sX B σ acc p) (e : ∀ j, p j ↔ q j) : sX B σ acc q := by
  obtain ⟨Eb, Es, s1, s2, s3, s4, s5, s6⟩ := h
  exact ⟨Eb, Es, s1, s2, s3, s4, s5, fun b => (s6 b).trans (and_congr (e b) Iff.rfl)⟩
theorem rX9 {F : Nat → Nat → Int32} {σ τ : hv_St} (h : rX F σ) (q : fr fA9 fB9 σ τ) : rX F τ := rX_fr h q (fun k hk => by rcases hk with rfl | rfl <;> omega)
theorem x0_extend_loop {n : Nat} (hn : 30 < n) {F : Nat → Nat → Int32} {P B O D W : Nat} (hi : hI F P B O D W) {S : Nat} (hS : S < 2 ^ 31) : ∀ (d k fuel : Nat) (σ : hv_St) (acc : List Nat) (A : Nat → md_V) (e : Int) (pr : Nat → Prop), k + d = B → d < fuel → rX F σ → tX F P B σ acc A e → sX B σ acc pr → (∀ j, k ≤ j → S.testBit j = true → j ∉ acc ∧ ¬ pr j) → ∃ τ A' e', kX0_extend_2 n fuel σ (nI S) (nI k) = some τ ∧ fr fA9 fB9 σ τ ∧ tX F P B τ (md_gr (fR F P) (fCol F P) acc ((List.range' k d).filter (fun j => S.testBit j))) A' e' ∧ sX B τ (md_gr (fR F P) (fCol F P) acc ((List.range' k d).filter (fun j => S.testBit j))) (fun j => pr j ∨ (k ≤ j ∧ j < B ∧ S.testBit j = true)) := by
  have hB := hi.2.1.2
  intro d
  induction d with
  | zero =>
    intro k fuel σ acc A e pr hk hf hx ht hs _
    obtain ⟨fuel, rfl⟩ : ∃ q, fuel = q + 1 := ⟨fuel - 1, by omega⟩
    have hbX : σ.1 1 1 = nI B := hx.1.2.1.trans hi.2.1.1
    refine ⟨σ, A, e, ?_, fr_rfl, ht, sX_congr hs (fun j => ⟨Or.inl, fun q => ?_⟩)⟩
    · show kX0_extend_2_b n _ _ _ _ = _
      unfold kX0_extend_2_b
      rw [hbX, if_pos (nI_le (by omega) (by omega))]
    · rcases q with q | q
      · exact q
      · omega
  | succ d ih =>
    intro k fuel σ acc A e pr hk hf hx ht hs hq
    obtain ⟨fuel, rfl⟩ : ∃ q, fuel = q + 1 := ⟨fuel - 1, by omega⟩
    have hbX : σ.1 1 1 = nI B := hx.1.2.1.trans hi.2.1.1
    have hb := fB_iff hS (show k < 31 by omega)
    by_cases h : S.testBit k = true
    · obtain ⟨τ1, A1, e1, c1, c2, c3, c4⟩ := x0_take hn hi hx ht hs (show k < B by omega) (hq k (Nat.le_refl _) h).1 (hq k (Nat.le_refl _) h).2
      obtain ⟨τ, A', e', t1, t2, t3, t4⟩ := ih (k + 1) fuel τ1 _ A1 e1 _ (by omega) (by omega) (rX9 hx c2) c3 c4 (fun j hj hjS => by
        have q := hq j (by omega) hjS
        refine ⟨fun hm => ?_, fun hp => ?_⟩
        · rcases md_gr_mem hm with hm | hm
          · exact q.1 hm
          · have := List.mem_singleton.mp hm
            omega
        · rcases hp with hp | hp
          · exact q.2 hp
          · omega)
      have el : (List.range' k (d + 1)).filter (fun j => S.testBit j) = [k] ++ (List.range' (k + 1) d).filter (fun j => S.testBit j) := by
        rw [List.range'_succ, List.filter_cons_of_pos h]
        rfl
      refine ⟨τ, A', e', ?_, fr_tr c2 t2, ?_, ?_⟩
      · show kX0_extend_2_b n _ _ _ _ = _
        unfold kX0_extend_2_b kX0_extend_26
        rw [hbX, if_neg (nI_ge (by omega) (by omega)), (x7_has _ _).1 (hb.mpr h), hv_b2_e, if_neg (by decide), c1, hv_bd_e, nI_1]
        exact t1
      · rw [el, md_gr_app]
        exact t3
      · rw [el, md_gr_app]
        refine sX_congr t4 (fun j => ?_)
        constructor
        · rintro ((q | rfl) | q)
          · exact Or.inl q
          · exact Or.inr ⟨Nat.le_refl _, by omega, h⟩
          · exact Or.inr ⟨by omega, q.2⟩
        · rintro (q | q)
          · exact Or.inl (Or.inl q)
          · by_cases ej : j = k
            · exact Or.inl (Or.inr ej)
            · exact Or.inr ⟨by omega, q.2⟩
    · obtain ⟨τ, A', e', t1, t2, t3, t4⟩ := ih (k + 1) fuel σ acc A e pr (by omega) (by omega) hx ht hs (fun j hj hjS => hq j (by omega) hjS)
      have el : (List.range' k (d + 1)).filter (fun j => S.testBit j) = (List.range' (k + 1) d).filter (fun j => S.testBit j) := by
        rw [List.range'_succ, List.filter_cons_of_neg h]
      refine ⟨τ, A', e', ?_, t2, ?_, ?_⟩
      · show kX0_extend_2_b n _ _ _ _ = _
        unfold kX0_extend_2_b kX0_extend_26
        rw [hbX, if_neg (nI_ge (by omega) (by omega)), (x7_has _ _).2 (fun q => h (hb.mp q)), hv_b2_e, if_pos rfl, nI_1]
        exact t1
      · rw [el]
        exact t3
      · rw [el]
        refine sX_congr t4 (fun j => ?_)
        constructor
        · rintro (q | q)
          · exact Or.inl q
          · exact Or.inr ⟨by omega, q.2⟩
        · rintro (q | q)
          · exact Or.inl q
          · by_cases ej : j = k
            · exact absurd (ej ▸ q.2.2) h
            · exact Or.inr ⟨by omega, q.2⟩
theorem x0_extend {n : Nat} (hn : 30 < n) {F : Nat → Nat → Int32} {P B O D W : Nat} (hi : hI F P B O D W) {S : Nat} (hS : S < 2 ^ 31) {σ : hv_St} {acc : List Nat} {A : Nat → md_V} {e : Int} {pr : Nat → Prop} (hx : rX F σ) (ht : tX F P B σ acc A e) (hs : sX B σ acc pr) (hq : ∀ j, S.testBit j = true → j ∉ acc ∧ ¬ pr j) : ∃ τ A' e', mX0_extend n σ (nI S) = some τ ∧ fr fA9 fB9 σ τ ∧ tX F P B τ (md_gr (fR F P) (fCol F P) acc (fBl S B)) A' e' ∧ sX B τ (md_gr (fR F P) (fCol F P) acc (fBl S B)) (fun j => pr j ∨ (j < B ∧ S.testBit j = true)) := by
  have hB := hi.2.1.2
  obtain ⟨τ, A', e', t1, t2, t3, t4⟩ := x0_extend_loop hn hi hS B 0 n σ acc A e pr (by omega) (by omega) hx ht hs (fun j _ h => hq j h)
  rw [← List.range_eq_range'] at t3 t4
  exact ⟨τ, A', e', t1, t2, t3, sX_congr t4 (fun j => or_congr Iff.rfl ⟨fun q => q.2, fun q => ⟨Nat.zero_le _, q⟩⟩)⟩
def fA11 (k : Nat) : Prop := k = 9 ∨ k = 11 ∨ k = 12
theorem x0_settle_loop {n : Nat} (hn : 30 < n) {F : Nat → Nat → Int32} {P B O D W : Nat} (hi : hI F P B O D W) {S : Nat} (hS : S < 2 ^ 31) : ∀ (d r fuel : Nat) (σ : hv_St), r + d = fN' F P → d < fuel → rX F σ → σ.1 9 4 = nI (fN' F P) → (∀ j, j < fN' F P → σ.1 11 j = nI ((fL F (2 * P)).getD j 0)) → (∀ i c, i < r → c < B + fN' F P → σ.2 (27 + i) c = iL (fXc F P B c i)) → ∃ τ A e, kX0_settle_6 n fuel σ (nI S) (nI r) = some τ ∧ fr fA9 fB9 σ τ ∧ tX F P B τ (fBase F P (fBl S B)) A e ∧ sX B τ (fBase F P (fBl S B)) (fun j => j < B ∧ S.testBit j = true) := by
  have hP := hi.1.2
  have hB := hi.2.1.2
  have hl : fN' F P ≤ 2 * P := fL_le F (2 * P)
  intro d
  induction d with
  | zero =>
    intro r fuel σ hr hf hx h1 h2 h3
    obtain ⟨fuel, rfl⟩ : ∃ q, fuel = q + 1 := ⟨fuel - 1, by omega⟩
    let σ' := hv_sJ (hv_sI (hv_sI (hv_sI σ 9 5 0) 9 6 0) 9 7 0) 9 8 1
    have hf' : fr fA9 fB9 σ σ' := fr_J' (fr_I' (fr_I' (fr_I (Or.inl rfl) _ _) (Or.inl rfl) _ _) (Or.inl rfl) _ _) (Or.inl rfl) _ _
    have e4 : σ'.1 9 4 = nI (fN' F P) := by
      show (hv_sI (hv_sI (hv_sI σ 9 5 0) 9 6 0) 9 7 0).1 9 4 = _
      rw [hv_sI_rd, if_neg (by decide), hv_sI_rd, if_neg (by decide), hv_sI_rd, if_neg (by decide)]
      exact h1
    have e5 : σ'.1 9 5 = nI 0 := by
      show (hv_sI (hv_sI (hv_sI σ 9 5 0) 9 6 0) 9 7 0).1 9 5 = _
      rw [hv_sI_rd, if_neg (by decide), hv_sI_rd, if_neg (by decide), hv_sI_rd, if_pos rfl]
      rfl
    have e6 : σ'.1 9 6 = nI 0 := by
      show (hv_sI (hv_sI (hv_sI σ 9 5 0) 9 6 0) 9 7 0).1 9 6 = _
      rw [hv_sI_rd, if_neg (by decide), hv_sI_rd, if_pos rfl]
      rfl
    have e7 : σ'.1 9 7 = nI 0 := by
      show (hv_sI (hv_sI (hv_sI σ 9 5 0) 9 6 0) 9 7 0).1 9 7 = _
      rw [hv_sI_rd, if_pos rfl]
      rfl
    have ht : tX F P B σ' [] md_e 1 := by
      refine ⟨Or.inl rfl, by rw [md_dt_e]; decide, fun k hk => ⟨B + k, by omega, ?_⟩, Nat.zero_le _, fun j hj => absurd hj (Nat.not_lt_zero _), e4, e5, ?_, fun i c hi' hc => ?_⟩
      · unfold fXc
        rw [if_neg (by omega), Nat.add_sub_cancel_left]
      · rw [md_dt_e]
        show (hv_sJ _ 9 8 1).2 9 8 = _
        rw [hv_sJ_rd, if_pos rfl]
        rfl
      · show (hv_sJ _ 9 8 1).2 (27 + i) c = _
        rw [hv_sJ_ne _ _ _ (by omega)]
        show σ.2 (27 + i) c = _
        have eN : fN' F P = (fL F (2 * P)).length := rfl
        rw [h3 i c (by omega) hc]
        unfold md_T
        rw [md_T_e hi', Int.one_mul]
    have hs : sX B σ' [] (fun _ => False) := ⟨0, 0, e6, Nat.two_pow_pos _, fun b => by simp, e7, Nat.two_pow_pos _, fun b => by simp⟩
    obtain ⟨τ, A', e', t1, t2, t3, t4⟩ := x0_extend hn hi hS (rX9 hx hf') ht hs (fun j _ => ⟨by simp, fun h => h⟩)
    refine ⟨τ, A', e', ?_, fr_tr hf' t2, t3, sX_congr t4 (fun j => ⟨fun q => q.resolve_left (fun h => h), Or.inr⟩)⟩
    show kX0_settle_6_b n _ _ _ _ = _
    unfold kX0_settle_6_b
    rw [h1, if_pos (nI_le (by omega) (by omega))]
    show hv_bd (mX0_extend n σ' (nI S)) (fun s47 => some s47) = _
    rw [t1]
    rfl
  | succ d ih =>
    intro r fuel σ hr hf hx h1 h2 h3
    obtain ⟨fuel, rfl⟩ : ∃ q, fuel = q + 1 := ⟨fuel - 1, by omega⟩
    obtain ⟨g, g1, g2⟩ := x0_layRow (n := n) (by omega) hi hx (r := r) h1 (by show r < fN' F P; omega) (h2 r (by omega)) B 0 n (σ.2 (27 + r)) (by omega) (by omega) (fun c hc => absurd hc (Nat.not_lt_zero _))
    rw [hv_wJ_self] at g1
    have hf' : fr fA9 fB9 σ (hv_wJ σ (27 + r) g) := fr_wJ (Or.inr ⟨by omega, by omega⟩) g
    obtain ⟨τ, A, e, t1, t2, t3, t4⟩ := ih (r + 1) fuel (hv_wJ σ (27 + r) g) (by omega) (by omega) (rX9 hx hf') h1 h2 (fun i c hi' hc => by
      by_cases ei : i = r
      · rw [ei, hv_wJ_at]
        exact g2 c hc
      · rw [hv_wJ_ne _ _ (by omega)]
        exact h3 i c (by omega) hc)
    refine ⟨τ, A, e, ?_, fr_tr hf' t2, t3, t4⟩
    show kX0_settle_6_b n _ _ _ _ = _
    unfold kX0_settle_6_b
    rw [h1, if_neg (nI_ge (by omega) (by omega))]
    show hv_bd (kX0_layRow_2 n n σ (nI r) (nI 0)) _ = _
    rw [g1, hv_bd_e, nI_1]
    exact t1
/-- what a settled table is -/
def zX (F : Nat → Nat → Int32) (P B : Nat) (S : Nat) (τ : hv_St) : Prop := ∃ A e, tX F P B τ (fBase F P (fBl S B)) A e ∧ sX B τ (fBase F P (fBl S B)) (fun j => j < B ∧ S.testBit j = true) ∧ ∀ j, j < fN' F P → τ.1 11 j = nI ((fL F (2 * P)).getD j 0)
theorem x0_settle {n : Nat} (hn : 30 < n) {F : Nat → Nat → Int32} {P B O D W : Nat} (hi : hI F P B O D W) {S : Nat} (hS : S < 2 ^ 31) {σ : hv_St} (hx : rX F σ) : ∃ τ, mX0_settle n σ (nI S) = some τ ∧ fr fA11 fB9 σ τ ∧ rX F τ ∧ zX F P B S τ := by
  have hP := hi.1.2
  have hl : fN' F P ≤ 2 * P := fL_le F (2 * P)
  obtain ⟨τ1, a1, a2, a3, a4⟩ := x0_findFree (n := n) (by omega) hP hi.1.1 hx
  have hx1 : rX F τ1 := rX_fr hx a2 (fun k hk => by rcases hk with rfl | rfl <;> omega)
  obtain ⟨τ, A, e, t1, t2, t3, t4⟩ := x0_settle_loop hn hi hS (fN' F P) 0 n τ1 (by omega) (by omega) hx1 a3 a4 (fun i c h => absurd h (Nat.not_lt_zero _))
  refine ⟨τ, ?_, ?_, rX9 hx1 t2, A, e, t3, t4, fun j hj => ?_⟩
  · unfold mX0_settle
    rw [a1, hv_bd_e]
    exact t1
  · refine fr_tr (fr_mono a2 ?_ (fun _ h => h.elim)) (fr_mono t2 ?_ (fun _ h => h))
    · rintro k (h | h)
      · exact Or.inl h
      · exact Or.inr (Or.inl h)
    · rintro k (h | h)
      · exact Or.inl h
      · exact Or.inr (Or.inr h)
  · rw [t2.1 11 (by unfold fA9; decide)]
    exact a4 j hj
end
section
/-! the reference's rows in least terms -/
def gcdK (V : Nat → Int) : Nat → Nat
  | 0 => 0
  | k + 1 => Int.gcd (gcdK V k : Int) (V k)
theorem gcdK_le {V : Nat → Int} {M : Nat} : ∀ N, (∀ k, k < N → (V k).natAbs ≤ M) → gcdK V N ≤ M
  | 0, _ => Nat.zero_le _
  | N + 1, h => by
    have h1 := gcdK_le N (fun k hk => h k (by omega))
    have h2 := h N (by omega)
    show Int.gcd (gcdK V N : Int) (V N) ≤ M
    by_cases e : V N = 0
    · rw [e, Int.gcd_zero_right]
      simpa using h1
    · refine Nat.le_trans (Nat.le_of_dvd (by omega) ?_) h2
      exact Int.gcd_dvd_natAbs_right _ _
theorem gcdK_dvd {V : Nat → Int} : ∀ N k, k < N → (gcdK V N : Int) ∣ V k
  | 0, _, h => absurd h (Nat.not_lt_zero _)
  | N + 1, k, h => by
    show (Int.gcd (gcdK V N : Int) (V N) : Int) ∣ V k
    by_cases e : k = N
    · rw [e]
      exact Int.gcd_dvd_right _ _
    · exact Int.dvd_trans (Int.gcd_dvd_left _ _) (gcdK_dvd N k (by omega))
theorem gcdK_mul (c : Int) (V : Nat → Int) : ∀ N, gcdK (fun k => c * V k) N = c.natAbs * gcdK V N
  | 0 => rfl
  | N + 1 => by
    show Int.gcd (gcdK (fun k => c * V k) N : Int) (c * V N) = c.natAbs * Int.gcd (gcdK V N : Int) (V N)
    rw [gcdK_mul c V N, ← Int.gcd_mul_left]
    rcases Int.natAbs_eq c with e | e
    · rw [Int.natCast_mul]
      rw [← e]
    · have e2 : ((c.natAbs * gcdK V N : Nat) : Int) = -(c * (gcdK V N : Int)) := by
        rw [Int.natCast_mul]
        have e3 : (c.natAbs : Int) = -c := by omega
        rw [e3, Int.neg_mul]
      rw [e2, Int.neg_gcd]
theorem gcdK_congr {V U : Nat → Int} : ∀ N, (∀ k, k < N → V k = U k) → gcdK V N = gcdK U N
  | 0, _ => rfl
  | N + 1, h => by
    show Int.gcd (gcdK V N : Int) (V N) = Int.gcd (gcdK U N : Int) (U N)
    rw [gcdK_congr N (fun k hk => h k (by omega)), h N (by omega)]
/-- a row in least terms is no greater than any that is proportional to it -/
theorem prim_le {W w : Nat → Int} {N : Nat} (hg : gcdK W N ≤ 1) {p q : Int} (hp : p ≠ 0) (hq : q ≠ 0) (h : ∀ k, k < N → p * W k = q * w k) {k : Nat} (hk : k < N) : (W k).natAbs ≤ (w k).natAbs := by
  have e1 : p.natAbs * gcdK W N = q.natAbs * gcdK w N := by
    rw [← gcdK_mul, ← gcdK_mul]
    exact gcdK_congr N h
  have e2 : p.natAbs * (W k).natAbs = q.natAbs * (w k).natAbs := by
    rw [← Int.natAbs_mul, ← Int.natAbs_mul, h k hk]
  by_cases g0 : gcdK W N = 0
  · have d := gcdK_dvd N k hk (V := W)
    rw [g0] at d
    have : W k = 0 := by simpa using d
    rw [this]
    exact Nat.zero_le _
  · have g1 : gcdK W N = 1 := by omega
    rw [g1, Nat.mul_one] at e1
    rw [e1, Nat.mul_assoc] at e2
    have q0 : 0 < q.natAbs := by omega
    have e3 : gcdK w N * (W k).natAbs = (w k).natAbs := Nat.eq_of_mul_eq_mul_left q0 e2
    have w0 : 0 < gcdK w N := Nat.pos_of_ne_zero (fun z => by rw [z] at e1; omega)
    rw [← e3]
    exact Nat.le_mul_of_pos_left _ w0
def rRow (N row : Nat) (f : Nat → Int64) (V : Nat → Int) : Prop := ∀ k, k < N → f (12 * row + k) = iL (V k)
theorem r8_less_5 {n : Nat} (hn : 200 ≤ n) {σ : hv_St} {N row : Nat} (hN : σ.1 0 18 = nI N) (hN12 : N ≤ 12) (hr : row < 12) {f : Nat → Int64} {V : Nat → Int} (hf : rRow N row f V) (hV : ∀ k, k < N → (V k).natAbs ≤ 2 ^ 62) : ∀ (d k fuel : Nat), k + d = N → d < fuel → kX8_lessens_5 n fuel (hv_wJ σ 13 f) (nI row) (iL ((gcdK V k : Nat) : Int)) (nI k) = kX8_lessens_40 n n (hv_wJ σ 13 f) (nI row) (iL ((gcdK V N : Nat) : Int)) (nI 0) := by
  intro d
  induction d with
  | zero =>
    intro k fuel hk hfu
    obtain ⟨fuel, rfl⟩ : ∃ q, fuel = q + 1 := ⟨fuel - 1, by omega⟩
    obtain rfl : k = N := by omega
    show kX8_lessens_5_b n _ _ _ _ _ = _
    unfold kX8_lessens_5_b
    rw [hv_wJ_1, hN, if_pos (nI_le (Nat.le_refl _) (by omega))]
    rfl
  | succ d ih =>
    intro k fuel hk hfu
    obtain ⟨fuel, rfl⟩ : ∃ q, fuel = q + 1 := ⟨fuel - 1, by omega⟩
    have g1 := gcdK_le (V := V) k (fun j hj => hV j (by omega))
    show kX8_lessens_5_b n _ _ _ _ _ = _
    unfold kX8_lessens_5_b
    rw [hv_wJ_1, hN, if_neg (nI_ge (by omega) (by omega)), nI_12, hv_if_t (hv_ok_nI (show 12 * row + k < 144 by omega) (by decide)), nI_clamp (by omega), hv_wJ_at, hf k (by omega), r8_common hn (rL_of (by simpa using g1)) (rL_of (hV k (by omega))), hv_b2_e, nI_1]
    exact ih (k + 1) fuel (by omega) (by omega)
theorem lg_le1 {a : Int} (h : rL a) : lg_cmp (iL a) (1 : Int64) ≤ 0 ↔ a ≤ 1 := by
  have e1 : (1 : Int64) = iL 1 := rfl
  have l := iL_lt (a := 1) (b := a) ⟨by decide, by decide⟩ h
  unfold lg_cmp
  rw [e1]
  by_cases h1 : iL 1 < iL a
  · rw [if_pos h1]
    have := l.mp h1
    exact ⟨fun q => absurd q (by decide), fun q => by omega⟩
  · rw [if_neg h1]
    have h2 : ¬ 1 < a := fun q => h1 (l.mpr q)
    by_cases h3 : iL a = iL 1
    · rw [if_pos h3]
      exact ⟨fun _ => by omega, fun _ => by decide⟩
    · rw [if_neg h3]
      exact ⟨fun _ => by omega, fun _ => by decide⟩
theorem r8_less_40 {n : Nat} {σ : hv_St} {N row : Nat} (hN : σ.1 0 18 = nI N) (hN12 : N ≤ 12) (hr : row < 12) {V W : Nat → Int} {c : Int} (hc : 1 < c) (hcr : rL c) (hW : ∀ k, k < N → V k = c * W k) (hV : ∀ k, k < N → rL (V k)) : ∀ (d k fuel : Nat) (f : Nat → Int64), k + d = N → d < fuel → (∀ j, j < N → f (12 * row + j) = iL (if j < k then W j else V j)) → ∃ g, kX8_lessens_40 n fuel (hv_wJ σ 13 f) (nI row) (iL c) (nI k) = some (hv_wJ σ 13 g) ∧ rRow N row g W ∧ ∀ i, (i < 12 * row ∨ 12 * row + N ≤ i) → g i = f i := by
  intro d
  induction d with
  | zero =>
    intro k fuel f hk hfu hf
    obtain ⟨fuel, rfl⟩ : ∃ q, fuel = q + 1 := ⟨fuel - 1, by omega⟩
    refine ⟨f, ?_, fun j hj => by rw [hf j hj, if_pos (by omega)], fun _ _ => rfl⟩
    show kX8_lessens_40_b n _ _ _ _ _ = _
    unfold kX8_lessens_40_b
    rw [hv_wJ_1, hN, if_pos (nI_le (by omega) (by omega))]
  | succ d ih =>
    intro k fuel f hk hfu hf
    obtain ⟨fuel, rfl⟩ : ∃ q, fuel = q + 1 := ⟨fuel - 1, by omega⟩
    have hfk := hf k (by omega)
    rw [if_neg (Nat.lt_irrefl k)] at hfk
    have hd : (V k).tdiv c = W k := by
      rw [hW k (by omega)]
      exact Int.mul_tdiv_cancel_left _ (by omega)
    obtain ⟨g, g1, g2, g3⟩ := ih (k + 1) fuel (vp_updL f (12 * row + k) (iL (W k))) (by omega) (by omega) (fun j hj => by
      by_cases e : j = k
      · rw [e, pk_uLs, if_pos (by omega)]
      · rw [pk_uLn (by omega), hf j hj]
        by_cases l : j < k
        · rw [if_pos l, if_pos (by omega)]
        · rw [if_neg l, if_neg (by omega)])
    refine ⟨g, ?_, g2, fun i hi => ?_⟩
    · show kX8_lessens_40_b n _ _ _ _ _ = _
      unfold kX8_lessens_40_b
      have c0 : ¬ iL c = 0 := fun q => by
        have := (iL_eq hcr ⟨by decide, by decide⟩ (b := 0)).mp q
        omega
      rw [hv_wJ_1, hN, if_neg (nI_ge (by omega) (by omega)), if_neg (fun q => by have := (lg_le1 hcr).mp q; omega), nI_12, hv_if_t (hv_ok_nI (show 12 * row + k < 144 by omega) (by decide)), hv_if_t (decide_eq_true c0), hv_if_t (hv_ok_nI (show 12 * row + k < 144 by omega) (by decide)), nI_clamp (by omega), hv_let_e, hv_wJ_at, hfk, iL_div (hV k (by omega)) hcr, hd, hv_sJ_wJ, nI_1]
      exact g1
    · rw [g3 i hi, pk_uLn (by omega)]
theorem r8_lessens {n : Nat} (hn : 200 ≤ n) {σ : hv_St} {N row : Nat} (hN : σ.1 0 18 = nI N) (hN12 : N ≤ 12) (hr : row < 12) {f : Nat → Int64} {V : Nat → Int} (hf : rRow N row f V) (hV : ∀ k, k < N → (V k).natAbs ≤ 2 ^ 62) : ∃ g W c, mX8_lessens n (hv_wJ σ 13 f) (nI row) = some (hv_wJ σ 13 g) ∧ c ≠ 0 ∧ (∀ k, k < N → V k = c * W k) ∧ gcdK W N ≤ 1 ∧ rRow N row g W ∧ ∀ i, (i < 12 * row ∨ 12 * row + N ≤ i) → g i = f i := by
  have h5 := r8_less_5 (n := n) hn hN hN12 hr hf hV N 0 n (by omega) (by omega)
  have hgl := gcdK_le (V := V) N hV
  have e0 : mX8_lessens n (hv_wJ σ 13 f) (nI row) = kX8_lessens_40 n n (hv_wJ σ 13 f) (nI row) (iL ((gcdK V N : Nat) : Int)) (nI 0) := h5
  rw [e0]
  have hgr : rL ((gcdK V N : Nat) : Int) := rL_of (by simpa using hgl)
  by_cases h1 : gcdK V N ≤ 1
  · refine ⟨f, V, 1, ?_, by decide, fun k _ => (Int.one_mul _).symm, h1, hf, fun _ _ => rfl⟩
    obtain ⟨m, rfl⟩ : ∃ q, n = q + 1 := ⟨n - 1, by omega⟩
    show kX8_lessens_40_b (m + 1) _ _ _ _ _ = _
    unfold kX8_lessens_40_b
    by_cases l : (hv_wJ σ 13 f).1 0 18 ≤ nI 0
    · rw [if_pos l]
    · rw [if_neg l, if_pos ((lg_le1 hgr).mpr (by omega))]
  · have hd := fun k hk => gcdK_dvd (V := V) N k hk
    have hW : ∀ k, k < N → V k = ((gcdK V N : Nat) : Int) * (V k / ((gcdK V N : Nat) : Int)) := fun k hk => (Int.mul_ediv_cancel' (hd k hk)).symm
    obtain ⟨g, g1, g2, g3⟩ := r8_less_40 (n := n) hN hN12 hr (V := V) (W := fun k => V k / ((gcdK V N : Nat) : Int)) (c := ((gcdK V N : Nat) : Int)) (by omega) hgr hW (fun k hk => rL_of (hV k hk)) N 0 n f (by omega) (by omega) (fun k hk => by rw [if_neg (Nat.not_lt_zero k)]; exact hf k hk)
    refine ⟨g, _, _, g1, by omega, hW, ?_, g2, g3⟩
    have e := gcdK_mul ((gcdK V N : Nat) : Int) (fun k => V k / ((gcdK V N : Nat) : Int)) N
    rw [← gcdK_congr N hW, Int.natAbs_natCast] at e
    have e2 : gcdK V N * 1 = gcdK V N * gcdK (fun k => V k / ((gcdK V N : Nat) : Int)) N := by rw [← e, Nat.mul_one]
    have := Nat.eq_of_mul_eq_mul_left (by omega) e2
    omega
end
section
/-! the reference's rows: is a bar new -/
def bA (Y : Nat → md_V) (ld : Nat → Nat) : Nat → Nat → md_V
  | 0 => md_e
  | r + 1 => md_up (bA Y ld r) (ld r) (Y r)
theorem bA_congr {Y Y' : Nat → md_V} {ld ld' : Nat → Nat} : ∀ r, (∀ j, j < r → Y j = Y' j ∧ ld j = ld' j) → bA Y ld r = bA Y' ld' r
  | 0, _ => rfl
  | r + 1, h => by
    show md_up (bA Y ld r) (ld r) (Y r) = md_up (bA Y' ld' r) (ld' r) (Y' r)
    rw [bA_congr r (fun j hj => h j (by omega)), (h r (by omega)).1, (h r (by omega)).2]
def rT (N : Nat) (Y : Nat → md_V) (ld : Nat → Nat) (W : Nat → Nat → Int) (L : Nat) : Prop := ∀ r, r < L → ld r < N ∧ W r (ld r) ≠ 0 ∧ (∀ k, k < ld r → W r k = 0) ∧ (∀ j, j < r → W r (ld j) = 0) ∧ (∀ k, k < N → (W r k).natAbs ≤ 2 ^ 28) ∧ ∃ p q : Int, p ≠ 0 ∧ q ≠ 0 ∧ ∀ k, k < N → (∀ j, j < r → ld j ≠ k) → p * W r k = q * md_T (List.range N) N (bA Y ld r) (Y r) k
theorem rT_inj {N : Nat} {Y : Nat → md_V} {ld : Nat → Nat} {W : Nat → Nat → Int} {L : Nat} (h : rT N Y ld W L) : ∀ i j, i < L → j < L → ld i = ld j → i = j := by
  intro i j hi hj e
  rcases Nat.lt_trichotomy i j with l | l | l
  · have q := h j hj
    exact absurd (q.2.2.2.1 i l) (by rw [e]; exact q.2.1)
  · exact l
  · have q := h i hi
    exact absurd (q.2.2.2.1 j l) (by rw [← e]; exact q.2.1)
theorem rT_dt {N : Nat} {Y : Nat → md_V} {ld : Nat → Nat} {W : Nat → Nat → Int} {L : Nat} (h : rT N Y ld W L) : ∀ r, r ≤ L → md_dt (List.range N) (bA Y ld r) N ≠ 0
  | 0, _ => by
    show md_dt (List.range N) md_e N ≠ 0
    rw [md_dt_e]
    decide
  | r + 1, hr => by
    obtain ⟨h1, h2, h3, h4, h5, p, q, hp, hq, h6⟩ := h r (by omega)
    have e := h6 (ld r) h1 (fun j hj e => by have := rT_inj h j r (by omega) (by omega) e; omega)
    intro z
    have z2 : md_T (List.range N) N (bA Y ld r) (Y r) (ld r) = 0 := z
    rw [z2, Int.mul_zero] at e
    rcases Int.mul_eq_zero.mp e with e | e
    · exact hp e
    · exact h2 e
theorem rT_at {N : Nat} {Y : Nat → md_V} {ld : Nat → Nat} {W : Nat → Nat → Int} {L : Nat} (h : rT N Y ld W L) : ∀ r, r ≤ L → ∀ j, j < r → bA Y ld r (ld j) = Y j
  | 0, _, j, hj => absurd hj (Nat.not_lt_zero _)
  | r + 1, hr, j, hj => by
    show md_up (bA Y ld r) (ld r) (Y r) (ld j) = Y j
    by_cases e : j = r
    · rw [e, md_up_at]
    · rw [md_up_ne _ _ (fun q => e (rT_inj h j r (by omega) (by omega) q)), rT_at h r (by omega) j (by omega)]
theorem rT_tb {N : Nat} {C : Nat → md_V} {acc : List Nat} {ld : Nat → Nat} {W : Nat → Nat → Int} (h : rT N (fun j => C (acc.getD j 0)) ld W acc.length) : md_tb (List.range N) N C (bA (fun j => C (acc.getD j 0)) ld acc.length) ld acc :=
  ⟨rT_dt h _ (Nat.le_refl _), fun j hj => ⟨(h j hj).1, rT_at h _ (Nat.le_refl _) j hj⟩, fun i j hi hj e => rT_inj h i j hi hj e⟩
theorem rT_le {N : Nat} {Y : Nat → md_V} {ld : Nat → Nat} {W : Nat → Nat → Int} {L : Nat} (h : rT N Y ld W L) : L ≤ N := by
  have q := pig N ((List.range L).map ld) (by
    refine List.Pairwise.map _ (R := fun i j => i < L ∧ j < L ∧ i ≠ j) (fun i j hij e => hij.2.2 (rT_inj h i j hij.1 hij.2.1 e)) ?_
    exact List.Pairwise.imp_of_mem (fun {a b} ha hb hab => ⟨List.mem_range.mp ha, List.mem_range.mp hb, hab⟩) (List.nodup_range (n := L))) (fun x hx => by
    obtain ⟨i, hi, rfl⟩ := List.mem_map.mp hx
    exact (h i (List.mem_range.mp hi)).1)
  simp at q
  exact q
/-- full: each place is a lead -/
theorem rT_full {N : Nat} {Y : Nat → md_V} {ld : Nat → Nat} {W : Nat → Nat → Int} (h : rT N Y ld W N) {k : Nat} (hk : k < N) : ∃ j, j < N ∧ ld j = k := by
  refine Classical.byContradiction fun hn => ?_
  have q := pig N (k :: (List.range N).map ld) (by
    rw [List.nodup_cons]
    refine ⟨fun hm => ?_, ?_⟩
    · obtain ⟨i, hi, e⟩ := List.mem_map.mp hm
      exact hn ⟨i, List.mem_range.mp hi, e⟩
    · refine List.Pairwise.map _ (R := fun i j => i < N ∧ j < N ∧ i ≠ j) (fun i j hij e => hij.2.2 (rT_inj h i j hij.1 hij.2.1 e)) ?_
      exact List.Pairwise.imp_of_mem (fun {a b} ha hb hab => ⟨List.mem_range.mp ha, List.mem_range.mp hb, hab⟩) (List.nodup_range (n := N))) (fun x hx => by
    rcases List.mem_cons.mp hx with rfl | hx
    · exact hk
    · obtain ⟨i, hi, rfl⟩ := List.mem_map.mp hx
      exact (h i (List.mem_range.mp hi)).1)
  simp at q
  omega
theorem bA_fXs {F : Nat → Nat → Int32} {P B : Nat} {Y : Nat → md_V} {ld : Nat → Nat} : ∀ r, (∀ j, j < r → ∃ c, c < B ∧ Y j = fCol F P c) → fXs F P B (bA Y ld r)
  | 0, _ => fun k hk => ⟨B + k, by omega, by
    unfold fXc
    rw [if_neg (by omega), Nat.add_sub_cancel_left]
    rfl⟩
  | r + 1, h => by
    obtain ⟨c, hc, e⟩ := h r (by omega)
    show fXs F P B (md_up (bA Y ld r) (ld r) (Y r))
    rw [e, ← fXc_bar hc]
    exact fXs_up (bA_fXs r (fun j hj => h j (by omega))) (by omega) _
theorem iL_0 {a : Int} (h : rL a) : lg_cmp (iL a) (0 : Int64) = 0 ↔ a = 0 := by
  rw [lg_cmp0, show (0 : Int64) = iL 0 from rfl, iL_eq h ⟨by decide, by decide⟩]
theorem r8_new_60 {n : Nat} {r2 : hv_St → Int32 → Int32 → Option (Int32 × hv_St)} {σ : hv_St} {N L r : Nat} (hN : σ.1 0 18 = nI N) (hN12 : N ≤ 12) (hL : L < 12) (hr : r < L) {v w : Nat → Int} {by' its : Int} (hi0 : its ≠ 0) (hir : rL its) : ∀ (d k fuel : Nat) (f : Nat → Int64), k + d = N → d < fuel → rRow N r f w → (∀ j, j < N → f (12 * L + j) = iL (if j < k then v j * by' - its * w j else v j)) → ∃ g, kX8_isNew_60 n r2 fuel (hv_wJ σ 13 f) (nI L) (nI r) (iL by') (iL its) (nI k) = kX8_isNew_125 n r2 (hv_wJ σ 13 g) (nI L) (nI r) ∧ rRow N L g (fun j => v j * by' - its * w j) ∧ ∀ i, (i < 12 * L ∨ 12 * L + N ≤ i) → g i = f i := by
  intro d
  induction d with
  | zero =>
    intro k fuel f hk hfu hw hf
    obtain ⟨fuel, rfl⟩ : ∃ q, fuel = q + 1 := ⟨fuel - 1, by omega⟩
    refine ⟨f, ?_, fun j hj => by rw [hf j hj, if_pos (by omega)], fun _ _ => rfl⟩
    show kX8_isNew_60_b n r2 _ _ _ _ _ _ _ = _
    unfold kX8_isNew_60_b
    rw [hv_wJ_1, hN, if_pos (nI_le (by omega) (by omega))]
  | succ d ih =>
    intro k fuel f hk hfu hw hf
    obtain ⟨fuel, rfl⟩ : ∃ q, fuel = q + 1 := ⟨fuel - 1, by omega⟩
    have hfk := hf k (by omega)
    rw [if_neg (Nat.lt_irrefl k)] at hfk
    obtain ⟨g, g1, g2, g3⟩ := ih (k + 1) fuel (vp_updL f (12 * L + k) (iL (v k * by' - its * w k))) (by omega) (by omega) (fun j hj => by
      rw [pk_uLn (by omega)]
      exact hw j hj) (fun j hj => by
      by_cases e : j = k
      · rw [e, pk_uLs, if_pos (by omega)]
      · rw [pk_uLn (by omega), hf j hj]
        by_cases l : j < k
        · rw [if_pos l, if_pos (by omega)]
        · rw [if_neg l, if_neg (by omega)])
    refine ⟨g, ?_, g2, fun i hi => ?_⟩
    · show kX8_isNew_60_b n r2 _ _ _ _ _ _ _ = _
      unfold kX8_isNew_60_b
      rw [hv_wJ_1, hN, if_neg (nI_ge (by omega) (by omega)), if_neg (fun q => hi0 ((iL_0 hir).mp q)), nI_12, nI_12, hv_if_t (hv_ok_nI (show 12 * L + k < 144 by omega) (by decide)), hv_if_t (hv_ok_nI (show 12 * r + k < 144 by omega) (by decide)), hv_if_t (hv_ok_nI (show 12 * L + k < 144 by omega) (by decide)), nI_clamp (by omega), nI_clamp (by omega), hv_let_e, hv_wJ_at, hfk, hw k (by omega), iL_mul, iL_mul, iL_sub, hv_sJ_wJ, nI_1]
      exact g1
    · rw [g3 i hi, pk_uLn (by omega)]
theorem r8_new_9 {n : Nat} {r2 : hv_St → Int32 → Int32 → Option (Int32 × hv_St)} {σ : hv_St} {N L r l : Nat} (hN12 : N ≤ 12) (hL : L < 12) (hr : r < L) (hl : l < N) {f : Nat → Int64} {v w : Nat → Int} (hw : rRow N r f w) (hv : rRow N L f v) (hz : ∀ k, k < l → w k = 0) (hnz : w l ≠ 0) (hwl : rL (w l)) : ∀ (d c fuel : Nat), c + d = l → d < fuel → kX8_isNew_9 n r2 fuel (hv_wJ σ 13 f) (nI L) (nI r) (nI c) = kX8_isNew_60 n r2 n (hv_wJ σ 13 f) (nI L) (nI r) (iL (w l)) (iL (v l)) (nI 0) := by
  intro d
  induction d with
  | zero =>
    intro c fuel hc hf
    obtain ⟨fuel, rfl⟩ : ∃ q, fuel = q + 1 := ⟨fuel - 1, by omega⟩
    obtain rfl : c = l := by omega
    show kX8_isNew_9_b n r2 _ _ _ _ _ = _
    unfold kX8_isNew_9_b
    rw [nI_12, nI_12, hv_if_t (hv_ok_nI (show 12 * r + c < 144 by omega) (by decide)), nI_clamp (by omega), hv_wJ_at, hw c hl, if_neg (fun q => hnz ((iL_0 hwl).mp q)), hv_if_t (hv_ok_nI (show 12 * r + c < 144 by omega) (by decide)), hv_let_e, hv_if_t (hv_ok_nI (show 12 * L + c < 144 by omega) (by decide)), hv_let_e, nI_clamp (by omega), hv c hl]
    rfl
  | succ d ih =>
    intro c fuel hc hf
    obtain ⟨fuel, rfl⟩ : ∃ q, fuel = q + 1 := ⟨fuel - 1, by omega⟩
    show kX8_isNew_9_b n r2 _ _ _ _ _ = _
    unfold kX8_isNew_9_b
    rw [nI_12, nI_12, hv_if_t (hv_ok_nI (show 12 * r + c < 144 by omega) (by decide)), nI_clamp (by omega), hv_wJ_at, hw c (by omega), hz c (by omega), if_pos ((iL_0 ⟨by decide, by decide⟩).mpr rfl), nI_1]
    exact ih (c + 1) fuel (by omega) (by omega)
theorem r8_new_138 {n : Nat} {σ : hv_St} {N L : Nat} (hN : σ.1 0 18 = nI N) (hN12 : N ≤ 12) (hL : L < 12) {f : Nat → Int64} {v : Nat → Int} (hv : rRow N L f v) (hb : ∀ k, k < N → rL (v k)) : ∀ (d k fuel : Nat), k + d = N → d < fuel → ((∃ j, k ≤ j ∧ j < N ∧ v j ≠ 0) → ∃ l, l < N ∧ v l ≠ 0 ∧ (∀ j, k ≤ j → j < l → v j = 0) ∧ kX8_isNew_138 n fuel (hv_wJ σ 13 f) (nI L) (nI k) = some (1, hv_wJ σ 13 f)) ∧ ((¬ ∃ j, k ≤ j ∧ j < N ∧ v j ≠ 0) → kX8_isNew_138 n fuel (hv_wJ σ 13 f) (nI L) (nI k) = some (0, hv_wJ σ 13 f)) := by
  intro d
  induction d with
  | zero =>
    intro k fuel hk hf
    obtain ⟨fuel, rfl⟩ : ∃ q, fuel = q + 1 := ⟨fuel - 1, by omega⟩
    refine ⟨fun ⟨j, h1, h2, _⟩ => by omega, fun _ => ?_⟩
    show kX8_isNew_138_b n _ _ _ _ = _
    unfold kX8_isNew_138_b
    rw [hv_wJ_1, hN, if_pos (nI_le (by omega) (by omega))]
  | succ d ih =>
    intro k fuel hk hf
    obtain ⟨fuel, rfl⟩ : ∃ q, fuel = q + 1 := ⟨fuel - 1, by omega⟩
    have hi := ih (k + 1) fuel (by omega) (by omega)
    have e : kX8_isNew_138 n (fuel + 1) (hv_wJ σ 13 f) (nI L) (nI k) = if v k = 0 then kX8_isNew_138 n fuel (hv_wJ σ 13 f) (nI L) (nI (k + 1)) else some (1, hv_wJ σ 13 f) := by
      show kX8_isNew_138_b n _ _ _ _ = _
      unfold kX8_isNew_138_b
      rw [hv_wJ_1, hN, if_neg (nI_ge (by omega) (by omega)), nI_12, hv_if_t (hv_ok_nI (show 12 * L + k < 144 by omega) (by decide)), nI_clamp (by omega), hv_wJ_at, hv k (by omega), nI_1]
      by_cases h : v k = 0
      · rw [if_pos ((iL_0 (hb k (by omega))).mpr h), if_pos h]
      · rw [if_neg (fun q => h ((iL_0 (hb k (by omega))).mp q)), if_neg h]
    rw [e]
    by_cases h : v k = 0
    · rw [if_pos h]
      refine ⟨fun ⟨j, h1, h2, h3⟩ => ?_, fun q => hi.2 (fun ⟨j, h1, h2, h3⟩ => q ⟨j, by omega, h2, h3⟩)⟩
      obtain ⟨l, l1, l2, l3, l4⟩ := hi.1 ⟨j, Nat.lt_of_le_of_ne h1 (fun e => h3 (e ▸ h)), h2, h3⟩
      refine ⟨l, l1, l2, fun j j1 j2 => ?_, l4⟩
      by_cases ej : j = k
      · rw [ej]; exact h
      · exact l3 j (by omega) j2
    · rw [if_neg h]
      exact ⟨fun _ => ⟨k, by omega, h, fun j h1 h2 => by omega, rfl⟩, fun q => absurd ⟨k, Nat.le_refl _, by omega, h⟩ q⟩
/-- the row lessened by the first r rows -/
def rV (N : Nat) (Y : Nat → md_V) (ld : Nat → Nat) (X : md_V) (r : Nat) (v : Nat → Int) : Prop := (∀ j, j < r → v (ld j) = 0) ∧ (∀ k, k < N → (v k).natAbs ≤ 2 ^ 28) ∧ ∃ p q : Int, p ≠ 0 ∧ q ≠ 0 ∧ ∀ k, k < N → (∀ j, j < r → ld j ≠ k) → p * v k = q * md_T (List.range N) N (bA Y ld r) X k
theorem rL_56 {a b c d : Int} (ha : a.natAbs ≤ 2 ^ 28) (hb : b.natAbs ≤ 2 ^ 28) (hc : c.natAbs ≤ 2 ^ 28) (hd : d.natAbs ≤ 2 ^ 28) : (a * b - c * d).natAbs ≤ 2 ^ 62 := by
  have h1 : (a * b).natAbs ≤ 2 ^ 56 := by
    rw [Int.natAbs_mul]
    exact Nat.le_trans (Nat.mul_le_mul ha hb) (by decide)
  have h2 : (c * d).natAbs ≤ 2 ^ 56 := by
    rw [Int.natAbs_mul]
    exact Nat.le_trans (Nat.mul_le_mul hc hd) (by decide)
  omega
theorem r8_new_step {n : Nat} (hn : 200 ≤ n) {σ : hv_St} {N L r : Nat} (hN : σ.1 0 18 = nI N) (hN12 : N ≤ 12) (hL : L < 12) (hr : r < L) {Y : Nat → md_V} {ld : Nat → Nat} {W : Nat → Nat → Int} (hT : rT N Y ld W L) {X : md_V} (hbd : ∀ k, k < N → (md_T (List.range N) N (bA Y ld (r + 1)) X k).natAbs ≤ 2 ^ 28) {f : Nat → Int64} (hW : rRow N r f (W r)) {v : Nat → Int} (hv : rRow N L f v) (hV : rV N Y ld X r v) (fuel : Nat) : ∃ g v', kX8_isNew_2 n (fuel + 1) (hv_wJ σ 13 f) (nI L) (nI r) = kX8_isNew_2 n fuel (hv_wJ σ 13 g) (nI L) (nI (r + 1)) ∧ rRow N L g v' ∧ rV N Y ld X (r + 1) v' ∧ ∀ i, (i < 12 * L ∨ 12 * L + N ≤ i) → g i = f i := by
  obtain ⟨t1, t2, t3, t4, t5, p', q', hp', hq', t6⟩ := hT r hr
  obtain ⟨v1, v2, p, q, hp, hq, v3⟩ := hV
  have hnl : ∀ j, j < r → ld j ≠ ld r := fun j hj e => by have := rT_inj hT j r (by omega) hr e; omega
  have hs := rT_dt hT r (by omega)
  have hpv : ∀ k, k < N → k ≠ ld r → md_dt (List.range N) (bA Y ld r) N * md_T (List.range N) N (bA Y ld (r + 1)) X k = md_T (List.range N) N (bA Y ld r) (Y r) (ld r) * md_T (List.range N) N (bA Y ld r) X k - md_T (List.range N) N (bA Y ld r) (Y r) k * md_T (List.range N) N (bA Y ld r) X (ld r) := fun k hk hkl => md_pv (bA Y ld r) hkl t1 hk (Y r) X
  have hTY : md_T (List.range N) N (bA Y ld r) (Y r) (ld r) ≠ 0 := rT_dt hT (r + 1) (by omega)
  -- the row ahead of its least terms
  have key : ∃ g0 u, kX8_isNew_2 n (fuel + 1) (hv_wJ σ 13 f) (nI L) (nI r) = kX8_isNew_125 n (kX8_isNew_2 n fuel) (hv_wJ σ 13 g0) (nI L) (nI r) ∧ rRow N L g0 u ∧ (∀ i, (i < 12 * L ∨ 12 * L + N ≤ i) → g0 i = f i) ∧ (∀ k, k < N → (u k).natAbs ≤ 2 ^ 62) ∧ (∀ j, j < r + 1 → u (ld j) = 0) ∧ ∃ a b : Int, a ≠ 0 ∧ b ≠ 0 ∧ ∀ k, k < N → (∀ j, j < r + 1 → ld j ≠ k) → a * u k = b * md_T (List.range N) N (bA Y ld (r + 1)) X k := by
    have e2 : kX8_isNew_2 n (fuel + 1) (hv_wJ σ 13 f) (nI L) (nI r) = kX8_isNew_60 n (kX8_isNew_2 n fuel) n (hv_wJ σ 13 f) (nI L) (nI r) (iL (W r (ld r))) (iL (v (ld r))) (nI 0) := by
      show kX8_isNew_2_b n _ _ _ _ = _
      unfold kX8_isNew_2_b
      rw [if_neg (nI_ge (by omega) (by omega))]
      exact r8_new_9 (n := n) hN12 hL hr t1 hW hv t3 t2 (rL_of (Nat.le_trans (t5 _ t1) (by decide))) (ld r) 0 n (by omega) (by omega)
    rw [e2]
    by_cases hz : v (ld r) = 0
    · refine ⟨f, v, ?_, hv, fun _ _ => rfl, fun k hk => Nat.le_trans (v2 k hk) (by decide), fun j hj => ?_, p * md_T (List.range N) N (bA Y ld r) (Y r) (ld r), q * md_dt (List.range N) (bA Y ld r) N, Int.mul_ne_zero hp hTY, Int.mul_ne_zero hq hs, fun k hk hj => ?_⟩
      · obtain ⟨m, rfl⟩ : ∃ q, n = q + 1 := ⟨n - 1, by omega⟩
        show kX8_isNew_60_b (m + 1) _ _ _ _ _ _ _ _ = _
        unfold kX8_isNew_60_b
        by_cases l : (hv_wJ σ 13 f).1 0 18 ≤ nI 0
        · rw [if_pos l]
        · rw [if_neg l, if_pos ((iL_0 (rL_of (by rw [hz]; decide))).mpr hz)]
      · by_cases e : j = r
        · rw [e]; exact hz
        · exact v1 j (by omega)
      · have a1 := v3 k hk (fun j h => hj j (by omega))
        have a2 := v3 (ld r) t1 hnl
        rw [hz, Int.mul_zero] at a2
        have a3 : md_T (List.range N) N (bA Y ld r) X (ld r) = 0 := (Int.mul_eq_zero.mp a2.symm).resolve_left hq
        have a4 := hpv k hk (fun e => hj r (by omega) e.symm)
        rw [a3, Int.mul_zero, Int.sub_zero] at a4
        rw [Int.mul_assoc q, a4, Int.mul_comm p, Int.mul_assoc, a1, Int.mul_left_comm]
    · obtain ⟨g, g1, g2, g3⟩ := r8_new_60 (n := n) (r2 := kX8_isNew_2 n fuel) hN hN12 hL hr (v := v) (w := W r) (by' := W r (ld r)) hz (rL_of (Nat.le_trans (v2 _ t1) (by decide))) N 0 n f (by omega) (by omega) hW (fun j hj => by rw [if_neg (Nat.not_lt_zero _)]; exact hv j hj)
      refine ⟨g, _, g1, g2, g3, fun k hk => rL_56 (v2 k hk) (t5 _ t1) (v2 _ t1) (t5 k hk), fun j hj => ?_, p * p', q * q' * md_dt (List.range N) (bA Y ld r) N, Int.mul_ne_zero hp hp', Int.mul_ne_zero (Int.mul_ne_zero hq hq') hs, fun k hk hj => ?_⟩
      · show v (ld j) * W r (ld r) - v (ld r) * W r (ld j) = 0
        by_cases e : j = r
        · rw [e]; omega
        · rw [v1 j (by omega), t4 j (by omega), Int.zero_mul, Int.mul_zero]; rfl
      · have a1 := v3 k hk (fun j h => hj j (by omega))
        have a2 := v3 (ld r) t1 hnl
        have a3 := t6 k hk (fun j h => hj j (by omega))
        have a4 := t6 (ld r) t1 hnl
        have a5 := hpv k hk (fun e => hj r (by omega) e.symm)
        calc p * p' * (v k * W r (ld r) - v (ld r) * W r k) = (p * v k) * (p' * W r (ld r)) - (p * v (ld r)) * (p' * W r k) := by grind
          _ = (q * md_T (List.range N) N (bA Y ld r) X k) * (q' * md_T (List.range N) N (bA Y ld r) (Y r) (ld r)) - (q * md_T (List.range N) N (bA Y ld r) X (ld r)) * (q' * md_T (List.range N) N (bA Y ld r) (Y r) k) := by rw [a1, a2, a3, a4]
          _ = q * q' * (md_T (List.range N) N (bA Y ld r) (Y r) (ld r) * md_T (List.range N) N (bA Y ld r) X k - md_T (List.range N) N (bA Y ld r) (Y r) k * md_T (List.range N) N (bA Y ld r) X (ld r)) := by grind
          _ = q * q' * md_dt (List.range N) (bA Y ld r) N * md_T (List.range N) N (bA Y ld (r + 1)) X k := by rw [← a5, Int.mul_assoc, Int.mul_assoc, Int.mul_assoc]
  obtain ⟨g0, u, k1, k2, k3, k4, k5, a, b, ha, hb, k6⟩ := key
  obtain ⟨g, w, c, w1, w2, w3, w4, w5, w6⟩ := r8_lessens hn hN hN12 hL k2 k4
  refine ⟨g, w, ?_, w5, ⟨fun j hj => ?_, fun k hk => ?_, a * c, b, Int.mul_ne_zero ha w2, hb, fun k hk hj => ?_⟩, fun i hi => (w6 i hi).trans (k3 i hi)⟩
  · rw [k1]
    unfold kX8_isNew_125
    rw [w1, hv_bd_e, nI_1]
  · have e := w3 (ld j) (hT j (by omega)).1
    rw [k5 j hj] at e
    exact (Int.mul_eq_zero.mp e.symm).resolve_left w2
  · have hw0 : ∀ j, j < r + 1 → w (ld j) = 0 := fun j hj => by
      have e := w3 (ld j) (hT j (by omega)).1
      rw [k5 j hj] at e
      exact (Int.mul_eq_zero.mp e.symm).resolve_left w2
    by_cases hk0 : ∃ j, j < r + 1 ∧ ld j = k
    · obtain ⟨j, hj, rfl⟩ := hk0
      rw [hw0 j hj]
      decide
    · have h := prim_le (W := w) (w := fun k => @ite _ (∃ j, j < r + 1 ∧ ld j = k) (Classical.propDecidable _) 0 (md_T (List.range N) N (bA Y ld (r + 1)) X k)) (N := N) w4 (p := a * c) (q := b) (Int.mul_ne_zero ha w2) hb (fun i hi => by
        by_cases h0 : ∃ j, j < r + 1 ∧ ld j = i
        · rw [if_pos h0]
          obtain ⟨j, hj, rfl⟩ := h0
          rw [hw0 j hj, Int.mul_zero, Int.mul_zero]
        · rw [if_neg h0, Int.mul_assoc, ← w3 i hi]
          exact k6 i hi (fun j hj e => h0 ⟨j, hj, e⟩)) hk
      rw [if_neg hk0] at h
      exact Nat.le_trans h (hbd k hk)
  · rw [Int.mul_assoc, ← w3 k hk]
    exact k6 k hk hj
theorem r8_new_loop {n : Nat} (hn : 200 ≤ n) {σ : hv_St} {N L : Nat} (hN : σ.1 0 18 = nI N) (hN12 : N ≤ 12) (hL : L < 12) {Y : Nat → md_V} {ld : Nat → Nat} {W : Nat → Nat → Int} (hT : rT N Y ld W L) {X : md_V} (hbd : ∀ r k, r ≤ L → k < N → (md_T (List.range N) N (bA Y ld r) X k).natAbs ≤ 2 ^ 28) : ∀ (d r fuel : Nat) (f : Nat → Int64) (v : Nat → Int), r + d = L → d < fuel → (∀ i, i < L → rRow N i f (W i)) → rRow N L f v → rV N Y ld X r v → ∃ g v', kX8_isNew_2 n fuel (hv_wJ σ 13 f) (nI L) (nI r) = kX8_isNew_138 n n (hv_wJ σ 13 g) (nI L) (nI 0) ∧ rRow N L g v' ∧ rV N Y ld X L v' ∧ ∀ i, (i < 12 * L ∨ 12 * L + N ≤ i) → g i = f i := by
  intro d
  induction d with
  | zero =>
    intro r fuel f v hr hf hW hv hV
    obtain ⟨fuel, rfl⟩ : ∃ q, fuel = q + 1 := ⟨fuel - 1, by omega⟩
    obtain rfl : r = L := by omega
    refine ⟨f, v, ?_, hv, hV, fun _ _ => rfl⟩
    show kX8_isNew_2_b n _ _ _ _ = _
    unfold kX8_isNew_2_b
    rw [if_pos (nI_le (Nat.le_refl _) (by omega))]
    rfl
  | succ d ih =>
    intro r fuel f v hr hf hW hv hV
    obtain ⟨fuel, rfl⟩ : ∃ q, fuel = q + 1 := ⟨fuel - 1, by omega⟩
    obtain ⟨g, v', g1, g2, g3, g4⟩ := r8_new_step hn hN hN12 hL (show r < L by omega) hT (fun k hk => hbd (r + 1) k (by omega) hk) (hW r (by omega)) hv hV fuel
    obtain ⟨g', v'', k1, k2, k3, k4⟩ := ih (r + 1) fuel g v' (by omega) (by omega) (fun i hi k hk => by rw [g4 _ (by omega)]; exact hW i hi k hk) g2 g3
    exact ⟨g', v'', g1.trans k1, k2, k3, fun i hi => (k4 i hi).trans (g4 i hi)⟩
end
section
/-! the reference's base and spare ones -/
theorem r8_isNew {n : Nat} (hn : 200 ≤ n) {σ : hv_St} {N L : Nat} (hN : σ.1 0 18 = nI N) (hN12 : N ≤ 12) (hL : L < 12) {Y : Nat → md_V} {ld : Nat → Nat} {W : Nat → Nat → Int} (hT : rT N Y ld W L) {X : md_V} (hX : ∀ k, k < N → (X k).natAbs ≤ 2 ^ 28) (hbd : ∀ r k, r ≤ L → k < N → (md_T (List.range N) N (bA Y ld r) X k).natAbs ≤ 2 ^ 28) {f : Nat → Int64} (hW : ∀ i, i < L → rRow N i f (W i)) (hv : rRow N L f X) : ∃ g v, rRow N L g v ∧ rV N Y ld X L v ∧ (∀ i, (i < 12 * L ∨ 12 * L + N ≤ i) → g i = f i) ∧ ((∃ l, l < N ∧ v l ≠ 0 ∧ (∀ j, j < l → v j = 0) ∧ mX8_isNew n (hv_wJ σ 13 f) (nI L) = some (1, hv_wJ σ 13 g)) ∨ ((∀ j, j < N → v j = 0) ∧ mX8_isNew n (hv_wJ σ 13 f) (nI L) = some (0, hv_wJ σ 13 g))) := by
  obtain ⟨g, v, g1, g2, g3, g4⟩ := r8_new_loop hn hN hN12 hL hT hbd L 0 n f X (by omega) (by omega) hW hv ⟨fun j hj => absurd hj (Nat.not_lt_zero _), hX, 1, 1, by decide, by decide, fun k hk _ => by
    show 1 * X k = 1 * md_dt (List.range N) (md_up md_e k X) N
    rw [md_T_e hk]⟩
  refine ⟨g, v, g2, g3, g4, ?_⟩
  have q := r8_new_138 (n := n) (σ := σ) hN hN12 hL g2 (fun k hk => rL_of (Nat.le_trans (g3.2.1 k hk) (by decide))) N 0 n (by omega) (by omega)
  have e : mX8_isNew n (hv_wJ σ 13 f) (nI L) = kX8_isNew_138 n n (hv_wJ σ 13 g) (nI L) (nI 0) := g1
  by_cases h : ∃ j, 0 ≤ j ∧ j < N ∧ v j ≠ 0
  · obtain ⟨l, l1, l2, l3, l4⟩ := q.1 h
    exact Or.inl ⟨l, l1, l2, fun j hj => l3 j (Nat.zero_le _) hj, e.trans l4⟩
  · exact Or.inr ⟨fun j hj => Classical.byContradiction fun h2 => h ⟨j, Nat.zero_le _, hj, h2⟩, e.trans (q.2 h)⟩
def sM (B : Nat) (σ : hv_St) (acc : List Nat) (pr : Nat → Prop) : Prop := ∃ Eb Es, σ.1 0 20 = nI Eb ∧ Eb < 2 ^ B ∧ (∀ b, Eb.testBit b = true ↔ b ∈ acc) ∧ σ.1 0 21 = nI Es ∧ Es < 2 ^ B ∧ ∀ b, Es.testBit b = true ↔ pr b ∧ b ∉ acc
theorem sM_congr {B : Nat} {σ : hv_St} {acc : List Nat} {p q : Nat → Prop} (h : sM B σ acc p) (e : ∀ j, p j ↔ q j) : sM B σ acc q := by
  obtain ⟨Eb, Es, s1, s2, s3, s4, s5, s6⟩ := h
  exact ⟨Eb, Es, s1, s2, s3, s4, s5, fun b => (s6 b).trans (and_congr (e b) Iff.rfl)⟩
def yC (F : Nat → Nat → Int32) (P : Nat) (acc : List Nat) : Nat → md_V := fun j => fCol F P (acc.getD j 0)
def tM (F : Nat → Nat → Int32) (P : Nat) (σ : hv_St) (acc : List Nat) : Prop := ∃ ld W, rT (fN' F P) (yC F P acc) ld W acc.length ∧ ∀ i, i < acc.length → rRow (fN' F P) i (σ.2 13) (W i)
theorem r8_lay40 {n : Nat} {F : Nat → Nat → Int32} {P B O D W : Nat} (hi : hI F P B O D W) {r18 : hv_St → Int32 → Int32 → Int32 → Option hv_St} {σ : hv_St} (hm : rM F σ) (hfr : rFr F P σ) {L b : Nat} (hL : L < 12) (hLb : L ≤ 10) (hb : b < B) (S : Int32) : ∀ (d k fuel : Nat) (f : Nat → Int64), k + d = fN' F P → d < fuel → (∀ j, j < k → f (12 * L + j) = iL (fCol F P b j)) → ∃ g, kX8_laysBase_40 n r18 fuel (hv_wJ σ 13 f) S (nI L) (nI b) (nI k) = (if nI (fN' F P) ≤ nI L then kX8_laysBase_107 n r18 (hv_wJ σ 13 g) S (nI L) (nI b) else hv_b2 (mX8_isNew n (hv_wJ σ 13 g) (nI L)) fun r97 s97 => if r97 = 0 then (kX8_laysBase_107 n r18 s97 S (nI L) (nI b)) else (kX8_laysBase_108 n r18 s97 S (nI L) (nI b) ((1 : Int32)))) ∧ rRow (fN' F P) L g (fCol F P b) ∧ ∀ i, (i < 12 * L ∨ 12 * L + fN' F P ≤ i) → g i = f i := by
  have hP := hi.1.2
  have hB := hi.2.1.2
  have hl : fN' F P ≤ 2 * P := fL_le F (2 * P)
  intro d
  induction d with
  | zero =>
    intro k fuel f hk hf hg
    obtain ⟨fuel, rfl⟩ : ∃ q, fuel = q + 1 := ⟨fuel - 1, by omega⟩
    refine ⟨f, ?_, fun j hj => hg j (by omega), fun _ _ => rfl⟩
    show kX8_laysBase_40_b n r18 _ _ _ _ _ _ = _
    unfold kX8_laysBase_40_b
    rw [hv_wJ_1, hfr.1, if_pos (nI_le (by show fN' F P ≤ k; omega) (by omega))]
  | succ d ih =>
    intro k fuel f hk hf hg
    obtain ⟨fuel, rfl⟩ : ∃ q, fuel = q + 1 := ⟨fuel - 1, by omega⟩
    have hkN : k < (fL F (2 * P)).length := by show k < fN' F P; omega
    have hs := (fL_lt hkN).1
    have eN : fN' F P = (fL F (2 * P)).length := rfl
    obtain ⟨g, g1, g2, g3⟩ := ih (k + 1) fuel (vp_updL f (12 * L + k) (iL (fCol F P b k))) (by omega) (by omega) (fun j hj => by
      by_cases e : j = k
      · rw [e, pk_uLs]
      · rw [pk_uLn (by omega)]
        exact hg j (by omega))
    refine ⟨g, ?_, g2, fun i hi' => ?_⟩
    · show kX8_laysBase_40_b n r18 _ _ _ _ _ _ = _
      unfold kX8_laysBase_40_b
      have hm2 : rM F (hv_wJ σ 13 f) := hm
      have hfk := hfr.2 k hkN
      have hbl := fBr_le hi hb ((fL F (2 * P)).getD k 0 / 2) ((fL F (2 * P)).getD k 0 % 2)
      rw [hv_wJ_1, hfr.1, if_neg (nI_ge (by show k < fN' F P; omega) (by omega)), hv_if_t (hv_ok_nI (show k < 12 by omega) (by decide)), hv_if_t (hv_ok_nI (show k < 12 by omega) (by decide)), nI_clamp (by omega), hfk.1, hfk.2, r8_brings hi hm2 hb (by omega) (by omega), hv_b2_e, nI_12, hv_if_t (hv_ok_nI (show 12 * L + k < 144 by omega) (by decide)), nI_clamp (by omega), hv_let_e, nI_1, iI_L ⟨by omega, by omega⟩, hv_sJ_wJ]
      exact g1
    · rw [g3 i hi', pk_uLn (by omega)]
theorem nI_or0 (a : Nat) : nI a ||| 0 = nI a := by
  rw [show (0 : Int32) = nI 0 from rfl, nI_or, Nat.or_zero]
theorem r8_107 {n : Nat} {r18 : hv_St → Int32 → Int32 → Int32 → Option hv_St} {σ : hv_St} {S : Int32} {B L b Eb Es : Nat} (hB : B ≤ 11) (hb : b < B) (hs : Es < 2 ^ B) (h1 : σ.1 0 20 = nI Eb) (h2 : σ.1 0 21 = nI Es) : kX8_laysBase_107 n r18 σ S (nI L) (nI b) = r18 (hv_sI (hv_sI σ 0 20 (nI Eb)) 0 21 (nI (Es ||| 2 ^ b))) S (nI L) (nI (b + 1)) := by
  unfold kX8_laysBase_107 kX8_laysBase_108 kX8_laysBase_127 kX8_laysBase_148 kX8_laysBase_163 kX8_laysBase_165
  rw [if_pos rfl, hv_let_e, if_pos rfl, hv_let_e, if_pos rfl, hv_let_e, h1, nI_or0, hv_sI_rd, if_neg (by decide), h2, (set_add hB hs hb).1, nI_1, show nI L + 0 = nI L from nI_add L 0]
theorem r8_108 {n : Nat} {r18 : hv_St → Int32 → Int32 → Int32 → Option hv_St} {σ : hv_St} {S : Int32} {B L b Eb Es : Nat} (hB : B ≤ 11) (hb : b < B) (hs : Eb < 2 ^ B) (h1 : σ.1 0 20 = nI Eb) (h2 : σ.1 0 21 = nI Es) : kX8_laysBase_108 n r18 σ S (nI L) (nI b) 1 = r18 (hv_sI (hv_sI σ 0 20 (nI (Eb ||| 2 ^ b))) 0 21 (nI Es)) S (nI (L + 1)) (nI (b + 1)) := by
  unfold kX8_laysBase_108 kX8_laysBase_127 kX8_laysBase_148 kX8_laysBase_163 kX8_laysBase_165
  rw [if_neg (by decide), hv_let_e, if_neg (by decide), hv_let_e, if_neg (by decide), hv_let_e, h1, (set_add hB hs hb).1, hv_sI_rd, if_neg (by decide), h2, nI_or0, nI_1, nI_1]
theorem fr_b (σ : hv_St) (g : Nat → Int64) (v w : Int32) : fr (fun k => k = 0) (fun k => k = 13) σ (hv_sI (hv_sI (hv_wJ σ 13 g) 0 20 v) 0 21 w) := ⟨fun k hk => by
  rw [hv_sI_ne _ _ _ hk, hv_sI_ne _ _ _ hk]
  rfl, fun k hk => hv_wJ_ne _ _ hk⟩
theorem r8_base_step {n : Nat} (hn : 200 ≤ n) {F : Nat → Nat → Int32} {P B O D W : Nat} (hi : hI F P B O D W) {r18 : hv_St → Int32 → Int32 → Int32 → Option hv_St} {σ : hv_St} (hm : rM F σ) (hfr : rFr F P σ) {acc : List Nat} {pr : Nat → Prop} (hs : sM B σ acc pr) (ht : tM F P σ acc) {b : Nat} (hb : b < B) (hac : ∀ j, j ∈ acc → j < b) (hal : acc.length ≤ b) (hpb : ¬ pr b) (S : Int32) : ∃ τ, kX8_laysBase_40 n r18 n σ S (nI acc.length) (nI b) 0 = r18 τ S (nI (md_gr (fR F P) (fCol F P) acc [b]).length) (nI (b + 1)) ∧ rM F τ ∧ rFr F P τ ∧ sM B τ (md_gr (fR F P) (fCol F P) acc [b]) (fun j => pr j ∨ j = b) ∧ tM F P τ (md_gr (fR F P) (fCol F P) acc [b]) ∧ fr (fun k => k = 0) (fun k => k = 13) σ τ ∧ ∀ i, i ≠ 20 → i ≠ 21 → τ.1 0 i = σ.1 0 i := by
  have hP := hi.1.2
  have hB := hi.2.1.2
  have hl : fN' F P ≤ 2 * P := fL_le F (2 * P)
  obtain ⟨ld, Wr, hT, hWr⟩ := ht
  obtain ⟨Eb, Es, s1, s2, s3, s4, s5, s6⟩ := hs
  have hba : b ∉ acc := fun h => Nat.lt_irrefl b (hac b h)
  obtain ⟨g0, a1, a2, a3⟩ := r8_lay40 (n := n) (r18 := r18) hi hm hfr (L := acc.length) (by omega) (by omega) hb S (fN' F P) 0 n (σ.2 13) (by omega) (by omega) (fun j hj => absurd hj (Nat.not_lt_zero _))
  rw [hv_wJ_self] at a1
  have hY : ∀ r, r ≤ acc.length → fXs F P B (bA (yC F P acc) ld r) := fun r hr => bA_fXs r (fun j hj => ⟨acc.getD j 0, by
    have h : acc.getD j 0 ∈ acc := by
      rw [List.getD_eq_getElem?_getD, List.getElem?_eq_getElem (by omega), Option.getD_some]
      exact List.getElem_mem _
    have := hac _ h
    omega, rfl⟩)
  have htb : md_tb (fR F P) (fN' F P) (fCol F P) (bA (yC F P acc) ld acc.length) ld acc := rT_tb (C := fCol F P) hT
  -- the state behind a bar that isn't new
  have old : ∀ g, md_in (fR F P) (md_cs (fCol F P) acc) (fCol F P b) → (∀ i, i < acc.length → rRow (fN' F P) i g (Wr i)) → ∃ τ, kX8_laysBase_107 n r18 (hv_wJ σ 13 g) S (nI acc.length) (nI b) = r18 τ S (nI (md_gr (fR F P) (fCol F P) acc [b]).length) (nI (b + 1)) ∧ rM F τ ∧ rFr F P τ ∧ sM B τ (md_gr (fR F P) (fCol F P) acc [b]) (fun j => pr j ∨ j = b) ∧ tM F P τ (md_gr (fR F P) (fCol F P) acc [b]) ∧ fr (fun k => k = 0) (fun k => k = 13) σ τ ∧ ∀ i, i ≠ 20 → i ≠ 21 → τ.1 0 i = σ.1 0 i := fun g hin hg => by
    obtain ⟨c1, c2, c3⟩ := set_add hB s5 hb
    have eg : md_gr (fR F P) (fCol F P) acc [b] = acc := md_gr_old hin
    rw [eg]
    refine ⟨_, r8_107 (L := acc.length) hB hb s5 s1 s4, rM_sc (i := 21) (rM_sc (i := 20) (σ := hv_wJ σ 13 g) hm (by decide) _) (by decide) _, ⟨?_, ?_⟩, ⟨Eb, Es ||| 2 ^ b, ?_, s2, s3, ?_, c2, fun j => ?_⟩, ⟨ld, Wr, hT, hg⟩, fr_b σ g _ _, fun i h1 h2 => ?_⟩
    · rw [hv_sI_rd, if_neg (by decide), hv_sI_rd, if_neg (by decide)]
      exact hfr.1
    · intro j hj
      rw [hv_sI_ne _ _ _ (by decide), hv_sI_ne _ _ _ (by decide), hv_sI_ne _ _ _ (by decide), hv_sI_ne _ _ _ (by decide)]
      exact hfr.2 j hj
    · rw [hv_sI_rd, if_neg (by decide), hv_sI_rd, if_pos rfl]
    · rw [hv_sI_rd, if_pos rfl]
    · rw [c3 j, s6 j]
      constructor
      · rintro (⟨q1, q2⟩ | rfl)
        · exact ⟨Or.inl q1, q2⟩
        · exact ⟨Or.inr rfl, hba⟩
      · rintro ⟨q1 | rfl, q2⟩
        · exact Or.inl ⟨q1, q2⟩
        · exact Or.inr rfl
    · rw [hv_sI_rd, if_neg h2, hv_sI_rd, if_neg h1]
      rfl
  by_cases hfull : fN' F P ≤ acc.length
  · have hle := rT_le hT
    have heq : acc.length = fN' F P := by omega
    have hin : md_in (fR F P) (md_cs (fCol F P) acc) (fCol F P b) := (md_tb_in htb _).mpr (fun k hk hp => by
      rw [heq] at hT
      obtain ⟨j, hj, e⟩ := rT_full hT hk
      exact absurd e (hp j (by omega)))
    obtain ⟨τ, t1, t2⟩ := old g0 hin (fun i hi' k hk => by rw [a3 _ (by omega)]; exact hWr i hi' k hk)
    refine ⟨τ, ?_, t2⟩
    rw [show (0 : Int32) = nI 0 from rfl, a1, if_pos (nI_le hfull (by omega))]
    exact t1
  · have hX : ∀ k, k < fN' F P → (fCol F P b k).natAbs ≤ 2 ^ 28 := fun k hk => by
      have := fBr_le hi hb ((fL F (2 * P)).getD k 0 / 2) ((fL F (2 * P)).getD k 0 % 2)
      show (fBr F b _ _).natAbs ≤ _
      omega
    obtain ⟨g, v, b1, b2, b3, b4⟩ := r8_isNew hn (σ := σ) hfr.1 (by show fN' F P ≤ 12; omega) (L := acc.length) (by omega) hT (X := fCol F P b) hX (fun r k hr hk => by
      have q := tX_bd hi (hY r hr) (c := b) (r := k) (by omega)
      rw [fXc_bar hb] at q
      exact q) (f := g0) (fun i hi' k hk => by
        have hk2 : k < fN' F P := hk
        rw [a3 _ (by omega)]; exact hWr i hi' k hk) a2
    have hgr : ∀ i, i < acc.length → rRow (fN' F P) i g (Wr i) := fun i hi' k hk => by
      have e1 : g (12 * i + k) = g0 (12 * i + k) := b3 _ (by omega)
      rw [e1, a3 _ (by omega)]
      exact hWr i hi' k hk
    obtain ⟨v1, v2, p, q, hp, hq, v3⟩ := b2
    rcases b4 with ⟨l, l1, l2, l3, l4⟩ | ⟨z1, z2⟩
    · have hlnl : ∀ j, j < acc.length → ld j ≠ l := fun j hj e => l2 (by rw [← e]; exact v1 j hj)
      have hnin : ¬ md_in (fR F P) (md_cs (fCol F P) acc) (fCol F P b) := (md_tb_new htb _).mpr ⟨l, l1, hlnl, fun z => by
        have e := v3 l l1 hlnl
        have z' : md_T (List.range (fL F (2 * P)).length) (fL F (2 * P)).length (bA (yC F P acc) ld acc.length) (fCol F P b) l = 0 := z
        rw [z', Int.mul_zero] at e
        rcases Int.mul_eq_zero.mp e with e | e
        · exact hp e
        · exact l2 e⟩
      have eg : md_gr (fR F P) (fCol F P) acc [b] = acc ++ [b] := md_gr_new hnin
      rw [eg, List.length_append, List.length_singleton]
      obtain ⟨c1, c2, c3⟩ := set_add hB s2 hb
      refine ⟨_, ?_, rM_sc (i := 21) (rM_sc (i := 20) (σ := hv_wJ σ 13 g) hm (by decide) (nI (Eb ||| 2 ^ b))) (by decide) (nI Es), ⟨?_, ?_⟩, ⟨Eb ||| 2 ^ b, Es, ?_, c2, fun j => ?_, ?_, s5, fun j => ?_⟩, ⟨fun j => if j = acc.length then l else ld j, fun j => if j = acc.length then v else Wr j, fun r hr => ?_, fun i hi' => ?_⟩, fr_b σ g _ _, fun i h1 h2 => ?_⟩
      · rw [show (0 : Int32) = nI 0 from rfl, a1, if_neg (nI_ge (by omega) (by omega)), l4, hv_b2_e, if_neg (by decide)]
        exact r8_108 (L := acc.length) hB hb s2 s1 s4
      · rw [hv_sI_rd, if_neg (by decide), hv_sI_rd, if_neg (by decide)]
        exact hfr.1
      · intro j hj
        rw [hv_sI_ne _ _ _ (by decide), hv_sI_ne _ _ _ (by decide), hv_sI_ne _ _ _ (by decide), hv_sI_ne _ _ _ (by decide)]
        exact hfr.2 j hj
      · rw [hv_sI_rd, if_neg (by decide), hv_sI_rd, if_pos rfl]
      · rw [c3 j, s3 j, List.mem_append, List.mem_singleton]
      · rw [hv_sI_rd, if_pos rfl]
      · rw [s6 j, List.mem_append, List.mem_singleton]
        constructor
        · rintro ⟨q1, q2⟩
          refine ⟨Or.inl q1, fun q3 => ?_⟩
          rcases q3 with q3 | q3
          · exact q2 q3
          · exact absurd q1 (by rw [q3]; exact hpb)
        · rintro ⟨q1 | q1, q2⟩
          · exact ⟨q1, fun q => q2 (Or.inl q)⟩
          · exact absurd (Or.inr q1) q2
      · rw [List.length_append, List.length_singleton] at hr
        have hbc : ∀ m, m ≤ acc.length → bA (yC F P (acc ++ [b])) (fun j => if j = acc.length then l else ld j) m = bA (yC F P acc) ld m := fun m hm => bA_congr m (fun j hj => ⟨by
          show fCol F P ((acc ++ [b]).getD j 0) = fCol F P (acc.getD j 0)
          rw [getD_app_lt (by omega)], if_neg (by omega)⟩)
        rw [hbc r (by omega)]
        by_cases er : r = acc.length
        · subst er
          dsimp only
          rw [if_pos rfl, if_pos rfl]
          refine ⟨l1, l2, l3, fun j hj => ?_, v2, p, q, hp, hq, fun k hk hj => ?_⟩
          · rw [if_neg (by omega)]
            exact v1 j hj
          · have e2 : yC F P (acc ++ [b]) acc.length = fCol F P b := by
              show fCol F P ((acc ++ [b]).getD acc.length 0) = _
              rw [getD_app_at]
            rw [e2]
            exact v3 k hk (fun j hj' => by
              have := hj j hj'
              rw [if_neg (by omega)] at this
              exact this)
        · dsimp only
          rw [if_neg er, if_neg er]
          obtain ⟨t1, t2, t3, t4, t5, p', q', hp', hq', t6⟩ := hT r (by omega)
          refine ⟨t1, t2, t3, fun j hj => ?_, t5, p', q', hp', hq', fun k hk hj => ?_⟩
          · rw [if_neg (by omega)]
            exact t4 j hj
          · have e2 : yC F P (acc ++ [b]) r = yC F P acc r := by
              show fCol F P ((acc ++ [b]).getD r 0) = fCol F P (acc.getD r 0)
              rw [getD_app_lt (by omega)]
            rw [e2]
            exact t6 k hk (fun j hj' => by
              have := hj j hj'
              rw [if_neg (by omega)] at this
              exact this)
      · rw [List.length_append, List.length_singleton] at hi'
        show rRow (fN' F P) i g _
        by_cases ei : i = acc.length
        · dsimp only
          rw [if_pos ei, ei]
          exact b1
        · dsimp only
          rw [if_neg ei]
          exact hgr i (by omega)
      · rw [hv_sI_rd, if_neg h2, hv_sI_rd, if_neg h1]
        rfl
    · have hin : md_in (fR F P) (md_cs (fCol F P) acc) (fCol F P b) := (md_tb_in htb _).mpr (fun k hk hpos => by
        have e := v3 k hk hpos
        rw [z1 k hk, Int.mul_zero] at e
        exact (Int.mul_eq_zero.mp e.symm).resolve_left hq)
      obtain ⟨τ, t1, t2⟩ := old g hin hgr
      refine ⟨τ, ?_, t2⟩
      rw [show (0 : Int32) = nI 0 from rfl, a1, if_neg (nI_ge (by omega) (by omega)), z2, hv_b2_e, if_pos rfl]
      exact t1
end
section
/-! both sides settled; the kind -/
theorem r8_base_loop {n : Nat} (hn : 200 ≤ n) {F : Nat → Nat → Int32} {P B O D W : Nat} (hi : hI F P B O D W) {S : Nat} (hS : S < 2 ^ 31) : ∀ (d k fuel : Nat) (σ : hv_St) (acc : List Nat) (pr : Nat → Prop), k + d = B → d < fuel → rM F σ → rFr F P σ → sM B σ acc pr → tM F P σ acc → (∀ j, j ∈ acc → j < k) → acc.length ≤ k → (∀ j, k ≤ j → ¬ pr j) → ∃ τ, kX8_laysBase_18 n fuel σ (nI S) (nI acc.length) (nI k) = some τ ∧ rM F τ ∧ rFr F P τ ∧ sM B τ (md_gr (fR F P) (fCol F P) acc ((List.range' k d).filter (fun j => S.testBit j))) (fun j => pr j ∨ (k ≤ j ∧ j < B ∧ S.testBit j = true)) ∧ fr (fun k => k = 0) (fun k => k = 13) σ τ ∧ ∀ i, i ≠ 20 → i ≠ 21 → τ.1 0 i = σ.1 0 i := by
  have hB := hi.2.1.2
  intro d
  induction d with
  | zero =>
    intro k fuel σ acc pr hk hf hm hfr hs ht _ _ _
    obtain ⟨fuel, rfl⟩ : ∃ q, fuel = q + 1 := ⟨fuel - 1, by omega⟩
    refine ⟨σ, ?_, hm, hfr, sM_congr hs (fun j => ⟨Or.inl, fun q => ?_⟩), fr_rfl, fun _ _ _ => rfl⟩
    · show kX8_laysBase_18_b n _ _ _ _ _ = _
      unfold kX8_laysBase_18_b
      rw [hm.1.2.1, hi.2.1.1, if_pos (nI_le (by omega) (by omega))]
    · rcases q with q | q
      · exact q
      · omega
  | succ d ih =>
    intro k fuel σ acc pr hk hf hm hfr hs ht hac hal hq
    obtain ⟨fuel, rfl⟩ : ∃ q, fuel = q + 1 := ⟨fuel - 1, by omega⟩
    have hb := fB_iff hS (show k < 31 by omega)
    by_cases h : S.testBit k = true
    · obtain ⟨τ1, c1, c2, c3, c4, c5, c6, c7⟩ := r8_base_step hn hi (r18 := kX8_laysBase_18 n fuel) hm hfr hs ht (show k < B by omega) hac hal (hq k (Nat.le_refl _)) (nI S)
      have hmem : ∀ j, j ∈ md_gr (fR F P) (fCol F P) acc [k] → j < k + 1 := fun j hj => by
        rcases md_gr_mem hj with hj | hj
        · have := hac j hj
          omega
        · have := List.mem_singleton.mp hj
          omega
      have hlen : (md_gr (fR F P) (fCol F P) acc [k]).length ≤ k + 1 := by
        by_cases hin : md_in (fR F P) (md_cs (fCol F P) acc) (fCol F P k)
        · rw [md_gr_old hin]
          show acc.length ≤ k + 1
          omega
        · rw [md_gr_new hin]
          show (acc ++ [k]).length ≤ k + 1
          rw [List.length_append, List.length_singleton]
          omega
      obtain ⟨τ, t1, t2, t3, t4, t5, t6⟩ := ih (k + 1) fuel τ1 _ _ (by omega) (by omega) c2 c3 c4 c5 hmem hlen (fun j hj => by
        rintro (q | q)
        · exact hq j (by omega) q
        · omega)
      have el : (List.range' k (d + 1)).filter (fun j => S.testBit j) = [k] ++ (List.range' (k + 1) d).filter (fun j => S.testBit j) := by
        rw [List.range'_succ, List.filter_cons_of_pos h]
        rfl
      refine ⟨τ, ?_, t2, t3, ?_, fr_tr c6 t5, fun i h1 h2 => (t6 i h1 h2).trans (c7 i h1 h2)⟩
      · show kX8_laysBase_18_b n _ _ _ _ _ = _
        unfold kX8_laysBase_18_b
        rw [hm.1.2.1, hi.2.1.1, if_neg (nI_ge (by omega) (by omega)), (r8_isOn _ _).1 (hb.mpr h), hv_b2_e, if_neg (by decide), c1]
        exact t1
      · rw [el, md_gr_app]
        refine sM_congr t4 (fun j => ?_)
        constructor
        · rintro ((q | rfl) | q)
          · exact Or.inl q
          · exact Or.inr ⟨Nat.le_refl _, by omega, h⟩
          · exact Or.inr ⟨by omega, q.2⟩
        · rintro (q | q)
          · exact Or.inl (Or.inl q)
          · by_cases ej : j = k
            · exact Or.inl (Or.inr ej)
            · exact Or.inr ⟨by omega, q.2⟩
    · obtain ⟨τ, t1, t2, t3, t4, t5, t6⟩ := ih (k + 1) fuel σ acc pr (by omega) (by omega) hm hfr hs ht (fun j hj => by have := hac j hj; omega) (by omega) (fun j hj => hq j (by omega))
      have el : (List.range' k (d + 1)).filter (fun j => S.testBit j) = (List.range' (k + 1) d).filter (fun j => S.testBit j) := by
        rw [List.range'_succ, List.filter_cons_of_neg h]
      refine ⟨τ, ?_, t2, t3, ?_, t5, t6⟩
      · show kX8_laysBase_18_b n _ _ _ _ _ = _
        unfold kX8_laysBase_18_b kX8_laysBase_165
        rw [hm.1.2.1, hi.2.1.1, if_neg (nI_ge (by omega) (by omega)), (r8_isOn _ _).2 (fun q => h (hb.mp q)), hv_b2_e, if_pos rfl, nI_1]
        exact t1
      · rw [el]
        refine sM_congr t4 (fun j => ?_)
        constructor
        · rintro (q | q)
          · exact Or.inl q
          · exact Or.inr ⟨by omega, q.2⟩
        · rintro (q | q)
          · exact Or.inl q
          · by_cases ej : j = k
            · exact absurd (ej ▸ q.2.2) h
            · exact Or.inr ⟨by omega, q.2⟩
def zM (F : Nat → Nat → Int32) (P B : Nat) (S : Nat) (τ : hv_St) : Prop := rFr F P τ ∧ sM B τ (fBase F P (fBl S B)) (fun j => j < B ∧ S.testBit j = true)
theorem r8_laysBase {n : Nat} (hn : 200 ≤ n) {F : Nat → Nat → Int32} {P B O D W : Nat} (hi : hI F P B O D W) {S : Nat} (hS : S < 2 ^ 31) {σ : hv_St} (hm : rM F σ) : ∃ τ, mX8_laysBase n σ (nI S) = some τ ∧ rM F τ ∧ zM F P B S τ ∧ fr (fun c => c = 0 ∨ c = 11 ∨ c = 12) (fun k => k = 13) σ τ ∧ ∀ i, i ≠ 18 → i ≠ 20 → i ≠ 21 → τ.1 0 i = σ.1 0 i := by
  have hB := hi.2.1.2
  obtain ⟨τ1, a1, a2, a3, a4, a5⟩ := r8_laysFree (n := n) (by omega) hi hm
  obtain ⟨τ, t1, t2, t3, t4, t5, t6⟩ := r8_base_loop hn hi hS B 0 n (hv_sI (hv_sI τ1 0 20 0) 0 21 0) [] (fun _ => False) (by omega) (by omega) (rM_sc (rM_sc a2 (by decide) 0) (by decide) 0) ⟨by rw [hv_sI_rd, if_neg (by decide), hv_sI_rd, if_neg (by decide)]; exact a3.1, fun j hj => by
    rw [hv_sI_ne _ _ _ (by decide), hv_sI_ne _ _ _ (by decide), hv_sI_ne _ _ _ (by decide), hv_sI_ne _ _ _ (by decide)]
    exact a3.2 j hj⟩ ⟨0, 0, by rw [hv_sI_rd, if_neg (by decide), hv_sI_rd, if_pos rfl]; rfl, Nat.two_pow_pos _, fun b => by simp, by rw [hv_sI_rd, if_pos rfl]; rfl, Nat.two_pow_pos _, fun b => by simp⟩ ⟨fun _ => 0, fun _ _ => 0, fun r hr => absurd hr (Nat.not_lt_zero _), fun i hi' => absurd hi' (Nat.not_lt_zero _)⟩ (fun j hj => by cases hj) (Nat.zero_le _) (fun _ _ h => h)
  rw [← List.range_eq_range'] at t4
  refine ⟨τ, ?_, t2, ⟨t3, sM_congr t4 (fun j => ⟨fun q => (q.resolve_left (fun h => h)).2, fun q => Or.inr ⟨Nat.zero_le _, q⟩⟩)⟩, ?_, fun i h1 h2 h3 => ?_⟩
  · unfold mX8_laysBase
    rw [a1, hv_bd_e, hv_let_e, hv_let_e]
    exact t1
  · refine fr_tr (fr_mono a4 (fun k h => h) (fun _ h => h.elim)) (fr_tr (τ := hv_sI (hv_sI τ1 0 20 0) 0 21 0) ⟨fun k hk => ?_, fun _ _ => rfl⟩ (fr_mono t5 (fun k h => Or.inl h) (fun _ h => h)))
    rw [hv_sI_ne _ _ _ (fun e => hk (Or.inl e)), hv_sI_ne _ _ _ (fun e => hk (Or.inl e))]
  · rw [t6 i h2 h3, hv_sI_rd, if_neg h3, hv_sI_rd, if_neg h2, a5 i h1]
/-- the greedy base is part of the list, in its order -/
theorem md_gr_sub {R : List Nat} {C : Nat → md_V} (l acc : List Nat) : ∃ t, md_gr R C acc l = acc ++ t ∧ List.Sublist t l :=
  md_gr_ind (R := R) (C := C) (P := fun acc l r => ∃ t, r = acc ++ t ∧ List.Sublist t l) (fun acc => ⟨[], (List.append_nil acc).symm, List.Sublist.refl _⟩) (fun acc b l h k => by
    obtain ⟨t, e, ht⟩ := k
    exact ⟨t, e, List.Sublist.cons _ ht⟩) (fun acc b l h k => by
    obtain ⟨t, e, ht⟩ := k
    exact ⟨b :: t, by rw [e, List.append_assoc]; rfl, List.Sublist.cons_cons _ ht⟩) l acc
theorem fBase_sub (F : Nat → Nat → Int32) (P : Nat) (L : List Nat) : List.Sublist (fBase F P L) L := by
  obtain ⟨t, e, ht⟩ := md_gr_sub (R := fR F P) (C := fCol F P) L []
  unfold fBase
  rw [e]
  exact ht
theorem fBl_mem {S B j : Nat} : j ∈ fBl S B ↔ j < B ∧ S.testBit j = true := by
  unfold fBl
  rw [List.mem_filter, List.mem_range]
theorem fBl_nd (S B : Nat) : (fBl S B).Nodup := List.Pairwise.filter _ List.nodup_range
theorem fBl_lt (S B : Nat) : List.Pairwise (· < ·) (fBl S B) := List.Pairwise.filter _ List.pairwise_lt_range

noncomputable def fSp (F : Nat → Nat → Int32) (P B S : Nat) : List Nat := (fBl S B).filter (fun j => decide (j ∉ fBase F P (fBl S B)))
end
section
/-! the kind; without -/
theorem pc_list {s : Nat} {l : List Nat} (hn : l.Nodup) (h : ∀ b, s.testBit b = true ↔ b ∈ l) (hl : ∀ b ∈ l, b < 12) : pc s = l.length := by
  have p : ((List.range 12).filter (fun j => s.testBit j)).Perm l := (List.perm_ext_iff_of_nodup (List.Pairwise.filter _ List.nodup_range) hn).mpr (fun a => by
    rw [List.mem_filter, List.mem_range, h a]
    exact ⟨fun q => q.2, fun q => ⟨hl a q, q⟩⟩)
  exact p.length_eq
theorem fBase_nd (F : Nat → Nat → Int32) (P S B : Nat) : (fBase F P (fBl S B)).Nodup := List.Sublist.nodup (fBase_sub F P _) (fBl_nd S B)
theorem fBase_mem {F : Nat → Nat → Int32} {P S B j : Nat} (h : j ∈ fBase F P (fBl S B)) : j < B ∧ S.testBit j = true := fBl_mem.mp ((fBase_sub F P _).subset h)
theorem fSp_mem {F : Nat → Nat → Int32} {P B S j : Nat} : j ∈ fSp F P B S ↔ (j < B ∧ S.testBit j = true) ∧ j ∉ fBase F P (fBl S B) := by
  unfold fSp
  rw [List.mem_filter, fBl_mem, decide_eq_true_iff]
theorem fSp_nd (F : Nat → Nat → Int32) (P B S : Nat) : (fSp F P B S).Nodup := List.Pairwise.filter _ (fBl_nd S B)
theorem fSp_lt (F : Nat → Nat → Int32) (P B S : Nat) : List.Pairwise (· < ·) (fSp F P B S) := List.Pairwise.filter _ (fBl_lt S B)
def kdN (N L m : Nat) : Nat := if L < N then 0 else if m ≤ 2 then 1 + m else 4
noncomputable def fKind (F : Nat → Nat → Int32) (P B S : Nat) : Nat := kdN (fN' F P) (fBase F P (fBl S B)).length (fSp F P B S).length
theorem Es_pc {F : Nat → Nat → Int32} {P B S Es : Nat} (hB : B ≤ 11) (h : ∀ b, Es.testBit b = true ↔ (b < B ∧ S.testBit b = true) ∧ b ∉ fBase F P (fBl S B)) : pc Es = (fSp F P B S).length := pc_list (fSp_nd F P B S) (fun b => (h b).trans fSp_mem.symm) (fun b hb => by have := (fSp_mem.mp hb).1.1; omega)
theorem Eb_pc {F : Nat → Nat → Int32} {P B S Eb : Nat} (hB : B ≤ 11) (h : ∀ b, Eb.testBit b = true ↔ b ∈ fBase F P (fBl S B)) : pc Eb = (fBase F P (fBl S B)).length := pc_list (fBase_nd F P S B) h (fun b hb => by have := (fBase_mem hb).1; omega)
theorem fSp_le (F : Nat → Nat → Int32) (P B S : Nat) : (fSp F P B S).length ≤ B := by
  have h1 := List.length_filter_le (fun j => decide (j ∉ fBase F P (fBl S B))) (fBl S B)
  have h2 := List.length_filter_le (fun j => S.testBit j) (List.range B)
  rw [List.length_range] at h2
  exact Nat.le_trans h1 h2
theorem p2048 {B s : Nat} (hB : B ≤ 11) (h : s < 2 ^ B) : s < 2048 := Nat.lt_of_lt_of_le h (Nat.le_trans (Nat.pow_le_pow_right (by decide) hB) (by decide))
theorem x0_kind {n : Nat} {F : Nat → Nat → Int32} {P B O D W : Nat} (hi : hI F P B O D W) {S : Nat} {τ : hv_St} (h : zX F P B S τ) : mX0_kindNumber n τ = some (nI (fKind F P B S), τ) := by
  have hB := hi.2.1.2
  have hP := hi.1.2
  have hl : fN' F P ≤ 2 * P := fL_le F (2 * P)
  have eN : fN' F P = (fL F (2 * P)).length := rfl
  obtain ⟨A, e, ⟨-, -, -, h4, -, h6, h7, -, -⟩, ⟨Eb, Es, -, -, -, s4, s5, s6⟩, -⟩ := h
  have hpc := Es_pc (F := F) (P := P) hB s6
  have hsl := fSp_le F P B S
  unfold mX0_kindNumber fKind kdN
  rw [h6, h7]
  by_cases c : (fBase F P (fBl S B)).length < fN' F P
  · rw [if_pos c, if_neg (nI_ge (by omega) (by omega))]
    rfl
  · rw [if_neg c, if_pos (nI_le (by omega) (by omega)), s4, x_bitCount (p2048 hB s5), hv_b2_e, hv_let_e, hpc, show (1 : Int32) = nI 1 from rfl, nI_add]
    by_cases c2 : (fSp F P B S).length ≤ 2
    · rw [if_pos c2, if_pos (show nI (1 + (fSp F P B S).length) < (4 : Int32) from nI_lt (b := 4) (by omega) (by decide))]
    · rw [if_neg c2, if_neg (show ¬ nI (1 + (fSp F P B S).length) < (4 : Int32) from nI_nlt (b := 4) (by omega) (by omega))]
      rfl
theorem r8_kind {n : Nat} (hn : 12 < n) {F : Nat → Nat → Int32} {P B O D W : Nat} (hi : hI F P B O D W) {S : Nat} {τ : hv_St} (h : zM F P B S τ) : mX8_kind n τ = some (nI (fKind F P B S), τ) := by
  have hB := hi.2.1.2
  have hP := hi.1.2
  have hl : fN' F P ≤ 2 * P := fL_le F (2 * P)
  have eN : fN' F P = (fL F (2 * P)).length := rfl
  obtain ⟨hfr, Eb, Es, s1, s2, s3, s4, s5, s6⟩ := h
  have hpc := Es_pc (F := F) (P := P) hB s6
  have hpb := Eb_pc (F := F) (P := P) hB s3
  have hsl := fSp_le F P B S
  have e2 := p2048 hB s2
  have e5 := p2048 hB s5
  have hbl : (fBase F P (fBl S B)).length ≤ B := by
    have h1 := (fBase_sub F P (fBl S B)).length_le
    have h2 := List.length_filter_le (fun j => S.testBit j) (List.range B)
    rw [List.length_range] at h2
    exact Nat.le_trans h1 h2
  unfold mX8_kind fKind kdN
  rw [s1, r8_bits hn (by omega), hv_b2_e, hfr.1, hpb]
  by_cases c : (fBase F P (fBl S B)).length < fN' F P
  · rw [if_pos c, if_neg (nI_ge (by omega) (by omega))]
    rfl
  · rw [if_neg c, if_pos (nI_le (by omega) (by omega)), s4, r8_bits hn (by omega), hv_b2_e, hpc]
    by_cases c2 : (fSp F P B S).length ≤ 2
    · rw [if_pos c2, if_pos (show nI (fSp F P B S).length ≤ (2 : Int32) from nI_le (b := 2) c2 (by decide)), s4, r8_bits hn (by omega), hv_b2_e, hpc, show (1 : Int32) = nI 1 from rfl, nI_add]
    · rw [if_neg c2, if_neg (show ¬ nI (fSp F P B S).length ≤ (2 : Int32) from nI_ge (a := 2) (by omega) (by omega))]
      rfl
theorem r8_kindOf {n : Nat} (hn : 200 ≤ n) {F : Nat → Nat → Int32} {P B O D W : Nat} (hi : hI F P B O D W) {S : Nat} (hS : S < 2 ^ 31) {σ : hv_St} (hm : rM F σ) : ∃ τ, mX8_kindOf n σ (nI S) = some (nI (fKind F P B S), τ) ∧ rM F τ ∧ zM F P B S τ ∧ fr (fun c => c = 0 ∨ c = 11 ∨ c = 12) (fun k => k = 13) σ τ ∧ ∀ i, i ≠ 18 → i ≠ 20 → i ≠ 21 → τ.1 0 i = σ.1 0 i := by
  obtain ⟨τ, t1, t2, t3, t4, t5⟩ := r8_laysBase hn hi hS hm
  refine ⟨τ, ?_, t2, t3, t4, t5⟩
  unfold mX8_kindOf
  rw [t1, hv_bd_e, r8_kind (by omega) hi t3, hv_b2_e]
theorem i32_andnot (a b : Int32) : a &&& (b ^^^ (-1)) = a ^^^ (a &&& b) := by
  rw [← Int32.toBitVec_inj, Int32.toBitVec_and, Int32.toBitVec_xor, Int32.toBitVec_xor, Int32.toBitVec_and]
  have e : (-1 : Int32).toBitVec = BitVec.allOnes 32 := rfl
  rw [e, BitVec.xor_allOnes]
  apply BitVec.eq_of_getLsbD_eq
  intro i hi
  rw [BitVec.getLsbD_and, BitVec.getLsbD_xor, BitVec.getLsbD_and, BitVec.getLsbD_not, decide_eq_true hi, Bool.true_and]
  cases a.toBitVec.getLsbD i <;> cases b.toBitVec.getLsbD i <;> rfl
def andn (a b : Nat) : Nat := a ^^^ (a &&& b)
theorem nI_andn (a b : Nat) : nI a &&& (nI b ^^^ (-1)) = nI (andn a b) := by
  rw [i32_andnot, nI_and, nI_xor]
  rfl
theorem andn_bit (a b j : Nat) : (andn a b).testBit j = true ↔ a.testBit j = true ∧ ¬ b.testBit j = true := by
  unfold andn
  rw [Nat.testBit_xor, Nat.testBit_and]
  cases a.testBit j <;> cases b.testBit j <;> simp
theorem andn_lt {a b B : Nat} (h : a < 2 ^ B) : andn a b < 2 ^ B := by
  unfold andn
  rw [Nat.and_comm]
  exact Nat.xor_lt_two_pow h (Nat.and_lt_two_pow b h)
theorem rM0 {F : Nat → Nat → Int32} {σ : hv_St} (h : rM F σ) : rM F (hv_sI σ 0 0 0) := rM_sc h (by decide) 0
theorem rX11 {F : Nat → Nat → Int32} {σ τ : hv_St} (h : rX F σ) (q : fr fA11 fB9 σ τ) : rX F τ := rX_fr h q (fun k hk => by rcases hk with rfl | rfl | rfl <;> omega)
theorem op_without {n : Nat} (hn : 200 ≤ n) {F : Nat → Nat → Int32} {P B O D W : Nat} {σX σM : hv_St} (h : hR F P B O D W σX σM) (v : Int32) : ∃ r σX' σM', mX7_without n σX v = some (r, σX') ∧ mX8_without n σM v = some (r, σM') ∧ hR F P B O D W σX' σM' := by
  obtain ⟨hi, hx, hm⟩ := h
  have hB := hi.2.1
  have hB11 := hB.2
  have hO := hi.2.2.1
  have bX : σX.1 1 1 = nI B := hx.1.2.1.trans hB.1
  have oX : σX.1 1 2 = nI O := hx.1.2.2.1.trans hO.1
  have hm0 := rM0 hm
  have bM : (hv_sI σM 0 0 0).1 0 6 = nI B := hm0.1.2.1.trans hB.1
  have oM : (hv_sI σM 0 0 0).1 0 11 = nI O := hm0.1.2.2.1.trans hO.1
  have o31 := p2048 hB11 hO.2
  by_cases hv : fN B v
  · obtain ⟨k, hk, rfl⟩ := hv
    have hb := fB_iff (s := O) (k := k) (by omega) (by omega)
    by_cases hon : O.testBit k = true
    · have hd : andn O (2 ^ k) < 2 ^ 31 := Nat.lt_of_lt_of_le (andn_lt hO.2) (Nat.pow_le_pow_right (by decide) (by omega))
      have ee : nI O &&& (((1 : Int32) <<< (nI k &&& 31)) ^^^ (-1)) = nI (andn O (2 ^ k)) := by rw [nI_shl (by omega), nI_andn]
      obtain ⟨τX, a1, a2, a3, a4⟩ := x0_settle (n := n) (by omega) hi hd hx
      obtain ⟨τM, b1, b2, b3, b4, b5⟩ := r8_kindOf hn hi hd hm0
      refine ⟨nI (fKind F P B (andn O (2 ^ k))), τX, τM, ?_, ?_, hi, a3, b2⟩
      · unfold mX7_without
        rw [(x3_isOn (by omega) bX (nI k)).1 ⟨⟨k, hk, rfl⟩, by rw [oX]; exact hb.mpr hon⟩, hv_b2_e, if_neg (by decide), oX, ee, a1, hv_bd_e, x0_kind hi a4]
        rfl
      · unfold mX8_without kX8_without_41
        rw [hv_let_e, (r8_isBar (by omega) bM (nI k)).1 ⟨k, hk, rfl⟩, hv_b2_e, if_neg (by decide), oM, (r8_isOn _ _).1 (hb.mpr hon), hv_b2_e, if_neg (by decide), oM, ee, b1]
        rfl
    · refine ⟨-1, σX, hv_sI σM 0 0 0, ?_, ?_, hi, hx, hm0⟩
      · unfold mX7_without
        rw [(x3_isOn (by omega) bX (nI k)).2 (fun q => hon (hb.mp (by rw [← oX]; exact q.2))), hv_b2_e, if_pos rfl]
      · unfold mX8_without kX8_without_41
        rw [hv_let_e, (r8_isBar (by omega) bM (nI k)).1 ⟨k, hk, rfl⟩, hv_b2_e, if_neg (by decide), oM, (r8_isOn _ _).2 (fun q => hon (hb.mp q)), hv_b2_e, if_pos rfl]
  · refine ⟨-1, σX, hv_sI σM 0 0 0, ?_, ?_, hi, hx, hm0⟩
    · unfold mX7_without
      rw [(x3_isOn (by omega) bX v).2 (fun q => hv q.1), hv_b2_e, if_pos rfl]
    · unfold mX8_without kX8_without_41
      rw [hv_let_e, (r8_isBar (by omega) bM v).2 hv, hv_b2_e, if_pos rfl]
end
section
/-! joints: the class's and the reference's tests of a pin -/
def bset (q : Nat → Bool) : Nat → Nat
  | 0 => 0
  | k + 1 => if q k = true then bset q k ||| 2 ^ k else bset q k
theorem bset_lt (q : Nat → Bool) : ∀ k, bset q k < 2 ^ k
  | 0 => by
    show 0 < 1
    decide
  | k + 1 => by
    show (if q k = true then bset q k ||| 2 ^ k else bset q k) < _
    have h := Nat.lt_of_lt_of_le (bset_lt q k) (Nat.pow_le_pow_right (show 0 < 2 by decide) (Nat.le_succ k))
    by_cases c : q k = true
    · rw [if_pos c]
      exact Nat.or_lt_two_pow h (Nat.pow_lt_pow_right (by decide) (by omega))
    · rw [if_neg c]
      exact h
theorem bset_bit (q : Nat → Bool) (j : Nat) : ∀ k, (bset q k).testBit j = true ↔ j < k ∧ q j = true
  | 0 => by
    show (0 : Nat).testBit j = true ↔ _
    simp
  | k + 1 => by
    show (if q k = true then bset q k ||| 2 ^ k else bset q k).testBit j = true ↔ _
    by_cases c : q k = true
    · rw [if_pos c, Nat.testBit_or, Nat.testBit_two_pow, Bool.or_eq_true, decide_eq_true_iff, bset_bit q j k]
      constructor
      · rintro (h | h)
        · exact ⟨by omega, h.2⟩
        · exact ⟨by omega, by rw [← h]; exact c⟩
      · rintro ⟨h1, h2⟩
        by_cases e : j = k
        · exact Or.inr e.symm
        · exact Or.inl ⟨by omega, h2⟩
    · rw [if_neg c, bset_bit q j k]
      constructor
      · rintro h
        exact ⟨by omega, h.2⟩
      · rintro ⟨h1, h2⟩
        by_cases e : j = k
        · rw [e] at h2
          exact absurd h2 c
        · exact ⟨by omega, h2⟩
theorem bit_ext {a b : Nat} (h : ∀ j, a.testBit j = true ↔ b.testBit j = true) : a = b := Nat.eq_of_testBit_eq (fun j => by
  have q := h j
  cases e : a.testBit j <;> cases e2 : b.testBit j
  · rfl
  · rw [e, e2] at q; exact absurd (q.mpr rfl) (by decide)
  · rw [e, e2] at q; exact absurd (q.mp rfl) (by decide)
  · rfl)
def jAt (F : Nat → Nat → Int32) (p b : Nat) : Bool := decide (fA F b = p) || decide (fC F b = p)
def jA (F : Nat → Nat → Int32) (S p : Nat) : Nat → Bool := fun b => S.testBit b && jAt F p b
theorem bset_andn (F : Nat → Nat → Int32) (O K p B : Nat) : andn (bset (jA F O p) B) K = bset (jA F (andn O K) p) B := bit_ext (fun j => by
  rw [andn_bit, bset_bit, bset_bit]
  unfold jA
  rw [Bool.and_eq_true, Bool.and_eq_true, andn_bit]
  constructor
  · rintro ⟨⟨h1, h2, h3⟩, h4⟩
    exact ⟨h1, ⟨h2, h4⟩, h3⟩
  · rintro ⟨h1, ⟨h2, h4⟩, h3⟩
    exact ⟨⟨h1, h2, h3⟩, h4⟩)
theorem jAt_ends {F : Nat → Nat → Int32} {P B O D W : Nat} (hi : hI F P B O D W) {b p : Nat} (hb : b < B) (hp : p < 2 ^ 31) {α : Type} (x y : α) : (if F 5 b = nI p then x else if F 6 b = nI p then x else y) = if jAt F p b = true then x else y := by
  have hP := hi.1.2
  obtain ⟨e1, e2, e3, e4⟩ := hI_ends hi hb
  have hj : jAt F p b = true ↔ fA F b = p ∨ fC F b = p := by
    unfold jAt
    rw [Bool.or_eq_true, decide_eq_true_iff, decide_eq_true_iff]
  rw [e1, e3]
  by_cases c1 : fA F b = p
  · rw [if_pos ((nI_eq (by omega) hp).mpr c1), if_pos (hj.mpr (Or.inl c1))]
  · rw [if_neg (fun q => c1 ((nI_eq (by omega) hp).mp q))]
    by_cases c2 : fC F b = p
    · rw [if_pos ((nI_eq (by omega) hp).mpr c2), if_pos (hj.mpr (Or.inr c2))]
    · rw [if_neg (fun q => c2 ((nI_eq (by omega) hp).mp q)), if_neg (fun q => (hj.mp q).elim c1 c2)]
theorem bset_step {q : Nat → Bool} {k : Nat} (hk : k < 31) : (q k = true → nI (bset q k) ||| ((1 : Int32) <<< (nI k &&& 31)) = nI (bset q (k + 1))) ∧ (¬ q k = true → nI (bset q k) = nI (bset q (k + 1))) := by
  refine ⟨fun h => ?_, fun h => ?_⟩
  · rw [nI_shl hk, nI_or]
    show _ = nI (if q k = true then bset q k ||| 2 ^ k else bset q k)
    rw [if_pos h]
  · show _ = nI (if q k = true then bset q k ||| 2 ^ k else bset q k)
    rw [if_neg h]
theorem x3_barsAt {n : Nat} {F : Nat → Nat → Int32} {P B O D W : Nat} (hi : hI F P B O D W) {σ : hv_St} (hx : rX F σ) {p : Nat} (hp : p < 2 ^ 31) : ∀ (d k fuel : Nat), k + d = B → d < fuel → kX3_barsAt_4 n fuel σ (nI p) (nI (bset (jA F O p) k)) (nI k) = some (nI (bset (jA F O p) B), σ) := by
  have hB := hi.2.1.2
  have hbX : σ.1 1 1 = nI B := hx.1.2.1.trans hi.2.1.1
  have oX : σ.1 1 2 = nI O := hx.1.2.2.1.trans hi.2.2.1.1
  have o31 := p2048 hB hi.2.2.1.2
  intro d
  induction d with
  | zero =>
    intro k fuel hk hf
    obtain ⟨fuel, rfl⟩ : ∃ q, fuel = q + 1 := ⟨fuel - 1, by omega⟩
    obtain rfl : k = B := by omega
    show kX3_barsAt_4_b n _ _ _ _ _ = _
    unfold kX3_barsAt_4_b
    rw [hbX, if_pos (nI_le (Nat.le_refl _) (by omega))]
  | succ d ih =>
    intro k fuel hk hf
    obtain ⟨fuel, rfl⟩ : ∃ q, fuel = q + 1 := ⟨fuel - 1, by omega⟩
    have q5 := hx.2.2.2.2.1 k (by omega)
    have hb := fB_iff (s := O) (k := k) (by omega) (by omega)
    have st := bset_step (q := jA F O p) (k := k) (by omega)
    have e : kX3_barsAt_4 n (fuel + 1) σ (nI p) (nI (bset (jA F O p) k)) (nI k) = kX3_barsAt_4 n fuel σ (nI p) (nI (bset (jA F O p) (k + 1))) (nI (k + 1)) := by
      show kX3_barsAt_4_b n _ _ _ _ _ = _
      unfold kX3_barsAt_4_b kX3_barsAt_43 kX3_barsAt_49
      rw [hbX, if_neg (nI_ge (by omega) (by omega)), oX]
      by_cases h : O.testBit k = true
      · rw [(x7_has _ _).1 (hb.mpr h), hv_b2_e, if_neg (by decide), hv_if_t (hv_ok_nI (show k < 11 by omega) (by decide)), hv_if_t (hv_ok_nI (show k < 11 by omega) (by decide)), nI_clamp (by omega), q5.1, q5.2.1, hv_let_e, jAt_ends hi (by omega) hp, nI_1]
        by_cases c : jAt F p k = true
        · rw [if_pos c, st.1 (by unfold jA; rw [h, c]; rfl)]
        · rw [if_neg c, st.2 (by unfold jA; rw [h]; exact c)]
      · rw [(x7_has _ _).2 (fun q => h (hb.mp q)), hv_b2_e, if_pos rfl, nI_1, st.2 (fun q => h (by
          unfold jA at q
          rw [Bool.and_eq_true] at q
          exact q.1))]
    rw [e]
    exact ih (k + 1) fuel (by omega) (by omega)
def acr (F : Nat → Nat → Int32) (S p w : Nat) : Nat → Int
  | 0 => 0
  | k + 1 => acr F S p w k + if S.testBit k = true then fBr F k p w else 0
theorem acr_one (F : Nat → Nat → Int32) (a p w : Nat) : ∀ k, acr F (2 ^ a) p w k = if a < k then fBr F a p w else 0
  | 0 => by rw [if_neg (Nat.not_lt_zero _)]; rfl
  | k + 1 => by
    show acr F (2 ^ a) p w k + (if (2 ^ a).testBit k = true then fBr F k p w else 0) = _
    have ht : (2 ^ a).testBit k = true ↔ a = k := by rw [Nat.testBit_two_pow, decide_eq_true_iff]
    rw [acr_one F a p w k]
    by_cases e : a = k
    · rw [if_neg (show ¬ a < k by omega), if_pos (ht.mpr e), if_pos (show a < k + 1 by omega), e, Int.zero_add]
    · rw [if_neg (fun q => e (ht.mp q)), Int.add_zero]
      by_cases l : a < k
      · rw [if_pos l, if_pos (by omega)]
      · rw [if_neg l, if_neg (by omega)]
theorem acr_le {F : Nat → Nat → Int32} {P B O D W : Nat} (hi : hI F P B O D W) (S p w : Nat) : ∀ k, k ≤ B → -(3 * k : Int) ≤ acr F S p w k ∧ acr F S p w k ≤ 3 * k
  | 0, _ => by
    show -(3 * (0 : Nat) : Int) ≤ 0 ∧ (0 : Int) ≤ 3 * (0 : Nat)
    omega
  | k + 1, h => by
    have q := acr_le hi S p w k (by omega)
    have r := fBr_le hi (show k < B by omega) p w
    show -(3 * ((k + 1 : Nat) : Int)) ≤ acr F S p w k + _ ∧ acr F S p w k + _ ≤ 3 * ((k + 1 : Nat) : Int)
    by_cases c : S.testBit k = true
    · rw [if_pos c]; omega
    · rw [if_neg c]; omega
theorem acr_rI {F : Nat → Nat → Int32} {P B O D W : Nat} (hi : hI F P B O D W) (S p w : Nat) : -33 ≤ acr F S p w B ∧ acr F S p w B ≤ 33 := by
  have hB := hi.2.1.2
  have q := acr_le hi S p w B (Nat.le_refl _)
  omega
theorem x4_across_loop {n : Nat} {F : Nat → Nat → Int32} {P B O D W : Nat} (hi : hI F P B O D W) {σ : hv_St} (hx : rX F σ) {S p w : Nat} (hS : S < 2 ^ 31) (hp : p < 6) (hw : w < 2) : ∀ (d k fuel : Nat), k + d = B → d < fuel → kX4_across_6 n fuel σ (nI p) (nI w) (nI S) (iI (acr F S p w k)) (nI k) = some (iI (acr F S p w B), σ) := by
  have hB := hi.2.1.2
  have hbX : σ.1 1 1 = nI B := hx.1.2.1.trans hi.2.1.1
  intro d
  induction d with
  | zero =>
    intro k fuel hk hf
    obtain ⟨fuel, rfl⟩ : ∃ q, fuel = q + 1 := ⟨fuel - 1, by omega⟩
    obtain rfl : k = B := by omega
    show kX4_across_6_b n _ _ _ _ _ _ _ = _
    unfold kX4_across_6_b
    rw [hbX, if_pos (nI_le (Nat.le_refl _) (by omega))]
  | succ d ih =>
    intro k fuel hk hf
    obtain ⟨fuel, rfl⟩ : ∃ q, fuel = q + 1 := ⟨fuel - 1, by omega⟩
    have hb := fB_iff (k := k) hS (by omega)
    have e : kX4_across_6 n (fuel + 1) σ (nI p) (nI w) (nI S) (iI (acr F S p w k)) (nI k) = kX4_across_6 n fuel σ (nI p) (nI w) (nI S) (iI (acr F S p w (k + 1))) (nI (k + 1)) := by
      show kX4_across_6_b n _ _ _ _ _ _ _ = _
      unfold kX4_across_6_b kX4_across_46
      rw [hbX, if_neg (nI_ge (by omega) (by omega))]
      have ea : acr F S p w (k + 1) = acr F S p w k + if S.testBit k = true then fBr F k p w else 0 := rfl
      by_cases h : S.testBit k = true
      · rw [(x7_has _ _).1 (hb.mpr h), hv_b2_e, if_neg (by decide), nI_2, nI_add, x3_brings hi hx (by omega) hp hw, hv_b2_e, hv_let_e, iI_add, nI_1, ea, if_pos h]
      · rw [(x7_has _ _).2 (fun q => h (hb.mp q)), hv_b2_e, if_pos rfl, nI_1, ea, if_neg h, Int.add_zero]
    rw [e]
    exact ih (k + 1) fuel (by omega) (by omega)
theorem x4_across {n : Nat} (hn : 12 < n) {F : Nat → Nat → Int32} {P B O D W : Nat} (hi : hI F P B O D W) {σ : hv_St} (hx : rX F σ) {S p w : Nat} (hS : S < 2 ^ 31) (hp : p < 6) (hw : w < 2) : mX4_across n σ (nI p) (nI w) (nI S) = some (iI (acr F S p w B), σ) := by
  have hB := hi.2.1.2
  exact x4_across_loop hi hx hS hp hw B 0 n (by omega) (by omega)
theorem one_fin : ∀ U : Fin 2048, pc U.val = 1 → ∃ a : Fin 11, U.val = 2 ^ a.val := by decide +kernel
theorem two_fin : ∀ U : Fin 2048, pc U.val = 2 → ∃ a c : Fin 11, a < c ∧ U.val = 2 ^ a.val ||| 2 ^ c.val := by decide +kernel
theorem two_low : ∀ a c : Fin 11, a < c → (2 ^ a.val ||| 2 ^ c.val) &&& ((2 ^ a.val ||| 2 ^ c.val) - 1) = 2 ^ c.val ∧ (2 ^ a.val ||| 2 ^ c.val) ^^^ (2 ^ c.val) = 2 ^ a.val := by decide +kernel
def jCr (F : Nat → Nat → Int32) (p a c : Nat) : Prop := fBr F a p 0 * fBr F c p 1 ≠ fBr F a p 1 * fBr F c p 0
/-- a pin's bars U are determined there -/
def jD (F : Nat → Nat → Int32) (p U : Nat) : Prop := (∃ a, U = 2 ^ a ∧ ((fFree F (2 * p) = true ∧ fBr F a p 0 ≠ 0) ∨ (fFree F (2 * p + 1) = true ∧ fBr F a p 1 ≠ 0))) ∨ ∃ a c, a < c ∧ U = 2 ^ a ||| 2 ^ c ∧ fFree F (2 * p) = true ∧ fFree F (2 * p + 1) = true ∧ jCr F p a c
theorem pc_one : ∀ a : Fin 11, pc (2 ^ a.val) = 1 := by decide +kernel
theorem pc_two : ∀ a c : Fin 11, a < c → pc (2 ^ a.val ||| 2 ^ c.val) = 2 := by decide +kernel
theorem jD_lt {F : Nat → Nat → Int32} {p U : Nat} (hU : U < 2048) : jD F p U ↔ (∃ a, a < 11 ∧ U = 2 ^ a ∧ ((fFree F (2 * p) = true ∧ fBr F a p 0 ≠ 0) ∨ (fFree F (2 * p + 1) = true ∧ fBr F a p 1 ≠ 0))) ∨ ∃ a c, a < c ∧ c < 11 ∧ U = 2 ^ a ||| 2 ^ c ∧ fFree F (2 * p) = true ∧ fFree F (2 * p + 1) = true ∧ jCr F p a c := by
  have hlt : ∀ a, U.testBit a = true → a < 11 := fun a h => by
    refine Nat.lt_of_not_le fun q => ?_
    have := Nat.ge_two_pow_of_testBit h
    have h2 := Nat.pow_le_pow_right (show 0 < 2 by decide) q
    have h3 : (2 : Nat) ^ 11 = 2048 := by decide
    omega
  unfold jD
  constructor
  · rintro (⟨a, h1, h2⟩ | ⟨a, c, h1, h2, h3⟩)
    · exact Or.inl ⟨a, hlt a (by rw [h1, Nat.testBit_two_pow]; simp), h1, h2⟩
    · exact Or.inr ⟨a, c, h1, hlt c (by rw [h2, Nat.testBit_or, Nat.testBit_two_pow, Nat.testBit_two_pow]; simp), h2, h3⟩
  · rintro (⟨a, h0, h1, h2⟩ | ⟨a, c, h1, h0, h2, h3⟩)
    · exact Or.inl ⟨a, h1, h2⟩
    · exact Or.inr ⟨a, c, h1, h2, h3⟩
theorem pow_inj {a c : Nat} (h : 2 ^ a = 2 ^ c) : a = c := by
  have q := congrArg (fun x : Nat => x.testBit a) h
  simp only [Nat.testBit_two_pow] at q
  simp at q
  omega
theorem or_inj {a c a' c' : Nat} (h1 : a < c) (h2 : a' < c') (h : 2 ^ a ||| 2 ^ c = 2 ^ a' ||| 2 ^ c') : a = a' ∧ c = c' := by
  have key : ∀ j, (j = a ∨ j = c) ↔ (j = a' ∨ j = c') := fun j => by
    have q := congrArg (fun x : Nat => x.testBit j) h
    simp only [Nat.testBit_or, Nat.testBit_two_pow] at q
    have e : (decide (a = j) || decide (c = j)) = true ↔ (decide (a' = j) || decide (c' = j)) = true := by rw [q]
    simp only [Bool.or_eq_true, decide_eq_true_iff] at e
    constructor
    · intro h
      have := e.mp (by omega)
      omega
    · intro h
      have := e.mpr (by omega)
      omega
  have k1 := (key a).mp (Or.inl rfl)
  have k2 := (key c).mp (Or.inr rfl)
  have k3 := (key a').mpr (Or.inl rfl)
  omega
theorem jD_one {F : Nat → Nat → Int32} {p a : Nat} (ha : a < 11) : jD F p (2 ^ a) ↔ ((fFree F (2 * p) = true ∧ fBr F a p 0 ≠ 0) ∨ (fFree F (2 * p + 1) = true ∧ fBr F a p 1 ≠ 0)) := by
  constructor
  · rintro (⟨b, h1, h2⟩ | ⟨b, c, h1, h2, h3⟩)
    · rw [pow_inj h1]
      exact h2
    · exfalso
      have q1 := congrArg (fun x : Nat => x.testBit b) h2
      have q2 := congrArg (fun x : Nat => x.testBit c) h2
      simp only [Nat.testBit_or, Nat.testBit_two_pow] at q1 q2
      simp at q1 q2
      omega
  · intro h
    exact Or.inl ⟨a, rfl, h⟩
theorem jD_two {F : Nat → Nat → Int32} {p a c : Nat} (hac : a < c) : jD F p (2 ^ a ||| 2 ^ c) ↔ fFree F (2 * p) = true ∧ fFree F (2 * p + 1) = true ∧ jCr F p a c := by
  constructor
  · rintro (⟨b, h1, h2⟩ | ⟨b, d, h1, h2, h3⟩)
    · exfalso
      have q1 := congrArg (fun x : Nat => x.testBit a) h1
      have q2 := congrArg (fun x : Nat => x.testBit c) h1
      simp only [Nat.testBit_or, Nat.testBit_two_pow] at q1 q2
      simp at q1 q2
      omega
    · obtain ⟨e1, e2⟩ := or_inj hac h1 h2
      rw [e1, e2]
      exact h3
  · intro h
    exact Or.inr ⟨a, c, hac, rfl, h⟩
end
section
/-! joints: the two tests answer alike -/
theorem held_X {F : Nat → Nat → Int32} {σ : hv_St} (hx : rX F σ) {p w : Nat} (hp : p < 6) (hw : w < 2) : σ.1 4 (2 * p + w) = 0 ↔ fFree F (2 * p + w) = true := by
  unfold fFree
  rw [hx.2.2.2.1 p w hp hw, decide_eq_true_iff, show (2 * p + w) / 2 = p by omega, show (2 * p + w) % 2 = w by omega]
theorem held_M {n : Nat} {F : Nat → Nat → Int32} {P B O D W : Nat} (hi : hI F P B O D W) {σ : hv_St} {p w : Nat} (hp : p < 6) (hw : w < 2) : (fFree F (2 * p + w) = true → mX8_isOn n σ (F 3 p) (nI w) = some (0, σ)) ∧ (¬ fFree F (2 * p + w) = true → mX8_isOn n σ (F 3 p) (nI w) = some (1, σ)) := by
  obtain ⟨m, hm4, em⟩ := hi.2.2.2.2.2.2.2.2.1 p hp
  obtain ⟨b1, -, b3, -⟩ := bit_p hm4 hw
  unfold fFree
  rw [show (2 * p + w) / 2 = p by omega, show (2 * p + w) % 2 = w by omega, em, decide_eq_true_iff]
  rw [b3] at b1
  refine ⟨fun q => (r8_isOn _ _).2 (fun h => by unfold fB at h; rw [b3, q] at h; exact absurd h (by decide)), fun q => (r8_isOn _ _).1 ?_⟩
  unfold fB
  rw [b3]
  exact b1.resolve_left q
theorem held_fin : ∀ m : Fin 4, (nI m.val = 0) ↔ ((nI m.val >>> nI 0) &&& 1 = 0 ∧ (nI m.val >>> nI 1) &&& 1 = 0) := by decide +kernel
theorem held_0 {F : Nat → Nat → Int32} {P B O D W : Nat} (hi : hI F P B O D W) {p : Nat} (hp : p < 6) : F 3 p = 0 ↔ fFree F (2 * p) = true ∧ fFree F (2 * p + 1) = true := by
  obtain ⟨m, hm4, em⟩ := hi.2.2.2.2.2.2.2.2.1 p hp
  unfold fFree
  rw [show (2 * p) / 2 = p by omega, show (2 * p) % 2 = 0 by omega, show (2 * p + 1) / 2 = p by omega, show (2 * p + 1) % 2 = 1 by omega, em, decide_eq_true_iff, decide_eq_true_iff]
  exact held_fin ⟨m, hm4⟩
theorem iI_0 {z : Int} (h : -100 ≤ z ∧ z ≤ 100) : iI z = 0 ↔ z = 0 := iI_eq (b := 0) ⟨by omega, by omega⟩ ⟨by decide, by decide⟩
theorem pow_ltB {a B : Nat} (h : 2 ^ a < 2 ^ B) : a < B := (Nat.pow_lt_pow_iff_right (by decide)).mp h
theorem or_ltB {a c B : Nat} (h : 2 ^ a ||| 2 ^ c < 2 ^ B) : a < B ∧ c < B := by
  have h1 : 2 ^ a ≤ 2 ^ a ||| 2 ^ c := Nat.ge_two_pow_of_testBit (by rw [Nat.testBit_or, Nat.testBit_two_pow]; simp)
  have h2 : 2 ^ c ≤ 2 ^ a ||| 2 ^ c := Nat.ge_two_pow_of_testBit (by rw [Nat.testBit_or, Nat.testBit_two_pow, Nat.testBit_two_pow]; simp)
  exact ⟨pow_ltB (by omega), pow_ltB (by omega)⟩
theorem prod_le {a b : Int} (ha : -3 ≤ a ∧ a ≤ 3) (hb : -3 ≤ b ∧ b ≤ 3) : -9 ≤ a * b ∧ a * b ≤ 9 := by
  have h : (a * b).natAbs ≤ 9 := by
    rw [Int.natAbs_mul]
    exact Nat.mul_le_mul (show a.natAbs ≤ 3 by omega) (show b.natAbs ≤ 3 by omega)
  omega
theorem x4_turns {n : Nat} (hn : 12 < n) {F : Nat → Nat → Int32} {P B O D W : Nat} (hi : hI F P B O D W) {σ : hv_St} (hx : rX F σ) {p a c : Nat} (hp : p < 6) (hac : a < c) (hc : c < B) : (jCr F p a c → mX4_turns n σ (nI p) (nI (2 ^ a ||| 2 ^ c)) = some (1, σ)) ∧ (¬ jCr F p a c → mX4_turns n σ (nI p) (nI (2 ^ a ||| 2 ^ c)) = some (0, σ)) := by
  have hB := hi.2.1.2
  obtain ⟨t1, t2⟩ := two_low ⟨a, by omega⟩ ⟨c, by omega⟩ hac
  have u1 : 1 ≤ 2 ^ a ||| 2 ^ c := by
    have h1 : 2 ^ a ≤ 2 ^ a ||| 2 ^ c := Nat.ge_two_pow_of_testBit (by rw [Nat.testBit_or, Nat.testBit_two_pow]; simp)
    have := Nat.two_pow_pos a
    omega
  have pa : (2 : Nat) ^ a < 2 ^ 31 := Nat.pow_lt_pow_right (by decide) (by omega)
  have pc' : (2 : Nat) ^ c < 2 ^ 31 := Nat.pow_lt_pow_right (by decide) (by omega)
  have y3 : nI (2 ^ a ||| 2 ^ c) &&& (nI (2 ^ a ||| 2 ^ c) - 1) = nI (2 ^ c) := by
    rw [show (1 : Int32) = nI 1 from rfl, pk_sub u1, nI_and]
    exact congrArg nI t1
  have y4 : nI (2 ^ a ||| 2 ^ c) ^^^ nI (2 ^ c) = nI (2 ^ a) := by
    rw [nI_xor]
    exact congrArg nI t2
  have e : ∀ (k w : Nat), k < B → w < 2 → (2 : Nat) ^ k < 2 ^ 31 → mX4_across n σ (nI p) (nI w) (nI (2 ^ k)) = some (iI (fBr F k p w), σ) := fun k w hk hw h31 => by
    rw [x4_across hn hi hx h31 hp hw, acr_one, if_pos hk]
  have e0 : mX4_turns n σ (nI p) (nI (2 ^ a ||| 2 ^ c)) = if iI (fBr F a p 0 * fBr F c p 1) = iI (fBr F a p 1 * fBr F c p 0) then some (0, σ) else some (1, σ) := by
    unfold mX4_turns
    rw [hv_let_e, y3, hv_let_e, y4, show mX4_across n σ (nI p) 0 (nI (2 ^ a)) = _ from e a 0 (by omega) (by omega) pa, hv_b2_e, show mX4_across n σ (nI p) 1 (nI (2 ^ c)) = _ from e c 1 hc (by omega) pc', hv_b2_e, hv_let_e, show mX4_across n σ (nI p) 1 (nI (2 ^ a)) = _ from e a 1 (by omega) (by omega) pa, hv_b2_e, show mX4_across n σ (nI p) 0 (nI (2 ^ c)) = _ from e c 0 hc (by omega) pc', hv_b2_e, hv_let_e, iI_mul, iI_mul]
  have b1 := prod_le (fBr_le hi (show a < B by omega) p 0) (fBr_le hi hc p 1)
  have b2 := prod_le (fBr_le hi (show a < B by omega) p 1) (fBr_le hi hc p 0)
  rw [e0]
  unfold jCr
  refine ⟨fun h => if_neg (fun q => h ((iI_eq ⟨by omega, by omega⟩ ⟨by omega, by omega⟩).mp q)), fun h => if_pos ?_⟩
  exact (iI_eq ⟨by omega, by omega⟩ ⟨by omega, by omega⟩).mpr (Classical.byContradiction fun q => h q)
theorem jD_pc {F : Nat → Nat → Int32} {p U : Nat} (hU : U < 2048) (h : jD F p U) : pc U = 1 ∨ pc U = 2 := by
  rcases (jD_lt hU).mp h with ⟨a, h0, h1, -⟩ | ⟨a, c, h1, h0, h2, -⟩
  · rw [h1]
    exact Or.inl (pc_one ⟨a, h0⟩)
  · rw [h2]
    exact Or.inr (pc_two ⟨a, by omega⟩ ⟨c, h0⟩ h1)
theorem pc_le (U : Nat) : pc U ≤ 12 := pcK_le U 12
theorem x4_determines {n : Nat} (hn : 12 < n) {F : Nat → Nat → Int32} {P B O D W : Nat} (hi : hI F P B O D W) {σ : hv_St} (hx : rX F σ) {p U : Nat} (hp : p < 6) (hU : U < 2 ^ B) : (jD F p U → mX4_determines n σ (nI p) (nI U) = some (1, σ)) ∧ (¬ jD F p U → mX4_determines n σ (nI p) (nI U) = some (0, σ)) := by
  have hB := hi.2.1.2
  have hU' := p2048 hB hU
  have pl := pc_le U
  have e1 : mX4_determines n σ (nI p) (nI U) = kX4_determines_41 n σ (nI p) (nI U) (if fFree F (2 * p) = true then 1 else 0) (if fFree F (2 * p + 1) = true then 1 else 0) := by
    unfold mX4_determines kX4_determines_19
    simp only [nI_2, nI_1, hv_if_t (hv_ok_nI (show 2 * p < 12 by omega) (by decide)), hv_if_t (hv_ok_nI (show 2 * p + 1 < 12 by omega) (by decide)), nI_clamp (show 2 * p < 2 ^ 31 by omega), nI_clamp (show 2 * p + 1 < 2 ^ 31 by omega)]
    have h0 := held_X hx hp (show 0 < 2 by omega)
    have h1 := held_X hx hp (show 1 < 2 by omega)
    rw [Nat.add_zero] at h0
    by_cases c0 : fFree F (2 * p) = true
    · rw [if_pos (h0.mpr c0), if_pos c0]
      by_cases c1 : fFree F (2 * p + 1) = true
      · rw [if_pos (h1.mpr c1), if_pos c1]
      · rw [if_neg (fun q => c1 (h1.mp q)), if_neg c1]
    · rw [if_neg (fun q => c0 (h0.mp q)), if_neg c0]
      by_cases c1 : fFree F (2 * p + 1) = true
      · rw [if_pos (h1.mpr c1), if_pos c1]
      · rw [if_neg (fun q => c1 (h1.mp q)), if_neg c1]
  rw [e1]
  unfold kX4_determines_41
  rw [x_bitCount hU', hv_b2_e]
  have n1 : nI (pc U) = (1 : Int32) ↔ pc U = 1 := nI_eq (b := 1) (by omega) (by decide)
  have n2 : nI (pc U) = (2 : Int32) ↔ pc U = 2 := nI_eq (b := 2) (by omega) (by decide)
  by_cases q1 : pc U = 1
  · obtain ⟨a, ha⟩ := one_fin ⟨U, hU'⟩ q1
    have ha' : U = 2 ^ a.val := ha
    subst ha'
    have haB := pow_ltB hU
    have e : ∀ w, w < 2 → mX4_across n σ (nI p) (nI w) (nI (2 ^ a.val)) = some (iI (fBr F a.val p w), σ) := fun w hw => by
      rw [x4_across hn hi hx (by omega) hp hw, acr_one, if_pos haB]
    have f0 := fBr_le hi haB p 0
    have f1 := fBr_le hi haB p 1
    rw [if_pos (n1.mpr q1), jD_one (by omega)]
    unfold kX4_determines_86 kX4_determines_101 kX4_determines_105
    have A0 : mX4_across n σ (nI p) 0 (nI (2 ^ a.val)) = _ := e 0 (by omega)
    have A1 : mX4_across n σ (nI p) 1 (nI (2 ^ a.val)) = _ := e 1 (by omega)
    simp only [A0, A1, hv_b2_e, iI_0 (show -100 ≤ fBr F a.val p 0 ∧ fBr F a.val p 0 ≤ 100 by omega), iI_0 (show -100 ≤ fBr F a.val p 1 ∧ fBr F a.val p 1 ≤ 100 by omega)]
    by_cases c0 : fFree F (2 * p) = true <;> by_cases c1 : fFree F (2 * p + 1) = true <;> by_cases z0 : fBr F a.val p 0 = 0 <;> by_cases z1 : fBr F a.val p 1 = 0 <;> simp [c0, c1, z0, z1]
  · by_cases q2 : pc U = 2
    · obtain ⟨a, c, hac, ha⟩ := two_fin ⟨U, hU'⟩ q2
      have ha' : U = 2 ^ a.val ||| 2 ^ c.val := ha
      have hac' : a.val < c.val := hac
      subst ha'
      have hcB := (or_ltB hU).2
      have t := x4_turns (n := n) hn hi hx hp hac' hcB
      rw [if_neg (fun q => q1 (n1.mp q)), if_pos (n2.mpr q2), jD_two hac']
      unfold kX4_determines_129
      by_cases cr : jCr F p a.val c.val
      · rw [t.1 cr, hv_b2_e]
        by_cases c0 : fFree F (2 * p) = true <;> by_cases c1 : fFree F (2 * p + 1) = true <;> simp [c0, c1, cr]
      · rw [t.2 cr, hv_b2_e]
        by_cases c0 : fFree F (2 * p) = true <;> by_cases c1 : fFree F (2 * p + 1) = true <;> simp [c0, c1, cr]
    · rw [if_neg (fun q => q1 (n1.mp q)), if_neg (fun q => q2 (n2.mp q))]
      refine ⟨fun h => ?_, fun _ => rfl⟩
      rcases jD_pc hU' h with h | h
      · exact absurd h q1
      · exact absurd h q2
theorem r8_told_76 {n : Nat} {F : Nat → Nat → Int32} {P B O D W : Nat} (hi : hI F P B O D W) {σ : hv_St} (hm : rM F σ) {p a : Nat} (hp : p < 6) (ha : a < B) : ∀ (d k fuel : Nat), k + d = a → d < fuel → kX8_toldAt_76 n fuel σ (nI p) (nI (2 ^ a)) (nI k) = if (fFree F (2 * p) = true ∧ fBr F a p 0 ≠ 0) ∨ (fFree F (2 * p + 1) = true ∧ fBr F a p 1 ≠ 0) then some (nI (2 ^ a), σ) else some (0, σ) := by
  have hB := hi.2.1.2
  have pa : (2 : Nat) ^ a < 2 ^ 31 := Nat.pow_lt_pow_right (by decide) (by omega)
  intro d
  induction d with
  | zero =>
    intro k fuel hk hf
    obtain ⟨fuel, rfl⟩ : ∃ q, fuel = q + 1 := ⟨fuel - 1, by omega⟩
    obtain rfl : k = a := by omega
    show kX8_toldAt_76_b n _ _ _ _ _ = _
    unfold kX8_toldAt_76_b
    have f0 := fBr_le hi ha p 0
    have f1 := fBr_le hi ha p 1
    have h0 := held_M (n := n) (σ := σ) hi hp (show 0 < 2 by omega)
    have h1 := held_M (n := n) (σ := σ) hi hp (show 1 < 2 by omega)
    rw [Nat.add_zero] at h0
    rw [(r8_isOn _ _).1 ((fB_iff pa (by omega)).mpr (by rw [Nat.testBit_two_pow]; simp)), hv_b2_e, if_neg (by decide), hv_if_t (hv_ok_nI (show p < 6 by omega) (by decide)), nI_clamp (by omega), hm.2 3 (by decide) (by decide)]
    have e113 : kX8_toldAt_113 n σ (nI p) (nI (2 ^ k)) (nI k) = if fFree F (2 * p + 1) = true ∧ fBr F k p 1 ≠ 0 then some (nI (2 ^ k), σ) else some (0, σ) := by
      unfold kX8_toldAt_113 kX8_toldAt_140 kX8_toldAt_136 kX8_toldAt_141
      rw [hv_if_t (hv_ok_nI (show p < 6 by omega) (by decide)), nI_clamp (by omega), hm.2 3 (by decide) (by decide)]
      by_cases c1 : fFree F (2 * p + 1) = true
      · rw [show mX8_isOn n σ (F 3 p) 1 = _ from h1.1 c1, hv_b2_e, if_pos rfl, show mX8_brings n σ (nI k) (nI p) 1 = _ from r8_brings hi hm ha hp (show 1 < 2 by omega), hv_b2_e]
        by_cases z : fBr F k p 1 = 0
        · rw [if_pos ((iI_0 ⟨by omega, by omega⟩).mpr z), if_pos rfl, if_neg (fun q => q.2 z)]
        · rw [if_neg (fun q => z ((iI_0 ⟨by omega, by omega⟩).mp q)), if_neg (by decide), if_pos ⟨c1, z⟩]
      · rw [show mX8_isOn n σ (F 3 p) 1 = _ from h1.2 c1, hv_b2_e, if_neg (by decide), if_pos rfl, if_neg (fun q => c1 q.1)]
    by_cases c0 : fFree F (2 * p) = true
    · rw [show mX8_isOn n σ (F 3 p) 0 = _ from h0.1 c0, hv_b2_e, if_pos rfl, show mX8_brings n σ (nI k) (nI p) 0 = _ from r8_brings hi hm ha hp (show 0 < 2 by omega), hv_b2_e, e113]
      by_cases z : fBr F k p 0 = 0
      · rw [if_pos ((iI_0 ⟨by omega, by omega⟩).mpr z)]
        by_cases c1 : fFree F (2 * p + 1) = true ∧ fBr F k p 1 ≠ 0
        · rw [if_pos c1, if_pos (Or.inr c1)]
        · rw [if_neg c1, if_neg (fun q => q.elim (fun q => q.2 z) c1)]
      · rw [if_neg (fun q => z ((iI_0 ⟨by omega, by omega⟩).mp q)), if_pos (Or.inl ⟨c0, z⟩)]
        unfold kX8_toldAt_136 kX8_toldAt_141
        rw [if_neg (by decide)]
    · rw [show mX8_isOn n σ (F 3 p) 0 = _ from h0.2 c0, hv_b2_e, if_neg (by decide), e113]
      by_cases c1 : fFree F (2 * p + 1) = true ∧ fBr F k p 1 ≠ 0
      · rw [if_pos c1, if_pos (Or.inr c1)]
      · rw [if_neg c1, if_neg (fun q => q.elim (fun q => c0 q.1) c1)]
  | succ d ih =>
    intro k fuel hk hf
    obtain ⟨fuel, rfl⟩ : ∃ q, fuel = q + 1 := ⟨fuel - 1, by omega⟩
    rw [← ih (k + 1) fuel (by omega) (by omega)]
    show kX8_toldAt_76_b n _ _ _ _ _ = _
    unfold kX8_toldAt_76_b
    rw [(r8_isOn _ _).2 (fun q => by
      have q2 := (fB_iff pa (by omega)).mp q
      rw [Nat.testBit_two_pow, decide_eq_true_iff] at q2
      omega), hv_b2_e, if_pos rfl, nI_1]
theorem r8_told_194 {n : Nat} {F : Nat → Nat → Int32} {P B O D W : Nat} (hi : hI F P B O D W) {σ : hv_St} (hm : rM F σ) {p a c U : Nat} (hp : p < 6) (hac : a < c) (hc : c < B) (hU : U = 2 ^ a ||| 2 ^ c) : ∀ (d k fuel : Nat), a < k → k + d = c → d < fuel → (jCr F p a c → kX8_toldAt_194 n fuel σ (nI p) (nI U) (nI a) (nI k) = some (nI U, σ)) ∧ (¬ jCr F p a c → kX8_toldAt_194 n fuel σ (nI p) (nI U) (nI a) (nI k) = some (0, σ)) := by
  have hB := hi.2.1.2
  have pU : U < 2 ^ 31 := by
    rw [hU]
    exact Nat.or_lt_two_pow (Nat.pow_lt_pow_right (by decide) (by omega)) (Nat.pow_lt_pow_right (by decide) (by omega))
  have tb : ∀ j, U.testBit j = true ↔ j = a ∨ j = c := fun j => by
    rw [hU, Nat.testBit_or, Nat.testBit_two_pow, Nat.testBit_two_pow, Bool.or_eq_true, decide_eq_true_iff, decide_eq_true_iff]
    omega
  intro d
  induction d with
  | zero =>
    intro k fuel hak hk hf
    obtain ⟨fuel, rfl⟩ : ∃ q, fuel = q + 1 := ⟨fuel - 1, by omega⟩
    obtain rfl : k = c := by omega
    have e0 : kX8_toldAt_194 n (fuel + 1) σ (nI p) (nI U) (nI a) (nI k) = if iI (fBr F a p 0 * fBr F k p 1) = iI (fBr F a p 1 * fBr F k p 0) then some (0, σ) else some (nI U, σ) := by
      show kX8_toldAt_194_b n _ _ _ _ _ _ = _
      unfold kX8_toldAt_194_b
      rw [(r8_isOn _ _).1 ((fB_iff pU (by omega)).mpr ((tb k).mpr (Or.inr rfl))), hv_b2_e, if_neg (by decide), show mX8_brings n σ (nI a) (nI p) 0 = _ from r8_brings hi hm (by omega) hp (show 0 < 2 by omega), hv_b2_e, show mX8_brings n σ (nI k) (nI p) 1 = _ from r8_brings hi hm hc hp (show 1 < 2 by omega), hv_b2_e, show mX8_brings n σ (nI a) (nI p) 1 = _ from r8_brings hi hm (by omega) hp (show 1 < 2 by omega), hv_b2_e, show mX8_brings n σ (nI k) (nI p) 0 = _ from r8_brings hi hm hc hp (show 0 < 2 by omega), hv_b2_e, iI_mul, iI_mul]
    have b1 := prod_le (fBr_le hi (show a < B by omega) p 0) (fBr_le hi hc p 1)
    have b2 := prod_le (fBr_le hi (show a < B by omega) p 1) (fBr_le hi hc p 0)
    rw [e0]
    unfold jCr
    refine ⟨fun h => if_neg (fun q => h ((iI_eq ⟨by omega, by omega⟩ ⟨by omega, by omega⟩).mp q)), fun h => if_pos ?_⟩
    exact (iI_eq ⟨by omega, by omega⟩ ⟨by omega, by omega⟩).mpr (Classical.byContradiction fun q => h q)
  | succ d ih =>
    intro k fuel hak hk hf
    obtain ⟨fuel, rfl⟩ : ∃ q, fuel = q + 1 := ⟨fuel - 1, by omega⟩
    have e : kX8_toldAt_194 n (fuel + 1) σ (nI p) (nI U) (nI a) (nI k) = kX8_toldAt_194 n fuel σ (nI p) (nI U) (nI a) (nI (k + 1)) := by
      show kX8_toldAt_194_b n _ _ _ _ _ _ = _
      unfold kX8_toldAt_194_b
      rw [(r8_isOn _ _).2 (fun q => by
        have q2 := (tb k).mp ((fB_iff pU (by omega)).mp q)
        omega), hv_b2_e, if_pos rfl, nI_1]
    rw [e]
    exact ih (k + 1) fuel (by omega) (by omega) (by omega)
theorem r8_told_175 {n : Nat} (hn : 12 < n) {F : Nat → Nat → Int32} {P B O D W : Nat} (hi : hI F P B O D W) {σ : hv_St} (hm : rM F σ) {p a c U : Nat} (hp : p < 6) (hac : a < c) (hc : c < B) (hU : U = 2 ^ a ||| 2 ^ c) : ∀ (d k fuel : Nat), k + d = a → d < fuel → (jCr F p a c → kX8_toldAt_175 n fuel σ (nI p) (nI U) (nI k) = some (nI U, σ)) ∧ (¬ jCr F p a c → kX8_toldAt_175 n fuel σ (nI p) (nI U) (nI k) = some (0, σ)) := by
  have hB := hi.2.1.2
  have pU : U < 2 ^ 31 := by
    rw [hU]
    exact Nat.or_lt_two_pow (Nat.pow_lt_pow_right (by decide) (by omega)) (Nat.pow_lt_pow_right (by decide) (by omega))
  have tb : ∀ j, U.testBit j = true ↔ j = a ∨ j = c := fun j => by
    rw [hU, Nat.testBit_or, Nat.testBit_two_pow, Nat.testBit_two_pow, Bool.or_eq_true, decide_eq_true_iff, decide_eq_true_iff]
    omega
  intro d
  induction d with
  | zero =>
    intro k fuel hk hf
    obtain ⟨fuel, rfl⟩ : ∃ q, fuel = q + 1 := ⟨fuel - 1, by omega⟩
    obtain rfl : k = a := by omega
    have e : kX8_toldAt_175 n (fuel + 1) σ (nI p) (nI U) (nI k) = kX8_toldAt_194 n n σ (nI p) (nI U) (nI k) (nI (k + 1)) := by
      show kX8_toldAt_175_b n _ _ _ _ _ = _
      unfold kX8_toldAt_175_b
      rw [(r8_isOn _ _).1 ((fB_iff pU (by omega)).mpr ((tb k).mpr (Or.inl rfl))), hv_b2_e, if_neg (by decide), hv_let_e, nI_1]
    rw [e]
    exact r8_told_194 hi hm hp hac hc hU (c - (k + 1)) (k + 1) n (by omega) (by omega) (by omega)
  | succ d ih =>
    intro k fuel hk hf
    obtain ⟨fuel, rfl⟩ : ∃ q, fuel = q + 1 := ⟨fuel - 1, by omega⟩
    have e : kX8_toldAt_175 n (fuel + 1) σ (nI p) (nI U) (nI k) = kX8_toldAt_175 n fuel σ (nI p) (nI U) (nI (k + 1)) := by
      show kX8_toldAt_175_b n _ _ _ _ _ = _
      unfold kX8_toldAt_175_b
      rw [(r8_isOn _ _).2 (fun q => by
        have q2 := (tb k).mp ((fB_iff pU (by omega)).mp q)
        omega), hv_b2_e, if_pos rfl, nI_1]
    rw [e]
    exact ih (k + 1) fuel (by omega) (by omega)
theorem r8_toldEnd {n : Nat} (hn : 12 < n) {F : Nat → Nat → Int32} {P B O D W : Nat} (hi : hI F P B O D W) {σ : hv_St} (hm : rM F σ) {p U : Nat} (hp : p < 6) (hU : U < 2 ^ B) {o : Option (Int32 × hv_St)} (ho : o = (hv_b2 (mX8_bits n σ (nI U)) fun r67 s67 => if r67 = (1 : Int32) then (kX8_toldAt_76 n n s67 (nI p) (nI U) ((0 : Int32))) else (hv_b2 (mX8_bits n s67 (nI U)) fun r155 s155 => if r155 = (2 : Int32) then (hv_if (hv_ok (nI p) 6) (if s155.1 3 (nI p).toNatClampNeg = 0 then (kX8_toldAt_175 n n s155 (nI p) (nI U) ((0 : Int32))) else (some ((0 : Int32), s155)))) else (some ((0 : Int32), s155))))) : (jD F p U → o = some (nI U, σ)) ∧ (¬ jD F p U → o = some (0, σ)) := by
  have hB := hi.2.1.2
  have hU' := p2048 hB hU
  have pl := pc_le U
  have n1 : nI (pc U) = (1 : Int32) ↔ pc U = 1 := nI_eq (b := 1) (by omega) (by decide)
  have n2 : nI (pc U) = (2 : Int32) ↔ pc U = 2 := nI_eq (b := 2) (by omega) (by decide)
  rw [ho, r8_bits hn (by omega), hv_b2_e]
  by_cases q1 : pc U = 1
  · obtain ⟨a, ha⟩ := one_fin ⟨U, hU'⟩ q1
    have ha' : U = 2 ^ a.val := ha
    subst ha'
    have haB := pow_ltB hU
    rw [if_pos (n1.mpr q1), jD_one (by omega), show kX8_toldAt_76 n n σ (nI p) (nI (2 ^ a.val)) 0 = _ from r8_told_76 hi hm hp haB a.val 0 n (by omega) (by omega)]
    exact ⟨fun h => if_pos h, fun h => if_neg h⟩
  · rw [if_neg (fun q => q1 (n1.mp q)), r8_bits hn (by omega), hv_b2_e]
    by_cases q2 : pc U = 2
    · obtain ⟨a, c, hac, ha⟩ := two_fin ⟨U, hU'⟩ q2
      have ha' : U = 2 ^ a.val ||| 2 ^ c.val := ha
      have hac' : a.val < c.val := hac
      have hcB := (or_ltB (by rw [← ha']; exact hU)).2
      have t := r8_told_175 hn hi hm hp hac' hcB ha' a.val 0 n (by omega) (by omega)
      rw [if_pos (n2.mpr q2), hv_if_t (hv_ok_nI (show p < 6 by omega) (by decide)), nI_clamp (by omega), hm.2 3 (by decide) (by decide)]
      have ej : jD F p U ↔ F 3 p = 0 ∧ jCr F p a.val c.val := by
        rw [ha', jD_two hac', held_0 hi hp]
        exact ⟨fun h => ⟨⟨h.1, h.2.1⟩, h.2.2⟩, fun h => ⟨h.1.1, h.1.2, h.2⟩⟩
      rw [ej]
      by_cases z : F 3 p = 0
      · rw [if_pos z]
        exact ⟨fun h => t.1 h.2, fun h => t.2 (fun q => h ⟨z, q⟩)⟩
      · rw [if_neg z]
        exact ⟨fun h => absurd h.1 z, fun _ => rfl⟩
    · rw [if_neg (fun q => q2 (n2.mp q))]
      refine ⟨fun h => ?_, fun _ => rfl⟩
      rcases jD_pc hU' h with h | h
      · exact absurd h q1
      · exact absurd h q2
theorem r8_toldAt {n : Nat} (hn : 12 < n) {F : Nat → Nat → Int32} {P B O D W : Nat} (hi : hI F P B O D W) {σ : hv_St} (hm : rM F σ) {p K : Nat} (hp : p < 6) (hK : σ.1 0 32 = nI K) : (jD F p (bset (jA F (andn O K) p) B) → mX8_toldAt n σ (nI p) = some (nI (bset (jA F (andn O K) p) B), σ)) ∧ (¬ jD F p (bset (jA F (andn O K) p) B) → mX8_toldAt n σ (nI p) = some (0, σ)) := by
  have hB := hi.2.1.2
  have oM : σ.1 0 11 = nI O := hm.1.2.2.1.trans hi.2.2.1.1
  have bM : σ.1 0 6 = nI B := hm.1.2.1.trans hi.2.1.1
  have ok31 := p2048 hB (andn_lt (b := K) hi.2.2.1.2)
  have loop : ∀ (d k fuel : Nat), k + d = B → d < fuel → (jD F p (bset (jA F (andn O K) p) B) → kX8_toldAt_4 n fuel σ (nI p) (nI (bset (jA F (andn O K) p) k)) (nI k) = some (nI (bset (jA F (andn O K) p) B), σ)) ∧ (¬ jD F p (bset (jA F (andn O K) p) B) → kX8_toldAt_4 n fuel σ (nI p) (nI (bset (jA F (andn O K) p) k)) (nI k) = some (0, σ)) := by
    intro d
    induction d with
    | zero =>
      intro k fuel hk hf
      obtain ⟨fuel, rfl⟩ : ∃ q, fuel = q + 1 := ⟨fuel - 1, by omega⟩
      obtain rfl : k = B := by omega
      refine r8_toldEnd hn hi hm hp (bset_lt _ _) ?_
      show kX8_toldAt_4_b n _ _ _ _ _ = _
      unfold kX8_toldAt_4_b
      rw [bM, if_pos (nI_le (Nat.le_refl _) (by omega))]
    | succ d ih =>
      intro k fuel hk hf
      obtain ⟨fuel, rfl⟩ : ∃ q, fuel = q + 1 := ⟨fuel - 1, by omega⟩
      have hb := fB_iff (s := andn O K) (k := k) (by omega) (by omega)
      have st := bset_step (q := jA F (andn O K) p) (k := k) (by omega)
      have e : kX8_toldAt_4 n (fuel + 1) σ (nI p) (nI (bset (jA F (andn O K) p) k)) (nI k) = kX8_toldAt_4 n fuel σ (nI p) (nI (bset (jA F (andn O K) p) (k + 1))) (nI (k + 1)) := by
        show kX8_toldAt_4_b n _ _ _ _ _ = _
        unfold kX8_toldAt_4_b kX8_toldAt_57 kX8_toldAt_51 kX8_toldAt_58
        rw [bM, if_neg (nI_ge (by omega) (by omega)), oM, hK, nI_andn]
        by_cases h : (andn O K).testBit k = true
        · rw [(r8_isOn _ _).1 (hb.mpr h), hv_b2_e, if_neg (by decide), hv_if_t (hv_ok_nI (show k < 11 by omega) (by decide)), hv_if_t (hv_ok_nI (show k < 11 by omega) (by decide)), nI_clamp (by omega), hm.2 5 (by decide) (by decide), hm.2 6 (by decide) (by decide), hv_let_e, hv_let_e, jAt_ends hi (by omega) (by omega), nI_1]
          by_cases c : jAt F p k = true
          · rw [if_pos c, st.1 (by unfold jA; rw [h, c]; rfl)]
          · rw [if_neg c, nI_or0, st.2 (by unfold jA; rw [h]; exact c)]
        · rw [(r8_isOn _ _).2 (fun q => h (hb.mp q)), hv_b2_e, if_pos rfl, hv_let_e, nI_1, nI_or0, st.2 (fun q => h (by
            unfold jA at q
            rw [Bool.and_eq_true] at q
            exact q.1))]
      rw [e]
      exact ih (k + 1) fuel (by omega) (by omega)
  exact loop B 0 n (by omega) (by omega)
end
section
/-! joints: both sides go the same way -/
def jU (F : Nat → Nat → Int32) (O B K p : Nat) : Nat := bset (jA F (andn O K) p) B
def jcX (F : Nat → Nat → Int32) (σ : hv_St) (K : Nat) (l : List Nat) : Prop := rX F σ ∧ σ.1 17 2 = nI l.length ∧ σ.1 17 3 = nI K ∧ ∀ i, i < l.length → σ.1 18 i = nI (l.getD i 0)
def jcM (F : Nat → Nat → Int32) (σ : hv_St) (K : Nat) (l : List Nat) : Prop := rM F σ ∧ σ.1 0 34 = nI l.length ∧ σ.1 0 32 = nI K ∧ ∀ i, i < l.length → σ.1 22 i = nI (l.getD i 0)
def jV (F : Nat → Nat → Int32) (P B O K : Nat) (l : List Nat) : Prop := K < 2 ^ B ∧ l.Nodup ∧ ∀ p, p ∈ l → p < P ∧ jU F O B K p = 0
theorem jD_ne0 {F : Nat → Nat → Int32} {p U : Nat} (h : jD F p U) : U ≠ 0 := by
  intro z
  rcases h with ⟨a, h1, -⟩ | ⟨a, c, -, h1, -⟩
  · have := Nat.two_pow_pos a
    omega
  · have q := congrArg (fun x : Nat => x.testBit a) h1
    rw [z] at q
    simp only [Nat.testBit_or, Nat.testBit_two_pow] at q
    simp at q
theorem jV_new {F : Nat → Nat → Int32} {P B O K : Nat} {l : List Nat} (h : jV F P B O K l) {p : Nat} (hp : p < P) (hD : jD F p (jU F O B K p)) : p ∉ l ∧ l.length < P ∧ jV F P B O (K ||| jU F O B K p) (l ++ [p]) := by
  obtain ⟨h1, h2, h3⟩ := h
  have hpl : p ∉ l := fun hm => jD_ne0 hD (h3 p hm).2
  have hc : (p :: l).Nodup := List.nodup_cons.mpr ⟨hpl, h2⟩
  have q := pig P (p :: l) hc (fun x hx => by
    rcases List.mem_cons.mp hx with rfl | hx
    · exact hp
    · exact (h3 x hx).1)
  have sub : ∀ q j, (jU F O B (K ||| jU F O B K p) q).testBit j = true → (jU F O B K q).testBit j = true ∧ ¬ (jU F O B K p).testBit j = true := fun q j hj => by
    unfold jU at hj ⊢
    rw [bset_bit] at hj
    rw [bset_bit]
    unfold jA at hj ⊢
    rw [Bool.and_eq_true, andn_bit, Nat.testBit_or, Bool.or_eq_true] at hj
    rw [Bool.and_eq_true, andn_bit]
    exact ⟨⟨hj.1, ⟨hj.2.1.1, fun z => hj.2.1.2 (Or.inl z)⟩, hj.2.2⟩, fun z => hj.2.1.2 (Or.inr z)⟩
  refine ⟨hpl, ?_, Nat.or_lt_two_pow h1 (bset_lt _ _), ?_, fun q hq => ?_⟩
  · simp at q
    omega
  · rw [List.nodup_append]
    refine ⟨h2, by simp, fun a ha b hb e => ?_⟩
    rw [List.mem_singleton.mp hb] at e
    exact hpl (e ▸ ha)
  · have hqP : q < P := by
      rcases List.mem_append.mp hq with hq | hq
      · exact (h3 q hq).1
      · rw [List.mem_singleton.mp hq]; exact hp
    refine ⟨hqP, bit_ext (fun j => ⟨fun hj => ?_, fun hj => by simp at hj⟩)⟩
    have s := sub q j hj
    rcases List.mem_append.mp hq with hq | hq
    · rw [(h3 q hq).2] at s
      exact s.1
    · rw [List.mem_singleton.mp hq] at s
      exact absurd s.1 s.2
theorem x4_doNext {n : Nat} (hn : 12 < n) {F : Nat → Nat → Int32} {P B O D W : Nat} (hi : hI F P B O D W) {σ : hv_St} {K : Nat} {l : List Nat} (hc : jcX F σ K l) (hV : jV F P B O K l) : ∀ (d k fuel : Nat), k + d = P → d < fuel → (∃ p, k ≤ p ∧ p < P ∧ jD F p (jU F O B K p) ∧ (∀ q, k ≤ q → q < p → ¬ jD F q (jU F O B K q)) ∧ ∃ σ', kX4_doNext_2 n fuel σ (nI k) = some (1, σ') ∧ jcX F σ' (K ||| jU F O B K p) (l ++ [p])) ∨ ((∀ q, k ≤ q → q < P → ¬ jD F q (jU F O B K q)) ∧ kX4_doNext_2 n fuel σ (nI k) = some (0, σ)) := by
  have hP := hi.1.2
  have hB := hi.2.1.2
  obtain ⟨hx, c1, c2, c3⟩ := hc
  have pX : σ.1 1 0 = nI P := hx.1.1.trans hi.1.1
  intro d
  induction d with
  | zero =>
    intro k fuel hk hf
    obtain ⟨fuel, rfl⟩ : ∃ q, fuel = q + 1 := ⟨fuel - 1, by omega⟩
    refine Or.inr ⟨fun q h1 h2 => by omega, ?_⟩
    show kX4_doNext_2_b n _ _ _ = _
    unfold kX4_doNext_2_b
    rw [pX, if_pos (nI_le (by omega) (by omega))]
  | succ d ih =>
    intro k fuel hk hf
    obtain ⟨fuel, rfl⟩ : ∃ q, fuel = q + 1 := ⟨fuel - 1, by omega⟩
    have dt := x4_determines (n := n) hn hi hx (show k < 6 by omega) (U := jU F O B K k) (bset_lt _ _)
    have eb : mX3_barsAt n σ (nI k) = some (nI (bset (jA F O k) B), σ) := x3_barsAt (n := n) hi hx (p := k) (by omega) B 0 n (by omega) (by omega)
    have eu : nI (bset (jA F O k) B) &&& (nI K ^^^ (-1)) = nI (jU F O B K k) := by rw [nI_andn, bset_andn]; rfl
    by_cases h : jD F k (jU F O B K k)
    · obtain ⟨n1, n2, n3⟩ := jV_new hV (show k < P by omega) h
      refine Or.inl ⟨k, Nat.le_refl _, by omega, h, fun q h1 h2 => by omega, hv_sI (hv_sI (hv_sI σ 18 l.length (nI k)) 17 2 (nI (l.length + 1))) 17 3 (nI (K ||| jU F O B K k)), ?_, rX_1 hx (fun q hq => by rw [hv_sI_ne _ _ _ (by omega), hv_sI_ne _ _ _ (by omega), hv_sI_ne _ _ _ (by omega)]), ?_, ?_, fun i hi' => ?_⟩
      · show kX4_doNext_2_b n _ _ _ = _
        unfold kX4_doNext_2_b
        rw [pX, if_neg (nI_ge (by omega) (by omega)), eb, hv_b2_e, c2, eu, hv_let_e, dt.1 h, hv_b2_e, if_neg (by decide), c1, if_neg (show ¬ (6 : Int32) ≤ nI l.length from nI_ge (b := 6) (by omega) (by decide)), hv_if_t (hv_ok_nI (show l.length < 6 by omega) (by decide)), nI_clamp (by omega), hv_let_e, hv_let_e, hv_let_e, hv_sI_ne _ _ _ (show 17 ≠ 18 by decide), c1, nI_1, hv_sI_rd, if_neg (show ¬ (3 : Nat) = 2 by decide), hv_sI_ne _ _ _ (show 17 ≠ 18 by decide), c2, nI_or]
      · rw [hv_sI_rd, if_neg (by decide), hv_sI_rd, if_pos rfl, List.length_append]
        rfl
      · rw [hv_sI_rd, if_pos rfl]
      · rw [List.length_append, List.length_singleton] at hi'
        rw [hv_sI_ne _ _ _ (by decide), hv_sI_ne _ _ _ (by decide), hv_sI_rd]
        by_cases e : i = l.length
        · rw [if_pos e, e, getD_app_at]
        · rw [if_neg e, getD_app_lt (by omega)]
          exact c3 i (by omega)
    · have e : kX4_doNext_2 n (fuel + 1) σ (nI k) = kX4_doNext_2 n fuel σ (nI (k + 1)) := by
        show kX4_doNext_2_b n _ _ _ = _
        unfold kX4_doNext_2_b kX4_doNext_79
        rw [pX, if_neg (nI_ge (by omega) (by omega)), eb, hv_b2_e, c2, eu, hv_let_e, dt.2 h, hv_b2_e, if_pos rfl, nI_1]
      rw [e]
      rcases ih (k + 1) fuel (by omega) (by omega) with ⟨p, p1, p2, p3, p4, p5⟩ | ⟨p1, p2⟩
      · refine Or.inl ⟨p, by omega, p2, p3, fun q h1 h2 => ?_, p5⟩
        by_cases eq : q = k
        · rw [eq]; exact h
        · exact p4 q (by omega) h2
      · refine Or.inr ⟨fun q h1 h2 => ?_, p2⟩
        by_cases eq : q = k
        · rw [eq]; exact h
        · exact p1 q (by omega) h2
def jAll (all : Nat) (l : List Nat) : Prop := all < 64 ∧ ∀ j, all.testBit j = true ↔ j ∈ l
theorem r8_jn {n : Nat} (hn : 12 < n) {F : Nat → Nat → Int32} {P B O D W : Nat} (hi : hI F P B O D W) {σ : hv_St} {K all : Nat} {l : List Nat} (hc : jcM F σ K l) (hV : jV F P B O K l) (ha : jAll all l) : ∀ (d k fuel : Nat), k + d = P → d < fuel → (∀ p, k ≤ p → p < P → jD F p (jU F O B K p) → (∀ q, k ≤ q → q < p → ¬ jD F q (jU F O B K q)) → ∃ fuel' σ', fuel ≤ fuel' + (p - k) + 1 ∧ kX8_laysJoints_14 n fuel σ (nI all) (nI k) = kX8_laysJoints_14 n fuel' σ' (nI (all ||| 2 ^ p)) (nI 0) ∧ jcM F σ' (K ||| jU F O B K p) (l ++ [p]) ∧ fr (fun c => c = 0 ∨ c = 22) (fun _ => False) σ σ' ∧ ∀ i, i ≠ 32 → i ≠ 34 → σ'.1 0 i = σ.1 0 i) ∧ ((∀ q, k ≤ q → q < P → ¬ jD F q (jU F O B K q)) → kX8_laysJoints_14 n fuel σ (nI all) (nI k) = some σ) := by
  have hP := hi.1.2
  have hB := hi.2.1.2
  obtain ⟨hm, c1, c2, c3⟩ := hc
  have pM : σ.1 0 1 = nI P := hm.1.1.trans hi.1.1
  have ha64 := ha.1
  intro d
  induction d with
  | zero =>
    intro k fuel hk hf
    obtain ⟨fuel, rfl⟩ : ∃ q, fuel = q + 1 := ⟨fuel - 1, by omega⟩
    refine ⟨fun p h1 h2 => by omega, fun _ => ?_⟩
    show kX8_laysJoints_14_b n _ _ _ _ = _
    unfold kX8_laysJoints_14_b
    rw [pM, if_pos (nI_le (by omega) (by omega))]
  | succ d ih =>
    intro k fuel hk hf
    obtain ⟨fuel, rfl⟩ : ∃ q, fuel = q + 1 := ⟨fuel - 1, by omega⟩
    have dt := r8_toldAt (n := n) hn hi hm (p := k) (by omega) c2
    have hb := fB_iff (s := all) (k := k) (by omega) (by omega)
    have hjn := ih (k + 1) fuel (by omega) (by omega)
    have skip : ¬ jD F k (jU F O B K k) → kX8_laysJoints_14 n (fuel + 1) σ (nI all) (nI k) = kX8_laysJoints_14 n fuel σ (nI all) (nI (k + 1)) := fun h => by
      show kX8_laysJoints_14_b n _ _ _ _ = _
      unfold kX8_laysJoints_14_b kX8_laysJoints_39
      rw [pM, if_neg (nI_ge (by omega) (by omega))]
      by_cases hm' : k ∈ l
      · rw [(r8_isOn _ _).1 (hb.mpr ((ha.2 k).mpr hm')), hv_b2_e, if_neg (by decide), if_pos rfl, nI_1]
      · rw [(r8_isOn _ _).2 (fun q => hm' ((ha.2 k).mp (hb.mp q))), hv_b2_e, if_pos rfl, dt.2 h, hv_b2_e, if_pos rfl, nI_1]
    refine ⟨fun p h1 h2 h3 h4 => ?_, fun h => ?_⟩
    · by_cases e : p = k
      · subst e
        obtain ⟨n1, n2, n3⟩ := jV_new hV h2 h3
        have u0 : ¬ nI (jU F O B K p) = 0 := fun q => jD_ne0 h3 ((nI_0e (by have := p2048 hB (bset_lt (jA F (andn O K) p) B); show bset _ _ < _; omega)).mp q)
        refine ⟨fuel, hv_sI (hv_sI (hv_sI σ 0 32 (nI (K ||| jU F O B K p))) 22 l.length (nI p)) 0 34 (nI (l.length + 1)), by omega, ?_, ⟨rM_sc (rM_sI (rM_sc hm (by decide) _) (by decide) _ _) (by decide) _, ?_, ?_, fun i hi' => ?_⟩, fr_I' (fr_I' (fr_I (Or.inl rfl) _ _) (Or.inr rfl) _ _) (Or.inl rfl) _ _, fun i i1 i2 => ?_⟩
        · show kX8_laysJoints_14_b n _ _ _ _ = _
          unfold kX8_laysJoints_14_b kX8_laysJoints_39
          rw [pM, if_neg (nI_ge (by omega) (by omega)), (r8_isOn _ _).2 (fun q => n1 ((ha.2 p).mp (hb.mp q))), hv_b2_e, if_pos rfl, show mX8_toldAt n σ (nI p) = some (nI (jU F O B K p), σ) from dt.1 h3, hv_b2_e, if_neg u0, hv_let_e, c2, nI_or, hv_let_e, nI_shl (by omega), nI_or, hv_sI_rd, if_neg (show ¬ (34 : Nat) = 32 by decide), c1, hv_if_t (hv_ok_nI (show l.length < 6 by omega) (by decide)), nI_clamp (by omega), hv_let_e, hv_let_e, hv_sI_ne _ _ _ (show 0 ≠ 22 by decide), hv_sI_rd, if_neg (show ¬ (34 : Nat) = 32 by decide), c1, nI_1]
          rfl
        · rw [hv_sI_rd, if_pos rfl, List.length_append]
          rfl
        · rw [hv_sI_rd, if_neg (by decide), hv_sI_ne _ _ _ (by decide), hv_sI_rd, if_pos rfl]
        · rw [List.length_append, List.length_singleton] at hi'
          rw [hv_sI_ne _ _ _ (by decide), hv_sI_rd, hv_sI_ne _ _ _ (by decide)]
          by_cases e : i = l.length
          · rw [if_pos e, e, getD_app_at]
          · rw [if_neg e, getD_app_lt (by omega)]
            exact c3 i (by omega)
        · rw [hv_sI_rd, if_neg i2, hv_sI_ne _ _ _ (by decide), hv_sI_rd, if_neg i1]
      · obtain ⟨f', σ', g1, g2, g3⟩ := hjn.1 p (by omega) h2 h3 (fun q q1 q2 => h4 q (by omega) q2)
        exact ⟨f', σ', by omega, (skip (h4 k (Nat.le_refl _) (by omega))).trans g2, g3⟩
    · rw [skip (h k (Nat.le_refl _) (by omega))]
      exact hjn.2 (fun q h1 h2 => h q (by omega) h2)
theorem jn_both {n : Nat} (hn : 12 < n) {F : Nat → Nat → Int32} {P B O D W : Nat} (hi : hI F P B O D W) : ∀ (m fX fM K all : Nat) (l : List Nat) (σX σM : hv_St), l.length + m = 6 → m + 1 < fX → 7 * (m + 1) < fM → jcX F σX K l → jcM F σM K l → jV F P B O K l → jAll all l → ∃ σX' σM' K' l', kX4_follow_14 n fX σX 1 (nI l.length) = some σX' ∧ kX8_laysJoints_14 n fM σM (nI all) (nI 0) = some σM' ∧ jcX F σX' K' l' ∧ jcM F σM' K' l' ∧ l'.length ≤ 6 ∧ fr (fun c => c = 0 ∨ c = 22) (fun _ => False) σM σM' ∧ ∀ i, i ≠ 32 → i ≠ 34 → σM'.1 0 i = σM.1 0 i := by
  have hP := hi.1.2
  intro m
  induction m with
  | zero =>
    intro fX fM K all l σX σM hl h1 h2 hX hM hV ha
    obtain ⟨fX, rfl⟩ : ∃ q, fX = q + 1 := ⟨fX - 1, by omega⟩
    have none : ∀ q, 0 ≤ q → q < P → ¬ jD F q (jU F O B K q) := fun q _ hq hD => by
      have := (jV_new hV hq hD).2.1
      omega
    refine ⟨σX, σM, K, l, ?_, (r8_jn hn hi hM hV ha P 0 fM (by omega) (by omega)).2 none, hX, hM, by omega, fr_rfl, fun _ _ _ => rfl⟩
    show kX4_follow_14_b n _ _ _ _ = _
    unfold kX4_follow_14_b
    rw [if_pos (show (6 : Int32) ≤ nI l.length from nI_le (a := 6) (by omega) (by omega))]
  | succ m ih =>
    intro fX fM K all l σX σM hl h1 h2 hX hM hV ha
    obtain ⟨fX, rfl⟩ : ∃ q, fX = q + 1 := ⟨fX - 1, by omega⟩
    have e6 : ¬ (6 : Int32) ≤ nI l.length := nI_ge (b := 6) (by omega) (by decide)
    rcases x4_doNext hn hi hX hV P 0 n (by omega) (by omega) with ⟨p, p1, p2, p3, p4, σ1, p5, p6⟩ | ⟨p1, p2⟩
    · obtain ⟨f', σ', g1, g2, g3, g4, g5⟩ := (r8_jn hn hi hM hV ha P 0 fM (by omega) (by omega)).1 p p1 p2 p3 p4
      obtain ⟨n1, n2, n3⟩ := jV_new hV p2 p3
      have ha' : jAll (all ||| 2 ^ p) (l ++ [p]) := ⟨Nat.or_lt_two_pow (n := 6) ha.1 (Nat.pow_lt_pow_right (by decide) (by omega)), fun j => by
        rw [Nat.testBit_or, Nat.testBit_two_pow, Bool.or_eq_true, decide_eq_true_iff, ha.2 j, List.mem_append, List.mem_singleton]
        exact or_congr Iff.rfl ⟨fun h => h.symm, fun h => h.symm⟩⟩
      obtain ⟨σX', σM', K', l', t1, t2, t3, t4, t5, t6, t7⟩ := ih fX f' _ _ _ σ1 σ' (by rw [List.length_append, List.length_singleton]; omega) (by omega) (by omega) p6 g3 n3 ha'
      refine ⟨σX', σM', K', l', ?_, g2.trans t2, t3, t4, t5, fr_tr g4 t6, fun i i1 i2 => (t7 i i1 i2).trans (g5 i i1 i2)⟩
      show kX4_follow_14_b n _ _ _ _ = _
      unfold kX4_follow_14_b
      rw [if_neg e6, if_neg (by decide), show mX4_doNext n σX = _ from p5, hv_b2_e, nI_1]
      rw [List.length_append, List.length_singleton] at t1
      exact t1
    · refine ⟨σX, σM, K, l, ?_, (r8_jn hn hi hM hV ha P 0 fM (by omega) (by omega)).2 p1, hX, hM, by omega, fr_rfl, fun _ _ _ => rfl⟩
      obtain ⟨fX, rfl⟩ : ∃ q, fX = q + 1 := ⟨fX - 1, by omega⟩
      show kX4_follow_14_b n _ _ _ _ = _
      unfold kX4_follow_14_b
      rw [if_neg e6, if_neg (by decide), show mX4_doNext n σX = _ from p2, hv_b2_e]
      show kX4_follow_14_b n _ _ _ _ = _
      unfold kX4_follow_14_b
      by_cases c : (6 : Int32) ≤ nI l.length + 1
      · rw [if_pos c]
      · rw [if_neg c, if_pos rfl]
theorem joints_both {n : Nat} (hn : 100 < n) {F : Nat → Nat → Int32} {P B O D W : Nat} (hi : hI F P B O D W) {σX σM : hv_St} (hx : rX F σX) (hm : rM F σM) : ∃ σX' σM' K l, mX4_follow n σX = some σX' ∧ mX8_laysJoints n σM = some σM' ∧ jcX F σX' K l ∧ jcM F σM' K l ∧ l.length ≤ 6 ∧ fr (fun c => c = 0 ∨ c = 22) (fun _ => False) σM σM' ∧ ∀ i, i ≠ 32 → i ≠ 34 → σM'.1 0 i = σM.1 0 i := by
  obtain ⟨σX', σM', K, l, t1, t2, t3, t4, t5, t6, t7⟩ := jn_both (n := n) (by omega) hi 6 n n 0 0 [] (hv_sI (hv_sI σX 17 2 0) 17 3 0) (hv_sI (hv_sI σM 0 32 0) 0 34 0) rfl (by omega) (by omega) ⟨rX_1 hx (fun q hq => by rw [hv_sI_ne _ _ _ (by omega), hv_sI_ne _ _ _ (by omega)]), by rw [hv_sI_rd, if_neg (by decide), hv_sI_rd, if_pos rfl]; rfl, by rw [hv_sI_rd, if_pos rfl]; rfl, fun i hi' => absurd hi' (Nat.not_lt_zero _)⟩ ⟨rM_sc (rM_sc hm (by decide) 0) (by decide) 0, by rw [hv_sI_rd, if_pos rfl]; rfl, by rw [hv_sI_rd, if_neg (by decide), hv_sI_rd, if_pos rfl]; rfl, fun i hi' => absurd hi' (Nat.not_lt_zero _)⟩ ⟨Nat.two_pow_pos _, List.nodup_nil, fun p hp => by cases hp⟩ ⟨by decide, fun j => by simp⟩
  refine ⟨σX', σM', K, l, t1, t2, t3, t4, t5, fr_tr (fr_I' (fr_I (Or.inl rfl) _ _) (Or.inl rfl) _ _) t6, fun i i1 i2 => ?_⟩
  rw [t7 i i1 i2, hv_sI_rd, if_neg i2, hv_sI_rd, if_neg i1]
theorem op_joint {n : Nat} (hn : 100 < n) {F : Nat → Nat → Int32} {P B O D W : Nat} {σX σM : hv_St} (h : hR F P B O D W σX σM) (v : Int32) : ∃ r σX' σM', mX7_joint n σX v = some (r, σX') ∧ mX8_joint n σM v = some (r, σM') ∧ hR F P B O D W σX' σM' := by
  obtain ⟨hi, hx, hm⟩ := h
  obtain ⟨σX', σM', K, l, t1, t2, t3, t4, t5, -, -⟩ := joints_both hn hi hx (rM0 hm)
  have eM : mX8_in n σM' v.toInt64 (0 : Int64) ((σM'.1 0 34) - (1 : Int32)).toInt64 = some (if 0 ≤ v ∧ v ≤ nI l.length - 1 then 1 else 0, σM') := by
    rw [t4.2.1, show (0 : Int64) = (0 : Int32).toInt64 from rfl, r8_in32]
  by_cases hv : fN l.length v
  · obtain ⟨k, hk, rfl⟩ := hv
    have hin := (fN_in (N := l.length) (by omega) (nI k)).mp ⟨k, hk, rfl⟩
    refine ⟨nI (l.getD k 0), σX', σM', ?_, ?_, hi, t3.1, t4.1⟩
    · unfold mX7_joint
      rw [t1, hv_bd_e, if_neg (nI_pos (by omega)), t3.2.1, if_neg (nI_ge hk (by omega)), hv_if_t (hv_ok_nI (show k < 6 by omega) (by decide)), nI_clamp (by omega), t3.2.2.2 k hk]
    · unfold mX8_joint
      rw [hv_let_e, t2, hv_bd_e, eM, if_pos hin, hv_b2_e, if_neg (by decide), hv_if_t (hv_ok_nI (show k < 6 by omega) (by decide)), nI_clamp (by omega), t4.2.2.2 k hk]
  · have hnin : ¬ (0 ≤ v ∧ v ≤ nI l.length - 1) := fun q => hv ((fN_in (N := l.length) (by omega) v).mpr q)
    refine ⟨-1, σX', σM', ?_, ?_, hi, t3.1, t4.1⟩
    · unfold mX7_joint kX7_joint_34
      rw [t1, hv_bd_e, t3.2.1]
      by_cases c1 : v < 0
      · rw [if_pos c1]
      · rw [if_neg c1]
        by_cases c2 : nI l.length ≤ v
        · rw [if_pos c2]
        · exact absurd ((fN_iff (N := l.length) (by omega) v).mpr ⟨c1, c2⟩) hv
    · unfold mX8_joint
      rw [hv_let_e, t2, hv_bd_e, eM, if_neg hnin, hv_b2_e, if_pos rfl]
end
section
/-! count, of, at -/
theorem zX_zM {F : Nat → Nat → Int32} {P B S : Nat} {σ τ : hv_St} (h : zX F P B S σ) (q : zM F P B S τ) : σ.1 9 4 = nI (fN' F P) ∧ τ.1 0 18 = nI (fN' F P) ∧ σ.1 9 5 = nI (fBase F P (fBl S B)).length ∧ ∃ Eb Es, Eb < 2 ^ B ∧ Es < 2 ^ B ∧ σ.1 9 6 = nI Eb ∧ τ.1 0 20 = nI Eb ∧ σ.1 9 7 = nI Es ∧ τ.1 0 21 = nI Es ∧ (∀ b, Eb.testBit b = true ↔ b ∈ fBase F P (fBl S B)) ∧ ∀ b, Es.testBit b = true ↔ b ∈ fSp F P B S := by
  obtain ⟨A, e, ⟨-, -, -, -, -, h6, h7, -, -⟩, ⟨Eb, Es, s1, s2, s3, s4, s5, s6⟩, -⟩ := h
  obtain ⟨hfr, Eb', Es', r1, r2, r3, r4, r5, r6⟩ := q
  have e1 : Eb' = Eb := bit_ext (fun j => (r3 j).trans (s3 j).symm)
  have e2 : Es' = Es := bit_ext (fun j => (r6 j).trans (s6 j).symm)
  subst e1 e2
  exact ⟨h6, hfr.1, h7, Eb', Es', s2, s5, s1, r1, s4, r4, s3, fun b => (s6 b).trans fSp_mem.symm⟩
theorem hv_b2_id {τ : Type} (x : Option (τ × hv_St)) : (hv_b2 x fun r s => some (r, s)) = x := by
  cases x <;> rfl
theorem op_count {n : Nat} (hn : 200 ≤ n) {F : Nat → Nat → Int32} {P B O D W : Nat} {σX σM : hv_St} (h : hR F P B O D W σX σM) (v : Int32) : ∃ r σX' σM', mX7_count n σX v = some (r, σX') ∧ mX8_count n σM v = some (r, σM') ∧ hR F P B O D W σX' σM' := by
  obtain ⟨hi, hx, hm⟩ := h
  have hB := hi.2.1.2
  have hO := hi.2.2.1
  have o31 : O < 2 ^ 31 := by have := p2048 hB hO.2; omega
  have hm0 := rM0 hm
  have oX : σX.1 1 2 = nI O := hx.1.2.2.1.trans hO.1
  have oM : (hv_sI σM 0 0 0).1 0 11 = nI O := hm0.1.2.2.1.trans hO.1
  obtain ⟨τX, a1, a2, a3, a4⟩ := x0_settle (n := n) (by omega) hi o31 hx
  obtain ⟨τM, b1, b2, b3, b4, b5⟩ := r8_kindOf hn hi o31 hm0
  obtain ⟨σX', σM', K, l, t1, t2, t3, t4, t5, t6, t7⟩ := joints_both (n := n) (by omega) hi hx b2
  obtain ⟨z1, z2, z3, Eb, Es, y1, y2, z4, z5, z6, z7, z8, z9⟩ := zX_zM a4 b3
  have ek := x0_kind (n := n) hi a4
  have hm' := t4.1
  have q18 : σM'.1 0 18 = nI (fN' F P) := (t7 18 (by decide) (by decide)).trans z2
  have q20 : σM'.1 0 20 = nI Eb := (t7 20 (by decide) (by decide)).trans z5
  have q21 : σM'.1 0 21 = nI Es := (t7 21 (by decide) (by decide)).trans z7
  have e2 := p2048 hB y1
  have M : ∀ w, mX8_count n σM w = (if w = (0 : Int32) then (some (nI P, σM')) else (if w = (1 : Int32) then (some (nI B, σM')) else (if w = (2 : Int32) then (some (nI O, σM')) else (if w = (3 : Int32) then (some (nI (fN' F P), σM')) else (if w = (4 : Int32) then (some (nI (fKind F P B O), σM')) else (if w = (5 : Int32) then (some (nI Eb, σM')) else (if w = (6 : Int32) then (some (nI Es, σM')) else (if w = (7 : Int32) then some (nI (fN' F P) - nI (fBase F P (fBl O B)).length, σM') else (if w = (8 : Int32) then (some (nI D, σM')) else (if w = (9 : Int32) then (some (nI W, σM')) else (if w = (10 : Int32) then (some (nI K, σM')) else (some ((-1 : Int32), σM'))))))))))))) := fun w => by
    unfold mX8_count
    rw [hv_let_e, oM, b1, hv_b2_e, t2, hv_bd_e, hm'.1.1, hm'.1.2.1, hm'.1.2.2.1, q18, q20, q21, r8_bits (by omega) (by omega), hv_b2_e, hm'.1.2.2.2.1, hm'.1.2.2.2.2, t4.2.2.1, Eb_pc hB z8, hi.1.1, hi.2.1.1, hi.2.2.1.1, hi.2.2.2.1.1, hi.2.2.2.2.1.1]
  have C : ∀ w, kX7_count_115 n σX w = (if w = (3 : Int32) then (some (nI (fN' F P), τX)) else (if w = (4 : Int32) then some (nI (fKind F P B O), τX) else (if w = (5 : Int32) then (some (nI Eb, τX)) else (if w = (6 : Int32) then (some (nI Es, τX)) else (if w = (7 : Int32) then (some (nI (fN' F P) - nI (fBase F P (fBl O B)).length, τX)) else (some ((-1 : Int32), τX))))))) := fun w => by
    unfold kX7_count_115 mX7_countOfBalance
    rw [oX, a1, hv_bd_e, z1, ek, hv_b2_e, z4, z6, z3]
    exact hv_b2_id _
  have pX := hx.1.1.trans hi.1.1
  have bX := hx.1.2.1.trans hi.2.1.1
  have dX := hx.1.2.2.2.1.trans hi.2.2.2.1.1
  have wX := hx.1.2.2.2.2.trans hi.2.2.2.2.1.1
  by_cases c0 : v = 0
  · exact ⟨nI P, σX, σM', by unfold mX7_count; rw [if_pos c0, pX], by rw [M, if_pos c0], hi, hx, hm'⟩
  by_cases c1 : v = 1
  · exact ⟨nI B, σX, σM', by unfold mX7_count; rw [if_neg c0, if_pos c1, bX], by rw [M, if_neg c0, if_pos c1], hi, hx, hm'⟩
  by_cases c2 : v = 2
  · exact ⟨nI O, σX, σM', by unfold mX7_count; rw [if_neg c0, if_neg c1, if_pos c2, oX], by rw [M, if_neg c0, if_neg c1, if_pos c2], hi, hx, hm'⟩
  by_cases c3 : v = 3
  · exact ⟨nI (fN' F P), τX, σM', by unfold mX7_count; rw [if_neg c0, if_neg c1, if_neg c2, if_pos c3, C, if_pos c3], by rw [M, if_neg c0, if_neg c1, if_neg c2, if_pos c3], hi, a3, hm'⟩
  by_cases c4 : v = 4
  · exact ⟨nI (fKind F P B O), τX, σM', by unfold mX7_count; rw [if_neg c0, if_neg c1, if_neg c2, if_neg c3, if_pos c4, C, if_neg c3, if_pos c4], by rw [M, if_neg c0, if_neg c1, if_neg c2, if_neg c3, if_pos c4], hi, a3, hm'⟩
  by_cases c5 : v = 5
  · exact ⟨nI Eb, τX, σM', by unfold mX7_count; rw [if_neg c0, if_neg c1, if_neg c2, if_neg c3, if_neg c4, if_pos c5, C, if_neg c3, if_neg c4, if_pos c5], by rw [M, if_neg c0, if_neg c1, if_neg c2, if_neg c3, if_neg c4, if_pos c5], hi, a3, hm'⟩
  by_cases c6 : v = 6
  · exact ⟨nI Es, τX, σM', by unfold mX7_count; rw [if_neg c0, if_neg c1, if_neg c2, if_neg c3, if_neg c4, if_neg c5, if_pos c6, C, if_neg c3, if_neg c4, if_neg c5, if_pos c6], by rw [M, if_neg c0, if_neg c1, if_neg c2, if_neg c3, if_neg c4, if_neg c5, if_pos c6], hi, a3, hm'⟩
  by_cases c7 : v = 7
  · exact ⟨nI (fN' F P) - nI (fBase F P (fBl O B)).length, τX, σM', by unfold mX7_count; rw [if_neg c0, if_neg c1, if_neg c2, if_neg c3, if_neg c4, if_neg c5, if_neg c6, if_pos c7, C, if_neg c3, if_neg c4, if_neg c5, if_neg c6, if_pos c7], by rw [M, if_neg c0, if_neg c1, if_neg c2, if_neg c3, if_neg c4, if_neg c5, if_neg c6, if_pos c7], hi, a3, hm'⟩
  by_cases c8 : v = 8
  · exact ⟨nI D, σX, σM', by unfold mX7_count; rw [if_neg c0, if_neg c1, if_neg c2, if_neg c3, if_neg c4, if_neg c5, if_neg c6, if_neg c7, if_pos c8, dX], by rw [M, if_neg c0, if_neg c1, if_neg c2, if_neg c3, if_neg c4, if_neg c5, if_neg c6, if_neg c7, if_pos c8], hi, hx, hm'⟩
  by_cases c9 : v = 9
  · exact ⟨nI W, σX, σM', by unfold mX7_count; rw [if_neg c0, if_neg c1, if_neg c2, if_neg c3, if_neg c4, if_neg c5, if_neg c6, if_neg c7, if_neg c8, if_pos c9, wX], by rw [M, if_neg c0, if_neg c1, if_neg c2, if_neg c3, if_neg c4, if_neg c5, if_neg c6, if_neg c7, if_neg c8, if_pos c9], hi, hx, hm'⟩
  by_cases c10 : v = 10
  · exact ⟨nI K, σX', σM', by unfold mX7_count; rw [if_neg c0, if_neg c1, if_neg c2, if_neg c3, if_neg c4, if_neg c5, if_neg c6, if_neg c7, if_neg c8, if_neg c9, if_pos c10, t1, hv_bd_e, t3.2.2.1], by rw [M, if_neg c0, if_neg c1, if_neg c2, if_neg c3, if_neg c4, if_neg c5, if_neg c6, if_neg c7, if_neg c8, if_neg c9, if_pos c10], hi, t3.1, hm'⟩
  exact ⟨-1, τX, σM', by unfold mX7_count; rw [if_neg c0, if_neg c1, if_neg c2, if_neg c3, if_neg c4, if_neg c5, if_neg c6, if_neg c7, if_neg c8, if_neg c9, if_neg c10, C, if_neg c3, if_neg c4, if_neg c5, if_neg c6, if_neg c7], by rw [M, if_neg c0, if_neg c1, if_neg c2, if_neg c3, if_neg c4, if_neg c5, if_neg c6, if_neg c7, if_neg c8, if_neg c9, if_neg c10], hi, a3, hm'⟩
/-- a call that may throw: both do, or both answer alike -/
def hT {ρ : Type} (F : Nat → Nat → Int32) (P B O D W : Nat) (a : Option (Option ρ × hv_St)) (b : Option (ρ × hv_St)) : Prop := ∃ σX' σM', hR F P B O D W σX' σM' ∧ ((∃ r, a = some (some r, σX') ∧ b = some (r, σM') ∧ σM'.1 0 0 = 0) ∨ ∃ r, a = some (none, σX') ∧ b = some (r, σM') ∧ σM'.1 0 0 = 1)
theorem need_1 {n : Nat} {ρ : Type} {σ : hv_St} (k : Unit → hv_St → Option (Option ρ × hv_St)) : hv_bx (mX7_need n σ 1) k = k () σ := rfl
theorem need_0 {n : Nat} {ρ : Type} {σ : hv_St} (k : Unit → hv_St → Option (Option ρ × hv_St)) : hv_bx (mX7_need n σ 0) k = some (none, σ) := rfl
theorem r8_in5 {n : Nat} {σ : hv_St} (v : Int32) : (fN 6 v → mX8_in n σ v.toInt64 (0 : Int64) (5 : Int64) = some (1, σ)) ∧ (¬ fN 6 v → mX8_in n σ v.toInt64 (0 : Int64) (5 : Int64) = some (0, σ)) := by
  have hx : fN 6 v ↔ (0 : Int32) ≤ v ∧ v ≤ 5 := fN_in (N := 6) (by decide) v
  rw [show (0 : Int64) = (0 : Int32).toInt64 from rfl, show (5 : Int64) = (5 : Int32).toInt64 from rfl, r8_in32]
  exact ⟨fun h => by rw [if_pos (hx.mp h)], fun h => by rw [if_neg (fun q => h (hx.mpr q))]⟩
theorem held_sum : ∀ m : Fin 4, (if (nI m.val >>> nI 0) &&& 1 = 0 then (0 : Int32) else 1) + (if (nI m.val >>> nI 1) &&& 1 = 0 then (0 : Int32) else 2) = nI m.val := by decide +kernel
theorem r8_of_111 {n : Nat} {F : Nat → Nat → Int32} {P B O D W : Nat} (hi : hI F P B O D W) {σ : hv_St} (hm : rM F σ) {p : Nat} (hp : p < 2 ^ 31) : ∀ (d k fuel : Nat), k + d = B → d < fuel → kX8_of_111 n fuel σ (nI p) (nI (bset (jA F O p) k)) (nI k) = some (nI (bset (jA F O p) B), σ) := by
  have hB := hi.2.1.2
  have bM : σ.1 0 6 = nI B := hm.1.2.1.trans hi.2.1.1
  have oM : σ.1 0 11 = nI O := hm.1.2.2.1.trans hi.2.2.1.1
  have o31 := p2048 hB hi.2.2.1.2
  intro d
  induction d with
  | zero =>
    intro k fuel hk hf
    obtain ⟨fuel, rfl⟩ : ∃ q, fuel = q + 1 := ⟨fuel - 1, by omega⟩
    obtain rfl : k = B := by omega
    show kX8_of_111_b n _ _ _ _ _ = _
    unfold kX8_of_111_b
    rw [bM, if_pos (nI_le (Nat.le_refl _) (by omega))]
  | succ d ih =>
    intro k fuel hk hf
    obtain ⟨fuel, rfl⟩ : ∃ q, fuel = q + 1 := ⟨fuel - 1, by omega⟩
    have hb := fB_iff (s := O) (k := k) (by omega) (by omega)
    have st := bset_step (q := jA F O p) (k := k) (by omega)
    have e : kX8_of_111 n (fuel + 1) σ (nI p) (nI (bset (jA F O p) k)) (nI k) = kX8_of_111 n fuel σ (nI p) (nI (bset (jA F O p) (k + 1))) (nI (k + 1)) := by
      show kX8_of_111_b n _ _ _ _ _ = _
      unfold kX8_of_111_b kX8_of_162 kX8_of_155 kX8_of_163
      rw [bM, if_neg (nI_ge (by omega) (by omega)), oM]
      by_cases h : O.testBit k = true
      · rw [(r8_isOn _ _).1 (hb.mpr h), hv_b2_e, if_neg (by decide), hv_if_t (hv_ok_nI (show k < 11 by omega) (by decide)), hv_if_t (hv_ok_nI (show k < 11 by omega) (by decide)), nI_clamp (by omega), hm.2 5 (by decide) (by decide), hm.2 6 (by decide) (by decide), hv_let_e, hv_let_e, jAt_ends hi (by omega) hp, nI_1]
        by_cases c : jAt F p k = true
        · rw [if_pos c, st.1 (by unfold jA; rw [h, c]; rfl)]
        · rw [if_neg c, nI_or0, st.2 (by unfold jA; rw [h]; exact c)]
      · rw [(r8_isOn _ _).2 (fun q => h (hb.mp q)), hv_b2_e, if_pos rfl, hv_let_e, nI_1, nI_or0, st.2 (fun q => h (by
          unfold jA at q
          rw [Bool.and_eq_true] at q
          exact q.1))]
    rw [e]
    exact ih (k + 1) fuel (by omega) (by omega)
theorem op_of {n : Nat} (hn : 100 < n) {F : Nat → Nat → Int32} {P B O D W : Nat} {σX σM : hv_St} (h : hR F P B O D W σX σM) (v w : Int32) : hT F P B O D W (mX7_of n σX v w) (mX8_of n σM v w) := by
  obtain ⟨hi, hx, hm⟩ := h
  have hP := hi.1.2
  have hB := hi.2.1.2
  have pX : σX.1 1 0 = nI P := hx.1.1.trans hi.1.1
  have pM : σM.1 0 1 = nI P := hm.1.1.trans hi.1.1
  have m1 : rM F (hv_sI σM 0 0 1) := rM_sc hm (by decide) 1
  have m0 := rM0 hm
  have thr : (0 : Nat) ≠ 1 := by decide
  have e1 : (hv_sI σM 0 0 1).1 0 0 = 1 := by rw [hv_sI_rd, if_pos rfl]
  have e0 : (hv_sI σM 0 0 0).1 0 0 = 0 := by rw [hv_sI_rd, if_pos rfl]
  have no : kX8_of_25 n σM v w = some (0, hv_sI σM 0 0 1) := by
    unfold kX8_of_25 kX8_of_26
    rw [hv_let_e, e1, if_neg (by decide)]
  by_cases hv : fN P v
  · obtain ⟨p, hp, rfl⟩ := hv
    by_cases hw : fN 6 w
    · have go : ∀ r, mX7_of n σX (nI p) w = some (some r, σX) → kX8_of_26 n σM (nI p) w 0 = some (r, hv_sI σM 0 0 0) → hT F P B O D W (mX7_of n σX (nI p) w) (mX8_of n σM (nI p) w) := fun r h1 h2 => by
        refine ⟨σX, hv_sI σM 0 0 0, ⟨hi, hx, m0⟩, Or.inl ⟨r, h1, ?_, e0⟩⟩
        unfold mX8_of
        rw [(r8_isPin (by omega) pM (nI p)).1 ⟨p, hp, rfl⟩, hv_b2_e, if_neg (by decide), (r8_in5 w).1 hw, hv_b2_e, if_neg (by decide)]
        exact h2
      have C : mX7_of n σX (nI p) w = (fun (y8 : Unit) (s8 : hv_St) => if w = (0 : Int32) then (hv_if (hv_ok (((2 : Int32)) * (nI p)) 12) (some (some (s8.1 2 (((2 : Int32)) * (nI p)).toNatClampNeg), s8))) else (if w = (1 : Int32) then (hv_if (hv_ok ((((2 : Int32)) * (nI p)) + ((1 : Int32))) 12) (some (some (s8.1 2 ((((2 : Int32)) * (nI p)) + ((1 : Int32))).toNatClampNeg), s8))) else (if w = (2 : Int32) then (hv_if (hv_ok (((2 : Int32)) * (nI p)) 12) (some (some (s8.1 3 (((2 : Int32)) * (nI p)).toNatClampNeg), s8))) else (if w = (3 : Int32) then (hv_if (hv_ok ((((2 : Int32)) * (nI p)) + ((1 : Int32))) 12) (some (some (s8.1 3 ((((2 : Int32)) * (nI p)) + ((1 : Int32))).toNatClampNeg), s8))) else (if w = (4 : Int32) then (hv_if (hv_ok (((2 : Int32)) * (nI p)) 12) (if s8.1 4 (((2 : Int32)) * (nI p)).toNatClampNeg = 0 then (kX7_of_123 n s8 (nI p) ((0 : Int32))) else (kX7_of_123 n s8 (nI p) ((1 : Int32))))) else (if w = (5 : Int32) then (hv_b2 (mX3_barsAt n s8 (nI p)) fun r151 s151 => some (some (r151), s151)) else (some (none, s8))))))) ) () σX := by
        unfold mX7_of
        rw [(x3_isPin (by omega) pX (nI p)).1 ⟨p, hp, rfl⟩, hv_b2_e, need_1]
      have M : kX8_of_26 n σM (nI p) w 0 = (if w = (0 : Int32) then (hv_if (hv_ok (nI p) 6) (some (F 1 p, hv_sI σM 0 0 0))) else (if w = (1 : Int32) then (hv_if (hv_ok (nI p) 6) (some (F 2 p, hv_sI σM 0 0 0))) else (if w = (2 : Int32) then (kX8_of_86 n (hv_sI σM 0 0 0) (nI p) w) else (if w = (3 : Int32) then (kX8_of_86 n (hv_sI σM 0 0 0) (nI p) w) else (if w = (4 : Int32) then (hv_if (hv_ok (nI p) 6) (some (F 3 p, hv_sI σM 0 0 0))) else (kX8_of_111 n n (hv_sI σM 0 0 0) (nI p) ((0 : Int32)) ((0 : Int32)))))))) := by
        unfold kX8_of_26
        rw [hv_let_e, e0, if_pos (by decide), nI_clamp (by omega), m0.2 1 (by decide) (by decide), m0.2 2 (by decide) (by decide), m0.2 3 (by decide) (by decide)]
      have o6 : hv_ok (nI p) 6 = true := hv_ok_nI (by omega) (by decide)
      have oa : hv_ok ((2 : Int32) * nI p) 12 = true := by rw [nI_2]; exact hv_ok_nI (by omega) (by decide)
      have ob : hv_ok ((2 : Int32) * nI p + 1) 12 = true := by rw [nI_2, nI_1]; exact hv_ok_nI (by omega) (by decide)
      have ka : ((2 : Int32) * nI p).toNatClampNeg = 2 * p := by rw [nI_2]; exact nI_clamp (by omega)
      have kb : ((2 : Int32) * nI p + 1).toNatClampNeg = 2 * p + 1 := by rw [nI_2, nI_1]; exact nI_clamp (by omega)
      obtain ⟨j, hj, rfl⟩ := hw
      rcases (show j = 0 ∨ j = 1 ∨ j = 2 ∨ j = 3 ∨ j = 4 ∨ j = 5 by omega) with rfl | rfl | rfl | rfl | rfl | rfl
      · refine go (F 1 p) ?_ ?_
        · rw [C]
          dsimp only
          rw [if_pos (by decide), hv_if_t oa, ka, (hx.2.1 p (by omega)).1]
        · rw [M, if_pos (by decide), hv_if_t o6]
      · refine go (F 2 p) ?_ ?_
        · rw [C]
          dsimp only
          rw [if_neg (by decide), if_pos (by decide), hv_if_t ob, kb, (hx.2.1 p (by omega)).2]
        · rw [M, if_neg (by decide), if_pos (by decide), hv_if_t o6]
      · refine go (F 4 (2 * p)) ?_ ?_
        · rw [C]
          dsimp only
          rw [if_neg (by decide), if_neg (by decide), if_pos (by decide), hv_if_t oa, ka, hx.2.2.1 (2 * p) (by omega)]
        · rw [M, if_neg (by decide), if_neg (by decide), if_pos (by decide)]
          unfold kX8_of_86
          rw [nI_2, nI_add, show (2 : Int32) = nI 2 from rfl, pk_sub (by omega), show 2 * p + 2 - 2 = 2 * p by omega, hv_if_t (hv_ok_nI (show 2 * p < 12 by omega) (by decide)), nI_clamp (by omega), m0.2 4 (by decide) (by decide)]
      · refine go (F 4 (2 * p + 1)) ?_ ?_
        · rw [C]
          dsimp only
          rw [if_neg (by decide), if_neg (by decide), if_neg (by decide), if_pos (by decide), hv_if_t ob, kb, hx.2.2.1 (2 * p + 1) (by omega)]
        · rw [M, if_neg (by decide), if_neg (by decide), if_neg (by decide), if_pos (by decide)]
          unfold kX8_of_86
          rw [nI_2, nI_add, show (2 : Int32) = nI 2 from rfl, pk_sub (by omega), show 2 * p + 3 - 2 = 2 * p + 1 by omega, hv_if_t (hv_ok_nI (show 2 * p + 1 < 12 by omega) (by decide)), nI_clamp (by omega), m0.2 4 (by decide) (by decide)]
      · refine go (F 3 p) ?_ ?_
        · rw [C]
          dsimp only
          obtain ⟨m, hm4, em⟩ := hi.2.2.2.2.2.2.2.2.1 p (by omega)
          have s := held_sum ⟨m, hm4⟩
          have s' : (if (nI m >>> nI 0) &&& 1 = 0 then (0 : Int32) else 1) + (if (nI m >>> nI 1) &&& 1 = 0 then (0 : Int32) else 2) = nI m := s
          have h0 : σX.1 4 (2 * p) = (nI m >>> nI 0) &&& 1 := by rw [← em]; exact hx.2.2.2.1 p 0 (by omega) (by omega)
          have h1 : σX.1 4 (2 * p + 1) = (nI m >>> nI 1) &&& 1 := by rw [← em]; exact hx.2.2.2.1 p 1 (by omega) (by omega)
          rw [if_neg (by decide), if_neg (by decide), if_neg (by decide), if_neg (by decide), if_pos (by decide), hv_if_t oa, ka]
          unfold kX7_of_123
          rw [hv_if_t ob, kb, h0, h1, em]
          by_cases b0 : (nI m >>> nI 0) &&& 1 = 0
          · rw [if_pos b0]
            rw [if_pos b0] at s'
            by_cases b1 : (nI m >>> nI 1) &&& 1 = 0
            · rw [if_pos b1]; rw [if_pos b1] at s'; rw [s']
            · rw [if_neg b1]; rw [if_neg b1] at s'; rw [s']
          · rw [if_neg b0, hv_if_t ob]
            rw [if_neg b0] at s'
            by_cases b1 : (nI m >>> nI 1) &&& 1 = 0
            · rw [if_pos b1]; rw [if_pos b1] at s'; rw [s']
            · rw [if_neg b1]; rw [if_neg b1] at s'; rw [s']
        · rw [M, if_neg (by decide), if_neg (by decide), if_neg (by decide), if_neg (by decide), if_pos (by decide), hv_if_t o6]
      · refine go (nI (bset (jA F O p) B)) ?_ ?_
        · rw [C]
          dsimp only
          rw [if_neg (by decide), if_neg (by decide), if_neg (by decide), if_neg (by decide), if_neg (by decide), if_pos (by decide), show mX3_barsAt n σX (nI p) = some (nI (bset (jA F O p) B), σX) from x3_barsAt (n := n) hi hx (p := p) (by omega) B 0 n (by omega) (by omega), hv_b2_e]
        · rw [M, if_neg (by decide), if_neg (by decide), if_neg (by decide), if_neg (by decide), if_neg (by decide)]
          exact r8_of_111 hi m0 (by omega) B 0 n (by omega) (by omega)
    · refine ⟨σX, hv_sI σM 0 0 1, ⟨hi, hx, m1⟩, Or.inr ⟨0, ?_, ?_, e1⟩⟩
      · unfold mX7_of
        have nw : ∀ j, j < 6 → ¬ w = nI j := fun j hj q => hw ⟨j, hj, q⟩
        rw [(x3_isPin (by omega) pX (nI p)).1 ⟨p, hp, rfl⟩, hv_b2_e, need_1, if_neg (show ¬ w = (0 : Int32) from nw 0 (by decide)), if_neg (show ¬ w = (1 : Int32) from nw 1 (by decide)), if_neg (show ¬ w = (2 : Int32) from nw 2 (by decide)), if_neg (show ¬ w = (3 : Int32) from nw 3 (by decide)), if_neg (show ¬ w = (4 : Int32) from nw 4 (by decide)), if_neg (show ¬ w = (5 : Int32) from nw 5 (by decide))]
      · unfold mX8_of
        rw [(r8_isPin (by omega) pM (nI p)).1 ⟨p, hp, rfl⟩, hv_b2_e, if_neg (by decide), (r8_in5 w).2 hw, hv_b2_e, if_pos rfl, no]
  · refine ⟨σX, hv_sI σM 0 0 1, ⟨hi, hx, m1⟩, Or.inr ⟨0, ?_, ?_, e1⟩⟩
    · unfold mX7_of
      rw [(x3_isPin (by omega) pX v).2 hv, hv_b2_e, need_0]
    · unfold mX8_of
      rw [(r8_isPin (by omega) pM v).2 hv, hv_b2_e, if_pos rfl, no]
end
section
/-! at -/
theorem low_mask {k : Nat} (hk : k < 31) : ((1 : Int32) <<< (nI k &&& 31)) - 1 = nI (2 ^ k - 1) := by
  rw [nI_shl hk, show (1 : Int32) = nI 1 from rfl, pk_sub (Nat.two_pow_pos k)]
theorem op_at {n : Nat} (hn : 200 ≤ n) {F : Nat → Nat → Int32} {P B O D W : Nat} {σX σM : hv_St} (h : hR F P B O D W σX σM) (v w : Int32) : hT F P B O D W (mX7_at n σX v w) (mX8_at n σM v w) := by
  obtain ⟨hi, hx, hm⟩ := h
  have hB := hi.2.1.2
  have hO := hi.2.2.1
  have o31 : O < 2 ^ 31 := by have := p2048 hB hO.2; omega
  have bX : σX.1 1 1 = nI B := hx.1.2.1.trans hi.2.1.1
  have oX : σX.1 1 2 = nI O := hx.1.2.2.1.trans hO.1
  have bM : σM.1 0 6 = nI B := hm.1.2.1.trans hi.2.1.1
  have m1 : rM F (hv_sI σM 0 0 1) := rM_sc hm (by decide) 1
  have m0 := rM0 hm
  have oM : (hv_sI σM 0 0 0).1 0 11 = nI O := m0.1.2.2.1.trans hO.1
  have e1 : (hv_sI σM 0 0 1).1 0 0 = 1 := by rw [hv_sI_rd, if_pos rfl]
  have e0 : (hv_sI σM 0 0 0).1 0 0 = 0 := by rw [hv_sI_rd, if_pos rfl]
  have no : kX8_at_25 n σM v w = some (0, hv_sI σM 0 0 1) := by
    unfold kX8_at_25 kX8_at_26
    rw [hv_let_e, e1, if_neg (by decide)]
  by_cases hv : fN B v
  · obtain ⟨b, hb, rfl⟩ := hv
    have q := hx.2.2.2.2.1 b (by omega)
    have fb := fB_iff (s := O) (k := b) o31 (by omega)
    by_cases hw : fN 6 w
    · have go : ∀ r τX τM, rX F τX → rM F τM → τM.1 0 0 = 0 → mX7_at n σX (nI b) w = some (some r, τX) → kX8_at_26 n σM (nI b) w 0 = some (r, τM) → hT F P B O D W (mX7_at n σX (nI b) w) (mX8_at n σM (nI b) w) := fun r τX τM hx' hm' h0 h1 h2 => by
        refine ⟨τX, τM, ⟨hi, hx', hm'⟩, Or.inl ⟨r, h1, ?_, h0⟩⟩
        unfold mX8_at
        rw [(r8_isBar (by omega) bM (nI b)).1 ⟨b, hb, rfl⟩, hv_b2_e, if_neg (by decide), (r8_in5 w).1 hw, hv_b2_e, if_neg (by decide)]
        exact h2
      have o11 : hv_ok (nI b) 11 = true := hv_ok_nI (by omega) (by decide)
      have kb : (nI b).toNatClampNeg = b := nI_clamp (by omega)
      have C : ∀ o, (fun (y8 : Unit) (s8 : hv_St) => if w = (0 : Int32) then (hv_if (hv_ok (nI b) 11) (some (some (s8.1 5 (nI b).toNatClampNeg), s8))) else (if w = (1 : Int32) then (hv_if (hv_ok (nI b) 11) (some (some (s8.1 6 (nI b).toNatClampNeg), s8))) else (if w = (2 : Int32) then (hv_if (hv_ok (nI b) 11) (some (some (s8.1 7 (nI b).toNatClampNeg), s8))) else (if w = (3 : Int32) then (hv_if (hv_ok (nI b) 11) (some (some (s8.1 8 (nI b).toNatClampNeg), s8))) else (if w = (4 : Int32) then (hv_b2 (mX3_isOn n s8 (nI b)) fun r97 s97 => if r97 = 0 then (some (some ((0 : Int32)), s97)) else (some (some ((1 : Int32)), s97))) else (if w = (5 : Int32) then (hv_bd (mX0_settle n s8 (s8.1 1 2)) fun s120 => hv_b2 (mX0_spareNumber n s120 (nI b)) fun r128 s128 => some (some (r128), s128)) else (some (none, s8)))))))) () σX = o → mX7_at n σX (nI b) w = o := fun o ho => by
        rw [← ho]
        unfold mX7_at
        rw [(x3_isBar (by omega) bX (nI b)).1 ⟨b, hb, rfl⟩, hv_b2_e, need_1]
      have M : kX8_at_26 n σM (nI b) w 0 = (if w = (0 : Int32) then (hv_if (hv_ok (nI b) 11) (some (F 5 b, hv_sI σM 0 0 0))) else (if w = (1 : Int32) then (hv_if (hv_ok (nI b) 11) (some (F 6 b, hv_sI σM 0 0 0))) else (if w = (2 : Int32) then (hv_if (hv_ok (nI b) 11) (some (F 7 b, hv_sI σM 0 0 0))) else (if w = (3 : Int32) then (hv_if (hv_ok (nI b) 11) (some (F 8 b, hv_sI σM 0 0 0))) else (if w = (4 : Int32) then (some (nI (if O.testBit b = true then 1 else 0), hv_sI σM 0 0 0)) else (mX8_spareNumber n (hv_sI σM 0 0 0) (nI b))))))) := by
        unfold kX8_at_26
        rw [hv_let_e, e0, if_pos (by decide), kb, m0.2 5 (by decide) (by decide), m0.2 6 (by decide) (by decide), m0.2 7 (by decide) (by decide), m0.2 8 (by decide) (by decide), oM, nI_bit o31 (by omega), hv_b2_id]
      obtain ⟨j, hj, rfl⟩ := hw
      rcases (show j = 0 ∨ j = 1 ∨ j = 2 ∨ j = 3 ∨ j = 4 ∨ j = 5 by omega) with rfl | rfl | rfl | rfl | rfl | rfl
      · refine go (F 5 b) σX _ hx m0 e0 (C _ ?_) ?_
        · dsimp only
          rw [if_pos (by decide), hv_if_t o11, kb, q.1]
        · rw [M, if_pos (by decide), hv_if_t o11]
      · refine go (F 6 b) σX _ hx m0 e0 (C _ ?_) ?_
        · dsimp only
          rw [if_neg (by decide), if_pos (by decide), hv_if_t o11, kb, q.2.1]
        · rw [M, if_neg (by decide), if_pos (by decide), hv_if_t o11]
      · refine go (F 7 b) σX _ hx m0 e0 (C _ ?_) ?_
        · dsimp only
          rw [if_neg (by decide), if_neg (by decide), if_pos (by decide), hv_if_t o11, kb, q.2.2.1]
        · rw [M, if_neg (by decide), if_neg (by decide), if_pos (by decide), hv_if_t o11]
      · refine go (F 8 b) σX _ hx m0 e0 (C _ ?_) ?_
        · dsimp only
          rw [if_neg (by decide), if_neg (by decide), if_neg (by decide), if_pos (by decide), hv_if_t o11, kb, q.2.2.2]
        · rw [M, if_neg (by decide), if_neg (by decide), if_neg (by decide), if_pos (by decide), hv_if_t o11]
      · refine go (nI (if O.testBit b = true then 1 else 0)) σX _ hx m0 e0 (C _ ?_) ?_
        · dsimp only
          rw [if_neg (by decide), if_neg (by decide), if_neg (by decide), if_neg (by decide), if_pos (by decide)]
          by_cases ho : O.testBit b = true
          · rw [(x3_isOn (by omega) bX (nI b)).1 ⟨⟨b, hb, rfl⟩, by rw [oX]; exact fb.mpr ho⟩, hv_b2_e, if_neg (by decide), if_pos ho]
            rfl
          · rw [(x3_isOn (by omega) bX (nI b)).2 (fun z => ho (fb.mp (by rw [← oX]; exact z.2))), hv_b2_e, if_pos rfl, if_neg ho]
            rfl
        · rw [M, if_neg (by decide), if_neg (by decide), if_neg (by decide), if_neg (by decide), if_pos (by decide)]
      · obtain ⟨τX, a1, a2, a3, a4⟩ := x0_settle (n := n) (by omega) hi o31 hx
        obtain ⟨τM, b1, b2, b3, b4, b5⟩ := r8_laysBase hn hi o31 m0
        obtain ⟨z1, z2, z3, Eb, Es, y1, y2, z4, z5, z6, z7, z8, z9⟩ := zX_zM a4 b3
        have y3 := p2048 hB y2
        have fs := fB_iff (s := Es) (k := b) (by omega) (by omega)
        have am : Es &&& (2 ^ b - 1) < 2048 := Nat.lt_of_le_of_lt Nat.and_le_left y3
        have h0 : τM.1 0 0 = 0 := (b5 0 (by decide) (by decide) (by decide)).trans e0
        refine go (if Es.testBit b = true then nI (pc (Es &&& (2 ^ b - 1))) else -1) τX τM a3 b2 h0 (C _ ?_) ?_
        · dsimp only
          rw [if_neg (by decide), if_neg (by decide), if_neg (by decide), if_neg (by decide), if_neg (by decide), if_pos (by decide), oX, a1, hv_bd_e]
          unfold mX0_spareNumber
          rw [z6]
          by_cases ho : Es.testBit b = true
          · rw [(x7_has _ _).1 (fs.mpr ho), hv_b2_e, if_neg (by decide), z6, low_mask (by omega), nI_and, x_bitCount am, hv_b2_e, hv_b2_e, if_pos ho]
          · rw [(x7_has _ _).2 (fun z => ho (fs.mp z)), hv_b2_e, if_pos rfl, hv_b2_e, if_neg ho]
        · rw [M, if_neg (by decide), if_neg (by decide), if_neg (by decide), if_neg (by decide), if_neg (by decide)]
          unfold mX8_spareNumber
          rw [oM, b1, hv_bd_e, z7]
          by_cases ho : Es.testBit b = true
          · rw [(r8_isOn _ _).1 (fs.mpr ho), hv_b2_e, if_neg (by decide), z7, low_mask (by omega), nI_and, r8_bits (by omega) (by omega), hv_b2_e, if_pos ho]
          · rw [(r8_isOn _ _).2 (fun z => ho (fs.mp z)), hv_b2_e, if_pos rfl, if_neg ho]
    · refine ⟨σX, hv_sI σM 0 0 1, ⟨hi, hx, m1⟩, Or.inr ⟨0, ?_, ?_, e1⟩⟩
      · unfold mX7_at
        have nw : ∀ j, j < 6 → ¬ w = nI j := fun j hj q => hw ⟨j, hj, q⟩
        rw [(x3_isBar (by omega) bX (nI b)).1 ⟨b, hb, rfl⟩, hv_b2_e, need_1, if_neg (show ¬ w = (0 : Int32) from nw 0 (by decide)), if_neg (show ¬ w = (1 : Int32) from nw 1 (by decide)), if_neg (show ¬ w = (2 : Int32) from nw 2 (by decide)), if_neg (show ¬ w = (3 : Int32) from nw 3 (by decide)), if_neg (show ¬ w = (4 : Int32) from nw 4 (by decide)), if_neg (show ¬ w = (5 : Int32) from nw 5 (by decide))]
      · unfold mX8_at
        rw [(r8_isBar (by omega) bM (nI b)).1 ⟨b, hb, rfl⟩, hv_b2_e, if_neg (by decide), (r8_in5 w).2 hw, hv_b2_e, if_pos rfl, no]
  · refine ⟨σX, hv_sI σM 0 0 1, ⟨hi, hx, m1⟩, Or.inr ⟨0, ?_, ?_, e1⟩⟩
    · unfold mX7_at
      rw [(x3_isBar (by omega) bX v).2 hv, hv_b2_e, need_0]
    · unfold mX8_at
      rw [(r8_isBar (by omega) bM v).2 hv, hv_b2_e, if_pos rfl, no]
end
section
/-! the reference's determinant of a set of bars, one column another -/
theorem md_W_box {n M : Nat} {v : md_V} (h : ∀ k, k < n → (v k).natAbs ≤ M) : md_W (List.range n) v (M * n) := by
  have key : ∀ j, j ≤ n → md_W (List.range n) (fun k => if k < j then v k else 0) (M * j) := by
    intro j
    induction j with
    | zero =>
      intro _
      exact md_W_on md_W_zero (fun r _ => by rw [if_neg (Nat.not_lt_zero r)])
    | succ j ih =>
      intro hj
      have q := md_W_lin (ih (by omega)) (md_W_net (md_net_e (n := n) j)) 1 (v j)
      refine md_W_on (md_W_le q ?_) (fun r _ => ?_)
      · have := h j (by omega)
        have e : M * (j + 1) = M * j + M := Nat.mul_succ M j
        show 1 * (M * j) + (v j).natAbs * 1 ≤ M * (j + 1)
        omega
      · unfold md_e
        by_cases e : r = j
        · rw [if_pos (show r < j + 1 by omega), if_neg (show ¬ r < j by omega), if_pos e, e]
          omega
        · by_cases l : r < j
          · rw [if_pos (show r < j + 1 by omega), if_pos l, if_neg e]
            omega
          · rw [if_neg (show ¬ r < j + 1 by omega), if_neg l, if_neg e]
            omega
  exact md_W_on (key n (Nat.le_refl n)) (fun r hr => by rw [if_pos (List.mem_range.mp hr)])
theorem fBl_succ (S k : Nat) : fBl S (k + 1) = if S.testBit k = true then fBl S k ++ [k] else fBl S k := by
  unfold fBl
  rw [List.range_succ, List.filter_append]
  by_cases h : S.testBit k = true
  · rw [if_pos h, List.filter_cons_of_pos h, List.filter_nil]
  · rw [if_neg h, List.filter_cons_of_neg h, List.filter_nil, List.append_nil]
theorem fBl_mono (S : Nat) {j k : Nat} (h : j ≤ k) : (fBl S j).length ≤ (fBl S k).length := by
  induction k with
  | zero =>
    obtain rfl : j = 0 := by omega
    exact Nat.le_refl _
  | succ k ih =>
    by_cases e : j = k + 1
    · rw [e]
      exact Nat.le_refl _
    · have q := ih (by omega)
      rw [fBl_succ]
      by_cases c : S.testBit k = true
      · rw [if_pos c, List.length_append]
        omega
      · rw [if_neg c]
        exact q
theorem md_cl_map (G : Nat → md_V) : ∀ (l pre : List Nat), md_cl (fun c => G ((pre ++ l).getD c 0)) pre.length l.length = l.map G
  | [], _ => rfl
  | b :: l, pre => by
    show G ((pre ++ b :: l).getD pre.length 0) :: md_cl _ (pre.length + 1) l.length = G b :: l.map G
    have e : pre ++ b :: l = (pre ++ [b]) ++ l := by simp
    have q := md_cl_map G l (pre ++ [b])
    rw [← e, List.length_append, List.length_singleton] at q
    rw [q]
    congr 1
    congr 1
    simp [List.getD_eq_getElem?_getD]
theorem md_dt_map (R : List Nat) (G : Nat → md_V) (l : List Nat) : md_dt R (fun c => G (l.getD c 0)) l.length = md_D R (l.map G) := by
  have q := md_cl_map G l []
  unfold md_dt
  exact congrArg (md_D R) q
/-- a set's columns, some (e) being another -/
def gC (F : Nat → Nat → Int32) (P : Nat) (e : Nat → Bool) (col : md_V) : Nat → md_V := fun b => if e b = true then col else fCol F P b
def dS (F : Nat → Nat → Int32) (P B S : Nat) (e : Nat → Bool) (col : md_V) : Int := md_D (fR F P) ((fBl S B).map (gC F P e col))
theorem r8_sd29 {n : Nat} {F : Nat → Nat → Int32} {P B O D W : Nat} (hi : hI F P B O D W) {r5 : hv_St → Int32 → Int32 → Int32 → Int32 → Option (Int64 × hv_St)} {σ : hv_St} (hm : rM F σ) (hfr : rFr F P σ) {e : Nat → Bool} {but : Int32} (he : ∀ b, b < B → (nI b = but ↔ e b = true)) {col : md_V} (hcol : ∀ k, k < fN' F P → σ.1 14 k = iI (col k) ∧ (col k).natAbs ≤ 2 ^ 20) {c b : Nat} (hc : c < 12) (hb : b < B) (S : Int32) : ∀ (d k fuel : Nat) (f : Nat → Int64), k + d = fN' F P → d < fuel → (∀ a, a < k → f (12 * a + c) = iL (gC F P e col b a)) → ∃ g, kX8_setDeterminant_29 n r5 fuel (hv_wJ σ 13 f) S but (nI c) (nI b) (nI k) = r5 (hv_wJ σ 13 g) S but (nI (c + 1)) (nI (b + 1)) ∧ (∀ a, a < fN' F P → g (12 * a + c) = iL (gC F P e col b a)) ∧ ∀ a j, j < 12 → j ≠ c → g (12 * a + j) = f (12 * a + j) := by
  have hP := hi.1.2
  have hB := hi.2.1.2
  have eN : fN' F P = (fL F (2 * P)).length := rfl
  have hl : fN' F P ≤ 2 * P := fL_le F (2 * P)
  intro d
  induction d with
  | zero =>
    intro k fuel f hk hf hg
    obtain ⟨fuel, rfl⟩ : ∃ q, fuel = q + 1 := ⟨fuel - 1, by omega⟩
    refine ⟨f, ?_, fun a ha => hg a (by omega), fun _ _ _ _ => rfl⟩
    show kX8_setDeterminant_29_b n r5 _ _ _ _ _ _ _ = _
    unfold kX8_setDeterminant_29_b kX8_setDeterminant_97
    rw [hv_wJ_1, hfr.1, if_pos (nI_le (by omega) (by omega)), nI_1, nI_1]
  | succ d ih =>
    intro k fuel f hk hf hg
    obtain ⟨fuel, rfl⟩ : ∃ q, fuel = q + 1 := ⟨fuel - 1, by omega⟩
    have hkN : k < (fL F (2 * P)).length := by omega
    have hs := (fL_lt hkN).1
    have hfk := hfr.2 k hkN
    have hbl := fBr_le hi hb ((fL F (2 * P)).getD k 0 / 2) ((fL F (2 * P)).getD k 0 % 2)
    have hck := hcol k (by omega)
    obtain ⟨g, g1, g2, g3⟩ := ih (k + 1) fuel (vp_updL f (12 * k + c) (iL (gC F P e col b k))) (by omega) (by omega) (fun a ha => by
      by_cases ea : a = k
      · rw [ea, pk_uLs]
      · rw [pk_uLn (by omega)]
        exact hg a (by omega))
    refine ⟨g, ?_, g2, fun a j hj hjc => ?_⟩
    · show kX8_setDeterminant_29_b n r5 _ _ _ _ _ _ _ = _
      unfold kX8_setDeterminant_29_b kX8_setDeterminant_87
      have hm2 : rM F (hv_wJ σ 13 f) := hm
      rw [hv_wJ_1, hfr.1, if_neg (nI_ge (by omega) (by omega)), nI_12, nI_1]
      by_cases ee : e b = true
      · have eg : gC F P e col b k = col k := by unfold gC; rw [if_pos ee]
        rw [if_pos ((he b hb).mpr ee), hv_if_t (hv_ok_nI (show k < 12 by omega) (by decide)), hv_if_t (hv_ok_nI (show 12 * k + c < 144 by omega) (by decide)), nI_clamp (show k < 2 ^ 31 by omega), nI_clamp (show 12 * k + c < 2 ^ 31 by omega), hck.1, iI_L ⟨by omega, by omega⟩, hv_let_e, hv_sJ_wJ, ← eg]
        exact g1
      · have eg : gC F P e col b k = fCol F P b k := by unfold gC; rw [if_neg ee]
        rw [if_neg (fun q => ee ((he b hb).mp q)), hv_if_t (hv_ok_nI (show k < 12 by omega) (by decide)), hv_if_t (hv_ok_nI (show k < 12 by omega) (by decide)), nI_clamp (show k < 2 ^ 31 by omega), hfk.1, hfk.2, r8_brings hi hm2 hb (by omega) (by omega), hv_b2_e, hv_if_t (hv_ok_nI (show 12 * k + c < 144 by omega) (by decide)), nI_clamp (show 12 * k + c < 2 ^ 31 by omega), iI_L ⟨by omega, by omega⟩, hv_let_e, hv_sJ_wJ]
        rw [eg] at g1
        exact g1
    · rw [g3 a j hj hjc, pk_uLn (by omega)]
theorem gC_bd {F : Nat → Nat → Int32} {P B O D W : Nat} (hi : hI F P B O D W) (hN : fN' F P ≤ 11) {e : Nat → Bool} {col : md_V} (hcw : md_W (fR F P) col 108) {l : List Nat} (hl : ∀ b, b ∈ l → b < B) (hll : l.length = fN' F P) (hu : ∀ b c, b ∈ l → c ∈ l → e b = true → e c = true → b = c) : ∀ A, md_of (fN' F P) (fun c => gC F P e col (l.getD c 0)) A → (md_dt (fR F P) A (fN' F P)).natAbs ≤ 2 ^ 30 := by
  intro A hA
  have hmem : ∀ b, b < fN' F P → l.getD b 0 ∈ l := fun b hb => by
    rw [List.getD_eq_getElem?_getD, List.getElem?_eq_getElem (by omega), Option.getD_some]
    exact List.getElem_mem _
  have h5 : ∀ k, k < fN' F P → md_W (fR F P) (A k) 5 ∨ A k = col := fun k hk => by
    rcases hA k hk with ⟨b, hb, h⟩ | ⟨j, -, h⟩
    · by_cases ee : e (l.getD b 0) = true
      · refine Or.inr ?_
        rw [h]
        show gC F P e col (l.getD b 0) = col
        unfold gC
        rw [if_pos ee]
      · refine Or.inl ?_
        rw [h]
        show md_W _ (gC F P e col (l.getD b 0)) 5
        unfold gC
        rw [if_neg ee]
        exact fCol_W hi (hl _ (hmem b hb))
    · refine Or.inl ?_
      rw [h]
      exact md_W_le (md_W_net (md_net_e _)) (by decide)
  by_cases hall : ∀ k, k < fN' F P → md_W (fR F P) (A k) 5
  · refine Nat.le_trans (md_dt_W (nd_range _) hall) (Nat.le_trans (Nat.pow_le_pow_right (by decide) hN) (by decide))
  · have h1 : ∃ k, k < fN' F P ∧ A k = col := Classical.byContradiction fun hn => hall fun k hk => (h5 k hk).resolve_right fun q => hn ⟨k, hk, q⟩
    obtain ⟨k, hk, hkc⟩ := h1
    by_cases h2 : ∃ j, j < fN' F P ∧ j ≠ k ∧ A j = col
    · obtain ⟨j, hj, hjk, hjc⟩ := h2
      rw [md_dt_eq (fR F P) A hjk hj hk (hjc.trans hkc.symm)]
      decide
    · have q := md_dt_W2 (R := fR F P) (nd_range _) (w := 5) (z := 108) (A := md_up A k (md_e 0)) (i := k) hk (fun j hj => by
        by_cases ej : j = k
        · rw [ej, md_up_at]
          exact md_W_le (md_W_net (md_net_e _)) (by decide)
        · rw [md_up_ne _ _ ej]
          exact (h5 j hj).resolve_right fun q => h2 ⟨j, hj, ej, q⟩) (x := A k) (by rw [hkc]; exact hcw)
      rw [md_up_up, md_up_self] at q
      refine Nat.le_trans q (Nat.le_trans (Nat.mul_le_mul_left 108 (Nat.pow_le_pow_right (show 0 < 5 by decide) (show fN' F P - 1 ≤ 10 by omega))) (by decide))
theorem r8_setDet {n : Nat} (hn : 12 < n) {F : Nat → Nat → Int32} {P B O D W : Nat} (hi : hI F P B O D W) {σ : hv_St} (hm : rM F σ) (hfr : rFr F P σ) {e : Nat → Bool} {but : Int32} (he : ∀ b, b < B → (nI b = but ↔ e b = true)) (hu : ∀ b c, b < B → c < B → e b = true → e c = true → b = c) {col : md_V} (hcol : ∀ k, k < fN' F P → σ.1 14 k = iI (col k) ∧ (col k).natAbs ≤ 2 ^ 20) (hcw : md_W (fR F P) col 108) {S : Nat} (hS : S < 2 ^ 31) (hSl : (fBl S B).length = fN' F P) : ∃ g, mX8_setDeterminant n σ (nI S) but = some (iL (dS F P B S e col), hv_wJ σ 13 g) := by
  have hP := hi.1.2
  have hB := hi.2.1.2
  have eN : fN' F P = (fL F (2 * P)).length := rfl
  have hl : fN' F P ≤ 2 * P := fL_le F (2 * P)
  have bM : σ.1 0 6 = nI B := hm.1.2.1.trans hi.2.1.1
  have hlB : (fBl S B).length ≤ B := by
    have h2 := List.length_filter_le (fun j => S.testBit j) (List.range B)
    rw [List.length_range] at h2
    exact h2
  have loop : ∀ (d b fuel : Nat) (f : Nat → Int64), b + d = B → d < fuel → (∀ a j, a < fN' F P → j < (fBl S b).length → f (12 * a + j) = iL (gC F P e col ((fBl S b).getD j 0) a)) → ∃ g, kX8_setDeterminant_5 n fuel (hv_wJ σ 13 f) (nI S) but (nI (fBl S b).length) (nI b) = some (iL (dS F P B S e col), hv_wJ σ 13 g) := by
    intro d
    induction d with
    | zero =>
      intro b fuel f hb hf hinv
      obtain ⟨fuel, rfl⟩ : ∃ q, fuel = q + 1 := ⟨fuel - 1, by omega⟩
      obtain rfl : b = B := by omega
      obtain ⟨g, hg⟩ := r8_determinant (n := n) (σ := σ) (N := fN' F P) (by omega) hn (m := fun c => gC F P e col ((fBl S b).getD c 0)) (gC_bd hi (by omega) hcw (fun x hx => (fBl_mem.mp hx).1) hSl (fun x y hx hy h1 h2 => hu x y (fBl_mem.mp hx).1 (fBl_mem.mp hy).1 h1 h2)) (f := f) (fun a c ha hc => hinv a c ha (by omega))
      refine ⟨g, ?_⟩
      show kX8_setDeterminant_5_b n _ _ _ _ _ _ = _
      unfold kX8_setDeterminant_5_b
      rw [hv_wJ_1, bM, if_pos (nI_le (Nat.le_refl _) (by omega)), hfr.1, hg, hv_b2_e]
      have e2 := md_dt_map (fR F P) (gC F P e col) (fBl S b)
      rw [hSl] at e2
      unfold dS
      rw [← e2]
    | succ d ih =>
      intro b fuel f hb hf hinv
      obtain ⟨fuel, rfl⟩ : ∃ q, fuel = q + 1 := ⟨fuel - 1, by omega⟩
      have fb := fB_iff (k := b) hS (by omega)
      have es := fBl_succ S b
      have hmono := fBl_mono S (show b + 1 ≤ B by omega)
      by_cases h : S.testBit b = true
      · rw [if_pos h] at es
        rw [es, List.length_append, List.length_singleton] at hmono
        obtain ⟨g, g1, g2, g3⟩ := r8_sd29 (n := n) (r5 := kX8_setDeterminant_5 n fuel) hi hm hfr he hcol (c := (fBl S b).length) (b := b) (by omega) (by omega) (nI S) (fN' F P) 0 n f (by omega) (by omega) (fun a ha => absurd ha (Nat.not_lt_zero _))
        obtain ⟨g', k1⟩ := ih (b + 1) fuel g (by omega) (by omega) (fun a j ha hj => by
          rw [es, List.length_append, List.length_singleton] at hj
          rw [es]
          by_cases ej : j = (fBl S b).length
          · rw [ej, getD_app_at]
            exact g2 a ha
          · rw [getD_app_lt (by omega), g3 a j (by omega) ej]
            exact hinv a j ha (by omega))
        refine ⟨g', ?_⟩
        show kX8_setDeterminant_5_b n _ _ _ _ _ _ = _
        unfold kX8_setDeterminant_5_b
        rw [hv_wJ_1, bM, if_neg (nI_ge (by omega) (by omega)), (r8_isOn _ _).1 (fb.mpr h), hv_b2_e, if_neg (by decide)]
        rw [es, List.length_append, List.length_singleton] at k1
        exact g1.trans k1
      · rw [if_neg h] at es
        obtain ⟨g', k1⟩ := ih (b + 1) fuel f (by omega) (by omega) (by rw [es]; exact hinv)
        refine ⟨g', ?_⟩
        show kX8_setDeterminant_5_b n _ _ _ _ _ _ = _
        unfold kX8_setDeterminant_5_b kX8_setDeterminant_97
        rw [hv_wJ_1, bM, if_neg (nI_ge (by omega) (by omega)), (r8_isOn _ _).2 (fun q => h (fb.mp q)), hv_b2_e, if_pos rfl, nI_1]
        rw [es] at k1
        exact k1
  obtain ⟨g, hg⟩ := loop B 0 n (σ.2 13) (by omega) (by omega) (fun a j ha hj => absurd hj (Nat.not_lt_zero _))
  rw [hv_wJ_self] at hg
  exact ⟨g, hg⟩
end
section
/-! the reference's sums over sets -/
def gv (F : Nat → Nat → Int32) (b : Nat) : Int := (F 7 b).toInt
def gPr (F : Nat → Nat → Int32) (U : Nat) : Nat → Int
  | 0 => 1
  | k + 1 => gPr F U k * if U.testBit k = true then gv F k else 1
theorem gv_e {F : Nat → Nat → Int32} {P B O D W : Nat} (hi : hI F P B O D W) {b : Nat} (hb : b < B) : F 7 b = iI (gv F b) ∧ 1 ≤ gv F b ∧ gv F b ≤ 3 := by
  obtain ⟨g, e, g1, g2⟩ := (hi.2.2.2.2.2.2.1 b hb).2.2.1
  refine ⟨iI_of _, ?_, ?_⟩ <;> · unfold gv; rw [e, nI_toInt (by omega)]; omega
theorem pcK_hi {s B : Nat} (h : s < 2 ^ B) : ∀ d, pcK s (B + d) = pcK s B
  | 0 => rfl
  | d + 1 => by
    rw [← Nat.add_assoc, pcK_succ, pcK_hi h d]
    have : s.testBit (B + d) = false := Nat.testBit_lt_two_pow (Nat.lt_of_lt_of_le h (Nat.pow_le_pow_right (by decide) (Nat.le_add_right _ _)))
    rw [this]
    simp
theorem pc_fBl {s B : Nat} (hB : B ≤ 11) (h : s < 2 ^ B) : pc s = (fBl s B).length := by
  have := pcK_hi h (12 - B)
  rw [show B + (12 - B) = 12 by omega] at this
  exact this
def eN : Nat → Bool := fun _ => false
def eB (b : Nat) : Nat → Bool := fun j => decide (j = b)
/-- the load's column -/
def fCo (F : Nat → Nat → Int32) (P : Nat) (z : Nat → Int) : md_V := fun k => -(z ((fL F (2 * P)).getD k 0))
theorem fCo_W {F : Nat → Nat → Int32} {P : Nat} (hP : P ≤ 6) {z : Nat → Int} (hz : ∀ s, s < 12 → (z s).natAbs ≤ 9) : md_W (fR F P) (fCo F P z) 108 := by
  have hl := fL_le F (2 * P)
  refine md_W_le (md_W_box (M := 9) (fun k hk => ?_)) (by omega)
  have := (fL_lt hk).1
  have h9 := hz ((fL F (2 * P)).getD k 0) (by omega)
  show (-(z ((fL F (2 * P)).getD k 0))).natAbs ≤ 9
  omega
theorem r8_col_loop {n : Nat} {F : Nat → Nat → Int32} {P B O D W : Nat} (hi : hI F P B O D W) {σ : hv_St} (hfr : rFr F P σ) {z : Nat → Int} (hz : ∀ s, s < 12 → σ.1 16 s = iI (z s)) : ∀ (d k fuel : Nat) (f : Nat → Int32), k + d = fN' F P → d < fuel → (∀ j, j < k → f j = iI (fCo F P z j)) → ∃ g, kX8_laysColumn_2 n fuel (hv_wI σ 14 f) (nI k) = some (hv_wI σ 14 g) ∧ ∀ j, j < fN' F P → g j = iI (fCo F P z j) := by
  have hP := hi.1.2
  have eN : fN' F P = (fL F (2 * P)).length := rfl
  have hl : fN' F P ≤ 2 * P := fL_le F (2 * P)
  intro d
  induction d with
  | zero =>
    intro k fuel f hk hf hg
    obtain ⟨fuel, rfl⟩ : ∃ q, fuel = q + 1 := ⟨fuel - 1, by omega⟩
    refine ⟨f, ?_, fun j hj => hg j (by omega)⟩
    show kX8_laysColumn_2_b n _ _ _ = _
    unfold kX8_laysColumn_2_b
    rw [hv_wI_ne _ _ (by decide), hfr.1, if_pos (nI_le (by omega) (by omega))]
  | succ d ih =>
    intro k fuel f hk hf hg
    obtain ⟨fuel, rfl⟩ : ∃ q, fuel = q + 1 := ⟨fuel - 1, by omega⟩
    have hkN : k < (fL F (2 * P)).length := by omega
    have hs := (fL_lt hkN).1
    have hfk := hfr.2 k hkN
    obtain ⟨g, g1, g2⟩ := ih (k + 1) fuel (upd f k (iI (fCo F P z k))) (by omega) (by omega) (fun j hj => by
      by_cases e : j = k
      · rw [e, pk_us]
      · rw [pk_un e]
        exact hg j (by omega))
    refine ⟨g, ?_, g2⟩
    show kX8_laysColumn_2_b n _ _ _ = _
    unfold kX8_laysColumn_2_b
    rw [hv_wI_ne _ _ (show 0 ≠ 14 by decide), hfr.1, if_neg (nI_ge (by omega) (by omega)), hv_if_t (hv_ok_nI (show k < 12 by omega) (by decide)), hv_if_t (hv_ok_nI (show k < 12 by omega) (by decide)), nI_clamp (show k < 2 ^ 31 by omega), hv_wI_ne _ _ (show 11 ≠ 14 by decide), hv_wI_ne _ _ (show 12 ≠ 14 by decide), hfk.1, hfk.2, nI_2, nI_add, show 2 * ((fL F (2 * P)).getD k 0 / 2) + (fL F (2 * P)).getD k 0 % 2 = (fL F (2 * P)).getD k 0 by omega, hv_if_t (hv_ok_nI (show (fL F (2 * P)).getD k 0 < 12 by omega) (by decide)), hv_if_t (hv_ok_nI (show k < 12 by omega) (by decide)), nI_clamp (by omega), hv_let_e, hv_wI_ne _ _ (show 16 ≠ 14 by decide), hz _ (by omega), iI_neg, hv_sI_wI, nI_1]
    exact g1
theorem r8_laysColumn {n : Nat} (hn : 12 < n) {F : Nat → Nat → Int32} {P B O D W : Nat} (hi : hI F P B O D W) {σ : hv_St} (hfr : rFr F P σ) {z : Nat → Int} (hz : ∀ s, s < 12 → σ.1 16 s = iI (z s)) : ∃ g, mX8_laysColumn n σ = some (hv_wI σ 14 g) ∧ ∀ j, j < fN' F P → g j = iI (fCo F P z j) := by
  have hP := hi.1.2
  have hl : fN' F P ≤ 2 * P := fL_le F (2 * P)
  have q := r8_col_loop (n := n) hi hfr hz (fN' F P) 0 n (σ.1 14) (by omega) (by omega) (fun j hj => absurd hj (Nat.not_lt_zero _))
  rw [hv_wI_self] at q
  exact q
/-- what stands while sets are summed -/
def rB (F : Nat → Nat → Int32) (P : Nat) (col : md_V) (σ : hv_St) : Prop := rM F σ ∧ rFr F P σ ∧ ∀ k, k < fN' F P → σ.1 14 k = iI (col k) ∧ (col k).natAbs ≤ 2 ^ 20
theorem rB_1 {F : Nat → Nat → Int32} {P : Nat} {col : md_V} {σ τ : hv_St} (h : rB F P col σ) (e : τ.1 = σ.1) : rB F P col τ := by
  unfold rB rM rFr
  rw [e]
  exact h
theorem dS_rL {F : Nat → Nat → Int32} {P B O D W : Nat} (hi : hI F P B O D W) {T : Nat} (hTl : (fBl T B).length = fN' F P) : (dS F P B T eN (fun _ => 0)).natAbs ≤ 5 ^ fN' F P := by
  unfold dS
  have q := md_D_W (R := fR F P) (nd_range _) (w := 5) (c := (fBl T B).map (gC F P eN (fun _ => 0))) (fun v hv => by
    obtain ⟨b, hb, rfl⟩ := List.mem_map.mp hv
    unfold gC eN
    rw [if_neg (by decide)]
    exact fCol_W hi (fBl_mem.mp hb).1)
  rw [List.length_map, hTl] at q
  exact q
theorem dS_eN (F : Nat → Nat → Int32) (P B T : Nat) (c c' : md_V) : dS F P B T eN c = dS F P B T eN c' := rfl
def dN (F : Nat → Nat → Int32) (P B T : Nat) : Int := dS F P B T eN (fun _ => 0)
theorem r8_setDetN {n : Nat} (hn : 12 < n) {F : Nat → Nat → Int32} {P B O D W : Nat} (hi : hI F P B O D W) {col : md_V} {σ : hv_St} (h : rB F P col σ) (hcw : md_W (fR F P) col 108) {T : Nat} (hT : T < 2 ^ 31) (hTl : (fBl T B).length = fN' F P) : ∃ g, mX8_setDeterminant n σ (nI T) (-1) = some (iL (dN F P B T), hv_wJ σ 13 g) := by
  have hB := hi.2.1.2
  exact r8_setDet hn hi h.1 h.2.1 (e := eN) (fun b hb => ⟨fun q => absurd (nI_pos (n := b) (by omega)) (fun z => z (by rw [q]; decide)), fun q => by cases q⟩) (fun b c _ _ q => by cases q) h.2.2 hcw hT hTl
theorem r8_setDetB {n : Nat} (hn : 12 < n) {F : Nat → Nat → Int32} {P B O D W : Nat} (hi : hI F P B O D W) {col : md_V} {σ : hv_St} (h : rB F P col σ) (hcw : md_W (fR F P) col 108) {T b : Nat} (hb : b < B) (hT : T < 2 ^ 31) (hTl : (fBl T B).length = fN' F P) : ∃ g, mX8_setDeterminant n σ (nI T) (nI b) = some (iL (dS F P B T (eB b) col), hv_wJ σ 13 g) := by
  have hB := hi.2.1.2
  exact r8_setDet hn hi h.1 h.2.1 (e := eB b) (fun c hc => by
    unfold eB
    rw [decide_eq_true_iff]
    exact nI_eq (by omega) (by omega)) (fun c d _ _ q r => by
    unfold eB at q r
    rw [decide_eq_true_iff] at q r
    rw [q, r]) h.2.2 hcw hT hTl
def oT (F : Nat → Nat → Int32) (P B : Nat) (col : md_V) (T : Nat) (g : Int) (b : Nat) : Int := if T.testBit b = true then g * dN F P B T * dS F P B T (eB b) col else 0
theorem r8_adds75 {n : Nat} (hn : 12 < n) {F : Nat → Nat → Int32} {P B O D W : Nat} (hi : hI F P B O D W) {col : md_V} (hcw : md_W (fR F P) col 108) {T : Nat} (hT : T < 2 ^ 31) (hTl : (fBl T B).length = fN' F P) {σ₀ : hv_St} (h0 : rB F P col σ₀) {g : Int} {o : Nat → Int} : ∀ (d b fuel : Nat) (σ : hv_St), b + d = B → d < fuel → σ.1 = σ₀.1 → (∀ q, q ≠ 13 → q ≠ 15 → σ.2 q = σ₀.2 q) → (∀ c, c < B → σ.2 15 c = iL (o c + if c < b then oT F P B col T g c else 0)) → ∃ τ, kX8_addsSet_75 n fuel σ (nI T) (iL g) (iL (dN F P B T)) (nI b) = some τ ∧ τ.1 = σ₀.1 ∧ (∀ q, q ≠ 13 → q ≠ 15 → τ.2 q = σ₀.2 q) ∧ ∀ c, c < B → τ.2 15 c = iL (o c + oT F P B col T g c) := by
  have hB := hi.2.1.2
  have hdr : rL (dN F P B T) := rL_of (Nat.le_trans (dS_rL hi hTl) (by
    have hP := hi.1.2
    have hl : fN' F P ≤ 2 * P := fL_le F (2 * P)
    exact Nat.le_trans (Nat.pow_le_pow_right (by decide) (show fN' F P ≤ 12 by omega)) (by decide)))
  intro d
  induction d with
  | zero =>
    intro b fuel σ hb hf h1 h2 h3
    obtain ⟨fuel, rfl⟩ : ∃ q, fuel = q + 1 := ⟨fuel - 1, by omega⟩
    refine ⟨σ, ?_, h1, h2, fun c hc => by rw [h3 c hc, if_pos (by omega)]⟩
    have bM : σ.1 0 6 = nI B := (rB_1 h0 h1).1.1.2.1.trans hi.2.1.1
    show kX8_addsSet_75_b n _ _ _ _ _ _ = _
    unfold kX8_addsSet_75_b
    rw [bM, if_pos (nI_le (by omega) (by omega))]
  | succ d ih =>
    intro b fuel σ hb hf h1 h2 h3
    obtain ⟨fuel, rfl⟩ : ∃ q, fuel = q + 1 := ⟨fuel - 1, by omega⟩
    have hσ := rB_1 h0 h1
    have bM : σ.1 0 6 = nI B := hσ.1.1.2.1.trans hi.2.1.1
    have fb := fB_iff (k := b) hT (by omega)
    by_cases hd : dN F P B T = 0
    · have z : ∀ c, oT F P B col T g c = 0 := fun c => by
        unfold oT
        rw [hd, Int.mul_zero, Int.zero_mul]
        by_cases q : T.testBit c = true
        · rw [if_pos q]
        · rw [if_neg q]
      refine ⟨σ, ?_, h1, h2, fun c hc => ?_⟩
      · show kX8_addsSet_75_b n _ _ _ _ _ _ = _
        unfold kX8_addsSet_75_b
        rw [bM, if_neg (nI_ge (by omega) (by omega)), if_pos ((iL_0 hdr).mpr hd)]
      · rw [h3 c hc, z c]
        by_cases q : c < b
        · rw [if_pos q]
        · rw [if_neg q]
    · have hob : σ.2 15 b = iL (o b) := by rw [h3 b (by omega), if_neg (Nat.lt_irrefl b), Int.add_zero]
      have step : ∀ σ', σ'.1 = σ₀.1 → (∀ q, q ≠ 13 → q ≠ 15 → σ'.2 q = σ₀.2 q) → σ'.2 15 = σ.2 15 → ∃ τ, kX8_addsSet_75 n fuel (hv_sJ σ' 15 b (iL (o b + oT F P B col T g b))) (nI T) (iL g) (iL (dN F P B T)) (nI (b + 1)) = some τ ∧ τ.1 = σ₀.1 ∧ (∀ q, q ≠ 13 → q ≠ 15 → τ.2 q = σ₀.2 q) ∧ ∀ c, c < B → τ.2 15 c = iL (o c + oT F P B col T g c) := fun σ' k1 k2 k3 => ih (b + 1) fuel _ (by omega) (by omega) k1 (fun q q1 q2 => by rw [hv_sJ_ne _ _ _ q2]; exact k2 q q1 q2) (fun c hc => by
        rw [hv_sJ_rd, k3]
        by_cases ec : c = b
        · rw [if_pos ec, ec, if_pos (by omega)]
        · rw [if_neg ec, h3 c hc]
          by_cases q : c < b
          · rw [if_pos q, if_pos (by omega)]
          · rw [if_neg q, if_neg (by omega)])
      by_cases ht : T.testBit b = true
      · obtain ⟨f, hf'⟩ := r8_setDetB (n := n) hn hi hσ hcw (show b < B by omega) hT hTl
        obtain ⟨τ, t1, t2, t3, t4⟩ := step (hv_wJ σ 13 f) h1 (fun q q1 q2 => by rw [hv_wJ_ne _ _ q1]; exact h2 q q1 q2) (hv_wJ_ne _ _ (by decide))
        refine ⟨τ, ?_, t2, t3, t4⟩
        show kX8_addsSet_75_b n _ _ _ _ _ _ = _
        unfold kX8_addsSet_75_b kX8_addsSet_124
        rw [bM, if_neg (nI_ge (by omega) (by omega)), if_neg (fun q => hd ((iL_0 hdr).mp q)), hv_if_t (hv_ok_nI (show b < 11 by omega) (by decide)), (r8_isOn _ _).1 (fb.mpr ht), hv_b2_e, if_neg (by decide), hf', hv_b2_e, hv_if_t (hv_ok_nI (show b < 11 by omega) (by decide)), hv_let_e, nI_clamp (by omega), hob, iL_mul, iL_mul, iL_add, nI_1]
        have eo : oT F P B col T g b = g * dN F P B T * dS F P B T (eB b) col := by unfold oT; rw [if_pos ht]
        rw [eo] at t1
        exact t1
      · obtain ⟨τ, t1, t2, t3, t4⟩ := step σ h1 h2 rfl
        refine ⟨τ, ?_, t2, t3, t4⟩
        show kX8_addsSet_75_b n _ _ _ _ _ _ = _
        unfold kX8_addsSet_75_b kX8_addsSet_124
        rw [bM, if_neg (nI_ge (by omega) (by omega)), if_neg (fun q => hd ((iL_0 hdr).mp q)), hv_if_t (hv_ok_nI (show b < 11 by omega) (by decide)), (r8_isOn _ _).2 (fun q => ht (fb.mp q)), hv_b2_e, if_pos rfl, hv_if_t (hv_ok_nI (show b < 11 by omega) (by decide)), hv_let_e, nI_clamp (by omega), hob, show (0 : Int64) = iL 0 from rfl, iL_add, nI_1]
        have eo : oT F P B col T g b = 0 := by unfold oT; rw [if_neg ht]
        rw [eo] at t1
        exact t1
theorem r8_addsSet {n : Nat} (hn : 12 < n) {F : Nat → Nat → Int32} {P B O D W : Nat} (hi : hI F P B O D W) {col : md_V} (hcw : md_W (fR F P) col 108) {T S : Nat} (hT : T < 2 ^ 31) (hS : S < 2 ^ B) (hTl : (fBl T B).length = fN' F P) {σ : hv_St} (h : rB F P col σ) {u : Int} {o : Nat → Int} (hu : σ.2 0 24 = iL u) (ho : ∀ c, c < B → σ.2 15 c = iL (o c)) : ∃ τ, mX8_addsSet n σ (nI T) (nI S) = some τ ∧ τ.1 = σ.1 ∧ (∀ q, q ≠ 0 → q ≠ 13 → q ≠ 15 → τ.2 q = σ.2 q) ∧ τ.2 0 24 = iL (u + gPr F (andn S T) B * dN F P B T * dN F P B T) ∧ ∀ c, c < B → τ.2 15 c = iL (o c + oT F P B col T (gPr F (andn S T) B) c) := by
  have hB := hi.2.1.2
  have bM : σ.1 0 6 = nI B := h.1.1.2.1.trans hi.2.1.1
  have ok31 := p2048 hB (andn_lt (b := T) hS)
  have loop : ∀ (d b fuel : Nat), b + d = B → d < fuel → kX8_addsSet_5 n fuel σ (nI T) (nI S) (iL (gPr F (andn S T) b)) (nI b) = (hv_b2 (mX8_setDeterminant n σ (nI T) ((-1 : Int32))) fun r51 s51 => hv_let (hv_sJ s51 0 24 ((s51.2 0 24) + (((iL (gPr F (andn S T) B)) * (r51)) * (r51)))) fun s69 => kX8_addsSet_75 n n s69 (nI T) (iL (gPr F (andn S T) B)) (r51) ((0 : Int32))) := by
    intro d
    induction d with
    | zero =>
      intro b fuel hb hf
      obtain ⟨fuel, rfl⟩ : ∃ q, fuel = q + 1 := ⟨fuel - 1, by omega⟩
      obtain rfl : b = B := by omega
      show kX8_addsSet_5_b n _ _ _ _ _ _ = _
      unfold kX8_addsSet_5_b
      rw [bM, if_pos (nI_le (Nat.le_refl _) (by omega))]
    | succ d ih =>
      intro b fuel hb hf
      obtain ⟨fuel, rfl⟩ : ∃ q, fuel = q + 1 := ⟨fuel - 1, by omega⟩
      have fb := fB_iff (s := andn S T) (k := b) (by omega) (by omega)
      have eg := gv_e hi (show b < B by omega)
      rw [← ih (b + 1) fuel (by omega) (by omega)]
      show kX8_addsSet_5_b n _ _ _ _ _ _ = _
      unfold kX8_addsSet_5_b kX8_addsSet_40
      rw [bM, if_neg (nI_ge (by omega) (by omega)), nI_andn]
      show _ = kX8_addsSet_5 n fuel σ (nI T) (nI S) (iL (gPr F (andn S T) b * if (andn S T).testBit b = true then gv F b else 1)) (nI (b + 1))
      by_cases ht : (andn S T).testBit b = true
      · rw [(r8_isOn _ _).1 (fb.mpr ht), hv_b2_e, if_neg (by decide), hv_if_t (hv_ok_nI (show b < 11 by omega) (by decide)), hv_let_e, nI_clamp (by omega), h.1.2 7 (by decide) (by decide), eg.1, iI_L ⟨by omega, by omega⟩, iL_mul, nI_1, if_pos ht]
      · rw [(r8_isOn _ _).2 (fun q => ht (fb.mp q)), hv_b2_e, if_pos rfl, hv_let_e, show (1 : Int64) = iL 1 from rfl, iL_mul, nI_1, if_neg ht]
  obtain ⟨f, hf⟩ := r8_setDetN (n := n) hn hi h hcw hT hTl
  have l0 := loop B 0 n (by omega) (by omega)
  rw [hf, hv_b2_e, hv_let_e, hv_wJ_ne _ _ (show 0 ≠ 13 by decide), hu, iL_mul, iL_mul, iL_add] at l0
  obtain ⟨τ, t1, t2, t3, t4⟩ := r8_adds75 (n := n) hn hi hcw hT hTl (σ₀ := hv_sJ (hv_wJ σ 13 f) 0 24 (iL (u + gPr F (andn S T) B * dN F P B T * dN F P B T))) (rB_1 h rfl) (g := gPr F (andn S T) B) (o := o) B 0 n _ (by omega) (by omega) rfl (fun _ _ _ => rfl) (fun c hc => by
    rw [if_neg (Nat.not_lt_zero c), Int.add_zero, hv_sJ_ne _ _ _ (by decide), hv_wJ_ne _ _ (by decide)]
    exact ho c hc)
  refine ⟨τ, ?_, t2, fun q q0 q1 q2 => ?_, ?_, t4⟩
  · exact l0.trans t1
  · rw [t3 q q1 q2, hv_sJ_ne _ _ _ q0, hv_wJ_ne _ _ q1]
  · rw [t3 0 (by decide) (by decide), hv_sJ_rd, if_pos rfl]
end
section
/-! the reference's bears -/
def sumK (f : Nat → Int) : Nat → Int
  | 0 => 0
  | k + 1 => sumK f k + f k
def bC (F : Nat → Nat → Int32) (P S T : Nat) : Bool := decide (andn T S = 0) && decide (pc T = fN' F P)
theorem bC_iff {F : Nat → Nat → Int32} {P S T : Nat} : bC F P S T = true ↔ andn T S = 0 ∧ pc T = fN' F P := by
  unfold bC
  rw [Bool.and_eq_true, decide_eq_true_iff, decide_eq_true_iff]
def uS (F : Nat → Nat → Int32) (P B S T : Nat) : Int := if bC F P S T = true then gPr F (andn S T) B * dN F P B T * dN F P B T else 0
def oS (F : Nat → Nat → Int32) (P B : Nat) (col : md_V) (S c T : Nat) : Int := if bC F P S T = true then oT F P B col T (gPr F (andn S T) B) c else 0
theorem r8_bears_45 {n : Nat} (hn : 12 < n) {F : Nat → Nat → Int32} {P B O D W : Nat} (hi : hI F P B O D W) {col : md_V} (hcw : md_W (fR F P) col 108) {S : Nat} (hS : S < 2 ^ B) {σ₀ : hv_St} (h0 : rB F P col σ₀) : ∀ (d T fuel : Nat) (σ : hv_St), T + d = 2 ^ B → d < fuel → σ.1 = σ₀.1 → (∀ q, q ≠ 0 → q ≠ 13 → q ≠ 15 → σ.2 q = σ₀.2 q) → σ.2 0 24 = iL (sumK (uS F P B S) T) → (∀ c, c < B → σ.2 15 c = iL (sumK (oS F P B col S c) T)) → ∃ τ, kX8_bears_45 n fuel σ (nI S) (nI T) = some (1, τ) ∧ τ.1 = σ₀.1 ∧ (∀ q, q ≠ 0 → q ≠ 13 → q ≠ 15 → τ.2 q = σ₀.2 q) ∧ τ.2 0 24 = iL (sumK (uS F P B S) (2 ^ B)) ∧ ∀ c, c < B → τ.2 15 c = iL (sumK (oS F P B col S c) (2 ^ B)) := by
  have hB := hi.2.1.2
  have h2B : 2 ^ B ≤ 2048 := Nat.le_trans (Nat.pow_le_pow_right (by decide) hB) (by decide)
  intro d
  induction d with
  | zero =>
    intro T fuel σ hT hf h1 h2 h3 h4
    obtain ⟨fuel, rfl⟩ : ∃ q, fuel = q + 1 := ⟨fuel - 1, by omega⟩
    have hTB : T = 2 ^ B := by omega
    rw [hTB] at h3 h4
    refine ⟨σ, ?_, h1, h2, h3, h4⟩
    have bM : σ.1 0 6 = nI B := (rB_1 h0 h1).1.1.2.1.trans hi.2.1.1
    show kX8_bears_45_b n _ _ _ _ = _
    unfold kX8_bears_45_b
    rw [bM, nI_shl (by omega), if_pos (nI_le (by omega) (by omega))]
  | succ d ih =>
    intro T fuel σ hT hf h1 h2 h3 h4
    obtain ⟨fuel, rfl⟩ : ∃ q, fuel = q + 1 := ⟨fuel - 1, by omega⟩
    have hσ := rB_1 h0 h1
    have bM : σ.1 0 6 = nI B := hσ.1.1.2.1.trans hi.2.1.1
    have hTB : T < 2 ^ B := by omega
    have pl := pc_le T
    have e0 : nI (andn T S) = 0 ↔ andn T S = 0 := nI_0e (by have := andn_lt (b := S) hTB; omega)
    have su : sumK (uS F P B S) (T + 1) = sumK (uS F P B S) T + uS F P B S T := rfl
    have so : ∀ c, sumK (oS F P B col S c) (T + 1) = sumK (oS F P B col S c) T + oS F P B col S c T := fun c => rfl
    have hN : fN' F P ≤ 12 := by
      have hP := hi.1.2
      have hl : fN' F P ≤ 2 * P := fL_le F (2 * P)
      omega
    have ep : nI (pc T) = nI (fN' F P) ↔ pc T = fN' F P := nI_eq (by omega) (by omega)
    have hb := r8_bits (n := n) (σ := σ) hn (s := T) (by omega)
    have hfr18 : σ.1 0 18 = nI (fN' F P) := hσ.2.1.1
    by_cases hc : bC F P S T = true
    · obtain ⟨c1, c2⟩ := bC_iff.mp hc
      have hTl : (fBl T B).length = fN' F P := by rw [← pc_fBl hB hTB]; exact c2
      obtain ⟨τ1, a1, a2, a3, a4, a5⟩ := r8_addsSet (n := n) hn hi hcw (T := T) (S := S) (by omega) hS hTl hσ h3 h4
      obtain ⟨τ, t1, t2, t3, t4, t5⟩ := ih (T + 1) fuel τ1 (by omega) (by omega) (a2.trans h1) (fun q q0 q1 q2 => (a3 q q0 q1 q2).trans (h2 q q0 q1 q2)) (by
        rw [a4, su]
        unfold uS
        rw [if_pos hc]) (fun c hc' => by
        rw [a5 c hc', so]
        congr 2
        unfold oS
        rw [if_pos hc])
      refine ⟨τ, ?_, t2, t3, t4, t5⟩
      show kX8_bears_45_b n _ _ _ _ = _
      unfold kX8_bears_45_b kX8_bears_80
      rw [bM, nI_shl (by omega), if_neg (nI_ge hTB (by omega)), nI_andn, if_pos (e0.mpr c1), hb, hv_b2_e, hfr18, if_pos (ep.mpr c2), a1, hv_bd_e, nI_1]
      exact t1
    · have z1 : uS F P B S T = 0 := by unfold uS; rw [if_neg hc]
      have z2 : ∀ c, oS F P B col S c T = 0 := fun c => by unfold oS; rw [if_neg hc]
      obtain ⟨τ, t1, t2, t3, t4, t5⟩ := ih (T + 1) fuel σ (by omega) (by omega) h1 h2 (by rw [su, z1, Int.add_zero]; exact h3) (fun c hc' => by rw [so, z2, Int.add_zero]; exact h4 c hc')
      refine ⟨τ, ?_, t2, t3, t4, t5⟩
      show kX8_bears_45_b n _ _ _ _ = _
      unfold kX8_bears_45_b kX8_bears_80
      rw [bM, nI_shl (by omega), if_neg (nI_ge hTB (by omega)), nI_andn, nI_1]
      by_cases q1 : andn T S = 0
      · rw [if_pos (e0.mpr q1), hb, hv_b2_e, hfr18, if_neg (fun q => hc (bC_iff.mpr ⟨q1, ep.mp q⟩))]
        exact t1
      · rw [if_neg (fun q => q1 (e0.mp q))]
        exact t1
theorem r8_bears_24 {n : Nat} {σ : hv_St} {S : Int32} : ∀ (d k fuel : Nat) (f : Nat → Int64), k + d = 11 → d < fuel → (∀ j, j < k → f j = 0) → ∃ g, kX8_bears_24 n fuel (hv_wJ σ 15 f) S (nI k) = kX8_bears_45 n n (hv_wJ σ 15 g) S 0 ∧ ∀ j, j < 11 → g j = 0 := by
  intro d
  induction d with
  | zero =>
    intro k fuel f hk hf hg
    obtain ⟨fuel, rfl⟩ : ∃ q, fuel = q + 1 := ⟨fuel - 1, by omega⟩
    refine ⟨f, ?_, fun j hj => hg j (by omega)⟩
    show kX8_bears_24_b n _ _ _ _ = _
    unfold kX8_bears_24_b
    rw [if_pos (show (11 : Int32) ≤ nI k from nI_le (a := 11) (by omega) (by omega))]
  | succ d ih =>
    intro k fuel f hk hf hg
    obtain ⟨fuel, rfl⟩ : ∃ q, fuel = q + 1 := ⟨fuel - 1, by omega⟩
    obtain ⟨g, g1, g2⟩ := ih (k + 1) fuel (vp_updL f k 0) (by omega) (by omega) (fun j hj => by
      by_cases e : j = k
      · rw [e, pk_uLs]
      · rw [pk_uLn e]
        exact hg j (by omega))
    refine ⟨g, ?_, g2⟩
    show kX8_bears_24_b n _ _ _ _ = _
    unfold kX8_bears_24_b
    rw [if_neg (show ¬ (11 : Int32) ≤ nI k from nI_ge (b := 11) (by omega) (by decide)), hv_if_t (hv_ok_nI (show k < 11 by omega) (by decide)), hv_let_e, nI_clamp (by omega), hv_sJ_wJ, nI_1]
    exact g1
def fFirm (F : Nat → Nat → Int32) (P B S : Nat) : Prop := 1 ≤ fKind F P B S ∧ fKind F P B S ≤ 3
theorem fKind_le (F : Nat → Nat → Int32) (P B S : Nat) : fKind F P B S ≤ 4 := by
  unfold fKind kdN
  by_cases c : (fBase F P (fBl S B)).length < fN' F P
  · rw [if_pos c]; omega
  · rw [if_neg c]
    by_cases c2 : (fSp F P B S).length ≤ 2
    · rw [if_pos c2]; omega
    · rw [if_neg c2]; omega
/-- the loads taken, as integers -/
def tkM (z : Nat → Int) (σ : hv_St) : Prop := ∀ s, s < 12 → σ.1 16 s = iI (z s)
def uSum (F : Nat → Nat → Int32) (P B S : Nat) : Int := sumK (uS F P B S) (2 ^ B)
def oSum (F : Nat → Nat → Int32) (P B S : Nat) (z : Nat → Int) (c : Nat) : Int := sumK (oS F P B (fCo F P z) S c) (2 ^ B)
def frB0 (k : Nat) : Prop := k = 0 ∨ k = 11 ∨ k = 12 ∨ k = 14
def frB2 (k : Nat) : Prop := k = 0 ∨ k = 13 ∨ k = 15
theorem r8_bears {n : Nat} (hn : 2100 ≤ n) {F : Nat → Nat → Int32} {P B O D W : Nat} (hi : hI F P B O D W) {S : Nat} (hS : S < 2 ^ B) {σ : hv_St} (hm : rM F σ) {z : Nat → Int} (hz : ∀ s, s < 12 → (z s).natAbs ≤ 9) (ht : tkM z σ) : ∃ τ, rM F τ ∧ zM F P B S τ ∧ fr frB0 frB2 σ τ ∧ (∀ i, i ≠ 18 → i ≠ 20 → i ≠ 21 → τ.1 0 i = σ.1 0 i) ∧ (fFirm F P B S → mX8_bears n σ (nI S) = some (1, τ) ∧ τ.2 0 24 = iL (uSum F P B S) ∧ ∀ c, c < B → τ.2 15 c = iL (oSum F P B S z c)) ∧ (¬ fFirm F P B S → mX8_bears n σ (nI S) = some (0, τ)) := by
  have hB := hi.2.1.2
  have h2B : 2 ^ B ≤ 2048 := Nat.le_trans (Nat.pow_le_pow_right (by decide) hB) (by decide)
  obtain ⟨τ1, b1, b2, b3, b4, b5⟩ := r8_kindOf (n := n) (by omega) hi (show S < 2 ^ 31 by omega) hm
  have hk4 := fKind_le F P B S
  by_cases hf : fFirm F P B S
  · have ht1 : ∀ s, s < 12 → τ1.1 16 s = iI (z s) := fun s hs => by
      rw [b4.1 16 (by decide)]
      exact ht s hs
    obtain ⟨g, g1, g2⟩ := r8_laysColumn (n := n) (by omega) hi b3.1 ht1
    obtain ⟨f, f1, f2⟩ := r8_bears_24 (n := n) (σ := hv_sJ (hv_wI τ1 14 g) 0 24 0) (S := nI S) 11 0 n ((hv_sJ (hv_wI τ1 14 g) 0 24 0).2 15) (by omega) (by omega) (fun j hj => absurd hj (Nat.not_lt_zero _))
    rw [hv_wJ_self] at f1
    have hP := hi.1.2
    have hl := fL_le F (2 * P)
    have hrB : rB F P (fCo F P z) (hv_wJ (hv_sJ (hv_wI τ1 14 g) 0 24 0) 15 f) := by
      refine ⟨rM_fr (A := fun k => k = 14) (B := fun _ => True) b2 ⟨fun k hk => hv_wI_ne _ _ hk, fun k hk => absurd trivial hk⟩ (fun k hk => by omega), ⟨?_, fun j hj => ?_⟩, fun k hk => ⟨?_, ?_⟩⟩
      · show (hv_wI τ1 14 g).1 0 18 = _
        rw [hv_wI_ne _ _ (by decide)]
        exact b3.1.1
      · show (hv_wI τ1 14 g).1 11 j = _ ∧ (hv_wI τ1 14 g).1 12 j = _
        rw [hv_wI_ne _ _ (by decide), hv_wI_ne _ _ (by decide)]
        exact b3.1.2 j hj
      · show (hv_wI τ1 14 g).1 14 k = _
        rw [hv_wI_at]
        exact g2 k hk
      · have := (fL_lt hk).1
        have h9 := hz ((fL F (2 * P)).getD k 0) (by omega)
        show (-(z ((fL F (2 * P)).getD k 0))).natAbs ≤ _
        omega
    obtain ⟨τ, t1, t2, t3, t4, t5⟩ := r8_bears_45 (n := n) (by omega) hi (fCo_W hP hz) hS hrB (2 ^ B) 0 n _ (by omega) (by omega) rfl (fun _ _ _ _ => rfl) (by
      rw [hv_wJ_ne _ _ (by decide), hv_sJ_rd, if_pos rfl]
      rfl) (fun c hc => by
      rw [hv_wJ_at, f2 c (by omega)]
      rfl)
    have e1 : τ.1 = (hv_wI τ1 14 g).1 := t2
    refine ⟨τ, (rB_1 hrB t2).1, ⟨(rB_1 hrB t2).2.1, ?_⟩, ?_, fun i i1 i2 i3 => ?_, fun _ => ⟨?_, t4, t5⟩, fun q => absurd hf q⟩
    · unfold sM
      rw [e1, hv_wI_ne _ _ (show 0 ≠ 14 by decide)]
      exact b3.2
    · refine fr_tr (fr_mono b4 (fun k h => ?_) (fun k h => Or.inr (Or.inl h))) ⟨fun k hk => ?_, fun k hk => ?_⟩
      · rcases h with h | h | h
        · exact Or.inl h
        · exact Or.inr (Or.inl h)
        · exact Or.inr (Or.inr (Or.inl h))
      · rw [e1, hv_wI_ne _ _ (fun q => hk (Or.inr (Or.inr (Or.inr q))))]
      · have k0 : k ≠ 0 := fun q => hk (Or.inl q)
        have k13 : k ≠ 13 := fun q => hk (Or.inr (Or.inl q))
        have k15 : k ≠ 15 := fun q => hk (Or.inr (Or.inr q))
        rw [t3 k k0 k13 k15, hv_wJ_ne _ _ k15, hv_sJ_ne _ _ _ k0]
        rfl
    · rw [e1, hv_wI_ne _ _ (show 0 ≠ 14 by decide)]
      exact b5 i i1 i2 i3
    · unfold mX8_bears mX8_isFirm
      rw [b1, hv_b2_e, if_neg (nI_nle hf.1 (by omega)), if_neg (show ¬ (4 : Int32) ≤ nI (fKind F P B S) from nI_ge (b := 4) (by have := hf.2; omega) (by decide)), hv_b2_e, if_neg (by decide), g1, hv_bd_e, hv_let_e]
      exact f1.trans t1
  · refine ⟨τ1, b2, b3, fr_mono b4 (fun k h => ?_) (fun k h => Or.inr (Or.inl h)), b5, fun q => absurd q hf, fun _ => ?_⟩
    · rcases h with h | h | h
      · exact Or.inl h
      · exact Or.inr (Or.inl h)
      · exact Or.inr (Or.inr (Or.inl h))
    · unfold mX8_bears mX8_isFirm kX8_isFirm_13
      rw [b1, hv_b2_e]
      by_cases c0 : fKind F P B S = 0
      · rw [c0, if_pos (show nI 0 ≤ 0 by decide), hv_b2_e, if_pos rfl]
      · have c4 : fKind F P B S = 4 := by
          unfold fFirm at hf
          omega
        rw [c4, if_neg (show ¬ nI 4 ≤ 0 by decide), if_pos (show (4 : Int32) ≤ nI 4 by decide), hv_b2_e, if_pos rfl]
end
section
/-! the class's pulls: units, bare pulls, pairs, overs -/
theorem x5_unit2 {n : Nat} {σ : hv_St} {k : Nat} (hk : k < 2) (q : Int32) : ∀ (d j fuel : Nat) (g : Nat → Int64), j + d = 11 → d < fuel → (∀ i, i < j → g i = 0) → ∃ g', kX5_layUnit_2 n fuel (hv_wJ σ (39 + k) g) (nI k) q (nI j) = kX5_layUnit_25 n n (hv_wJ σ (39 + k) g') (nI k) q 0 ∧ ∀ i, i < 11 → g' i = 0 := by
  intro d
  induction d with
  | zero =>
    intro j fuel g hj hf hg
    obtain ⟨fuel, rfl⟩ : ∃ q, fuel = q + 1 := ⟨fuel - 1, by omega⟩
    refine ⟨g, ?_, fun i hi => hg i (by omega)⟩
    show kX5_layUnit_2_b n _ _ _ _ _ = _
    unfold kX5_layUnit_2_b
    rw [if_pos (show (11 : Int32) ≤ nI j from nI_le (a := 11) (by omega) (by omega))]
  | succ d ih =>
    intro j fuel g hj hf hg
    obtain ⟨fuel, rfl⟩ : ∃ q, fuel = q + 1 := ⟨fuel - 1, by omega⟩
    obtain ⟨g', g1, g2⟩ := ih (j + 1) fuel (vp_updL g j 0) (by omega) (by omega) (fun i hi => by
      by_cases e : i = j
      · rw [e, pk_uLs]
      · rw [pk_uLn e]
        exact hg i (by omega))
    refine ⟨g', ?_, g2⟩
    show kX5_layUnit_2_b n _ _ _ _ _ = _
    unfold kX5_layUnit_2_b
    rw [if_neg (show ¬ (11 : Int32) ≤ nI j from nI_ge (b := 11) (by omega) (by decide)), hv_if_t (hv_ok_nI (show k < 2 by omega) (by decide)), hv_if_t (hv_ok_nI (show j < 11 by omega) (by decide)), hv_let_e, nI_clamp (show k < 2 ^ 31 by omega), nI_clamp (show j < 2 ^ 31 by omega), hv_sJ_wJ, nI_1]
    exact g1
/-- the base's bars, by their rows -/
def xBs (σ : hv_St) (acc : List Nat) : Prop := σ.1 9 5 = nI acc.length ∧ acc.length ≤ 12 ∧ acc.Nodup ∧ ∀ j, j < acc.length → σ.1 12 j = nI (acc.getD j 0) ∧ acc.getD j 0 < 11
theorem getD_inj {l : List Nat} (h : l.Nodup) {i j : Nat} (hi : i < l.length) (hj : j < l.length) (e : l.getD i 0 = l.getD j 0) : i = j := by
  have q := List.pairwise_iff_getElem.mp h
  rw [List.getD_eq_getElem?_getD, List.getD_eq_getElem?_getD, List.getElem?_eq_getElem hi, List.getElem?_eq_getElem hj, Option.getD_some, Option.getD_some] at e
  rcases Nat.lt_trichotomy i j with l' | l' | l'
  · exact absurd e (q i j hi hj l')
  · exact l'
  · exact absurd e.symm (q j i hj hi l')
theorem getD_mem {l : List Nat} {j : Nat} (hj : j < l.length) : l.getD j 0 ∈ l := by
  rw [List.getD_eq_getElem?_getD, List.getElem?_eq_getElem hj, Option.getD_some]
  exact List.getElem_mem _
theorem mem_getD {l : List Nat} {x : Nat} (h : x ∈ l) : ∃ j, j < l.length ∧ l.getD j 0 = x := by
  obtain ⟨j, hj, e⟩ := List.getElem_of_mem h
  refine ⟨j, hj, ?_⟩
  rw [List.getD_eq_getElem?_getD, List.getElem?_eq_getElem hj, Option.getD_some, e]
theorem x5_unit25 {n : Nat} {σ : hv_St} {k q : Nat} (hk : k < 2) (hq : q < 11) {acc : List Nat} (hb : xBs σ acc) {M : Nat → Int} {l : Int} (hM : ∀ j, j < acc.length → σ.2 (27 + j) q = iL (M j)) (hl : σ.2 9 8 = iL l) : ∀ (d j fuel : Nat) (g : Nat → Int64), j + d = acc.length → d < fuel → (∀ i, i < j → g (acc.getD i 0) = iL (-(M i))) → ∃ g', kX5_layUnit_25 n fuel (hv_wJ σ (39 + k) g) (nI k) (nI q) (nI j) = some (hv_wJ σ (39 + k) (vp_updL g' q (iL l))) ∧ (∀ i, i < acc.length → g' (acc.getD i 0) = iL (-(M i))) ∧ ∀ b, b ∉ acc → g' b = g b := by
  obtain ⟨h1, h2, h3, h4⟩ := hb
  intro d
  induction d with
  | zero =>
    intro j fuel g hj hf hg
    obtain ⟨fuel, rfl⟩ : ∃ q, fuel = q + 1 := ⟨fuel - 1, by omega⟩
    refine ⟨g, ?_, fun i hi => hg i (by omega), fun _ _ => rfl⟩
    show kX5_layUnit_25_b n _ _ _ _ _ = _
    unfold kX5_layUnit_25_b
    rw [hv_wJ_1, h1, if_pos (nI_le (by omega) (by omega)), hv_if_t (hv_ok_nI (show k < 2 by omega) (by decide)), hv_if_t (hv_ok_nI (show q < 11 by omega) (by decide)), hv_let_e, nI_clamp (show k < 2 ^ 31 by omega), nI_clamp (show q < 2 ^ 31 by omega), hv_wJ_ne _ _ (show 9 ≠ 39 + k by omega), hl, hv_sJ_wJ]
  | succ d ih =>
    intro j fuel g hj hf hg
    obtain ⟨fuel, rfl⟩ : ∃ q, fuel = q + 1 := ⟨fuel - 1, by omega⟩
    have h4j := h4 j (by omega)
    obtain ⟨g', g1, g2, g3⟩ := ih (j + 1) fuel (vp_updL g (acc.getD j 0) (iL (-(M j)))) (by omega) (by omega) (fun i hi => by
      by_cases e : i = j
      · rw [e, pk_uLs]
      · rw [pk_uLn (fun e2 => e (getD_inj h3 (by omega) (by omega) e2))]
        exact hg i (by omega))
    refine ⟨g', ?_, g2, fun b hb => ?_⟩
    · show kX5_layUnit_25_b n _ _ _ _ _ = _
      unfold kX5_layUnit_25_b
      rw [hv_wJ_1, h1, if_neg (nI_ge (by omega) (by omega)), hv_if_t (hv_ok_nI (show k < 2 by omega) (by decide)), hv_if_t (hv_ok_nI (show j < 12 by omega) (by decide)), hv_if_t (hv_ok_nI (show j < 12 by omega) (by decide)), hv_if_t (hv_ok_nI (show q < 23 by omega) (by decide)), nI_clamp (show j < 2 ^ 31 by omega), h4j.1, hv_if_t (hv_ok_nI h4j.2 (by decide)), hv_let_e, nI_clamp (show k < 2 ^ 31 by omega), nI_clamp (show q < 2 ^ 31 by omega), nI_clamp (show acc.getD j 0 < 2 ^ 31 by omega), hv_wJ_ne _ _ (show 27 + j ≠ 39 + k by omega), hM j (by omega), iL_neg, hv_sJ_wJ, nI_1]
      exact g1
    · rw [g3 b hb, pk_uLn (fun e => hb (by rw [e]; exact getD_mem (by omega)))]
/-- a spare one's unit pulls laid -/
theorem x5_layUnit {n : Nat} (hn : 20 < n) {σ : hv_St} {k q : Nat} (hk : k < 2) (hq : q < 11) {acc : List Nat} (hb : xBs σ acc) {U : Nat → Int} (hM : ∀ j, j < acc.length → σ.2 (27 + j) q = iL (-(U (acc.getD j 0)))) (hl : σ.2 9 8 = iL (U q)) (hU : ∀ b, b < 11 → b ∉ acc → b ≠ q → U b = 0) (hqa : q ∉ acc) : ∃ g, mX5_layUnit n σ (nI k) (nI q) = some (hv_wJ σ (39 + k) g) ∧ ∀ b, b < 11 → g b = iL (U b) := by
  obtain ⟨g, g1, g2⟩ := x5_unit2 (n := n) (σ := σ) hk (nI q) 11 0 n (σ.2 (39 + k)) rfl (by omega) (fun i hi => absurd hi (Nat.not_lt_zero _))
  rw [hv_wJ_self] at g1
  obtain ⟨g', k1, k2, k3⟩ := x5_unit25 (n := n) hk hq hb hM hl acc.length 0 n g (by omega) (by have := hb.2.1; omega) (fun i hi => absurd hi (Nat.not_lt_zero _))
  refine ⟨_, g1.trans k1, fun b hb11 => ?_⟩
  by_cases e : b = q
  · rw [e, pk_uLs]
  · rw [pk_uLn e]
    by_cases hm : b ∈ acc
    · obtain ⟨j, hj, rfl⟩ := mem_getD hm
      rw [k2 j hj, Int.neg_neg]
    · rw [k3 b hm, g2 b hb11, hU b hb11 hm e]
      rfl
theorem x5_bear2 {n : Nat} {σ : hv_St} (q : Nat) : ∀ (d j fuel : Nat) (g : Nat → Int64), j + d = 11 → d < fuel → (∀ i, i < j → g i = 0) → ∃ g', kX5_bear_2 q n fuel (hv_wJ σ 14 g) (nI j) = kX5_bear_23 q n n (hv_wJ σ 14 g') 0 ∧ ∀ i, i < 11 → g' i = 0 := by
  intro d
  induction d with
  | zero =>
    intro j fuel g hj hf hg
    obtain ⟨fuel, rfl⟩ : ∃ q, fuel = q + 1 := ⟨fuel - 1, by omega⟩
    refine ⟨g, ?_, fun i hi => hg i (by omega)⟩
    show kX5_bear_2_b q n _ _ _ = _
    unfold kX5_bear_2_b
    rw [if_pos (show (11 : Int32) ≤ nI j from nI_le (a := 11) (by omega) (by omega))]
  | succ d ih =>
    intro j fuel g hj hf hg
    obtain ⟨fuel, rfl⟩ : ∃ q, fuel = q + 1 := ⟨fuel - 1, by omega⟩
    obtain ⟨g', g1, g2⟩ := ih (j + 1) fuel (vp_updL g j 0) (by omega) (by omega) (fun i hi => by
      by_cases e : i = j
      · rw [e, pk_uLs]
      · rw [pk_uLn e]
        exact hg i (by omega))
    refine ⟨g', ?_, g2⟩
    show kX5_bear_2_b q n _ _ _ = _
    unfold kX5_bear_2_b
    rw [if_neg (show ¬ (11 : Int32) ≤ nI j from nI_ge (b := 11) (by omega) (by decide)), hv_if_t (hv_ok_nI (show j < 11 by omega) (by decide)), hv_let_e, nI_clamp (show j < 2 ^ 31 by omega), hv_sJ_wJ, nI_1]
    exact g1
theorem x5_bear39 {n : Nat} {σ : hv_St} {q : Nat} {r23 : hv_St → Int32 → Option hv_St} {N B : Nat} (hN : σ.1 9 4 = nI N) (hBN : B ≤ 11 ∧ N ≤ 12) (hB : σ.1 1 1 = nI B) {acc : List Nat} (hb : xBs σ acc) {sl : Nat → Nat} (hs : ∀ c, c < N → σ.1 11 c = nI (sl c) ∧ sl c < 12) {z : Nat → Int} (hz : ∀ s, s < 12 → σ.1 q s = iI (z s) ∧ (z s).natAbs ≤ 9) {j : Nat} (hj : j < acc.length) {M : Nat → Int} (hM : ∀ c, c < N → σ.2 (27 + j) (B + c) = iL (M c)) {g : Nat → Int64} : ∀ (d c fuel : Nat), c + d = N → d < fuel → kX5_bear_39 q n r23 fuel (hv_wJ σ 14 g) (nI j) (iL (sumK (fun c => M c * z (sl c)) c)) (nI c) = r23 (hv_wJ σ 14 (vp_updL g (acc.getD j 0) (iL (-(sumK (fun c => M c * z (sl c)) N))))) (nI (j + 1)) := by
  obtain ⟨h1, h2, h3, h4⟩ := hb
  have h4j := h4 j hj
  intro d
  induction d with
  | zero =>
    intro c fuel hc hf
    obtain ⟨fuel, rfl⟩ : ∃ q, fuel = q + 1 := ⟨fuel - 1, by omega⟩
    obtain rfl : c = N := by omega
    show kX5_bear_39_b q n r23 _ _ _ _ _ = _
    unfold kX5_bear_39_b
    rw [hv_wJ_1, hN, if_pos (nI_le (Nat.le_refl _) (by omega)), hv_if_t (hv_ok_nI (show j < 12 by omega) (by decide)), nI_clamp (show j < 2 ^ 31 by omega), h4j.1, hv_if_t (hv_ok_nI h4j.2 (by decide)), hv_let_e, nI_clamp (by omega), iL_neg, hv_sJ_wJ, nI_1]
  | succ d ih =>
    intro c fuel hc hf
    obtain ⟨fuel, rfl⟩ : ∃ q, fuel = q + 1 := ⟨fuel - 1, by omega⟩
    have hsc := hs c (by omega)
    have hzc := hz (sl c) hsc.2
    rw [← ih (c + 1) fuel (by omega) (by omega)]
    show kX5_bear_39_b q n r23 _ _ _ _ _ = _
    unfold kX5_bear_39_b
    rw [hv_wJ_1, hN, if_neg (nI_ge (by omega) (by omega)), hv_if_t (hv_ok_nI (show j < 12 by omega) (by decide)), hB, nI_add, hv_if_t (hv_ok_nI (show B + c < 23 by omega) (by decide)), hv_if_t (hv_ok_nI (show c < 12 by omega) (by decide)), nI_clamp (show c < 2 ^ 31 by omega), hsc.1, hv_if_t (hv_ok_nI hsc.2 (by decide)), hv_let_e, nI_clamp (show j < 2 ^ 31 by omega), nI_clamp (show B + c < 2 ^ 31 by omega), nI_clamp (show sl c < 2 ^ 31 by omega), hv_wJ_ne _ _ (show 27 + j ≠ 14 by omega), hM c (by omega), hzc.1, iI_L ⟨by omega, by omega⟩, iL_mul, iL_add, nI_1]
    rfl
theorem x5_bear23 {n : Nat} (hn : 20 < n) {σ : hv_St} {q : Nat} {N B : Nat} (hN : σ.1 9 4 = nI N) (hBN : B ≤ 11 ∧ N ≤ 12) (hB : σ.1 1 1 = nI B) {acc : List Nat} (hb : xBs σ acc) {sl : Nat → Nat} (hs : ∀ c, c < N → σ.1 11 c = nI (sl c) ∧ sl c < 12) {z : Nat → Int} (hz : ∀ s, s < 12 → σ.1 q s = iI (z s) ∧ (z s).natAbs ≤ 9) {M : Nat → Nat → Int} (hM : ∀ j c, j < acc.length → c < N → σ.2 (27 + j) (B + c) = iL (M j c)) : ∀ (d j fuel : Nat) (g : Nat → Int64), j + d = acc.length → d < fuel → (∀ i, i < j → g (acc.getD i 0) = iL (-(sumK (fun c => M i c * z (sl c)) N))) → ∃ g', kX5_bear_23 q n fuel (hv_wJ σ 14 g) (nI j) = some (hv_wJ σ 14 g') ∧ (∀ i, i < acc.length → g' (acc.getD i 0) = iL (-(sumK (fun c => M i c * z (sl c)) N))) ∧ ∀ b, b ∉ acc → g' b = g b := by
  intro d
  induction d with
  | zero =>
    intro j fuel g hj hf hg
    obtain ⟨fuel, rfl⟩ : ∃ q, fuel = q + 1 := ⟨fuel - 1, by omega⟩
    refine ⟨g, ?_, fun i hi => hg i (by omega), fun _ _ => rfl⟩
    show kX5_bear_23_b q n _ _ _ = _
    unfold kX5_bear_23_b
    rw [hv_wJ_1, hb.1, if_pos (nI_le (by omega) (by have := hb.2.1; omega))]
  | succ d ih =>
    intro j fuel g hj hf hg
    obtain ⟨fuel, rfl⟩ : ∃ q, fuel = q + 1 := ⟨fuel - 1, by omega⟩
    have h12 := hb.2.1
    obtain ⟨g', g1, g2, g3⟩ := ih (j + 1) fuel (vp_updL g (acc.getD j 0) (iL (-(sumK (fun c => M j c * z (sl c)) N)))) (by omega) (by omega) (fun i hi => by
      by_cases e : i = j
      · rw [e, pk_uLs]
      · rw [pk_uLn (fun e2 => e (getD_inj hb.2.2.1 (by omega) (by omega) e2))]
        exact hg i (by omega))
    refine ⟨g', ?_, g2, fun b hb' => ?_⟩
    · show kX5_bear_23_b q n _ _ _ = _
      unfold kX5_bear_23_b
      rw [hv_wJ_1, hb.1, if_neg (nI_ge (by omega) (by omega))]
      rw [← g1]
      exact x5_bear39 (n := n) (r23 := kX5_bear_23 q n fuel) hN hBN hB hb hs hz (show j < acc.length by omega) (M := M j) (fun c hc => hM j c (by omega) hc) (g := g) N 0 n (by omega) (by omega)
    · rw [g3 b hb', pk_uLn (fun e => hb' (by rw [e]; exact getD_mem (by omega)))]
/-- the bare pulls laid -/
theorem x5_bear {n : Nat} (hn : 20 < n) {σ : hv_St} {q : Nat} {N B : Nat} (hN : σ.1 9 4 = nI N) (hBN : B ≤ 11 ∧ N ≤ 12) (hB : σ.1 1 1 = nI B) {acc : List Nat} (hb : xBs σ acc) {sl : Nat → Nat} (hs : ∀ c, c < N → σ.1 11 c = nI (sl c) ∧ sl c < 12) {z : Nat → Int} (hz : ∀ s, s < 12 → σ.1 q s = iI (z s) ∧ (z s).natAbs ≤ 9) {M : Nat → Nat → Int} (hM : ∀ j c, j < acc.length → c < N → σ.2 (27 + j) (B + c) = iL (M j c)) {V : Nat → Int} (hV : ∀ j, j < acc.length → V (acc.getD j 0) = -(sumK (fun c => M j c * z (sl c)) N)) (hV0 : ∀ b, b < 11 → b ∉ acc → V b = 0) : ∃ g, mX5_bear n σ q = some (hv_wJ σ 14 g) ∧ ∀ b, b < 11 → g b = iL (V b) := by
  obtain ⟨g, g1, g2⟩ := x5_bear2 (n := n) (σ := σ) q 11 0 n (σ.2 14) rfl (by omega) (fun i hi => absurd hi (Nat.not_lt_zero _))
  rw [hv_wJ_self] at g1
  obtain ⟨g', k1, k2, k3⟩ := x5_bear23 (n := n) hn hN hBN hB hb hs hz hM acc.length 0 n g (by omega) (by have := hb.2.1; omega) (fun i hi => absurd hi (Nat.not_lt_zero _))
  refine ⟨g', g1.trans k1, fun b hb11 => ?_⟩
  by_cases hm : b ∈ acc
  · obtain ⟨j, hj, rfl⟩ := mem_getD hm
    rw [k2 j hj, hV j hj]
  · rw [k3 b hm, g2 b hb11, hV0 b hb11 hm]
    rfl
/-- what the pulls' cells hold: m spare ones, units U, bare pulls V -/
def xPu (B : Nat) (σ : hv_St) (m : Nat) (U : Nat → Nat → Int) (V : Nat → Int) : Prop := σ.1 13 5 = nI m ∧ (∀ k b, k < m → b < B → σ.2 (39 + k) b = iL (U k b)) ∧ ∀ b, b < B → σ.2 14 b = iL (V b)
def gF (F : Nat → Nat → Int32) (B : Nat) (σ : hv_St) : Prop := σ.1 1 1 = nI B ∧ B ≤ 11 ∧ ∀ b, b < B → σ.1 7 b = iI (gv F b) ∧ 1 ≤ gv F b ∧ gv F b ≤ 3
theorem x5_stateOf {n : Nat} {B : Nat} (hB : B ≤ 11) {σ : hv_St} {m : Nat} (hm2 : m ≤ 2) (hm : σ.1 13 5 = nI m) {k b : Nat} (hb : b < B) {v : Int} : (k < m → σ.2 (39 + k) b = iL v → mX5_stateOf n σ (nI k) (nI b) = some (iL v, σ)) ∧ ∀ w : Int32, ¬ fN m w → σ.2 14 b = iL v → mX5_stateOf n σ w (nI b) = some (iL v, σ) := by
  have sp : ∀ w : Int32, (fN m w → mX5_isSpare n σ w = some (1, σ)) ∧ (¬ fN m w → mX5_isSpare n σ w = some (0, σ)) := fun w => by
    unfold mX5_isSpare kX5_isSpare_16
    rw [hm]
    by_cases h1 : w < 0
    · rw [if_pos h1]
      exact ⟨fun h => absurd h1 ((fN_iff (by omega) w).mp h).1, fun _ => rfl⟩
    · rw [if_neg h1]
      by_cases h2 : nI m ≤ w
      · rw [if_pos h2]
        exact ⟨fun h => absurd h2 ((fN_iff (by omega) w).mp h).2, fun _ => rfl⟩
      · rw [if_neg h2]
        exact ⟨fun _ => rfl, fun h => absurd ((fN_iff (by omega) w).mpr ⟨h1, h2⟩) h⟩
  refine ⟨fun hk e => ?_, fun w hw e => ?_⟩
  · unfold mX5_stateOf
    rw [(sp (nI k)).1 ⟨k, hk, rfl⟩, hv_b2_e, if_neg (by decide), hv_if_t (hv_ok_nI (show k < 2 by omega) (by decide)), hv_if_t (hv_ok_nI (show b < 11 by omega) (by decide)), nI_clamp (by omega), nI_clamp (by omega), e]
  · unfold mX5_stateOf
    rw [(sp w).2 hw, hv_b2_e, if_pos rfl, hv_if_t (hv_ok_nI (show b < 11 by omega) (by decide)), nI_clamp (by omega), e]
theorem x5_isSpare {n : Nat} {σ : hv_St} {m : Nat} (hm2 : m ≤ 2) (hm : σ.1 13 5 = nI m) (w : Int32) : (fN m w → mX5_isSpare n σ w = some (1, σ)) ∧ (¬ fN m w → mX5_isSpare n σ w = some (0, σ)) := by
  unfold mX5_isSpare kX5_isSpare_16
  rw [hm]
  by_cases h1 : w < 0
  · rw [if_pos h1]
    exact ⟨fun h => absurd h1 ((fN_iff (by omega) w).mp h).1, fun _ => rfl⟩
  · rw [if_neg h1]
    by_cases h2 : nI m ≤ w
    · rw [if_pos h2]
      exact ⟨fun h => absurd h2 ((fN_iff (by omega) w).mp h).2, fun _ => rfl⟩
    · rw [if_neg h2]
      exact ⟨fun _ => rfl, fun h => absurd ((fN_iff (by omega) w).mpr ⟨h1, h2⟩) h⟩
/-- what two states give together; x, y: a spare one's number, or none -/
theorem x5_giving {n : Nat} (hn : 20 < n) {F : Nat → Nat → Int32} {B : Nat} {σ : hv_St} (hg : gF F B σ) {x y : Int32} {X Y : Nat → Int} (hx : ∀ b, b < B → mX5_stateOf n σ x (nI b) = some (iL (X b), σ)) (hy : ∀ b, b < B → mX5_stateOf n σ y (nI b) = some (iL (Y b), σ)) : mX5_giving n σ x y = some (iL (sumK (fun b => gv F b * X b * Y b) B), σ) := by
  obtain ⟨h1, h2, h3⟩ := hg
  have loop : ∀ (d b fuel : Nat), b + d = B → d < fuel → kX5_giving_5 n fuel σ x y (iL (sumK (fun b => gv F b * X b * Y b) b)) (nI b) = some (iL (sumK (fun b => gv F b * X b * Y b) B), σ) := by
    intro d
    induction d with
    | zero =>
      intro b fuel hb hf
      obtain ⟨fuel, rfl⟩ : ∃ q, fuel = q + 1 := ⟨fuel - 1, by omega⟩
      obtain rfl : b = B := by omega
      show kX5_giving_5_b n _ _ _ _ _ _ = _
      unfold kX5_giving_5_b
      rw [h1, if_pos (nI_le (Nat.le_refl _) (by omega))]
    | succ d ih =>
      intro b fuel hb hf
      obtain ⟨fuel, rfl⟩ : ∃ q, fuel = q + 1 := ⟨fuel - 1, by omega⟩
      have h3b := h3 b (by omega)
      rw [← ih (b + 1) fuel (by omega) (by omega)]
      show kX5_giving_5_b n _ _ _ _ _ _ = _
      unfold kX5_giving_5_b
      rw [h1, if_neg (nI_ge (by omega) (by omega)), hv_if_t (hv_ok_nI (show b < 11 by omega) (by decide)), hx b (by omega), hv_b2_e, hy b (by omega), hv_b2_e, hv_let_e, nI_clamp (by omega), h3b.1, iI_L ⟨by omega, by omega⟩, iL_mul, iL_mul, iL_add, nI_1]
      rfl
  exact loop B 0 n (by omega) (by omega)
end
section
/-! the class's pulls: prepared; overs -/
theorem x7_quo {n : Nat} {σ : hv_St} {l x a : Int} (h : a = l * x) (ha : rL a) (hl : rL l) (l0 : l ≠ 0) : mX7_quotient n σ (iL a) (iL l) = some (iL x, σ) := by
  rw [x7_quotient ha hl l0, h, Int.mul_tdiv_cancel_left _ l0]
theorem fBl_pre {S : Nat} {b : Nat} : ∀ B, b ≤ B → ∀ k, k < (fBl S b).length → (fBl S B).getD k 0 = (fBl S b).getD k 0
  | 0, h, k, hk => by
    obtain rfl : b = 0 := by omega
    rfl
  | B + 1, h, k, hk => by
    by_cases e : b = B + 1
    · rw [e]
    · have q := fBl_pre B (show b ≤ B by omega) k hk
      have ml := fBl_mono S (show b ≤ B by omega)
      rw [fBl_succ]
      by_cases c : S.testBit B = true
      · rw [if_pos c, getD_app_lt (by omega)]
        exact q
      · rw [if_neg c]
        exact q
theorem sumK_congr {f g : Nat → Int} : ∀ k, (∀ i, i < k → f i = g i) → sumK f k = sumK g k
  | 0, _ => rfl
  | k + 1, h => by
    show sumK f k + f k = sumK g k + g k
    rw [sumK_congr k (fun i hi => h i (by omega)), h k (by omega)]
theorem sumK_zero {f : Nat → Int} : ∀ k, (∀ i, i < k → f i = 0) → sumK f k = 0
  | 0, _ => rfl
  | k + 1, h => by
    show sumK f k + f k = 0
    rw [sumK_zero k (fun i hi => h i (by omega)), h k (by omega)]
    rfl
theorem x5_prep_loop {n : Nat} (hn : 20 < n) {B Es : Nat} (hB : B ≤ 11) (hEs : Es < 2 ^ B) {σ₀ : hv_St} (hbX : σ₀.1 1 1 = nI B) (hs : σ₀.1 9 7 = nI Es) {acc : List Nat} (hb : xBs σ₀ acc) (hEa : ∀ b, Es.testBit b = true → b ∉ acc) (hm : (fBl Es B).length ≤ 2) {U : Nat → Nat → Int} (hM : ∀ k j, k < (fBl Es B).length → j < acc.length → σ₀.2 (27 + j) ((fBl Es B).getD k 0) = iL (-(U k (acc.getD j 0)))) (hl : ∀ k, k < (fBl Es B).length → σ₀.2 9 8 = iL (U k ((fBl Es B).getD k 0))) (hU : ∀ k b, k < (fBl Es B).length → b < 11 → b ∉ acc → b ≠ (fBl Es B).getD k 0 → U k b = 0) : ∀ (d b fuel : Nat) (σ : hv_St), b + d = B → d < fuel → (∀ k, k ≠ 13 → σ.1 k = σ₀.1 k) → (∀ k, k ≠ 39 → k ≠ 40 → σ.2 k = σ₀.2 k) → σ.1 13 5 = nI (fBl Es b).length → (∀ k c, k < (fBl Es b).length → c < 11 → σ.2 (39 + k) c = iL (U k c)) → ∃ τ, kX5_prepare_7 n fuel σ (nI b) = (if τ.1 13 5 = 0 then (hv_let (hv_sJ τ 13 6 (τ.2 9 8)) fun s80 => some s80) else (if τ.1 13 5 = (1 : Int32) then (hv_b2 (mX5_giving n τ ((0 : Int32)) ((0 : Int32))) fun r98 s98 => hv_let (hv_sJ s98 13 6 (r98)) fun s101 => some s101) else (hv_bd (mX5_layPairs n τ ) fun s108 => some s108))) ∧ (∀ k, k ≠ 13 → τ.1 k = σ₀.1 k) ∧ (∀ k, k ≠ 39 → k ≠ 40 → τ.2 k = σ₀.2 k) ∧ τ.1 13 5 = nI (fBl Es B).length ∧ ∀ k c, k < (fBl Es B).length → c < 11 → τ.2 (39 + k) c = iL (U k c) := by
  intro d
  induction d with
  | zero =>
    intro b fuel σ hb' hf h1 h2 h3 h4
    obtain ⟨fuel, rfl⟩ : ∃ q, fuel = q + 1 := ⟨fuel - 1, by omega⟩
    obtain rfl : b = B := by omega
    refine ⟨σ, ?_, h1, h2, h3, h4⟩
    show kX5_prepare_7_b n _ _ _ = _
    unfold kX5_prepare_7_b
    rw [h1 1 (by decide), hbX, if_pos (nI_le (Nat.le_refl _) (by omega))]
  | succ d ih =>
    intro b fuel σ hb' hf h1 h2 h3 h4
    obtain ⟨fuel, rfl⟩ : ∃ q, fuel = q + 1 := ⟨fuel - 1, by omega⟩
    have fb := fB_iff (s := Es) (k := b) (by have := p2048 hB hEs; omega) (by omega)
    have es := fBl_succ Es b
    have ml := fBl_mono Es (show b + 1 ≤ B by omega)
    have h97 : σ.1 9 7 = nI Es := by rw [h1 9 (by decide)]; exact hs
    have hb1 : σ.1 1 1 = nI B := by rw [h1 1 (by decide)]; exact hbX
    by_cases ht : Es.testBit b = true
    · rw [if_pos ht] at es
      have hlen : (fBl Es (b + 1)).length = (fBl Es b).length + 1 := by rw [es, List.length_append]; rfl
      have hq : (fBl Es B).getD (fBl Es b).length 0 = b := by
        rw [fBl_pre B (show b + 1 ≤ B by omega) _ (by omega), es, getD_app_at]
      have hbσ : xBs σ acc := ⟨by rw [h1 9 (by decide)]; exact hb.1, hb.2.1, hb.2.2.1, fun j hj => by rw [h1 12 (by decide)]; exact hb.2.2.2 j hj⟩
      obtain ⟨g, g1, g2⟩ := x5_layUnit (n := n) hn (σ := σ) (k := (fBl Es b).length) (q := b) (by omega) (by omega) hbσ (U := U (fBl Es b).length) (fun j hj => by
        have := hM (fBl Es b).length j (by omega) hj
        rw [hq] at this
        have hj12 := hb.2.1
        rw [h2 (27 + j) (by omega) (by omega)]
        exact this) (by
        have := hl (fBl Es b).length (by omega)
        rw [hq] at this
        rw [h2 9 (by decide) (by decide)]
        exact this) (fun c hc hca hcb => hU _ c (by omega) hc hca (by rw [hq]; exact hcb)) (hEa b ht)
      have k2 : (fBl Es b).length < 2 := by omega
      obtain ⟨τ, t1, t2⟩ := ih (b + 1) fuel (hv_sI (hv_wJ σ (39 + (fBl Es b).length) g) 13 5 (nI ((fBl Es b).length + 1))) (by omega) (by omega) (fun k hk => by rw [hv_sI_ne _ _ _ hk]; exact h1 k hk) (fun k hk1 hk2 => by
        show (hv_wJ σ (39 + (fBl Es b).length) g).2 k = _
        rw [hv_wJ_ne _ _ (by omega)]
        exact h2 k hk1 hk2) (by rw [hv_sI_rd, if_pos rfl, hlen]) (fun k c hk hc => by
        show (hv_wJ σ (39 + (fBl Es b).length) g).2 (39 + k) c = _
        rw [hlen] at hk
        by_cases ek : k = (fBl Es b).length
        · rw [ek, hv_wJ_at, g2 c hc]
        · rw [hv_wJ_ne _ _ (by omega)]
          exact h4 k c (by omega) hc)
      refine ⟨τ, ?_, t2⟩
      rw [← t1]
      show kX5_prepare_7_b n _ _ _ = _
      unfold kX5_prepare_7_b kX5_prepare_59
      rw [hb1, if_neg (nI_ge (by omega) (by omega)), h97, (x7_has _ _).1 (fb.mpr ht), hv_b2_e, if_neg (by decide), h3, if_neg (show ¬ (2 : Int32) ≤ nI (fBl Es b).length from nI_ge (b := 2) k2 (by decide)), g1, hv_bd_e, hv_let_e, nI_1, hv_wJ_1, h3, nI_1]
    · rw [if_neg ht] at es
      obtain ⟨τ, t1, t2⟩ := ih (b + 1) fuel σ (by omega) (by omega) h1 h2 (by rw [es]; exact h3) (by rw [es]; exact h4)
      refine ⟨τ, ?_, t2⟩
      rw [← t1]
      show kX5_prepare_7_b n _ _ _ = _
      unfold kX5_prepare_7_b kX5_prepare_59
      rw [hb1, if_neg (nI_ge (by omega) (by omega)), h97, (x7_has _ _).2 (fun q => ht (fb.mp q)), hv_b2_e, if_pos rfl, nI_1]
/-- pairs -/
theorem x5_pairs_in {n : Nat} {F : Nat → Nat → Int32} {B : Nat} {σ₀ : hv_St} (hg : gF F B σ₀) {U0 U1 : Nat → Int} (h0 : ∀ b, b < B → σ₀.2 39 b = iL (U0 b)) (h1 : ∀ b, b < B → σ₀.2 40 b = iL (U1 b)) {l : Int} (hl : σ₀.2 9 8 = iL l) (l0 : l ≠ 0) (lr : rL l) {pr : Nat → Nat → Int} (hpr : ∀ a b, a < B → b < B → U0 a * U1 b - U0 b * U1 a = l * pr a b ∧ rL (U0 a * U1 b - U0 b * U1 a)) {r7 : hv_St → Int32 → Option hv_St} {a : Nat} (ha : a < B) {w : Int} : ∀ (d b fuel : Nat) (σ : hv_St), b + d = B → d < fuel → σ.1 = σ₀.1 → (∀ k, k < 41 → k ≠ 13 → σ.2 k = σ₀.2 k) → σ.2 13 6 = iL (w + sumK (fun b => if a < b then gv F a * gv F b * pr a b * pr a b else 0) b) → (∀ c, c < b → σ.2 (41 + a) c = iL (pr a c)) → ∃ τ, kX5_layPairs_20 n r7 fuel σ (nI a) (nI b) = r7 τ (nI (a + 1)) ∧ τ.1 = σ₀.1 ∧ (∀ k, k < 41 → k ≠ 13 → τ.2 k = σ₀.2 k) ∧ τ.2 13 6 = iL (w + sumK (fun b => if a < b then gv F a * gv F b * pr a b * pr a b else 0) B) ∧ (∀ c, c < B → τ.2 (41 + a) c = iL (pr a c)) ∧ ∀ k, 41 ≤ k → k ≠ 41 + a → τ.2 k = σ.2 k := by
  obtain ⟨g1, g2, g3⟩ := hg
  intro d
  induction d with
  | zero =>
    intro b fuel σ hb hf k1 k2 k3 k4
    obtain ⟨fuel, rfl⟩ : ∃ q, fuel = q + 1 := ⟨fuel - 1, by omega⟩
    obtain rfl : b = B := by omega
    refine ⟨σ, ?_, k1, k2, k3, k4, fun _ _ _ => rfl⟩
    show kX5_layPairs_20_b n r7 _ _ _ _ = _
    unfold kX5_layPairs_20_b
    rw [k1, g1, if_pos (nI_le (Nat.le_refl _) (by omega)), nI_1]
  | succ d ih =>
    intro b fuel σ hb hf k1 k2 k3 k4
    obtain ⟨fuel, rfl⟩ : ∃ q, fuel = q + 1 := ⟨fuel - 1, by omega⟩
    have oa : hv_ok (nI a) 11 = true := hv_ok_nI (by omega) (by decide)
    have ob : hv_ok (nI b) 11 = true := hv_ok_nI (by omega) (by decide)
    have ca : (nI a).toNatClampNeg = a := nI_clamp (by omega)
    have cb : (nI b).toNatClampNeg = b := nI_clamp (by omega)
    have q := hpr a b ha (by omega)
    have e39 : σ.2 39 = σ₀.2 39 := k2 39 (by decide) (by decide)
    have e40 : σ.2 40 = σ₀.2 40 := k2 40 (by decide) (by decide)
    have e9 : σ.2 9 8 = iL l := by rw [k2 9 (by decide) (by decide)]; exact hl
    have es : sumK (fun b => if a < b then gv F a * gv F b * pr a b * pr a b else 0) (b + 1) = sumK (fun b => if a < b then gv F a * gv F b * pr a b * pr a b else 0) b + (if a < b then gv F a * gv F b * pr a b * pr a b else 0) := rfl
    have head : kX5_layPairs_20 n r7 (fuel + 1) σ (nI a) (nI b) = if nI b ≤ nI a then kX5_layPairs_20 n r7 fuel (hv_sJ σ (41 + a) b (iL (pr a b))) (nI a) (nI (b + 1)) else kX5_layPairs_20 n r7 fuel (hv_sJ (hv_sJ σ (41 + a) b (iL (pr a b))) 13 6 (σ.2 13 6 + iL (gv F a * gv F b * pr a b * pr a b))) (nI a) (nI (b + 1)) := by
      show kX5_layPairs_20_b n r7 _ _ _ _ = _
      unfold kX5_layPairs_20_b kX5_layPairs_138
      have ga := g3 a ha
      have gb := g3 b (by omega)
      have b9 : gv F a * gv F b ≤ 9 := by
        have : (gv F a * gv F b).natAbs ≤ 9 := by
          rw [Int.natAbs_mul]
          exact Nat.mul_le_mul (show (gv F a).natAbs ≤ 3 by omega) (show (gv F b).natAbs ≤ 3 by omega)
        omega
      have b0 : 0 ≤ gv F a * gv F b := Int.mul_nonneg (by omega) (by omega)
      rw [k1, g1, if_neg (nI_ge (by omega) (by omega))]
      simp only [hv_if_t (show hv_ok (0 : Int32) 2 = true by decide), hv_if_t (show hv_ok (1 : Int32) 2 = true by decide), hv_if_t oa, hv_if_t ob, ca, cb, hv_let_e, show (0 : Int32).toNatClampNeg = 0 from rfl, show (1 : Int32).toNatClampNeg = 1 from rfl, Nat.add_zero, e39, e40, h0 a ha, h0 b (by omega), h1 a ha, h1 b (by omega), iL_mul, iL_sub, e9, x7_quo q.1 q.2 lr l0, hv_b2_e, nI_1]
      have r1 : (hv_sJ σ (41 + a) b (iL (pr a b))).1 = σ₀.1 := k1
      have r2 : (hv_sJ σ (41 + a) b (iL (pr a b))).2 13 6 = σ.2 13 6 := by rw [hv_sJ_ne _ _ _ (by omega)]
      have r3 : (hv_sJ σ (41 + a) b (iL (pr a b))).2 (41 + a) b = iL (pr a b) := by rw [hv_sJ_rd, if_pos rfl]
      simp only [r1, r2, r3, ga.1, gb.1, iI_mul, iI_L (show rI (gv F a * gv F b) from ⟨by omega, by omega⟩), iL_mul]
    rw [head]
    by_cases c : a < b
    · rw [if_neg (nI_ge c (by omega))]
      obtain ⟨τ, t1, t2, t3, t4, t5, t6⟩ := ih (b + 1) fuel (hv_sJ (hv_sJ σ (41 + a) b (iL (pr a b))) 13 6 (σ.2 13 6 + iL (gv F a * gv F b * pr a b * pr a b))) (by omega) (by omega) k1 (fun k h1 h2 => by
        rw [hv_sJ_ne _ _ _ h2, hv_sJ_ne _ _ _ (by omega)]
        exact k2 k h1 h2) (by rw [hv_sJ_rd, if_pos rfl, k3, iL_add, es, if_pos c, Int.add_assoc]) (fun c' hc' => by
        rw [hv_sJ_ne _ _ _ (by omega), hv_sJ_rd]
        by_cases e : c' = b
        · rw [if_pos e, e]
        · rw [if_neg e]
          exact k4 c' (by omega))
      exact ⟨τ, t1, t2, t3, t4, t5, fun k h1 h2 => by rw [t6 k h1 h2, hv_sJ_ne _ _ _ (by omega), hv_sJ_ne _ _ _ h2]⟩
    · rw [if_pos (nI_le (by omega) (by omega))]
      obtain ⟨τ, t1, t2, t3, t4, t5, t6⟩ := ih (b + 1) fuel (hv_sJ σ (41 + a) b (iL (pr a b))) (by omega) (by omega) k1 (fun k h1 h2 => by
        rw [hv_sJ_ne _ _ _ (by omega)]
        exact k2 k h1 h2) (by rw [hv_sJ_ne _ _ _ (by omega), k3, es, if_neg c, Int.add_zero]) (fun c' hc' => by
        rw [hv_sJ_rd]
        by_cases e : c' = b
        · rw [if_pos e, e]
        · rw [if_neg e]
          exact k4 c' (by omega))
      exact ⟨τ, t1, t2, t3, t4, t5, fun k h1 h2 => by rw [t6 k h1 h2, hv_sJ_ne _ _ _ h2]⟩
def w2 (F : Nat → Nat → Int32) (B : Nat) (pr : Nat → Nat → Int) : Int := sumK (fun a => sumK (fun b => if a < b then gv F a * gv F b * pr a b * pr a b else 0) B) B
theorem x5_layPairs {n : Nat} (hn : 20 < n) {F : Nat → Nat → Int32} {B : Nat} {σ₀ : hv_St} (hg : gF F B σ₀) {U0 U1 : Nat → Int} (h0 : ∀ b, b < B → σ₀.2 39 b = iL (U0 b)) (h1 : ∀ b, b < B → σ₀.2 40 b = iL (U1 b)) {l : Int} (hl : σ₀.2 9 8 = iL l) (l0 : l ≠ 0) (lr : rL l) {pr : Nat → Nat → Int} (hpr : ∀ a b, a < B → b < B → U0 a * U1 b - U0 b * U1 a = l * pr a b ∧ rL (U0 a * U1 b - U0 b * U1 a)) : ∃ τ, mX5_layPairs n σ₀ = some τ ∧ τ.1 = σ₀.1 ∧ (∀ k, k < 41 → k ≠ 13 → τ.2 k = σ₀.2 k) ∧ τ.2 13 6 = iL (w2 F B pr) ∧ ∀ a b, a < B → b < B → τ.2 (41 + a) b = iL (pr a b) := by
  have hB := hg.2.1
  have loop : ∀ (d a fuel : Nat) (σ : hv_St), a + d = B → d < fuel → σ.1 = σ₀.1 → (∀ k, k < 41 → k ≠ 13 → σ.2 k = σ₀.2 k) → σ.2 13 6 = iL (sumK (fun a => sumK (fun b => if a < b then gv F a * gv F b * pr a b * pr a b else 0) B) a) → (∀ i b, i < a → b < B → σ.2 (41 + i) b = iL (pr i b)) → ∃ τ, kX5_layPairs_7 n fuel σ (nI a) = some τ ∧ τ.1 = σ₀.1 ∧ (∀ k, k < 41 → k ≠ 13 → τ.2 k = σ₀.2 k) ∧ τ.2 13 6 = iL (w2 F B pr) ∧ ∀ i b, i < B → b < B → τ.2 (41 + i) b = iL (pr i b) := by
    intro d
    induction d with
    | zero =>
      intro a fuel σ ha hf k1 k2 k3 k4
      obtain ⟨fuel, rfl⟩ : ∃ q, fuel = q + 1 := ⟨fuel - 1, by omega⟩
      obtain rfl : a = B := by omega
      refine ⟨σ, ?_, k1, k2, k3, k4⟩
      show kX5_layPairs_7_b n _ _ _ = _
      unfold kX5_layPairs_7_b
      rw [k1, hg.1, if_pos (nI_le (Nat.le_refl _) (by omega))]
    | succ d ih =>
      intro a fuel σ ha hf k1 k2 k3 k4
      obtain ⟨fuel, rfl⟩ : ∃ q, fuel = q + 1 := ⟨fuel - 1, by omega⟩
      obtain ⟨τ1, a1, a2, a3, a4, a5, a6⟩ := x5_pairs_in (n := n) (r7 := kX5_layPairs_7 n fuel) hg h0 h1 hl l0 lr hpr (show a < B by omega) (w := sumK (fun a => sumK (fun b => if a < b then gv F a * gv F b * pr a b * pr a b else 0) B) a) B 0 n σ (by omega) (by omega) k1 k2 (by rw [k3]; show _ = iL (_ + 0); rw [Int.add_zero]) (fun c hc => absurd hc (Nat.not_lt_zero _))
      obtain ⟨τ, t1, t2⟩ := ih (a + 1) fuel τ1 (by omega) (by omega) a2 a3 a4 (fun i b hi hb => by
        by_cases e : i = a
        · rw [e]
          exact a5 b hb
        · rw [a6 (41 + i) (by omega) (by omega)]
          exact k4 i b (by omega) hb)
      refine ⟨τ, ?_, t2⟩
      show kX5_layPairs_7_b n _ _ _ = _
      unfold kX5_layPairs_7_b
      rw [k1, hg.1, if_neg (nI_ge (by omega) (by omega))]
      exact a1.trans t1
  exact loop B 0 n (hv_sJ σ₀ 13 6 0) (by omega) (by omega) rfl (fun k _ h2 => hv_sJ_ne _ _ _ h2) (by rw [hv_sJ_rd, if_pos rfl]; rfl) (fun i b hi => absurd hi (Nat.not_lt_zero _))
/-- overs -/
theorem x5_over1 {n : Nat} (hn : 20 < n) {F : Nat → Nat → Int32} {B : Nat} {σ : hv_St} (hg : gF F B σ) {U V al : Nat → Int} {c : Nat} (hc : c < B) (h0 : ∀ b, b < B → σ.2 39 b = iL (U b)) (hV : ∀ b, b < B → σ.2 14 b = iL (V b)) {l : Int} (hl : σ.2 9 8 = iL l) (l0 : l ≠ 0) (lr : rL l) (hal : ∀ a, a < B → V c * U a - V a * U c = l * al a ∧ rL (V c * U a - V a * U c)) : mX5_overWithOne n σ (nI c) = some (iL (sumK (fun a => gv F a * U a * al a) B), σ) := by
  obtain ⟨g1, g2, g3⟩ := hg
  have loop : ∀ (d a fuel : Nat), a + d = B → d < fuel → kX5_overWithOne_5 n fuel σ (nI c) (iL (sumK (fun a => gv F a * U a * al a) a)) (nI a) = some (iL (sumK (fun a => gv F a * U a * al a) B), σ) := by
    intro d
    induction d with
    | zero =>
      intro a fuel ha hf
      obtain ⟨fuel, rfl⟩ : ∃ q, fuel = q + 1 := ⟨fuel - 1, by omega⟩
      obtain rfl : a = B := by omega
      show kX5_overWithOne_5_b n _ _ _ _ _ = _
      unfold kX5_overWithOne_5_b
      rw [g1, if_pos (nI_le (Nat.le_refl _) (by omega))]
    | succ d ih =>
      intro a fuel ha hf
      obtain ⟨fuel, rfl⟩ : ∃ q, fuel = q + 1 := ⟨fuel - 1, by omega⟩
      have g3a := g3 a (by omega)
      have q := hal a (by omega)
      rw [← ih (a + 1) fuel (by omega) (by omega)]
      show kX5_overWithOne_5_b n _ _ _ _ _ = _
      unfold kX5_overWithOne_5_b
      rw [g1, if_neg (nI_ge (by omega) (by omega))]
      simp only [hv_if_t (show hv_ok (0 : Int32) 2 = true by decide), hv_if_t (hv_ok_nI (show a < 11 by omega) (by decide)), hv_if_t (hv_ok_nI (show c < 11 by omega) (by decide)), nI_clamp (show a < 2 ^ 31 by omega), nI_clamp (show c < 2 ^ 31 by omega), hv_let_e, show (0 : Int32).toNatClampNeg = 0 from rfl, Nat.add_zero, h0 a (by omega), h0 c hc, hV a (by omega), hV c hc, iL_mul, iL_sub, hl, x7_quo q.1 q.2 lr l0, hv_b2_e, g3a.1, iI_L (show rI (gv F a) from ⟨by omega, by omega⟩), iL_add, nI_1]
      rfl
  exact loop B 0 n (by omega) (by omega)
def o2 (F : Nat → Nat → Int32) (B : Nat) (pr al : Nat → Nat → Int) : Int := sumK (fun a => sumK (fun b => if a < b then gv F a * gv F b * pr a b * al a b else 0) B) B
theorem x5_over2 {n : Nat} (hn : 20 < n) {F : Nat → Nat → Int32} {B : Nat} {σ : hv_St} (hg : gF F B σ) {V : Nat → Int} {pr al : Nat → Nat → Int} {c : Nat} (hc : c < B) (h0 : ∀ a b, a < B → b < B → σ.2 (41 + a) b = iL (pr a b)) (hV : ∀ b, b < B → σ.2 14 b = iL (V b)) {l : Int} (hl : σ.2 9 8 = iL l) (l0 : l ≠ 0) (lr : rL l) (hal : ∀ a b, a < b → b < B → V c * pr a b - V a * pr c b + V b * pr c a = l * al a b ∧ rL (V c * pr a b - V a * pr c b + V b * pr c a)) : mX5_overWithTwo n σ (nI c) = some (iL (o2 F B pr al), σ) := by
  obtain ⟨g1, g2, g3⟩ := hg
  have inn : ∀ (a : Nat) (w : Int) (r5 : hv_St → Int32 → Int64 → Int32 → Option (Int64 × hv_St)), a < B → ∀ (d b fuel : Nat), b + d = B → a < b → d < fuel → kX5_overWithTwo_23 n r5 fuel σ (nI c) (iL (w + sumK (fun b => if a < b then gv F a * gv F b * pr a b * al a b else 0) b)) (nI a) (nI b) = r5 σ (nI c) (iL (w + sumK (fun b => if a < b then gv F a * gv F b * pr a b * al a b else 0) B)) (nI (a + 1)) := by
    intro a w r5 ha d
    induction d with
    | zero =>
      intro b fuel hb hab hf
      obtain ⟨fuel, rfl⟩ : ∃ q, fuel = q + 1 := ⟨fuel - 1, by omega⟩
      obtain rfl : b = B := by omega
      show kX5_overWithTwo_23_b n r5 _ _ _ _ _ _ = _
      unfold kX5_overWithTwo_23_b
      rw [g1, if_pos (nI_le (Nat.le_refl _) (by omega)), nI_1]
    | succ d ih =>
      intro b fuel hb hab hf
      obtain ⟨fuel, rfl⟩ : ∃ q, fuel = q + 1 := ⟨fuel - 1, by omega⟩
      have ga := g3 a ha
      have gb := g3 b (by omega)
      have q := hal a b hab (by omega)
      have b9 : gv F a * gv F b ≤ 9 := by
        have : (gv F a * gv F b).natAbs ≤ 9 := by
          rw [Int.natAbs_mul]
          exact Nat.mul_le_mul (show (gv F a).natAbs ≤ 3 by omega) (show (gv F b).natAbs ≤ 3 by omega)
        omega
      have b0 : 0 ≤ gv F a * gv F b := Int.mul_nonneg (by omega) (by omega)
      rw [← ih (b + 1) fuel (by omega) (by omega) (by omega)]
      show kX5_overWithTwo_23_b n r5 _ _ _ _ _ _ = _
      unfold kX5_overWithTwo_23_b
      rw [g1, if_neg (nI_ge (by omega) (by omega))]
      simp only [hv_if_t (hv_ok_nI (show a < 11 by omega) (by decide)), hv_if_t (hv_ok_nI (show b < 11 by omega) (by decide)), hv_if_t (hv_ok_nI (show c < 11 by omega) (by decide)), nI_clamp (show a < 2 ^ 31 by omega), nI_clamp (show b < 2 ^ 31 by omega), nI_clamp (show c < 2 ^ 31 by omega), hv_let_e, h0 a b ha (by omega), h0 c b hc (by omega), h0 c a hc ha, hV a ha, hV b (by omega), hV c hc, iL_mul, iL_sub, iL_add, hl, x7_quo q.1 q.2 lr l0, hv_b2_e, ga.1, gb.1, iI_mul, iI_L (show rI (gv F a * gv F b) from ⟨by omega, by omega⟩), nI_1]
      have es : sumK (fun b => if a < b then gv F a * gv F b * pr a b * al a b else 0) (b + 1) = sumK (fun b => if a < b then gv F a * gv F b * pr a b * al a b else 0) b + (if a < b then gv F a * gv F b * pr a b * al a b else 0) := rfl
      rw [es, if_pos hab, Int.add_assoc]
  have loop : ∀ (d a fuel : Nat), a + d = B → d < fuel → kX5_overWithTwo_5 n fuel σ (nI c) (iL (sumK (fun a => sumK (fun b => if a < b then gv F a * gv F b * pr a b * al a b else 0) B) a)) (nI a) = some (iL (o2 F B pr al), σ) := by
    intro d
    induction d with
    | zero =>
      intro a fuel ha hf
      obtain ⟨fuel, rfl⟩ : ∃ q, fuel = q + 1 := ⟨fuel - 1, by omega⟩
      obtain rfl : a = B := by omega
      show kX5_overWithTwo_5_b n _ _ _ _ _ = _
      unfold kX5_overWithTwo_5_b
      rw [g1, if_pos (nI_le (Nat.le_refl _) (by omega))]
      rfl
    | succ d ih =>
      intro a fuel ha hf
      obtain ⟨fuel, rfl⟩ : ∃ q, fuel = q + 1 := ⟨fuel - 1, by omega⟩
      have z : sumK (fun b => if a < b then gv F a * gv F b * pr a b * al a b else 0) (a + 1) = 0 := sumK_zero _ (fun i hi => by
        show (if a < i then _ else (0 : Int)) = 0
        rw [if_neg (by omega)])
      have i := inn a (sumK (fun a => sumK (fun b => if a < b then gv F a * gv F b * pr a b * al a b else 0) B) a) (kX5_overWithTwo_5 n fuel) (by omega) (B - (a + 1)) (a + 1) n (by omega) (by omega) (by omega)
      rw [z, Int.add_zero] at i
      rw [← ih (a + 1) fuel (by omega) (by omega)]
      show kX5_overWithTwo_5_b n _ _ _ _ _ = _
      unfold kX5_overWithTwo_5_b
      rw [g1, if_neg (nI_ge (by omega) (by omega)), hv_let_e, nI_1]
      exact i
  exact loop B 0 n (by omega) (by omega)
end
section
/-! determinants with rows and columns appended; columns reordered; sums reordered -/
theorem md_alt_last (f : md_V → Int) (v : md_V) : ∀ (c : List md_V) (Ψ : List md_V → Int), (∀ u ∈ c, f u = 0) → md_alt f (c ++ [v]) Ψ = md_sg c.length * (f v * Ψ c)
  | [], Ψ, _ => by
    show f v * Ψ [] - 0 = 1 * (f v * Ψ [])
    omega
  | x :: c, Ψ, h => by
    show f x * Ψ (c ++ [v]) - md_alt f (c ++ [v]) (fun l => Ψ (x :: l)) = - md_sg c.length * (f v * Ψ (x :: c))
    rw [md_alt_last f v c (fun l => Ψ (x :: l)) (fun u hu => h u (List.mem_cons_of_mem _ hu)), h x List.mem_cons_self, Int.zero_mul, Int.zero_sub, Int.neg_mul]
theorem md_D_last {R : List Nat} {r : Nat} {c : List md_V} (v : md_V) (hl : c.length = R.length) (h : ∀ u ∈ c, u r = 0) : md_D (R ++ [r]) (c ++ [v]) = v r * md_D R c := by
  rw [md_D_rowmove [] r R, List.append_nil]
  show md_sg R.length * md_alt (fun v => v r) (c ++ [v]) (md_D R) = _
  rw [md_alt_last _ v c _ h, hl, ← Int.mul_assoc, md_sg2, Int.one_mul]
theorem md_alt_app0 (f : md_V → Int) (v : md_V) (hv : f v = 0) : ∀ (c : List md_V) (Ψ : List md_V → Int), md_alt f (c ++ [v]) Ψ = md_alt f c (fun l => Ψ (l ++ [v]))
  | [], Ψ => by
    show f v * Ψ [] - 0 = 0
    rw [hv, Int.zero_mul]
    rfl
  | x :: c, Ψ => by
    show f x * Ψ (c ++ [v]) - md_alt f (c ++ [v]) (fun l => Ψ (x :: l)) = f x * Ψ (c ++ [v]) - md_alt f c (fun l => Ψ (x :: (l ++ [v])))
    rw [md_alt_app0 f v hv c]
theorem md_alt_nil (f : md_V → Int) (v : md_V) : ∀ c : List md_V, md_alt f (c ++ [v]) (md_D []) = f v * md_D [] c
  | [] => by
    show f v * 1 - 0 = f v * 1
    omega
  | x :: c => by
    show f x * md_D [] (c ++ [v]) - md_alt f (c ++ [v]) (fun l => md_D [] (x :: l)) = f v * md_D [] (x :: c)
    have e1 : md_D [] (c ++ [v]) = 0 := by
      cases c <;> rfl
    have e2 : (fun l : List md_V => md_D [] (x :: l)) = fun _ => 0 := rfl
    have e3 : md_D [] (x :: c) = 0 := rfl
    rw [e1, e2, e3, md_alt_zero, Int.mul_zero, Int.mul_zero]
    rfl
theorem md_D_unit (r : Nat) (v : md_V) : ∀ (R : List Nat) (c : List md_V), (∀ s ∈ R, v s = 0) → md_D (R ++ [r]) (c ++ [v]) = v r * md_D R c
  | [], c, _ => md_alt_nil (fun v => v r) v c
  | s :: R, c, h => by
    show md_alt (fun v => v s) (c ++ [v]) (md_D (R ++ [r])) = v r * md_alt (fun v => v s) c (md_D R)
    rw [md_alt_app0 _ v (h s List.mem_cons_self), ← md_alt_smul]
    congr 1
    funext l
    exact md_D_unit r v R l (fun t ht => h t (List.mem_cons_of_mem _ ht))
theorem md_D_units (N : Nat) (c : List md_V) : ∀ m, md_D (List.range (N + m)) (c ++ (List.range m).map (fun i => md_e (N + i))) = md_D (List.range N) c
  | 0 => by
    show md_D (List.range N) (c ++ []) = _
    rw [List.append_nil]
  | m + 1 => by
    rw [← Nat.add_assoc, List.range_succ, List.range_succ (n := m), List.map_append, ← List.append_assoc]
    show md_D (List.range (N + m) ++ [N + m]) ((c ++ (List.range m).map (fun i => md_e (N + i))) ++ [md_e (N + m)]) = _
    rw [md_D_unit (N + m) (md_e (N + m)) _ _ (fun s hs => by
      have := List.mem_range.mp hs
      unfold md_e
      rw [if_neg (by omega)]), md_D_units N c m]
    unfold md_e
    rw [if_pos rfl, Int.one_mul]
theorem md_D_on {R : List Nat} (f g : Nat → md_V) : ∀ (l : List Nat) (pre : List md_V), (∀ x ∈ l, ∀ r ∈ R, f x r = g x r) → md_D R (pre ++ l.map f) = md_D R (pre ++ l.map g)
  | [], _, _ => rfl
  | x :: l, pre, h => by
    show md_D R (pre ++ f x :: l.map f) = md_D R (pre ++ g x :: l.map g)
    have e := md_on_ins R pre (l.map f) (f x) (g x) (h x List.mem_cons_self)
    have q := md_D_on f g l (pre ++ [g x]) (fun y hy => h y (List.mem_cons_of_mem _ hy))
    simp only [List.append_assoc, List.cons_append, List.nil_append] at q
    exact e.trans q
theorem md_dt_rows {R : List Nat} {A B : Nat → md_V} {n : Nat} (h : ∀ k, k < n → ∀ r ∈ R, A k r = B k r) : md_dt R A n = md_dt R B n := by
  have e : ∀ A : Nat → md_V, md_cl A 0 n = (List.range n).map A := fun A => by
    have q := md_cl_map (fun c => A c) (List.range n) []
    rw [List.length_range] at q
    rw [← q]
    refine md_cl_congr n 0 (fun i _ hi => ?_)
    show A i = A ((List.range n).getD i 0)
    rw [List.getD_eq_getElem?_getD, List.getElem?_range (by omega), Option.getD_some]
  unfold md_dt
  rw [e, e]
  exact md_D_on A B (List.range n) [] (fun x hx => h x (List.mem_range.mp hx))
/-- one row and one column more, the others 0 in that row -/
theorem x_dt {n : Nat} {B : Nat → md_V} (h : ∀ k, k < n → B k n = 0) : md_dt (List.range (n + 1)) B (n + 1) = B n n * md_dt (List.range n) B n := by
  unfold md_dt
  rw [List.range_succ, md_cl_app B n 0 1]
  show md_D (List.range n ++ [n]) (md_cl B 0 n ++ [B (0 + n)]) = _
  rw [Nat.zero_add, md_D_last (B n) (by rw [md_cl_len, List.length_range]) (fun u hu => by
    obtain ⟨i, hi, rfl⟩ := md_cl_mem n 0 hu
    exact h i (by omega))]
theorem x_step {n : Nat} {A : Nat → md_V} (hA : ∀ k, k < n → A k n = 0) {Y : md_V} (hY : Y n = 0) : md_dt (List.range (n + 1)) (md_up A n (fun r => Y r + md_e n r)) (n + 1) = md_dt (List.range n) A n ∧ (∀ X : md_V, X n = 0 → (∀ k, k < n → md_T (List.range (n + 1)) (n + 1) (md_up A n (fun r => Y r + md_e n r)) X k = md_T (List.range n) n A X k) ∧ md_T (List.range (n + 1)) (n + 1) (md_up A n (fun r => Y r + md_e n r)) X n = 0) ∧ (∀ k, k < n → md_T (List.range (n + 1)) (n + 1) (md_up A n (fun r => Y r + md_e n r)) (md_e n) k = - md_T (List.range n) n A Y k) ∧ md_T (List.range (n + 1)) (n + 1) (md_up A n (fun r => Y r + md_e n r)) (md_e n) n = md_dt (List.range n) A n := by
  have e1 : md_e n n = 1 := if_pos rfl
  have low : ∀ (Z X : md_V) k, k < n → X n = 0 → md_dt (List.range (n + 1)) (md_up (md_up A n Z) k X) (n + 1) = Z n * md_T (List.range n) n A X k := fun Z X k hk hX => by
    rw [x_dt (fun j hj => by
      by_cases e : j = k
      · rw [e, md_up_at, hX]
      · rw [md_up_ne _ _ e, md_up_ne _ _ (by omega), hA j hj]), md_up_ne _ _ (by omega), md_up_at]
    congr 1
    refine md_dt_congr (fun i hi => ?_)
    by_cases e : i = k
    · rw [e, md_up_at, md_up_at]
    · rw [md_up_ne _ _ e, md_up_ne _ _ e, md_up_ne _ _ (by omega)]
  have top : ∀ Z : md_V, md_dt (List.range (n + 1)) (md_up A n Z) (n + 1) = Z n * md_dt (List.range n) A n := fun Z => by
    rw [x_dt (fun j hj => by rw [md_up_ne _ _ (by omega), hA j hj]), md_up_at]
    congr 1
    exact md_dt_congr (fun i hi => md_up_ne _ _ (by omega))
  refine ⟨?_, fun X hX => ⟨fun k hk => ?_, ?_⟩, fun k hk => ?_, ?_⟩
  · rw [top, hY, e1]
    omega
  · show md_dt _ (md_up (md_up A n _) k X) _ = _
    rw [low _ X k hk hX, hY, e1]
    omega
  · show md_dt _ (md_up (md_up A n _) n X) _ = _
    rw [md_up_up, top, hX, Int.zero_mul]
  · show md_dt _ (md_up (md_up A n _) k (md_e n)) _ = _
    rw [md_up_comm _ _ _ (show n ≠ k by omega)]
    have lin := md_dt_lin (List.range (n + 1)) (md_up A k (md_e n)) (i := n) (n := n + 1) (by omega) 1 1 Y (md_e n)
    have ev : (fun r => 1 * Y r + 1 * md_e n r) = fun r => Y r + md_e n r := funext fun r => by rw [Int.one_mul, Int.one_mul]
    rw [ev] at lin
    dsimp only at lin
    rw [lin, md_dt_eq (List.range (n + 1)) (md_up (md_up A k (md_e n)) n (md_e n)) (i := k) (j := n) (by omega) (by omega) (by omega) (by rw [md_up_ne _ _ (by omega), md_up_at, md_up_at]), md_dt_swap (List.range (n + 1)) A (p := k) (q := n) (by omega) (by omega) (by omega) (md_e n) Y, md_up_comm _ _ _ (show k ≠ n by omega), low (md_e n) Y k hk hY, e1]
    omega
  · show md_dt _ (md_up (md_up A n _) n (md_e n)) _ = _
    rw [md_up_up, top, e1, Int.one_mul]
def xe (N : Nat) (v : md_V) : md_V := fun r => if r < N then v r else 0
def xA (N : Nat) (A : Nat → md_V) (sp : Nat → md_V) : Nat → Nat → md_V
  | 0 => fun k => xe N (A k)
  | m + 1 => md_up (xA N A sp m) (N + m) (fun r => xe N (sp m) r + md_e (N + m) r)
theorem xA_lo {N : Nat} {A sp : Nat → md_V} {k : Nat} (hk : k < N) : ∀ m, xA N A sp m k = xe N (A k)
  | 0 => rfl
  | m + 1 => by
    show md_up (xA N A sp m) (N + m) _ k = _
    rw [md_up_ne _ _ (by omega), xA_lo hk m]
theorem xA_hi {N : Nat} {A sp : Nat → md_V} {i : Nat} : ∀ m, i < m → xA N A sp m (N + i) = fun r => xe N (sp i) r + md_e (N + i) r
  | 0, h => absurd h (Nat.not_lt_zero _)
  | m + 1, h => by
    show md_up (xA N A sp m) (N + m) _ (N + i) = _
    by_cases e : i = m
    · rw [e, md_up_at]
    · rw [md_up_ne _ _ (by omega), xA_hi m (by omega)]
theorem xe_hi {N r : Nat} (v : md_V) (h : N ≤ r) : xe N v r = 0 := if_neg (by omega)
theorem x_all {N : Nat} {A sp : Nat → md_V} : ∀ m, md_dt (List.range (N + m)) (xA N A sp m) (N + m) = md_dt (List.range N) A N ∧ (∀ X k, k < N → md_T (List.range (N + m)) (N + m) (xA N A sp m) (xe N X) k = md_T (List.range N) N A X k) ∧ (∀ X i, i < m → md_T (List.range (N + m)) (N + m) (xA N A sp m) (xe N X) (N + i) = 0) ∧ (∀ i k, i < m → k < N → md_T (List.range (N + m)) (N + m) (xA N A sp m) (md_e (N + i)) k = - md_T (List.range N) N A (sp i) k) ∧ ∀ i j, i < m → j < m → md_T (List.range (N + m)) (N + m) (xA N A sp m) (md_e (N + i)) (N + j) = if i = j then md_dt (List.range N) A N else 0
  | 0 => by
    have rw0 : ∀ k, k < N → ∀ r ∈ List.range N, xe N (A k) r = A k r := fun k _ r hr => if_pos (List.mem_range.mp hr)
    refine ⟨md_dt_rows rw0, fun X k hk => ?_, fun X i hi => absurd hi (Nat.not_lt_zero _), fun i k hi => absurd hi (Nat.not_lt_zero _), fun i j hi => absurd hi (Nat.not_lt_zero _)⟩
    refine md_dt_rows (fun j hj r hr => ?_)
    by_cases e : j = k
    · rw [e, md_up_at, md_up_at]
      exact if_pos (List.mem_range.mp hr)
    · rw [md_up_ne _ _ e, md_up_ne _ _ e]
      exact rw0 j hj r hr
  | m + 1 => by
    obtain ⟨h1, h2, h3, h4, h5⟩ := x_all (N := N) (A := A) (sp := sp) m
    have hA : ∀ k, k < N + m → xA N A sp m k (N + m) = 0 := fun k hk => by
      by_cases l : k < N
      · rw [xA_lo l]
        exact xe_hi _ (by omega)
      · obtain ⟨i, rfl⟩ : ∃ i, k = N + i := ⟨k - N, by omega⟩
        rw [xA_hi m (by omega)]
        show xe N (sp i) (N + m) + md_e (N + i) (N + m) = 0
        rw [xe_hi _ (by omega)]
        unfold md_e
        rw [if_neg (by omega)]
        rfl
    obtain ⟨s1, s2, s3, s4⟩ := x_step (n := N + m) hA (Y := xe N (sp m)) (xe_hi _ (by omega))
    have ee : ∀ i, i < m → md_e (N + i) (N + m) = 0 := fun i hi => if_neg (by omega)
    refine ⟨s1.trans h1, fun X k hk => ?_, fun X i hi => ?_, fun i k hi hk => ?_, fun i j hi hj => ?_⟩
    · exact ((s2 (xe N X) (xe_hi _ (by omega))).1 k (by omega)).trans (h2 X k hk)
    · by_cases e : i = m
      · rw [e]
        exact (s2 (xe N X) (xe_hi _ (by omega))).2
      · exact ((s2 (xe N X) (xe_hi _ (by omega))).1 (N + i) (by omega)).trans (h3 X i (by omega))
    · by_cases e : i = m
      · rw [e]
        refine (s3 k (by omega)).trans ?_
        rw [h2 (sp m) k hk]
      · exact ((s2 _ (ee i (by omega))).1 k (by omega)).trans (h4 i k (by omega) hk)
    · by_cases e : i = m
      · by_cases e2 : j = m
        · rw [e, e2, if_pos rfl]
          exact s4.trans h1
        · rw [if_neg (by omega), e]
          refine (s3 (N + j) (by omega)).trans ?_
          rw [h3 (sp m) j (by omega)]
          rfl
      · by_cases e2 : j = m
        · rw [if_neg (by omega), e2]
          exact (s2 _ (ee i (by omega))).2
        · exact ((s2 _ (ee i (by omega))).1 (N + j) (by omega)).trans (h5 i j (by omega) (by omega))
/-- columns in another order: one sign for all -/
theorem md_D_perm {l1 l2 : List Nat} (h : l1.Perm l2) : ∃ e : Int, (e = 1 ∨ e = -1) ∧ ∀ (R : List Nat) (G : Nat → md_V) (pre : List md_V), md_D R (pre ++ l1.map G) = e * md_D R (pre ++ l2.map G) := by
  induction h with
  | nil => exact ⟨1, Or.inl rfl, fun R G pre => (Int.one_mul _).symm⟩
  | cons x _ ih =>
    obtain ⟨e, he, h⟩ := ih
    refine ⟨e, he, fun R G pre => ?_⟩
    have q := h R G (pre ++ [G x])
    simp only [List.append_assoc, List.cons_append, List.nil_append] at q
    exact q
  | swap x y l =>
    refine ⟨-1, Or.inr rfl, fun R G pre => ?_⟩
    show md_D R (pre ++ G y :: G x :: l.map G) = -1 * md_D R (pre ++ G x :: G y :: l.map G)
    rw [md_D_swap]
    omega
  | trans _ _ ih1 ih2 =>
    obtain ⟨e, he, h⟩ := ih1
    obtain ⟨e', he', h'⟩ := ih2
    refine ⟨e * e', ?_, fun R G pre => ?_⟩
    · rcases he with rfl | rfl <;> rcases he' with rfl | rfl
      · exact Or.inl rfl
      · exact Or.inr rfl
      · exact Or.inr rfl
      · exact Or.inl rfl
    · rw [h, h', Int.mul_assoc]
/-! sums over lists -/
def sumL (f : Nat → Int) : List Nat → Int
  | [] => 0
  | x :: l => f x + sumL f l
theorem sumL_app (f : Nat → Int) : ∀ l m : List Nat, sumL f (l ++ m) = sumL f l + sumL f m
  | [], m => (Int.zero_add _).symm
  | x :: l, m => by
    show f x + sumL f (l ++ m) = f x + sumL f l + sumL f m
    rw [sumL_app f l m, Int.add_assoc]
theorem sumK_L (f : Nat → Int) : ∀ k, sumK f k = sumL f (List.range k)
  | 0 => rfl
  | k + 1 => by
    show sumK f k + f k = _
    rw [List.range_succ, sumL_app, sumK_L f k]
    show _ = _ + (f k + 0)
    omega
theorem sumL_perm {f : Nat → Int} {l m : List Nat} (h : l.Perm m) : sumL f l = sumL f m := by
  induction h with
  | nil => rfl
  | cons x _ ih =>
    show f x + _ = f x + _
    rw [ih]
  | swap x y l =>
    show f y + (f x + sumL f l) = f x + (f y + sumL f l)
    omega
  | trans _ _ h1 h2 => exact h1.trans h2
theorem sumL_filter (f : Nat → Int) (p : Nat → Bool) : ∀ l : List Nat, sumL (fun x => if p x = true then f x else 0) l = sumL f (l.filter p)
  | [] => rfl
  | x :: l => by
    show (if p x = true then f x else 0) + sumL _ l = _
    rw [sumL_filter f p l]
    by_cases h : p x = true
    · rw [if_pos h, List.filter_cons_of_pos h]
      rfl
    · rw [if_neg h, List.filter_cons_of_neg h, Int.zero_add]
theorem sumL_map (f : Nat → Int) (h : Nat → Nat) : ∀ l : List Nat, sumL f (l.map h) = sumL (fun x => f (h x)) l
  | [] => rfl
  | x :: l => by
    show f (h x) + sumL f (l.map h) = f (h x) + _
    rw [sumL_map f h l]
theorem sumL_flat (f : Nat → Int) (h : Nat → List Nat) : ∀ l : List Nat, sumL f (l.flatMap h) = sumL (fun x => sumL f (h x)) l
  | [] => rfl
  | x :: l => by
    rw [List.flatMap_cons, sumL_app, sumL_flat f h l]
    rfl
theorem sumL_congr {f g : Nat → Int} : ∀ l : List Nat, (∀ x ∈ l, f x = g x) → sumL f l = sumL g l
  | [], _ => rfl
  | x :: l, h => by
    show f x + _ = g x + _
    rw [h x List.mem_cons_self, sumL_congr l (fun y hy => h y (List.mem_cons_of_mem _ hy))]
end
section
/-! the sets that are summed: some less one or two bars -/
theorem pcK_sub {S T : Nat} (h : andn T S = 0) : ∀ k, pcK S k = pcK T k + pcK (andn S T) k
  | 0 => rfl
  | k + 1 => by
    have hb : T.testBit k = true → S.testBit k = true := fun ht => Classical.byContradiction fun hs => by
      have : (andn T S).testBit k = true := (andn_bit T S k).mpr ⟨ht, hs⟩
      rw [h] at this
      simp at this
    have ha := andn_bit S T k
    rw [pcK_succ, pcK_succ, pcK_succ, pcK_sub h k]
    by_cases ht : T.testBit k = true
    · rw [if_pos ht, if_pos (hb ht), if_neg (fun q => (ha.mp q).2 ht)]
      omega
    · rw [if_neg ht]
      by_cases hs : S.testBit k = true
      · rw [if_pos hs, if_pos (ha.mpr ⟨hs, ht⟩)]
        omega
      · rw [if_neg hs, if_neg (fun q => hs (ha.mp q).1)]
        omega
theorem sub_iff {S T : Nat} : andn T S = 0 ↔ ∀ j, T.testBit j = true → S.testBit j = true := by
  constructor
  · intro h j hj
    refine Classical.byContradiction fun hs => ?_
    have : (andn T S).testBit j = true := (andn_bit T S j).mpr ⟨hj, hs⟩
    rw [h] at this
    simp at this
  · intro h
    refine bit_ext (fun j => ⟨fun hj => ?_, fun hj => by simp at hj⟩)
    have q := (andn_bit T S j).mp hj
    exact absurd (h j q.1) q.2
theorem andn_andn {S T : Nat} (h : andn T S = 0) : andn S (andn S T) = T := bit_ext (fun j => by
  rw [andn_bit, andn_bit]
  have q := sub_iff.mp h j
  constructor
  · rintro ⟨h1, h2⟩
    exact Classical.byContradiction fun h3 => h2 ⟨h1, h3⟩
  · intro h1
    exact ⟨q h1, fun h2 => h2.2 h1⟩)
theorem andn_sub (S U : Nat) : andn (andn S U) S = 0 := sub_iff.mpr (fun j hj => ((andn_bit S U j).mp hj).1)
theorem pc0_fin : ∀ U : Fin 2048, pc U.val = 0 → U.val = 0 := by decide +kernel
theorem tb_pow (a j : Nat) : (2 ^ a).testBit j = true ↔ j = a := by
  rw [Nat.testBit_two_pow, decide_eq_true_iff]
  exact ⟨fun h => h.symm, fun h => h.symm⟩
theorem tb_two (a c j : Nat) : (2 ^ a ||| 2 ^ c).testBit j = true ↔ j = a ∨ j = c := by
  rw [Nat.testBit_or, Bool.or_eq_true, tb_pow, tb_pow]
/-- the sets with as many bars as free directions, by what they leave out -/
theorem bC_0 {F : Nat → Nat → Int32} {P B S T : Nat} (hB : B ≤ 11) (hS : S < 2 ^ B) (hN : pc S = fN' F P) : bC F P S T = true ↔ T = S := by
  rw [bC_iff]
  constructor
  · rintro ⟨h1, h2⟩
    have q := pcK_sub h1 12
    have e : pc (andn S T) = 0 := by
      have q' : pc S = pc T + pc (andn S T) := q
      omega
    have z : andn S T = 0 := pc0_fin ⟨_, p2048 hB (andn_lt hS)⟩ e
    have a := andn_andn h1
    rw [z] at a
    rw [← a]
    exact bit_ext (fun j => by
      rw [andn_bit]
      simp)
  · rintro rfl
    exact ⟨sub_iff.mpr (fun j h => h), hN⟩
theorem bC_1 {F : Nat → Nat → Int32} {P B S T : Nat} (hB : B ≤ 11) (hS : S < 2 ^ B) (hN : pc S = fN' F P + 1) : bC F P S T = true ↔ ∃ a, a < B ∧ S.testBit a = true ∧ T = andn S (2 ^ a) := by
  rw [bC_iff]
  constructor
  · rintro ⟨h1, h2⟩
    have q : pc S = pc T + pc (andn S T) := pcK_sub h1 12
    obtain ⟨a, ha⟩ := one_fin ⟨_, p2048 hB (andn_lt hS)⟩ (show pc (andn S T) = 1 by omega)
    have ha' : andn S T = 2 ^ a.val := ha
    have e := andn_andn h1
    have ts : S.testBit a.val = true := ((andn_bit S T a.val).mp (by rw [ha', tb_pow])).1
    have aB : a.val < B := pow_ltB (by rw [← ha']; exact andn_lt hS)
    exact ⟨a.val, aB, ts, by rw [← ha', e]⟩
  · rintro ⟨a, aB, ts, rfl⟩
    have h1 := andn_sub S (2 ^ a)
    have q : pc S = pc (andn S (2 ^ a)) + pc (andn S (andn S (2 ^ a))) := pcK_sub h1 12
    have e : andn S (andn S (2 ^ a)) = 2 ^ a := andn_andn (sub_iff.mpr (fun j hj => by
      rw [(tb_pow a j).mp hj]
      exact ts))
    rw [e, pc_one ⟨a, by omega⟩] at q
    exact ⟨h1, by omega⟩
theorem bC_2 {F : Nat → Nat → Int32} {P B S T : Nat} (hB : B ≤ 11) (hS : S < 2 ^ B) (hN : pc S = fN' F P + 2) : bC F P S T = true ↔ ∃ a c, a < c ∧ c < B ∧ S.testBit a = true ∧ S.testBit c = true ∧ T = andn S (2 ^ a ||| 2 ^ c) := by
  rw [bC_iff]
  constructor
  · rintro ⟨h1, h2⟩
    have q : pc S = pc T + pc (andn S T) := pcK_sub h1 12
    obtain ⟨a, c, hac, ha⟩ := two_fin ⟨_, p2048 hB (andn_lt hS)⟩ (show pc (andn S T) = 2 by omega)
    have ha' : andn S T = 2 ^ a.val ||| 2 ^ c.val := ha
    have e := andn_andn h1
    have ts : S.testBit a.val = true := ((andn_bit S T a.val).mp (by rw [ha', tb_two]; exact Or.inl rfl)).1
    have tc : S.testBit c.val = true := ((andn_bit S T c.val).mp (by rw [ha', tb_two]; exact Or.inr rfl)).1
    have cB := (or_ltB (a := a.val) (c := c.val) (by rw [← ha']; exact andn_lt hS)).2
    exact ⟨a.val, c.val, hac, cB, ts, tc, by rw [← ha', e]⟩
  · rintro ⟨a, c, hac, cB, ts, tc, rfl⟩
    have h1 := andn_sub S (2 ^ a ||| 2 ^ c)
    have q : pc S = pc (andn S (2 ^ a ||| 2 ^ c)) + pc (andn S (andn S (2 ^ a ||| 2 ^ c))) := pcK_sub h1 12
    have e : andn S (andn S (2 ^ a ||| 2 ^ c)) = 2 ^ a ||| 2 ^ c := andn_andn (sub_iff.mpr (fun j hj => by
      rcases (tb_two a c j).mp hj with h | h <;> rw [h] <;> assumption))
    rw [e, pc_two ⟨a, by omega⟩ ⟨c, by omega⟩ hac] at q
    exact ⟨h1, by omega⟩
/-- a sum over sets is a sum over what they leave out -/
theorem sum_sets {p : Nat → Bool} {M : Nat} {l : List Nat} (hl : l.Nodup) (h : ∀ T, T ∈ l ↔ T < M ∧ p T = true) (f : Nat → Int) : sumK (fun T => if p T = true then f T else 0) M = sumL f l := by
  rw [sumK_L, sumL_filter]
  refine sumL_perm ((List.perm_ext_iff_of_nodup (List.Pairwise.filter _ List.nodup_range) hl).mpr (fun T => ?_))
  rw [List.mem_filter, List.mem_range, h T]
theorem sum_0 {F : Nat → Nat → Int32} {P B S : Nat} (hB : B ≤ 11) (hS : S < 2 ^ B) (hN : pc S = fN' F P) (f : Nat → Int) : sumK (fun T => if bC F P S T = true then f T else 0) (2 ^ B) = f S := by
  rw [sum_sets (l := [S]) (by simp) (fun T => ?_) f]
  · show f S + 0 = f S
    omega
  · rw [List.mem_singleton, bC_0 hB hS hN]
    exact ⟨fun h => ⟨by rw [h]; exact hS, h⟩, fun h => h.2⟩
theorem del_inj {S U V : Nat} (hU : ∀ j, U.testBit j = true → S.testBit j = true) (hV : ∀ j, V.testBit j = true → S.testBit j = true) (h : andn S U = andn S V) : U = V := by
  have e1 := andn_andn (S := S) (T := U) (sub_iff.mpr hU)
  have e2 := andn_andn (S := S) (T := V) (sub_iff.mpr hV)
  rw [← e1, ← e2, h]
theorem sum_1 {F : Nat → Nat → Int32} {P B S : Nat} (hB : B ≤ 11) (hS : S < 2 ^ B) (hN : pc S = fN' F P + 1) (f : Nat → Int) : sumK (fun T => if bC F P S T = true then f T else 0) (2 ^ B) = sumK (fun a => if S.testBit a = true then f (andn S (2 ^ a)) else 0) B := by
  rw [sum_sets (l := ((List.range B).filter (fun a => S.testBit a)).map (fun a => andn S (2 ^ a))) ?_ (fun T => ?_) f, sumL_map, sumK_L, sumL_filter]
  · refine List.Pairwise.map _ (R := fun i j => S.testBit i = true ∧ S.testBit j = true ∧ i ≠ j) (fun i j hij e => ?_) ?_
    · exact hij.2.2 (pow_inj (del_inj (fun k hk => by rw [(tb_pow i k).mp hk]; exact hij.1) (fun k hk => by rw [(tb_pow j k).mp hk]; exact hij.2.1) e))
    · exact List.Pairwise.imp_of_mem (fun {a b} ha hb hab => ⟨(List.mem_filter.mp ha).2, (List.mem_filter.mp hb).2, hab⟩) (List.Pairwise.filter _ (List.nodup_range (n := B)))
  · rw [bC_1 hB hS hN, List.mem_map]
    constructor
    · rintro ⟨a, ha, rfl⟩
      have q := List.mem_filter.mp ha
      exact ⟨andn_lt hS, a, List.mem_range.mp q.1, q.2, rfl⟩
    · rintro ⟨-, a, aB, ts, rfl⟩
      exact ⟨a, List.mem_filter.mpr ⟨List.mem_range.mpr aB, ts⟩, rfl⟩
def rgt (S B a : Nat) : List Nat := (List.range B).filter (fun b => decide (a < b) && S.testBit b)
theorem rgt_mem {S B a b : Nat} : b ∈ rgt S B a ↔ b < B ∧ a < b ∧ S.testBit b = true := by
  unfold rgt
  rw [List.mem_filter, List.mem_range, Bool.and_eq_true, decide_eq_true_iff]
theorem sum_2 {F : Nat → Nat → Int32} {P B S : Nat} (hB : B ≤ 11) (hS : S < 2 ^ B) (hN : pc S = fN' F P + 2) (f : Nat → Int) : sumK (fun T => if bC F P S T = true then f T else 0) (2 ^ B) = sumK (fun a => sumK (fun b => if a < b then (if S.testBit a = true ∧ S.testBit b = true then f (andn S (2 ^ a ||| 2 ^ b)) else 0) else 0) B) B := by
  rw [sum_sets (l := ((List.range B).filter (fun a => S.testBit a)).flatMap (fun a => (rgt S B a).map (fun b => andn S (2 ^ a ||| 2 ^ b)))) ?_ (fun T => ?_) f, sumL_flat, sumK_L, ← sumL_filter]
  · refine sumL_congr _ (fun a _ => ?_)
    rw [sumL_map, sumK_L]
    by_cases ha : S.testBit a = true
    · rw [if_pos ha]
      unfold rgt
      rw [← sumL_filter]
      refine sumL_congr _ (fun b _ => ?_)
      by_cases hab : a < b
      · rw [if_pos hab]
        by_cases hb : S.testBit b = true
        · rw [if_pos (show (decide (a < b) && S.testBit b) = true by rw [hb, decide_eq_true hab]; rfl), if_pos ⟨ha, hb⟩]
        · rw [if_neg (fun q => hb (by rw [Bool.and_eq_true] at q; exact q.2)), if_neg (fun q => hb q.2)]
      · rw [if_neg hab, if_neg (fun q => hab (by rw [Bool.and_eq_true, decide_eq_true_iff] at q; exact q.1))]
    · rw [if_neg ha, ← sumK_L]
      exact (sumK_zero B (fun b _ => by
        by_cases hab : a < b
        · rw [if_pos hab, if_neg (fun q => ha q.1)]
        · rw [if_neg hab])).symm
  · show List.Pairwise _ _
    rw [List.pairwise_flatMap]
    refine ⟨fun a ha => ?_, ?_⟩
    · have sa := (List.mem_filter.mp ha).2
      refine List.Pairwise.map _ (R := fun i j => (a < i ∧ S.testBit i = true) ∧ (a < j ∧ S.testBit j = true) ∧ i ≠ j) (fun i j hij e => ?_) ?_
      · refine hij.2.2 (or_inj hij.1.1 hij.2.1.1 (del_inj (fun k hk => ?_) (fun k hk => ?_) e)).2
        · rcases (tb_two a i k).mp hk with h | h <;> rw [h]
          · exact sa
          · exact hij.1.2
        · rcases (tb_two a j k).mp hk with h | h <;> rw [h]
          · exact sa
          · exact hij.2.1.2
      · exact List.Pairwise.imp_of_mem (fun {x y} hx hy hxy => ⟨(rgt_mem.mp hx).2, (rgt_mem.mp hy).2, hxy⟩) (List.Pairwise.filter _ (List.nodup_range (n := B)))
    · refine List.Pairwise.imp_of_mem (fun {a a'} ha ha' hne x hx y hy e => ?_) (List.Pairwise.filter _ (List.nodup_range (n := B)))
      have sa := (List.mem_filter.mp ha).2
      have sa' := (List.mem_filter.mp ha').2
      obtain ⟨b, hb, rfl⟩ := List.mem_map.mp hx
      obtain ⟨b', hb', rfl⟩ := List.mem_map.mp hy
      have q := (rgt_mem.mp hb).2
      have q' := (rgt_mem.mp hb').2
      refine hne (or_inj q.1 q'.1 (del_inj (fun k hk => ?_) (fun k hk => ?_) e)).1
      · rcases (tb_two a b k).mp hk with h | h <;> rw [h]
        · exact sa
        · exact q.2
      · rcases (tb_two a' b' k).mp hk with h | h <;> rw [h]
        · exact sa'
        · exact q'.2
  · rw [bC_2 hB hS hN, List.mem_flatMap]
    constructor
    · rintro ⟨a, ha, hT⟩
      obtain ⟨b, hb, rfl⟩ := List.mem_map.mp hT
      have qa := List.mem_filter.mp ha
      have qb := rgt_mem.mp hb
      exact ⟨andn_lt hS, a, b, qb.2.1, qb.1, qa.2, qb.2.2, rfl⟩
    · rintro ⟨-, a, b, hab, bB, ta, tb, rfl⟩
      exact ⟨a, List.mem_filter.mpr ⟨List.mem_range.mpr (by omega), ta⟩, List.mem_map.mpr ⟨b, rgt_mem.mpr ⟨bB, hab, tb⟩, rfl⟩⟩
end
section
/-! the reference's determinants by the class's basis -/
noncomputable def zL (F : Nat → Nat → Int32) (P B S : Nat) : List Nat := fBase F P (fBl S B) ++ fSp F P B S
noncomputable def zA (F : Nat → Nat → Int32) (P B S : Nat) (A : Nat → md_V) : Nat → md_V := xA (fN' F P) A (fun i => fCol F P ((fSp F P B S).getD i 0)) (fSp F P B S).length
theorem zL_nd (F : Nat → Nat → Int32) (P B S : Nat) : (zL F P B S).Nodup := by
  unfold zL
  rw [List.nodup_append]
  exact ⟨fBase_nd F P S B, fSp_nd F P B S, fun a ha b hb e => (fSp_mem.mp hb).2 (e ▸ ha)⟩
theorem zL_mem {F : Nat → Nat → Int32} {P B S b : Nat} : b ∈ zL F P B S ↔ b < B ∧ S.testBit b = true := by
  unfold zL
  rw [List.mem_append, fSp_mem]
  constructor
  · rintro (h | h)
    · exact fBase_mem h
    · exact h.1
  · intro h
    by_cases c : b ∈ fBase F P (fBl S B)
    · exact Or.inl c
    · exact Or.inr ⟨h, c⟩
/-- the frame of some bars: firm, by the class's table -/
def zF (F : Nat → Nat → Int32) (P B S : Nat) (A : Nat → md_V) : Prop := (fBase F P (fBl S B)).length = fN' F P ∧ ∀ j, j < fN' F P → A j = fCol F P ((fBase F P (fBl S B)).getD j 0)
theorem zL_len {F : Nat → Nat → Int32} {P B S : Nat} {A : Nat → md_V} (h : zF F P B S A) : (zL F P B S).length = fN' F P + (fSp F P B S).length := by
  unfold zL
  rw [List.length_append, h.1]
theorem zL_lo {F : Nat → Nat → Int32} {P B S : Nat} {A : Nat → md_V} (h : zF F P B S A) {j : Nat} (hj : j < fN' F P) : (zL F P B S).getD j 0 = (fBase F P (fBl S B)).getD j 0 := by
  unfold zL
  rw [List.getD_eq_getElem?_getD, List.getD_eq_getElem?_getD, List.getElem?_append_left (by rw [h.1]; exact hj)]
theorem zL_hi {F : Nat → Nat → Int32} {P B S : Nat} {A : Nat → md_V} (h : zF F P B S A) {i : Nat} : (zL F P B S).getD (fN' F P + i) 0 = (fSp F P B S).getD i 0 := by
  unfold zL
  rw [List.getD_eq_getElem?_getD, List.getD_eq_getElem?_getD, List.getElem?_append_right (by rw [h.1]; omega), h.1, Nat.add_sub_cancel_left]
/-- a bar's column stands at its place -/
theorem zA_at {F : Nat → Nat → Int32} {P B S : Nat} {A : Nat → md_V} (h : zF F P B S A) {j : Nat} (hj : j < fN' F P + (fSp F P B S).length) {r : Nat} (hr : r < fN' F P) : zA F P B S A j r = fCol F P ((zL F P B S).getD j 0) r := by
  unfold zA
  by_cases l : j < fN' F P
  · rw [xA_lo l, zL_lo h l, ← h.2 j l]
    exact if_pos hr
  · obtain ⟨i, rfl⟩ : ∃ i, j = fN' F P + i := ⟨j - fN' F P, by omega⟩
    rw [xA_hi _ (by omega), zL_hi h]
    show xe (fN' F P) _ r + md_e (fN' F P + i) r = _
    unfold xe md_e
    rw [if_pos hr, if_neg (by omega), Int.add_zero]
/-- the columns of a set and of what it leaves out -/
noncomputable def zG (F : Nat → Nat → Int32) (P B S : Nat) (A : Nat → md_V) (xs : List Nat) (e : Nat → Bool) (col : md_V) : Nat → md_V := fun b => if b ∈ xs then md_e (fN' F P + xs.idxOf b) else if e b = true then xe (fN' F P) col else zA F P B S A ((zL F P B S).idxOf b)
theorem idx_at {l : List Nat} (hn : l.Nodup) {j : Nat} (hj : j < l.length) : l.idxOf (l.getD j 0) = j := by
  have hm := getD_mem (l := l) hj
  have h1 := List.idxOf_lt_length_of_mem hm
  refine getD_inj hn h1 hj ?_
  have q := List.getElem_idxOf h1
  rw [List.getD_eq_getElem?_getD, List.getElem?_eq_getElem h1, Option.getD_some]
  exact q
theorem idx_get {l : List Nat} {b : Nat} (hm : b ∈ l) : l.getD (l.idxOf b) 0 = b := by
  have h1 := List.idxOf_lt_length_of_mem hm
  rw [List.getD_eq_getElem?_getD, List.getElem?_eq_getElem h1, Option.getD_some]
  exact List.getElem_idxOf h1
theorem r_min {F : Nat → Nat → Int32} {P B S : Nat} {A : Nat → md_V} (h : zF F P B S A) {T : Nat} {xs : List Nat} (hx : xs.Nodup) (hxl : xs.length = (fSp F P B S).length) (hp : (fBl T B ++ xs).Perm (zL F P B S)) : ∃ s : Int, (s = 1 ∨ s = -1) ∧ ∀ (e : Nat → Bool) (col : md_V), dS F P B T e col = s * md_dt (List.range (fN' F P + (fSp F P B S).length)) (fun j => zG F P B S A xs e col ((zL F P B S).getD j 0)) (fN' F P + (fSp F P B S).length) := by
  obtain ⟨s, hs, hq⟩ := md_D_perm hp
  refine ⟨s, hs, fun e col => ?_⟩
  have q := hq (List.range (fN' F P + (fSp F P B S).length)) (zG F P B S A xs e col) []
  rw [List.nil_append, List.nil_append, List.map_append] at q
  have hd : ∀ b, b ∈ fBl T B → b ∉ xs := fun b hb hbx => by
    have nd : (fBl T B ++ xs).Nodup := hp.nodup_iff.mpr (zL_nd F P B S)
    rw [List.nodup_append] at nd
    exact nd.2.2 b hb b hbx rfl
  have ex : xs.map (zG F P B S A xs e col) = (List.range (fSp F P B S).length).map (fun i => md_e (fN' F P + i)) := by
    refine List.ext_getElem (by rw [List.length_map, List.length_map, List.length_range, hxl]) (fun i h1 h2 => ?_)
    rw [List.getElem_map, List.getElem_map, List.getElem_range]
    rw [List.length_map] at h1
    have hi := idx_at hx h1
    have hg : xs.getD i 0 = xs[i] := by rw [List.getD_eq_getElem?_getD, List.getElem?_eq_getElem h1, Option.getD_some]
    rw [hg] at hi
    unfold zG
    rw [if_pos (List.getElem_mem h1), hi]
  rw [ex, md_D_units] at q
  have e2 := md_D_on (R := List.range (fN' F P)) (zG F P B S A xs e col) (gC F P e col) (fBl T B) [] (fun b hb r hr => by
    have hr' := List.mem_range.mp hr
    have hbL : b ∈ zL F P B S := hp.mem_iff.mp (List.mem_append_left _ hb)
    unfold zG gC
    rw [if_neg (hd b hb)]
    by_cases ee : e b = true
    · rw [if_pos ee, if_pos ee]
      exact if_pos hr'
    · rw [if_neg ee, if_neg ee, zA_at h (by rw [← zL_len h]; exact List.idxOf_lt_length_of_mem hbL) hr', idx_get hbL])
  rw [List.nil_append, List.nil_append] at e2
  show md_D (List.range (fN' F P)) ((fBl T B).map (gC F P e col)) = _
  rw [← e2, q]
  congr 1
  rw [← zL_len h]
  exact (md_dt_map _ _ _).symm
theorem perm_del {F : Nat → Nat → Int32} {P B S : Nat} {U : Nat} {xs : List Nat} (hx : xs.Nodup) (hU : ∀ b, b ∈ xs ↔ U.testBit b = true) (hs : ∀ b, b ∈ xs → b < B ∧ S.testBit b = true) : (fBl (andn S U) B ++ xs).Perm (zL F P B S) := by
  refine (List.perm_ext_iff_of_nodup ?_ (zL_nd F P B S)).mpr (fun b => ?_)
  · rw [List.nodup_append]
    refine ⟨fBl_nd _ _, hx, fun a ha c hc e => ?_⟩
    have q := (andn_bit S U a).mp (fBl_mem.mp ha).2
    exact q.2 ((hU a).mp (e ▸ hc))
  · rw [List.mem_append, fBl_mem, zL_mem, andn_bit]
    constructor
    · rintro (q | q)
      · exact ⟨q.1, q.2.1⟩
      · exact hs b q
    · intro q
      by_cases c : b ∈ xs
      · exact Or.inr c
      · exact Or.inl ⟨q.1, q.2, fun t => c ((hU b).mpr t)⟩
/-- places: a bar's place in the list -/
def zP (F : Nat → Nat → Int32) (P B S : Nat) (p b : Nat) : Prop := p < (zL F P B S).length ∧ (zL F P B S).getD p 0 = b
theorem zP_ex {F : Nat → Nat → Int32} {P B S b : Nat} (hb : b < B) (hs : S.testBit b = true) : ∃ p, zP F P B S p b := by
  obtain ⟨j, h1, h2⟩ := mem_getD (zL_mem.mpr ⟨hb, hs⟩)
  exact ⟨j, h1, h2⟩
theorem zP_iff {F : Nat → Nat → Int32} {P B S p b j : Nat} (h : zP F P B S p b) (hj : j < (zL F P B S).length) : (zL F P B S).getD j 0 = b ↔ j = p := by
  constructor
  · intro e
    exact getD_inj (zL_nd F P B S) hj h.1 (e.trans h.2.symm)
  · rintro rfl
    exact h.2
theorem zG_none {F : Nat → Nat → Int32} {P B S : Nat} {A : Nat → md_V} {xs : List Nat} {e : Nat → Bool} {col : md_V} {j : Nat} (hj : j < (zL F P B S).length) (h1 : (zL F P B S).getD j 0 ∉ xs) (h2 : ¬ e ((zL F P B S).getD j 0) = true) : zG F P B S A xs e col ((zL F P B S).getD j 0) = zA F P B S A j := by
  unfold zG
  rw [if_neg h1, if_neg h2, idx_at (zL_nd F P B S) hj]
noncomputable def zD (F : Nat → Nat → Int32) (P B S : Nat) (A : Nat → md_V) : Int := md_dt (List.range (fN' F P + (fSp F P B S).length)) A (fN' F P + (fSp F P B S).length)
theorem zD_congr {F : Nat → Nat → Int32} {P B S : Nat} {A A0 C : Nat → md_V} (h : zF F P B S A0) (q : ∀ j, j < (zL F P B S).length → A j = C j) : zD F P B S A = zD F P B S C := md_dt_congr (fun i hi => q i (by rw [zL_len h]; exact hi))
/-- nothing left out -/
theorem r_min0 {F : Nat → Nat → Int32} {P B S : Nat} (hS : S < 2 ^ B) {A : Nat → md_V} (h : zF F P B S A) (hm : (fSp F P B S).length = 0) : ∃ s : Int, (s = 1 ∨ s = -1) ∧ dN F P B S = s * zD F P B S (zA F P B S A) ∧ ∀ c pc col, zP F P B S pc c → dS F P B S (eB c) col = s * zD F P B S (md_up (zA F P B S A) pc (xe (fN' F P) col)) := by
  have e0 : andn S 0 = S := bit_ext (fun j => by rw [andn_bit]; simp)
  have hp := perm_del (F := F) (P := P) (B := B) (S := S) (U := 0) (xs := []) List.nodup_nil (fun b => by simp) (fun b hb => by cases hb)
  rw [e0] at hp
  obtain ⟨s, hs, q⟩ := r_min h (T := S) (xs := []) List.nodup_nil hm.symm hp
  refine ⟨s, hs, ?_, fun c pc col hc => ?_⟩
  · unfold dN
    rw [q eN]
    congr 1
    exact zD_congr h (fun j hj => zG_none hj (by simp) (by unfold eN; decide))
  · rw [q (eB c) col]
    congr 1
    refine zD_congr h (fun j hj => ?_)
    by_cases e : j = pc
    · rw [e, md_up_at, hc.2]
      unfold zG eB
      rw [if_neg (by simp), if_pos (by simp)]
    · rw [md_up_ne _ _ e]
      refine zG_none hj (by simp) (fun z => e ?_)
      unfold eB at z
      rw [decide_eq_true_iff] at z
      exact (zP_iff hc hj).mp z
/-- one bar left out -/
theorem r_min1 {F : Nat → Nat → Int32} {P B S : Nat} {A : Nat → md_V} (h : zF F P B S A) (hm : (fSp F P B S).length = 1) {a pa : Nat} (ha : zP F P B S pa a) : ∃ s : Int, (s = 1 ∨ s = -1) ∧ dN F P B (andn S (2 ^ a)) = s * zD F P B S (md_up (zA F P B S A) pa (md_e (fN' F P))) ∧ ∀ c pc col, zP F P B S pc c → pc ≠ pa → dS F P B (andn S (2 ^ a)) (eB c) col = s * zD F P B S (md_up (md_up (zA F P B S A) pa (md_e (fN' F P))) pc (xe (fN' F P) col)) := by
  have haL := zL_mem.mp (show a ∈ zL F P B S by rw [← ha.2]; exact getD_mem ha.1)
  have hp := perm_del (F := F) (P := P) (B := B) (S := S) (U := 2 ^ a) (xs := [a]) (by simp) (fun b => by rw [tb_pow]; simp) (fun b hb => by rw [List.mem_singleton.mp hb]; exact haL)
  obtain ⟨s, hs, q⟩ := r_min h (T := andn S (2 ^ a)) (xs := [a]) (by simp) hm.symm hp
  have at_a : ∀ e col, zG F P B S A [a] e col a = md_e (fN' F P) := fun e col => by
    unfold zG
    rw [if_pos (by simp), List.idxOf_cons_self, Nat.add_zero]
  refine ⟨s, hs, ?_, fun c pc col hc hne => ?_⟩
  · unfold dN
    rw [q eN]
    congr 1
    refine zD_congr h (fun j hj => ?_)
    by_cases e : j = pa
    · rw [e, md_up_at, ha.2, at_a]
    · rw [md_up_ne _ _ e]
      exact zG_none hj (fun z => e ((zP_iff ha hj).mp (List.mem_singleton.mp z))) (by unfold eN; decide)
  · rw [q (eB c) col]
    congr 1
    refine zD_congr h (fun j hj => ?_)
    by_cases e : j = pc
    · rw [e, md_up_at, hc.2]
      have hca : ¬ c = a := fun z => hne ((zP_iff ha hc.1).mp (hc.2.trans z))
      unfold zG eB
      rw [if_neg (fun z => hca (List.mem_singleton.mp z)), if_pos (by simp)]
    · rw [md_up_ne _ _ e]
      by_cases e2 : j = pa
      · rw [e2, md_up_at, ha.2, at_a]
      · rw [md_up_ne _ _ e2]
        refine zG_none hj (fun z => e2 ((zP_iff ha hj).mp (List.mem_singleton.mp z))) (fun z => e ?_)
        unfold eB at z
        rw [decide_eq_true_iff] at z
        exact (zP_iff hc hj).mp z
/-- two bars left out -/
theorem r_min2 {F : Nat → Nat → Int32} {P B S : Nat} {A : Nat → md_V} (h : zF F P B S A) (hm : (fSp F P B S).length = 2) {a b pa pb : Nat} (ha : zP F P B S pa a) (hb : zP F P B S pb b) (hab : pa ≠ pb) : ∃ s : Int, (s = 1 ∨ s = -1) ∧ dN F P B (andn S (2 ^ a ||| 2 ^ b)) = s * zD F P B S (md_up (md_up (zA F P B S A) pa (md_e (fN' F P))) pb (md_e (fN' F P + 1))) ∧ ∀ c pc col, zP F P B S pc c → pc ≠ pa → pc ≠ pb → dS F P B (andn S (2 ^ a ||| 2 ^ b)) (eB c) col = s * zD F P B S (md_up (md_up (md_up (zA F P B S A) pa (md_e (fN' F P))) pb (md_e (fN' F P + 1))) pc (xe (fN' F P) col)) := by
  have haL := zL_mem.mp (show a ∈ zL F P B S by rw [← ha.2]; exact getD_mem ha.1)
  have hbL := zL_mem.mp (show b ∈ zL F P B S by rw [← hb.2]; exact getD_mem hb.1)
  have nab : a ≠ b := fun z => hab ((zP_iff hb ha.1).mp (ha.2.trans z))
  have hp := perm_del (F := F) (P := P) (B := B) (S := S) (U := 2 ^ a ||| 2 ^ b) (xs := [a, b]) (by simp [nab]) (fun x => by rw [tb_two]; simp) (fun x hx => by
    rcases List.mem_cons.mp hx with z | z
    · rw [z]; exact haL
    · rw [List.mem_singleton.mp z]; exact hbL)
  obtain ⟨s, hs, q⟩ := r_min h (T := andn S (2 ^ a ||| 2 ^ b)) (xs := [a, b]) (by simp [nab]) hm.symm hp
  have at_a : ∀ e col, zG F P B S A [a, b] e col a = md_e (fN' F P) := fun e col => by
    unfold zG
    rw [if_pos (by simp), List.idxOf_cons_self, Nat.add_zero]
  have at_b : ∀ e col, zG F P B S A [a, b] e col b = md_e (fN' F P + 1) := fun e col => by
    unfold zG
    have : [a, b].idxOf b = 1 := by
      rw [List.idxOf_cons, show (a == b) = false from beq_false_of_ne nab]
      simp
    rw [if_pos (by simp), this]
  have mem2 : ∀ {j}, j < (zL F P B S).length → (zL F P B S).getD j 0 ∈ [a, b] → j = pa ∨ j = pb := fun hj z => by
    rcases List.mem_cons.mp z with z | z
    · exact Or.inl ((zP_iff ha hj).mp z)
    · exact Or.inr ((zP_iff hb hj).mp (List.mem_singleton.mp z))
  refine ⟨s, hs, ?_, fun c pc col hc hca hcb => ?_⟩
  · unfold dN
    rw [q eN]
    congr 1
    refine zD_congr h (fun j hj => ?_)
    by_cases e : j = pb
    · rw [e, md_up_at, hb.2, at_b]
    · rw [md_up_ne _ _ e]
      by_cases e2 : j = pa
      · rw [e2, md_up_at, ha.2, at_a]
      · rw [md_up_ne _ _ e2]
        exact zG_none hj (fun z => (mem2 hj z).elim e2 e) (by unfold eN; decide)
  · rw [q (eB c) col]
    congr 1
    refine zD_congr h (fun j hj => ?_)
    by_cases e : j = pc
    · rw [e, md_up_at, hc.2]
      unfold zG eB
      rw [if_neg (fun z => (mem2 hc.1 (by rw [hc.2]; exact z)).elim hca hcb), if_pos (by simp)]
    · rw [md_up_ne _ _ e]
      by_cases e3 : j = pb
      · rw [e3, md_up_at, hb.2, at_b]
      · rw [md_up_ne _ _ e3]
        by_cases e2 : j = pa
        · rw [e2, md_up_at, ha.2, at_a]
        · rw [md_up_ne _ _ e2]
          refine zG_none hj (fun z => (mem2 hj z).elim e2 e3) (fun z => e ?_)
          unfold eB at z
          rw [decide_eq_true_iff] at z
          exact (zP_iff hc hj).mp z
end
section
/-! the class s numbers as determinants of the extended basis -/
noncomputable def tD (F : Nat → Nat → Int32) (P B S : Nat) (A : Nat → md_V) (X : md_V) (p : Nat) : Int := zD F P B S (md_up (zA F P B S A) p X)
theorem t_all {F : Nat → Nat → Int32} {P B S : Nat} {A : Nat → md_V} : zD F P B S (zA F P B S A) = md_dt (fR F P) A (fN' F P) ∧ (∀ X k, k < fN' F P → tD F P B S A (xe (fN' F P) X) k = md_T (fR F P) (fN' F P) A X k) ∧ (∀ X i, i < (fSp F P B S).length → tD F P B S A (xe (fN' F P) X) (fN' F P + i) = 0) ∧ (∀ i k, i < (fSp F P B S).length → k < fN' F P → tD F P B S A (md_e (fN' F P + i)) k = - md_T (fR F P) (fN' F P) A (fCol F P ((fSp F P B S).getD i 0)) k) ∧ ∀ i j, i < (fSp F P B S).length → j < (fSp F P B S).length → tD F P B S A (md_e (fN' F P + i)) (fN' F P + j) = if i = j then md_dt (fR F P) A (fN' F P) else 0 := x_all (N := fN' F P) (A := A) (sp := fun i => fCol F P ((fSp F P B S).getD i 0)) (fSp F P B S).length
noncomputable def zI (F : Nat → Nat → Int32) (P B S b : Nat) : Nat := (zL F P B S).idxOf b
theorem zI_P {F : Nat → Nat → Int32} {P B S b : Nat} (h : b ∈ zL F P B S) : zP F P B S (zI F P B S b) b := ⟨List.idxOf_lt_length_of_mem h, idx_get h⟩
theorem zI_ne {F : Nat → Nat → Int32} {P B S a b : Nat} (ha : a ∈ zL F P B S) (hb : b ∈ zL F P B S) (h : a ≠ b) : zI F P B S a ≠ zI F P B S b := fun e => h (by rw [← (zI_P ha).2, ← (zI_P hb).2, e])
noncomputable def uU (F : Nat → Nat → Int32) (P B S : Nat) (A : Nat → md_V) (e : Int) (k b : Nat) : Int := if b ∈ zL F P B S then e * tD F P B S A (md_e (fN' F P + k)) (zI F P B S b) else 0
noncomputable def vV (F : Nat → Nat → Int32) (P B S : Nat) (A : Nat → md_V) (e : Int) (z : Nat → Int) (b : Nat) : Int := if b ∈ zL F P B S then e * tD F P B S A (xe (fN' F P) (fCo F P z)) (zI F P B S b) else 0
noncomputable def d2 (F : Nat → Nat → Int32) (P B S : Nat) (A : Nat → md_V) (p : Nat) (x : md_V) (q : Nat) (y : md_V) : Int := zD F P B S (md_up (md_up (zA F P B S A) p x) q y)
noncomputable def d3 (F : Nat → Nat → Int32) (P B S : Nat) (A : Nat → md_V) (p : Nat) (x : md_V) (q : Nat) (y : md_V) (r : Nat) (v : md_V) : Int := zD F P B S (md_up (md_up (md_up (zA F P B S A) p x) q y) r v)
noncomputable def pP (F : Nat → Nat → Int32) (P B S : Nat) (A : Nat → md_V) (e : Int) (a b : Nat) : Int := if a ∈ zL F P B S ∧ b ∈ zL F P B S ∧ a ≠ b then e * d2 F P B S A (zI F P B S a) (md_e (fN' F P)) (zI F P B S b) (md_e (fN' F P + 1)) else 0
noncomputable def aA1 (F : Nat → Nat → Int32) (P B S : Nat) (A : Nat → md_V) (e : Int) (z : Nat → Int) (c a : Nat) : Int := if a ∈ zL F P B S ∧ a ≠ c then e * d2 F P B S A (zI F P B S a) (md_e (fN' F P)) (zI F P B S c) (xe (fN' F P) (fCo F P z)) else 0
noncomputable def aA2 (F : Nat → Nat → Int32) (P B S : Nat) (A : Nat → md_V) (e : Int) (z : Nat → Int) (c a b : Nat) : Int := if a ∈ zL F P B S ∧ b ∈ zL F P B S ∧ c ≠ a ∧ c ≠ b then e * d3 F P B S A (zI F P B S a) (md_e (fN' F P)) (zI F P B S b) (md_e (fN' F P + 1)) (zI F P B S c) (xe (fN' F P) (fCo F P z)) else 0
theorem uU_no {F : Nat → Nat → Int32} {P B S : Nat} {A : Nat → md_V} {e : Int} (k : Nat) {b : Nat} (h : ¬ b ∈ zL F P B S) : uU F P B S A e k b = 0 := if_neg h
theorem vV_no {F : Nat → Nat → Int32} {P B S : Nat} {A : Nat → md_V} {e : Int} {z : Nat → Int} {b : Nat} (h : ¬ b ∈ zL F P B S) : vV F P B S A e z b = 0 := if_neg h
theorem pP_no {F : Nat → Nat → Int32} {P B S : Nat} {A : Nat → md_V} {e : Int} {a b : Nat} (h : ¬ (a ∈ zL F P B S ∧ b ∈ zL F P B S ∧ a ≠ b)) : pP F P B S A e a b = 0 := if_neg h
theorem aA1_no {F : Nat → Nat → Int32} {P B S : Nat} {A : Nat → md_V} {e : Int} {z : Nat → Int} {c a : Nat} (h : ¬ (a ∈ zL F P B S ∧ a ≠ c)) : aA1 F P B S A e z c a = 0 := if_neg h
theorem aA2_no {F : Nat → Nat → Int32} {P B S : Nat} {A : Nat → md_V} {e : Int} {z : Nat → Int} {c a b : Nat} (h : ¬ (a ∈ zL F P B S ∧ b ∈ zL F P B S ∧ c ≠ a ∧ c ≠ b)) : aA2 F P B S A e z c a b = 0 := if_neg h
theorem uU_at {F : Nat → Nat → Int32} {P B S : Nat} {A : Nat → md_V} {e : Int} (k : Nat) {b : Nat} (h : b ∈ zL F P B S) : uU F P B S A e k b = e * tD F P B S A (md_e (fN' F P + k)) (zI F P B S b) := if_pos h
theorem vV_at {F : Nat → Nat → Int32} {P B S : Nat} {A : Nat → md_V} {e : Int} {z : Nat → Int} {b : Nat} (h : b ∈ zL F P B S) : vV F P B S A e z b = e * tD F P B S A (xe (fN' F P) (fCo F P z)) (zI F P B S b) := if_pos h
theorem pP_at {F : Nat → Nat → Int32} {P B S : Nat} {A : Nat → md_V} {e : Int} {a b : Nat} (h : a ∈ zL F P B S ∧ b ∈ zL F P B S ∧ a ≠ b) : pP F P B S A e a b = e * d2 F P B S A (zI F P B S a) (md_e (fN' F P)) (zI F P B S b) (md_e (fN' F P + 1)) := if_pos h
theorem aA1_at {F : Nat → Nat → Int32} {P B S : Nat} {A : Nat → md_V} {e : Int} {z : Nat → Int} {c a : Nat} (h : a ∈ zL F P B S ∧ a ≠ c) : aA1 F P B S A e z c a = e * d2 F P B S A (zI F P B S a) (md_e (fN' F P)) (zI F P B S c) (xe (fN' F P) (fCo F P z)) := if_pos h
theorem aA2_at {F : Nat → Nat → Int32} {P B S : Nat} {A : Nat → md_V} {e : Int} {z : Nat → Int} {c a b : Nat} (h : a ∈ zL F P B S ∧ b ∈ zL F P B S ∧ c ≠ a ∧ c ≠ b) : aA2 F P B S A e z c a b = e * d3 F P B S A (zI F P B S a) (md_e (fN' F P)) (zI F P B S b) (md_e (fN' F P + 1)) (zI F P B S c) (xe (fN' F P) (fCo F P z)) := if_pos h
theorem d2_plu {F : Nat → Nat → Int32} {P B S : Nat} {A : Nat → md_V} (h : zF F P B S A) {p q : Nat} (hp : p < (zL F P B S).length) (hq : q < (zL F P B S).length) (hpq : p ≠ q) (x v : md_V) : md_dt (fR F P) A (fN' F P) * d2 F P B S A p x q v = tD F P B S A x p * tD F P B S A v q - tD F P B S A x q * tD F P B S A v p := by
  rw [zL_len h] at hp hq
  rw [← t_all (B := B) (S := S).1]
  exact md_plu _ (zA F P B S A) hpq hp hq x v
theorem d3_plu {F : Nat → Nat → Int32} {P B S : Nat} {A : Nat → md_V} (h : zF F P B S A) {p q r : Nat} (hp : p < (zL F P B S).length) (hq : q < (zL F P B S).length) (hr : r < (zL F P B S).length) (hpq : p ≠ q) (hpr : p ≠ r) (hqr : q ≠ r) (x y v : md_V) : md_dt (fR F P) A (fN' F P) * d3 F P B S A p x q y r v = tD F P B S A v r * d2 F P B S A p x q y - tD F P B S A v p * d2 F P B S A r x q y - tD F P B S A v q * d2 F P B S A p x r y := by
  rw [zL_len h] at hp hq hr
  rw [← t_all (B := B) (S := S).1]
  exact md_plu3 _ (zA F P B S A) hpq hpr hqr hp hq hr x y v
theorem d2_swap {F : Nat → Nat → Int32} {P B S : Nat} {A : Nat → md_V} (h : zF F P B S A) {p q : Nat} (hp : p < (zL F P B S).length) (hq : q < (zL F P B S).length) (hpq : p ≠ q) (x y : md_V) : d2 F P B S A p x q y = - d2 F P B S A p y q x := by
  rw [zL_len h] at hp hq
  exact md_dt_swap _ _ hpq hp hq x y
theorem d2_comm {F : Nat → Nat → Int32} {P B S : Nat} {A : Nat → md_V} {p q : Nat} (hpq : p ≠ q) (x y : md_V) : d2 F P B S A p x q y = d2 F P B S A q y p x := by
  unfold d2
  rw [md_up_comm _ _ _ hpq]
/-- i1 -/
theorem id_1 {F : Nat → Nat → Int32} {P B S : Nat} {A : Nat → md_V} (h : zF F P B S A) {e : Int} (he : e = 1 ∨ e = -1) (z : Nat → Int) {c : Nat} (hc : c ∈ zL F P B S) (a : Nat) : vV F P B S A e z c * uU F P B S A e 0 a - vV F P B S A e z a * uU F P B S A e 0 c = e * md_dt (fR F P) A (fN' F P) * aA1 F P B S A e z c a := by
  have ee := pm1 he
  by_cases ha : a ∈ zL F P B S
  · by_cases hac : a = c
    · subst hac
      rw [aA1_no (fun q => q.2 rfl), Int.mul_zero]
      omega
    · have q := d2_plu h (zI_P ha).1 (zI_P hc).1 (zI_ne ha hc hac) (md_e (fN' F P)) (xe (fN' F P) (fCo F P z))
      rw [vV_at hc, vV_at ha, uU_at 0 ha, uU_at 0 hc, aA1_at ⟨ha, hac⟩, Nat.add_zero]
      grind
  · rw [vV_no ha, uU_no 0 ha, aA1_no (fun q => ha q.1), Int.mul_zero, Int.mul_zero, Int.zero_mul]
    rfl
/-- i2 -/
theorem id_2 {F : Nat → Nat → Int32} {P B S : Nat} {A : Nat → md_V} (h : zF F P B S A) {e : Int} (he : e = 1 ∨ e = -1) (a b : Nat) : uU F P B S A e 0 a * uU F P B S A e 1 b - uU F P B S A e 0 b * uU F P B S A e 1 a = e * md_dt (fR F P) A (fN' F P) * pP F P B S A e a b := by
  have ee := pm1 he
  by_cases ha : a ∈ zL F P B S
  · by_cases hb : b ∈ zL F P B S
    · by_cases hab : a = b
      · subst hab
        rw [pP_no (fun q => q.2.2 rfl), Int.mul_zero]
        omega
      · have q := d2_plu h (zI_P ha).1 (zI_P hb).1 (zI_ne ha hb hab) (md_e (fN' F P)) (md_e (fN' F P + 1))
        rw [uU_at 0 ha, uU_at 1 hb, uU_at 0 hb, uU_at 1 ha, pP_at ⟨ha, hb, hab⟩, Nat.add_zero]
        grind
    · rw [uU_no 1 hb, uU_no 0 hb, pP_no (fun q => hb q.2.1), Int.mul_zero, Int.mul_zero, Int.zero_mul]
      rfl
  · rw [uU_no 0 ha, uU_no 1 ha, pP_no (fun q => ha q.1), Int.mul_zero, Int.mul_zero, Int.zero_mul]
    rfl
theorem pP_anti {F : Nat → Nat → Int32} {P B S : Nat} {A : Nat → md_V} (h : zF F P B S A) {e : Int} (a b : Nat) : pP F P B S A e a b = - pP F P B S A e b a := by
  unfold pP
  by_cases c : a ∈ zL F P B S ∧ b ∈ zL F P B S ∧ a ≠ b
  · rw [if_pos c, if_pos ⟨c.2.1, c.1, c.2.2.symm⟩, d2_swap h (zI_P c.1).1 (zI_P c.2.1).1 (zI_ne c.1 c.2.1 c.2.2), d2_comm (zI_ne c.1 c.2.1 c.2.2), Int.mul_neg]
  · rw [if_neg c, if_neg (fun q => c ⟨q.2.1, q.1, q.2.2.symm⟩)]
    rfl
/-- i3 -/
theorem id_3 {F : Nat → Nat → Int32} {P B S : Nat} {A : Nat → md_V} (h : zF F P B S A) {e : Int} (he : e = 1 ∨ e = -1) (z : Nat → Int) {c : Nat} (hc : c ∈ zL F P B S) {a b : Nat} (hab : a ≠ b) : vV F P B S A e z c * pP F P B S A e a b - vV F P B S A e z a * pP F P B S A e c b + vV F P B S A e z b * pP F P B S A e c a = e * md_dt (fR F P) A (fN' F P) * aA2 F P B S A e z c a b := by
  have ee := pm1 he
  by_cases ha : a ∈ zL F P B S
  · by_cases hb : b ∈ zL F P B S
    · by_cases hca : c = a
      · subst hca
        rw [pP_no (a := c) (b := c) (fun q => q.2.2 rfl), aA2_no (fun q => q.2.2.1 rfl), Int.mul_zero, Int.mul_zero]
        omega
      · by_cases hcb : c = b
        · subst hcb
          have an := pP_anti h (e := e) a c
          rw [pP_no (a := c) (b := c) (fun q => q.2.2 rfl), an, aA2_no (fun q => q.2.2.2 rfl), Int.mul_zero, Int.mul_zero, Int.mul_neg]
          omega
        · have q := d3_plu h (zI_P ha).1 (zI_P hb).1 (zI_P hc).1 (zI_ne ha hb hab) (zI_ne ha hc (Ne.symm hca)) (zI_ne hb hc (Ne.symm hcb)) (md_e (fN' F P)) (md_e (fN' F P + 1)) (xe (fN' F P) (fCo F P z))
          have s1 : d2 F P B S A (zI F P B S a) (md_e (fN' F P)) (zI F P B S c) (md_e (fN' F P + 1)) = - d2 F P B S A (zI F P B S c) (md_e (fN' F P)) (zI F P B S a) (md_e (fN' F P + 1)) := by
            rw [d2_swap h (zI_P ha).1 (zI_P hc).1 (zI_ne ha hc (Ne.symm hca)), d2_comm (zI_ne ha hc (Ne.symm hca))]
          rw [s1] at q
          rw [vV_at ha, vV_at hb, vV_at hc, pP_at ⟨ha, hb, hab⟩, pP_at ⟨hc, hb, hcb⟩, pP_at ⟨hc, ha, hca⟩, aA2_at ⟨ha, hb, hca, hcb⟩]
          grind
    · rw [vV_no hb, pP_no (a := a) (b := b) (fun q => hb q.2.1), pP_no (a := c) (b := b) (fun q => hb q.2.1), aA2_no (fun q => hb q.2.1), Int.mul_zero, Int.mul_zero, Int.mul_zero, Int.zero_mul]
      rfl
  · rw [vV_no ha, pP_no (a := a) (b := b) (fun q => ha q.1), pP_no (a := c) (b := a) (fun q => ha q.2.1), aA2_no (fun q => ha q.1), Int.mul_zero, Int.mul_zero, Int.mul_zero, Int.zero_mul]
    rfl
/-! the terms of the reference by the class's numbers -/
theorem gPr_zero (F : Nat → Nat → Int32) : ∀ k, gPr F 0 k = 1
  | 0 => rfl
  | k + 1 => by
    show gPr F 0 k * (if (0 : Nat).testBit k = true then gv F k else 1) = 1
    rw [gPr_zero F k]
    simp
theorem gPr_one (F : Nat → Nat → Int32) (a : Nat) : ∀ k, gPr F (2 ^ a) k = if a < k then gv F a else 1
  | 0 => by rw [if_neg (Nat.not_lt_zero _)]; rfl
  | k + 1 => by
    show gPr F (2 ^ a) k * (if (2 ^ a).testBit k = true then gv F k else 1) = _
    rw [gPr_one F a k]
    by_cases e : k = a
    · rw [if_pos ((tb_pow a k).mpr e), if_neg (show ¬ a < k by omega), if_pos (show a < k + 1 by omega), e, Int.one_mul]
    · rw [if_neg (fun q => e ((tb_pow a k).mp q)), Int.mul_one]
      by_cases l : a < k
      · rw [if_pos l, if_pos (by omega)]
      · rw [if_neg l, if_neg (by omega)]
theorem gPr_two (F : Nat → Nat → Int32) {a b : Nat} (hab : a < b) : ∀ k, gPr F (2 ^ a ||| 2 ^ b) k = (if a < k then gv F a else 1) * (if b < k then gv F b else 1)
  | 0 => by rw [if_neg (Nat.not_lt_zero _), if_neg (Nat.not_lt_zero _)]; rfl
  | k + 1 => by
    show gPr F (2 ^ a ||| 2 ^ b) k * (if (2 ^ a ||| 2 ^ b).testBit k = true then gv F k else 1) = _
    rw [gPr_two F hab k]
    by_cases e : k = a
    · rw [if_pos ((tb_two a b k).mpr (Or.inl e)), if_neg (show ¬ a < k by omega), if_neg (show ¬ b < k by omega), if_pos (show a < k + 1 by omega), if_neg (show ¬ b < k + 1 by omega), e]
      omega
    · by_cases e2 : k = b
      · rw [if_pos ((tb_two a b k).mpr (Or.inr e2)), if_pos (show a < k by omega), if_neg (show ¬ b < k by omega), if_pos (show a < k + 1 by omega), if_pos (show b < k + 1 by omega), e2, Int.mul_one]
      · rw [if_neg (fun q => ((tb_two a b k).mp q).elim e e2), Int.mul_one]
        by_cases l : a < k
        · by_cases l2 : b < k
          · rw [if_pos l, if_pos l2, if_pos (show a < k + 1 by omega), if_pos (show b < k + 1 by omega)]
          · rw [if_pos l, if_neg l2, if_pos (show a < k + 1 by omega), if_neg (show ¬ b < k + 1 by omega)]
        · rw [if_neg l, if_neg (show ¬ b < k by omega), if_neg (show ¬ a < k + 1 by omega), if_neg (show ¬ b < k + 1 by omega)]
theorem del_1 {S a : Nat} (h : S.testBit a = true) : andn S (andn S (2 ^ a)) = 2 ^ a := andn_andn (sub_iff.mpr (fun j hj => by rw [(tb_pow a j).mp hj]; exact h))
theorem del_2 {S a b : Nat} (h : S.testBit a = true) (h2 : S.testBit b = true) : andn S (andn S (2 ^ a ||| 2 ^ b)) = 2 ^ a ||| 2 ^ b := andn_andn (sub_iff.mpr (fun j hj => by
  rcases (tb_two a b j).mp hj with q | q <;> rw [q] <;> assumption))
theorem sq_pm {s D : Int} (hs : s = 1 ∨ s = -1) : s * D * (s * D) = D * D := by
  rcases hs with rfl | rfl <;> grind
theorem pr_pm {s D G : Int} (hs : s = 1 ∨ s = -1) : s * D * (s * G) = D * G := by
  rcases hs with rfl | rfl <;> grind
/-- one bar to spare -/
theorem u_1 {F : Nat → Nat → Int32} {P B S : Nat} (hB : B ≤ 11) (hS : S < 2 ^ B) {A : Nat → md_V} (h : zF F P B S A) (hm : (fSp F P B S).length = 1) (hN : pc S = fN' F P + 1) {e : Int} (he : e = 1 ∨ e = -1) : uSum F P B S = sumK (fun a => gv F a * uU F P B S A e 0 a * uU F P B S A e 0 a) B := by
  have ee := pm1 he
  show sumK (fun T => if bC F P S T = true then gPr F (andn S T) B * dN F P B T * dN F P B T else 0) (2 ^ B) = _
  rw [sum_1 hB hS hN]
  refine sumK_congr B (fun a ha => ?_)
  by_cases ts : S.testBit a = true
  · have haL := (zL_mem (F := F) (P := P)).mpr ⟨ha, ts⟩
    obtain ⟨s, hs, q, -⟩ := r_min1 h hm (zI_P haL)
    rw [if_pos ts, del_1 ts, gPr_one, if_pos ha, q, uU_at 0 haL, Nat.add_zero, Int.mul_assoc, sq_pm hs, Int.mul_assoc, sq_pm he]
    rfl
  · rw [if_neg ts, uU_no 0 (fun q => ts (zL_mem.mp q).2), Int.mul_zero]
theorem o_1 {F : Nat → Nat → Int32} {P B S : Nat} (hB : B ≤ 11) (hS : S < 2 ^ B) {A : Nat → md_V} (h : zF F P B S A) (hm : (fSp F P B S).length = 1) (hN : pc S = fN' F P + 1) {e : Int} (he : e = 1 ∨ e = -1) (z : Nat → Int) {c : Nat} (hc : c ∈ zL F P B S) : oSum F P B S z c = sumK (fun a => gv F a * uU F P B S A e 0 a * aA1 F P B S A e z c a) B := by
  show sumK (fun T => if bC F P S T = true then oT F P B (fCo F P z) T (gPr F (andn S T) B) c else 0) (2 ^ B) = _
  rw [sum_1 hB hS hN]
  refine sumK_congr B (fun a ha => ?_)
  by_cases ts : S.testBit a = true
  · have haL := (zL_mem (F := F) (P := P)).mpr ⟨ha, ts⟩
    obtain ⟨s, hs, q, q2⟩ := r_min1 h hm (zI_P haL)
    rw [if_pos ts, del_1 ts, gPr_one, if_pos ha]
    unfold oT
    by_cases hac : a = c
    · rw [if_neg (fun t => ((andn_bit S (2 ^ a) c).mp t).2 ((tb_pow a c).mpr hac.symm)), aA1_no (fun t => t.2 hac), Int.mul_zero]
    · rw [if_pos ((andn_bit S (2 ^ a) c).mpr ⟨(zL_mem.mp hc).2, fun t => hac ((tb_pow a c).mp t).symm⟩), aA1_at ⟨haL, hac⟩, q, q2 c _ _ (zI_P hc) (zI_ne hc haL (Ne.symm hac)), uU_at 0 haL, Nat.add_zero, Int.mul_assoc, pr_pm hs, Int.mul_assoc, pr_pm he]
      rfl
  · rw [if_neg ts, uU_no 0 (fun q => ts (zL_mem.mp q).2), Int.mul_zero, Int.zero_mul]
/-- two bars to spare -/
theorem u_2 {F : Nat → Nat → Int32} {P B S : Nat} (hB : B ≤ 11) (hS : S < 2 ^ B) {A : Nat → md_V} (h : zF F P B S A) (hm : (fSp F P B S).length = 2) (hN : pc S = fN' F P + 2) {e : Int} (he : e = 1 ∨ e = -1) : uSum F P B S = w2 F B (pP F P B S A e) := by
  show sumK (fun T => if bC F P S T = true then gPr F (andn S T) B * dN F P B T * dN F P B T else 0) (2 ^ B) = _
  rw [sum_2 hB hS hN]
  refine sumK_congr B (fun a ha => sumK_congr B (fun b hb => ?_))
  by_cases hab : a < b
  · rw [if_pos hab, if_pos hab]
    by_cases ts : S.testBit a = true ∧ S.testBit b = true
    · have haL := (zL_mem (F := F) (P := P)).mpr ⟨ha, ts.1⟩
      have hbL := (zL_mem (F := F) (P := P)).mpr ⟨hb, ts.2⟩
      have nab : a ≠ b := by omega
      obtain ⟨s, hs, q, -⟩ := r_min2 h hm (zI_P haL) (zI_P hbL) (zI_ne haL hbL nab)
      rw [if_pos ts, del_2 ts.1 ts.2, gPr_two F hab, if_pos ha, if_pos hb, q, pP_at ⟨haL, hbL, nab⟩, Int.mul_assoc, sq_pm hs, Int.mul_assoc (gv F a * gv F b), sq_pm he]
      rfl
    · rw [if_neg ts, pP_no (fun q => ts ⟨(zL_mem.mp q.1).2, (zL_mem.mp q.2.1).2⟩), Int.mul_zero]
  · rw [if_neg hab, if_neg hab]
theorem o_2 {F : Nat → Nat → Int32} {P B S : Nat} (hB : B ≤ 11) (hS : S < 2 ^ B) {A : Nat → md_V} (h : zF F P B S A) (hm : (fSp F P B S).length = 2) (hN : pc S = fN' F P + 2) {e : Int} (he : e = 1 ∨ e = -1) (z : Nat → Int) {c : Nat} (hc : c ∈ zL F P B S) : oSum F P B S z c = o2 F B (pP F P B S A e) (aA2 F P B S A e z c) := by
  show sumK (fun T => if bC F P S T = true then oT F P B (fCo F P z) T (gPr F (andn S T) B) c else 0) (2 ^ B) = _
  rw [sum_2 hB hS hN]
  refine sumK_congr B (fun a ha => sumK_congr B (fun b hb => ?_))
  by_cases hab : a < b
  · rw [if_pos hab, if_pos hab]
    by_cases ts : S.testBit a = true ∧ S.testBit b = true
    · have haL := (zL_mem (F := F) (P := P)).mpr ⟨ha, ts.1⟩
      have hbL := (zL_mem (F := F) (P := P)).mpr ⟨hb, ts.2⟩
      have nab : a ≠ b := by omega
      obtain ⟨s, hs, q, q2⟩ := r_min2 h hm (zI_P haL) (zI_P hbL) (zI_ne haL hbL nab)
      rw [if_pos ts, del_2 ts.1 ts.2, gPr_two F hab, if_pos ha, if_pos hb]
      unfold oT
      by_cases hcc : c ≠ a ∧ c ≠ b
      · rw [if_pos ((andn_bit S (2 ^ a ||| 2 ^ b) c).mpr ⟨(zL_mem.mp hc).2, fun t => ((tb_two a b c).mp t).elim hcc.1 hcc.2⟩), aA2_at ⟨haL, hbL, hcc⟩, q, q2 c _ _ (zI_P hc) (zI_ne hc haL hcc.1) (zI_ne hc hbL hcc.2), pP_at ⟨haL, hbL, nab⟩, Int.mul_assoc, pr_pm hs, Int.mul_assoc (gv F a * gv F b), pr_pm he]
        rfl
      · have hin : c = a ∨ c = b := Classical.byContradiction fun t => hcc ⟨fun u => t (Or.inl u), fun u => t (Or.inr u)⟩
        rw [if_neg (fun t => ((andn_bit S (2 ^ a ||| 2 ^ b) c).mp t).2 ((tb_two a b c).mpr hin)), aA2_no (fun t => hcc ⟨t.2.2.1, t.2.2.2⟩), Int.mul_zero]
    · rw [if_neg ts, pP_no (fun q => ts ⟨(zL_mem.mp q.1).2, (zL_mem.mp q.2.1).2⟩), Int.mul_zero, Int.zero_mul]
  · rw [if_neg hab, if_neg hab]
/-- none to spare -/
theorem u_0 {F : Nat → Nat → Int32} {P B S : Nat} (hB : B ≤ 11) (hS : S < 2 ^ B) {A : Nat → md_V} (h : zF F P B S A) (hm : (fSp F P B S).length = 0) (hN : pc S = fN' F P) : uSum F P B S = md_dt (fR F P) A (fN' F P) * md_dt (fR F P) A (fN' F P) ∧ ∀ z c, c ∈ zL F P B S → oSum F P B S z c = md_dt (fR F P) A (fN' F P) * tD F P B S A (xe (fN' F P) (fCo F P z)) (zI F P B S c) := by
  obtain ⟨s, hs, q, q2⟩ := r_min0 hS h hm
  have e0 : andn S S = 0 := sub_iff.mpr (fun j hj => hj)
  rw [t_all.1] at q
  refine ⟨?_, fun z c hc => ?_⟩
  · show sumK (fun T => if bC F P S T = true then gPr F (andn S T) B * dN F P B T * dN F P B T else 0) (2 ^ B) = _
    rw [sum_0 hB hS hN, e0, gPr_zero, q, Int.one_mul, sq_pm hs]
  · show sumK (fun T => if bC F P S T = true then oT F P B (fCo F P z) T (gPr F (andn S T) B) c else 0) (2 ^ B) = _
    rw [sum_0 hB hS hN, e0, gPr_zero]
    unfold oT
    rw [if_pos (zL_mem.mp hc).2, q, q2 c _ _ (zI_P hc), Int.one_mul, pr_pm hs]
    rfl
end
section
/-! the class prepared: its cells hold those numbers -/
def qX (F : Nat → Nat → Int32) (P B S : Nat) (k w : Int) (τ : hv_St) : Prop := ∃ A e, tX F P B τ (fBase F P (fBl S B)) A e ∧ zF F P B S A ∧ (∀ j, j < fN' F P → τ.1 11 j = nI ((fL F (2 * P)).getD j 0)) ∧ (fSp F P B S).length ≤ 2 ∧ pc S = fN' F P + (fSp F P B S).length ∧ gF F B τ ∧ τ.1 13 5 = nI (fSp F P B S).length ∧ (∀ i b, i < (fSp F P B S).length → b < B → τ.2 (39 + i) b = iL (uU F P B S A e i b)) ∧ ((fSp F P B S).length = 2 → ∀ a b, a < B → b < B → τ.2 (41 + a) b = iL (pP F P B S A e a b)) ∧ τ.2 13 6 = iL w ∧ k = (if (fSp F P B S).length = 0 then e * md_dt (fR F P) A (fN' F P) else 1) ∧ uSum F P B S = k * w
theorem zI_lo {F : Nat → Nat → Int32} {P B S : Nat} {A : Nat → md_V} (h : zF F P B S A) {j : Nat} (hj : j < fN' F P) : (fBase F P (fBl S B)).getD j 0 ∈ zL F P B S ∧ zI F P B S ((fBase F P (fBl S B)).getD j 0) = j := by
  have hl := zL_len h
  refine ⟨?_, ?_⟩
  · rw [← zL_lo h hj]
    exact getD_mem (by omega)
  · rw [← zL_lo h hj]
    exact idx_at (zL_nd F P B S) (by omega)
theorem zI_hi {F : Nat → Nat → Int32} {P B S : Nat} {A : Nat → md_V} (h : zF F P B S A) {i : Nat} (hi : i < (fSp F P B S).length) : (fSp F P B S).getD i 0 ∈ zL F P B S ∧ zI F P B S ((fSp F P B S).getD i 0) = fN' F P + i := by
  have hl := zL_len h
  refine ⟨?_, ?_⟩
  · rw [← zL_hi h]
    exact getD_mem (by omega)
  · rw [← zL_hi h]
    exact idx_at (zL_nd F P B S) (by omega)
theorem uU_bd {F : Nat → Nat → Int32} {P B O D W : Nat} (hi : hI F P B O D W) {S : Nat} {A : Nat → md_V} (h : zF F P B S A) (hA : fXs F P B A) {e : Int} (he : e = 1 ∨ e = -1) {k : Nat} (hk : k < (fSp F P B S).length) (b : Nat) : (uU F P B S A e k b).natAbs ≤ 2 ^ 28 := by
  by_cases hb : b ∈ zL F P B S
  · have hp := (zI_P hb).1
    have hl := zL_len h
    rw [uU_at k hb, natAbs_pm he]
    by_cases l : zI F P B S b < fN' F P
    · have hq : (fSp F P B S).getD k 0 < B := (fSp_mem.mp (getD_mem hk)).1.1
      rw [t_all.2.2.2.1 k _ hk l, Int.natAbs_neg]
      have q := tX_bd hi hA (c := (fSp F P B S).getD k 0) (r := zI F P B S b) (by omega)
      rw [fXc_bar hq] at q
      exact q
    · obtain ⟨j, hj⟩ : ∃ j, zI F P B S b = fN' F P + j := ⟨zI F P B S b - fN' F P, by omega⟩
      rw [hj, t_all.2.2.2.2 k j hk (by omega)]
      by_cases c : k = j
      · rw [if_pos c]
        exact fXs_bd28 hi hA
      · rw [if_neg c]
        decide
  · rw [uU_no k hb]
    decide
theorem lin_sum {n : Nat} {u : md_V → Int} (hl : md_lin u) (ho : md_on (List.range n) u) (v : md_V) : u v = sumK (fun c => v c * u (md_e c)) n := by
  have key : ∀ k, k ≤ n → u (fun r => if r < k then v r else 0) = sumK (fun c => v c * u (md_e c)) k := by
    intro k
    induction k with
    | zero =>
      intro _
      have q := hl 0 0 (fun _ => 0) (fun _ => 0)
      have e : (fun r : Nat => if r < 0 then v r else 0) = fun r => (0 : Int) * (fun _ => 0) r + 0 * (fun _ : Nat => (0 : Int)) r := funext fun r => by
        rw [if_neg (Nat.not_lt_zero r)]
        rfl
      rw [e, q]
      show (0 : Int) * _ + 0 * _ = 0
      omega
    | succ k ih =>
      intro hk
      have q := hl 1 (v k) (fun r => if r < k then v r else 0) (md_e k)
      have e : (fun r : Nat => if r < k + 1 then v r else 0) = fun r => 1 * (if r < k then v r else 0) + v k * md_e k r := funext fun r => by
        unfold md_e
        by_cases e1 : r = k
        · rw [if_pos (show r < k + 1 by omega), if_neg (show ¬ r < k by omega), if_pos e1, e1]
          omega
        · by_cases e2 : r < k
          · rw [if_pos (show r < k + 1 by omega), if_pos e2, if_neg e1]
            omega
          · rw [if_neg (show ¬ r < k + 1 by omega), if_neg e2, if_neg e1]
            omega
      rw [e, q, ih (by omega), Int.one_mul]
      rfl
  rw [← key n (Nat.le_refl n)]
  exact ho _ _ (fun r hr => (if_pos (List.mem_range.mp hr)).symm)
theorem fSp_Es {F : Nat → Nat → Int32} {P B S Es : Nat} (h : ∀ b, Es.testBit b = true ↔ (b < B ∧ S.testBit b = true) ∧ b ∉ fBase F P (fBl S B)) : fBl Es B = fSp F P B S := by
  show (List.range B).filter (fun j => Es.testBit j) = ((List.range B).filter (fun j => S.testBit j)).filter (fun j => decide (j ∉ fBase F P (fBl S B)))
  rw [List.filter_filter]
  refine List.filter_congr (fun b hb => ?_)
  have hb' := List.mem_range.mp hb
  have q := h b
  by_cases c : Es.testBit b = true
  · have q' := q.mp c
    rw [c, q'.1.2, decide_eq_true q'.2]
    rfl
  · have c' : Es.testBit b = false := by
      cases e : Es.testBit b
      · rfl
      · exact absurd e c
    rw [c']
    symm
    rw [Bool.and_eq_false_iff]
    by_cases s : S.testBit b = true
    · left
      refine decide_eq_false (fun hn => c (q.mpr ⟨⟨hb', s⟩, hn⟩))
    · right
      cases e : S.testBit b
      · rfl
      · exact absurd e s
theorem firm_len {F : Nat → Nat → Int32} {P B S : Nat} (hB : B ≤ 11) (hS : S < 2 ^ B) (hle : (fBase F P (fBl S B)).length ≤ fN' F P) (hf : fFirm F P B S) : (fBase F P (fBl S B)).length = fN' F P ∧ (fSp F P B S).length ≤ 2 ∧ pc S = fN' F P + (fSp F P B S).length := by
  unfold fFirm fKind kdN at hf
  have h1 : ¬ (fBase F P (fBl S B)).length < fN' F P := fun c => by
    rw [if_pos c] at hf
    omega
  rw [if_neg h1] at hf
  have h2 : (fSp F P B S).length ≤ 2 := Classical.byContradiction fun c => by
    rw [if_neg c] at hf
    omega
  refine ⟨by omega, h2, ?_⟩
  have p : (zL F P B S).Perm (fBl S B) := (List.perm_ext_iff_of_nodup (zL_nd F P B S) (fBl_nd S B)).mpr (fun b => by rw [zL_mem, fBl_mem])
  have q := p.length_eq
  unfold zL at q
  rw [List.length_append] at q
  rw [pc_fBl hB hS]
  omega
theorem gF_of {F : Nat → Nat → Int32} {P B O D W : Nat} (hi : hI F P B O D W) {σ : hv_St} (hx : rX F σ) : gF F B σ := by
  have hB := hi.2.1.2
  refine ⟨hx.1.2.1.trans hi.2.1.1, hB, fun b hb => ?_⟩
  have q := gv_e hi hb
  exact ⟨(hx.2.2.2.2.1 b (by omega)).2.2.1.trans q.1, q.2⟩
theorem x5_prepare {n : Nat} (hn : 30 < n) {F : Nat → Nat → Int32} {P B O D W : Nat} (hi : hI F P B O D W) {S : Nat} (hS : S < 2 ^ B) {σ : hv_St} (hx : rX F σ) (hz : zX F P B S σ) (hf : fFirm F P B S) : ∃ τ k w, mX5_prepare n σ = some τ ∧ qX F P B S k w τ ∧ (∀ j, j ≠ 13 → τ.1 j = σ.1 j) ∧ ∀ j, j ≠ 13 → j < 39 → τ.2 j = σ.2 j := by
  have hB := hi.2.1.2
  have hP := hi.1.2
  have hN12 : fN' F P ≤ 12 := by
    have hl : fN' F P ≤ 2 * P := fL_le F (2 * P)
    omega
  obtain ⟨A, e, ht, ⟨Eb, Es, s1, s2, s3, s4, s5, s6⟩, hsl⟩ := hz
  have ht' := ht
  obtain ⟨h1, h2, h3, h4, h5, h6, h7, h8, h9⟩ := ht
  obtain ⟨k1, k2, k3⟩ := firm_len hB hS h4 hf
  have hzf : zF F P B S A := ⟨k1, fun j hj => (h5 j (by omega)).1⟩
  have eE := fSp_Es s6
  have hbs : xBs (hv_sI σ 13 5 0) (fBase F P (fBl S B)) := ⟨by rw [hv_sI_ne _ _ _ (by decide)]; exact h7, by omega, fBase_nd F P S B, fun j hj => by
    rw [hv_sI_ne _ _ _ (by decide)]
    exact ⟨(h5 j hj).2.2, by have := (h5 j hj).2.1; omega⟩⟩
  have sc : σ.2 9 8 = iL (e * md_dt (fR F P) A (fN' F P)) := h8
  have l0 : e * md_dt (fR F P) A (fN' F P) ≠ 0 := pm_ne h1 h2
  have lr : rL (e * md_dt (fR F P) A (fN' F P)) := pm_rL h1 (fXs_bd28 hi h3)
  obtain ⟨τ1, t1, t2, t3, t4, t5⟩ := x5_prep_loop (n := n) (by omega) hB s5 (σ₀ := hv_sI σ 13 5 0) (by rw [hv_sI_ne _ _ _ (by decide)]; exact hx.1.2.1.trans hi.2.1.1) (by rw [hv_sI_ne _ _ _ (by decide)]; exact s4) hbs (fun b hb => ((s6 b).mp hb).2) (by rw [eE]; exact k2) (U := uU F P B S A e) (fun k j hk hj => by
    rw [eE] at hk ⊢
    have hq := (fSp_mem.mp (getD_mem hk)).1.1
    have hjN : j < fN' F P := by omega
    have zl := zI_lo hzf hjN
    show σ.2 (27 + j) _ = _
    rw [h9 j _ hjN (by omega), uU_at k zl.1, zl.2, t_all.2.2.2.1 k j hk hjN, fXc_bar hq, Int.mul_neg, Int.neg_neg]) (fun k hk => by
    rw [eE] at hk ⊢
    have zh := zI_hi hzf hk
    show σ.2 9 8 = _
    rw [sc, uU_at k zh.1, zh.2, t_all.2.2.2.2 k k hk hk, if_pos rfl]) (fun k b hk hb hba hbq => by
    rw [eE] at hk hbq
    by_cases hbz : b ∈ zL F P B S
    · have hbs : b ∈ fSp F P B S := fSp_mem.mpr ⟨zL_mem.mp hbz, hba⟩
      obtain ⟨i, hi', rfl⟩ := mem_getD hbs
      have zh := zI_hi hzf hi'
      rw [uU_at k zh.1, zh.2, t_all.2.2.2.2 k i hk hi', if_neg (fun q => hbq (by rw [q])), Int.mul_zero]
    · exact uU_no k hbz) B 0 n (hv_sI σ 13 5 0) (by omega) (by omega) (fun _ _ => rfl) (fun _ _ _ => rfl) (by rw [hv_sI_rd, if_pos rfl]; rfl) (fun k c hk => absurd hk (Nat.not_lt_zero _))
  rw [eE] at t4 t5
  have f1 : ∀ j, j ≠ 13 → τ1.1 j = σ.1 j := fun j hj => (t2 j hj).trans (hv_sI_ne _ _ _ hj)
  have f2 : ∀ j, j ≠ 39 → j ≠ 40 → τ1.2 j = σ.2 j := fun j a b => t3 j a b
  have hg : gF F B τ1 := ⟨by rw [f1 1 (by decide)]; exact (gF_of hi hx).1, hB, fun b hb => by rw [f1 7 (by decide)]; exact (gF_of hi hx).2.2 b hb⟩
  have t0 : mX5_prepare n σ = _ := t1
  -- the table stands through it
  have tab : ∀ τ : hv_St, (∀ j, j ≠ 13 → τ.1 j = σ.1 j) → (∀ j, j ≠ 13 → j < 39 → τ.2 j = σ.2 j) → tX F P B τ (fBase F P (fBl S B)) A e ∧ ∀ j, j < fN' F P → τ.1 11 j = nI ((fL F (2 * P)).getD j 0) := fun τ g1 g2 => by
    refine ⟨⟨h1, h2, h3, h4, fun j hj => ?_, ?_, ?_, ?_, fun r c hr hc => ?_⟩, fun j hj => ?_⟩
    · rw [g1 12 (by decide)]; exact h5 j hj
    · rw [g1 9 (by decide)]; exact h6
    · rw [g1 9 (by decide)]; exact h7
    · rw [g2 9 (by decide) (by decide)]; exact h8
    · have hr' : r < fN' F P := hr
      rw [g2 (27 + r) (by omega) (by omega)]; exact h9 r c hr hc
    · rw [g1 11 (by decide)]; exact hsl j hj
  rcases (show (fSp F P B S).length = 0 ∨ (fSp F P B S).length = 1 ∨ (fSp F P B S).length = 2 by omega) with hm | hm | hm
  · refine ⟨hv_sJ τ1 13 6 (τ1.2 9 8), e * md_dt (fR F P) A (fN' F P), e * md_dt (fR F P) A (fN' F P), ?_, ?_, f1, fun j j1 j2 => ?_⟩
    · rw [t0, t4, hm, if_pos (show nI 0 = 0 from rfl)]
      rfl
    · obtain ⟨a1, a2⟩ := tab (hv_sJ τ1 13 6 (τ1.2 9 8)) f1 (fun j j1 j2 => by rw [hv_sJ_ne _ _ _ j1]; exact f2 j (by omega) (by omega))
      refine ⟨A, e, a1, hzf, a2, k2, k3, hg, t4, fun i b hi' => by omega, fun q => by omega, ?_, by rw [if_pos hm], ?_⟩
      · rw [hv_sJ_rd, if_pos rfl, f2 9 (by decide) (by decide)]
        exact sc
      · rw [(u_0 hB hS hzf hm (by omega)).1, sq_pm h1]
    · rw [hv_sJ_ne _ _ _ j1]
      exact f2 j (by omega) (by omega)
  · have st : ∀ b, b < B → mX5_stateOf n τ1 0 (nI b) = some (iL (uU F P B S A e 0 b), τ1) := fun b hb => (x5_stateOf (n := n) hB (m := 1) (by decide) (by rw [t4, hm]) (k := 0) (b := b) hb).1 (by decide) (t5 0 b (by omega) (by omega))
    refine ⟨hv_sJ τ1 13 6 (iL (sumK (fun b => gv F b * uU F P B S A e 0 b * uU F P B S A e 0 b) B)), 1, sumK (fun b => gv F b * uU F P B S A e 0 b * uU F P B S A e 0 b) B, ?_, ?_, f1, fun j j1 j2 => ?_⟩
    · rw [t0, t4, hm, if_neg (show ¬ nI 1 = 0 by decide), if_pos (show nI 1 = (1 : Int32) from rfl), x5_giving (n := n) (by omega) hg st st, hv_b2_e, hv_let_e]
    · obtain ⟨a1, a2⟩ := tab (hv_sJ τ1 13 6 (iL (sumK (fun b => gv F b * uU F P B S A e 0 b * uU F P B S A e 0 b) B))) f1 (fun j j1 j2 => by rw [hv_sJ_ne _ _ _ j1]; exact f2 j (by omega) (by omega))
      refine ⟨A, e, a1, hzf, a2, k2, k3, hg, t4, fun i b hi' hb => ?_, fun q => by omega, by rw [hv_sJ_rd, if_pos rfl], by rw [if_neg (by omega)], by rw [Int.one_mul]; exact u_1 hB hS hzf hm (by omega) h1⟩
      rw [hv_sJ_ne _ _ _ (by omega)]
      exact t5 i b hi' (by omega)
    · rw [hv_sJ_ne _ _ _ j1]
      exact f2 j (by omega) (by omega)
  · have bd : ∀ k b, k < 2 → (uU F P B S A e k b).natAbs ≤ 2 ^ 28 := fun k b hk => uU_bd hi hzf h3 h1 (by omega) b
    obtain ⟨τ, p1, p2, p3, p4, p5⟩ := x5_layPairs (n := n) (by omega) hg (U0 := uU F P B S A e 0) (U1 := uU F P B S A e 1) (fun b hb => t5 0 b (by omega) (by omega)) (fun b hb => t5 1 b (by omega) (by omega)) (l := e * md_dt (fR F P) A (fN' F P)) (by rw [f2 9 (by decide) (by decide)]; exact sc) l0 lr (pr := pP F P B S A e) (fun a b ha hb => ⟨id_2 hzf h1 a b, rL_of (rL_56 (bd 0 a (by decide)) (bd 1 b (by decide)) (bd 0 b (by decide)) (bd 1 a (by decide)))⟩)
    have g1 : ∀ j, j ≠ 13 → τ.1 j = σ.1 j := fun j hj => by rw [p2]; exact f1 j hj
    have g2 : ∀ j, j ≠ 13 → j < 39 → τ.2 j = σ.2 j := fun j j1 j2 => by
      rw [p3 j (by omega) j1]
      exact f2 j (by omega) (by omega)
    refine ⟨τ, 1, w2 F B (pP F P B S A e), ?_, ?_, g1, g2⟩
    · rw [t0, t4, hm, if_neg (show ¬ nI 2 = 0 by decide), if_neg (show ¬ nI 2 = (1 : Int32) by decide), p1]
      rfl
    · obtain ⟨a1, a2⟩ := tab τ g1 g2
      refine ⟨A, e, a1, hzf, a2, k2, k3, ⟨by rw [p2]; exact hg.1, hB, fun b hb => by rw [p2]; exact hg.2.2 b hb⟩, by rw [p2]; exact t4, fun i b hi' hb => ?_, fun _ => p5, p4, by rw [if_neg (by omega)], by rw [Int.one_mul]; exact u_2 hB hS hzf hm (by omega) h1⟩
      rw [p3 (39 + i) (by omega) (by omega)]
      exact t5 i b hi' (by omega)
end
section
/-! overs; bounds of the reference's sums -/
def qA (F : Nat → Nat → Int32) (P B S : Nat) (k w : Int) (A : Nat → md_V) (e : Int) (τ : hv_St) : Prop := tX F P B τ (fBase F P (fBl S B)) A e ∧ zF F P B S A ∧ (∀ j, j < fN' F P → τ.1 11 j = nI ((fL F (2 * P)).getD j 0)) ∧ (fSp F P B S).length ≤ 2 ∧ pc S = fN' F P + (fSp F P B S).length ∧ gF F B τ ∧ τ.1 13 5 = nI (fSp F P B S).length ∧ (∀ i b, i < (fSp F P B S).length → b < B → τ.2 (39 + i) b = iL (uU F P B S A e i b)) ∧ ((fSp F P B S).length = 2 → ∀ a b, a < B → b < B → τ.2 (41 + a) b = iL (pP F P B S A e a b)) ∧ τ.2 13 6 = iL w ∧ k = (if (fSp F P B S).length = 0 then e * md_dt (fR F P) A (fN' F P) else 1) ∧ uSum F P B S = k * w
/-- .. and the bare pulls by the loads z -/
def oX (F : Nat → Nat → Int32) (P B S : Nat) (k w : Int) (z : Nat → Int) (τ : hv_St) : Prop := ∃ A e, qA F P B S k w A e τ ∧ ∀ b, b < B → τ.2 14 b = iL (vV F P B S A e z b)
theorem qA_mono {F : Nat → Nat → Int32} {P B S : Nat} {k w : Int} {A : Nat → md_V} {e : Int} {σ τ : hv_St} (hB : B ≤ 11) (hP : P ≤ 6) (h : qA F P B S k w A e σ) (h1 : ∀ j, j ≠ 25 → τ.1 j = σ.1 j) (h2 : ∀ j, j ≠ 14 → j ≠ 26 → τ.2 j = σ.2 j) : qA F P B S k w A e τ := by
  obtain ⟨⟨a1, a2, a3, a4, a5, a6, a7, a8, a9⟩, b, c, d, e', ⟨g1, g2, g3⟩, u, v, p, w', kk, uu⟩ := h
  refine ⟨⟨a1, a2, a3, a4, fun j hj => ?_, ?_, ?_, ?_, fun r c hr hc => ?_⟩, b, fun j hj => ?_, d, e', ⟨?_, g2, fun b hb => ?_⟩, ?_, fun i b hi hb => ?_, fun q a b ha hb => ?_, ?_, kk, uu⟩
  · rw [h1 12 (by decide)]; exact a5 j hj
  · rw [h1 9 (by decide)]; exact a6
  · rw [h1 9 (by decide)]; exact a7
  · rw [h2 9 (by decide) (by decide)]; exact a8
  · rw [h2 (27 + r) (by omega) (by omega)]; exact a9 r c hr hc
  · rw [h1 11 (by decide)]; exact c j hj
  · rw [h1 1 (by decide)]; exact g1
  · rw [h1 7 (by decide)]; exact g3 b hb
  · rw [h1 13 (by decide)]; exact u
  · rw [h2 (39 + i) (by omega) (by omega)]; exact v i b hi hb
  · rw [h2 (41 + a) (by omega) (by omega)]; exact p q a b ha hb
  · rw [h2 13 (by decide) (by decide)]; exact w'
theorem oX_mono {F : Nat → Nat → Int32} {P B S : Nat} {k w : Int} {z : Nat → Int} {σ τ : hv_St} (hB : B ≤ 11) (hP : P ≤ 6) (h : oX F P B S k w z σ) (h1 : ∀ j, j ≠ 25 → τ.1 j = σ.1 j) (h2 : ∀ j, j ≠ 26 → τ.2 j = σ.2 j) : oX F P B S k w z τ := by
  obtain ⟨A, e, q, v⟩ := h
  exact ⟨A, e, qA_mono hB hP q h1 (fun j _ j2 => h2 j j2), fun b hb => by rw [h2 14 (by decide)]; exact v b hb⟩
theorem vV_bd {F : Nat → Nat → Int32} {P B O D W : Nat} (hi : hI F P B O D W) {S : Nat} {A : Nat → md_V} (h : zF F P B S A) (hA : fXs F P B A) (hN : fN' F P ≤ 11) {e : Int} (he : e = 1 ∨ e = -1) {z : Nat → Int} (hz : ∀ s, s < 12 → (z s).natAbs ≤ 9) (b : Nat) : (vV F P B S A e z b).natAbs ≤ 2 ^ 30 := by
  by_cases hb : b ∈ zL F P B S
  · have hp := (zI_P hb).1
    have hl := zL_len h
    rw [vV_at hb, natAbs_pm he]
    by_cases l : zI F P B S b < fN' F P
    · rw [t_all.2.1 _ _ l]
      have q := md_dt_W2 (R := fR F P) (nd_range _) (w := 5) (z := 108) (A := A) l (fun k hk => by
        obtain ⟨c, -, ec⟩ := hA k hk
        rw [ec]
        exact fXc_W hi c) (fCo_W hi.1.2 hz)
      refine Nat.le_trans q (Nat.le_trans (Nat.mul_le_mul_left 108 (Nat.pow_le_pow_right (show 0 < 5 by decide) (show fN' F P - 1 ≤ 10 by omega))) (by decide))
    · obtain ⟨j, hj⟩ : ∃ j, zI F P B S b = fN' F P + j := ⟨zI F P B S b - fN' F P, by omega⟩
      rw [hj, t_all.2.2.1 _ j (by omega)]
      decide
  · rw [vV_no hb]
    decide
theorem dN_bd {F : Nat → Nat → Int32} {P B O D W : Nat} (hi : hI F P B O D W) {S T : Nat} (hT : T < 2 ^ B) (h : bC F P S T = true) : (dN F P B T).natAbs ≤ 5 ^ fN' F P := dS_rL hi (by rw [← pc_fBl hi.2.1.2 hT]; exact (bC_iff.mp h).2)
theorem pP_bd {F : Nat → Nat → Int32} {P B O D W : Nat} (hi : hI F P B O D W) {S : Nat} (hS : S < 2 ^ B) {A : Nat → md_V} (h : zF F P B S A) (hm : (fSp F P B S).length = 2) (hN : pc S = fN' F P + 2) {e : Int} (he : e = 1 ∨ e = -1) (a b : Nat) : (pP F P B S A e a b).natAbs ≤ 2 ^ 28 := by
  have hB := hi.2.1.2
  have hl : fN' F P ≤ 2 * P := fL_le F (2 * P)
  have hP := hi.1.2
  have key : ∀ a b, a < b → a ∈ zL F P B S → b ∈ zL F P B S → (pP F P B S A e a b).natAbs ≤ 2 ^ 28 := fun a b hab ha hb => by
    obtain ⟨s, hs, q, -⟩ := r_min2 h hm (zI_P ha) (zI_P hb) (zI_ne ha hb (by omega))
    have bc : bC F P S (andn S (2 ^ a ||| 2 ^ b)) = true := (bC_2 hB hS hN).mpr ⟨a, b, hab, (zL_mem.mp hb).1, (zL_mem.mp ha).2, (zL_mem.mp hb).2, rfl⟩
    have d := dN_bd hi (andn_lt hS) bc
    rw [q, natAbs_pm hs] at d
    rw [pP_at ⟨ha, hb, by omega⟩, natAbs_pm he]
    exact Nat.le_trans d (pow5 (by omega))
  by_cases c : a ∈ zL F P B S ∧ b ∈ zL F P B S ∧ a ≠ b
  · rcases Nat.lt_or_gt_of_ne c.2.2 with l | l
    · exact key a b l c.1 c.2.1
    · rw [pP_anti h, Int.natAbs_neg]
      exact key b a l c.2.1 c.1
  · rw [pP_no c]
    decide
theorem x_bear {n : Nat} (hn : 20 < n) {F : Nat → Nat → Int32} {P B O D W : Nat} (hi : hI F P B O D W) {S : Nat} {k w : Int} {A : Nat → md_V} {e : Int} {τ : hv_St} (h : qA F P B S k w A e τ) {q : Nat} {z : Nat → Int} (hz : ∀ s, s < 12 → τ.1 q s = iI (z s) ∧ (z s).natAbs ≤ 9) : ∃ g, mX5_bear n τ q = some (hv_wJ τ 14 g) ∧ qA F P B S k w A e (hv_wJ τ 14 g) ∧ ∀ b, b < B → (hv_wJ τ 14 g).2 14 b = iL (vV F P B S A e z b) := by
  have hB := hi.2.1.2
  have hP := hi.1.2
  have hl : fN' F P ≤ 2 * P := fL_le F (2 * P)
  have eN : fN' F P = (fL F (2 * P)).length := rfl
  have hq := h
  obtain ⟨⟨h1, h2, h3, h4, h5, h6, h7, h8, h9⟩, hzf, hsl, -, -, hg, -⟩ := h
  have hbs : xBs τ (fBase F P (fBl S B)) := ⟨h7, by omega, fBase_nd F P S B, fun j hj => ⟨(h5 j hj).2.2, by have := (h5 j hj).2.1; omega⟩⟩
  obtain ⟨g, g1, g2⟩ := x5_bear (n := n) hn (σ := τ) (q := q) (N := fN' F P) (B := B) h6 (by omega) hg.1 hbs (sl := fun c => (fL F (2 * P)).getD c 0) (fun c hc => ⟨hsl c hc, by have := (fL_lt hc).1; omega⟩) hz (M := fun j c => e * md_T (fR F P) (fN' F P) A (md_e c) j) (fun j c hj hc => by
    have := h9 j (B + c) (by omega) (by omega)
    rw [this]
    unfold fXc
    rw [if_neg (by omega), Nat.add_sub_cancel_left]) (V := vV F P B S A e z) (fun j hj => by
    have hjN : j < fN' F P := by omega
    have zl := zI_lo hzf hjN
    have ls := lin_sum (n := fN' F P) (md_dt_lin (fR F P) A (i := j) (n := fN' F P) hjN) (md_dt_on (fR F P) A (i := j) (n := fN' F P) hjN) (fCo F P z)
    have ls' : md_T (fR F P) (fN' F P) A (fCo F P z) j = sumK (fun c => fCo F P z c * md_T (fR F P) (fN' F P) A (md_e c) j) (fN' F P) := ls
    rw [vV_at zl.1, zl.2, t_all.2.1 _ j hjN, ls']
    have gen : ∀ m, e * sumK (fun c => fCo F P z c * md_T (fR F P) (fN' F P) A (md_e c) j) m = -(sumK (fun c => e * md_T (fR F P) (fN' F P) A (md_e c) j * z ((fL F (2 * P)).getD c 0)) m) := fun m => by
      induction m with
      | zero => show e * 0 = -0; omega
      | succ m ih =>
        show e * (_ + fCo F P z m * _) = -(_ + e * _ * z ((fL F (2 * P)).getD m 0))
        rw [Int.mul_add, ih]
        have ec : fCo F P z m = -(z ((fL F (2 * P)).getD m 0)) := rfl
        rw [ec]
        grind
    exact gen _) (fun b hb hba => by
    by_cases hbz : b ∈ zL F P B S
    · have hbs : b ∈ fSp F P B S := fSp_mem.mpr ⟨zL_mem.mp hbz, hba⟩
      obtain ⟨i, hi', rfl⟩ := mem_getD hbs
      have zh := zI_hi hzf hi'
      rw [vV_at zh.1, zh.2, t_all.2.2.1 _ i hi', Int.mul_zero]
    · exact vV_no hbz)
  refine ⟨g, g1, qA_mono (σ := τ) hB hP hq (fun _ _ => rfl) (fun j j1 _ => hv_wJ_ne _ _ j1), fun b hb => ?_⟩
  rw [hv_wJ_at]
  exact g2 b (by omega)
theorem over_of {n : Nat} (hn : 20 < n) {F : Nat → Nat → Int32} {P B O D W : Nat} (hi : hI F P B O D W) {S : Nat} (hS : S < 2 ^ B) {k w : Int} {z : Nat → Int} (hz : ∀ s, s < 12 → (z s).natAbs ≤ 9) {τ : hv_St} (h : oX F P B S k w z τ) {c : Nat} (hc : c < B) (hcs : S.testBit c = true) : ∃ oc, oSum F P B S z c = k * oc ∧ mX5_overOf n τ (nI c) = some (iL oc, τ) := by
  have hB := hi.2.1.2
  obtain ⟨A, e, ⟨ht, hzf, hsl, hm2, hpc, hg, hm, hu, hp, hw, hk, -⟩, hv⟩ := h
  obtain ⟨h1, h2, h3, h4, h5, h6, h7, h8, h9⟩ := ht
  have hcL := (zL_mem (F := F) (P := P)).mpr ⟨hc, hcs⟩
  have l0 : e * md_dt (fR F P) A (fN' F P) ≠ 0 := pm_ne h1 h2
  have lr : rL (e * md_dt (fR F P) A (fN' F P)) := pm_rL h1 (fXs_bd28 hi h3)
  have hN11 : fN' F P ≤ 11 := by
    have q1 := pc_fBl hB hS
    have q2 := List.length_filter_le (fun j => S.testBit j) (List.range B)
    rw [List.length_range] at q2
    have q3 : (fBl S B).length ≤ B := q2
    omega
  have vb : ∀ b, (vV F P B S A e z b).natAbs ≤ 2 ^ 30 := fun b => vV_bd hi hzf h3 hN11 h1 hz b
  unfold mX5_overOf
  rcases (show (fSp F P B S).length = 0 ∨ (fSp F P B S).length = 1 ∨ (fSp F P B S).length = 2 by omega) with m | m | m
  · refine ⟨vV F P B S A e z c, ?_, ?_⟩
    · rw [(u_0 hB hS hzf m (by omega)).2 z c hcL, hk, if_pos m, vV_at hcL, pr_pm h1]
    · rw [hm, m, if_pos (show nI 0 = 0 from rfl), hv_if_t (hv_ok_nI (show c < 11 by omega) (by decide)), nI_clamp (by omega), hv c hc]
  · refine ⟨sumK (fun a => gv F a * uU F P B S A e 0 a * aA1 F P B S A e z c a) B, ?_, ?_⟩
    · rw [hk, if_neg (by omega), Int.one_mul]
      exact o_1 hB hS hzf m (by omega) h1 z hcL
    · have ub : ∀ b, (uU F P B S A e 0 b).natAbs ≤ 2 ^ 28 := fun b => uU_bd hi hzf h3 h1 (by omega) b
      rw [hm, m, if_neg (show ¬ nI 1 = 0 by decide), if_pos (show nI 1 = (1 : Int32) from rfl), x5_over1 (n := n) hn hg (U := uU F P B S A e 0) (V := vV F P B S A e z) (al := aA1 F P B S A e z c) hc (fun b hb => hu 0 b (by omega) hb) hv h8 l0 lr (fun a ha => ⟨id_1 hzf h1 z hcL a, rL_of ?_⟩), hv_b2_e]
      have b1 : (vV F P B S A e z c * uU F P B S A e 0 a).natAbs ≤ 2 ^ 58 := by
        rw [Int.natAbs_mul]
        exact Nat.le_trans (Nat.mul_le_mul (vb c) (ub a)) (by decide)
      have b2 : (vV F P B S A e z a * uU F P B S A e 0 c).natAbs ≤ 2 ^ 58 := by
        rw [Int.natAbs_mul]
        exact Nat.le_trans (Nat.mul_le_mul (vb a) (ub c)) (by decide)
      omega
  · refine ⟨o2 F B (pP F P B S A e) (aA2 F P B S A e z c), ?_, ?_⟩
    · rw [hk, if_neg (by omega), Int.one_mul]
      exact o_2 hB hS hzf m (by omega) h1 z hcL
    · have pb : ∀ a b, (pP F P B S A e a b).natAbs ≤ 2 ^ 28 := fun a b => pP_bd hi hS hzf m (by omega) h1 a b
      rw [hm, m, if_neg (show ¬ nI 2 = 0 by decide), if_neg (show ¬ nI 2 = (1 : Int32) by decide), x5_over2 (n := n) hn hg (V := vV F P B S A e z) (pr := pP F P B S A e) (al := aA2 F P B S A e z c) hc (hp m) hv h8 l0 lr (fun a b hab hb => ⟨id_3 hzf h1 z hcL (by omega), rL_of ?_⟩), hv_b2_e]
      have b1 : ∀ x y y', (vV F P B S A e z x * pP F P B S A e y y').natAbs ≤ 2 ^ 58 := fun x y y' => by
        rw [Int.natAbs_mul]
        exact Nat.le_trans (Nat.mul_le_mul (vb x) (pb y y')) (by decide)
      have c1 := b1 c a b
      have c2 := b1 a c b
      have c3 := b1 b c a
      omega
end
section
/-! how large the sums of the reference are -/
theorem sumK_bd {f : Nat → Int} {M : Nat} : ∀ k, (∀ i, i < k → (f i).natAbs ≤ M) → (sumK f k).natAbs ≤ k * M
  | 0, _ => by
    show (0 : Int).natAbs ≤ _
    simp
  | k + 1, h => by
    have q := sumK_bd k (fun i hi => h i (by omega))
    have r := h k (by omega)
    have e : (k + 1) * M = k * M + M := Nat.succ_mul k M
    show (sumK f k + f k).natAbs ≤ _
    omega
theorem sumK_nn {f : Nat → Int} : ∀ k, (∀ i, i < k → 0 ≤ f i) → 0 ≤ sumK f k
  | 0, _ => Int.le_refl 0
  | k + 1, h => by
    have q := sumK_nn k (fun i hi => h i (by omega))
    have r := h k (by omega)
    show 0 ≤ sumK f k + f k
    omega
theorem sumK_pos {f : Nat → Int} : ∀ k, (∀ i, i < k → 0 ≤ f i) → ∀ i, i < k → 0 < f i → 0 < sumK f k
  | 0, _, i, hi, _ => absurd hi (Nat.not_lt_zero _)
  | k + 1, h, i, hi, hp => by
    show 0 < sumK f k + f k
    by_cases e : i = k
    · have q := sumK_nn k (fun j hj => h j (by omega))
      rw [e] at hp
      omega
    · have q := sumK_pos k (fun j hj => h j (by omega)) i (by omega) hp
      have r := h k (by omega)
      omega
theorem mul3 {g a b : Int} {G X Y : Nat} (hg : g.natAbs ≤ G) (ha : a.natAbs ≤ X) (hb : b.natAbs ≤ Y) : (g * a * b).natAbs ≤ G * X * Y := by
  rw [Int.natAbs_mul, Int.natAbs_mul]
  exact Nat.mul_le_mul (Nat.mul_le_mul hg ha) hb
theorem dSc_bd {F : Nat → Nat → Int32} {P B O D W : Nat} (hi : hI F P B O D W) {T c : Nat} (hTl : (fBl T B).length = fN' F P) (hc : c ∈ fBl T B) {z : Nat → Int} (hz : ∀ s, s < 12 → (z s).natAbs ≤ 9) : (dS F P B T (eB c) (fCo F P z)).natAbs ≤ 108 * 5 ^ (fN' F P - 1) := by
  obtain ⟨pre, post, e⟩ := List.append_of_mem hc
  have nd := fBl_nd T B
  rw [e, List.nodup_append] at nd
  have n2 := List.nodup_cons.mp nd.2.1
  have hw : ∀ b, b ∈ fBl T B → b ≠ c → md_W (fR F P) (gC F P (eB c) (fCo F P z) b) 5 := fun b hb hbc => by
    unfold gC eB
    rw [if_neg (fun q => hbc (of_decide_eq_true q))]
    exact fCol_W hi (fBl_mem.mp hb).1
  have gc : gC F P (eB c) (fCo F P z) c = fCo F P z := by
    unfold gC eB
    rw [if_pos (by simp)]
  have q := md_D_W2 (R := fR F P) (nd_range _) (w := 5) (z := 108) (c := pre.map (gC F P (eB c) (fCo F P z))) (d := post.map (gC F P (eB c) (fCo F P z))) (x := fCo F P z) (fun v hv => by
    obtain ⟨b, hb, rfl⟩ := List.mem_map.mp hv
    exact hw b (by rw [e]; exact List.mem_append_left _ hb) (fun q => nd.2.2 b hb c List.mem_cons_self q)) (fCo_W hi.1.2 hz) (fun v hv => by
    obtain ⟨b, hb, rfl⟩ := List.mem_map.mp hv
    exact hw b (by rw [e]; exact List.mem_append_right _ (List.mem_cons_of_mem _ hb)) (fun q => n2.1 (q ▸ hb)))
  have el : (fBl T B).length = pre.length + (post.length + 1) := by rw [e, List.length_append, List.length_cons]
  rw [List.length_map, List.length_map, show pre.length + post.length = fN' F P - 1 by omega] at q
  unfold dS
  rw [e, List.map_append, List.map_cons, gc]
  exact q
theorem gv_abs {F : Nat → Nat → Int32} {P B O D W : Nat} (hi : hI F P B O D W) {b : Nat} (hb : b < B) : (gv F b).natAbs ≤ 3 := by
  have := gv_e hi hb
  omega
theorem p5le {N M : Nat} (h : N ≤ M) : 5 ^ N ≤ 5 ^ M := Nat.pow_le_pow_right (by decide) h
theorem uS_bd {F : Nat → Nat → Int32} {P B O D W : Nat} (hi : hI F P B O D W) {S : Nat} (hS : S < 2 ^ B) {m : Nat} (hm : m ≤ 2) (hN : pc S = fN' F P + m) (hNm : fN' F P + m ≤ 11) : (uSum F P B S).natAbs ≤ 2 ^ 52 := by
  have hB := hi.2.1.2
  have e0 : andn S S = 0 := sub_iff.mpr (fun j hj => hj)
  show (sumK (fun T => if bC F P S T = true then gPr F (andn S T) B * dN F P B T * dN F P B T else 0) (2 ^ B)).natAbs ≤ _
  rcases (show m = 0 ∨ m = 1 ∨ m = 2 by omega) with rfl | rfl | rfl
  · rw [sum_0 hB hS hN, e0, gPr_zero]
    have d := Nat.le_trans (dN_bd hi hS ((bC_0 hB hS hN).mpr rfl)) (p5le (show fN' F P ≤ 11 by omega))
    exact Nat.le_trans (mul3 (G := 1) (by decide) d d) (by decide)
  · rw [sum_1 hB hS hN]
    refine Nat.le_trans (sumK_bd (M := 3 * 5 ^ 10 * 5 ^ 10) B (fun a ha => ?_)) (Nat.le_trans (Nat.mul_le_mul_right _ hB) (by decide))
    by_cases ts : S.testBit a = true
    · have d := Nat.le_trans (dN_bd hi (T := andn S (2 ^ a)) (andn_lt hS) ((bC_1 hB hS hN).mpr ⟨a, ha, ts, rfl⟩)) (p5le (show fN' F P ≤ 10 by omega))
      rw [if_pos ts, del_1 ts, gPr_one, if_pos ha]
      exact mul3 (gv_abs hi ha) d d
    · rw [if_neg ts]
      exact Nat.zero_le _
  · rw [sum_2 hB hS hN]
    refine Nat.le_trans (sumK_bd (M := 11 * (9 * 5 ^ 9 * 5 ^ 9)) B (fun a ha => Nat.le_trans (sumK_bd (M := 9 * 5 ^ 9 * 5 ^ 9) B (fun b hb => ?_)) (Nat.mul_le_mul_right _ hB))) (Nat.le_trans (Nat.mul_le_mul_right _ hB) (by decide))
    by_cases hab : a < b
    · rw [if_pos hab]
      by_cases ts : S.testBit a = true ∧ S.testBit b = true
      · have d := Nat.le_trans (dN_bd hi (T := andn S (2 ^ a ||| 2 ^ b)) (andn_lt hS) ((bC_2 hB hS hN).mpr ⟨a, b, hab, hb, ts.1, ts.2, rfl⟩)) (p5le (show fN' F P ≤ 9 by omega))
        rw [if_pos ts, del_2 ts.1 ts.2, gPr_two F hab, if_pos ha, if_pos hb]
        refine mul3 ?_ d d
        rw [Int.natAbs_mul]
        exact Nat.mul_le_mul (gv_abs hi ha) (gv_abs hi hb)
      · rw [if_neg ts]
        exact Nat.zero_le _
    · rw [if_neg hab]
      exact Nat.zero_le _
theorem oT_bd {F : Nat → Nat → Int32} {P B O D W : Nat} (hi : hI F P B O D W) {S T : Nat} (hT : T < 2 ^ B) (h : bC F P S T = true) {z : Nat → Int} (hz : ∀ s, s < 12 → (z s).natAbs ≤ 9) {g : Int} {G : Nat} (hg : g.natAbs ≤ G) (c : Nat) {M : Nat} (hM : fN' F P ≤ M) : (oT F P B (fCo F P z) T g c).natAbs ≤ G * 5 ^ M * (108 * 5 ^ (M - 1)) := by
  have hB := hi.2.1.2
  unfold oT
  by_cases tc : T.testBit c = true
  · rw [if_pos tc]
    have hTl : (fBl T B).length = fN' F P := by rw [← pc_fBl hB hT]; exact (bC_iff.mp h).2
    have hcB : c < B := Nat.lt_of_not_le fun q => by
      have := Nat.testBit_lt_two_pow (Nat.lt_of_lt_of_le hT (Nat.pow_le_pow_right (show 0 < 2 by decide) q))
      rw [this] at tc
      exact absurd tc (by decide)
    have d2 := dSc_bd hi hTl (fBl_mem.mpr ⟨hcB, tc⟩) hz
    exact mul3 hg (Nat.le_trans (dN_bd hi hT h) (p5le hM)) (Nat.le_trans d2 (Nat.mul_le_mul_left _ (p5le (by omega))))
  · rw [if_neg tc]
    exact Nat.zero_le _
theorem oS_bd {F : Nat → Nat → Int32} {P B O D W : Nat} (hi : hI F P B O D W) {S : Nat} (hS : S < 2 ^ B) {m : Nat} (hm : m ≤ 2) (hN : pc S = fN' F P + m) (hNm : fN' F P + m ≤ 11) {z : Nat → Int} (hz : ∀ s, s < 12 → (z s).natAbs ≤ 9) (c : Nat) : (oSum F P B S z c).natAbs ≤ 2 ^ 57 := by
  have hB := hi.2.1.2
  have e0 : andn S S = 0 := sub_iff.mpr (fun j hj => hj)
  show (sumK (fun T => if bC F P S T = true then oT F P B (fCo F P z) T (gPr F (andn S T) B) c else 0) (2 ^ B)).natAbs ≤ _
  rcases (show m = 0 ∨ m = 1 ∨ m = 2 by omega) with rfl | rfl | rfl
  · rw [sum_0 hB hS hN, e0, gPr_zero]
    exact Nat.le_trans (oT_bd hi hS ((bC_0 hB hS hN).mpr rfl) hz (g := 1) (G := 1) (by decide) c (M := 11) (by omega)) (by decide)
  · rw [sum_1 hB hS hN]
    refine Nat.le_trans (sumK_bd (M := 3 * 5 ^ 10 * (108 * 5 ^ (10 - 1))) B (fun a ha => ?_)) (Nat.le_trans (Nat.mul_le_mul_right _ hB) (by decide))
    by_cases ts : S.testBit a = true
    · rw [if_pos ts, del_1 ts, gPr_one, if_pos ha]
      exact oT_bd hi (T := andn S (2 ^ a)) (andn_lt hS) ((bC_1 hB hS hN).mpr ⟨a, ha, ts, rfl⟩) hz (gv_abs hi ha) c (by omega)
    · rw [if_neg ts]
      exact Nat.zero_le _
  · rw [sum_2 hB hS hN]
    refine Nat.le_trans (sumK_bd (M := 11 * (9 * 5 ^ 9 * (108 * 5 ^ (9 - 1)))) B (fun a ha => Nat.le_trans (sumK_bd (M := 9 * 5 ^ 9 * (108 * 5 ^ (9 - 1))) B (fun b hb => ?_)) (Nat.mul_le_mul_right _ hB))) (Nat.le_trans (Nat.mul_le_mul_right _ hB) (by decide))
    by_cases hab : a < b
    · rw [if_pos hab]
      by_cases ts : S.testBit a = true ∧ S.testBit b = true
      · rw [if_pos ts, del_2 ts.1 ts.2, gPr_two F hab, if_pos ha, if_pos hb]
        refine oT_bd hi (T := andn S (2 ^ a ||| 2 ^ b)) (andn_lt hS) ((bC_2 hB hS hN).mpr ⟨a, b, hab, hb, ts.1, ts.2, rfl⟩) hz (G := 9) ?_ c (by omega)
        rw [Int.natAbs_mul]
        exact Nat.mul_le_mul (gv_abs hi ha) (gv_abs hi hb)
      · rw [if_neg ts]
        exact Nat.zero_le _
    · rw [if_neg hab]
      exact Nat.zero_le _
theorem sq_nn (g u : Int) (hg : 0 < g) : 0 ≤ g * u * u ∧ (u ≠ 0 → 0 < g * u * u) := by
  have e : g * u * u = g * (u * u) := Int.mul_assoc g u u
  have h1 : 0 ≤ u * u := by
    rcases Int.le_total 0 u with h | h
    · exact Int.mul_nonneg h h
    · exact Int.mul_nonneg_of_nonpos_of_nonpos h h
  rw [e]
  refine ⟨Int.mul_nonneg (by omega) h1, fun hu => Int.mul_pos hg ?_⟩
  have h2 : u * u ≠ 0 := Int.mul_ne_zero hu hu
  omega
theorem uS_pos {F : Nat → Nat → Int32} {P B O D W : Nat} (hi : hI F P B O D W) {S : Nat} (hS : S < 2 ^ B) {A : Nat → md_V} (h : zF F P B S A) (hd : md_dt (fR F P) A (fN' F P) ≠ 0) (hm : (fSp F P B S).length ≤ 2) (hN : pc S = fN' F P + (fSp F P B S).length) : 0 < uSum F P B S := by
  have hB := hi.2.1.2
  have e1 : (1 : Int) = 1 ∨ (1 : Int) = -1 := Or.inl rfl
  rcases (show (fSp F P B S).length = 0 ∨ (fSp F P B S).length = 1 ∨ (fSp F P B S).length = 2 by omega) with m | m | m
  · rw [(u_0 hB hS h m (by omega)).1]
    have q := (sq_nn 1 _ (by decide)).2 hd
    rw [Int.one_mul] at q
    exact q
  · have zh := zI_hi h (i := 0) (by omega)
    have h0 := (zL_mem.mp zh.1).1
    rw [u_1 hB hS h m (by omega) e1]
    refine sumK_pos B (fun a ha => (sq_nn _ _ (by have := gv_e hi ha; omega)).1) _ h0 ((sq_nn _ _ (by have := gv_e hi h0; omega)).2 ?_)
    rw [uU_at 0 zh.1, zh.2, Int.one_mul, t_all.2.2.2.2 0 0 (by omega) (by omega), if_pos rfl]
    exact hd
  · have z0 := zI_hi h (i := 0) (by omega)
    have z1 := zI_hi h (i := 1) (by omega)
    have h0 := (zL_mem.mp z0.1).1
    have h1 := (zL_mem.mp z1.1).1
    have hlt : (fSp F P B S).getD 0 0 < (fSp F P B S).getD 1 0 := by
      have q := List.pairwise_iff_getElem.mp (fSp_lt F P B S) 0 1 (by omega) (by omega) (by decide)
      rw [List.getD_eq_getElem?_getD, List.getD_eq_getElem?_getD, List.getElem?_eq_getElem (by omega), List.getElem?_eq_getElem (by omega), Option.getD_some, Option.getD_some]
      exact q
    rw [u_2 hB hS h m (by omega) e1]
    have nn : ∀ a b, a < B → b < B → 0 ≤ (if a < b then gv F a * gv F b * pP F P B S A 1 a b * pP F P B S A 1 a b else 0) := fun a b ha hb => by
      by_cases l : a < b
      · rw [if_pos l]
        exact (sq_nn _ _ (Int.mul_pos (by have := gv_e hi ha; omega) (by have := gv_e hi hb; omega))).1
      · rw [if_neg l]
        exact Int.le_refl 0
    refine sumK_pos B (fun a ha => sumK_nn B (fun b hb => nn a b ha hb)) _ h0 (sumK_pos B (fun b hb => nn _ b h0 hb) _ h1 ?_)
    rw [if_pos hlt]
    refine (sq_nn _ _ (Int.mul_pos (by have := gv_e hi h0; omega) (by have := gv_e hi h1; omega))).2 ?_
    rw [pP_at ⟨z0.1, z1.1, by omega⟩, z0.2, z1.2, Int.one_mul]
    have q := d2_plu h (p := fN' F P + 0) (q := fN' F P + 1) (by rw [zL_len h]; omega) (by rw [zL_len h]; omega) (by omega) (md_e (fN' F P + 0)) (md_e (fN' F P + 1))
    rw [t_all.2.2.2.2 0 0 (by omega) (by omega), t_all.2.2.2.2 1 1 (by omega) (by omega), t_all.2.2.2.2 0 1 (by omega) (by omega), if_pos rfl, if_pos rfl, if_neg (by decide), Int.zero_mul, Int.sub_zero] at q
    intro z
    rw [Nat.add_zero] at q z
    rw [z, Int.mul_zero] at q
    exact Int.mul_ne_zero hd hd q.symm
end
section
/-! both sides bear alike -/
theorem x7_bears {n : Nat} (hn : 2100 ≤ n) {F : Nat → Nat → Int32} {P B O D W : Nat} (hi : hI F P B O D W) {S : Nat} (hS : S < 2 ^ B) {σ : hv_St} (hx : rX F σ) {q : Nat} (hq : q = 3 ∨ q = 25) {z : Nat → Int} (hz : ∀ s, s < 12 → σ.1 q s = iI (z s) ∧ (z s).natAbs ≤ 9) : ∃ τ, rX F τ ∧ (∀ j, j ≠ 9 → j ≠ 11 → j ≠ 12 → j ≠ 13 → τ.1 j = σ.1 j) ∧ (fFirm F P B S → mX7_bears n σ (nI S) q = some (1, τ) ∧ 0 < uSum F P B S ∧ ∃ k w, k ≠ 0 ∧ uSum F P B S = k * w ∧ oX F P B S k w z τ) ∧ (¬ fFirm F P B S → mX7_bears n σ (nI S) q = some (0, τ)) := by
  have hB := hi.2.1.2
  have h2B : 2 ^ B ≤ 2048 := Nat.le_trans (Nat.pow_le_pow_right (by decide) hB) (by decide)
  obtain ⟨τ1, a1, a2, a3, a4⟩ := x0_settle (n := n) (by omega) hi (show S < 2 ^ 31 by omega) hx
  have ek := x0_kind (n := n) hi a4
  have hk4 := fKind_le F P B S
  have f1 : ∀ j, j ≠ 9 → j ≠ 11 → j ≠ 12 → τ1.1 j = σ.1 j := fun j j1 j2 j3 => a2.1 j (fun q => by rcases q with q | q | q <;> omega)
  by_cases hf : fFirm F P B S
  · obtain ⟨τ2, k, w, p1, ⟨A, e, hqA⟩, p3, p4⟩ := x5_prepare (n := n) (by omega) hi hS a3 a4 hf
    obtain ⟨g, g1, g2, g3⟩ := x_bear (n := n) (by omega) hi (S := S) (k := k) (w := w) (A := A) (e := e) (τ := τ2) hqA (q := q) (z := z) (fun s hs => by
      rw [p3 q (by omega), f1 q (by omega) (by omega) (by omega)]
      exact hz s hs)
    have hqA' := hqA
    obtain ⟨ht, hzf, -, hm2, hpc, -, -, -, -, -, hk, hu⟩ := hqA'
    refine ⟨hv_wJ τ2 14 g, rX_1 a3 (fun j hj => p3 j (by omega)), fun j j1 j2 j3 j4 => (p3 j j4).trans (f1 j j1 j2 j3), fun _ => ⟨?_, uS_pos hi hS hzf ht.2.1 hm2 hpc, k, w, ?_, hu, A, e, g2, g3⟩, fun q => absurd hf q⟩
    · unfold mX7_bears
      have n0 : ¬ nI (fKind F P B S) = 0 := fun q => by
        have := (nI_0e (by omega)).mp q
        have := hf.1
        omega
      have n4 : ¬ nI (fKind F P B S) = (4 : Int32) := fun q => by
        have := (nI_eq (b := 4) (by omega) (by decide)).mp q
        have := hf.2
        omega
      rw [a1, hv_bd_e, ek, hv_b2_e, if_neg n0, if_neg n4, p1, hv_bd_e, g1, hv_bd_e]
    · rw [hk]
      by_cases m : (fSp F P B S).length = 0
      · rw [if_pos m]
        exact pm_ne ht.1 ht.2.1
      · rw [if_neg m]
        decide
  · refine ⟨τ1, a3, fun j j1 j2 j3 _ => f1 j j1 j2 j3, fun q => absurd q hf, fun _ => ?_⟩
    unfold mX7_bears
    rw [a1, hv_bd_e, ek, hv_b2_e]
    by_cases c0 : fKind F P B S = 0
    · rw [c0, if_pos (show nI 0 = 0 from rfl)]
    · have c4 : fKind F P B S = 4 := by
        unfold fFirm at hf
        omega
      rw [c4, if_neg (show ¬ nI 4 = 0 by decide), if_pos (show nI 4 = (4 : Int32) from rfl)]
def bF (F : Nat → Nat → Int32) (P B S : Nat) (z : Nat → Int) (τX τM : hv_St) : Prop := (∃ k w, k ≠ 0 ∧ uSum F P B S = k * w ∧ oX F P B S k w z τX) ∧ τM.2 0 24 = iL (uSum F P B S) ∧ (∀ c, c < B → τM.2 15 c = iL (oSum F P B S z c)) ∧ 0 < uSum F P B S ∧ (uSum F P B S).natAbs ≤ 2 ^ 52 ∧ ∀ c, (oSum F P B S z c).natAbs ≤ 2 ^ 57
theorem oX_m {F : Nat → Nat → Int32} {P B S : Nat} {k w : Int} {z : Nat → Int} {τ : hv_St} (h : oX F P B S k w z τ) : (fSp F P B S).length ≤ 2 ∧ pc S = fN' F P + (fSp F P B S).length ∧ τ.2 13 6 = iL w := by
  obtain ⟨A, e, ⟨-, -, -, hm2, hpc, -, -, -, -, hw, -, -⟩, -⟩ := h
  exact ⟨hm2, hpc, hw⟩
theorem pc_leB {B S : Nat} (hB : B ≤ 11) (hS : S < 2 ^ B) : pc S ≤ B := by
  have q2 := List.length_filter_le (fun j => S.testBit j) (List.range B)
  rw [List.length_range] at q2
  rw [pc_fBl hB hS]
  exact q2
theorem both_bears {n : Nat} (hn : 2100 ≤ n) {F : Nat → Nat → Int32} {P B O D W : Nat} (hi : hI F P B O D W) {S : Nat} (hS : S < 2 ^ B) {σX σM : hv_St} (hx : rX F σX) (hm : rM F σM) {q : Nat} (hq : q = 3 ∨ q = 25) {z : Nat → Int} (hz : ∀ s, s < 12 → σX.1 q s = iI (z s) ∧ (z s).natAbs ≤ 9) (ht : tkM z σM) : ∃ τX τM, rX F τX ∧ rM F τM ∧ (∀ i, i ≠ 18 → i ≠ 20 → i ≠ 21 → τM.1 0 i = σM.1 0 i) ∧ (∀ j, j ≠ 9 → j ≠ 11 → j ≠ 12 → j ≠ 13 → τX.1 j = σX.1 j) ∧ (∀ j, ¬ frB0 j → τM.1 j = σM.1 j) ∧ ((mX7_bears n σX (nI S) q = some (0, τX) ∧ mX8_bears n σM (nI S) = some (0, τM) ∧ ¬ fFirm F P B S) ∨ (mX7_bears n σX (nI S) q = some (1, τX) ∧ mX8_bears n σM (nI S) = some (1, τM) ∧ fFirm F P B S ∧ bF F P B S z τX τM)) := by
  have hB := hi.2.1.2
  obtain ⟨τX, x1, x2, x3, x4⟩ := x7_bears hn hi hS hx hq hz
  obtain ⟨τM, m1, m2, m3, m4, m5, m6⟩ := r8_bears hn hi hS hm (fun s hs => (hz s hs).2) ht
  refine ⟨τX, τM, x1, m1, m4, x2, m3.1, ?_⟩
  by_cases hf : fFirm F P B S
  · obtain ⟨y1, y2, k, w, y3, y4, y5⟩ := x3 hf
    obtain ⟨w1, w2, w3⟩ := m5 hf
    obtain ⟨o1, o2, -⟩ := oX_m y5
    have pl := pc_leB hB hS
    exact Or.inr ⟨y1, w1, hf, ⟨k, w, y3, y4, y5⟩, w2, w3, y2, uS_bd hi hS o1 o2 (by omega), fun c => oS_bd hi hS o1 o2 (by omega) (fun s hs => (hz s hs).2) c⟩
  · exact Or.inl ⟨x4 hf, m6 hf, hf⟩
/-- a pull, told -/
def pv (F : Nat → Nat → Int32) (P B S : Nat) (z : Nat → Int) (c : Nat) (u : Int32) : Int := tlN (oSum F P B S z c) (uSum F P B S) (if u = 0 then oSum F P B S z c else uSum F P B S)
theorem k_le {k w u : Int} (hk : k ≠ 0) (h : u = k * w) : w.natAbs ≤ u.natAbs := by
  rw [h, Int.natAbs_mul]
  exact Nat.le_mul_of_pos_left _ (by omega)
theorem tp_X {n : Nat} (hn : 2100 ≤ n) {F : Nat → Nat → Int32} {P B O D W : Nat} (hi : hI F P B O D W) {S : Nat} (hS : S < 2 ^ B) {z : Nat → Int} (hz : ∀ s, s < 12 → (z s).natAbs ≤ 9) {τX τM : hv_St} (h : bF F P B S z τX τM) {c : Nat} (hc : c < B) (hcs : S.testBit c = true) (u : Int32) : ∃ τ', mX7_toldPull n τX (nI c) u = some (iL (pv F P B S z c u), τ') ∧ τ'.1 = τX.1 := by
  obtain ⟨⟨k, w, hk, hkw, ho⟩, -, -, hup, hub, hob⟩ := h
  obtain ⟨oc, e1, e2⟩ := over_of (n := n) (by omega) hi hS hz ho hc hcs
  have hw := (oX_m ho).2.2
  have bw : w.natAbs ≤ 2 ^ 62 := Nat.le_trans (k_le hk hkw) (Nat.le_trans hub (by decide))
  have bo : oc.natAbs ≤ 2 ^ 62 := Nat.le_trans (k_le hk e1) (Nat.le_trans (hob c) (by decide))
  have w0 : w ≠ 0 := fun q => by rw [hkw, q, Int.mul_zero] at hup; omega
  have ep : pv F P B S z c u = tlN oc w (if u = 0 then oc else w) := by
    unfold pv
    rw [e1, hkw]
    by_cases u0 : u = 0
    · rw [if_pos u0, if_pos u0, tlN_scale hk]
    · rw [if_neg u0, if_neg u0, tlN_scale hk]
  unfold mX7_toldPull
  rw [e2, hv_b2_e, hw, x7_told (n := n) (by omega) (rL_of bo) (rL_of bw) w0 u, hv_b2_e, ep]
  exact ⟨_, rfl, rfl⟩
theorem tp_M {n : Nat} (hn : 2100 ≤ n) {F : Nat → Nat → Int32} {P B S : Nat} {z : Nat → Int} {τX τM : hv_St} (h : bF F P B S z τX τM) (c : Nat) (u : Int32) (σ : hv_St) : mX8_told n σ (iL (oSum F P B S z c)) (iL (uSum F P B S)) u = some (iL (pv F P B S z c u), σ) := by
  obtain ⟨-, -, -, hup, hub, hob⟩ := h
  exact r8_told (n := n) (by omega) (rL_of (Nat.le_trans (hob c) (by decide))) (rL_of (Nat.le_trans hub (by decide))) (by omega) u
/-! the loads taken -/
theorem r8_takes {n : Nat} {σ : hv_St} : ∀ (d k fuel : Nat) (f : Nat → Int32), k + d = 12 → d < fuel → (∀ s, s < k → f s = σ.1 4 s) → ∃ g, kX8_takesLoads_2 n fuel (hv_wI σ 16 f) (nI k) = some (hv_wI σ 16 g) ∧ ∀ s, s < 12 → g s = σ.1 4 s := by
  intro d
  induction d with
  | zero =>
    intro k fuel f hk hf hg
    obtain ⟨fuel, rfl⟩ : ∃ q, fuel = q + 1 := ⟨fuel - 1, by omega⟩
    refine ⟨f, ?_, fun s hs => hg s (by omega)⟩
    show kX8_takesLoads_2_b n _ _ _ = _
    unfold kX8_takesLoads_2_b
    rw [if_pos (show (12 : Int32) ≤ nI k from nI_le (a := 12) (by omega) (by omega))]
  | succ d ih =>
    intro k fuel f hk hf hg
    obtain ⟨fuel, rfl⟩ : ∃ q, fuel = q + 1 := ⟨fuel - 1, by omega⟩
    obtain ⟨g, g1, g2⟩ := ih (k + 1) fuel (upd f k (σ.1 4 k)) (by omega) (by omega) (fun s hs => by
      by_cases e : s = k
      · rw [e, pk_us]
      · rw [pk_un e]
        exact hg s (by omega))
    refine ⟨g, ?_, g2⟩
    show kX8_takesLoads_2_b n _ _ _ = _
    unfold kX8_takesLoads_2_b
    rw [if_neg (show ¬ (12 : Int32) ≤ nI k from nI_ge (b := 12) (by omega) (by decide)), hv_if_t (hv_ok_nI (show k < 12 by omega) (by decide)), hv_if_t (hv_ok_nI (show k < 12 by omega) (by decide)), hv_let_e, nI_clamp (by omega), hv_wI_ne _ _ (show 4 ≠ 16 by decide), hv_sI_wI, nI_1]
    exact g1
def ldz (F : Nat → Nat → Int32) (s : Nat) : Int := (F 4 s).toInt
theorem ldz_e {F : Nat → Nat → Int32} {P B O D W : Nat} (hi : hI F P B O D W) {s : Nat} (hs : s < 12) : F 4 s = iI (ldz F s) ∧ (ldz F s).natAbs ≤ 9 := by
  obtain ⟨v, e, h1, h2⟩ := hi.2.2.2.2.2.2.2.1 s hs
  refine ⟨iI_of _, ?_⟩
  unfold ldz
  rw [e, iI_toInt ⟨by omega, by omega⟩]
  omega
theorem rM_16 {F : Nat → Nat → Int32} {σ : hv_St} (h : rM F σ) (g : Nat → Int32) : rM F (hv_wI σ 16 g) := rM_fr (A := fun k => k = 16) (B := fun _ => True) h ⟨fun k hk => hv_wI_ne _ _ hk, fun k hk => absurd trivial hk⟩ (fun k hk => by omega)
theorem r8_takesLoads {n : Nat} (hn : 20 < n) {F : Nat → Nat → Int32} {P B O D W : Nat} (hi : hI F P B O D W) {σ : hv_St} (hm : rM F σ) : ∃ g, mX8_takesLoads n σ = some (hv_wI σ 16 g) ∧ rM F (hv_wI σ 16 g) ∧ tkM (ldz F) (hv_wI σ 16 g) := by
  obtain ⟨g, g1, g2⟩ := r8_takes (n := n) (σ := σ) 12 0 n (σ.1 16) rfl (by omega) (fun s hs => absurd hs (Nat.not_lt_zero _))
  rw [hv_wI_self] at g1
  refine ⟨g, g1, rM_16 hm g, fun s hs => ?_⟩
  rw [hv_wI_at, g2 s hs, hm.2 4 (by decide) (by decide)]
  exact (ldz_e hi hs).1
theorem ldX {F : Nat → Nat → Int32} {P B O D W : Nat} (hi : hI F P B O D W) {σ : hv_St} (hx : rX F σ) : ∀ s, s < 12 → σ.1 3 s = iI (ldz F s) ∧ (ldz F s).natAbs ≤ 9 := fun s hs => by
  rw [hx.2.2.1 s hs]
  exact ldz_e hi hs
theorem op_pull {n : Nat} (hn : 2100 ≤ n) {F : Nat → Nat → Int32} {P B O D W : Nat} {σX σM : hv_St} (h : hR F P B O D W σX σM) (v u : Int32) : hT F P B O D W (mX7_pull n σX v u) (mX8_pull n σM v u) := by
  obtain ⟨hi, hx, hm⟩ := h
  have hB := hi.2.1.2
  have hO := hi.2.2.1
  have o31 : O < 2 ^ 31 := by have := p2048 hB hO.2; omega
  have bX : σX.1 1 1 = nI B := hx.1.2.1.trans hi.2.1.1
  have oX' : σX.1 1 2 = nI O := hx.1.2.2.1.trans hO.1
  obtain ⟨g, g1, g2, g3⟩ := r8_takesLoads (n := n) (by omega) hi hm
  have bM : (hv_wI σM 16 g).1 0 6 = nI B := g2.1.2.1.trans hi.2.1.1
  have oM : (hv_wI σM 16 g).1 0 11 = nI O := g2.1.2.2.1.trans hO.1
  have no : ∀ τX τM, rX F τX → rM F τM → kX8_pull_39 n τM v u = some (0, hv_sI τM 0 0 1) ∧ hR F P B O D W τX (hv_sI τM 0 0 1) ∧ (hv_sI τM 0 0 1).1 0 0 = 1 := fun τX τM h1 h2 => by
    refine ⟨?_, ⟨hi, h1, rM_sc h2 (by decide) 1⟩, by rw [hv_sI_rd, if_pos rfl]⟩
    unfold kX8_pull_39 kX8_pull_40
    rw [hv_let_e, hv_sI_rd, if_pos rfl, if_neg (by decide)]
  by_cases hv : fN B v
  · obtain ⟨b, hb, rfl⟩ := hv
    have fb := fB_iff (s := O) (k := b) o31 (by omega)
    by_cases hon : O.testBit b = true
    · have c1 := (x3_isOn (n := n) (by omega) bX (nI b)).1 ⟨⟨b, hb, rfl⟩, by rw [oX']; exact fb.mpr hon⟩
      obtain ⟨τX, τM, r1, r2, -, -, -, r4⟩ := both_bears hn hi hO.2 hx g2 (Or.inl rfl) (ldX hi hx) g3
      rcases r4 with ⟨y1, y2, -⟩ | ⟨y1, y2, -, y3⟩
      · obtain ⟨q1, q2, q3⟩ := no τX τM r1 r2
        refine ⟨τX, hv_sI τM 0 0 1, q2, Or.inr ⟨0, ?_, ?_, q3⟩⟩
        · unfold mX7_pull kX7_pull_36 kX7_pull_37
          rw [c1, hv_b2_e, if_neg (by decide), oX', y1, hv_b2_e, if_pos rfl, need_0]
        · unfold mX8_pull
          rw [g1, hv_bd_e, (r8_isBar (by omega) bM (nI b)).1 ⟨b, hb, rfl⟩, hv_b2_e, if_neg (by decide), oM, (r8_isOn _ _).1 (fb.mpr hon), hv_b2_e, if_neg (by decide), oM, y2, hv_b2_e, if_pos rfl, q1]
      · obtain ⟨τ', t1, t2⟩ := tp_X hn hi hO.2 (fun s hs => (ldz_e hi hs).2) y3 hb hon u
        have m0 : rM F (hv_sI τM 0 0 0) := rM_sc r2 (by decide) 0
        have e0 : (hv_sI τM 0 0 0).1 0 0 = 0 := by rw [hv_sI_rd, if_pos rfl]
        refine ⟨τ', hv_sI τM 0 0 0, ⟨hi, rX_1 r1 (fun k _ => by rw [t2]), m0⟩, Or.inl ⟨iL (pv F P B O (ldz F) b u), ?_, ?_, e0⟩⟩
        · unfold mX7_pull kX7_pull_37
          rw [c1, hv_b2_e, if_neg (by decide), oX', y1, hv_b2_e, if_neg (by decide), need_1, t1, hv_b2_e]
        · unfold mX8_pull kX8_pull_40
          rw [g1, hv_bd_e, (r8_isBar (by omega) bM (nI b)).1 ⟨b, hb, rfl⟩, hv_b2_e, if_neg (by decide), oM, (r8_isOn _ _).1 (fb.mpr hon), hv_b2_e, if_neg (by decide), oM, y2, hv_b2_e, if_neg (by decide), hv_let_e, e0, if_pos (by decide), hv_if_t (hv_ok_nI (show b < 11 by omega) (by decide)), nI_clamp (by omega)]
          show (hv_b2 (mX8_told n _ (τM.2 15 b) (τM.2 0 24) u) fun r65 s65 => some (r65, s65)) = _
          rw [y3.2.2.1 b hb, y3.2.1, tp_M hn y3 b u, hv_b2_e]
    · obtain ⟨q1, q2, q3⟩ := no σX _ hx g2
      refine ⟨σX, _, q2, Or.inr ⟨0, ?_, ?_, q3⟩⟩
      · unfold mX7_pull kX7_pull_36 kX7_pull_37
        rw [(x3_isOn (by omega) bX (nI b)).2 (fun z => hon (fb.mp (by rw [← oX']; exact z.2))), hv_b2_e, if_pos rfl, need_0]
      · unfold mX8_pull
        rw [g1, hv_bd_e, (r8_isBar (by omega) bM (nI b)).1 ⟨b, hb, rfl⟩, hv_b2_e, if_neg (by decide), oM, (r8_isOn _ _).2 (fun z => hon (fb.mp z)), hv_b2_e, if_pos rfl, q1]
  · obtain ⟨q1, q2, q3⟩ := no σX _ hx g2
    refine ⟨σX, _, q2, Or.inr ⟨0, ?_, ?_, q3⟩⟩
    · unfold mX7_pull kX7_pull_36 kX7_pull_37
      rw [(x3_isOn (by omega) bX v).2 (fun z => hv z.1), hv_b2_e, if_pos rfl, need_0]
    · unfold mX8_pull
      rw [g1, hv_bd_e, (r8_isBar (by omega) bM v).2 hv, hv_b2_e, if_pos rfl, q1]
end
section
/-! left, influence -/
theorem op_left {n : Nat} (hn : 2100 ≤ n) {F : Nat → Nat → Int32} {P B O D W : Nat} {σX σM : hv_St} (h : hR F P B O D W σX σM) (v w u : Int32) : hT F P B O D W (mX7_left n σX v w u) (mX8_left n σM v w u) := by
  obtain ⟨hi, hx, hm⟩ := h
  have hB := hi.2.1.2
  have hO := hi.2.2.1
  have o31 : O < 2 ^ 31 := by have := p2048 hB hO.2; omega
  have bX : σX.1 1 1 = nI B := hx.1.2.1.trans hi.2.1.1
  have oX' : σX.1 1 2 = nI O := hx.1.2.2.1.trans hO.1
  obtain ⟨g, g1, g2, g3⟩ := r8_takesLoads (n := n) (by omega) hi hm
  have bM : (hv_wI σM 16 g).1 0 6 = nI B := g2.1.2.1.trans hi.2.1.1
  have oM : (hv_wI σM 16 g).1 0 11 = nI O := g2.1.2.2.1.trans hO.1
  have no : ∀ τX τM, rX F τX → rM F τM → kX8_left_81 n τM w u = some (0, hv_sI τM 0 0 1) ∧ hR F P B O D W τX (hv_sI τM 0 0 1) ∧ (hv_sI τM 0 0 1).1 0 0 = 1 := fun τX τM h1 h2 => by
    refine ⟨?_, ⟨hi, h1, rM_sc h2 (by decide) 1⟩, by rw [hv_sI_rd, if_pos rfl]⟩
    unfold kX8_left_81 kX8_left_82
    rw [hv_let_e, hv_sI_rd, if_pos rfl, if_neg (by decide)]
  have hno : mX7_left n σX v w u = some (none, σX) → mX8_left n σM v w u = kX8_left_51 n (hv_wI σM 16 g) v w u → hT F P B O D W (mX7_left n σX v w u) (mX8_left n σM v w u) := fun e1 e2 => by
    obtain ⟨q1, q2, q3⟩ := no σX _ hx g2
    refine ⟨σX, _, q2, Or.inr ⟨0, e1, ?_, q3⟩⟩
    rw [e2]
    unfold kX8_left_51 kX8_left_52
    rw [if_pos rfl, q1]
  have on_iff : ∀ v, fO B (σX.1 1 2) v ↔ fN B v ∧ fB (nI O) v := fun v => by rw [oX']; rfl
  by_cases hv : fN B v
  · by_cases hon : fB (nI O) v
    · have c1 := (x3_isOn (n := n) (by omega) bX v).1 ((on_iff v).mpr ⟨hv, hon⟩)
      by_cases hw : fN B w
      · by_cases how : fB (nI O) w
        · have c2 := (x3_isOn (n := n) (by omega) bX w).1 ((on_iff w).mpr ⟨hw, how⟩)
          by_cases hvw : v = w
          · refine hno ?_ ?_
            · unfold mX7_left kX7_left_31 kX7_left_32
              rw [c1, hv_b2_e, if_neg (by decide), c2, hv_b2_e, if_neg (by decide), if_pos hvw, need_0]
            · unfold mX8_left
              rw [g1, hv_bd_e, (r8_isBar (by omega) bM v).1 hv, hv_b2_e, if_neg (by decide), (r8_isBar (by omega) bM w).1 hw, hv_b2_e, if_neg (by decide), if_pos hvw]
          · have e7 : mX7_left n σX v w u = kX7_left_32 n σX v w u 1 := by
              unfold mX7_left
              rw [c1, hv_b2_e, if_neg (by decide), c2, hv_b2_e, if_neg (by decide), if_neg hvw]
            have e8 : mX8_left n σM v w u = kX8_left_52 n (hv_wI σM 16 g) v w u 1 := by
              unfold mX8_left
              rw [g1, hv_bd_e, (r8_isBar (by omega) bM v).1 hv, hv_b2_e, if_neg (by decide), (r8_isBar (by omega) bM w).1 hw, hv_b2_e, if_neg (by decide), if_neg hvw, oM, (r8_isOn _ _).1 hon, hv_b2_e, if_neg (by decide), oM, (r8_isOn _ _).1 how, hv_b2_e, if_neg (by decide)]
            rw [e7, e8]
            obtain ⟨a, ha, rfl⟩ := hv
            obtain ⟨b, hb, rfl⟩ := hw
            have nab : a ≠ b := fun q => hvw (by rw [q])
            have hS : andn O (2 ^ a) < 2 ^ B := andn_lt hO.2
            have hbs : (andn O (2 ^ a)).testBit b = true := (andn_bit O (2 ^ a) b).mpr ⟨(fB_iff o31 (by omega)).mp how, fun q => nab ((tb_pow a b).mp q).symm⟩
            have ee : nI O &&& (((1 : Int32) <<< (nI a &&& 31)) ^^^ (-1)) = nI (andn O (2 ^ a)) := by rw [nI_shl (by omega), nI_andn]
            obtain ⟨τX, τM, r1, r2, -, -, -, r4⟩ := both_bears hn hi hS hx g2 (Or.inl rfl) (ldX hi hx) g3
            rcases r4 with ⟨y1, y2, -⟩ | ⟨y1, y2, -, y3⟩
            · obtain ⟨q1, q2, q3⟩ := no τX τM r1 r2
              refine ⟨τX, hv_sI τM 0 0 1, q2, Or.inr ⟨0, ?_, ?_, q3⟩⟩
              · unfold kX7_left_32
                rw [need_1, oX', ee, y1, hv_b2_e, need_0]
              · unfold kX8_left_52
                rw [if_neg (by decide), oM, ee, y2, hv_b2_e, if_pos rfl, q1]
            · obtain ⟨τ', t1, t2⟩ := tp_X hn hi hS (fun s hs => (ldz_e hi hs).2) y3 hb hbs u
              have e0 : (hv_sI τM 0 0 0).1 0 0 = 0 := by rw [hv_sI_rd, if_pos rfl]
              refine ⟨τ', hv_sI τM 0 0 0, ⟨hi, rX_1 r1 (fun k _ => by rw [t2]), rM_sc r2 (by decide) 0⟩, Or.inl ⟨iL (pv F P B (andn O (2 ^ a)) (ldz F) b u), ?_, ?_, e0⟩⟩
              · unfold kX7_left_32
                rw [need_1, oX', ee, y1, hv_b2_e, need_1, t1, hv_b2_e]
              · unfold kX8_left_52 kX8_left_82
                rw [if_neg (by decide), oM, ee, y2, hv_b2_e, if_neg (by decide), hv_let_e, e0, if_pos (by decide), hv_if_t (hv_ok_nI (show b < 11 by omega) (by decide)), nI_clamp (by omega)]
                show (hv_b2 (mX8_told n _ (τM.2 15 b) (τM.2 0 24) u) fun r65 s65 => some (r65, s65)) = _
                rw [y3.2.2.1 b hb, y3.2.1, tp_M hn y3 b u, hv_b2_e]
        · refine hno ?_ ?_
          · unfold mX7_left kX7_left_31 kX7_left_32
            rw [c1, hv_b2_e, if_neg (by decide), (x3_isOn (by omega) bX w).2 (fun q => how ((on_iff w).mp q).2), hv_b2_e, if_pos rfl, need_0]
          · unfold mX8_left
            rw [g1, hv_bd_e, (r8_isBar (by omega) bM v).1 hv, hv_b2_e, if_neg (by decide), (r8_isBar (by omega) bM w).1 hw, hv_b2_e, if_neg (by decide)]
            by_cases hvw : v = w
            · rw [if_pos hvw]
            · rw [if_neg hvw, oM, (r8_isOn _ _).1 hon, hv_b2_e, if_neg (by decide), oM, (r8_isOn _ _).2 how, hv_b2_e, if_pos rfl]
      · refine hno ?_ ?_
        · unfold mX7_left kX7_left_31 kX7_left_32
          rw [c1, hv_b2_e, if_neg (by decide), (x3_isOn (by omega) bX w).2 (fun q => hw ((on_iff w).mp q).1), hv_b2_e, if_pos rfl, need_0]
        · unfold mX8_left
          rw [g1, hv_bd_e, (r8_isBar (by omega) bM v).1 hv, hv_b2_e, if_neg (by decide), (r8_isBar (by omega) bM w).2 hw, hv_b2_e, if_pos rfl]
    · refine hno ?_ ?_
      · unfold mX7_left kX7_left_31 kX7_left_32
        rw [(x3_isOn (by omega) bX v).2 (fun q => hon ((on_iff v).mp q).2), hv_b2_e, if_pos rfl, need_0]
      · unfold mX8_left
        rw [g1, hv_bd_e, (r8_isBar (by omega) bM v).1 hv, hv_b2_e, if_neg (by decide)]
        by_cases hw : fN B w
        · rw [(r8_isBar (by omega) bM w).1 hw, hv_b2_e, if_neg (by decide)]
          by_cases hvw : v = w
          · rw [if_pos hvw]
          · rw [if_neg hvw, oM, (r8_isOn _ _).2 hon, hv_b2_e, if_pos rfl]
        · rw [(r8_isBar (by omega) bM w).2 hw, hv_b2_e, if_pos rfl]
  · refine hno ?_ ?_
    · unfold mX7_left kX7_left_31 kX7_left_32
      rw [(x3_isOn (by omega) bX v).2 (fun q => hv ((on_iff v).mp q).1), hv_b2_e, if_pos rfl, need_0]
    · unfold mX8_left
      rw [g1, hv_bd_e, (r8_isBar (by omega) bM v).2 hv, hv_b2_e, if_pos rfl]
/-! no loads taken -/
theorem r8_none {n : Nat} {σ : hv_St} : ∀ (d k fuel : Nat) (f : Nat → Int32), k + d = 12 → d < fuel → (∀ s, s < k → f s = 0) → ∃ g, kX8_takesNone_2 n fuel (hv_wI σ 16 f) (nI k) = some (hv_wI σ 16 g) ∧ ∀ s, s < 12 → g s = 0 := by
  intro d
  induction d with
  | zero =>
    intro k fuel f hk hf hg
    obtain ⟨fuel, rfl⟩ : ∃ q, fuel = q + 1 := ⟨fuel - 1, by omega⟩
    refine ⟨f, ?_, fun s hs => hg s (by omega)⟩
    show kX8_takesNone_2_b n _ _ _ = _
    unfold kX8_takesNone_2_b
    rw [if_pos (show (12 : Int32) ≤ nI k from nI_le (a := 12) (by omega) (by omega))]
  | succ d ih =>
    intro k fuel f hk hf hg
    obtain ⟨fuel, rfl⟩ : ∃ q, fuel = q + 1 := ⟨fuel - 1, by omega⟩
    obtain ⟨g, g1, g2⟩ := ih (k + 1) fuel (upd f k 0) (by omega) (by omega) (fun s hs => by
      by_cases e : s = k
      · rw [e, pk_us]
      · rw [pk_un e]
        exact hg s (by omega))
    refine ⟨g, ?_, g2⟩
    show kX8_takesNone_2_b n _ _ _ = _
    unfold kX8_takesNone_2_b
    rw [if_neg (show ¬ (12 : Int32) ≤ nI k from nI_ge (b := 12) (by omega) (by decide)), hv_if_t (hv_ok_nI (show k < 12 by omega) (by decide)), hv_let_e, nI_clamp (by omega), hv_sI_wI, nI_1]
    exact g1
theorem r8_takesNone {n : Nat} (hn : 20 < n) {σ : hv_St} : ∃ g, mX8_takesNone n σ = some (hv_wI σ 16 g) ∧ ∀ s, s < 12 → g s = 0 := by
  obtain ⟨g, g1, g2⟩ := r8_none (n := n) (σ := σ) 12 0 n (σ.1 16) rfl (by omega) (fun s hs => absurd hs (Nat.not_lt_zero _))
  rw [hv_wI_self] at g1
  exact ⟨g, g1, g2⟩
theorem x6_clr {n : Nat} {σ : hv_St} : ∀ (d k fuel : Nat) (f : Nat → Int32), k + d = 12 → d < fuel → (∀ s, s < k → f s = 0) → ∃ g, kX6_clearLoads_2 n fuel (hv_wI σ 25 f) (nI k) = some (hv_wI σ 25 g) ∧ ∀ s, s < 12 → g s = 0 := by
  intro d
  induction d with
  | zero =>
    intro k fuel f hk hf hg
    obtain ⟨fuel, rfl⟩ : ∃ q, fuel = q + 1 := ⟨fuel - 1, by omega⟩
    refine ⟨f, ?_, fun s hs => hg s (by omega)⟩
    show kX6_clearLoads_2_b n _ _ _ = _
    unfold kX6_clearLoads_2_b
    rw [if_pos (show (12 : Int32) ≤ nI k from nI_le (a := 12) (by omega) (by omega))]
  | succ d ih =>
    intro k fuel f hk hf hg
    obtain ⟨fuel, rfl⟩ : ∃ q, fuel = q + 1 := ⟨fuel - 1, by omega⟩
    obtain ⟨g, g1, g2⟩ := ih (k + 1) fuel (upd f k 0) (by omega) (by omega) (fun s hs => by
      by_cases e : s = k
      · rw [e, pk_us]
      · rw [pk_un e]
        exact hg s (by omega))
    refine ⟨g, ?_, g2⟩
    show kX6_clearLoads_2_b n _ _ _ = _
    unfold kX6_clearLoads_2_b
    rw [if_neg (show ¬ (12 : Int32) ≤ nI k from nI_ge (b := 12) (by omega) (by decide)), hv_if_t (hv_ok_nI (show k < 12 by omega) (by decide)), hv_let_e, nI_clamp (by omega), hv_sI_wI, nI_1]
    exact g1
theorem x6_clearLoads {n : Nat} (hn : 20 < n) {σ : hv_St} : ∃ g, mX6_clearLoads n σ = some (hv_wI σ 25 g) ∧ ∀ s, s < 12 → g s = 0 := by
  obtain ⟨g, g1, g2⟩ := x6_clr (n := n) (σ := σ) 12 0 n (σ.1 25) rfl (by omega) (fun s hs => absurd hs (Nat.not_lt_zero _))
  rw [hv_wI_self] at g1
  exact ⟨g, g1, g2⟩
theorem rX_25 {F : Nat → Nat → Int32} {σ : hv_St} (h : rX F σ) (g : Nat → Int32) : rX F (hv_wI σ 25 g) := rX_1 h (fun k hk => hv_wI_ne _ _ (by omega))
theorem op_influence {n : Nat} (hn : 2100 ≤ n) {F : Nat → Nat → Int32} {P B O D W : Nat} {σX σM : hv_St} (h : hR F P B O D W σX σM) (v p d u : Int32) : hT F P B O D W (mX7_influence n σX v p d u) (mX8_influence n σM v p d u) := by
  obtain ⟨hi, hx, hm⟩ := h
  have hB := hi.2.1.2
  have hP := hi.1.2
  have hO := hi.2.2.1
  have o31 : O < 2 ^ 31 := by have := p2048 hB hO.2; omega
  have bX : σX.1 1 1 = nI B := hx.1.2.1.trans hi.2.1.1
  have pX : σX.1 1 0 = nI P := hx.1.1.trans hi.1.1
  have oX' : σX.1 1 2 = nI O := hx.1.2.2.1.trans hO.1
  obtain ⟨g, g1, g2⟩ := r8_takesNone (n := n) (by omega) (σ := σM)
  have hm1 := rM_16 hm g
  have bM : (hv_wI σM 16 g).1 0 6 = nI B := hm1.1.2.1.trans hi.2.1.1
  have pM : (hv_wI σM 16 g).1 0 1 = nI P := hm1.1.1.trans hi.1.1
  have oM : (hv_wI σM 16 g).1 0 11 = nI O := hm1.1.2.2.1.trans hO.1
  have no : ∀ τX τM, rX F τX → rM F τM → kX8_influence_85 n τM v u = some (0, hv_sI τM 0 0 1) ∧ hR F P B O D W τX (hv_sI τM 0 0 1) ∧ (hv_sI τM 0 0 1).1 0 0 = 1 := fun τX τM h1 h2 => by
    refine ⟨?_, ⟨hi, h1, rM_sc h2 (by decide) 1⟩, by rw [hv_sI_rd, if_pos rfl]⟩
    unfold kX8_influence_85 kX8_influence_86
    rw [hv_let_e, hv_sI_rd, if_pos rfl, if_neg (by decide)]
  have hno : mX7_influence n σX v p d u = some (none, σX) → mX8_influence n σM v p d u = kX8_influence_45 n (hv_wI σM 16 g) v p d u → hT F P B O D W (mX7_influence n σX v p d u) (mX8_influence n σM v p d u) := fun e1 e2 => by
    obtain ⟨q1, q2, q3⟩ := no σX _ hx hm1
    refine ⟨σX, _, q2, Or.inr ⟨0, e1, ?_, q3⟩⟩
    rw [e2]
    unfold kX8_influence_45 kX8_influence_46 kX8_influence_64
    rw [if_pos rfl, if_pos rfl, q1]
  have on_iff : fO B (σX.1 1 2) v ↔ fN B v ∧ fB (nI O) v := by rw [oX']; rfl
  by_cases hv : fN B v
  · by_cases hon : fB (nI O) v
    · have c1 := (x3_isOn (n := n) (by omega) bX v).1 (on_iff.mpr ⟨hv, hon⟩)
      by_cases hp : fN P p
      · by_cases hd : fN 2 d
        · have e7 : mX7_influence n σX v p d u = kX7_influence_34 n σX v p d u 1 := by
            unfold mX7_influence
            rw [c1, hv_b2_e, if_neg (by decide), (x3_isPin (by omega) pX p).1 hp, hv_b2_e, if_neg (by decide), (x7_isDirection d).1 hd, hv_b2_e, if_neg (by decide)]
          have e8 : mX8_influence n σM v p d u = kX8_influence_46 n (hv_wI σM 16 g) v p d u 1 := by
            unfold mX8_influence
            rw [g1, hv_bd_e, (r8_isBar (by omega) bM v).1 hv, hv_b2_e, if_neg (by decide), oM, (r8_isOn _ _).1 hon, hv_b2_e, if_neg (by decide), (r8_isPin (by omega) pM p).1 hp, hv_b2_e, if_neg (by decide), (r8_inDir d).1 hd, hv_b2_e, if_neg (by decide)]
          rw [e7, e8]
          obtain ⟨b, hb, rfl⟩ := hv
          obtain ⟨a, ha, rfl⟩ := hp
          obtain ⟨e, he, rfl⟩ := hd
          have hbs : O.testBit b = true := (fB_iff o31 (by omega)).mp hon
          have ix : (2 : Int32) * nI a + nI e = nI (2 * a + e) := by rw [nI_2, nI_add]
          obtain ⟨f, f1, f2⟩ := x6_clearLoads (n := n) (by omega) (σ := σX)
          have zX' : ∀ s, s < 12 → (hv_sI (hv_wI σX 25 f) 25 (2 * a + e) 1).1 25 s = iI (if s = 2 * a + e then 1 else 0) ∧ (if s = 2 * a + e then (1 : Int) else 0).natAbs ≤ 9 := fun s hs => by
            rw [hv_sI_rd, hv_wI_at]
            by_cases c : s = 2 * a + e
            · rw [if_pos c, if_pos c]
              exact ⟨rfl, by decide⟩
            · rw [if_neg c, if_neg c, f2 s hs]
              exact ⟨rfl, by decide⟩
          have zM' : tkM (fun s => if s = 2 * a + e then 1 else 0) (hv_sI (hv_wI σM 16 g) 16 (2 * a + e) 1) := fun s hs => by
            rw [hv_sI_rd, hv_wI_at]
            by_cases c : s = 2 * a + e
            · rw [if_pos c]
              show _ = iI (if s = 2 * a + e then 1 else 0)
              rw [if_pos c]
              rfl
            · rw [if_neg c, g2 s hs]
              show _ = iI (if s = 2 * a + e then 1 else 0)
              rw [if_neg c]
              rfl
          have hx1 : rX F (hv_sI (hv_wI σX 25 f) 25 (2 * a + e) 1) := rX_1 (rX_25 hx f) (fun k hk => hv_sI_ne _ _ _ (by omega))
          have hm2 : rM F (hv_sI (hv_wI σM 16 g) 16 (2 * a + e) 1) := rM_sI hm1 (by decide) _ _
          obtain ⟨τX, τM, r1, r2, -, -, -, r4⟩ := both_bears hn hi hO.2 hx1 hm2 (Or.inr rfl) zX' zM'
          have h46 : kX8_influence_46 n (hv_wI σM 16 g) (nI b) (nI a) (nI e) u 1 = kX8_influence_64 n (hv_sI (hv_wI σM 16 g) 16 (2 * a + e) 1) (nI b) u 1 := by
            unfold kX8_influence_46
            rw [if_neg (by decide), ix, hv_if_t (hv_ok_nI (show 2 * a + e < 12 by omega) (by decide)), hv_let_e, nI_clamp (by omega)]
          have h34 : ∀ o, mX7_bears n (hv_sI (hv_wI σX 25 f) 25 (2 * a + e) 1) (nI O) 25 = o → kX7_influence_34 n σX (nI b) (nI a) (nI e) u 1 = hv_b2 o fun r57 s57 => hv_bx (mX7_need n s57 (r57)) fun y60 s60 => hv_b2 (mX7_toldPull n s60 (nI b) u) fun r67 s67 => some (some (r67), s67) := fun o ho => by
            unfold kX7_influence_34 mX6_oneLoad
            rw [need_1, f1, hv_bd_e, ix, hv_if_t (hv_ok_nI (show 2 * a + e < 12 by omega) (by decide)), hv_let_e, hv_bd_e, nI_clamp (by omega), oX', ho]
          rcases r4 with ⟨y1, y2, -⟩ | ⟨y1, y2, -, y3⟩
          · obtain ⟨q1, q2, q3⟩ := no τX τM r1 r2
            refine ⟨τX, hv_sI τM 0 0 1, q2, Or.inr ⟨0, ?_, ?_, q3⟩⟩
            · rw [h34 _ y1, hv_b2_e, need_0]
            · rw [h46]
              unfold kX8_influence_64
              rw [if_neg (by decide), hm2.1.2.2.1, hO.1, y2, hv_b2_e, if_pos rfl, q1]
          · obtain ⟨τ', t1, t2⟩ := tp_X hn hi hO.2 (fun s hs => (zX' s hs).2) y3 hb hbs u
            have e0 : (hv_sI τM 0 0 0).1 0 0 = 0 := by rw [hv_sI_rd, if_pos rfl]
            refine ⟨τ', hv_sI τM 0 0 0, ⟨hi, rX_1 r1 (fun k _ => by rw [t2]), rM_sc r2 (by decide) 0⟩, Or.inl ⟨iL (pv F P B O (fun s => if s = 2 * a + e then 1 else 0) b u), ?_, ?_, e0⟩⟩
            · rw [h34 _ y1, hv_b2_e, need_1, t1, hv_b2_e]
            · rw [h46]
              unfold kX8_influence_64 kX8_influence_86
              rw [if_neg (by decide), hm2.1.2.2.1, hO.1, y2, hv_b2_e, if_neg (by decide), hv_let_e, e0, if_pos (by decide), hv_if_t (hv_ok_nI (show b < 11 by omega) (by decide)), nI_clamp (by omega)]
              show (hv_b2 (mX8_told n _ (τM.2 15 b) (τM.2 0 24) u) fun r65 s65 => some (r65, s65)) = _
              rw [y3.2.2.1 b hb, y3.2.1, tp_M hn y3 b u, hv_b2_e]
        · refine hno ?_ ?_
          · unfold mX7_influence kX7_influence_33 kX7_influence_34
            rw [c1, hv_b2_e, if_neg (by decide), (x3_isPin (by omega) pX p).1 hp, hv_b2_e, if_neg (by decide), (x7_isDirection d).2 hd, hv_b2_e, if_pos rfl, need_0]
          · unfold mX8_influence
            rw [g1, hv_bd_e, (r8_isBar (by omega) bM v).1 hv, hv_b2_e, if_neg (by decide), oM, (r8_isOn _ _).1 hon, hv_b2_e, if_neg (by decide), (r8_isPin (by omega) pM p).1 hp, hv_b2_e, if_neg (by decide), (r8_inDir d).2 hd, hv_b2_e, if_pos rfl]
      · refine hno ?_ ?_
        · unfold mX7_influence kX7_influence_33 kX7_influence_34
          rw [c1, hv_b2_e, if_neg (by decide), (x3_isPin (by omega) pX p).2 hp, hv_b2_e, if_pos rfl, need_0]
        · unfold mX8_influence
          rw [g1, hv_bd_e, (r8_isBar (by omega) bM v).1 hv, hv_b2_e, if_neg (by decide), oM, (r8_isOn _ _).1 hon, hv_b2_e, if_neg (by decide), (r8_isPin (by omega) pM p).2 hp, hv_b2_e, if_pos rfl]
    · refine hno ?_ ?_
      · unfold mX7_influence kX7_influence_33 kX7_influence_34
        rw [(x3_isOn (by omega) bX v).2 (fun q => hon (on_iff.mp q).2), hv_b2_e, if_pos rfl, need_0]
      · unfold mX8_influence
        rw [g1, hv_bd_e, (r8_isBar (by omega) bM v).1 hv, hv_b2_e, if_neg (by decide), oM, (r8_isOn _ _).2 hon, hv_b2_e, if_pos rfl]
  · refine hno ?_ ?_
    · unfold mX7_influence kX7_influence_33 kX7_influence_34
      rw [(x3_isOn (by omega) bX v).2 (fun q => hv (on_iff.mp q).1), hv_b2_e, if_pos rfl, need_0]
    · unfold mX8_influence
      rw [g1, hv_bd_e, (r8_isBar (by omega) bM v).2 hv, hv_b2_e, if_pos rfl]
end
section
/-! the train: where it stands, its loads; riding -/
def fSt (D W : Nat) (t : Int32) : Prop := 0 < D ∧ 0 < W ∧ fN (D + W - 1) t
theorem x6_stands {n : Nat} {σ : hv_St} {D W : Nat} (hD : D ≤ 6) (hW : W ≤ 4) (h1 : σ.1 22 0 = nI D) (h2 : σ.1 22 1 = nI W) (t : Int32) : (fSt D W t → mX6_stands n σ t = some (1, σ)) ∧ (¬ fSt D W t → mX6_stands n σ t = some (0, σ)) := by
  unfold mX6_stands kX6_stands_37
  rw [h1, h2]
  by_cases d0 : D = 0
  · rw [d0, if_pos (show nI 0 ≤ 0 by decide)]
    exact ⟨fun h => absurd h.1 (by omega), fun _ => rfl⟩
  · rw [if_neg (nI_nle (by omega) (by omega))]
    by_cases w0 : W = 0
    · rw [w0, if_pos (show nI 0 ≤ 0 by decide)]
      exact ⟨fun h => absurd h.2.1 (by omega), fun _ => rfl⟩
    · rw [if_neg (nI_nle (by omega) (by omega)), nI_add, show (2 : Int32) = nI 2 from rfl, pk_sub (by omega)]
      by_cases c1 : t < 0
      · rw [if_pos c1]
        exact ⟨fun h => absurd c1 ((fN_iff (by omega) t).mp h.2.2).1, fun _ => rfl⟩
      · rw [if_neg c1]
        obtain ⟨j, hj, rfl⟩ := nI_of c1
        have e : nI (D + W - 2) < nI j ↔ D + W - 2 < j := nI_ltI (by omega) hj
        by_cases c2 : D + W - 2 < j
        · rw [if_pos (e.mpr c2)]
          refine ⟨fun h => ?_, fun _ => rfl⟩
          obtain ⟨i, hi, q⟩ := h.2.2
          have := (nI_eq hj (by omega)).mp q
          omega
        · rw [if_neg (fun q => c2 (e.mp q))]
          exact ⟨fun _ => rfl, fun h => absurd ⟨by omega, by omega, j, by omega, rfl⟩ h⟩
theorem r8_isRide {n : Nat} {σ : hv_St} {D W : Nat} (hD : D ≤ 6) (hW : W ≤ 4) (h1 : σ.1 0 13 = nI D) (h2 : σ.1 0 15 = nI W) (t : Int32) : (fSt D W t → mX8_isRide n σ t = some (1, σ)) ∧ (¬ fSt D W t → mX8_isRide n σ t = some (0, σ)) := by
  unfold mX8_isRide kX8_isRide_39
  rw [h1, h2]
  by_cases d0 : D = 0
  · rw [d0, if_pos (show nI 0 ≤ 0 by decide)]
    exact ⟨fun h => absurd h.1 (by omega), fun _ => rfl⟩
  · rw [if_neg (nI_nle (by omega) (by omega))]
    by_cases w0 : W = 0
    · rw [w0, if_pos (show nI 0 ≤ 0 by decide)]
      exact ⟨fun h => absurd h.2.1 (by omega), fun _ => rfl⟩
    · have ep : nI (D + W - 1) - 1 = nI (D + W - 2) := by
        have := nI_pred (D + W - 2)
        rw [show D + W - 2 + 1 = D + W - 1 by omega] at this
        exact this
      have hx := fN_in (N := D + W - 1) (by omega) t
      rw [ep] at hx
      rw [if_neg (nI_nle (by omega) (by omega)), nI_add, show (2 : Int32) = nI 2 from rfl, pk_sub (by omega), show (0 : Int64) = (0 : Int32).toInt64 from rfl, r8_in32, hv_b2_e]
      by_cases c : fN (D + W - 1) t
      · rw [if_pos (hx.mp c), if_neg (by decide)]
        exact ⟨fun _ => rfl, fun h => absurd ⟨by omega, by omega, c⟩ h⟩
      · rw [if_neg (fun q => c (hx.mpr q)), if_pos rfl]
        exact ⟨fun h => absurd h.2.2 c, fun _ => rfl⟩
/-- the train's loads at t, behind k weights -/
def zr (F : Nat → Nat → Int32) (D t : Nat) : Nat → Nat → Int
  | 0 => fun _ => 0
  | i + 1 => if i ≤ t ∧ t - i < D then (fun s => if s = 2 * (F 9 (t - i)).toNatClampNeg + 1 then -((F 10 i).toInt) else zr F D t i s) else zr F D t i
theorem zr_wt {F : Nat → Nat → Int32} {P B O D W : Nat} (hi : hI F P B O D W) {i : Nat} (h : i < W) : F 10 i = iI (F 10 i).toInt ∧ 1 ≤ (F 10 i).toInt ∧ (F 10 i).toInt ≤ 9 := by
  obtain ⟨w, e, w1, w2⟩ := hi.2.2.2.2.2.2.2.2.2.2.2 i h
  refine ⟨iI_of _, ?_, ?_⟩ <;> · rw [e, nI_toInt (by omega)]; omega
theorem zr_pin {F : Nat → Nat → Int32} {P B O D W : Nat} (hi : hI F P B O D W) {i : Nat} (h : i < D) : F 9 i = nI (F 9 i).toNatClampNeg ∧ (F 9 i).toNatClampNeg < 6 := by
  have hP := hi.1.2
  have q := fN_e (by omega) (hi.2.2.2.2.2.2.2.2.2.1 i h)
  exact ⟨q.1, by omega⟩
theorem zr_bd {F : Nat → Nat → Int32} {P B O D W : Nat} (hi : hI F P B O D W) (t s : Nat) : ∀ i, i ≤ W → (zr F D t i s).natAbs ≤ 9
  | 0, _ => by
    show (0 : Int).natAbs ≤ 9
    decide
  | i + 1, h => by
    have q := zr_bd hi t s i (by omega)
    have w := zr_wt hi (show i < W by omega)
    show ((if i ≤ t ∧ t - i < D then (fun s => if s = 2 * (F 9 (t - i)).toNatClampNeg + 1 then -((F 10 i).toInt) else zr F D t i s) else zr F D t i) s).natAbs ≤ 9
    by_cases c : i ≤ t ∧ t - i < D
    · rw [if_pos c]
      by_cases e : s = 2 * (F 9 (t - i)).toNatClampNeg + 1
      · rw [if_pos e]; omega
      · rw [if_neg e]; exact q
    · rw [if_neg c]
      exact q
theorem sub_cases {t i D : Nat} (ht : t < 100) (hi : i < 100) (hD : D < 100) : (i ≤ t → ¬ nI t - nI i < 0 ∧ (nI D ≤ nI t - nI i ↔ D ≤ t - i) ∧ nI t - nI i = nI (t - i)) ∧ (t < i → nI t - nI i < 0) := by
  refine ⟨fun h => ?_, fun h => pk_sneg (by omega) h⟩
  rw [pk_sub h]
  exact ⟨nI_pos (by omega), nI_leI (by omega) (by omega), rfl⟩
theorem x6_lAt {n : Nat} {F : Nat → Nat → Int32} {P B O D W : Nat} (hi : hI F P B O D W) {σ : hv_St} (hx : rX F σ) {t : Nat} (ht : t < 100) : ∀ (d i fuel : Nat) (g : Nat → Int32), i + d = W → d < fuel → (∀ s, s < 12 → g s = iI (zr F D t i s)) → ∃ g', kX6_loadsAt_6 n fuel (hv_wI σ 25 g) (nI t) (nI i) = some (hv_wI σ 25 g') ∧ ∀ s, s < 12 → g' s = iI (zr F D t W s) := by
  have hW := hi.2.2.2.2.1
  have hD := hi.2.2.2.1
  have hP := hi.1.2
  have dX : σ.1 22 0 = nI D := hx.1.2.2.2.1.trans hD.1
  have wX : σ.1 22 1 = nI W := hx.1.2.2.2.2.trans hW.1
  intro d
  induction d with
  | zero =>
    intro i fuel g h1 h2 h3
    obtain ⟨fuel, rfl⟩ : ∃ q, fuel = q + 1 := ⟨fuel - 1, by omega⟩
    obtain rfl : i = W := by omega
    refine ⟨g, ?_, h3⟩
    show kX6_loadsAt_6_b n _ _ _ _ = _
    unfold kX6_loadsAt_6_b
    rw [hv_wI_ne _ _ (show 22 ≠ 25 by decide), wX, if_pos (nI_le (Nat.le_refl _) (by omega))]
  | succ d ih =>
    intro i fuel g h1 h2 h3
    obtain ⟨fuel, rfl⟩ : ∃ q, fuel = q + 1 := ⟨fuel - 1, by omega⟩
    have sc := sub_cases (t := t) (i := i) (D := D) ht (by omega) (by omega)
    have wt := zr_wt hi (show i < W by omega)
    have ez : zr F D t (i + 1) = if i ≤ t ∧ t - i < D then (fun s => if s = 2 * (F 9 (t - i)).toNatClampNeg + 1 then -((F 10 i).toInt) else zr F D t i s) else zr F D t i := rfl
    have skip : ¬ (i ≤ t ∧ t - i < D) → kX6_loadsAt_6 n (fuel + 1) (hv_wI σ 25 g) (nI t) (nI i) = kX6_loadsAt_6 n fuel (hv_wI σ 25 g) (nI t) (nI (i + 1)) := fun hn => by
      show kX6_loadsAt_6_b n _ _ _ _ = _
      unfold kX6_loadsAt_6_b kX6_loadsAt_52
      rw [hv_wI_ne _ _ (show 22 ≠ 25 by decide), wX, dX, if_neg (nI_ge (by omega) (by omega)), hv_let_e, nI_1]
      by_cases c : i ≤ t
      · rw [if_neg (sc.1 c).1, if_pos ((sc.1 c).2.1.mpr (by omega))]
      · rw [if_pos (sc.2 (by omega))]
    by_cases c : i ≤ t ∧ t - i < D
    · have pn := zr_pin hi c.2
      obtain ⟨g', k1, k2⟩ := ih (i + 1) fuel (upd g (2 * (F 9 (t - i)).toNatClampNeg + 1) (iI (-((F 10 i).toInt)))) (by omega) (by omega) (fun s hs => by
        rw [ez, if_pos c]
        by_cases e : s = 2 * (F 9 (t - i)).toNatClampNeg + 1
        · rw [if_pos e, e, pk_us]
        · rw [if_neg e, pk_un e]
          exact h3 s hs)
      refine ⟨g', ?_, k2⟩
      rw [← k1]
      show kX6_loadsAt_6_b n _ _ _ _ = _
      unfold kX6_loadsAt_6_b kX6_loadsAt_52
      have e23 : (hv_wI σ 25 g).1 23 (t - i) = nI (F 9 (t - i)).toNatClampNeg := by
        rw [hv_wI_ne _ _ (by decide), hx.2.2.2.2.2.1 (t - i) (by omega)]
        exact pn.1
      have e24 : (hv_wI σ 25 g).1 24 i = iI (F 10 i).toInt := by
        rw [hv_wI_ne _ _ (by decide), hx.2.2.2.2.2.2 i (by omega)]
        exact wt.1
      rw [hv_wI_ne _ _ (show 22 ≠ 25 by decide), wX, dX, if_neg (nI_ge (by omega) (by omega)), hv_let_e, if_neg (sc.1 c.1).1, if_neg (fun q => by have := (sc.1 c.1).2.1.mp q; omega), (sc.1 c.1).2.2, nI_clamp (show t - i < 2 ^ 31 by omega), e23, nI_2, nI_1, nI_1, hv_if_t (hv_ok_nI (show t - i < 6 by omega) (by decide)), hv_if_t (hv_ok_nI (show i < 4 by omega) (by decide)), hv_if_t (hv_ok_nI (show 2 * (F 9 (t - i)).toNatClampNeg + 1 < 12 by omega) (by decide)), nI_clamp (show i < 2 ^ 31 by omega), e24, iI_neg, hv_let_e, nI_clamp (by omega), hv_sI_wI]
    · obtain ⟨g', k1, k2⟩ := ih (i + 1) fuel g (by omega) (by omega) (by rw [ez, if_neg c]; exact h3)
      exact ⟨g', (skip c).trans k1, k2⟩
theorem x6_loadsAt {n : Nat} (hn : 20 < n) {F : Nat → Nat → Int32} {P B O D W : Nat} (hi : hI F P B O D W) {σ : hv_St} (hx : rX F σ) {t : Nat} (ht : t < 100) : ∃ g, mX6_loadsAt n σ (nI t) = some (hv_wI σ 25 g) ∧ ∀ s, s < 12 → g s = iI (zr F D t W s) := by
  have hW := hi.2.2.2.2.1
  obtain ⟨f, f1, f2⟩ := x6_clearLoads (n := n) hn (σ := σ)
  obtain ⟨g, g1, g2⟩ := x6_lAt (n := n) hi hx ht W 0 n f (by omega) (by omega) (fun s hs => by rw [f2 s hs]; rfl)
  refine ⟨g, ?_, g2⟩
  unfold mX6_loadsAt
  rw [f1, hv_bd_e]
  exact g1
theorem r8_rid {n : Nat} {F : Nat → Nat → Int32} {P B O D W : Nat} (hi : hI F P B O D W) {σ : hv_St} (hm : rM F σ) {t : Nat} (ht : t < 100) : ∀ (d i fuel : Nat) (g : Nat → Int32), i + d = W → d < fuel → (∀ s, s < 12 → g s = iI (zr F D t i s)) → ∃ g', kX8_rides_6 n fuel (hv_wI σ 16 g) (nI t) (nI i) = some (hv_wI σ 16 g') ∧ ∀ s, s < 12 → g' s = iI (zr F D t W s) := by
  have hW := hi.2.2.2.2.1
  have hD := hi.2.2.2.1
  have hP := hi.1.2
  have dM : σ.1 0 13 = nI D := hm.1.2.2.2.1.trans hD.1
  have wM : σ.1 0 15 = nI W := hm.1.2.2.2.2.trans hW.1
  intro d
  induction d with
  | zero =>
    intro i fuel g h1 h2 h3
    obtain ⟨fuel, rfl⟩ : ∃ q, fuel = q + 1 := ⟨fuel - 1, by omega⟩
    obtain rfl : i = W := by omega
    refine ⟨g, ?_, h3⟩
    show kX8_rides_6_b n _ _ _ _ = _
    unfold kX8_rides_6_b
    rw [hv_wI_ne _ _ (show 0 ≠ 16 by decide), wM, if_pos (nI_le (Nat.le_refl _) (by omega))]
  | succ d ih =>
    intro i fuel g h1 h2 h3
    obtain ⟨fuel, rfl⟩ : ∃ q, fuel = q + 1 := ⟨fuel - 1, by omega⟩
    have sc := sub_cases (t := t) (i := i) (D := D) ht (by omega) (by omega)
    have wt := zr_wt hi (show i < W by omega)
    have ez : zr F D t (i + 1) = if i ≤ t ∧ t - i < D then (fun s => if s = 2 * (F 9 (t - i)).toNatClampNeg + 1 then -((F 10 i).toInt) else zr F D t i s) else zr F D t i := rfl
    have hin : mX8_in n (hv_wI σ 16 g) ((nI t - nI i).toInt64) (0 : Int64) ((nI D - (1 : Int32)).toInt64) = some (if i ≤ t ∧ t - i < D then 1 else 0, hv_wI σ 16 g) := by
      rw [show (0 : Int64) = (0 : Int32).toInt64 from rfl, r8_in32]
      have hx := fN_in (N := D) (by omega) (nI t - nI i)
      by_cases c : i ≤ t
      · rw [(sc.1 c).2.2] at hx ⊢
        by_cases c2 : t - i < D
        · rw [if_pos (hx.mp ⟨t - i, c2, rfl⟩), if_pos ⟨c, c2⟩]
        · rw [if_neg (fun q => by
            obtain ⟨k, hk, e⟩ := hx.mpr q
            have := (nI_eq (by omega) (by omega)).mp e
            omega), if_neg (fun q => c2 q.2)]
      · rw [if_neg (fun q => by
          have q1 := sc.2 (by omega)
          exact absurd q1 (Int32.not_lt.mpr q.1)), if_neg (fun q => c q.1)]
    by_cases c : i ≤ t ∧ t - i < D
    · have pn := zr_pin hi c.2
      obtain ⟨g', k1, k2⟩ := ih (i + 1) fuel (upd g (2 * (F 9 (t - i)).toNatClampNeg + 1) (iI (-((F 10 i).toInt)))) (by omega) (by omega) (fun s hs => by
        rw [ez, if_pos c]
        by_cases e : s = 2 * (F 9 (t - i)).toNatClampNeg + 1
        · rw [if_pos e, e, pk_us]
        · rw [if_neg e, pk_un e]
          exact h3 s hs)
      refine ⟨g', ?_, k2⟩
      rw [← k1]
      show kX8_rides_6_b n _ _ _ _ = _
      unfold kX8_rides_6_b kX8_rides_56
      have e9 : (hv_wI σ 16 g).1 9 (t - i) = nI (F 9 (t - i)).toNatClampNeg := by
        rw [hv_wI_ne _ _ (by decide), hm.2 9 (by decide) (by decide)]
        exact pn.1
      have e10 : (hv_wI σ 16 g).1 10 i = iI (F 10 i).toInt := by
        rw [hv_wI_ne _ _ (by decide), hm.2 10 (by decide) (by decide)]
        exact wt.1
      rw [hv_wI_ne _ _ (show 0 ≠ 16 by decide), wM, dM, if_neg (nI_ge (by omega) (by omega)), hin, if_pos c, hv_b2_e, if_neg (by decide), (sc.1 c.1).2.2, nI_clamp (show t - i < 2 ^ 31 by omega), e9, nI_2, nI_1, nI_1, hv_if_t (hv_ok_nI (show t - i < 6 by omega) (by decide)), hv_if_t (hv_ok_nI (show i < 4 by omega) (by decide)), hv_if_t (hv_ok_nI (show 2 * (F 9 (t - i)).toNatClampNeg + 1 < 12 by omega) (by decide)), nI_clamp (show i < 2 ^ 31 by omega), e10, iI_neg, hv_let_e, nI_clamp (by omega), hv_sI_wI]
    · obtain ⟨g', k1, k2⟩ := ih (i + 1) fuel g (by omega) (by omega) (by rw [ez, if_neg c]; exact h3)
      refine ⟨g', ?_, k2⟩
      rw [← k1]
      show kX8_rides_6_b n _ _ _ _ = _
      unfold kX8_rides_6_b kX8_rides_56
      rw [hv_wI_ne _ _ (show 0 ≠ 16 by decide), wM, dM, if_neg (nI_ge (by omega) (by omega)), hin, if_neg c, hv_b2_e, if_pos rfl, nI_1]
theorem r8_rides {n : Nat} (hn : 20 < n) {F : Nat → Nat → Int32} {P B O D W : Nat} (hi : hI F P B O D W) {σ : hv_St} (hm : rM F σ) {t : Nat} (ht : t < 100) : ∃ g, mX8_rides n σ (nI t) = some (hv_wI σ 16 g) ∧ ∀ s, s < 12 → g s = iI (zr F D t W s) := by
  have hW := hi.2.2.2.2.1
  obtain ⟨f, f1, f2⟩ := r8_takesNone (n := n) hn (σ := σ)
  obtain ⟨g, g1, g2⟩ := r8_rid (n := n) hi hm ht W 0 n f (by omega) (by omega) (fun s hs => by rw [f2 s hs]; rfl)
  refine ⟨g, ?_, g2⟩
  unfold mX8_rides
  rw [f1, hv_bd_e]
  exact g1
theorem op_riding {n : Nat} (hn : 2100 ≤ n) {F : Nat → Nat → Int32} {P B O D W : Nat} {σX σM : hv_St} (h : hR F P B O D W σX σM) (v p u : Int32) : hT F P B O D W (mX7_riding n σX v p u) (mX8_riding n σM v p u) := by
  obtain ⟨hi, hx, hm⟩ := h
  have hB := hi.2.1.2
  have hP := hi.1.2
  have hO := hi.2.2.1
  have hD := hi.2.2.2.1
  have hW := hi.2.2.2.2.1
  have o31 : O < 2 ^ 31 := by have := p2048 hB hO.2; omega
  have bX : σX.1 1 1 = nI B := hx.1.2.1.trans hi.2.1.1
  have oX' : σX.1 1 2 = nI O := hx.1.2.2.1.trans hO.1
  have dX : σX.1 22 0 = nI D := hx.1.2.2.2.1.trans hD.1
  have wX : σX.1 22 1 = nI W := hx.1.2.2.2.2.trans hW.1
  have m1 : rM F (hv_sI σM 0 0 1) := rM_sc hm (by decide) 1
  have e1 : (hv_sI σM 0 0 1).1 0 0 = 1 := by rw [hv_sI_rd, if_pos rfl]
  have bM : (hv_sI σM 0 0 1).1 0 6 = nI B := m1.1.2.1.trans hi.2.1.1
  have oM : (hv_sI σM 0 0 1).1 0 11 = nI O := m1.1.2.2.1.trans hO.1
  have dM : (hv_sI σM 0 0 1).1 0 13 = nI D := m1.1.2.2.2.1.trans hD.1
  have wM : (hv_sI σM 0 0 1).1 0 15 = nI W := m1.1.2.2.2.2.trans hW.1
  have sX := x6_stands (n := n) (by omega) hW.2 dX wX p
  have sM' := r8_isRide (n := n) (by omega) hW.2 dM wM p
  have hno : mX7_riding n σX v p u = some (none, σX) → mX8_riding n σM v p u = some (0, hv_sI σM 0 0 1) → hT F P B O D W (mX7_riding n σX v p u) (mX8_riding n σM v p u) := fun a b => ⟨σX, _, ⟨hi, hx, m1⟩, Or.inr ⟨0, a, b, e1⟩⟩
  have on_iff : fO B (σX.1 1 2) v ↔ fN B v ∧ fB (nI O) v := by rw [oX']; rfl
  by_cases hv : fN B v
  · by_cases hon : fB (nI O) v
    · have c1 := (x3_isOn (n := n) (by omega) bX v).1 (on_iff.mpr ⟨hv, hon⟩)
      by_cases hs : fSt D W p
      · have hs' := hs
        obtain ⟨-, -, t, ht, rfl⟩ := hs'
        obtain ⟨b, hb, rfl⟩ := hv
        have hbs : O.testBit b = true := (fB_iff o31 (by omega)).mp hon
        obtain ⟨g, g1, g2⟩ := x6_loadsAt (n := n) (by omega) hi hx (t := t) (by omega)
        obtain ⟨f, f1, f2⟩ := r8_rides (n := n) (by omega) hi m1 (t := t) (by omega)
        have m2 := rM_16 m1 f
        obtain ⟨τX, τM, r1, r2, -, -, -, r4⟩ := both_bears hn hi hO.2 (rX_25 hx g) m2 (Or.inr rfl) (z := zr F D t W) (fun s hs => ⟨by rw [hv_wI_at]; exact g2 s hs, zr_bd hi t s W (Nat.le_refl _)⟩) (fun s hs => by rw [hv_wI_at]; exact f2 s hs)
        have h27 : mX7_riding n σX (nI b) (nI t) u = kX7_riding_27 n σX (nI b) (nI t) u 1 := by
          unfold mX7_riding
          rw [c1, hv_b2_e, if_neg (by decide), sX.1 hs, hv_b2_e, if_neg (by decide)]
        have h56 : ∀ o, mX8_bears n (hv_wI (hv_sI σM 0 0 1) 16 f) (nI O) = o → mX8_riding n σM (nI b) (nI t) u = hv_b2 o fun r45 s45 => if r45 = 0 then (kX8_riding_56 n s45 (nI b) u ((1 : Int32))) else (kX8_riding_56 n s45 (nI b) u ((0 : Int32))) := fun o ho => by
          unfold mX8_riding
          rw [hv_let_e, (r8_isBar (by omega) bM (nI b)).1 ⟨b, hb, rfl⟩, hv_b2_e, if_neg (by decide), oM, (r8_isOn _ _).1 hon, hv_b2_e, if_neg (by decide), sM'.1 hs, hv_b2_e, if_neg (by decide), f1, hv_bd_e, m2.1.2.2.1, hO.1, ho]
        rw [h27]
        rcases r4 with ⟨y1, y2, -⟩ | ⟨y1, y2, -, y3⟩
        · refine ⟨τX, hv_sI τM 0 0 1, ⟨hi, r1, rM_sc r2 (by decide) 1⟩, Or.inr ⟨0, ?_, ?_, by rw [hv_sI_rd, if_pos rfl]⟩⟩
          · unfold kX7_riding_27
            rw [need_1, g1, hv_bd_e, oX', y1, hv_b2_e, need_0]
          · rw [h56 _ y2, hv_b2_e, if_pos rfl]
            unfold kX8_riding_56
            rw [hv_let_e, hv_sI_rd, if_pos rfl, if_neg (by decide)]
        · obtain ⟨τ', t1, t2⟩ := tp_X hn hi hO.2 (fun s _ => zr_bd hi t s W (Nat.le_refl _)) y3 hb hbs u
          have e0 : (hv_sI τM 0 0 0).1 0 0 = 0 := by rw [hv_sI_rd, if_pos rfl]
          refine ⟨τ', hv_sI τM 0 0 0, ⟨hi, rX_1 r1 (fun k _ => by rw [t2]), rM_sc r2 (by decide) 0⟩, Or.inl ⟨iL (pv F P B O (zr F D t W) b u), ?_, ?_, e0⟩⟩
          · unfold kX7_riding_27
            rw [need_1, g1, hv_bd_e, oX', y1, hv_b2_e, need_1, t1, hv_b2_e]
          · rw [h56 _ y2, hv_b2_e, if_neg (by decide)]
            unfold kX8_riding_56
            rw [hv_let_e, e0, if_pos (by decide), hv_if_t (hv_ok_nI (show b < 11 by omega) (by decide)), nI_clamp (by omega)]
            show (hv_b2 (mX8_told n _ (τM.2 15 b) (τM.2 0 24) u) fun r65 s65 => some (r65, s65)) = _
            rw [y3.2.2.1 b hb, y3.2.1, tp_M hn y3 b u, hv_b2_e]
      · refine hno ?_ ?_
        · unfold mX7_riding kX7_riding_26 kX7_riding_27
          rw [c1, hv_b2_e, if_neg (by decide), sX.2 hs, hv_b2_e, if_pos rfl, need_0]
        · unfold mX8_riding
          rw [hv_let_e, (r8_isBar (by omega) bM v).1 hv, hv_b2_e, if_neg (by decide), oM, (r8_isOn _ _).1 hon, hv_b2_e, if_neg (by decide), sM'.2 hs, hv_b2_e, if_pos rfl]
    · refine hno ?_ ?_
      · unfold mX7_riding kX7_riding_26 kX7_riding_27
        rw [(x3_isOn (by omega) bX v).2 (fun q => hon (on_iff.mp q).2), hv_b2_e, if_pos rfl, need_0]
      · unfold mX8_riding
        rw [hv_let_e, (r8_isBar (by omega) bM v).1 hv, hv_b2_e, if_neg (by decide), oM, (r8_isOn _ _).2 hon, hv_b2_e, if_pos rfl]
  · refine hno ?_ ?_
    · unfold mX7_riding kX7_riding_26 kX7_riding_27
      rw [(x3_isOn (by omega) bX v).2 (fun q => hv (on_iff.mp q).1), hv_b2_e, if_pos rfl, need_0]
    · unfold mX8_riding
      rw [hv_let_e, (r8_isBar (by omega) bM v).2 hv, hv_b2_e, if_pos rfl]
end
section
/-! worst -/
theorem lg_le {a b : Int} (ha : rL a) (hb : rL b) : lg_cmp (iL a) (iL b) ≤ 0 ↔ a ≤ b := by
  have l := iL_lt (a := b) (b := a) hb ha
  unfold lg_cmp
  by_cases h1 : iL b < iL a
  · rw [if_pos h1]
    have := l.mp h1
    exact ⟨fun q => absurd q (by decide), fun q => by omega⟩
  · rw [if_neg h1]
    have h2 : ¬ b < a := fun q => h1 (l.mpr q)
    by_cases h3 : iL a = iL b
    · rw [if_pos h3]
      exact ⟨fun _ => by omega, fun _ => by decide⟩
    · rw [if_neg h3]
      exact ⟨fun _ => by omega, fun _ => by decide⟩
theorem nI_n1 {t : Nat} (h : t < 2 ^ 31) : nI t ≠ -1 := fun q => nI_pos h (by rw [q]; decide)
theorem fSt_at {D W t : Nat} (ht : t < 2 ^ 31) (hD : D ≤ 6) (hW : W ≤ 4) (d0 : 0 < D) (w0 : 0 < W) : fSt D W (nI t) ↔ t < D + W - 1 := by
  constructor
  · intro h
    obtain ⟨j, hj, q⟩ := h.2.2
    have := (nI_eq ht (by omega)).mp q
    omega
  · intro h
    exact ⟨d0, w0, t, h, rfl⟩
theorem wst {n : Nat} (hn : 2100 ≤ n) {F : Nat → Nat → Int32} {P B O D W : Nat} (hi : hI F P B O D W) (d0 : 0 < D) (w0 : 0 < W) (hf : fFirm F P B O) {k w : Int} {A : Nat → md_V} {e : Int} (hk : k ≠ 0) {c : Nat} (hc : c < B) (hcs : O.testBit c = true) : ∀ (d t fx fm : Nat) (σX σM : hv_St) (wo : Int32) (m M : Int), t + d = D + W - 1 → d < fx → d < fm → rX F σX → rM F σM → qA F P B O k w A e σX → ((wo = -1 ∧ m = -1 ∧ M = 0) ∨ (wo ≠ -1 ∧ 0 ≤ m ∧ M = k.natAbs * m ∧ m ≤ 2 ^ 57 ∧ M ≤ 2 ^ 57)) → ∃ r τX τM, kX7_worst_55 n fx σX (nI c) wo (iL m) (nI t) = some (r, τX) ∧ kX8_worst_41 n fm σM (nI c) wo (iL M) (nI t) = some (r, τM) ∧ rX F τX ∧ rM F τM := by
  have hB := hi.2.1.2
  have hO := hi.2.2.1
  have hD := hi.2.2.2.1
  have hW := hi.2.2.2.2.1
  have hD6 : D ≤ 6 := by have := hi.1.2; omega
  intro d
  induction d with
  | zero =>
    intro t fx fm σX σM wo m M h1 h2 h3 hx hm hq hw
    obtain ⟨fx, rfl⟩ : ∃ q, fx = q + 1 := ⟨fx - 1, by omega⟩
    obtain ⟨fm, rfl⟩ : ∃ q, fm = q + 1 := ⟨fm - 1, by omega⟩
    have ns : ¬ fSt D W (nI t) := fun q => by
      have := (fSt_at (by omega) hD6 hW.2 d0 w0).mp q
      omega
    refine ⟨wo, σX, σM, ?_, ?_, hx, hm⟩
    · show kX7_worst_55_b n _ _ _ _ _ _ = _
      unfold kX7_worst_55_b
      rw [if_neg (show ¬ (10 : Int32) ≤ nI t from nI_ge (b := 10) (by omega) (by decide)), (x6_stands (n := n) hD6 hW.2 (hx.1.2.2.2.1.trans hD.1) (hx.1.2.2.2.2.trans hW.1) (nI t)).2 ns, hv_b2_e, if_pos rfl]
    · show kX8_worst_41_b n _ _ _ _ _ _ = _
      unfold kX8_worst_41_b
      rw [(r8_isRide (n := n) hD6 hW.2 (hm.1.2.2.2.1.trans hD.1) (hm.1.2.2.2.2.trans hW.1) (nI t)).2 ns, hv_b2_e, if_pos rfl]
  | succ d ih =>
    intro t fx fm σX σM wo m M h1 h2 h3 hx hm hq hw
    obtain ⟨fx, rfl⟩ : ∃ q, fx = q + 1 := ⟨fx - 1, by omega⟩
    obtain ⟨fm, rfl⟩ : ∃ q, fm = q + 1 := ⟨fm - 1, by omega⟩
    have ys : fSt D W (nI t) := (fSt_at (by omega) hD6 hW.2 d0 w0).mpr (by omega)
    have zb : ∀ s, s < 12 → (zr F D t W s).natAbs ≤ 9 := fun s _ => zr_bd hi t s W (Nat.le_refl _)
    obtain ⟨g, g1, g2⟩ := x6_loadsAt (n := n) (by omega) hi hx (t := t) (by omega)
    have hq1 : qA F P B O k w A e (hv_wI σX 25 g) := qA_mono hB hi.1.2 hq (fun j hj => hv_wI_ne _ _ hj) (fun _ _ _ => rfl)
    obtain ⟨v, v1, v2, v3⟩ := x_bear (n := n) (by omega) hi hq1 (q := 25) (z := zr F D t W) (fun s hs => ⟨by rw [hv_wI_at]; exact g2 s hs, zb s hs⟩)
    obtain ⟨oc, o1, o2⟩ := over_of (n := n) (by omega) hi hO.2 zb ⟨A, e, v2, v3⟩ hc hcs
    obtain ⟨f, f1, f2⟩ := r8_rides (n := n) (by omega) hi hm (t := t) (by omega)
    have m2 := rM_16 hm f
    obtain ⟨τM, q1, -, -, -, q5, -⟩ := r8_bears hn hi hO.2 m2 zb (fun s hs => by rw [hv_wI_at]; exact f2 s hs)
    obtain ⟨y1, y2, y3⟩ := q5 hf
    have hx1 : rX F (hv_wJ (hv_wI σX 25 g) 14 v) := rX_1 (rX_25 hx g) (fun _ _ => rfl)
    have pl := pc_leB hB hO.2
    have ob : (oSum F P B O (zr F D t W) c).natAbs ≤ 2 ^ 57 := by
      obtain ⟨-, -, -, hm2, hpc, -⟩ := hq
      exact oS_bd hi hO.2 hm2 hpc (by omega) zb c
    have ocb : oc.natAbs ≤ 2 ^ 57 := Nat.le_trans (k_le hk o1) ob
    have eab : ((oSum F P B O (zr F D t W) c).natAbs : Int) = k.natAbs * (oc.natAbs : Int) := by
      rw [o1, Int.natAbs_mul]
      exact Int.natCast_mul _ _
    have rl1 : rL oc := rL_of (Nat.le_trans ocb (by decide))
    have rl2 : rL (oSum F P B O (zr F D t W) c) := rL_of (Nat.le_trans ob (by decide))
    have e7 : kX7_worst_55 n (fx + 1) σX (nI c) wo (iL m) (nI t) = if lg_cmp (iL (oc.natAbs : Int)) (iL m) ≤ 0 then kX7_worst_55 n fx (hv_wJ (hv_wI σX 25 g) 14 v) (nI c) wo (iL m) (nI (t + 1)) else kX7_worst_55 n fx (hv_wJ (hv_wI σX 25 g) 14 v) (nI c) (nI t) (iL (oc.natAbs : Int)) (nI (t + 1)) := by
      show kX7_worst_55_b n _ _ _ _ _ _ = _
      unfold kX7_worst_55_b kX7_worst_116
      rw [if_neg (show ¬ (10 : Int32) ≤ nI t from nI_ge (b := 10) (by omega) (by decide)), (x6_stands (n := n) hD6 hW.2 (hx.1.2.2.2.1.trans hD.1) (hx.1.2.2.2.2.trans hW.1) (nI t)).1 ys, hv_b2_e, if_neg (by decide), g1, hv_bd_e, v1, hv_bd_e, o2, hv_b2_e, iL_abs rl1, hv_let_e, nI_1]
    have e8 : kX8_worst_41 n (fm + 1) σM (nI c) wo (iL M) (nI t) = if wo = -1 then kX8_worst_41 n fm τM (nI c) (nI t) (iL ((oSum F P B O (zr F D t W) c).natAbs : Int)) (nI (t + 1)) else if lg_cmp (iL ((oSum F P B O (zr F D t W) c).natAbs : Int)) (iL M) ≤ 0 then kX8_worst_41 n fm τM (nI c) wo (iL M) (nI (t + 1)) else kX8_worst_41 n fm τM (nI c) (nI t) (iL ((oSum F P B O (zr F D t W) c).natAbs : Int)) (nI (t + 1)) := by
      show kX8_worst_41_b n _ _ _ _ _ _ = _
      unfold kX8_worst_41_b kX8_worst_101 kX8_worst_88 kX8_worst_101
      rw [(r8_isRide (n := n) hD6 hW.2 (hm.1.2.2.2.1.trans hD.1) (hm.1.2.2.2.2.trans hW.1) (nI t)).1 ys, hv_b2_e, if_neg (by decide), f1, hv_bd_e, m2.1.2.2.1.trans hO.1, y1, hv_b2_e, if_neg (by decide), hv_if_t (hv_ok_nI (show c < 11 by omega) (by decide)), hv_if_t (hv_ok_nI (show c < 11 by omega) (by decide)), nI_clamp (by omega), y3 c hc, r8_abs rl2, hv_b2_e, hv_b2_e, hv_if_t (hv_ok_nI (show c < 11 by omega) (by decide)), y3 c hc, r8_abs rl2, hv_b2_e, nI_1]
    have take : ∃ r τX τM', kX7_worst_55 n fx (hv_wJ (hv_wI σX 25 g) 14 v) (nI c) (nI t) (iL (oc.natAbs : Int)) (nI (t + 1)) = some (r, τX) ∧ kX8_worst_41 n fm τM (nI c) (nI t) (iL ((oSum F P B O (zr F D t W) c).natAbs : Int)) (nI (t + 1)) = some (r, τM') ∧ rX F τX ∧ rM F τM' := ih (t + 1) fx fm _ τM (nI t) _ _ (by omega) (by omega) (by omega) hx1 q1 v2 (Or.inr ⟨nI_n1 (by omega), by omega, eab, by omega, by omega⟩)
    rw [e7, e8]
    rcases hw with ⟨rfl, rfl, rfl⟩ | ⟨hw1, hw2, hw3, hw4, hw5⟩
    · rw [if_pos rfl, if_neg (fun q => by
        have := (lg_le (a := (oc.natAbs : Int)) (b := -1) (rL_of (by omega)) ⟨by decide, by decide⟩).mp q
        omega)]
      exact take
    · have kp : 0 < (k.natAbs : Int) := by omega
      have cmp : (oc.natAbs : Int) ≤ m ↔ ((oSum F P B O (zr F D t W) c).natAbs : Int) ≤ M := by
        rw [eab, hw3]
        exact ⟨fun q => Int.mul_le_mul_of_nonneg_left q (by omega), fun q => Int.le_of_mul_le_mul_left q kp⟩
      have l1 := lg_le (a := (oc.natAbs : Int)) (b := m) (rL_of (by omega)) (rL_of (by omega))
      have hM0 : 0 ≤ M := by rw [hw3]; exact Int.mul_nonneg (by omega) hw2
      have l2 := lg_le (a := ((oSum F P B O (zr F D t W) c).natAbs : Int)) (b := M) (rL_of (by omega)) (rL_of (by omega))
      rw [if_neg hw1]
      by_cases q : (oc.natAbs : Int) ≤ m
      · rw [if_pos (l1.mpr q), if_pos (l2.mpr (cmp.mp q))]
        exact ih (t + 1) fx fm _ τM wo m M (by omega) (by omega) (by omega) hx1 q1 v2 (Or.inr ⟨hw1, hw2, hw3, hw4, hw5⟩)
      · rw [if_neg (fun z => q (l1.mp z)), if_neg (fun z => q (cmp.mpr (l2.mp z)))]
        exact take
theorem op_worst {n : Nat} (hn : 2100 ≤ n) {F : Nat → Nat → Int32} {P B O D W : Nat} {σX σM : hv_St} (h : hR F P B O D W σX σM) (v : Int32) : ∃ r σX' σM', mX7_worst n σX v = some (r, σX') ∧ mX8_worst n σM v = some (r, σM') ∧ hR F P B O D W σX' σM' := by
  obtain ⟨hi, hx, hm⟩ := h
  have hB := hi.2.1.2
  have hP := hi.1.2
  have hO := hi.2.2.1
  have hD := hi.2.2.2.1
  have hW := hi.2.2.2.2.1
  have o31 : O < 2 ^ 31 := by have := p2048 hB hO.2; omega
  have bX : σX.1 1 1 = nI B := hx.1.2.1.trans hi.2.1.1
  have oX' : σX.1 1 2 = nI O := hx.1.2.2.1.trans hO.1
  have dX : σX.1 22 0 = nI D := hx.1.2.2.2.1.trans hD.1
  have wX : σX.1 22 1 = nI W := hx.1.2.2.2.2.trans hW.1
  have m1 := rM0 hm
  have bM : (hv_sI σM 0 0 0).1 0 6 = nI B := m1.1.2.1.trans hi.2.1.1
  have oM : (hv_sI σM 0 0 0).1 0 11 = nI O := m1.1.2.2.1.trans hO.1
  have dM : (hv_sI σM 0 0 0).1 0 13 = nI D := m1.1.2.2.2.1.trans hD.1
  have wM : (hv_sI σM 0 0 0).1 0 15 = nI W := m1.1.2.2.2.2.trans hW.1
  have sX := x6_stands (n := n) (by omega) hW.2 dX wX (0 : Int32)
  have sM' := r8_isRide (n := n) (by omega) hW.2 dM wM (0 : Int32)
  have on_iff : fO B (σX.1 1 2) v ↔ fN B v ∧ fB (nI O) v := by rw [oX']; rfl
  by_cases hv : fN B v
  · by_cases hon : fB (nI O) v
    · have c1 := (x3_isOn (n := n) (by omega) bX v).1 (on_iff.mpr ⟨hv, hon⟩)
      by_cases hs : fSt D W (0 : Int32)
      · obtain ⟨b, hb, rfl⟩ := hv
        have hbs : O.testBit b = true := (fB_iff o31 (by omega)).mp hon
        have zb : ∀ s, s < 12 → (zr F D 0 W s).natAbs ≤ 9 := fun s _ => zr_bd hi 0 s W (Nat.le_refl _)
        obtain ⟨g, g1, g2⟩ := x6_loadsAt (n := n) (by omega) hi hx (t := 0) (by omega)
        obtain ⟨τX, x1, x2, x3, x4⟩ := x7_bears hn hi hO.2 (rX_25 hx g) (Or.inr rfl) (z := zr F D 0 W) (fun s hs => ⟨by rw [hv_wI_at]; exact g2 s hs, zb s hs⟩)
        have e8 : mX8_worst n σM (nI b) = kX8_worst_41 n n (hv_sI σM 0 0 0) (nI b) (-1) (0 : Int64) (0 : Int32) := by
          unfold mX8_worst
          rw [hv_let_e, (r8_isBar (by omega) bM (nI b)).1 ⟨b, hb, rfl⟩, hv_b2_e, if_neg (by decide), oM, (r8_isOn _ _).1 hon, hv_b2_e, if_neg (by decide), sM'.1 hs, hv_b2_e, if_neg (by decide)]
        by_cases hf : fFirm F P B O
        · obtain ⟨y1, y2, k, w, y3, y4, A, e, y5, -⟩ := x3 hf
          obtain ⟨r, τX', τM, r1, r2, r3, r4⟩ := wst hn hi hs.1 hs.2.1 hf (k := k) (w := w) (A := A) (e := e) y3 hb hbs (D + W - 1) 0 n n τX (hv_sI σM 0 0 0) (-1) (-1) 0 (by omega) (by omega) (by omega) x1 m1 y5 (Or.inl ⟨rfl, rfl, rfl⟩)
          refine ⟨r, τX', τM, ?_, e8.trans r2, hi, r3, r4⟩
          unfold mX7_worst
          rw [c1, hv_b2_e, if_neg (by decide), sX.1 hs, hv_b2_e, if_neg (by decide), show mX6_loadsAt n σX (0 : Int32) = _ from g1, hv_bd_e, oX', y1, hv_b2_e, if_neg (by decide)]
          exact r1
        · obtain ⟨f, f1, f2⟩ := r8_rides (n := n) (by omega) hi m1 (t := 0) (by omega)
          have m2 := rM_16 m1 f
          obtain ⟨τM, q1, -, -, -, -, q6⟩ := r8_bears hn hi hO.2 m2 zb (fun s hs => by rw [hv_wI_at]; exact f2 s hs)
          refine ⟨-1, τX, τM, ?_, ?_, hi, x1, q1⟩
          · unfold mX7_worst
            rw [c1, hv_b2_e, if_neg (by decide), sX.1 hs, hv_b2_e, if_neg (by decide), show mX6_loadsAt n σX (0 : Int32) = _ from g1, hv_bd_e, oX', x4 hf, hv_b2_e, if_pos rfl]
          · rw [e8]
            obtain ⟨fm, hfm⟩ : ∃ q, n = q + 1 := ⟨n - 1, by omega⟩
            have : kX8_worst_41 n (fm + 1) (hv_sI σM 0 0 0) (nI b) (-1) (0 : Int64) (0 : Int32) = some (-1, τM) := by
              show kX8_worst_41_b n _ _ _ _ _ _ = _
              unfold kX8_worst_41_b
              rw [sM'.1 hs, hv_b2_e, if_neg (by decide), show mX8_rides n (hv_sI σM 0 0 0) (0 : Int32) = _ from f1, hv_bd_e, m2.1.2.2.1.trans hO.1, q6 hf, hv_b2_e, if_pos rfl]
            rw [← hfm] at this
            exact this
      · refine ⟨-1, σX, hv_sI σM 0 0 0, ?_, ?_, hi, hx, m1⟩
        · unfold mX7_worst
          rw [c1, hv_b2_e, if_neg (by decide), sX.2 hs, hv_b2_e, if_pos rfl]
        · unfold mX8_worst
          rw [hv_let_e, (r8_isBar (by omega) bM v).1 hv, hv_b2_e, if_neg (by decide), oM, (r8_isOn _ _).1 hon, hv_b2_e, if_neg (by decide), sM'.2 hs, hv_b2_e, if_pos rfl]
    · refine ⟨-1, σX, hv_sI σM 0 0 0, ?_, ?_, hi, hx, m1⟩
      · unfold mX7_worst
        rw [(x3_isOn (by omega) bX v).2 (fun q => hon (on_iff.mp q).2), hv_b2_e, if_pos rfl]
      · unfold mX8_worst
        rw [hv_let_e, (r8_isBar (by omega) bM v).1 hv, hv_b2_e, if_neg (by decide), oM, (r8_isOn _ _).2 hon, hv_b2_e, if_pos rfl]
  · refine ⟨-1, σX, hv_sI σM 0 0 0, ?_, ?_, hi, hx, m1⟩
    · unfold mX7_worst
      rw [(x3_isOn (by omega) bX v).2 (fun q => hv (on_iff.mp q).1), hv_b2_e, if_pos rfl]
    · unfold mX8_worst
      rw [hv_let_e, (r8_isBar (by omega) bM v).2 hv, hv_b2_e, if_pos rfl]
end
section
/-! painted -/
def bX (F : Nat → Nat → Int32) (P B S : Nat) (z : Nat → Int) (τ : hv_St) : Prop := (∃ k w, k ≠ 0 ∧ uSum F P B S = k * w ∧ oX F P B S k w z τ) ∧ 0 < uSum F P B S ∧ (uSum F P B S).natAbs ≤ 2 ^ 52 ∧ ∀ c, (oSum F P B S z c).natAbs ≤ 2 ^ 57
theorem bX_of {F : Nat → Nat → Int32} {P B S : Nat} {z : Nat → Int} {τX τM : hv_St} (h : bF F P B S z τX τM) : bX F P B S z τX := ⟨h.1, h.2.2.2⟩
theorem bX_mono {F : Nat → Nat → Int32} {P B S : Nat} {z : Nat → Int} {σ τ : hv_St} (hB : B ≤ 11) (hP : P ≤ 6) (h : bX F P B S z σ) (h1 : ∀ j, j ≠ 25 → τ.1 j = σ.1 j) (h2 : ∀ j, j ≠ 26 → τ.2 j = σ.2 j) : bX F P B S z τ := by
  obtain ⟨⟨k, w, h3, h4, h5⟩, q⟩ := h
  exact ⟨⟨k, w, h3, h4, oX_mono hB hP h5 h1 h2⟩, q⟩
theorem nI_L {s : Nat} (h : s < 2 ^ 31) : (nI s).toInt64 = iL (s : Int) := by
  rw [nI_iI, iI_L ⟨by omega, by omega⟩]
theorem red_X {n : Nat} (hn : 2100 ≤ n) {F : Nat → Nat → Int32} {P B O D W : Nat} (hi : hI F P B O D W) {S : Nat} (hS : S < 2 ^ B) {z : Nat → Int} (hz : ∀ s, s < 12 → (z s).natAbs ≤ 9) {τ : hv_St} (h : bX F P B S z τ) {c : Nat} (hc : c < B) (hcs : S.testBit c = true) : ∃ oc g x y, mX5_overOf n τ (nI c) = some (iL oc, τ) ∧ mX2_reduce n τ (iL oc) (τ.2 13 6) = some (hv_sJ (hv_sJ τ 26 0 (iL x)) 26 1 (iL y)) ∧ 0 < g ∧ oSum F P B S z c = g * x ∧ uSum F P B S = g * y ∧ 0 < y ∧ bX F P B S z (hv_sJ (hv_sJ τ 26 0 (iL x)) 26 1 (iL y)) := by
  have h' := h
  obtain ⟨⟨k, w, hk, hkw, ho⟩, hup, hub, hob⟩ := h
  obtain ⟨oc, e1, e2⟩ := over_of (n := n) (by omega) hi hS hz ho hc hcs
  have hw := (oX_m ho).2.2
  have bw : w.natAbs ≤ 2 ^ 62 := Nat.le_trans (k_le hk hkw) (Nat.le_trans hub (by decide))
  have bo : oc.natAbs ≤ 2 ^ 62 := Nat.le_trans (k_le hk e1) (Nat.le_trans (hob c) (by decide))
  have w0 : w ≠ 0 := fun q => by rw [hkw, q, Int.mul_zero] at hup; omega
  have gp : 0 < Int.gcd (oSum F P B S z c) (uSum F P B S) := Int.gcd_pos_of_ne_zero_right _ (by omega)
  have sg : (uSum F P B S).sign = 1 := Int.sign_eq_one_of_pos hup
  have ex : tlN oc w oc = oSum F P B S z c / ((Int.gcd (oSum F P B S z c) (uSum F P B S) : Nat) : Int) := by
    rw [← tlN_scale hk oc w oc, ← e1, ← hkw]
    unfold tlN
    rw [sg, Int.one_mul]
  have ey : tlN oc w w = uSum F P B S / ((Int.gcd (oSum F P B S z c) (uSum F P B S) : Nat) : Int) := by
    rw [← tlN_scale hk oc w w, ← e1, ← hkw]
    unfold tlN
    rw [sg, Int.one_mul]
  have mx : oSum F P B S z c = ((Int.gcd (oSum F P B S z c) (uSum F P B S) : Nat) : Int) * tlN oc w oc := by
    rw [ex]
    exact (Int.mul_ediv_cancel' (Int.gcd_dvd_left ..)).symm
  have my : uSum F P B S = ((Int.gcd (oSum F P B S z c) (uSum F P B S) : Nat) : Int) * tlN oc w w := by
    rw [ey]
    exact (Int.mul_ediv_cancel' (Int.gcd_dvd_right ..)).symm
  have gp' : (0 : Int) < ((Int.gcd (oSum F P B S z c) (uSum F P B S) : Nat) : Int) := by omega
  refine ⟨oc, ((Int.gcd (oSum F P B S z c) (uSum F P B S) : Nat) : Int), tlN oc w oc, tlN oc w w, e2, ?_, gp', mx, my, ?_, ?_⟩
  · rw [hw, x2_reduce (n := n) (by omega) (rL_of bo) (rL_of bw) w0]
  · refine Int.lt_of_not_ge (fun q => ?_)
    have := Int.mul_nonpos_of_nonneg_of_nonpos (Int.le_of_lt gp') q
    omega
  · exact bX_mono hi.2.1.2 hi.1.2 h' (fun _ _ => rfl) (fun j hj => by rw [hv_sJ_ne _ _ _ hj, hv_sJ_ne _ _ _ hj])
def ptQ (o u s : Int) (v : Int32) : Prop := if v = -1 then o < 0 else if v = 0 then o = 0 else if v = 1 then 0 < o else s * u < o.natAbs
theorem lg_ge0 {a : Int} (h : rL a) : 0 ≤ lg_cmp (iL a) (0 : Int64) ↔ 0 ≤ a := lg_cmp_ge0 h
theorem lg_le0 {a : Int} (h : rL a) : lg_cmp (iL a) (0 : Int64) ≤ 0 ↔ a ≤ 0 := lg_le (b := 0) h ⟨by decide, by decide⟩
theorem g_le {g x o b : Int} (hg : 0 < g) (h : o = g * x) (ho : o.natAbs ≤ b) : x.natAbs ≤ b := by
  have := k_le (by omega : g ≠ 0) h
  omega
theorem x7_isPainted {n : Nat} (hn : 2100 ≤ n) {F : Nat → Nat → Int32} {P B O D W : Nat} (hi : hI F P B O D W) {S : Nat} (hS : S < 2 ^ B) {z : Nat → Int} (hz : ∀ s, s < 12 → (z s).natAbs ≤ 9) {τ : hv_St} (hx : rX F τ) (h : bX F P B S z τ) {c : Nat} (hc : c < B) (hcs : S.testBit c = true) (v : Int32) : ∃ τ', τ'.1 = τ.1 ∧ bX F P B S z τ' ∧ (ptQ (oSum F P B S z c) (uSum F P B S) (F 8 c).toInt v → mX7_isPainted n τ (nI c) v = some (1, τ')) ∧ (¬ ptQ (oSum F P B S z c) (uSum F P B S) (F 8 c).toInt v → mX7_isPainted n τ (nI c) v = some (0, τ')) := by
  have hB := hi.2.1.2
  obtain ⟨oc, g, x, y, a1, a2, a3, a4, a5, a6, a7⟩ := red_X hn hi hS hz h hc hcs
  have xb : (x.natAbs : Int) ≤ 2 ^ 57 := g_le a3 a4 (by have := h.2.2.2 c; omega)
  have yb : (y.natAbs : Int) ≤ 2 ^ 52 := g_le a3 a5 (by have := h.2.2.1; omega)
  have xr : rL x := ⟨by omega, by omega⟩
  obtain ⟨-, -, -, s, es, s1, s2⟩ := hi.2.2.2.2.2.2.1 c hc
  have e8 : τ.1 8 c = nI s := (hx.2.2.2.2.1 c (by omega)).2.2.2.trans es
  have fs : (F 8 c).toInt = (s : Int) := by rw [es, nI_toInt (by omega)]
  refine ⟨hv_sJ (hv_sJ τ 26 0 (iL x)) 26 1 (iL y), rfl, a7, ?_⟩
  have sy : (s : Int) * y ≤ 999 * 2 ^ 52 := Int.mul_le_mul (by omega) (by omega) (by omega) (by omega)
  have sy0 : 0 ≤ (s : Int) * y := Int.mul_nonneg (by omega) (by omega)
  rw [fs]
  unfold mX7_isPainted ptQ
  rw [a1, hv_b2_e, a2, hv_bd_e]
  have r0 : ∀ p q, (hv_sJ (hv_sJ τ 26 0 p) 26 1 q).2 26 0 = p := fun p q => by
    rw [hv_sJ_rd, if_neg (by decide), hv_sJ_rd, if_pos rfl]
  have r1 : ∀ p q, (hv_sJ (hv_sJ τ 26 0 p) 26 1 q).2 26 1 = q := fun p q => by
    rw [hv_sJ_rd, if_pos rfl]
  have r8 : ∀ p q, (hv_sJ (hv_sJ τ 26 0 p) 26 1 q).1 8 c = nI s := fun _ _ => e8
  rw [r0, r1]
  have px : 0 ≤ x ↔ 0 ≤ oSum F P B S z c := by
    rw [a4]
    exact ⟨fun q => Int.mul_nonneg (by omega) q, fun q => Int.le_of_mul_le_mul_left (by rw [Int.mul_zero]; exact q) a3⟩
  have nx : x ≤ 0 ↔ oSum F P B S z c ≤ 0 := by
    rw [a4]
    exact ⟨fun q => Int.mul_nonpos_of_nonneg_of_nonpos (by omega) q, fun q => Int.le_of_mul_le_mul_left (by rw [Int.mul_zero]; exact q) a3⟩
  by_cases v1 : v = -1
  · rw [if_pos v1, if_pos v1]
    by_cases q : 0 ≤ x
    · rw [if_pos ((lg_ge0 xr).mpr q)]
      have := px.mp q
      exact ⟨fun z => by omega, fun _ => rfl⟩
    · rw [if_neg (fun z => q ((lg_ge0 xr).mp z))]
      have : ¬ 0 ≤ oSum F P B S z c := fun z => q (px.mpr z)
      exact ⟨fun _ => rfl, fun z => by omega⟩
  · rw [if_neg v1, if_neg v1]
    by_cases v2 : v = 0
    · rw [if_pos v2, if_pos v2]
      by_cases q : x = 0
      · rw [if_pos ((iL_0 xr).mpr q)]
        have := px.mp (by omega)
        have := nx.mp (by omega)
        exact ⟨fun _ => rfl, fun z => by omega⟩
      · rw [if_neg (fun z => q ((iL_0 xr).mp z))]
        exact ⟨fun z => by
          have := px.mpr (by omega)
          have := nx.mpr (by omega)
          omega, fun _ => rfl⟩
    · rw [if_neg v2, if_neg v2]
      by_cases v3 : v = 1
      · rw [if_pos v3, if_pos v3]
        by_cases q : x ≤ 0
        · rw [if_pos ((lg_le0 xr).mpr q)]
          have := nx.mp q
          exact ⟨fun z => by omega, fun _ => rfl⟩
        · rw [if_neg (fun z => q ((lg_le0 xr).mp z))]
          have : ¬ oSum F P B S z c ≤ 0 := fun z => q (nx.mpr z)
          exact ⟨fun _ => rfl, fun z => by omega⟩
      · rw [if_neg v3, if_neg v3, iL_abs xr, hv_let_e, hv_if_t (hv_ok_nI (show c < 11 by omega) (by decide)), nI_clamp (by omega), r8, nI_L (by omega), iL_mul]
        have eo : ((oSum F P B S z c).natAbs : Int) = g * (x.natAbs : Int) := by
          rw [a4, Int.natAbs_mul, Int.natCast_mul, show ((g.natAbs : Nat) : Int) = g by omega]
        have eu : (s : Int) * uSum F P B S = g * (s * y) := by rw [a5]; grind
        have l := lg_le (a := (x.natAbs : Int)) (b := s * y) ⟨by omega, by omega⟩ ⟨by omega, by omega⟩
        rw [eo, eu]
        by_cases q : (x.natAbs : Int) ≤ s * y
        · rw [if_pos (l.mpr q)]
          have := Int.mul_le_mul_of_nonneg_left q (Int.le_of_lt a3)
          exact ⟨fun z => by omega, fun _ => rfl⟩
        · rw [if_neg (fun z => q (l.mp z))]
          refine ⟨fun _ => rfl, fun z => absurd (Int.mul_lt_mul_of_pos_left (by omega : (s : Int) * y < (x.natAbs : Int)) a3) z⟩
theorem pnt {n : Nat} (hn : 2100 ≤ n) {F : Nat → Nat → Int32} {P B O D W : Nat} (hi : hI F P B O D W) {z : Nat → Int} (hz : ∀ s, s < 12 → (z s).natAbs ≤ 9) {v : Int32} (hv : v = -1 ∨ v = 0 ∨ v = 1 ∨ v = 2) {σM : hv_St} (hm : rM F σM) (h24 : σM.2 0 24 = iL (uSum F P B O)) (h15 : ∀ c, c < B → σM.2 15 c = iL (oSum F P B O z c)) : ∀ (d b fx fm : Nat) (σX : hv_St) (acc : Int32), b + d = B → d < fx → d < fm → rX F σX → bX F P B O z σX → ∃ r τX, kX7_painted_37 n fx σX v acc (nI b) = some (r, τX) ∧ kX8_painted_40 n fm σM v acc (nI b) = some (r, σM) ∧ rX F τX := by
  have hB := hi.2.1.2
  have hO := hi.2.2.1
  have o31 : O < 2 ^ 31 := by have := p2048 hB hO.2; omega
  have bM : σM.1 0 6 = nI B := hm.1.2.1.trans hi.2.1.1
  have oM : σM.1 0 11 = nI O := hm.1.2.2.1.trans hO.1
  intro d
  induction d with
  | zero =>
    intro b fx fm σX acc h1 h2 h3 hx hb
    obtain ⟨fx, rfl⟩ : ∃ q, fx = q + 1 := ⟨fx - 1, by omega⟩
    obtain ⟨fm, rfl⟩ : ∃ q, fm = q + 1 := ⟨fm - 1, by omega⟩
    obtain rfl : b = B := by omega
    refine ⟨acc, σX, ?_, ?_, hx⟩
    · show kX7_painted_37_b n _ _ _ _ _ = _
      unfold kX7_painted_37_b
      rw [hx.1.2.1.trans hi.2.1.1, if_pos (nI_le (Nat.le_refl _) (by omega))]
    · show kX8_painted_40_b n _ _ _ _ _ = _
      unfold kX8_painted_40_b
      rw [bM, if_pos (nI_le (Nat.le_refl _) (by omega))]
  | succ d ih =>
    intro b fx fm σX acc h1 h2 h3 hx hb
    obtain ⟨fx, rfl⟩ : ∃ q, fx = q + 1 := ⟨fx - 1, by omega⟩
    obtain ⟨fm, rfl⟩ : ∃ q, fm = q + 1 := ⟨fm - 1, by omega⟩
    have hbB : b < B := by omega
    have bX' : σX.1 1 1 = nI B := hx.1.2.1.trans hi.2.1.1
    have oX' : σX.1 1 2 = nI O := hx.1.2.2.1.trans hO.1
    have fb := fB_iff (s := O) (k := b) o31 (by omega)
    have on_iff : fO B (σX.1 1 2) (nI b) ↔ fN B (nI b) ∧ fB (nI O) (nI b) := by rw [oX']; rfl
    obtain ⟨-, -, -, s, es, s1, s2⟩ := hi.2.2.2.2.2.2.1 b hbB
    have e8 : σM.1 8 b = nI s := (congrFun (hm.2 8 (by decide) (by decide)) b).trans es
    have fs : (F 8 b).toInt = (s : Int) := by rw [es, nI_toInt (by omega)]
    have ub := hb.2.2.1
    have ob := hb.2.2.2 b
    have su : (s : Int) * uSum F P B O ≤ 999 * 2 ^ 52 := Int.mul_le_mul (by omega) (by omega) (Int.le_of_lt hb.2.1) (by omega)
    have su0 : 0 ≤ (s : Int) * uSum F P B O := Int.mul_nonneg (by omega) (Int.le_of_lt hb.2.1)
    have or0 : rL (oSum F P B O z b) := ⟨by omega, by omega⟩
    -- the reference's step
    have e8a : (ptQ (oSum F P B O z b) (uSum F P B O) (F 8 b).toInt v → kX8_painted_40 n (fm + 1) σM v acc (nI b) = kX8_painted_126 n (kX8_painted_40 n fm) σM v acc (nI b) 1) ∧ (¬ ptQ (oSum F P B O z b) (uSum F P B O) (F 8 b).toInt v → kX8_painted_40 n (fm + 1) σM v acc (nI b) = kX8_painted_126 n (kX8_painted_40 n fm) σM v acc (nI b) 0) := by
      have st : kX8_painted_40 n (fm + 1) σM v acc (nI b) = if v = 2 then (if lg_cmp (iL ((oSum F P B O z b).natAbs : Int)) (iL (s * uSum F P B O)) ≤ 0 then kX8_painted_126 n (kX8_painted_40 n fm) σM v acc (nI b) 0 else kX8_painted_126 n (kX8_painted_40 n fm) σM v acc (nI b) 1) else (if lg_cmp (iL (oSum F P B O z b)) (0 : Int64) ≤ 0 then (if 0 ≤ lg_cmp (iL (oSum F P B O z b)) (0 : Int64) then kX8_painted_118 n (kX8_painted_40 n fm) σM v acc (nI b) 0 v else kX8_painted_118 n (kX8_painted_40 n fm) σM v acc (nI b) (-1) v) else kX8_painted_118 n (kX8_painted_40 n fm) σM v acc (nI b) 1 v) := by
        show kX8_painted_40_b n _ _ _ _ _ = _
        unfold kX8_painted_40_b
        rw [bM, if_neg (nI_ge hbB (by omega)), hv_if_t (hv_ok_nI (show b < 11 by omega) (by decide)), nI_clamp (by omega), h15 b hbB, r8_abs or0, hv_b2_e, hv_if_t (hv_ok_nI (show b < 11 by omega) (by decide)), e8, h24, nI_L (by omega), iL_mul, hv_if_t (hv_ok_nI (show b < 11 by omega) (by decide)), hv_if_t (hv_ok_nI (show b < 11 by omega) (by decide))]
      rw [st, fs]
      unfold ptQ
      have l := lg_le (a := ((oSum F P B O z b).natAbs : Int)) (b := s * uSum F P B O) ⟨by omega, by omega⟩ ⟨by omega, by omega⟩
      rcases hv with rfl | rfl | rfl | rfl
      · rw [if_neg (show ¬ (-1 : Int32) = 2 by decide), if_pos (show (-1 : Int32) = -1 from rfl)]
        unfold kX8_painted_118
        rw [if_neg (show ¬ (-1 : Int32) = 0 by decide), if_pos (show (-1 : Int32) = -1 from rfl), if_neg (show ¬ (-1 : Int32) = 1 by decide)]
        by_cases q1 : oSum F P B O z b ≤ 0
        · rw [if_pos ((lg_le0 or0).mpr q1)]
          by_cases q2 : 0 ≤ oSum F P B O z b
          · rw [if_pos ((lg_ge0 or0).mpr q2)]
            exact ⟨fun q => by omega, fun _ => rfl⟩
          · rw [if_neg (fun q => q2 ((lg_ge0 or0).mp q))]
            exact ⟨fun _ => rfl, fun q => by omega⟩
        · rw [if_neg (fun q => q1 ((lg_le0 or0).mp q))]
          exact ⟨fun q => by omega, fun _ => rfl⟩
      · rw [if_neg (show ¬ (0 : Int32) = 2 by decide), if_neg (show ¬ (0 : Int32) = -1 by decide), if_pos (show (0 : Int32) = 0 from rfl)]
        unfold kX8_painted_118
        rw [if_pos (show (0 : Int32) = 0 from rfl), if_neg (show ¬ (0 : Int32) = -1 by decide), if_neg (show ¬ (0 : Int32) = 1 by decide)]
        by_cases q1 : oSum F P B O z b ≤ 0
        · rw [if_pos ((lg_le0 or0).mpr q1)]
          by_cases q2 : 0 ≤ oSum F P B O z b
          · rw [if_pos ((lg_ge0 or0).mpr q2)]
            exact ⟨fun _ => rfl, fun q => by omega⟩
          · rw [if_neg (fun q => q2 ((lg_ge0 or0).mp q))]
            exact ⟨fun q => by omega, fun _ => rfl⟩
        · rw [if_neg (fun q => q1 ((lg_le0 or0).mp q))]
          exact ⟨fun q => by omega, fun _ => rfl⟩
      · rw [if_neg (show ¬ (1 : Int32) = 2 by decide), if_neg (show ¬ (1 : Int32) = -1 by decide), if_neg (show ¬ (1 : Int32) = 0 by decide), if_pos (show (1 : Int32) = 1 from rfl)]
        unfold kX8_painted_118
        rw [if_neg (show ¬ (1 : Int32) = 0 by decide), if_neg (show ¬ (1 : Int32) = -1 by decide), if_pos (show (1 : Int32) = 1 from rfl)]
        by_cases q1 : oSum F P B O z b ≤ 0
        · rw [if_pos ((lg_le0 or0).mpr q1)]
          refine ⟨fun q => by omega, fun _ => ?_⟩
          by_cases q2 : 0 ≤ lg_cmp (iL (oSum F P B O z b)) (0 : Int64)
          · rw [if_pos q2]
          · rw [if_neg q2]
        · rw [if_neg (fun q => q1 ((lg_le0 or0).mp q))]
          exact ⟨fun _ => rfl, fun q => by omega⟩
      · rw [if_pos (show (2 : Int32) = 2 from rfl), if_neg (show ¬ (2 : Int32) = -1 by decide), if_neg (show ¬ (2 : Int32) = 0 by decide), if_neg (show ¬ (2 : Int32) = 1 by decide)]
        by_cases q : ((oSum F P B O z b).natAbs : Int) ≤ s * uSum F P B O
        · rw [if_pos (l.mpr q)]
          exact ⟨fun z => by omega, fun _ => rfl⟩
        · rw [if_neg (fun z => q (l.mp z))]
          exact ⟨fun _ => rfl, fun z => by omega⟩
    by_cases hbs : O.testBit b = true
    · have c1 := (x3_isOn (n := n) (by omega) bX' (nI b)).1 (on_iff.mpr ⟨⟨b, hbB, rfl⟩, fb.mpr hbs⟩)
      obtain ⟨τ', t1, t2, t3, t4⟩ := x7_isPainted hn hi hO.2 hz hx hb hbB hbs v
      have hx' : rX F τ' := rX_1 hx (fun k _ => by rw [t1])
      by_cases pt : ptQ (oSum F P B O z b) (uSum F P B O) (F 8 b).toInt v
      · obtain ⟨r, τX, r1, r2, r3⟩ := ih (b + 1) fx fm τ' (acc ||| ((1 : Int32) <<< (nI b &&& 31))) (by omega) (by omega) (by omega) hx' t2
        refine ⟨r, τX, ?_, ?_, r3⟩
        · show kX7_painted_37_b n _ _ _ _ _ = _
          unfold kX7_painted_37_b kX7_painted_74
          rw [bX', if_neg (nI_ge hbB (by omega)), c1, hv_b2_e, if_neg (by decide), t3 pt, hv_b2_e, if_neg (by decide), hv_let_e, nI_1]
          exact r1
        · rw [e8a.1 pt]
          unfold kX8_painted_126 kX8_painted_152
          rw [if_neg (by decide), oM, (r8_isOn _ _).1 (fb.mpr hbs), hv_b2_e, if_neg (by decide), hv_let_e, nI_1]
          exact r2
      · obtain ⟨r, τX, r1, r2, r3⟩ := ih (b + 1) fx fm τ' acc (by omega) (by omega) (by omega) hx' t2
        refine ⟨r, τX, ?_, ?_, r3⟩
        · show kX7_painted_37_b n _ _ _ _ _ = _
          unfold kX7_painted_37_b kX7_painted_74
          rw [bX', if_neg (nI_ge hbB (by omega)), c1, hv_b2_e, if_neg (by decide), t4 pt, hv_b2_e, if_pos rfl, nI_1]
          exact r1
        · rw [e8a.2 pt]
          unfold kX8_painted_126 kX8_painted_151 kX8_painted_152
          rw [if_pos rfl, hv_let_e, Int32.or_zero, nI_1]
          exact r2
    · obtain ⟨r, τX, r1, r2, r3⟩ := ih (b + 1) fx fm σX acc (by omega) (by omega) (by omega) hx hb
      have e126 : ∀ f, kX8_painted_126 n (kX8_painted_40 n fm) σM v acc (nI b) f = some (r, σM) := fun f => by
        unfold kX8_painted_126 kX8_painted_151 kX8_painted_152
        by_cases q : f = 0
        · rw [if_pos q, hv_let_e, Int32.or_zero, nI_1]
          exact r2
        · rw [if_neg q, oM, (r8_isOn _ _).2 (fun z => hbs (fb.mp z)), hv_b2_e, if_pos rfl, hv_let_e, Int32.or_zero, nI_1]
          exact r2
      refine ⟨r, τX, ?_, ?_, r3⟩
      · show kX7_painted_37_b n _ _ _ _ _ = _
        unfold kX7_painted_37_b kX7_painted_74
        rw [bX', if_neg (nI_ge hbB (by omega)), (x3_isOn (n := n) (by omega) bX' (nI b)).2 (fun q => hbs (fb.mp (on_iff.mp q).2)), hv_b2_e, if_pos rfl, nI_1]
        exact r1
      · by_cases pt : ptQ (oSum F P B O z b) (uSum F P B O) (F 8 b).toInt v
        · rw [e8a.1 pt]; exact e126 1
        · rw [e8a.2 pt]; exact e126 0
theorem op_painted {n : Nat} (hn : 2100 ≤ n) {F : Nat → Nat → Int32} {P B O D W : Nat} {σX σM : hv_St} (h : hR F P B O D W σX σM) (v : Int32) : ∃ r σX' σM', mX7_painted n σX v = some (r, σX') ∧ mX8_painted n σM v = some (r, σM') ∧ hR F P B O D W σX' σM' := by
  obtain ⟨hi, hx, hm⟩ := h
  have hB := hi.2.1.2
  have hO := hi.2.2.1
  have oX' : σX.1 1 2 = nI O := hx.1.2.2.1.trans hO.1
  obtain ⟨g, g1, g2, g3⟩ := r8_takesLoads (n := n) (by omega) hi (rM0 hm)
  have oM : (hv_wI (hv_sI σM 0 0 0) 16 g).1 0 11 = nI O := g2.1.2.2.1.trans hO.1
  have hin : mX8_in n (hv_wI (hv_sI σM 0 0 0) 16 g) v.toInt64 (-1 : Int64) (2 : Int64) = some (if -1 ≤ v ∧ v ≤ 2 then 1 else 0, hv_wI (hv_sI σM 0 0 0) 16 g) := by
    rw [show (-1 : Int64) = (-1 : Int32).toInt64 from rfl, show (2 : Int64) = (2 : Int32).toInt64 from rfl, r8_in32]
  by_cases c : -1 ≤ v ∧ v ≤ 2
  · have hv : v = -1 ∨ v = 0 ∨ v = 1 ∨ v = 2 := by
      have q1 := Int32.le_iff_toInt_le.mp c.1
      have q2 := Int32.le_iff_toInt_le.mp c.2
      have e1 : (-1 : Int32).toInt = -1 := rfl
      have e2 : (2 : Int32).toInt = 2 := rfl
      rw [e1] at q1
      rw [e2] at q2
      have : v = iI v.toInt := iI_of v
      rcases (show v.toInt = -1 ∨ v.toInt = 0 ∨ v.toInt = 1 ∨ v.toInt = 2 by omega) with q | q | q | q <;> rw [q] at this
      · exact Or.inl this
      · exact Or.inr (Or.inl this)
      · exact Or.inr (Or.inr (Or.inl this))
      · exact Or.inr (Or.inr (Or.inr this))
    have d1 : ¬ v < -1 := Int32.not_lt.mpr c.1
    have d2 : ¬ (2 : Int32) < v := Int32.not_lt.mpr c.2
    obtain ⟨τX, τM, r1, r2, -, -, -, r4⟩ := both_bears hn hi hO.2 hx g2 (Or.inl rfl) (ldX hi hx) g3
    rcases r4 with ⟨y1, y2, -⟩ | ⟨y1, y2, -, y3⟩
    · refine ⟨-1, τX, τM, ?_, ?_, hi, r1, r2⟩
      · unfold mX7_painted
        rw [if_neg d1, if_neg d2, oX', y1, hv_b2_e, if_pos rfl]
      · unfold mX8_painted
        rw [hv_let_e, g1, hv_bd_e, hin, if_pos c, hv_b2_e, if_neg (by decide), oM, y2, hv_b2_e, if_pos rfl]
    · obtain ⟨r, τX', t1, t2, t3⟩ := pnt hn hi (fun s hs => (ldz_e hi hs).2) hv r2 y3.2.1 y3.2.2.1 B 0 n n τX 0 (by omega) (by omega) (by omega) r1 (bX_of y3)
      refine ⟨r, τX', τM, ?_, ?_, hi, t3, r2⟩
      · unfold mX7_painted
        rw [if_neg d1, if_neg d2, oX', y1, hv_b2_e, if_neg (by decide)]
        exact t1
      · unfold mX8_painted
        rw [hv_let_e, g1, hv_bd_e, hin, if_pos c, hv_b2_e, if_neg (by decide), oM, y2, hv_b2_e, if_neg (by decide)]
        exact t2
  · refine ⟨-1, σX, hv_wI (hv_sI σM 0 0 0) 16 g, ?_, ?_, hi, hx, g2⟩
    · unfold mX7_painted
      by_cases d1 : v < -1
      · rw [if_pos d1]
      · rw [if_neg d1]
        by_cases d2 : (2 : Int32) < v
        · rw [if_pos d2]
        · exact absurd ⟨Int32.not_lt.mp d1, Int32.not_lt.mp d2⟩ c
    · unfold mX8_painted
      rw [hv_let_e, g1, hv_bd_e, hin, if_neg c, hv_b2_e, if_pos rfl]
end
section
/-! times -/
theorem oS_off {F : Nat → Nat → Int32} {P B S : Nat} {z : Nat → Int} {c : Nat} (h : ¬ S.testBit c = true) : oSum F P B S z c = 0 := by
  unfold oSum
  refine sumK_zero _ (fun T _ => ?_)
  unfold oS
  by_cases q : bC F P S T = true
  · rw [if_pos q]
    unfold oT
    rw [if_neg (fun t => h (sub_iff.mp (bC_iff.mp q).1 c t))]
  · rw [if_neg q]
theorem lg_ge {a b : Int} (ha : rL a) (hb : rL b) : 0 ≤ lg_cmp (iL a) (iL b) ↔ b ≤ a := by
  have l := iL_lt (a := b) (b := a) hb ha
  unfold lg_cmp
  by_cases h1 : iL b < iL a
  · rw [if_pos h1]
    have := l.mp h1
    exact ⟨fun _ => by omega, fun q => by decide⟩
  · rw [if_neg h1]
    have h2 : ¬ b < a := fun q => h1 (l.mpr q)
    by_cases h3 : iL a = iL b
    · rw [if_pos h3]
      have := (iL_eq ha hb).mp h3
      exact ⟨fun _ => by omega, fun _ => by decide⟩
    · rw [if_neg h3]
      have : a ≠ b := fun q => h3 (by rw [q])
      exact ⟨fun q => absurd q (by decide), fun q => by omega⟩
theorem ceil_g {g X Y : Int} (hg : 0 < g) (hY : 0 < Y) : (g * X + g * Y - 1) / (g * Y) = (X + Y - 1) / Y := by
  have gY : 0 < g * Y := Int.mul_pos hg hY
  refine Int.le_antisymm ?_ ?_
  · rw [Int.le_ediv_iff_mul_le hY]
    have := (Int.le_ediv_iff_mul_le gY).mp (Int.le_refl ((g * X + g * Y - 1) / (g * Y)))
    have e : (g * X + g * Y - 1) / (g * Y) * (g * Y) = g * ((g * X + g * Y - 1) / (g * Y) * Y) := by grind
    rw [e] at this
    have q : g * ((g * X + g * Y - 1) / (g * Y) * Y) < g * (X + Y) := by rw [Int.mul_add]; omega
    have := Int.lt_of_mul_lt_mul_left q (Int.le_of_lt hg)
    omega
  · rw [Int.le_ediv_iff_mul_le gY]
    have := (Int.le_ediv_iff_mul_le hY).mp (Int.le_refl ((X + Y - 1) / Y))
    have e : (X + Y - 1) / Y * (g * Y) = g * ((X + Y - 1) / Y * Y) := by grind
    rw [e]
    have q := Int.mul_le_mul_of_nonneg_left this (Int.le_of_lt hg)
    rw [Int.mul_sub, Int.mul_add, Int.mul_one] at q
    omega
theorem iL_I (a : Int) : (iL a).toInt32 = iI a := Int64.toInt32_ofInt
def Qc (o u : Int) : Int := ((o.natAbs : Int) + u - 1) / u
theorem Qc_le {o u : Int} (hu : 0 < u) : 0 ≤ Qc o u ∧ Qc o u ≤ (o.natAbs : Int) + u := by
  unfold Qc
  have h1 := Int.ediv_nonneg (a := (o.natAbs : Int) + u - 1) (b := u) (by omega) (by omega)
  have h2 := Int.ediv_le_self (a := (o.natAbs : Int) + u - 1) u (by omega)
  omega
theorem Qc_0 {u : Int} (hu : 0 < u) : Qc 0 u = 0 := by
  unfold Qc
  exact Int.ediv_eq_zero_of_lt (by omega) (by show (0 : Int) + u - 1 < u; omega)
def Tv (o u s : Int) : Int := if Qc o u = 0 then 999 else s.tdiv (Qc o u)
theorem Tv_le {o u : Int} (hu : 0 < u) {s : Nat} (hs : s ≤ 999) : 0 ≤ Tv o u s ∧ Tv o u s ≤ 999 := by
  unfold Tv
  by_cases q : Qc o u = 0
  · rw [if_pos q]; omega
  · rw [if_neg q]
    have q0 := (Qc_le (o := o) hu).1
    rw [Int.tdiv_eq_ediv_of_nonneg (by omega)]
    have h1 := Int.ediv_nonneg (a := (s : Int)) (b := Qc o u) (by omega) (by omega)
    have h2 := Int.ediv_le_self (a := (s : Int)) (Qc o u) (by omega)
    omega
theorem x7_timesOf {n : Nat} (hn : 2100 ≤ n) {F : Nat → Nat → Int32} {P B O D W : Nat} (hi : hI F P B O D W) {S : Nat} (hS : S < 2 ^ B) {z : Nat → Int} (hz : ∀ s, s < 12 → (z s).natAbs ≤ 9) {τ : hv_St} (hx : rX F τ) (h : bX F P B S z τ) {c : Nat} (hc : c < B) (hcs : S.testBit c = true) : ∃ τ', τ'.1 = τ.1 ∧ bX F P B S z τ' ∧ mX7_timesOf n τ (nI c) = some (iL (Tv (oSum F P B S z c) (uSum F P B S) (F 8 c).toInt), τ') := by
  have hB := hi.2.1.2
  obtain ⟨oc, g, x, y, a1, a2, a3, a4, a5, a6, a7⟩ := red_X hn hi hS hz h hc hcs
  have xb : (x.natAbs : Int) ≤ 2 ^ 57 := g_le a3 a4 (by have := h.2.2.2 c; omega)
  have yb : (y.natAbs : Int) ≤ 2 ^ 52 := g_le a3 a5 (by have := h.2.2.1; omega)
  have xr : rL x := ⟨by omega, by omega⟩
  have yr : rL y := ⟨by omega, by omega⟩
  obtain ⟨-, -, -, s, es, s1, s2⟩ := hi.2.2.2.2.2.2.1 c hc
  have e8 : τ.1 8 c = nI s := (hx.2.2.2.2.1 c (by omega)).2.2.2.trans es
  have fs : (F 8 c).toInt = (s : Int) := by rw [es, nI_toInt (by omega)]
  have eq : Qc (oSum F P B S z c) (uSum F P B S) = ((x.natAbs : Int) + y - 1).tdiv y := by
    rw [Int.tdiv_eq_ediv_of_nonneg (by omega)]
    unfold Qc
    rw [a4, Int.natAbs_mul, Int.natCast_mul, show ((g.natAbs : Nat) : Int) = g by omega, a5, ceil_g a3 a6]
  have qr := Qc_le (o := oSum F P B S z c) h.2.1
  have qr2 : Qc (oSum F P B S z c) (uSum F P B S) ≤ (x.natAbs : Int) + y := by
    rw [eq, Int.tdiv_eq_ediv_of_nonneg (by omega)]
    have h2 := Int.ediv_le_self (a := (x.natAbs : Int) + y - 1) y (by omega)
    omega
  have qrl : rL (Qc (oSum F P B S z c) (uSum F P B S)) := ⟨by omega, by omega⟩
  have r0 : ∀ p q, (hv_sJ (hv_sJ τ 26 0 p) 26 1 q).2 26 0 = p := fun p q => by
    rw [hv_sJ_rd, if_neg (by decide), hv_sJ_rd, if_pos rfl]
  have r1 : ∀ p q, (hv_sJ (hv_sJ τ 26 0 p) 26 1 q).2 26 1 = q := fun p q => by
    rw [hv_sJ_rd, if_pos rfl]
  have r8 : ∀ p q, (hv_sJ (hv_sJ τ 26 0 p) 26 1 q).1 8 c = nI s := fun _ _ => e8
  refine ⟨hv_sJ (hv_sJ τ 26 0 (iL x)) 26 1 (iL y), rfl, a7, ?_⟩
  rw [fs]
  unfold mX7_timesOf Tv
  rw [a1, hv_b2_e, a2, hv_bd_e, r0, r1, iL_abs xr, hv_let_e, iL_add, show (1 : Int64) = iL 1 from rfl, iL_sub, x7_quotient (a := (x.natAbs : Int) + y - 1) ⟨by omega, by omega⟩ yr (by omega), hv_b2_e, ← eq]
  by_cases q : Qc (oSum F P B S z c) (uSum F P B S) = 0
  · rw [if_pos ((iL_0 qrl).mpr q), if_pos q]
    rfl
  · rw [if_neg (fun t => q ((iL_0 qrl).mp t)), if_neg q, hv_if_t (hv_ok_nI (show c < 11 by omega) (by decide)), nI_clamp (by omega), r8, nI_L (by omega), x7_quotient (a := (s : Int)) ⟨by omega, by omega⟩ qrl q, hv_b2_e]
theorem tms {n : Nat} (hn : 2100 ≤ n) {F : Nat → Nat → Int32} {P B O D W : Nat} (hi : hI F P B O D W) {z : Nat → Int} (hz : ∀ s, s < 12 → (z s).natAbs ≤ 9) {σM : hv_St} (hm : rM F σM) (h24 : σM.2 0 24 = iL (uSum F P B O)) (h15 : ∀ c, c < B → σM.2 15 c = iL (oSum F P B O z c)) : ∀ (d b fx fm : Nat) (σX : hv_St) (a : Int), b + d = B → d < fx → d < fm → rX F σX → bX F P B O z σX → 0 ≤ a → a ≤ 999 → ∃ r τX, kX7_times_29 n fx σX (iL a) (nI b) = some (r, τX) ∧ kX8_times_28 n fm σM (iI a) (nI b) = some (r, σM) ∧ rX F τX := by
  have hB := hi.2.1.2
  have hO := hi.2.2.1
  have o31 : O < 2 ^ 31 := by have := p2048 hB hO.2; omega
  have bM : σM.1 0 6 = nI B := hm.1.2.1.trans hi.2.1.1
  intro d
  induction d with
  | zero =>
    intro b fx fm σX a h1 h2 h3 hx hb a0 a9
    obtain ⟨fx, rfl⟩ : ∃ q, fx = q + 1 := ⟨fx - 1, by omega⟩
    obtain ⟨fm, rfl⟩ : ∃ q, fm = q + 1 := ⟨fm - 1, by omega⟩
    obtain rfl : b = B := by omega
    refine ⟨iI a, σX, ?_, ?_, hx⟩
    · show kX7_times_29_b n _ _ _ _ = _
      unfold kX7_times_29_b
      rw [hx.1.2.1.trans hi.2.1.1, if_pos (nI_le (Nat.le_refl _) (by omega)), iL_I]
    · show kX8_times_28_b n _ _ _ _ = _
      unfold kX8_times_28_b
      rw [bM, if_pos (nI_le (Nat.le_refl _) (by omega))]
  | succ d ih =>
    intro b fx fm σX a h1 h2 h3 hx hb a0 a9
    obtain ⟨fx, rfl⟩ : ∃ q, fx = q + 1 := ⟨fx - 1, by omega⟩
    obtain ⟨fm, rfl⟩ : ∃ q, fm = q + 1 := ⟨fm - 1, by omega⟩
    have hbB : b < B := by omega
    have bX' : σX.1 1 1 = nI B := hx.1.2.1.trans hi.2.1.1
    have oX' : σX.1 1 2 = nI O := hx.1.2.2.1.trans hO.1
    have fb := fB_iff (s := O) (k := b) o31 (by omega)
    have on_iff : fO B (σX.1 1 2) (nI b) ↔ fN B (nI b) ∧ fB (nI O) (nI b) := by rw [oX']; rfl
    obtain ⟨-, -, -, s, es, s1, s2⟩ := hi.2.2.2.2.2.2.1 b hbB
    have e8 : σM.1 8 b = nI s := (congrFun (hm.2 8 (by decide) (by decide)) b).trans es
    have fs : (F 8 b).toInt = (s : Int) := by rw [es, nI_toInt (by omega)]
    have up := hb.2.1
    have ub := hb.2.2.1
    have ob := hb.2.2.2 b
    have or0 : rL (oSum F P B O z b) := ⟨by omega, by omega⟩
    have ur0 : rL (uSum F P B O) := ⟨by omega, by omega⟩
    have qr := Qc_le (o := oSum F P B O z b) up
    have qrl : rL (Qc (oSum F P B O z b) (uSum F P B O)) := ⟨by omega, by omega⟩
    have tv := Tv_le (o := oSum F P B O z b) up (s := s) s2
    have tvr : rL (Tv (oSum F P B O z b) (uSum F P B O) s) := ⟨by omega, by omega⟩
    have un0 : iL (uSum F P B O) ≠ 0 := fun q => by
      have := (iL_eq ur0 (b := 0) ⟨by decide, by decide⟩).mp q
      omega
    have e8 : kX8_times_28 n (fm + 1) σM (iI a) (nI b) = if Qc (oSum F P B O z b) (uSum F P B O) = 0 then kX8_times_28 n fm σM (iI a) (nI (b + 1)) else if a ≤ Tv (oSum F P B O z b) (uSum F P B O) s then kX8_times_28 n fm σM (iI a) (nI (b + 1)) else kX8_times_28 n fm σM (iI (Tv (oSum F P B O z b) (uSum F P B O) s)) (nI (b + 1)) := by
      show kX8_times_28_b n _ _ _ _ = _
      unfold kX8_times_28_b kX8_times_90
      rw [bM, if_neg (nI_ge hbB (by omega)), hv_if_t (hv_ok_nI (show b < 11 by omega) (by decide)), nI_clamp (by omega), h15 b hbB, r8_abs or0, hv_b2_e, h24, hv_if_t (decide_eq_true un0), iL_add, show (1 : Int64) = iL 1 from rfl, iL_sub, iL_div (a := ((oSum F P B O z b).natAbs : Int) + uSum F P B O - 1) ⟨by omega, by omega⟩ ur0, Int.tdiv_eq_ediv_of_nonneg (by omega), show (((oSum F P B O z b).natAbs : Int) + uSum F P B O - 1) / uSum F P B O = Qc (oSum F P B O z b) (uSum F P B O) from rfl, hv_let_e]
      by_cases q : Qc (oSum F P B O z b) (uSum F P B O) = 0
      · rw [if_pos ((lg_le0 qrl).mpr (by omega)), if_pos q, nI_1]
      · have qn0 : iL (Qc (oSum F P B O z b) (uSum F P B O)) ≠ 0 := fun t => q ((iL_eq qrl (b := 0) ⟨by decide, by decide⟩).mp t)
        have et : Tv (oSum F P B O z b) (uSum F P B O) s = (s : Int).tdiv (Qc (oSum F P B O z b) (uSum F P B O)) := by
          unfold Tv
          rw [if_neg q]
        rw [if_neg (fun t => q (by have := (lg_le0 qrl).mp t; omega)), if_neg q, hv_if_t (hv_ok_nI (show b < 11 by omega) (by decide)), hv_if_t (decide_eq_true qn0), e8, nI_L (by omega), iL_div (a := (s : Int)) ⟨by omega, by omega⟩ qrl, ← et, iI_L ⟨by omega, by omega⟩, hv_if_t (hv_ok_nI (show b < 11 by omega) (by decide)), hv_if_t (decide_eq_true qn0), hv_let_e, iL_I, nI_1]
        have l := lg_ge (a := Tv (oSum F P B O z b) (uSum F P B O) s) (b := a) tvr ⟨by omega, by omega⟩
        by_cases t : a ≤ Tv (oSum F P B O z b) (uSum F P B O) s
        · rw [if_pos (l.mpr t), if_pos t]
        · rw [if_neg (fun t' => t (l.mp t')), if_neg t]
    by_cases hbs : O.testBit b = true
    · have c1 := (x3_isOn (n := n) (by omega) bX' (nI b)).1 (on_iff.mpr ⟨⟨b, hbB, rfl⟩, fb.mpr hbs⟩)
      obtain ⟨τ', t1, t2, t3⟩ := x7_timesOf hn hi hO.2 hz hx hb hbB hbs
      rw [fs] at t3
      have hx' : rX F τ' := rX_1 hx (fun k _ => by rw [t1])
      have e7 : kX7_times_29 n (fx + 1) σX (iL a) (nI b) = kX7_times_29 n fx τ' (iL (if Tv (oSum F P B O z b) (uSum F P B O) s < a then Tv (oSum F P B O z b) (uSum F P B O) s else a)) (nI (b + 1)) := by
        show kX7_times_29_b n _ _ _ _ = _
        unfold kX7_times_29_b kX7_times_61
        rw [bX', if_neg (nI_ge hbB (by omega)), c1, hv_b2_e, if_neg (by decide), t3, hv_b2_e, hv_let_e, nI_1]
        have l := iL_lt (a := Tv (oSum F P B O z b) (uSum F P B O) s) (b := a) tvr ⟨by omega, by omega⟩
        by_cases t : Tv (oSum F P B O z b) (uSum F P B O) s < a
        · rw [if_pos (l.mpr t), if_pos t]
        · rw [if_neg (fun t' => t (l.mp t')), if_neg t]
      rw [e7, e8]
      by_cases q : Qc (oSum F P B O z b) (uSum F P B O) = 0
      · have et : Tv (oSum F P B O z b) (uSum F P B O) s = 999 := by
          unfold Tv
          rw [if_pos q]
        rw [if_pos q, et, if_neg (by omega)]
        exact ih (b + 1) fx fm τ' a (by omega) (by omega) (by omega) hx' t2 a0 a9
      · rw [if_neg q]
        by_cases t : a ≤ Tv (oSum F P B O z b) (uSum F P B O) s
        · rw [if_pos t, if_neg (by omega)]
          exact ih (b + 1) fx fm τ' a (by omega) (by omega) (by omega) hx' t2 a0 a9
        · rw [if_neg t, if_pos (by omega)]
          exact ih (b + 1) fx fm τ' _ (by omega) (by omega) (by omega) hx' t2 (by omega) (by omega)
    · have q : Qc (oSum F P B O z b) (uSum F P B O) = 0 := by rw [oS_off hbs, Qc_0 up]
      obtain ⟨r, τX, r1, r2, r3⟩ := ih (b + 1) fx fm σX a (by omega) (by omega) (by omega) hx hb a0 a9
      refine ⟨r, τX, ?_, ?_, r3⟩
      · show kX7_times_29_b n _ _ _ _ = _
        unfold kX7_times_29_b kX7_times_61
        rw [bX', if_neg (nI_ge hbB (by omega)), (x3_isOn (n := n) (by omega) bX' (nI b)).2 (fun q => hbs (fb.mp (on_iff.mp q).2)), hv_b2_e, if_pos rfl, nI_1]
        exact r1
      · rw [e8, if_pos q]
        exact r2
theorem op_times {n : Nat} (hn : 2100 ≤ n) {F : Nat → Nat → Int32} {P B O D W : Nat} {σX σM : hv_St} (h : hR F P B O D W σX σM) : ∃ r σX' σM', mX7_times n σX = some (r, σX') ∧ mX8_times n σM = some (r, σM') ∧ hR F P B O D W σX' σM' := by
  obtain ⟨hi, hx, hm⟩ := h
  have hB := hi.2.1.2
  have hO := hi.2.2.1
  have oX' : σX.1 1 2 = nI O := hx.1.2.2.1.trans hO.1
  obtain ⟨g, g1, g2, g3⟩ := r8_takesLoads (n := n) (by omega) hi (rM0 hm)
  have oM : (hv_wI (hv_sI σM 0 0 0) 16 g).1 0 11 = nI O := g2.1.2.2.1.trans hO.1
  obtain ⟨τX, τM, r1, r2, -, -, -, r4⟩ := both_bears hn hi hO.2 hx g2 (Or.inl rfl) (ldX hi hx) g3
  rcases r4 with ⟨y1, y2, -⟩ | ⟨y1, y2, -, y3⟩
  · refine ⟨-1, τX, τM, ?_, ?_, hi, r1, r2⟩
    · unfold mX7_times
      rw [oX', y1, hv_b2_e, if_pos rfl]
    · unfold mX8_times
      rw [hv_let_e, g1, hv_bd_e, oM, y2, hv_b2_e, if_pos rfl]
  · obtain ⟨r, τX', t1, t2, t3⟩ := tms hn hi (fun s hs => (ldz_e hi hs).2) r2 y3.2.1 y3.2.2.1 B 0 n n τX 999 (by omega) (by omega) (by omega) r1 (bX_of y3) (by omega) (by omega)
    refine ⟨r, τX', τM, ?_, ?_, hi, t3, r2⟩
    · unfold mX7_times
      rw [oX', y1, hv_b2_e, if_neg (by decide)]
      exact t1
    · unfold mX8_times
      rw [hv_let_e, g1, hv_bd_e, oM, y2, hv_b2_e, if_neg (by decide)]
      exact t2
end
section
/-! force -/
theorem frc {n : Nat} (hn : 2100 ≤ n) {F : Nat → Nat → Int32} {P B O D W : Nat} (hi : hI F P B O D W) {z : Nat → Int} (hz : ∀ s, s < 12 → (z s).natAbs ≤ 9) {σM : hv_St} (hm : rM F σM) (h24 : σM.2 0 24 = iL (uSum F P B O)) (h15 : ∀ c, c < B → σM.2 15 c = iL (oSum F P B O z c)) {σX : hv_St} (hx : rX F σX) {k w : Int} (hk : k ≠ 0) (hkw : uSum F P B O = k * w) (ho : oX F P B O k w z σX) (hup : 0 < uSum F P B O) (hub : (uSum F P B O).natAbs ≤ 2 ^ 52) (hob : ∀ c, (oSum F P B O z c).natAbs ≤ 2 ^ 57) {p d : Nat} (hp : p < 6) (hd : d < 2) (u : Int32) : ∀ (q b fx fm : Nat) (s : Int), b + q = B → q < fx → q < fm → (k * s).natAbs ≤ 144115188075855872 + b * 432345564227567616 → ∃ r τX, kX7_force_99 n fx σX u (nI (2 * p + d)) (iL s) (nI b) = some (some r, τX) ∧ kX8_force_85 n fm σM (nI p) (nI d) u (iL (k * s)) (nI b) = some (r, σM) ∧ τX.1 = σX.1 := by
  have hB := hi.2.1.2
  have hO := hi.2.2.1
  have o31 : O < 2 ^ 31 := by have := p2048 hB hO.2; omega
  have bM : σM.1 0 6 = nI B := hm.1.2.1.trans hi.2.1.1
  have bX' : σX.1 1 1 = nI B := hx.1.2.1.trans hi.2.1.1
  have oX' : σX.1 1 2 = nI O := hx.1.2.2.1.trans hO.1
  have hw := (oX_m ho).2.2
  have bw : w.natAbs ≤ 2 ^ 62 := Nat.le_trans (k_le hk hkw) (Nat.le_trans hub (by decide))
  have w0 : w ≠ 0 := fun q => by rw [hkw, q, Int.mul_zero] at hup; omega
  intro q
  induction q with
  | zero =>
    intro b fx fm s h1 h2 h3 h4
    obtain ⟨fx, rfl⟩ : ∃ q, fx = q + 1 := ⟨fx - 1, by omega⟩
    obtain ⟨fm, rfl⟩ : ∃ q, fm = q + 1 := ⟨fm - 1, by omega⟩
    obtain rfl : b = B := by omega
    have sb : s.natAbs ≤ (k * s).natAbs := k_le hk rfl
    have r1 : rL (-s) := ⟨by omega, by omega⟩
    have r2 : rL (-(k * s)) := ⟨by omega, by omega⟩
    refine ⟨iL (tlN (-s) w (if u = 0 then -s else w)), hv_sJ (hv_sJ σX 26 0 (iL (tlN (-s) w (-s)))) 26 1 (iL (tlN (-s) w w)), ?_, ?_, ?_⟩
    · show kX7_force_99_b n _ _ _ _ _ _ = _
      unfold kX7_force_99_b
      rw [bX', if_pos (nI_le (Nat.le_refl _) (by omega)), iL_neg, hw, x7_told (n := n) (by omega) r1 (rL_of bw) w0 u, hv_b2_e]
    · show kX8_force_85_b n _ _ _ _ _ _ _ = _
      unfold kX8_force_85_b
      rw [bM, if_pos (nI_le (Nat.le_refl _) (by omega)), iL_neg, h24, r8_told (n := n) (by omega) r2 (rL_of (Nat.le_trans hub (by decide))) (by omega) u, hv_b2_e]
      have e1 : -(k * s) = k * -s := by grind
      rw [e1, hkw]
      by_cases u0 : u = 0
      · rw [if_pos u0, if_pos u0, tlN_scale hk]
      · rw [if_neg u0, if_neg u0, tlN_scale hk]
    · rfl
  | succ q ih =>
    intro b fx fm s h1 h2 h3 h4
    obtain ⟨fx, rfl⟩ : ∃ q, fx = q + 1 := ⟨fx - 1, by omega⟩
    obtain ⟨fm, rfl⟩ : ∃ q, fm = q + 1 := ⟨fm - 1, by omega⟩
    have hbB : b < B := by omega
    have fb := fB_iff (s := O) (k := b) o31 (by omega)
    have on_iff : fO B (σX.1 1 2) (nI b) ↔ fN B (nI b) ∧ fB (nI O) (nI b) := by rw [oX']; rfl
    have br := fBr_le hi hbB p d
    have e8 : kX8_force_85 n (fm + 1) σM (nI p) (nI d) u (iL (k * s)) (nI b) = kX8_force_85 n fm σM (nI p) (nI d) u (iL (k * s + oSum F P B O z b * fBr F b p d)) (nI (b + 1)) := by
      show kX8_force_85_b n _ _ _ _ _ _ _ = _
      unfold kX8_force_85_b
      rw [bM, if_neg (nI_ge hbB (by omega)), hv_if_t (hv_ok_nI (show b < 11 by omega) (by decide)), r8_brings hi hm hbB hp hd, hv_b2_e, nI_clamp (by omega), h15 b hbB, iI_L ⟨by omega, by omega⟩, iL_mul, iL_add, hv_let_e, nI_1]
    by_cases hbs : O.testBit b = true
    · have c1 := (x3_isOn (n := n) (by omega) bX' (nI b)).1 (on_iff.mpr ⟨⟨b, hbB, rfl⟩, fb.mpr hbs⟩)
      obtain ⟨oc, e1, e2⟩ := over_of (n := n) (by omega) hi hO.2 hz ho hbB hbs
      have st : kX7_force_99 n (fx + 1) σX u (nI (2 * p + d)) (iL s) (nI b) = kX7_force_99 n fx σX u (nI (2 * p + d)) (iL (s + fBr F b p d * oc)) (nI (b + 1)) := by
        show kX7_force_99_b n _ _ _ _ _ _ = _
        unfold kX7_force_99_b kX7_force_164
        rw [bX', if_neg (nI_ge hbB (by omega)), c1, hv_b2_e, if_neg (by decide), x3_brings hi hx hbB hp hd, hv_b2_e]
        by_cases z0 : fBr F b p d = 0
        · rw [if_pos ((iI_0 (by omega)).mpr z0), z0, Int.zero_mul, Int.add_zero, nI_1]
        · rw [if_neg (fun t => z0 ((iI_0 (by omega)).mp t)), x3_brings hi hx hbB hp hd, hv_b2_e, e2, hv_b2_e, iI_L ⟨by omega, by omega⟩, iL_mul, iL_add, hv_let_e, nI_1]
      have ek : k * s + oSum F P B O z b * fBr F b p d = k * (s + fBr F b p d * oc) := by rw [e1]; grind
      rw [st, e8, ek]
      refine ih (b + 1) fx fm _ (by omega) (by omega) (by omega) ?_
      rw [← ek]
      have m1 : (oSum F P B O z b * fBr F b p d).natAbs ≤ 2 ^ 57 * 3 := by
        rw [Int.natAbs_mul]
        exact Nat.mul_le_mul (hob b) (by omega)
      have m2 := Int.natAbs_add_le (k * s) (oSum F P B O z b * fBr F b p d)
      omega
    · have st : kX7_force_99 n (fx + 1) σX u (nI (2 * p + d)) (iL s) (nI b) = kX7_force_99 n fx σX u (nI (2 * p + d)) (iL s) (nI (b + 1)) := by
        show kX7_force_99_b n _ _ _ _ _ _ = _
        unfold kX7_force_99_b kX7_force_164
        rw [bX', if_neg (nI_ge hbB (by omega)), (x3_isOn (n := n) (by omega) bX' (nI b)).2 (fun q => hbs (fb.mp (on_iff.mp q).2)), hv_b2_e, if_pos rfl, nI_1]
      rw [st, e8, oS_off hbs, Int.zero_mul, Int.add_zero]
      refine ih (b + 1) fx fm s (by omega) (by omega) (by omega) ?_
      exact Nat.le_trans h4 (Nat.add_le_add_left (Nat.mul_le_mul_right _ (Nat.le_succ b)) _)
theorem op_force {n : Nat} (hn : 2100 ≤ n) {F : Nat → Nat → Int32} {P B O D W : Nat} {σX σM : hv_St} (h : hR F P B O D W σX σM) (p d u : Int32) : hT F P B O D W (mX7_force n σX p d u) (mX8_force n σM p d u) := by
  obtain ⟨hi, hx, hm⟩ := h
  have hB := hi.2.1.2
  have hP := hi.1.2
  have hO := hi.2.2.1
  have pX : σX.1 1 0 = nI P := hx.1.1.trans hi.1.1
  have oX' : σX.1 1 2 = nI O := hx.1.2.2.1.trans hO.1
  obtain ⟨g, g1, hm1, g3⟩ := r8_takesLoads (n := n) (by omega) hi hm
  have pM : (hv_wI σM 16 g).1 0 1 = nI P := hm1.1.1.trans hi.1.1
  have oM : (hv_wI σM 16 g).1 0 11 = nI O := hm1.1.2.2.1.trans hO.1
  have no : ∀ τX τM, rX F τX → rM F τM → kX8_force_51 n τM p d u = some (0, hv_sI τM 0 0 1) ∧ hR F P B O D W τX (hv_sI τM 0 0 1) ∧ (hv_sI τM 0 0 1).1 0 0 = 1 := fun τX τM h1 h2 => by
    refine ⟨?_, ⟨hi, h1, rM_sc h2 (by decide) 1⟩, by rw [hv_sI_rd, if_pos rfl]⟩
    unfold kX8_force_51 kX8_force_52
    rw [hv_let_e, hv_sI_rd, if_pos rfl, if_neg (by decide)]
  have hno : mX7_force n σX p d u = some (none, σX) → mX8_force n σM p d u = kX8_force_51 n (hv_wI σM 16 g) p d u → hT F P B O D W (mX7_force n σX p d u) (mX8_force n σM p d u) := fun e1 e2 => by
    obtain ⟨q1, q2, q3⟩ := no σX _ hx hm1
    exact ⟨σX, _, q2, Or.inr ⟨0, e1, e2.trans q1, q3⟩⟩
  by_cases hp : fN P p
  · by_cases hd : fN 2 d
    · obtain ⟨a, ha, rfl⟩ := hp
      obtain ⟨e, he, rfl⟩ := hd
      have ix : (2 : Int32) * nI a + nI e = nI (2 * a + e) := by rw [nI_2, nI_add]
      have hX := held_X hx (show a < 6 by omega) he
      have hM := held_M (n := n) hi (σ := hv_wI σM 16 g) (show a < 6 by omega) he
      have e3 : (hv_wI σM 16 g).1 3 = F 3 := hm1.2 3 (by decide) (by decide)
      have e7 : mX7_force n σX (nI a) (nI e) u = if σX.1 4 (2 * a + e) = 0 then some (none, σX) else (hv_b2 (mX7_bears n σX (nI O) 3) fun r61 s61 => if r61 = 0 then (kX7_force_71 n s61 u (nI (2 * a + e))) else (kX7_force_72 n s61 u (nI (2 * a + e)) ((1 : Int32)))) := by
        unfold mX7_force kX7_force_23
        rw [(x3_isPin (by omega) pX (nI a)).1 ⟨a, ha, rfl⟩, hv_b2_e, if_neg (by decide), (x7_isDirection (nI e)).1 ⟨e, he, rfl⟩, hv_b2_e, if_neg (by decide), need_1, ix, hv_let_e, hv_if_t (hv_ok_nI (show 2 * a + e < 12 by omega) (by decide)), nI_clamp (by omega), oX']
        by_cases c : σX.1 4 (2 * a + e) = 0
        · rw [if_pos c, if_pos c]
          unfold kX7_force_71 kX7_force_72
          rw [need_0]
        · rw [if_neg c, if_neg c]
      by_cases fr : fFree F (2 * a + e) = true
      · refine hno ?_ ?_
        · rw [e7, if_pos (hX.mpr fr)]
        · unfold mX8_force
          rw [g1, hv_bd_e, (r8_isPin (by omega) pM (nI a)).1 ⟨a, ha, rfl⟩, hv_b2_e, if_neg (by decide), (r8_inDir (nI e)).1 ⟨e, he, rfl⟩, hv_b2_e, if_neg (by decide), hv_if_t (hv_ok_nI (show a < 6 by omega) (by decide)), nI_clamp (by omega), e3, hM.1 fr, hv_b2_e, if_pos rfl]
      · have e8 : mX8_force n σM (nI a) (nI e) u = hv_b2 (mX8_bears n (hv_wI σM 16 g) (nI O)) fun r41 s41 => if r41 = 0 then (kX8_force_51 n s41 (nI a) (nI e) u) else (kX8_force_52 n s41 (nI a) (nI e) u ((0 : Int32))) := by
          unfold mX8_force
          rw [g1, hv_bd_e, (r8_isPin (by omega) pM (nI a)).1 ⟨a, ha, rfl⟩, hv_b2_e, if_neg (by decide), (r8_inDir (nI e)).1 ⟨e, he, rfl⟩, hv_b2_e, if_neg (by decide), hv_if_t (hv_ok_nI (show a < 6 by omega) (by decide)), nI_clamp (by omega), e3, hM.2 fr, hv_b2_e, if_neg (by decide), oM]
        rw [e7, e8, if_neg (fun q => fr (hX.mp q))]
        obtain ⟨τX, τM, r1, r2, -, -, -, r4⟩ := both_bears hn hi hO.2 hx hm1 (Or.inl rfl) (ldX hi hx) g3
        rcases r4 with ⟨y1, y2, -⟩ | ⟨y1, y2, -, y3⟩
        · obtain ⟨q1, q2, q3⟩ := no τX τM r1 r2
          refine ⟨τX, hv_sI τM 0 0 1, q2, Or.inr ⟨0, ?_, ?_, q3⟩⟩
          · rw [y1, hv_b2_e, if_pos rfl]
            unfold kX7_force_71 kX7_force_72
            rw [need_0]
          · rw [y2, hv_b2_e, if_pos rfl, q1]
        · obtain ⟨⟨k, w, hk, hkw, ho⟩, z24, z15, hup, hub, hob⟩ := y3
          have m0 : rM F (hv_sI τM 0 0 0) := rM_sc r2 (by decide) 0
          have e0 : (hv_sI τM 0 0 0).1 0 0 = 0 := by rw [hv_sI_rd, if_pos rfl]
          obtain ⟨le, lb⟩ := ldz_e hi (show 2 * a + e < 12 by omega)
          have ek : ldz F (2 * a + e) * uSum F P B O = k * (ldz F (2 * a + e) * w) := by rw [hkw]; grind
          obtain ⟨r, τX', t1, t2, t3⟩ := frc hn hi (fun s hs => (ldz_e hi hs).2) m0 (show (hv_sI τM 0 0 0).2 0 24 = _ from z24) (fun c hc => z15 c hc) r1 hk hkw ho hup hub hob (show a < 6 by omega) he u B 0 n n (ldz F (2 * a + e) * w) (by omega) (by omega) (by omega) (by
            rw [← ek, Int.natAbs_mul]
            have := Nat.mul_le_mul lb hub
            omega)
          refine ⟨τX', hv_sI τM 0 0 0, ⟨hi, rX_1 r1 (fun j _ => by rw [t3]), m0⟩, Or.inl ⟨r, ?_, ?_, e0⟩⟩
          · rw [y1, hv_b2_e, if_neg (by decide)]
            unfold kX7_force_72
            rw [need_1, hv_if_t (hv_ok_nI (show 2 * a + e < 12 by omega) (by decide)), nI_clamp (by omega), r1.2.2.1 (2 * a + e) (by omega), le, iI_L ⟨by omega, by omega⟩, (oX_m ho).2.2, iL_mul, hv_let_e]
            exact t1
          · rw [y2, hv_b2_e, if_neg (by decide)]
            unfold kX8_force_52
            have e24 : (hv_sI τM 0 0 0).2 0 24 = iL (uSum F P B O) := z24
            have e4 : (hv_sI τM 0 0 0).1 4 (2 * a + e) = iI (ldz F (2 * a + e)) := (congrFun (m0.2 4 (by decide) (by decide)) _).trans le
            rw [hv_let_e, e0, if_pos (by decide), ix, hv_if_t (hv_ok_nI (show 2 * a + e < 12 by omega) (by decide)), nI_clamp (by omega), e4, iI_L ⟨by omega, by omega⟩, e24, iL_mul, hv_let_e, ek]
            exact t2
    · refine hno ?_ ?_
      · unfold mX7_force kX7_force_22 kX7_force_23
        rw [(x3_isPin (by omega) pX p).1 hp, hv_b2_e, if_neg (by decide), (x7_isDirection d).2 hd, hv_b2_e, if_pos rfl, need_0]
      · unfold mX8_force
        rw [g1, hv_bd_e, (r8_isPin (by omega) pM p).1 hp, hv_b2_e, if_neg (by decide), (r8_inDir d).2 hd, hv_b2_e, if_pos rfl]
  · refine hno ?_ ?_
    · unfold mX7_force kX7_force_22 kX7_force_23
      rw [(x3_isPin (by omega) pX p).2 hp, hv_b2_e, if_pos rfl, need_0]
    · unfold mX8_force
      rw [g1, hv_bd_e, (r8_isPin (by omega) pM p).2 hp, hv_b2_e, if_pos rfl]
end
section
/-! the reference's bare and unit pulls -/
theorem sub_filter {l L : List Nat} (h : l.Sublist L) (hn : L.Nodup) : L.filter (fun j => decide (j ∈ l)) = l := by
  induction h with
  | slnil => rfl
  | @cons l L a h ih =>
    have hn' := List.nodup_cons.mp hn
    have na : a ∉ l := fun q => hn'.1 (h.subset q)
    rw [List.filter_cons, if_neg (by simp [na])]
    exact ih hn'.2
  | @cons_cons l L a h ih =>
    have hn' := List.nodup_cons.mp hn
    rw [List.filter_cons, if_pos (by simp)]
    congr 1
    have e : L.filter (fun j => decide (j ∈ a :: l)) = L.filter (fun j => decide (j ∈ l)) := List.filter_congr (fun x hx => by
      have : x ≠ a := fun q => hn'.1 (q ▸ hx)
      simp [this])
    rw [e]
    exact ih hn'.2
theorem fBase_Eb {F : Nat → Nat → Int32} {P B S Eb : Nat} (h : ∀ b, Eb.testBit b = true ↔ b ∈ fBase F P (fBl S B)) : fBl Eb B = fBase F P (fBl S B) := by
  have s : List.Sublist (fBase F P (fBl S B)) (List.range B) := (fBase_sub F P _).trans List.filter_sublist
  have q := sub_filter s List.nodup_range
  unfold fBl
  refine Eq.trans (List.filter_congr (fun b hb => ?_)) q
  by_cases c : Eb.testBit b = true
  · rw [c, decide_eq_true ((h b).mp c)]
  · have c' : Eb.testBit b = false := by
      cases e : Eb.testBit b
      · rfl
      · exact absurd e c
    rw [c', decide_eq_false (fun z => c ((h b).mpr z))]
theorem dN_base {F : Nat → Nat → Int32} {P B S Eb : Nat} {A : Nat → md_V} (h : zF F P B S A) (hE : fBl Eb B = fBase F P (fBl S B)) : dN F P B Eb = md_dt (fR F P) A (fN' F P) := by
  unfold dN dS
  rw [hE, ← md_dt_map, h.1]
  refine md_dt_congr (fun j hj => ?_)
  rw [h.2 j hj]
  rfl
theorem dS_base {F : Nat → Nat → Int32} {P B S Eb : Nat} {A : Nat → md_V} (h : zF F P B S A) (hE : fBl Eb B = fBase F P (fBl S B)) (col : md_V) {j : Nat} (hj : j < fN' F P) : dS F P B Eb (eB ((fBase F P (fBl S B)).getD j 0)) col = md_T (fR F P) (fN' F P) A col j := by
  unfold dS md_T
  rw [hE, ← md_dt_map, h.1]
  refine md_dt_congr (fun c hc => ?_)
  unfold gC eB
  by_cases e : c = j
  · rw [e, if_pos (decide_eq_true rfl), md_up_at]
  · rw [md_up_ne _ _ e, if_neg (by
      rw [decide_eq_true_iff]
      exact fun q => e (getD_inj (fBase_nd F P S B) (by rw [h.1]; exact hc) (by rw [h.1]; exact hj) q)), h.2 c hc]
def yS (F : Nat → Nat → Int32) (P B Eb : Nat) (col : md_V) (b : Nat) : Int := if Eb.testBit b = true then dS F P B Eb (eB b) col else 0
theorem yS_in {F : Nat → Nat → Int32} {P B S Eb : Nat} {A : Nat → md_V} (h : zF F P B S A) (hm : ∀ b, Eb.testBit b = true ↔ b ∈ fBase F P (fBl S B)) (col : md_V) {j : Nat} (hj : j < fN' F P) : yS F P B Eb col ((fBase F P (fBl S B)).getD j 0) = md_T (fR F P) (fN' F P) A col j := by
  unfold yS
  rw [if_pos ((hm _).mpr (getD_mem (by rw [h.1]; exact hj))), dS_base h (fBase_Eb hm) col hj]
theorem yS_V {F : Nat → Nat → Int32} {P B S Eb : Nat} {A : Nat → md_V} (h : zF F P B S A) (hm : ∀ b, Eb.testBit b = true ↔ b ∈ fBase F P (fBl S B)) (z : Nat → Int) (b : Nat) : yS F P B Eb (fCo F P z) b = vV F P B S A 1 z b := by
  by_cases hb : b ∈ fBase F P (fBl S B)
  · obtain ⟨j, hj, rfl⟩ := mem_getD hb
    have hj' : j < fN' F P := by rw [← h.1]; exact hj
    have zl := zI_lo h hj'
    rw [yS_in h hm _ hj', vV_at zl.1, zl.2, t_all.2.1 _ j hj', Int.one_mul]
  · have e0 : yS F P B Eb (fCo F P z) b = 0 := if_neg (fun q => hb ((hm b).mp q))
    rw [e0]
    by_cases hz : b ∈ zL F P B S
    · obtain ⟨i, hi, rfl⟩ := mem_getD (fSp_mem.mpr ⟨zL_mem.mp hz, hb⟩)
      have zh := zI_hi h hi
      rw [vV_at zh.1, zh.2, t_all.2.2.1 _ i hi, Int.mul_zero]
    · rw [vV_no hz]
theorem T_neg {R : List Nat} {n : Nat} (A : Nat → md_V) (X : md_V) {j : Nat} (hj : j < n) : md_T R n A (fun r => -(X r)) j = -(md_T R n A X j) := by
  have q := md_dt_lin R A (i := j) (n := n) hj (-1) 0 X X
  have e : (fun r => (-1) * X r + 0 * X r) = fun r => -(X r) := funext fun r => by omega
  rw [e] at q
  unfold md_T
  dsimp only at q
  rw [q]
  omega
/-- a spare one's column, turned -/
def fCn (F : Nat → Nat → Int32) (P a : Nat) : md_V := fun r => -(fCol F P a r)
theorem yS_U {F : Nat → Nat → Int32} {P B S Eb : Nat} {A : Nat → md_V} (h : zF F P B S A) (hm : ∀ b, Eb.testBit b = true ↔ b ∈ fBase F P (fBl S B)) {i : Nat} (hi : i < (fSp F P B S).length) (b : Nat) : (if b = (fSp F P B S).getD i 0 then dN F P B Eb else yS F P B Eb (fCn F P ((fSp F P B S).getD i 0)) b) = uU F P B S A 1 i b := by
  have hs := (fSp_mem.mp (getD_mem hi)).2
  by_cases hb : b ∈ fBase F P (fBl S B)
  · rw [if_neg (fun q => hs (by rw [← q]; exact hb))]
    obtain ⟨j, hj, rfl⟩ := mem_getD hb
    have hj' : j < fN' F P := by rw [← h.1]; exact hj
    have zl := zI_lo h hj'
    rw [yS_in h hm _ hj', uU_at i zl.1, zl.2, t_all.2.2.2.1 i j hi hj', Int.one_mul]
    exact T_neg A _ hj'
  · have e0 : yS F P B Eb (fCn F P ((fSp F P B S).getD i 0)) b = 0 := if_neg (fun q => hb ((hm b).mp q))
    rw [e0, dN_base h (fBase_Eb hm)]
    by_cases hz : b ∈ zL F P B S
    · obtain ⟨k, hk, rfl⟩ := mem_getD (fSp_mem.mpr ⟨zL_mem.mp hz, hb⟩)
      have zh := zI_hi h hk
      rw [uU_at i zh.1, zh.2, t_all.2.2.2.2 i k hi hk, Int.one_mul]
      by_cases e : i = k
      · rw [e, if_pos rfl, if_pos rfl]
      · rw [if_neg e, if_neg (fun q => e (getD_inj (fSp_nd F P B S) hi hk q.symm))]
    · rw [uU_no i hz, if_neg (fun q => hz (by rw [q]; exact (zI_hi h hi).1))]
theorem vV_e {F : Nat → Nat → Int32} {P B S : Nat} {A : Nat → md_V} {e : Int} {z : Nat → Int} (b : Nat) : vV F P B S A e z b = e * vV F P B S A 1 z b := by
  by_cases h : b ∈ zL F P B S
  · rw [vV_at h, vV_at h, Int.one_mul]
  · rw [vV_no h, vV_no h, Int.mul_zero]
theorem uU_e {F : Nat → Nat → Int32} {P B S : Nat} {A : Nat → md_V} {e : Int} (k b : Nat) : uU F P B S A e k b = e * uU F P B S A 1 k b := by
  by_cases h : b ∈ zL F P B S
  · rw [uU_at k h, uU_at k h, Int.one_mul]
  · rw [uU_no k h, uU_no k h, Int.mul_zero]
theorem r8_lays15 {n : Nat} (hn : 12 < n) {F : Nat → Nat → Int32} {P B O D W : Nat} (hi : hI F P B O D W) {q : Nat} (hq : q = 17 ∨ q = 18 ∨ q = 19) {col : md_V} (hcw : md_W (fR F P) col 108) {Eb : Nat} (hE : Eb < 2 ^ B) (hEl : (fBl Eb B).length = fN' F P) {σ₀ : hv_St} (h0 : rB F P col σ₀) (h20 : σ₀.1 0 20 = nI Eb) : ∀ (d b fuel : Nat) (σ : hv_St), b + d = 11 → d < fuel → σ.1 = σ₀.1 → (∀ j, j ≠ 13 → j ≠ q → σ.2 j = σ₀.2 j) → (∀ c, c < b → σ.2 q c = iL (yS F P B Eb col c)) → ∃ τ, kX8_laysState_15 q n fuel σ (nI b) = some τ ∧ τ.1 = σ₀.1 ∧ (∀ j, j ≠ 13 → j ≠ q → τ.2 j = σ₀.2 j) ∧ ∀ c, c < 11 → τ.2 q c = iL (yS F P B Eb col c) := by
  have hB := hi.2.1.2
  have e31 : Eb < 2 ^ 31 := by have := p2048 hB hE; omega
  intro d
  induction d with
  | zero =>
    intro b fuel σ h1 h2 h3 h4 h5
    obtain ⟨fuel, rfl⟩ : ∃ q, fuel = q + 1 := ⟨fuel - 1, by omega⟩
    refine ⟨σ, ?_, h3, h4, fun c hc => h5 c (by omega)⟩
    show kX8_laysState_15_b q n _ _ _ = _
    unfold kX8_laysState_15_b
    rw [if_pos (show (11 : Int32) ≤ nI b from nI_le (a := 11) (by omega) (by omega))]
  | succ d ih =>
    intro b fuel σ h1 h2 h3 h4 h5
    obtain ⟨fuel, rfl⟩ : ∃ q, fuel = q + 1 := ⟨fuel - 1, by omega⟩
    have fb := fB_iff (s := Eb) (k := b) e31 (by omega)
    have step : ∀ (v : Int) (g : Nat → Int64), v = yS F P B Eb col b → ∃ τ, kX8_laysState_15 q n fuel (hv_sJ (hv_wJ σ 13 g) q b (iL v)) (nI (b + 1)) = some τ ∧ τ.1 = σ₀.1 ∧ (∀ j, j ≠ 13 → j ≠ q → τ.2 j = σ₀.2 j) ∧ ∀ c, c < 11 → τ.2 q c = iL (yS F P B Eb col c) := fun v g hv => ih (b + 1) fuel _ (by omega) (by omega) h3 (fun j j1 j2 => by rw [hv_sJ_ne _ _ _ j2, hv_wJ_ne _ _ j1]; exact h4 j j1 j2) (fun c hc => by
      rw [hv_sJ_rd]
      by_cases e : c = b
      · rw [if_pos e, hv, e]
      · rw [if_neg e, hv_wJ_ne _ _ (by omega)]
        exact h5 c (by omega))
    by_cases hb : Eb.testBit b = true
    · have hbB : b < B := Classical.byContradiction fun q => by
        have := Nat.testBit_lt_two_pow (i := b) (Nat.lt_of_lt_of_le hE (Nat.pow_le_pow_right (by decide) (by omega : B ≤ b)))
        rw [hb] at this
        cases this
      obtain ⟨g, hg⟩ := r8_setDetB hn hi (rB_1 h0 h3) hcw hbB e31 hEl
      obtain ⟨τ, t1, t2⟩ := step (dS F P B Eb (eB b) col) g (by unfold yS; rw [if_pos hb])
      refine ⟨τ, ?_, t2⟩
      rw [← t1]
      show kX8_laysState_15_b q n _ _ _ = _
      unfold kX8_laysState_15_b kX8_laysState_47
      rw [if_neg (show ¬ (11 : Int32) ≤ nI b from nI_ge (b := 11) (by omega) (by decide)), h3, h20, (r8_isOn _ _).1 (fb.mpr hb), hv_b2_e, if_neg (by decide), h3, h20, hg, hv_b2_e, hv_if_t (hv_ok_nI (show b < 11 by omega) (by decide)), hv_let_e, nI_clamp (by omega), nI_1]
    · obtain ⟨τ, t1, t2⟩ := step 0 (σ.2 13) (by unfold yS; rw [if_neg hb])
      refine ⟨τ, ?_, t2⟩
      rw [← t1, hv_wJ_self]
      show kX8_laysState_15_b q n _ _ _ = _
      unfold kX8_laysState_15_b kX8_laysState_47
      rw [if_neg (show ¬ (11 : Int32) ≤ nI b from nI_ge (b := 11) (by omega) (by decide)), h3, h20, (r8_isOn _ _).2 (fun z => hb (fb.mp z)), hv_b2_e, if_pos rfl, hv_if_t (hv_ok_nI (show b < 11 by omega) (by decide)), hv_let_e, nI_clamp (by omega), nI_1]
      rfl
theorem r8_laysState {n : Nat} (hn : 12 < n) {F : Nat → Nat → Int32} {P B O D W : Nat} (hi : hI F P B O D W) {q : Nat} (hq : q = 17 ∨ q = 18 ∨ q = 19) {col : md_V} (hcw : md_W (fR F P) col 108) {Eb : Nat} (hE : Eb < 2 ^ B) (hEl : (fBl Eb B).length = fN' F P) {σ : hv_St} (h0 : rB F P col σ) (h20 : σ.1 0 20 = nI Eb) : ∃ τ, mX8_laysState n σ q = some τ ∧ τ.1 = σ.1 ∧ τ.2 0 29 = iL (dN F P B Eb) ∧ (∀ c, c < 11 → τ.2 q c = iL (yS F P B Eb col c)) ∧ ∀ j, j ≠ 0 → j ≠ 13 → j ≠ q → τ.2 j = σ.2 j := by
  have hB := hi.2.1.2
  have e31 : Eb < 2 ^ 31 := by have := p2048 hB hE; omega
  obtain ⟨g, hg⟩ := r8_setDetN hn hi h0 hcw e31 hEl
  obtain ⟨τ, t1, t2, t3, t4⟩ := r8_lays15 (n := n) hn hi hq hcw hE hEl (σ₀ := hv_sJ (hv_wJ σ 13 g) 0 29 (iL (dN F P B Eb))) (rB_1 h0 rfl) h20 11 0 n _ rfl (by omega) rfl (fun _ _ _ => rfl) (fun c hc => absurd hc (Nat.not_lt_zero _))
  refine ⟨τ, ?_, t2, ?_, t4, fun j j0 j1 j2 => ?_⟩
  · unfold mX8_laysState
    rw [h20, hg, hv_b2_e, hv_let_e]
    exact t1
  · rw [t3 0 (by decide) (by omega), hv_sJ_rd, if_pos rfl]
  · rw [t3 j j1 j2, hv_sJ_ne _ _ _ j0, hv_wJ_ne _ _ j1]
end
section
/-! bare and unit pulls laid by the reference; its k-th spare one -/
theorem rM_14 {F : Nat → Nat → Int32} {σ : hv_St} (h : rM F σ) (g : Nat → Int32) : rM F (hv_wI σ 14 g) := rM_fr (A := fun k => k = 14) (B := fun _ => True) h ⟨fun k hk => hv_wI_ne _ _ hk, fun k hk => absurd trivial hk⟩ (fun k hk => by omega)
theorem rFr_of {F : Nat → Nat → Int32} {P : Nat} {σ τ : hv_St} (h : rFr F P σ) (h0 : τ.1 0 18 = σ.1 0 18) (h1 : τ.1 11 = σ.1 11) (h2 : τ.1 12 = σ.1 12) : rFr F P τ := by
  unfold rFr
  rw [h0, h1, h2]
  exact h
/-- the reference settled: base set Eb -/
def zE (F : Nat → Nat → Int32) (P B S Eb : Nat) (σ : hv_St) : Prop := rM F σ ∧ rFr F P σ ∧ σ.1 0 20 = nI Eb ∧ Eb < 2 ^ B ∧ (∀ b, Eb.testBit b = true ↔ b ∈ fBase F P (fBl S B))
theorem zE_of {F : Nat → Nat → Int32} {P B S Eb : Nat} {σ τ : hv_St} (h : zE F P B S Eb σ) (hm : rM F τ) (e : ∀ j, j = 0 ∨ j = 11 ∨ j = 12 → τ.1 j = σ.1 j) : zE F P B S Eb τ := by
  obtain ⟨h1, h2, h3, h4⟩ := h
  refine ⟨hm, rFr_of h2 (by rw [e 0 (by omega)]) (e 11 (by omega)) (e 12 (by omega)), ?_, h4⟩
  rw [e 0 (by omega)]
  exact h3
theorem zE_len {F : Nat → Nat → Int32} {P B S Eb : Nat} {σ : hv_St} (h : zE F P B S Eb σ) (hl : (fBase F P (fBl S B)).length = fN' F P) : (fBl Eb B).length = fN' F P := by
  rw [fBase_Eb h.2.2.2.2, hl]
theorem r8_laysBare {n : Nat} (hn : 20 < n) {F : Nat → Nat → Int32} {P B O D W : Nat} (hi : hI F P B O D W) {S Eb : Nat} {σ : hv_St} (h : zE F P B S Eb σ) (hl : (fBase F P (fBl S B)).length = fN' F P) : ∃ τ, mX8_laysBare n σ = some τ ∧ zE F P B S Eb τ ∧ (∀ j, j ≠ 14 → j ≠ 16 → τ.1 j = σ.1 j) ∧ τ.2 0 29 = iL (dN F P B Eb) ∧ (∀ c, c < 11 → τ.2 17 c = iL (yS F P B Eb (fCo F P (ldz F)) c)) ∧ ∀ j, j ≠ 0 → j ≠ 13 → j ≠ 17 → τ.2 j = σ.2 j := by
  have hP := hi.1.2
  obtain ⟨f, f1, f2, f3⟩ := r8_takesLoads (n := n) hn hi h.1
  have hz1 : zE F P B S Eb (hv_wI σ 16 f) := zE_of h f2 (fun j hj => hv_wI_ne _ _ (by omega))
  obtain ⟨g, g1, g2⟩ := r8_laysColumn (n := n) (by omega) hi hz1.2.1 f3
  have hm2 := rM_14 hz1.1 g
  have hz2 : zE F P B S Eb (hv_wI (hv_wI σ 16 f) 14 g) := zE_of hz1 hm2 (fun j hj => hv_wI_ne _ _ (by omega))
  have rb : rB F P (fCo F P (ldz F)) (hv_wI (hv_wI σ 16 f) 14 g) := ⟨hm2, hz2.2.1, fun k hk => by
    rw [hv_wI_at]
    refine ⟨g2 k hk, ?_⟩
    have := (fL_lt hk).1
    have h9 := (ldz_e hi (show (fL F (2 * P)).getD k 0 < 12 by omega)).2
    show (-(ldz F ((fL F (2 * P)).getD k 0))).natAbs ≤ 2 ^ 20
    omega⟩
  obtain ⟨τ, t1, t2, t3, t4, t5⟩ := r8_laysState (n := n) (by omega) hi (q := 17) (by omega) (fCo_W hP (fun s hs => (ldz_e hi hs).2)) h.2.2.2.1 (zE_len h hl) rb hz2.2.2.1
  refine ⟨τ, ?_, zE_of hz2 (by unfold rM; rw [t2]; exact hm2) (fun j _ => by rw [t2]), fun j j1 j2 => ?_, t3, t4, t5⟩
  · unfold mX8_laysBare
    rw [f1, hv_bd_e, g1, hv_bd_e, t1, hv_bd_e]
  · rw [t2, hv_wI_ne _ _ j1, hv_wI_ne _ _ j2]
theorem fCn_W {F : Nat → Nat → Int32} {P B O D W : Nat} (hi : hI F P B O D W) {a : Nat} (ha : a < B) : md_W (fR F P) (fCn F P a) 108 := by
  have q := md_W_lin (fCol_W hi ha) (md_W_zero (R := fR F P)) (-1) 0
  have e : (fun r => (-1) * fCol F P a r + 0 * 0) = fCn F P a := funext fun r => by
    show (-1) * fCol F P a r + 0 * 0 = -(fCol F P a r)
    omega
  rw [e] at q
  exact md_W_le q (by decide)
theorem r8_unit {n : Nat} {F : Nat → Nat → Int32} {P B O D W : Nat} (hi : hI F P B O D W) {q : Nat} {σ : hv_St} (hm : rM F σ) (hfr : rFr F P σ) {a : Nat} (ha : a < B) : ∀ (d k fuel : Nat) (f : Nat → Int32), k + d = fN' F P → d < fuel → (∀ j, j < k → f j = iI (fCn F P a j)) → ∃ g, kX8_laysUnit_2 q n fuel (hv_wI σ 14 f) (nI a) (nI k) = (hv_bd (mX8_laysState n (hv_wI σ 14 g) q) fun s42 => hv_if (hv_ok (nI a) 11) (hv_let (hv_sJ s42 q (nI a).toNatClampNeg (s42.2 0 29)) fun s51 => some s51)) ∧ ∀ j, j < fN' F P → g j = iI (fCn F P a j) := by
  have hP := hi.1.2
  have hB := hi.2.1.2
  have eN : fN' F P = (fL F (2 * P)).length := rfl
  have hl : fN' F P ≤ 2 * P := fL_le F (2 * P)
  intro d
  induction d with
  | zero =>
    intro k fuel f hk hf hg
    obtain ⟨fuel, rfl⟩ : ∃ q, fuel = q + 1 := ⟨fuel - 1, by omega⟩
    refine ⟨f, ?_, fun j hj => hg j (by omega)⟩
    show kX8_laysUnit_2_b q n _ _ _ _ = _
    unfold kX8_laysUnit_2_b
    rw [hv_wI_ne _ _ (show 0 ≠ 14 by decide), hfr.1, if_pos (nI_le (by omega) (by omega))]
  | succ d ih =>
    intro k fuel f hk hf hg
    obtain ⟨fuel, rfl⟩ : ∃ q, fuel = q + 1 := ⟨fuel - 1, by omega⟩
    have hkN : k < (fL F (2 * P)).length := by omega
    have hs := (fL_lt hkN).1
    have hfk := hfr.2 k hkN
    obtain ⟨g, g1, g2⟩ := ih (k + 1) fuel (upd f k (iI (fCn F P a k))) (by omega) (by omega) (fun j hj => by
      by_cases e : j = k
      · rw [e, pk_us]
      · rw [pk_un e]
        exact hg j (by omega))
    refine ⟨g, ?_, g2⟩
    rw [← g1]
    show kX8_laysUnit_2_b q n _ _ _ _ = _
    unfold kX8_laysUnit_2_b
    rw [hv_wI_ne _ _ (show 0 ≠ 14 by decide), hfr.1, if_neg (nI_ge (by omega) (by omega)), hv_if_t (hv_ok_nI (show k < 12 by omega) (by decide)), hv_if_t (hv_ok_nI (show k < 12 by omega) (by decide)), nI_clamp (show k < 2 ^ 31 by omega), hv_wI_ne _ _ (show 11 ≠ 14 by decide), hv_wI_ne _ _ (show 12 ≠ 14 by decide), hfk.1, hfk.2, r8_brings hi (rM_14 hm f) ha (show (fL F (2 * P)).getD k 0 / 2 < 6 by omega) (by omega), hv_b2_e, hv_if_t (hv_ok_nI (show k < 12 by omega) (by decide)), hv_let_e, iI_neg, hv_sI_wI, nI_1]
    rfl
theorem r8_laysUnit {n : Nat} (hn : 20 < n) {F : Nat → Nat → Int32} {P B O D W : Nat} (hi : hI F P B O D W) {S Eb : Nat} {σ : hv_St} (h : zE F P B S Eb σ) (hl : (fBase F P (fBl S B)).length = fN' F P) {a : Nat} (ha : a < B) {q : Nat} (hq : q = 18 ∨ q = 19) : ∃ τ, mX8_laysUnit n σ (nI a) q = some τ ∧ zE F P B S Eb τ ∧ (∀ j, j ≠ 14 → τ.1 j = σ.1 j) ∧ τ.2 0 29 = iL (dN F P B Eb) ∧ (∀ c, c < 11 → τ.2 q c = iL (if c = a then dN F P B Eb else yS F P B Eb (fCn F P a) c)) ∧ ∀ j, j ≠ 0 → j ≠ 13 → j ≠ q → τ.2 j = σ.2 j := by
  have hP := hi.1.2
  have hB := hi.2.1.2
  have hlN : fN' F P ≤ 2 * P := fL_le F (2 * P)
  obtain ⟨g, g1, g2⟩ := r8_unit (n := n) hi (q := q) h.1 h.2.1 ha (fN' F P) 0 n (σ.1 14) (by omega) (by omega) (fun j hj => absurd hj (Nat.not_lt_zero _))
  rw [hv_wI_self] at g1
  have hm2 := rM_14 h.1 g
  have hz2 : zE F P B S Eb (hv_wI σ 14 g) := zE_of h hm2 (fun j hj => hv_wI_ne _ _ (by omega))
  have rb : rB F P (fCn F P a) (hv_wI σ 14 g) := ⟨hm2, hz2.2.1, fun k hk => by
    rw [hv_wI_at]
    refine ⟨g2 k hk, ?_⟩
    have := fBr_le hi ha ((fL F (2 * P)).getD k 0 / 2) ((fL F (2 * P)).getD k 0 % 2)
    show (-(fBr F a ((fL F (2 * P)).getD k 0 / 2) ((fL F (2 * P)).getD k 0 % 2))).natAbs ≤ 2 ^ 20
    omega⟩
  obtain ⟨τ, t1, t2, t3, t4, t5⟩ := r8_laysState (n := n) (by omega) hi (q := q) (by omega) (fCn_W hi ha) h.2.2.2.1 (zE_len h hl) rb hz2.2.2.1
  refine ⟨hv_sJ τ q a (iL (dN F P B Eb)), ?_, zE_of hz2 (show rM F τ from by unfold rM; rw [t2]; exact hm2) (fun j _ => by show τ.1 j = _; rw [t2]), fun j j1 => ?_, ?_, fun c hc => ?_, fun j j0 j1 j2 => ?_⟩
  · unfold mX8_laysUnit
    refine g1.trans ?_
    rw [t1, hv_bd_e, hv_if_t (hv_ok_nI (show a < 11 by omega) (by decide)), hv_let_e, nI_clamp (by omega), t3]
  · show τ.1 j = _
    rw [t2, hv_wI_ne _ _ j1]
  · rw [hv_sJ_ne _ _ _ (by omega), t3]
  · rw [hv_sJ_rd]
    by_cases e : c = a
    · rw [if_pos e, if_pos e]
    · rw [if_neg e, if_neg e]
      exact t4 c hc
  · rw [hv_sJ_ne _ _ _ j2, t5 j j0 j1 j2]
    rfl
theorem r8_spAt {n : Nat} {B : Nat} (hB : B ≤ 11) {σ : hv_St} (hb : σ.1 0 6 = nI B) {Es : Nat} (hE : Es < 2 ^ 31) (h21 : σ.1 0 21 = nI Es) {i : Nat} (hi : i < 2 ^ 31) : ∀ (d b fuel : Nat), b + d = B → d < fuel → (fBl Es b).length ≤ i → kX8_spareAt_4 n fuel σ (nI i) (nI (fBl Es b).length) (nI b) = some (if i < (fBl Es B).length then nI ((fBl Es B).getD i 0) else -1, σ) := by
  intro d
  induction d with
  | zero =>
    intro b fuel h1 h2 h3
    obtain ⟨fuel, rfl⟩ : ∃ q, fuel = q + 1 := ⟨fuel - 1, by omega⟩
    obtain rfl : b = B := by omega
    show kX8_spareAt_4_b n _ _ _ _ _ = _
    unfold kX8_spareAt_4_b
    rw [hb, if_pos (nI_le (Nat.le_refl _) (by omega)), if_neg (by omega)]
  | succ d ih =>
    intro b fuel h1 h2 h3
    obtain ⟨fuel, rfl⟩ : ∃ q, fuel = q + 1 := ⟨fuel - 1, by omega⟩
    have fb := fB_iff (s := Es) (k := b) hE (by omega)
    have hlb : (fBl Es b).length ≤ b := by
      have h2 := List.length_filter_le (fun j => Es.testBit j) (List.range b)
      rw [List.length_range] at h2
      exact h2
    show kX8_spareAt_4_b n _ _ _ _ _ = _
    unfold kX8_spareAt_4_b kX8_spareAt_33
    rw [hb, if_neg (nI_ge (by omega) (by omega)), h21]
    by_cases hbs : Es.testBit b = true
    · rw [(r8_isOn _ _).1 (fb.mpr hbs), hv_b2_e, if_neg (by decide)]
      have es : fBl Es (b + 1) = fBl Es b ++ [b] := by rw [fBl_succ, if_pos hbs]
      have el : (fBl Es (b + 1)).length = (fBl Es b).length + 1 := by rw [es, List.length_append]; rfl
      by_cases c : (fBl Es b).length = i
      · have hp := fBl_pre (S := Es) (b := b + 1) B (by omega) i (by omega)
        have hlt : i < (fBl Es B).length := by
          have q : ∀ m, (fBl Es (b + 1)).length ≤ (fBl Es (b + 1 + m)).length := fun m => by
            induction m with
            | zero => exact Nat.le_refl _
            | succ m ihm =>
              refine Nat.le_trans ihm ?_
              rw [← Nat.add_assoc, fBl_succ]
              by_cases t : Es.testBit (b + 1 + m) = true
              · rw [if_pos t, List.length_append]; omega
              · rw [if_neg t]; omega
          have := q (B - (b + 1))
          rw [show b + 1 + (B - (b + 1)) = B by omega] at this
          omega
        rw [if_pos ((nI_eq (by omega) hi).mpr c), if_pos hlt, hp, es, ← c, getD_app_at]
      · rw [if_neg (fun q => c ((nI_eq (by omega) hi).mp q)), nI_1, nI_1, ← el]
        exact ih (b + 1) fuel (by omega) (by omega) (by omega)
    · rw [(r8_isOn _ _).2 (fun z => hbs (fb.mp z)), hv_b2_e, if_pos rfl, nI_1]
      have es : fBl Es (b + 1) = fBl Es b := by rw [fBl_succ, if_neg hbs]
      have := ih (b + 1) fuel (by omega) (by omega) (by rw [es]; exact h3)
      rw [es] at this
      exact this
theorem r8_isFirm {n : Nat} {σ : hv_St} {k : Nat} (hk : k ≤ 4) : (1 ≤ k ∧ k ≤ 3 → mX8_isFirm n σ (nI k) = some (1, σ)) ∧ (¬ (1 ≤ k ∧ k ≤ 3) → mX8_isFirm n σ (nI k) = some (0, σ)) := by
  unfold mX8_isFirm kX8_isFirm_13
  by_cases c0 : k = 0
  · rw [c0, if_pos (show nI 0 ≤ 0 by decide)]
    exact ⟨fun q => by omega, fun _ => rfl⟩
  · rw [if_neg (nI_nle (by omega) (by omega))]
    by_cases c4 : k = 4
    · rw [c4, if_pos (show (4 : Int32) ≤ nI 4 by decide)]
      exact ⟨fun q => by omega, fun _ => rfl⟩
    · rw [if_neg (show ¬ (4 : Int32) ≤ nI k from nI_ge (b := 4) (by omega) (by decide))]
      exact ⟨fun _ => rfl, fun q => by omega⟩
end
section
/-! state -/
theorem tl_pm {e : Int} (he : e = 1 ∨ e = -1) {n : Nat} (hn : 200 ≤ n) {σ : hv_St} {v s : Int} (hv : rL v) (hs : rL s) (s0 : s ≠ 0) (u : Int32) : ∃ τ, mX7_told n σ (iL (e * v)) (iL (e * s)) u = some (iL (tlN v s (if u = 0 then v else s)), τ) ∧ τ.1 = σ.1 := by
  have e0 : e ≠ 0 := by omega
  have hv1 := hv.1
  have hv2 := hv.2
  have hs1 := hs.1
  have hs2 := hs.2
  have rv : rL (e * v) := by
    rcases he with rfl | rfl
    · rw [Int.one_mul]; exact hv
    · exact ⟨by omega, by omega⟩
  have rs : rL (e * s) := by
    rcases he with rfl | rfl
    · rw [Int.one_mul]; exact hs
    · exact ⟨by omega, by omega⟩
  have q := x7_told (n := n) hn (σ := σ) rv rs (pm_ne he s0) u
  have ev : tlN (e * v) (e * s) (if u = 0 then e * v else e * s) = tlN v s (if u = 0 then v else s) := by
    by_cases u0 : u = 0
    · rw [if_pos u0, if_pos u0, tlN_scale e0]
    · rw [if_neg u0, if_neg u0, tlN_scale e0]
  rw [ev] at q
  exact ⟨_, q, rfl⟩
theorem op_state {n : Nat} (hn : 2100 ≤ n) {F : Nat → Nat → Int32} {P B O D W : Nat} {σX σM : hv_St} (h : hR F P B O D W σX σM) (v w u : Int32) : hT F P B O D W (mX7_state n σX v w u) (mX8_state n σM v w u) := by
  obtain ⟨hi, hx, hm⟩ := h
  have hB := hi.2.1.2
  have hP := hi.1.2
  have hO := hi.2.2.1
  have o2 := p2048 hB hO.2
  have o31 : O < 2 ^ 31 := by omega
  have hlN : fN' F P ≤ 2 * P := fL_le F (2 * P)
  have bX : σX.1 1 1 = nI B := hx.1.2.1.trans hi.2.1.1
  have oX' : σX.1 1 2 = nI O := hx.1.2.2.1.trans hO.1
  have bM : σM.1 0 6 = nI B := hm.1.2.1.trans hi.2.1.1
  have oM : σM.1 0 11 = nI O := hm.1.2.2.1.trans hO.1
  have on_iff : fO B (σX.1 1 2) w ↔ fN B w ∧ fB (nI O) w := by rw [oX']; rfl
  have no : ∀ τX τM y, rX F τX → rM F τM → kX8_state_81 n τM v w u y = some (0, hv_sI τM 0 0 1) ∧ hR F P B O D W τX (hv_sI τM 0 0 1) ∧ (hv_sI τM 0 0 1).1 0 0 = 1 := fun τX τM y h1 h2 => by
    refine ⟨?_, ⟨hi, h1, rM_sc h2 (by decide) 1⟩, by rw [hv_sI_rd, if_pos rfl]⟩
    unfold kX8_state_81 kX8_state_82
    rw [hv_let_e, hv_sI_rd, if_pos rfl, if_neg (by decide)]
  have hno : ∀ τX τM, rX F τX → rM F τM → mX7_state n σX v w u = some (none, τX) → mX8_state n σM v w u = kX8_state_37 n τM v w u → hT F P B O D W (mX7_state n σX v w u) (mX8_state n σM v w u) := fun τX τM h1 h2 e1 e2 => by
    obtain ⟨q1, q2, q3⟩ := no τX τM (-1) h1 h2
    refine ⟨τX, _, q2, Or.inr ⟨0, e1, ?_, q3⟩⟩
    rw [e2]
    unfold kX8_state_37 kX8_state_38 kX8_state_57 kX8_state_58
    rw [if_pos rfl, if_pos rfl, q1]
  by_cases hw : fN B w
  · by_cases hon : fB (nI O) w
    · have c1 := (x3_isOn (n := n) (by omega) bX w).1 (on_iff.mpr ⟨hw, hon⟩)
      obtain ⟨τX, x1, x2, x3, x4⟩ := x7_bears hn hi hO.2 hx (Or.inl rfl) (ldX hi hx)
      obtain ⟨τM, m1, m2, m3, m4, m5⟩ := r8_kindOf (n := n) (by omega) hi o31 hm
      have hk4 := fKind_le F P B O
      have e8 : mX8_state n σM v w u = hv_b2 (mX8_isFirm n τM (nI (fKind F P B O))) fun r27 s27 => if r27 = 0 then (kX8_state_37 n s27 v w u) else (kX8_state_38 n s27 v w u ((1 : Int32))) := by
        unfold mX8_state
        rw [(r8_isBar (by omega) bM w).1 hw, hv_b2_e, if_neg (by decide), oM, (r8_isOn _ _).1 hon, hv_b2_e, if_neg (by decide), oM, m1, hv_b2_e]
      by_cases hf : fFirm F P B O
      · obtain ⟨y1, y2, k, q, y3, y4, A, e, y5, y6⟩ := x3 hf
        obtain ⟨ht, hzf, -, hm2, hpc, -, hm13, hU, -⟩ := y5
        obtain ⟨b, hb, rfl⟩ := hw
        obtain ⟨mfr, Eb, Es, s1, s2, s3, s4, s5, s6⟩ := m3
        have hzE : zE F P B O Eb (hv_sI τM 0 0 0) := ⟨rM_sc m2 (by decide) 0, rFr_of mfr (by rw [hv_sI_rd, if_neg (by decide)]) (hv_sI_ne _ _ _ (by decide)) (hv_sI_ne _ _ _ (by decide)), by rw [hv_sI_rd, if_neg (by decide)]; exact s1, s2, s3⟩
        have e0 : (hv_sI τM 0 0 0).1 0 0 = 0 := by rw [hv_sI_rd, if_pos rfl]
        have dNe := dN_base hzf (fBase_Eb s3)
        have d0 : md_dt (fR F P) A (fN' F P) ≠ 0 := ht.2.1
        have d28 : (md_dt (fR F P) A (fN' F P)).natAbs ≤ 2 ^ 28 := fXs_bd28 hi ht.2.2.1
        have dr : rL (md_dt (fR F P) A (fN' F P)) := rL_of (Nat.le_trans d28 (by decide))
        have sc : τX.2 9 8 = iL (e * md_dt (fR F P) A (fN' F P)) := ht.2.2.2.2.2.2.2.1
        have he := ht.1
        have hN11 : fN' F P ≤ 11 := by have := pc_leB hB hO.2; omega
        have e7 : mX7_state n σX v (nI b) u = if v = (-1 : Int32) then (kX7_state_48 n τX v (nI b) u) else (hv_b2 (mX5_isSpare n τX v) fun r42 s42 => if r42 = 0 then (kX7_state_52 n s42 v (nI b) u) else (kX7_state_48 n s42 v (nI b) u)) := by
          unfold mX7_state
          rw [c1, hv_b2_e, if_neg (by decide), oX', y1, hv_b2_e, if_neg (by decide)]
        have e8' : mX8_state n σM v (nI b) u = kX8_state_38 n τM v (nI b) u 1 := by
          rw [e8, (r8_isFirm hk4).1 hf, hv_b2_e, if_neg (by decide)]
        by_cases v1 : v = -1
        · have nsp : ¬ fN (fSp F P B O).length v := fun z => by
            rw [v1] at z
            exact ((fN_iff (by omega) _).mp z).1 (by decide)
          have so := (x5_stateOf (n := n) hB hm2 hm13 (k := 0) hb (v := vV F P B O A e (ldz F) b)).2 v nsp (y6 b hb)
          have vb := vV_bd hi hzf ht.2.2.1 hN11 (e := 1) (Or.inl rfl) (fun s hs => (ldz_e hi hs).2) b
          have vr : rL (vV F P B O A 1 (ldz F) b) := rL_of (Nat.le_trans vb (by decide))
          obtain ⟨τ', t1, t2⟩ := tl_pm he (n := n) (by omega) (σ := τX) vr dr d0 u
          obtain ⟨τ, l1, l2, l3, l4, l5, l6⟩ := r8_laysBare (n := n) (by omega) hi hzE hzf.1
          refine ⟨τ', τ, ⟨hi, rX_1 x1 (fun j _ => by rw [t2]), l2.1⟩, Or.inl ⟨iL (tlN (vV F P B O A 1 (ldz F) b) (md_dt (fR F P) A (fN' F P)) (if u = 0 then vV F P B O A 1 (ldz F) b else md_dt (fR F P) A (fN' F P))), ?_, ?_, ?_⟩⟩
          · rw [e7, if_pos v1]
            unfold kX7_state_48 kX7_state_53
            rw [need_1, so, hv_b2_e, sc, vV_e, t1, hv_b2_e]
          · rw [e8']
            unfold kX8_state_38 kX8_state_57 kX8_state_58 kX8_state_77 kX8_state_82
            rw [if_neg (by decide), if_pos (show v < 0 by rw [v1]; decide), if_neg (by decide), if_pos v1, hv_let_e, e0, if_pos (by decide), if_pos v1, l1, hv_bd_e, hv_if_t (hv_ok_nI (show b < 11 by omega) (by decide)), nI_clamp (by omega), l5 b (by omega), l4, yS_V hzf s3, dNe, r8_told (n := n) (by omega) vr dr d0 u, hv_b2_e]
          · rw [l3 0 (by decide) (by decide)]
            exact e0
        · by_cases hs : fN (fSp F P B O).length v
          · obtain ⟨i, hil, rfl⟩ := hs
            have sp := (x5_isSpare (n := n) hm2 hm13 (nI i)).1 ⟨i, hil, rfl⟩
            have so := (x5_stateOf (n := n) hB hm2 hm13 (k := i) hb (v := uU F P B O A e i b)).1 hil (hU i b hil hb)
            have ub := uU_bd hi hzf ht.2.2.1 (e := 1) (Or.inl rfl) hil b
            have ur : rL (uU F P B O A 1 i b) := rL_of (Nat.le_trans ub (by decide))
            obtain ⟨τ', t1, t2⟩ := tl_pm he (n := n) (by omega) (σ := τX) ur dr d0 u
            have aB : (fSp F P B O).getD i 0 < B := (fSp_mem.mp (getD_mem hil)).1.1
            obtain ⟨τ, l1, l2, l3, l4, l5, l6⟩ := r8_laysUnit (n := n) (by omega) hi hzE hzf.1 aB (Or.inl rfl)
            have spa : mX8_spareAt n τM (nI i) = some (nI ((fSp F P B O).getD i 0), τM) := by
              have q := r8_spAt (n := n) hB (m2.1.2.1.trans hi.2.1.1) (show Es < 2 ^ 31 by have := p2048 hB s5; omega) s4 (show i < 2 ^ 31 by omega) B 0 n (by omega) (by omega) (Nat.zero_le _)
              rw [fSp_Es s6, if_pos hil] at q
              exact q
            refine ⟨τ', τ, ⟨hi, rX_1 x1 (fun j _ => by rw [t2]), l2.1⟩, Or.inl ⟨iL (tlN (uU F P B O A 1 i b) (md_dt (fR F P) A (fN' F P)) (if u = 0 then uU F P B O A 1 i b else md_dt (fR F P) A (fN' F P))), ?_, ?_, ?_⟩⟩
            · rw [e7, if_neg v1, sp, hv_b2_e, if_neg (by decide)]
              unfold kX7_state_48 kX7_state_53
              rw [need_1, so, hv_b2_e, sc, uU_e, t1, hv_b2_e]
            · rw [e8']
              unfold kX8_state_38 kX8_state_58 kX8_state_77 kX8_state_82
              rw [if_neg (by decide), if_neg (nI_pos (by omega)), spa, hv_b2_e, if_neg (by decide), if_neg v1, if_neg (nI_n1 (by omega)), hv_let_e, e0, if_pos (by decide), if_neg v1, l1, hv_bd_e, hv_if_t (hv_ok_nI (show b < 11 by omega) (by decide)), nI_clamp (by omega), l5 b (by omega), l4, yS_U hzf s3 hil, dNe, r8_told (n := n) (by omega) ur dr d0 u, hv_b2_e]
            · rw [l3 0 (by decide)]
              exact e0
          · have sp := (x5_isSpare (n := n) hm2 hm13 v).2 hs
            obtain ⟨q1, q2, q3⟩ := no τX τM (-1) x1 m2
            refine ⟨τX, _, q2, Or.inr ⟨0, ?_, ?_, q3⟩⟩
            · rw [e7, if_neg v1, sp, hv_b2_e, if_pos rfl]
              unfold kX7_state_52 kX7_state_53
              rw [need_0]
            · rw [e8']
              unfold kX8_state_38 kX8_state_57
              have e58 : kX8_state_58 n τM v (nI b) u 1 (-1) = some (0, hv_sI τM 0 0 1) := by
                unfold kX8_state_58
                rw [if_neg (by decide), if_neg v1, if_pos rfl, q1]
              rw [if_neg (by decide)]
              by_cases vn : v < 0
              · rw [if_pos vn, e58]
              · obtain ⟨i, hi31, rfl⟩ := nI_of vn
                have hil : ¬ i < (fSp F P B O).length := fun z => hs ⟨i, z, rfl⟩
                have q := r8_spAt (n := n) hB (m2.1.2.1.trans hi.2.1.1) (show Es < 2 ^ 31 by have := p2048 hB s5; omega) s4 hi31 B 0 n (by omega) (by omega) (Nat.zero_le _)
                rw [fSp_Es s6, if_neg hil] at q
                have spa : mX8_spareAt n τM (nI i) = some (-1, τM) := q
                rw [if_neg vn, spa, hv_b2_e, e58]
      · refine hno τX τM x1 m2 ?_ ?_
        · unfold mX7_state kX7_state_52 kX7_state_53
          rw [c1, hv_b2_e, if_neg (by decide), oX', x4 hf, hv_b2_e, if_pos rfl, need_0]
        · rw [e8, (r8_isFirm hk4).2 hf, hv_b2_e, if_pos rfl]
    · refine hno σX σM hx hm ?_ ?_
      · unfold mX7_state kX7_state_52 kX7_state_53
        rw [(x3_isOn (by omega) bX w).2 (fun q => hon (on_iff.mp q).2), hv_b2_e, if_pos rfl, need_0]
      · unfold mX8_state
        rw [(r8_isBar (by omega) bM w).1 hw, hv_b2_e, if_neg (by decide), oM, (r8_isOn _ _).2 hon, hv_b2_e, if_pos rfl]
  · refine hno σX σM hx hm ?_ ?_
    · unfold mX7_state kX7_state_52 kX7_state_53
      rw [(x3_isOn (by omega) bX w).2 (fun q => hw (on_iff.mp q).1), hv_b2_e, if_pos rfl, need_0]
    · unfold mX8_state
      rw [(r8_isBar (by omega) bM w).2 hw, hv_b2_e, if_pos rfl]
end
