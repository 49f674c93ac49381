/-! states, the small words of the methods' functions -/
abbrev hv_St : Type := (Nat → Nat → Int32) × (Nat → Nat → Int64)
def hv_sI (σ : hv_St) (i k : Nat) (v : Int32) : hv_St := (fun j => if j = i then upd (σ.1 j) k v else σ.1 j, σ.2)
def hv_sJ (σ : hv_St) (i k : Nat) (v : Int64) : hv_St := (σ.1, fun j => if j = i then vp_updL (σ.2 j) k v else σ.2 j)
theorem hv_sI_at (σ : hv_St) (i k : Nat) (v : Int32) : (hv_sI σ i k v).1 i = upd (σ.1 i) k v := if_pos rfl
theorem hv_sI_ne (σ : hv_St) {i j : Nat} (k : Nat) (v : Int32) (h : j ≠ i) : (hv_sI σ i k v).1 j = σ.1 j := if_neg h
theorem hv_sJ_at (σ : hv_St) (i k : Nat) (v : Int64) : (hv_sJ σ i k v).2 i = vp_updL (σ.2 i) k v := if_pos rfl
theorem hv_sJ_ne (σ : hv_St) {i j : Nat} (k : Nat) (v : Int64) (h : j ≠ i) : (hv_sJ σ i k v).2 j = σ.2 j := if_neg h
def hv_ok (i : Int32) (n : Nat) : Bool := decide (¬ (i < 0 ∨ n ≤ i.toNatClampNeg))
theorem hv_in {i : Int32} {n : Nat} (h : hv_ok i n = true) : vp_in i n := by
  have h2 : ¬ (i < 0 ∨ n ≤ i.toNatClampNeg) := of_decide_eq_true h
  exact h2
theorem hv_lt {i : Int32} {n : Nat} (h : hv_ok i n = true) : i.toNatClampNeg < n := Nat.not_le.mp fun q => (hv_in h) (Or.inr q)
def hv_if {ρ : Type} (b : Bool) (k : Option ρ) : Option ρ := bif b then k else none
theorem hv_if_some {ρ : Type} {b : Bool} {k : Option ρ} {o : ρ} (h : hv_if b k = some o) : b = true ∧ k = some o := by
  cases b with
  | true => exact ⟨rfl, h⟩
  | false => cases h
def hv_let {τ ρ : Type} (x : τ) (k : τ → Option ρ) : Option ρ := k x
theorem hv_let_some {τ ρ : Type} {x : τ} {k : τ → Option ρ} {o : ρ} (h : hv_let x k = some o) : ∃ y, y = x ∧ k y = some o := ⟨x, rfl, h⟩
def hv_bd {τ ρ : Type} (x : Option τ) (k : τ → Option ρ) : Option ρ := match x with
  | none => none
  | some y => k y
theorem hv_bd_some {τ ρ : Type} {x : Option τ} {k : τ → Option ρ} {o : ρ} (h : hv_bd x k = some o) : ∃ y, x = some y ∧ k y = some o := by
  cases x with
  | none => cases h
  | some y => exact ⟨y, rfl, h⟩
def hv_b2 {τ ρ : Type} (x : Option (τ × hv_St)) (k : τ → hv_St → Option ρ) : Option ρ := match x with
  | none => none
  | some y => k y.1 y.2
theorem hv_b2_some {τ ρ : Type} {x : Option (τ × hv_St)} {k : τ → hv_St → Option ρ} {o : ρ} (h : hv_b2 x k = some o) : ∃ r σ, x = some (r, σ) ∧ k r σ = some o := by
  cases x with
  | none => cases h
  | some y => exact ⟨y.1, y.2, rfl, h⟩
def hv_z (v : Int32) : Bool := decide (v = 0 ∨ v = 1)
theorem hv_z_narrow {v : Int32} (h : hv_z v = true) : narrow .boolean (.int v) = .int v := by
  rcases of_decide_eq_true h with rfl | rfl <;> rfl
theorem hv_z_nar {v : Int32} (h : hv_z v = true) : vp_nar .boolean v = v := by
  rcases of_decide_eq_true h with rfl | rfl <;> rfl
def hv_bx {τ ρ : Type} (x : Option (Option τ × hv_St)) (k : τ → hv_St → Option (Option ρ × hv_St)) : Option (Option ρ × hv_St) := match x with
  | none => none
  | some (none, σ) => some (none, σ)
  | some (some y, σ) => k y σ
theorem hv_bx_some {τ ρ : Type} {x : Option (Option τ × hv_St)} {k : τ → hv_St → Option (Option ρ × hv_St)} {o : Option ρ × hv_St} (h : hv_bx x k = some o) : (∃ σ, x = some (none, σ) ∧ o = (none, σ)) ∨ ∃ y σ, x = some (some y, σ) ∧ k y σ = some o := by
  match x, h with
  | none, h => cases h
  | some (none, σ), h => exact Or.inl ⟨σ, rfl, by cases h; rfl⟩
  | some (some y, σ), h => exact Or.inr ⟨y, σ, rfl, h⟩
def hv_sh (o : Nat) (σ : hv_St) : hv_St := (fun j => σ.1 (j + o), fun j => σ.2 (j + o))
def hv_mg (o n : Nat) (σ τ : hv_St) : hv_St := (fun j => if o ≤ j ∧ j < o + n then τ.1 (j - o) else σ.1 j, fun j => if o ≤ j ∧ j < o + n then τ.2 (j - o) else σ.2 j)
def hv_0 : hv_St := (fun _ _ => 0, fun _ _ => 0)
def hv_by {τ ρ : Type} (x : Option (Option τ × hv_St)) (k0 : hv_St → Option ρ) (k1 : τ → hv_St → Option ρ) : Option ρ := match x with
  | none => none
  | some (none, σ) => k0 σ
  | some (some y, σ) => k1 y σ
