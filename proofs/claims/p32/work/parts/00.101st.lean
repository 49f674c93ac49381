/-! states: whole arrays put; indices -/
def hv_wJ (σ : hv_St) (c : Nat) (f : Nat → Int64) : hv_St := (σ.1, fun j => if j = c then f else σ.2 j)
def hv_wI (σ : hv_St) (c : Nat) (f : Nat → Int32) : hv_St := (fun j => if j = c then f else σ.1 j, σ.2)
theorem hv_wJ_1 (σ : hv_St) (c : Nat) (f : Nat → Int64) : (hv_wJ σ c f).1 = σ.1 := rfl
theorem hv_wI_2 (σ : hv_St) (c : Nat) (f : Nat → Int32) : (hv_wI σ c f).2 = σ.2 := rfl
theorem hv_wJ_at (σ : hv_St) (c : Nat) (f : Nat → Int64) : (hv_wJ σ c f).2 c = f := if_pos rfl
theorem hv_wI_at (σ : hv_St) (c : Nat) (f : Nat → Int32) : (hv_wI σ c f).1 c = f := if_pos rfl
theorem hv_wJ_ne (σ : hv_St) {c j : Nat} (f : Nat → Int64) (h : j ≠ c) : (hv_wJ σ c f).2 j = σ.2 j := if_neg h
theorem hv_wI_ne (σ : hv_St) {c j : Nat} (f : Nat → Int32) (h : j ≠ c) : (hv_wI σ c f).1 j = σ.1 j := if_neg h
theorem hv_wJ_self (σ : hv_St) (c : Nat) : hv_wJ σ c (σ.2 c) = σ := Prod.ext rfl (funext fun j => by
  show (if j = c then σ.2 c else σ.2 j) = σ.2 j
  by_cases h : j = c
  · rw [if_pos h, h]
  · rw [if_neg h])
theorem hv_wI_self (σ : hv_St) (c : Nat) : hv_wI σ c (σ.1 c) = σ := Prod.ext (funext fun j => by
  show (if j = c then σ.1 c else σ.1 j) = σ.1 j
  by_cases h : j = c
  · rw [if_pos h, h]
  · rw [if_neg h]) rfl
theorem hv_sJ_w (σ : hv_St) (c k : Nat) (v : Int64) : hv_sJ σ c k v = hv_wJ σ c (vp_updL (σ.2 c) k v) := Prod.ext rfl (funext fun j => by
  show (if j = c then vp_updL (σ.2 j) k v else σ.2 j) = if j = c then vp_updL (σ.2 c) k v else σ.2 j
  by_cases h : j = c
  · rw [if_pos h, if_pos h, h]
  · rw [if_neg h, if_neg h])
theorem hv_sI_w (σ : hv_St) (c k : Nat) (v : Int32) : hv_sI σ c k v = hv_wI σ c (upd (σ.1 c) k v) := Prod.ext (funext fun j => by
  show (if j = c then upd (σ.1 j) k v else σ.1 j) = if j = c then upd (σ.1 c) k v else σ.1 j
  by_cases h : j = c
  · rw [if_pos h, if_pos h, h]
  · rw [if_neg h, if_neg h]) rfl
theorem hv_wJ_w (σ : hv_St) (c : Nat) (f g : Nat → Int64) : hv_wJ (hv_wJ σ c f) c g = hv_wJ σ c g := Prod.ext rfl (funext fun j => by
  show (if j = c then g else if j = c then f else σ.2 j) = if j = c then g else σ.2 j
  by_cases h : j = c
  · rw [if_pos h, if_pos h]
  · rw [if_neg h, if_neg h, if_neg h])
theorem hv_wI_w (σ : hv_St) (c : Nat) (f g : Nat → Int32) : hv_wI (hv_wI σ c f) c g = hv_wI σ c g := Prod.ext (funext fun j => by
  show (if j = c then g else if j = c then f else σ.1 j) = if j = c then g else σ.1 j
  by_cases h : j = c
  · rw [if_pos h, if_pos h]
  · rw [if_neg h, if_neg h, if_neg h]) rfl
theorem hv_sJ_wJ (σ : hv_St) (c k : Nat) (f : Nat → Int64) (v : Int64) : hv_sJ (hv_wJ σ c f) c k v = hv_wJ σ c (vp_updL f k v) := by
  rw [hv_sJ_w, hv_wJ_w, hv_wJ_at]
theorem hv_sI_wI (σ : hv_St) (c k : Nat) (f : Nat → Int32) (v : Int32) : hv_sI (hv_wI σ c f) c k v = hv_wI σ c (upd f k v) := by
  rw [hv_sI_w, hv_wI_w, hv_wI_at]
theorem hv_if_t {ρ : Type} {b : Bool} (h : b = true) (k : Option ρ) : hv_if b k = k := by
  subst h
  rfl
theorem hv_let_e {τ ρ : Type} (x : τ) (k : τ → Option ρ) : hv_let x k = k x := rfl
theorem hv_bd_e {τ ρ : Type} (x : τ) (k : τ → Option ρ) : hv_bd (some x) k = k x := rfl
theorem hv_b2_e {τ ρ : Type} (x : τ) (σ : hv_St) (k : τ → hv_St → Option ρ) : hv_b2 (some (x, σ)) k = k x σ := rfl
theorem nI_mul' (a b : Nat) : nI a * nI b = nI (a * b) := (Int32.ofNat_mul a b).symm
theorem nI_12 (a b : Nat) : (12 : Int32) * nI a + nI b = nI (12 * a + b) := by
  rw [show (12 : Int32) = nI 12 from rfl, nI_mul', nI_add]
theorem nI_2 (a : Nat) : (2 : Int32) * nI a = nI (2 * a) := by
  rw [show (2 : Int32) = nI 2 from rfl, nI_mul']
