def R_law : String := "PinFrameLaw"
def lw_P (b : Addr) (xs : List Int32) (args : Array Value) (s : State) : Prop := args = #[.ref b] ∧ s.IntsAt b xs ∧ xs.length ≤ 2560 ∧ (Jvm.Cond.and given_1 narrow_1).before args s = true
def lw_Q (_ : Array Value) (s : State) (o : Outcome) (t : State) : Prop := o = .returned (some (.int 1)) ∧ Framed s o t [] room_1.cells room_1.slots
def lw_Z (below : List Frame) (a : Array Value) (s : State) : State → Prop := fun t => ∃ o, t.status = .running ∧ Ended t below o ∧ lw_Q a s o t
/-- the law's own end, with 1 on the stack, nothing written that was there before, its room as the claim has it -/
theorem lw_ret {p : Program} {l : Launch} {e : Env} {s : State} {m : MethodId} {below : List Frame} {meth : Method} {c : Code} {b : Nat} (hx : p.tables.exec = Jvm.exec) (hb : c.code = code) (hr : meth.sig.returnType = ret) (hlocks : meth.locks = false) {pc : Nat} {H : Heap} {ls : Array Slot} (hdg : decode code pc = .ok (.ireturn, 1)) : W p l e room_1 s m #[Value.ref b] below meth c H [] room_1.cells room_1.slots (lw_Z below #[Value.ref b] s) (F0 m pc ls [.int 1]) := by
  intro T hT X
  obtain ⟨fs, hret, hrun, hended, hW, hframe⟩ := X.leave (v := some (.int 1)) (hlocks := hlocks) (fun h => by rw [hr] at h; cases h)
  have hmeth' : T.vm.method? m = some meth := X.method'
  refine ⟨T.setFrames fs, ?_, .returned (some (.int 1)), hrun, hended, rfl, ⟨_, rfl⟩, hW, hframe⟩
  jvm_step X.here [X.here.top, hx, hb, hdg, hmeth', hr, ret, narrow_b1]
  (try refine ⟨rfl, ?_⟩); (try refine ⟨rfl, ?_⟩)
  first | (intro acts; rw [hret _ acts rfl rfl rfl]) | rw [hret _ _ rfl rfl rfl]
  exact Steps.refl _
/-- what holds at the law's entry: the machine, the code, the tables' words (any of lw_tbl by 'hts w (by decide +kernel)'), the script of L ints xs at the cell b, what the Statement gives of the start (any of its parts by flat_of_before) -/
def lw_At (p : Program) (s : State) (m : MethodId) (meth : Method) (c : Code) (b L : Nat) (xs : Nat → Int32) : Prop :=
  p.tables.exec = Jvm.exec ∧ c.code = code ∧ meth.sig.returnType = ret ∧ c.maxLocals = 8 ∧ s.vm.findClass R_law = some m.cls ∧ (∀ w ∈ lw_tbl, w.before #[Value.ref b] s = true) ∧ va_X b L xs s s.heap ∧ b < s.heap.size ∧ meth.locks = false ∧ (Jvm.Cond.and given_1 narrow_1).before #[Value.ref b] s = true

/-! the law's own world and rows -/
def hv_LE (a : Nat → Nat) (cy : ClassId × ClassId × ClassId × ClassId) (i : Nat) (f : Nat → Int32) (g : Nat → Int64) : va_E := if i < 56 then hv_XO a cy i f g else hv_ME (fun j => a (j + 56)) cy (i - 56) f g
theorem hv_LE_O (a : Nat → Nat) (cy : ClassId × ClassId × ClassId × ClassId) : ∀ i, i < 56 → ∀ f g, hv_XO (fun i => a (i + 0)) cy i f g = hv_LE a cy (i + 0) f g := fun i h f g => by
  show _ = if i < 56 then hv_XO a cy i f g else _
  rw [if_pos h]
  rfl
theorem hv_LE_X (a : Nat → Nat) (cy : ClassId × ClassId × ClassId × ClassId) : ∀ i, i < 55 → ∀ f g, hv_XE (fun i => a (i + 0)) cy i f g = hv_LE a cy (i + 0) f g := fun i h f g => by
  rw [← hv_LE_O a cy i (by omega) f g]
  exact hv_XO_E _ cy i h f g
theorem hv_LE_M (a : Nat → Nat) (cy : ClassId × ClassId × ClassId × ClassId) : ∀ i, i < 23 → ∀ f g, hv_ME (fun i => a (i + 56)) cy i f g = hv_LE a cy (i + 56) f g := fun i h f g => by
  show _ = if i + 56 < 56 then _ else hv_ME (fun j => a (j + 56)) cy (i + 56 - 56) f g
  rw [if_neg (by omega), Nat.add_sub_cancel]
/-- what stands through the law's body, its world made -/
def hv_CL (p : Program) (s : State) (m : MethodId) (meth : Method) (c : Code) (D : va_G) (cy : ClassId × ClassId × ClassId × ClassId) (a : Nat → Nat) (b L : Nat) (xs : Nat → Int32) : Prop :=
  hv_C p s m #[Value.ref b] meth c code 8 wsL_law RL D (hv_tys cy) ∧ hv_T 79 a s ∧ va_X b L xs s s.heap ∧ b < s.heap.size ∧ (∀ j, j < 79 → s.heap.size ≤ a j) ∧ meth.sig.returnType = ret
theorem hv_cl {cells slots : Nat} (k : Nat) (h : cells + 2 ≤ room_1.cells ∧ slots + 12 ≤ room_1.slots) (hk : k ≤ 2) : cells + k ≤ room_1.cells ∧ slots + 6 * k ≤ room_1.slots := by
  show cells + k ≤ room_1.cells ∧ slots + 6 * k ≤ room_1.slots
  omega
section HVLW
variable {p : Program} {l : Launch} {e : Env} {R : Room} {s : State} {m : MethodId} {args : Array Value} {below : List Frame} {meth : Method} {c : Code} {nL : Nat} {D : va_G} {N : Nat} {a : Nat → Nat} {X : hv_X} {cells slots : Nat} {Q : State → Prop} {σ : hv_St} {pc : Nat} {lv : List (Nat × Value)} {st : List Value} {cy : ClassId × ClassId × ClassId × ClassId} {b L : Nat} {xs : Nat → Int32}
theorem g_widen {k n : Nat} (h1 : cells ≤ k) (h2 : slots ≤ n) (kk : hv_G p l e R s m args below meth c nL D N a X k n Q σ pc lv st) : hv_G p l e R s m args below meth c nL D N a X cells slots Q σ pc lv st := by
  intro H locs ls hP hD hS hl
  exact W.widen h1 h2 (kk H locs ls hP hD hS hl)
theorem g_nm {x v : Int32} (e1 : x = v) (kk : hv_G p l e R s m args below meth c nL D N a X cells slots Q σ pc lv (.int x :: st)) : hv_G p l e R s m args below meth c nL D N a X cells slots Q σ pc lv (.int v :: st) := by
  subst e1
  exact kk
theorem hv_CL_b (CL : hv_CL p s m meth c D cy a b L xs) : ¬ hv_A 79 a s.heap.size b := by
  intro h
  have hb := CL.2.2.2.1
  rcases h with ⟨j, hj, e1⟩ | h
  · have := CL.2.2.2.2.1 j hj
    omega
  · omega
theorem g_slen (CL : hv_CL p s m meth c D cy a b L xs) (hd : decode code pc = .ok (.arraylength, 1)) (kk : hv_G p l e room_1 s m #[Value.ref b] below meth c 8 D 79 a (hv_LE a cy) cells slots Q σ (pc + 1) lv (.int (Int32.ofNat L) :: st)) : hv_G p l e room_1 s m #[Value.ref b] below meth c 8 D 79 a (hv_LE a cy) cells slots Q σ pc lv (.ref b :: st) := by
  intro H locs ls hP hD hS hl
  exact va_slen CL.1.1.1 CL.1.1.2.1 CL.2.2.1 CL.2.2.2.1 (hv_CL_b CL) hS hd (kk H locs ls hP hD hS hl)
theorem g_sld (CL : hv_CL p s m meth c D cy a b L xs) {j : Int32} (hj : hv_ok j L = true) (hd : decode code pc = .ok (.iaload, 1)) (kk : hv_G p l e room_1 s m #[Value.ref b] below meth c 8 D 79 a (hv_LE a cy) cells slots Q σ (pc + 1) lv (.int (xs j.toNatClampNeg) :: st)) : hv_G p l e room_1 s m #[Value.ref b] below meth c 8 D 79 a (hv_LE a cy) cells slots Q σ pc lv (.int j :: .ref b :: st) := by
  intro H locs ls hP hD hS hl
  exact va_sld CL.1.1.1 CL.1.1.2.1 CL.2.2.1 CL.2.2.2.1 (hv_CL_b CL) hS (hv_in hj) hd (kk H locs ls hP hD hS hl)
theorem g_lawret (CL : hv_CL p s m meth c D cy a b L xs) (hcl : cells + 2 ≤ room_1.cells ∧ slots + 12 ≤ room_1.slots) (hd : decode code pc = .ok (.ireturn, 1)) : hv_G p l e room_1 s m #[Value.ref b] below meth c 8 D 79 a (hv_LE a cy) cells slots (lw_Z below #[Value.ref b] s) σ pc lv [.int 1] := by
  intro H locs ls hP hD hS hl
  refine va_forget (fun q hq => ?_) (W.widen (k := room_1.cells) (n := room_1.slots) (by omega) (by omega) ?_)
  · rcases hS.2.2 q hq with ⟨j, hj, e1⟩ | h
    · rw [e1]
      exact CL.2.2.2.2.1 j hj
    · exact h
  · exact lw_ret CL.1.1.1 CL.1.1.2.1 CL.2.2.2.2.2 CL.1.2.2 hd
end HVLW
