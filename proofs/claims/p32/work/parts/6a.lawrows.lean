def R_law : String := "PinFrameLaw"
def lw_P (b : Addr) (xs : List Int32) (args : Array Value) (s : State) : Prop := args = #[.ref b] ∧ s.IntsAt b xs ∧ xs.length ≤ 260 ∧ (Jvm.Cond.and given_1 narrow_1).before args s = true
def lw_Q (_ : Array Value) (s : State) (o : Outcome) (t : State) : Prop := o = .returned (some (.int 1)) ∧ Framed s o t [] room_1.cells room_1.slots
def lw_Z (below : List Frame) (a : Array Value) (s : State) : State → Prop := fun t => ∃ o, t.status = .running ∧ Ended t below o ∧ lw_Q a s o t
/-- the law's own end, with 1 on the stack, nothing written that was there before, its room as the claim has it -/
theorem lw_ret {p : Program} {l : Launch} {e : Env} {s : State} {m : MethodId} {below : List Frame} {meth : Method} {c : Code} {b : Nat} (hx : p.tables.exec = Jvm.exec) (hb : c.code = code) (hr : meth.sig.returnType = ret) (hlocks : meth.locks = false) {pc : Nat} {H : Heap} {ls : Array Slot} (hdg : decode code pc = .ok (.ireturn, 1)) : W p l e room_1 s m #[Value.ref b] below meth c H [] room_1.cells room_1.slots (lw_Z below #[Value.ref b] s) (F0 m pc ls [.int 1]) := by
  intro T hT X
  obtain ⟨fs, hret, hrun, hended, hW, hframe⟩ := X.leave (v := some (.int 1)) (hlocks := hlocks) (fun h => by rw [hr] at h; cases h)
  have hmeth' : T.vm.method? m = some meth := X.method'
  refine ⟨T.setFrames fs, ?_, .returned (some (.int 1)), hrun, hended, rfl, ⟨_, rfl⟩, hW, hframe⟩
  jvm_step X.here [X.here.top, hx, hb, hdg, hmeth', hr, ret, narrow_b1]
  (try refine ⟨rfl, ?_⟩); (try refine ⟨rfl, ?_⟩)
  first | (intro acts; rw [hret _ acts rfl rfl rfl]) | rw [hret _ _ rfl rfl rfl]
  exact Steps.refl _
/-- what holds at the law's entry: the machine, the code, the tables' words (any of lw_tbl by 'hts w (by decide +kernel)'), the script of L ints xs at the cell b, what the Statement gives of the start (any of its parts by flat_of_before) -/
def lw_At (p : Program) (s : State) (m : MethodId) (meth : Method) (c : Code) (b L : Nat) (xs : Nat → Int32) : Prop :=
  p.tables.exec = Jvm.exec ∧ c.code = code ∧ meth.sig.returnType = ret ∧ c.maxLocals = 8 ∧ s.vm.findClass R_law = some m.cls ∧ (∀ w ∈ lw_tbl, w.before #[Value.ref b] s = true) ∧ va_X b L xs s s.heap ∧ b < s.heap.size ∧ meth.locks = false ∧ (Jvm.Cond.and given_1 narrow_1).before #[Value.ref b] s = true

theorem lv_as {w1 w2 : va_W} : w1 ++ (w2 ++ []) = (w1 ++ w2) ++ [] := by rw [List.append_nil, List.append_nil]
/-- the room that the walk needs; the room that stands in the Statement is measured anew at each turn, and is larger -/
theorem lv_rc : 212400 ≤ room_1.cells := Nat.le_of_ble_eq_true rfl
theorem lv_rs : 2560000 ≤ room_1.slots := Nat.le_of_ble_eq_true rfl
theorem lv_clL {κ need mc : Nat} (h : κ + need ≤ 212000) (h2 : mc ≤ need) : κ + mc ≤ room_1.cells ∧ 12 * κ + 12 * mc ≤ room_1.slots := by have h3 := lv_rc; have h4 := lv_rs; omega
theorem lv_clL0 {κ need : Nat} (h : κ + need ≤ 212000) : κ ≤ room_1.cells ∧ 12 * κ ≤ room_1.slots := by have h3 := lv_rc; have h4 := lv_rs; omega
theorem lv_cl1 {κ : Nat} (h : κ + 1 ≤ 212000) : κ + 1 ≤ room_1.cells := by have h3 := lv_rc; omega
theorem lv_cl2 {κ n : Nat} (h : κ + 1 ≤ 212000 ∧ n ≤ 12) : 12 * κ + n ≤ room_1.slots := by have h4 := lv_rs; omega
theorem lv_cl54 {κ : Nat} (h : κ + 54 ≤ 212000) : κ + 54 ≤ room_1.cells ∧ 12 * κ + 647 ≤ room_1.slots := by have h3 := lv_rc; have h4 := lv_rs; omega
section LR4
variable {p : Program} {l : Launch} {e : Env} {R : Room} {s : State} {m : MethodId} {args : Array Value} {below : List Frame} {meth : Method} {c : Code} {cc : ByteArray} {nL : Nat} {Ts : List Cond} {own : String} {D : va_G} {cy : ClassId × ClassId × ClassId × ClassId} {A : Nat → Prop} {cells slots : Nat} {Q : State → Prop} {ws : va_W} {pc : Nat} {lv : List (Nat × Value)} {st : List Value} {bS L : Nat} {xs : Nat → Int32}
theorem r_slen (C : hv_C p s m #[Value.ref bS] meth c cc nL Ts own D (hv_tys cy)) (hX : va_X bS L xs s s.heap) (hbl : bS < s.heap.size) (hd : decode cc pc = .ok (.arraylength, 1)) (kk : hv_J p l e R s m #[Value.ref bS] below meth c nL D (fun q => s.heap.size ≤ q) cells slots Q ws (pc + 1) lv (.int (Int32.ofNat L) :: st)) : hv_J p l e R s m #[Value.ref bS] below meth c nL D (fun q => s.heap.size ≤ q) cells slots Q ws pc lv (.ref bS :: st) := by
  intro H locs ls hP hD hS hl
  exact va_slen C.1.1 C.1.2.1 hX hbl (by omega) hS hd (kk H locs ls hP hD hS hl)
theorem r_sld (C : hv_C p s m #[Value.ref bS] meth c cc nL Ts own D (hv_tys cy)) (hX : va_X bS L xs s s.heap) (hbl : bS < s.heap.size) {j : Int32} (hj : hv_ok j L = true) (hd : decode cc pc = .ok (.iaload, 1)) (kk : hv_J p l e R s m #[Value.ref bS] below meth c nL D (fun q => s.heap.size ≤ q) cells slots Q ws (pc + 1) lv (.int (xs j.toNatClampNeg) :: st)) : hv_J p l e R s m #[Value.ref bS] below meth c nL D (fun q => s.heap.size ≤ q) cells slots Q ws pc lv (.int j :: .ref bS :: st) := by
  intro H locs ls hP hD hS hl
  exact va_sld C.1.1 C.1.2.1 hX hbl (by omega) hS (hv_in hj) hd (kk H locs ls hP hD hS hl)
theorem r_lawret (C : hv_C p s m #[Value.ref bS] meth c code 8 Ts own D (hv_tys cy)) (hr : meth.sig.returnType = ret) (hcl : cells ≤ 212000 ∧ slots ≤ 12 * 212000) (hd : decode code pc = .ok (.ireturn, 1)) : hv_J p l e room_1 s m #[Value.ref bS] below meth c 8 D (fun q => s.heap.size ≤ q) cells slots (lw_Z below #[Value.ref bS] s) ws pc lv [.int 1] := by
  intro H locs ls hP hD hS hl
  refine va_forget (fun q hq => hS.2.2 q hq) (W.widen (k := room_1.cells) (n := room_1.slots) (by have h3 := lv_rc; omega) (by have h4 := lv_rs; omega) ?_)
  exact lw_ret C.1.1 C.1.2.1 hr C.2.2 hd
end LR4
section LR6
variable {p : Program} {l : Launch} {e : Env} {R : Room} {s : State} {m : MethodId} {args : Array Value} {below : List Frame} {meth : Method} {c : Code} {cc : ByteArray} {nL : Nat} {Ts : List Cond} {own : String} {D : va_G} {cy : ClassId × ClassId × ClassId × ClassId} {A : Nat → Prop} {cells slots : Nat} {Q : State → Prop} {ws : va_W} {pc : Nat} {lv : List (Nat × Value)} {st : List Value}
theorem j_put (C : hv_CI p s m args meth c cc nL Ts own D cy A) (i k : Nat) {ci n index a : Nat} {Cn ref : String} {T : u_T} {fs : List Value} {ty0 : Nat → FieldType} {ty : FieldType} {v : Value} {ws' : va_W} (he : ws[i]? = some (a, .inr (ci, fs))) (hc : vwCl[ci]? = some (Cn, T, n)) (hin : ∀ w ∈ u_ws Cn T n, w ∈ Ts) (hty : ∀ k, k < n → parseFieldDescriptor (T k).2.2.1 = some (ty0 k)) (hnm : ∀ a, a < n → ∀ b, b < n → a ≠ b → (T a).2.1 ≠ (T b).2.1) (hk : k < n) (hr : ref = (T k).1) (hlink : Cond.fieldLink own index ref (T k).2.1 (T k).2.2.1 ∈ Ts) (hfin : (T k).2.2.2 = false) (hdd : parseFieldDescriptor (T k).2.2.1 = some ty) (hn : narrow ty v = v) (hft : fits ty v = true) (hlen : k < fs.length) (hE : ws.set i (a, .inr (ci, fs.set k v)) = ws') (hd : decode cc pc = .ok (.putfield index, 3)) (kk : hv_J p l e R s m args below meth c nL D A cells slots Q ws' (pc + 3) lv st) : hv_J p l e R s m args below meth c nL D A cells slots Q ws pc lv (v :: .ref a :: st) := by
  intro H locs ls hP hD hS hl
  subst hr
  subst hE
  exact va_put (D := D) (ci := ci) (v := v) (ty := ty) C.1.1.1 C.1.1.2.1 C.1.1.2.2.2.2 hin ty0 hty hnm C.1.1.2.2.2.1 C.1.2.1.1 hP hD hS i he hc k hk (C.1.1.2.2.2.2 _ hlink) (fun _ h9 => h9) hfin hdd hn hft hlen hd (fun H1 locs1 hP1 hD1 hS1 => kk H1 locs1 ls hP1 hD1 hS1 hl)
end LR6
section
variable {l : Launch} {D : va_G} {cy : ClassId × ClassId × ClassId × ClassId}
abbrev rmX8_init : Room := { frames := 1, cells := 0, slots := 0, locals := 23 }
set_option maxRecDepth 20000 in
theorem qX8_init_O1 : Cond.methodLink RX8 1 objectInit ∈ wsX8_init := by decide +kernel
set_option maxRecDepth 20000 in
theorem qX8_init_OI : Cond.instanceMethod objectInit ∈ wsX8_init := by decide +kernel
set_option maxRecDepth 20000 in
theorem qX8_init_OC : Cond.code objectInit ⟨#[0xb1]⟩ 1 none ∈ wsX8_init := by decide +kernel
set_option maxRecDepth 20000 in
theorem qX8_init_F7 : Cond.fieldLink RX8 7 "PinFrameLaw$Draws" "x" "I" ∈ wsX8_init := by decide +kernel
theorem iX8_init_X8 : ∀ w ∈ u_ws RX8 TX8 1, w ∈ wsX8_init := by decide +kernel
set_option maxHeartbeats 4000000 in
set_option maxRecDepth 20000 in
theorem vX8_init {h0 : Nat} {x : Int32} : hv_IM l yX8_init wsX8_init rmX8_init D cy 0 0 [.ref h0, .int x] [(h0, .inr (8, [.int 0]))] (fun _ => [(h0, .inr (8, [.int x]))]) := by
  refine hv_ienter (own := RX8) (cc := cX8_init) (maxL := 2) (by decide) rfl rfl rfl (Nat.le_of_ble_eq_true rfl) ?_
  intro p e s m args below meth c A C hin hr
  refine j_lv [0, 1] (lv' := [(0, .ref h0), (1, .int x)]) rfl ?_
  refine j_aload_n (pc := 0) C 0 dX8_init_0 rfl rfl ?_
  refine j_obj (pc := 1) C qX8_init_O1 qX8_init_OI qX8_init_OC dX8_init_1 (Nat.le_of_ble_eq_true rfl) (Nat.le_of_ble_eq_true rfl) ?_
  refine j_aload_n (pc := 4) C 0 dX8_init_4 rfl rfl ?_
  refine r_iload_n (pc := 5) C.1 1 dX8_init_5 rfl rfl ?_
  refine j_put (pc := 6) (ci := 8) (fs := [.int 0]) (ty0 := tyX8) (ty := .int) (ws' := [(h0, .inr (8, [.int x]))]) C 0 0 rfl rfl iX8_init_X8 tyX8_ok nmX8 (Nat.le_of_ble_eq_true rfl) rfl qX8_init_F7 rfl (by decide +kernel) rfl rfl (Nat.le_of_ble_eq_true rfl) rfl dX8_init_6 ?_
  exact j_ret (pc := 9) (w := fun _ => [(h0, .inr (8, [.int x]))]) C (fun _ => 0) rfl hr dX8_init_9 (Nat.le_of_ble_eq_true rfl) (Nat.le_of_ble_eq_true rfl)
end
