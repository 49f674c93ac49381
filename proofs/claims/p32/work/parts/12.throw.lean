/-! methods that return or throw: NoSuchElementException alone -/
abbrev hv_nse : String := "java/util/NoSuchElementException"
abbrev hv_at : List Cond := vx_at0 RX7 152 "java/util/NoSuchElementException" ["java/lang/RuntimeException", "java/lang/Exception"]
def hv_tw : List Cond := hv_at.filter (fun w => !goodWord w)
def hv_isCast (w : Cond) : Bool := match w with
  | .castable .. => true
  | .declares .. => true
  | _ => false
theorem hv_tw_all : hv_tw.all hv_isCast = true := by decide +kernel
theorem hv_tw_form : ∀ w ∈ hv_tw, (∃ c t : String, w = Cond.castable c t) ∨ ∃ x : MethodName, w = Cond.declares x := fun w h => by
  have h1 := List.all_eq_true.mp hv_tw_all w h
  cases w <;> first | exact Or.inl ⟨_, _, rfl⟩ | exact Or.inr ⟨_, rfl⟩ | cases h1
/-- what a throw needs of the machine, beside the tables' words -/
def hv_T (N : Nat) (a : Nat → Nat) (U : State) : Prop := vx_Zq Bundle.tN "UNASSIGNED_STACK" Bundle.steD (hv_A N a U.heap.size) U U.heap ∧ vx_Zq Bundle.tN "SUPPRESSED_SENTINEL" Bundle.listD (hv_A N a U.heap.size) U U.heap ∧ ∀ w ∈ hv_tw, va_Nw w U
theorem hv_cast_warm {x t : String} {s U : State} (hW : s.WarmedH U.vm) (h : va_Nw (.castable x t) s) : va_Nw (.castable x t) U := va_tabs rfl (rfl : (s.setVm U.vm).vm = U.vm) (by rw [Cond.castable_setVm hW.alike]; exact h)
theorem hv_T.warm {N : Nat} {a : Nat → Nat} {s U : State} {H : Heap} {locs : List Loc} (hT : hv_T N a s) (hS : va_S (hv_A N a s.heap.size) s.heap H locs) (hU : U.heap = H) (hW : s.WarmedH U.vm) : hv_T N a U := by
  have hsub : ∀ q, hv_A N a U.heap.size q → hv_A N a s.heap.size q := fun q h => by
    rcases h with h | h
    · exact Or.inl h
    · exact Or.inr (Nat.le_trans hS.1 (by rw [hU] at h; exact h))
  refine ⟨?_, ?_, fun w hw => by
    rcases hv_tw_form w hw with ⟨x, t, rfl⟩ | ⟨x, rfl⟩
    · exact hv_cast_warm hW (hT.2.2 _ hw)
    · exact va_Nw.warmD hW (hT.2.2 _ hw)⟩
  · rw [hU]
    exact ((hT.1.kept (fun x h1 h2 => hS.2.1 x h1 h2)).moved hW.alike).narrow (fun q h => hsub q (by rw [hU]; exact h))
  · rw [hU]
    exact ((hT.2.1.kept (fun x h1 h2 => hS.2.1 x h1 h2)).moved hW.alike).narrow (fun q h => hsub q (by rw [hU]; exact h))
theorem hv_T.calling {N : Nat} {a : Nat → Nat} {U : State} (g : JFrame) (mk : MethodId) (b : Array Value) (h : hv_T N a U) : hv_T N a (U.calling g mk b) := ⟨h.1.moved (u := U) (U := U.calling g mk b) (Vm.Alike.refl U.vm), h.2.1.moved (u := U) (U := U.calling g mk b) (Vm.Alike.refl U.vm), fun w hw => by
  rcases hv_tw_form w hw with ⟨x, t, rfl⟩ | ⟨x, rfl⟩ <;> exact va_Nw.same (u := U) (U := U.calling g mk b) rfl rfl (h.2.2 _ hw)⟩
def hv_PT (D : va_G) (tys : List (ClassId × FieldType)) (N : Nat) (a : Nat → Nat) (X : hv_X) (σ : hv_St) (sz : Nat) (as : List Value) : Array Value → State → Prop := va_Pc as (fun U => U.heap.size = sz ∧ va_P D vwCl (hv_W N a X σ) U.heap ∧ hv_K D tys U ∧ va_D (fun _ => True) (hv_W N a X σ) ∧ hv_T N a U)
def hv_QT (D : va_G) (N : Nat) (a : Nat → Nat) (X : hv_X) (r : Option (Option Value)) (σ' : hv_St) (A : Nat → Prop) : Array Value → State → Outcome → State → Prop := fun _ st oc t => (∃ v, r = some v ∧ oc = .returned v) ∧ va_P D vwCl (hv_W N a X σ') t.heap ∧ va_F A st t
def hv_XT (D : va_G) (N : Nat) (a : Nat → Nat) (X : hv_X) (r : Option (Option Value)) (σ' : hv_St) (A : Nat → Prop) : String → State → State → Prop := fun E st t => r = none ∧ E = hv_nse ∧ va_P D vwCl (hv_W N a X σ') t.heap ∧ va_F A st t
/-- a contract: at the state σ it returns (r is what), or throws (r is none); the state is σ' -/
abbrev hv_XM (l : Launch) (y : MethodName) (ws : List Cond) (rm : Room) (D : va_G) (tys : List (ClassId × FieldType)) (N : Nat) (a : Nat → Nat) (X : hv_X) (mc ms : Nat) (as : List Value) (σ : hv_St) (r : Option (Option Value)) (σ' : hv_St) : Prop :=
  ∀ sz : Nat, vx_Met l y ws rm (hv_PT D tys N a X σ sz as) (hv_QT D N a X r σ' (hv_A N a sz)) (hv_XT D N a X r σ' (hv_A N a sz)) mc ms (hv_A N a sz)
theorem hv_blindT {D : va_G} {tys : List (ClassId × FieldType)} {N : Nat} {a : Nat → Nat} {X : hv_X} {σ : hv_St} {sz : Nat} {as : List Value} : FrameBlind (hv_PT D tys N a X σ sz as) := fun b U g mk q => ⟨q.1, q.2.1, q.2.2.1, hv_K.same (s := U) (U := U.calling g mk b) rfl q.2.2.2.1, q.2.2.2.2.1, q.2.2.2.2.2.calling g mk b⟩
/-- what stands through the body of a method that may throw -/
def hv_CT (p : Program) (s : State) (m : MethodId) (args : Array Value) (meth : Method) (c : Code) (cc : ByteArray) (nL : Nat) (Ts : List Cond) (own : String) (D : va_G) (tys : List (ClassId × FieldType)) (N : Nat) (a : Nat → Nat) : Prop :=
  hv_C p s m args meth c cc nL Ts own D tys ∧ hv_T N a s ∧ ∀ x ∈ c.exceptionTable.toList, False
abbrev hv_XQ (D : va_G) (N : Nat) (a : Nat → Nat) (X : hv_X) (below : List Frame) (args : Array Value) (s : State) (r : Option (Option Value)) (σ : hv_St) (mc ms : Nat) : State → Prop := vx_MQ below (hv_QT D N a X r σ (hv_A N a s.heap.size)) (hv_XT D N a X r σ (hv_A N a s.heap.size)) args s mc ms (hv_A N a s.heap.size)
section HVT
variable {p : Program} {l : Launch} {e : Env} {R : Room} {s : State} {m : MethodId} {args : Array Value} {below : List Frame} {meth : Method} {c : Code} {cc : ByteArray} {nL : Nat} {Ts : List Cond} {own : String} {D : va_G} {tys : List (ClassId × FieldType)} {N : Nat} {a : Nat → Nat} {X : hv_X} {cells slots : Nat} {Q : State → Prop} {σ : hv_St} {pc : Nat} {lv : List (Nat × Value)} {st : List Value}
theorem hv_sub_A {sz sz' : Nat} (h : sz ≤ sz') : ∀ q, hv_A N a sz' q → hv_A N a sz q := fun q h2 => by
  rcases h2 with h2 | h2
  · exact Or.inl h2
  · exact Or.inr (Nat.le_trans h h2)
/-- behind a call that returns or throws: it returned -/
theorem g_xrun {σ1 : hv_St} {v : Option Value} {rest : List Value} {arr : Array Value} {mc ms : Nat} (hrun : ∀ (H : Heap) (locs : List Loc) (ls : Array Slot), va_P D vwCl (hv_W N a X σ) H → va_D (hv_A N a s.heap.size) (hv_W N a X σ) → va_S (hv_A N a s.heap.size) s.heap H locs → lv_has ls nL lv → vx_Run p l e R s m args below meth c H locs cells slots mc ms (F0 m pc ls st) rest (hv_QT D N a X (some v) σ1 (hv_A N a H.size) arr) (hv_XT D N a X (some v) σ1 (hv_A N a H.size)) (hv_A N a H.size)) (kk : hv_G p l e R s m args below meth c nL D N a X (cells + mc) (slots + ms) Q σ1 (pc + 3) lv (v.toList ++ rest)) : hv_G p l e R s m args below meth c nL D N a X cells slots Q σ pc lv st := by
  intro H locs ls hP hD hS hl T hT Xs
  rcases hrun H locs ls hP hD hS hl T hT Xs with ⟨v', st₀, t, T', L, h0, X', hL, e1, e2, ⟨⟨v2, hv2, hv⟩, hP1, hz, hk⟩, step⟩ | ⟨q, st₀, t, T', L, E, ce, h0, X', hL, e1, e2, ⟨hq, -⟩, -⟩
  · cases hv2
    cases hv
    rw [h0] at hz hk
    have hsub := hv_sub_A (N := N) (a := a) hS.1
    obtain ⟨t2, a1, b1⟩ := kk T'.heap (locs ++ L) ls (by rw [e1]; exact hP1) (hv_D_of hD)
      ⟨Nat.le_trans hS.1 (by rw [e1]; exact hz), fun q h1 h2 => by rw [e1, hk q (Nat.lt_of_lt_of_le h1 hS.1) (fun z => h2 (hsub q z))]; exact hS.2.1 q h1 h2, fun q hq => by
        rcases List.mem_append.mp hq with h | h
        · exact hS.2.2 q h
        · exact hsub _ (hL q h)⟩ hl T' rfl X'
    exact ⟨t2, step t2 a1, b1⟩
  · cases hq
/-- .. it threw, and that goes on to the caller -/
theorem g_xthr {σ1 : hv_St} {rest : List Value} {arr : Array Value} {mc ms MC MS : Nat} (CT : hv_CT p s m args meth c cc nL Ts own D tys N a) (hrun : ∀ (H : Heap) (locs : List Loc) (ls : Array Slot), va_P D vwCl (hv_W N a X σ) H → va_D (hv_A N a s.heap.size) (hv_W N a X σ) → va_S (hv_A N a s.heap.size) s.heap H locs → lv_has ls nL lv → vx_Run p l e R s m args below meth c H locs cells slots mc ms (F0 m pc ls st) rest (hv_QT D N a X none σ1 (hv_A N a H.size) arr) (hv_XT D N a X none σ1 (hv_A N a H.size)) (hv_A N a H.size)) (hc : cells + mc ≤ MC) (hs : slots + ms ≤ MS) : hv_G p l e R s m args below meth c nL D N a X cells slots (hv_XQ D N a X below args s none σ1 MC MS) σ pc lv st := by
  intro H locs ls hP hD hS hl T hT Xs
  rcases hrun H locs ls hP hD hS hl T hT Xs with ⟨v', st₀, t, T', L, h0, X', hL, e1, e2, ⟨⟨v2, hv2, hv⟩, -⟩, step⟩ | ⟨q, st₀, t, T', L, E, ce, h0, X', hL, e1, e2, ⟨-, hE, hP1, hz, hk⟩, hce, hcv, hcl, step⟩
  · cases hv2
  · rw [h0] at hz hk
    have hsub := hv_sub_A (N := N) (a := a) hS.1
    have hS1 : va_S (hv_A N a s.heap.size) s.heap T'.heap (locs ++ L) := ⟨Nat.le_trans hS.1 (by rw [e1]; exact hz), fun q h1 h2 => by rw [e1, hk q (Nat.lt_of_lt_of_le h1 hS.1) (fun z => h2 (hsub q z))]; exact hS.2.1 q h1 h2, fun q hq => by
        rcases List.mem_append.mp hq with h | h
        · exact hS.2.2 q h
        · exact hsub _ (hL q h)⟩
    obtain ⟨t2, a1, b1⟩ := vx_out (p := p) (l := l) (e := e) (R := R) (s := s) (m := m) (args := args) (below := below) (meth := meth) (c := c) (H := T'.heap) (locs := locs ++ L) (cells := cells + mc) (slots := slots + ms) (ls := ls) (rest := rest) (pc := pc) (E := E) (ce := ce) (q := q) (mc := MC) (ms := MS) (Qc := hv_QT D N a X none σ1 (hv_A N a s.heap.size)) (XC := hv_XT D N a X none σ1 (hv_A N a s.heap.size)) (free := hv_A N a s.heap.size) (fun x hx => absurd hx (fun h => CT.2.2 x h)) CT.1.2.2 (by rw [e1]; exact hce) hcv hcl (fun t2 ht2 _ => ⟨rfl, hE, by rw [ht2, e1]; exact hP1, hS1.F ht2⟩) hS1.2.2 hc hs T' rfl X'
    exact ⟨t2, step.trans a1, b1⟩
theorem hv_ptOf (CT : hv_CT p s m args meth c cc nL Ts own D tys N a) {H : Heap} {locs : List Loc} {as : List Value} (hP : va_P D vwCl (hv_W N a X σ) H) (hD : va_D (hv_A N a s.heap.size) (hv_W N a X σ)) (hS : va_S (hv_A N a s.heap.size) s.heap H locs) : ∀ U : State, U.heap = H → s.WarmedH U.vm → hv_PT D tys N a X σ H.size as as.toArray U := fun U hU hW => ⟨rfl, by rw [hU], by rw [hU]; exact hP, CT.1.2.1.warm hW, hD.weaken (fun _ _ _ _ => trivial), CT.2.1.warm hS hU hW⟩
theorem g_xcallV (CT : hv_CT p s m args meth c cc nL Ts own D tys N a) (i : Nat) {ci index maxL n : Nat} {y : MethodName} {ws : List Cond} {rm : Room} {bytes : ByteArray} {ret : Option FieldType} {q : vw_C} {fs : List Value} {σ1 : hv_St} {mc ms : Nat} {As rest : List Value} {v : Option Value} (hM : hv_XM l y ws rm D tys N a X mc ms (.ref (a i) :: As) σ (some v) σ1) (cw : CallW R s args own q.1 index y bytes maxL ret ws rm mc ms n) (hi : i < N) (hX : X i (σ.1 i) (σ.2 i) = .inr (ci, fs)) (hc : vwCl[ci]? = some q) (hn : As.length = n) (hst : st = As.reverse ++ .ref (a i) :: rest) (hroom : (rest.map fun v => v.category).sum ≤ 8) (hd : decode cc pc = .ok (.invokevirtual index, 3)) (hcl : cells + mc ≤ R.cells ∧ slots + ms ≤ R.slots) (kk : hv_G p l e R s m args below meth c nL D N a X (cells + mc) (slots + ms) Q σ1 (pc + 3) lv (v.toList ++ rest)) : hv_G p l e R s m args below meth c nL D N a X cells slots Q σ pc lv st := by
  refine g_xrun (arr := (.ref (a i) :: As : List Value).toArray) (fun H locs ls hP hD hS hl => ?_) kk
  exact vx_runV CT.1.1 (hM H.size) cw ⟨hv_blindT, va_recv CT.1.2.1.1 hP hc (by rw [hv_W_get hi, hX]), hv_ptOf CT hP hD hS⟩ rfl hn hl.1 hst (lv_room hroom) hd hcl
theorem g_xcallV0 (CT : hv_CT p s m args meth c cc nL Ts own D tys N a) (i : Nat) {ci index maxL n : Nat} {y : MethodName} {ws : List Cond} {rm : Room} {bytes : ByteArray} {ret : Option FieldType} {q : vw_C} {fs : List Value} {σ1 : hv_St} {mc ms : Nat} {As rest : List Value} {MC MS : Nat} (hM : hv_XM l y ws rm D tys N a X mc ms (.ref (a i) :: As) σ none σ1) (cw : CallW R s args own q.1 index y bytes maxL ret ws rm mc ms n) (hi : i < N) (hX : X i (σ.1 i) (σ.2 i) = .inr (ci, fs)) (hc : vwCl[ci]? = some q) (hn : As.length = n) (hst : st = As.reverse ++ .ref (a i) :: rest) (hroom : (rest.map fun v => v.category).sum ≤ 8) (hd : decode cc pc = .ok (.invokevirtual index, 3)) (hcl : cells + mc ≤ R.cells ∧ slots + ms ≤ R.slots) (hc1 : cells + mc ≤ MC) (hs1 : slots + ms ≤ MS) : hv_G p l e R s m args below meth c nL D N a X cells slots (hv_XQ D N a X below args s none σ1 MC MS) σ pc lv st := by
  refine g_xthr (arr := (.ref (a i) :: As : List Value).toArray) CT (rest := rest) (fun H locs ls hP hD hS hl => ?_) hc1 hs1
  exact vx_runV CT.1.1 (hM H.size) cw ⟨hv_blindT, va_recv CT.1.2.1.1 hP hc (by rw [hv_W_get hi, hX]), hv_ptOf CT hP hD hS⟩ rfl hn hl.1 hst (lv_room hroom) hd hcl
theorem g_xcallS (CT : hv_CT p s m args meth c cc nL Ts own D tys N a) {index maxL n : Nat} {y : MethodName} {ws : List Cond} {rm : Room} {bytes : ByteArray} {ret : Option FieldType} {σ1 : hv_St} {mc ms : Nat} {As rest : List Value} {v : Option Value} (hM : hv_XM l y ws rm D tys N a X mc ms (As) σ (some v) σ1) (cw : CallB R s args own index y bytes maxL ret ws rm mc ms n ∧ (Cond.static y).before args s = true) (hn : As.length = n) (hst : st = As.reverse ++ rest) (hroom : (rest.map fun v => v.category).sum ≤ 8) (hd : decode cc pc = .ok (.invokestatic index, 3)) (hcl : cells + mc ≤ R.cells ∧ slots + ms ≤ R.slots) (kk : hv_G p l e R s m args below meth c nL D N a X (cells + mc) (slots + ms) Q σ1 (pc + 3) lv (v.toList ++ rest)) : hv_G p l e R s m args below meth c nL D N a X cells slots Q σ pc lv st := by
  refine g_xrun (arr := (As : List Value).toArray) (fun H locs ls hP hD hS hl => ?_) kk
  exact vx_runS CT.1.1 (hM H.size) cw ⟨hv_blindT, hv_ptOf CT hP hD hS⟩ rfl hn hl.1 hst (lv_room hroom) hd hcl
theorem g_xcallS0 (CT : hv_CT p s m args meth c cc nL Ts own D tys N a) {index maxL n : Nat} {y : MethodName} {ws : List Cond} {rm : Room} {bytes : ByteArray} {ret : Option FieldType} {σ1 : hv_St} {mc ms : Nat} {As rest : List Value} {MC MS : Nat} (hM : hv_XM l y ws rm D tys N a X mc ms (As) σ none σ1) (cw : CallB R s args own index y bytes maxL ret ws rm mc ms n ∧ (Cond.static y).before args s = true) (hn : As.length = n) (hst : st = As.reverse ++ rest) (hroom : (rest.map fun v => v.category).sum ≤ 8) (hd : decode cc pc = .ok (.invokestatic index, 3)) (hcl : cells + mc ≤ R.cells ∧ slots + ms ≤ R.slots) (hc1 : cells + mc ≤ MC) (hs1 : slots + ms ≤ MS) : hv_G p l e R s m args below meth c nL D N a X cells slots (hv_XQ D N a X below args s none σ1 MC MS) σ pc lv st := by
  refine g_xthr (arr := (As : List Value).toArray) CT (rest := rest) (fun H locs ls hP hD hS hl => ?_) hc1 hs1
  exact vx_runS CT.1.1 (hM H.size) cw ⟨hv_blindT, hv_ptOf CT hP hD hS⟩ rfl hn hl.1 hst (lv_room hroom) hd hcl
theorem g_xvret (CT : hv_CT p s m args meth c cc nL Ts own D tys N a)  {MC MS : Nat} (hr : meth.sig.returnType = none) (hd : decode cc pc = .ok (.return_, 1)) (h1 : cells ≤ MC) (h2 : slots ≤ MS) : hv_G p l e R s m args below meth c nL D N a X cells slots (hv_XQ D N a X below args s (some none) σ MC MS) σ pc lv [] := by
  intro H locs ls hP hD hS hl
  refine vx_ret (W.widen h1 h2 ?_)
  exact W.vret CT.1.1.1 CT.1.1.2.1 hr (fun t ht hW => ⟨⟨_, rfl, rfl⟩, by rw [ht]; exact hP, hS.F ht⟩) hS.2.2 hd CT.1.2.2
theorem g_xiret (CT : hv_CT p s m args meth c cc nL Ts own D tys N a) {x : Int32} {MC MS : Nat} (hr : meth.sig.returnType = some .int) (hd : decode cc pc = .ok (.ireturn, 1)) (h1 : cells ≤ MC) (h2 : slots ≤ MS) : hv_G p l e R s m args below meth c nL D N a X cells slots (hv_XQ D N a X below args s (some (some (.int x))) σ MC MS) σ pc lv [.int x] := by
  intro H locs ls hP hD hS hl
  refine vx_ret (W.widen h1 h2 ?_)
  exact W.iret (v := x) CT.1.1.1 CT.1.1.2.1 hr (fun t ht hW => ⟨⟨_, rfl, rfl⟩, by rw [ht]; exact hP, hS.F ht⟩) hS.2.2 hd CT.1.2.2
theorem g_xlret (CT : hv_CT p s m args meth c cc nL Ts own D tys N a) {x : Int64} {MC MS : Nat} (hr : meth.sig.returnType = some .long) (hd : decode cc pc = .ok (.lreturn, 1)) (h1 : cells ≤ MC) (h2 : slots ≤ MS) : hv_G p l e R s m args below meth c nL D N a X cells slots (hv_XQ D N a X below args s (some (some (.long x))) σ MC MS) σ pc lv [.long x] := by
  intro H locs ls hP hD hS hl
  refine vx_ret (W.widen h1 h2 ?_)
  exact W.lret (v := x) CT.1.1.1 CT.1.1.2.1 hr (fun t ht hW => ⟨⟨_, rfl, rfl⟩, by rw [ht]; exact hP, hS.F ht⟩) hS.2.2 hd CT.1.2.2
/-- throw new NoSuchElementException() -/
theorem g_throw (CT : hv_CT p s m args meth c cc nL Ts RX7 D tys N a) {MC MS : Nat} (hflag : l.stackTraces = false) (hk : Cond.classLink RX7 150 hv_nse ∈ Ts) (hini : Cond.initialized hv_nse ∈ Ts) (hat : ∀ w ∈ hv_at.filter goodWord, w ∈ Ts)
    (d0 : decode cc pc = .ok (.new 150, 3)) (d3 : decode cc (pc + 3) = .ok (.dup, 1)) (d4 : decode cc (pc + 4) = .ok (.invokespecial 152, 3)) (d7 : decode cc (pc + 7) = .ok (.athrow, 1))
    (hfr : 5 < R.frames) (hlo : (st.map fun v => v.category).sum + 81 ≤ R.locals) (hrc : cells + 1 ≤ R.cells) (hrs : slots + 6 ≤ R.slots) (h1 : cells + 1 ≤ MC) (h2 : slots + 6 ≤ MS) : hv_G p l e R s m args below meth c nL D N a X cells slots (hv_XQ D N a X below args s none σ MC MS) σ pc lv st := by
  intro H locs ls hP hD hS hl
  have hwk : (Cond.classLink RX7 150 hv_nse).before args s = true := CT.1.1.2.2.2.2 _ hk
  have hwi : (Cond.initialized hv_nse).before args s = true := CT.1.1.2.2.2.2 _ hini
  refine vx_throw0 (ik := 150) (ic := 152) (cls := hv_nse) (names := ["java/lang/RuntimeException", "java/lang/Exception"]) (A := hv_A N a s.heap.size) CT.1.1.1 CT.1.1.2.1 hflag CT.1.1.2.2.2.1 (by decide +kernel) (by decide +kernel) hwk hwi (vx_hat (B := hv_tw) (fun w hw => CT.1.1.2.2.2.2 _ (hat w hw)) (fun w hw => hw) (fun w hw => by
    rcases hv_tw_form w hw with ⟨x, t, rfl⟩ | ⟨x, rfl⟩ <;> exact va_Nw.use rfl (CT.2.1.2.2 _ hw))) (by decide +kernel) CT.2.1.1 CT.2.1.2.1 hS (by rw [CT.1.1.2.2.1]; exact hl.1) d0 d3 d4 d7 (fun x hx => absurd hx (fun h => CT.2.2 x h)) hfr hlo hrc hrs CT.1.2.2 ?_ hS.2.2 h1 h2
  intro t hal hz hk2
  refine ⟨rfl, rfl, hP.kept (fun k q hq => hk2 q.1 ((hP k q hq).lt)), Nat.le_trans hS.1 hz, fun q hq hA => ?_⟩
  rw [hk2 q (Nat.lt_of_lt_of_le hq hS.1)]
  exact hS.2.1 q hq hA
theorem hv_xenter {y : MethodName} {ws ws' : List Cond} {rm : Room} {maxL : Nat} {ret : Option FieldType} {as : List Value} {r : Option (Option Value)} {σ' : hv_St} {own : String} {mc ms : Nat} (hy : plainName y.cls = true) (ho : y.cls = own) (hw : ws = Cond.code y cc maxL ret :: ws') (hlen : (lg_sl as).length ≤ maxL)
    (body : ∀ (p : Program) (e : Env) (s : State) (m : MethodId) (args : Array Value) (below : List Frame) (meth : Method) (c : Code), hv_CT p s m args meth c cc maxL ws own D tys N a → meth.sig.returnType = ret → hv_G p l e (headSpec ws rm).room s m args below meth c maxL D N a X 0 0 (hv_XQ D N a X below args s r σ' mc ms) σ 0 (lv_args 0 as) []) : hv_XM l y ws rm D tys N a X mc ms as σ r σ' := by
  intro sz
  refine vx_ofW (cc := cc) (maxL := maxL) (ret := ret) hy hw ?_
  intro p e s m args below meth c s₁ B hml ht hv
  obtain ⟨rfl, hsz, hP, hK, hD0, hTT⟩ := hv
  subst hsz
  subst ho
  have C : hv_C p s m as.toArray meth c cc maxL ws y.cls D tys := ⟨⟨B.exec, B.bytes, hml, findClass_of_methodNamed B.named, atoms_spec (ws := ws) B.pre⟩, hK, B.notSynchronized⟩
  rw [lg_entry_eq]
  exact body p e s m as.toArray below meth c ⟨C, hTT, ht⟩ B.returns s.heap [] _ hP (hv_D_self hD0) va_S.rf (lv_entry as hlen)
end HVT
