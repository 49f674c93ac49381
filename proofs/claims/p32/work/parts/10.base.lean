abbrev vwCl : List vw_C := [(RX0, TX0, 9), (RX1, TX1, 5), (RX2, TX2, 2), (RX3, TX3, 10), (RX4, TX4, 4), (RX5, TX5, 7), (RX6, TX6, 5), (RX7, TX7, 7), (RX8, TX8, 1), (RX9, TX9, 10)]
/-! the walk's own words: a world laid out by a state, the judgement hv_G, a row for each instruction -/
abbrev hv_X : Type := Nat → (Nat → Int32) → (Nat → Int64) → va_E
def hv_W (N : Nat) (a : Nat → Nat) (X : hv_X) (σ : hv_St) : va_W := (List.range N).map (fun j => (a j, X j (σ.1 j) (σ.2 j)))
theorem hv_W_get {N : Nat} {a : Nat → Nat} {X : hv_X} {σ : hv_St} {i : Nat} (h : i < N) : (hv_W N a X σ)[i]? = some (a i, X i (σ.1 i) (σ.2 i)) := by
  simp [hv_W, h]
theorem hv_W_at {N : Nat} {a : Nat → Nat} {X : hv_X} {σ : hv_St} {k : Nat} {q : Nat × va_E} (h : (hv_W N a X σ)[k]? = some q) : k < N ∧ q = (a k, X k (σ.1 k) (σ.2 k)) := by
  have hk : k < N := by
    have := (List.getElem?_eq_some_iff.mp h).1
    simpa [hv_W] using this
  exact ⟨hk, Option.some.inj (h.symm.trans (hv_W_get hk))⟩
theorem hv_W_set {N : Nat} {a : Nat → Nat} {X : hv_X} {σ σ' : hv_St} {i : Nat} {E : va_E} (hE : E = X i (σ'.1 i) (σ'.2 i)) (ho : ∀ j, j ≠ i → σ'.1 j = σ.1 j ∧ σ'.2 j = σ.2 j) : (hv_W N a X σ).set i (a i, E) = hv_W N a X σ' := by
  subst hE
  apply List.ext_getElem?
  intro j
  by_cases hij : i = j
  · subst hij
    by_cases hl : i < N
    · rw [List.getElem?_set_self (by simpa [hv_W] using hl), hv_W_get hl]
    · rw [List.getElem?_eq_none (by simp [hv_W]; omega), List.getElem?_eq_none (by simp [hv_W]; omega)]
  · rw [List.getElem?_set_ne hij]
    by_cases hl : j < N
    · rw [hv_W_get hl, hv_W_get hl, (ho j (Ne.symm hij)).1, (ho j (Ne.symm hij)).2]
    · rw [List.getElem?_eq_none (by simp [hv_W]; omega), List.getElem?_eq_none (by simp [hv_W]; omega)]
def hv_A (N : Nat) (a : Nat → Nat) (sz : Nat) : Nat → Prop := fun q => (∃ j, j < N ∧ q = a j) ∨ sz ≤ q
theorem hv_D_of {A : Nat → Prop} {N : Nat} {a : Nat → Nat} {X : hv_X} {σ σ' : hv_St} (h : va_D A (hv_W N a X σ)) : va_D A (hv_W N a X σ') := by
  refine ⟨fun i j p q hi hj hpq => ?_, fun k q hk => ?_⟩
  · obtain ⟨li, rfl⟩ := hv_W_at hi
    obtain ⟨lj, rfl⟩ := hv_W_at hj
    exact h.1 i j _ _ (hv_W_get li) (hv_W_get lj) hpq
  · obtain ⟨lk, rfl⟩ := hv_W_at hk
    exact h.2 k (a k, X k (σ.1 k) (σ.2 k)) (hv_W_get lk)
theorem hv_D_self {A : Nat → Prop} {N : Nat} {a : Nat → Nat} {X : hv_X} {σ : hv_St} {sz : Nat} (h : va_D A (hv_W N a X σ)) : va_D (hv_A N a sz) (hv_W N a X σ) :=
  ⟨h.1, fun k q hk => by
    obtain ⟨lk, rfl⟩ := hv_W_at hk
    exact Or.inl ⟨k, lk, rfl⟩⟩
/-- the nest mates' links, of the tables -/
def hv_ns : List Cond := [.methodLinkNest RX7 11 yX3_init RX7, .methodLinkNest RX7 50 yX6_init RX7, .methodLinkNest RX7 57 yX2_init RX7, .methodLinkNest RX3 48 yX7_has RX7, .methodLinkNest RX4 62 yX7_has RX7, .methodLinkNest RX0 59 yX7_has RX7, .methodLinkNest RX0 99 yX7_quotient RX7, .methodLinkNest RX5 45 yX7_has RX7, .methodLinkNest RX5 100 yX7_quotient RX7, .methodLinkNest RX2 21 yX7_quotient RX7, .methodLinkNest RL 40 yX9_init RL, .fieldLinkNest RL 51 "PinFrameLaw$Told" "x" "[I" RL, .fieldLinkNest RL 55 "PinFrameLaw$Told" "y" "[I" RL, .fieldLinkNest RL 66 "PinFrameLaw$Told" "held" "[I" RL, .fieldLinkNest RL 91 "PinFrameLaw$Told" "load" "[I" RL, .fieldLinkNest RL 75 "PinFrameLaw$Told" "one" "[I" RL, .fieldLinkNest RL 78 "PinFrameLaw$Told" "other" "[I" RL, .fieldLinkNest RL 85 "PinFrameLaw$Told" "give" "[I" RL, .fieldLinkNest RL 47 "PinFrameLaw$Told" "pins" "I" RL, .fieldLinkNest RL 72 "PinFrameLaw$Told" "bars" "I" RL, .fieldLinkNest RL 88 "PinFrameLaw$Told" "on" "I" RL]
theorem hv_ns_form : ∀ w ∈ hv_ns, (∃ (x : String) (i : Nat) (y : MethodName) (h : String), w = .methodLinkNest x i y h) ∨ ∃ (x : String) (i : Nat) (b n d h : String), w = .fieldLinkNest x i b n d h := by
  intro w hw
  simp only [hv_ns, List.mem_cons, List.not_mem_nil, or_false] at hw
  rcases hw with rfl | rfl | rfl | rfl | rfl | rfl | rfl | rfl | rfl | rfl | rfl | rfl | rfl | rfl | rfl | rfl | rfl | rfl | rfl | rfl | rfl <;> first | exact Or.inl ⟨_, _, _, _, rfl⟩ | exact Or.inr ⟨_, _, _, _, _, _, rfl⟩
def hv_K (D : va_G) (tys : List (ClassId × FieldType)) (U : State) : Prop := va_K D vwCl tys U ∧ ∀ w ∈ hv_ns, va_Nw w U
theorem hv_K.warm {D : va_G} {tys : List (ClassId × FieldType)} {s U : State} (hW : s.WarmedH U.vm) (h : hv_K D tys s) : hv_K D tys U := ⟨va_K.moved hW.alike h.1, fun w hw => by
  rcases hv_ns_form w hw with ⟨x, i, y, q, rfl⟩ | ⟨x, i, b, n, d, q, rfl⟩
  · exact va_Nw.warmM hW (h.2 _ hw)
  · exact va_Nw.warmF hW (h.2 _ hw)⟩
theorem hv_K.same {D : va_G} {tys : List (ClassId × FieldType)} {s U : State} (hW : s.vm = U.vm) (h : hv_K D tys s) : hv_K D tys U := ⟨va_K.moved (by rw [hW]; exact Vm.Alike.refl U.vm) h.1, fun w hw => by
  rcases hv_ns_form w hw with ⟨x, i, y, q, rfl⟩ | ⟨x, i, b, n, d, q, rfl⟩
  · exact va_Nw.same rfl hW (h.2 _ hw)
  · exact va_Nw.same rfl hW (h.2 _ hw)⟩
/-- what stands through a method's body -/
def hv_C (p : Program) (s : State) (m : MethodId) (args : Array Value) (meth : Method) (c : Code) (cc : ByteArray) (nL : Nat) (Ts : List Cond) (own : String) (D : va_G) (tys : List (ClassId × FieldType)) : Prop :=
  CallFix p m c cc nL s args Ts own ∧ hv_K D tys s ∧ meth.locks = false
def hv_G (p : Program) (l : Launch) (e : Env) (R : Room) (s : State) (m : MethodId) (args : Array Value) (below : List Frame) (meth : Method) (c : Code) (nL : Nat) (D : va_G) (N : Nat) (a : Nat → Nat) (X : hv_X) (cells slots : Nat) (Q : State → Prop) (σ : hv_St) (pc : Nat) (lv : List (Nat × Value)) (st : List Value) : Prop :=
  ∀ (H : Heap) (locs : List Loc) (ls : Array Slot), va_P D vwCl (hv_W N a X σ) H → va_D (hv_A N a s.heap.size) (hv_W N a X σ) → va_S (hv_A N a s.heap.size) s.heap H locs → lv_has ls nL lv → W p l e R s m args below meth c H locs cells slots Q (F0 m pc ls st)
def hv_Pc (D : va_G) (tys : List (ClassId × FieldType)) (N : Nat) (a : Nat → Nat) (X : hv_X) (σ : hv_St) (sz : Nat) (as : List Value) : Array Value → State → Prop := va_Pc as (fun U => U.heap.size = sz ∧ va_P D vwCl (hv_W N a X σ) U.heap ∧ hv_K D tys U ∧ va_D (fun _ => True) (hv_W N a X σ))
def hv_Qc (D : va_G) (N : Nat) (a : Nat → Nat) (X : hv_X) (σ' : hv_St) (v : Option Value) (A : Nat → Prop) : Array Value → State → Outcome → State → Prop := fun _ st oc t => oc = .returned v ∧ va_P D vwCl (hv_W N a X σ') t.heap ∧ va_F A st t
/-- a method's contract: at the state σ it returns v, the state is σ' -/
abbrev hv_M (l : Launch) (y : MethodName) (ws : List Cond) (rm : Room) (D : va_G) (tys : List (ClassId × FieldType)) (N : Nat) (a : Nat → Nat) (X : hv_X) (as : List Value) (σ : hv_St) (v : Option Value) (σ' : hv_St) : Prop :=
  ∀ sz : Nat, Met l y ws rm (hv_Pc D tys N a X σ sz as) (hv_Qc D N a X σ' v (hv_A N a sz)) 0 0 (hv_A N a sz)
theorem hv_blind {D : va_G} {tys : List (ClassId × FieldType)} {N : Nat} {a : Nat → Nat} {X : hv_X} {σ : hv_St} {sz : Nat} {as : List Value} : FrameBlind (hv_Pc D tys N a X σ sz as) := fun b U g mk q => ⟨q.1, q.2.1, q.2.2.1, hv_K.same (s := U) (U := U.calling g mk b) rfl q.2.2.2.1, q.2.2.2.2⟩
section HV
variable {p : Program} {l : Launch} {e : Env} {R : Room} {s : State} {m : MethodId} {args : Array Value} {below : List Frame} {meth : Method} {c : Code} {cc : ByteArray} {nL : Nat} {Ts : List Cond} {own : String} {D : va_G} {tys : List (ClassId × FieldType)} {N : Nat} {a : Nat → Nat} {X : hv_X} {cells slots : Nat} {Q : State → Prop} {σ : hv_St} {pc : Nat} {lv : List (Nat × Value)} {st : List Value}

theorem g_iconst (C : hv_C p s m args meth c cc nL Ts own D tys) {n : Int} {v : Int32} (hd : decode cc pc = .ok (.iconst n, 1)) (hv : Int32.ofInt n = v) (kk : hv_G p l e R s m args below meth c nL D N a X cells slots Q σ (pc + 1) lv (.int v :: st)) : hv_G p l e R s m args below meth c nL D N a X cells slots Q σ (pc) lv (st) := by
  intro H locs ls hP hD hS hl
  exact lv_iconst C.1.1 C.1.2.1 hd hv (kk H locs ls hP hD hS hl)
theorem g_bipush (C : hv_C p s m args meth c cc nL Ts own D tys) {n : Int} {v : Int32} (hd : decode cc pc = .ok (.bipush n, 2)) (hv : (Int8.ofInt n).toInt32 = v) (kk : hv_G p l e R s m args below meth c nL D N a X cells slots Q σ (pc + 2) lv (.int v :: st)) : hv_G p l e R s m args below meth c nL D N a X cells slots Q σ (pc) lv (st) := by
  intro H locs ls hP hD hS hl
  exact lv_bipush C.1.1 C.1.2.1 hd hv (kk H locs ls hP hD hS hl)
theorem g_sipush (C : hv_C p s m args meth c cc nL Ts own D tys) {n : Int} {v : Int32} (hd : decode cc pc = .ok (.sipush n, 3)) (hv : (Int16.ofInt n).toInt32 = v) (kk : hv_G p l e R s m args below meth c nL D N a X cells slots Q σ (pc + 3) lv (.int v :: st)) : hv_G p l e R s m args below meth c nL D N a X cells slots Q σ (pc) lv (st) := by
  intro H locs ls hP hD hS hl
  exact lv_sipush C.1.1 C.1.2.1 hd hv (kk H locs ls hP hD hS hl)
theorem g_lconst (C : hv_C p s m args meth c cc nL Ts own D tys) {n : Fin 2} {v : Int64} (hd : decode cc pc = .ok (.lconst n, 1)) (hv : Int64.ofNat (n : Nat) = v) (kk : hv_G p l e R s m args below meth c nL D N a X cells slots Q σ (pc + 1) lv (.long v :: st)) : hv_G p l e R s m args below meth c nL D N a X cells slots Q σ (pc) lv (st) := by
  intro H locs ls hP hD hS hl
  exact lv_lconst C.1.1 C.1.2.1 hd hv (kk H locs ls hP hD hS hl)
theorem g_ldc2 (C : hv_C p s m args meth c cc nL Ts own D tys) {index : Nat} {v : Int64} (hc : Cond.constantLong own index v ∈ Ts) (hd : decode cc pc = .ok (.ldc2_w index, 3)) (kk : hv_G p l e R s m args below meth c nL D N a X cells slots Q σ (pc + 3) lv (.long v :: st)) : hv_G p l e R s m args below meth c nL D N a X cells slots Q σ (pc) lv (st) := by
  intro H locs ls hP hD hS hl
  exact lv_ldc2 C.1.1 C.1.2.1 C.1.2.2.2.1 (C.1.2.2.2.2 _ hc) hd (kk H locs ls hP hD hS hl)
theorem g_ldcw (C : hv_C p s m args meth c cc nL Ts own D tys) {index : Nat} {v : Int32} (hc : Cond.constant own index v ∈ Ts) (hd : decode cc pc = .ok (.ldc_w index, 3)) (kk : hv_G p l e R s m args below meth c nL D N a X cells slots Q σ (pc + 3) lv (.int v :: st)) : hv_G p l e R s m args below meth c nL D N a X cells slots Q σ (pc) lv (st) := by
  intro H locs ls hP hD hS hl
  exact lv_ldcw C.1.1 C.1.2.1 C.1.2.2.2.1 (C.1.2.2.2.2 _ hc) hd (kk H locs ls hP hD hS hl)
theorem g_iload_n (C : hv_C p s m args meth c cc nL Ts own D tys) {k : Fin 4} {i : Nat} (pl : Nat) {x : Int32} (hd : decode cc pc = .ok (.iload_n k, 1)) (hi : (k : Nat) = i) (hk : lv[pl]? = some (i, .int x)) (kk : hv_G p l e R s m args below meth c nL D N a X cells slots Q σ (pc + 1) lv (.int x :: st)) : hv_G p l e R s m args below meth c nL D N a X cells slots Q σ (pc) lv (st) := by
  intro H locs ls hP hD hS hl
  exact lv_iload_n C.1.1 C.1.2.1 hd hi (lv_at hl pl hk) (kk H locs ls hP hD hS hl)
theorem g_iload (C : hv_C p s m args meth c cc nL Ts own D tys) {i : Nat} (pl : Nat) {x : Int32} (hd : decode cc pc = .ok (.iload i, 2)) (hk : lv[pl]? = some (i, .int x)) (kk : hv_G p l e R s m args below meth c nL D N a X cells slots Q σ (pc + 2) lv (.int x :: st)) : hv_G p l e R s m args below meth c nL D N a X cells slots Q σ (pc) lv (st) := by
  intro H locs ls hP hD hS hl
  exact lv_iload C.1.1 C.1.2.1 hd (lv_at hl pl hk) (kk H locs ls hP hD hS hl)
theorem g_lload_n (C : hv_C p s m args meth c cc nL Ts own D tys) {k : Fin 4} {i : Nat} (pl : Nat) {x : Int64} (hd : decode cc pc = .ok (.lload_n k, 1)) (hi : (k : Nat) = i) (hk : lv[pl]? = some (i, .long x)) (kk : hv_G p l e R s m args below meth c nL D N a X cells slots Q σ (pc + 1) lv (.long x :: st)) : hv_G p l e R s m args below meth c nL D N a X cells slots Q σ (pc) lv (st) := by
  intro H locs ls hP hD hS hl
  exact lv_lload_n C.1.1 C.1.2.1 hd hi (lv_at hl pl hk) (kk H locs ls hP hD hS hl)
theorem g_lload (C : hv_C p s m args meth c cc nL Ts own D tys) {i : Nat} (pl : Nat) {x : Int64} (hd : decode cc pc = .ok (.lload i, 2)) (hk : lv[pl]? = some (i, .long x)) (kk : hv_G p l e R s m args below meth c nL D N a X cells slots Q σ (pc + 2) lv (.long x :: st)) : hv_G p l e R s m args below meth c nL D N a X cells slots Q σ (pc) lv (st) := by
  intro H locs ls hP hD hS hl
  exact lv_lload C.1.1 C.1.2.1 hd (lv_at hl pl hk) (kk H locs ls hP hD hS hl)
theorem g_aload_n (C : hv_C p s m args meth c cc nL Ts own D tys) {k : Fin 4} {i : Nat} (pl : Nat) {x : Nat} (hd : decode cc pc = .ok (.aload_n k, 1)) (hi : (k : Nat) = i) (hk : lv[pl]? = some (i, .ref x)) (kk : hv_G p l e R s m args below meth c nL D N a X cells slots Q σ (pc + 1) lv (.ref x :: st)) : hv_G p l e R s m args below meth c nL D N a X cells slots Q σ (pc) lv (st) := by
  intro H locs ls hP hD hS hl
  exact lv_aload_n C.1.1 C.1.2.1 hd hi (lv_at hl pl hk) (kk H locs ls hP hD hS hl)
theorem g_aload (C : hv_C p s m args meth c cc nL Ts own D tys) {i : Nat} (pl : Nat) {x : Nat} (hd : decode cc pc = .ok (.aload i, 2)) (hk : lv[pl]? = some (i, .ref x)) (kk : hv_G p l e R s m args below meth c nL D N a X cells slots Q σ (pc + 2) lv (.ref x :: st)) : hv_G p l e R s m args below meth c nL D N a X cells slots Q σ (pc) lv (st) := by
  intro H locs ls hP hD hS hl
  exact lv_aload C.1.1 C.1.2.1 hd (lv_at hl pl hk) (kk H locs ls hP hD hS hl)
theorem g_istore_n (C : hv_C p s m args meth c cc nL Ts own D tys) {k : Fin 4} {i : Nat} {v x : Int32} {lv' : List (Nat × Value)} (ev : x = v) (hd : decode cc pc = .ok (.istore_n k, 1)) (hi : (k : Nat) = i) (hn : i < nL) (hf : (i, Value.int x) :: lv.filter (fun q => !(q.1 == i) && !(q.1 + 1 == i && q.2.category == 2)) = lv') (kk : hv_G p l e R s m args below meth c nL D N a X cells slots Q σ (pc + 1) lv' (st)) : hv_G p l e R s m args below meth c nL D N a X cells slots Q σ (pc) lv (.int v :: st) := by
  subst ev
  intro H locs ls hP hD hS hl
  exact lv_istore_n C.1.1 C.1.2.1 hd hi hl hn hf (fun ls' hl' => kk H locs ls' hP hD hS hl')
theorem g_istore (C : hv_C p s m args meth c cc nL Ts own D tys) {i : Nat} {v x : Int32} {lv' : List (Nat × Value)} (ev : x = v) (hd : decode cc pc = .ok (.istore i, 2)) (hn : i < nL) (hf : (i, Value.int x) :: lv.filter (fun q => !(q.1 == i) && !(q.1 + 1 == i && q.2.category == 2)) = lv') (kk : hv_G p l e R s m args below meth c nL D N a X cells slots Q σ (pc + 2) lv' (st)) : hv_G p l e R s m args below meth c nL D N a X cells slots Q σ (pc) lv (.int v :: st) := by
  subst ev
  intro H locs ls hP hD hS hl
  exact lv_istore C.1.1 C.1.2.1 hd hl hn hf (fun ls' hl' => kk H locs ls' hP hD hS hl')
theorem g_lstore_n (C : hv_C p s m args meth c cc nL Ts own D tys) {k : Fin 4} {i : Nat} {v x : Int64} {lv' : List (Nat × Value)} (ev : x = v) (hd : decode cc pc = .ok (.lstore_n k, 1)) (hi : (k : Nat) = i) (hn : i + 1 < nL) (hf : (i, Value.long x) :: lv.filter (fun q => !(q.1 == i) && (!(q.1 == i + 1) && !(q.1 + 1 == i && q.2.category == 2))) = lv') (kk : hv_G p l e R s m args below meth c nL D N a X cells slots Q σ (pc + 1) lv' (st)) : hv_G p l e R s m args below meth c nL D N a X cells slots Q σ (pc) lv (.long v :: st) := by
  subst ev
  intro H locs ls hP hD hS hl
  exact lv_lstore_n C.1.1 C.1.2.1 hd hi hl hn hf (fun ls' hl' => kk H locs ls' hP hD hS hl')
theorem g_lstore (C : hv_C p s m args meth c cc nL Ts own D tys) {i : Nat} {v x : Int64} {lv' : List (Nat × Value)} (ev : x = v) (hd : decode cc pc = .ok (.lstore i, 2)) (hn : i + 1 < nL) (hf : (i, Value.long x) :: lv.filter (fun q => !(q.1 == i) && (!(q.1 == i + 1) && !(q.1 + 1 == i && q.2.category == 2))) = lv') (kk : hv_G p l e R s m args below meth c nL D N a X cells slots Q σ (pc + 2) lv' (st)) : hv_G p l e R s m args below meth c nL D N a X cells slots Q σ (pc) lv (.long v :: st) := by
  subst ev
  intro H locs ls hP hD hS hl
  exact lv_lstore C.1.1 C.1.2.1 hd hl hn hf (fun ls' hl' => kk H locs ls' hP hD hS hl')
theorem g_astore_n (C : hv_C p s m args meth c cc nL Ts own D tys) {k : Fin 4} {i : Nat} {v x : Nat} {lv' : List (Nat × Value)} (ev : x = v) (hd : decode cc pc = .ok (.astore_n k, 1)) (hi : (k : Nat) = i) (hn : i < nL) (hf : (i, Value.ref x) :: lv.filter (fun q => !(q.1 == i) && !(q.1 + 1 == i && q.2.category == 2)) = lv') (kk : hv_G p l e R s m args below meth c nL D N a X cells slots Q σ (pc + 1) lv' (st)) : hv_G p l e R s m args below meth c nL D N a X cells slots Q σ (pc) lv (.ref v :: st) := by
  subst ev
  intro H locs ls hP hD hS hl
  exact lv_astore_n C.1.1 C.1.2.1 hd hi hl hn hf (fun ls' hl' => kk H locs ls' hP hD hS hl')
theorem g_astore (C : hv_C p s m args meth c cc nL Ts own D tys) {i : Nat} {v x : Nat} {lv' : List (Nat × Value)} (ev : x = v) (hd : decode cc pc = .ok (.astore i, 2)) (hn : i < nL) (hf : (i, Value.ref x) :: lv.filter (fun q => !(q.1 == i) && !(q.1 + 1 == i && q.2.category == 2)) = lv') (kk : hv_G p l e R s m args below meth c nL D N a X cells slots Q σ (pc + 2) lv' (st)) : hv_G p l e R s m args below meth c nL D N a X cells slots Q σ (pc) lv (.ref v :: st) := by
  subst ev
  intro H locs ls hP hD hS hl
  exact lv_astore C.1.1 C.1.2.1 hd hl hn hf (fun ls' hl' => kk H locs ls' hP hD hS hl')
theorem g_iinc (C : hv_C p s m args meth c cc nL Ts own D tys) {i : Nat} (k : Nat) {n : Int} {x v : Int32} {lv' : List (Nat × Value)} (hd : decode cc pc = .ok (.iinc i n, 3)) (hk : lv[k]? = some (i, .int x)) (hv : x + Int32.ofInt n = v) (hn : i < nL) (hf : (i, Value.int v) :: lv.filter (fun q => !(q.1 == i) && !(q.1 + 1 == i && q.2.category == 2)) = lv') (kk : hv_G p l e R s m args below meth c nL D N a X cells slots Q σ (pc + 3) lv' (st)) : hv_G p l e R s m args below meth c nL D N a X cells slots Q σ (pc) lv (st) := by
  intro H locs ls hP hD hS hl
  exact lv_iinc C.1.1 C.1.2.1 hd hl hk hv hn hf (fun ls' hl' => kk H locs ls' hP hD hS hl')
theorem g_iadd (C : hv_C p s m args meth c cc nL Ts own D tys) {x y : Int32} (hd : decode cc pc = .ok (.iadd, 1)) (kk : hv_G p l e R s m args below meth c nL D N a X cells slots Q σ (pc + 1) lv (.int (x + y) :: st)) : hv_G p l e R s m args below meth c nL D N a X cells slots Q σ (pc) lv (.int y :: .int x :: st) := by
  intro H locs ls hP hD hS hl
  exact lv_iadd C.1.1 C.1.2.1 hd (kk H locs ls hP hD hS hl)
theorem g_isub (C : hv_C p s m args meth c cc nL Ts own D tys) {x y : Int32} (hd : decode cc pc = .ok (.isub, 1)) (kk : hv_G p l e R s m args below meth c nL D N a X cells slots Q σ (pc + 1) lv (.int (x - y) :: st)) : hv_G p l e R s m args below meth c nL D N a X cells slots Q σ (pc) lv (.int y :: .int x :: st) := by
  intro H locs ls hP hD hS hl
  exact lv_isub C.1.1 C.1.2.1 hd (kk H locs ls hP hD hS hl)
theorem g_imul (C : hv_C p s m args meth c cc nL Ts own D tys) {x y : Int32} (hd : decode cc pc = .ok (.imul, 1)) (kk : hv_G p l e R s m args below meth c nL D N a X cells slots Q σ (pc + 1) lv (.int (x * y) :: st)) : hv_G p l e R s m args below meth c nL D N a X cells slots Q σ (pc) lv (.int y :: .int x :: st) := by
  intro H locs ls hP hD hS hl
  exact lv_imul C.1.1 C.1.2.1 hd (kk H locs ls hP hD hS hl)
theorem g_iand (C : hv_C p s m args meth c cc nL Ts own D tys) {x y : Int32} (hd : decode cc pc = .ok (.iand, 1)) (kk : hv_G p l e R s m args below meth c nL D N a X cells slots Q σ (pc + 1) lv (.int (x &&& y) :: st)) : hv_G p l e R s m args below meth c nL D N a X cells slots Q σ (pc) lv (.int y :: .int x :: st) := by
  intro H locs ls hP hD hS hl
  exact lv_iand C.1.1 C.1.2.1 hd (kk H locs ls hP hD hS hl)
theorem g_ior (C : hv_C p s m args meth c cc nL Ts own D tys) {x y : Int32} (hd : decode cc pc = .ok (.ior, 1)) (kk : hv_G p l e R s m args below meth c nL D N a X cells slots Q σ (pc + 1) lv (.int (x ||| y) :: st)) : hv_G p l e R s m args below meth c nL D N a X cells slots Q σ (pc) lv (.int y :: .int x :: st) := by
  intro H locs ls hP hD hS hl
  exact lv_ior C.1.1 C.1.2.1 hd (kk H locs ls hP hD hS hl)
theorem g_ixor (C : hv_C p s m args meth c cc nL Ts own D tys) {x y : Int32} (hd : decode cc pc = .ok (.ixor, 1)) (kk : hv_G p l e R s m args below meth c nL D N a X cells slots Q σ (pc + 1) lv (.int (x ^^^ y) :: st)) : hv_G p l e R s m args below meth c nL D N a X cells slots Q σ (pc) lv (.int y :: .int x :: st) := by
  intro H locs ls hP hD hS hl
  exact lv_ixor C.1.1 C.1.2.1 hd (kk H locs ls hP hD hS hl)
theorem g_ishl (C : hv_C p s m args meth c cc nL Ts own D tys) {x y : Int32} (hd : decode cc pc = .ok (.ishl, 1)) (kk : hv_G p l e R s m args below meth c nL D N a X cells slots Q σ (pc + 1) lv (.int (x <<< (y &&& 31)) :: st)) : hv_G p l e R s m args below meth c nL D N a X cells slots Q σ (pc) lv (.int y :: .int x :: st) := by
  intro H locs ls hP hD hS hl
  exact lv_ishl C.1.1 C.1.2.1 hd (kk H locs ls hP hD hS hl)
theorem g_ishr (C : hv_C p s m args meth c cc nL Ts own D tys) {x y : Int32} (hd : decode cc pc = .ok (.ishr, 1)) (kk : hv_G p l e R s m args below meth c nL D N a X cells slots Q σ (pc + 1) lv (.int (x >>> (y &&& 31)) :: st)) : hv_G p l e R s m args below meth c nL D N a X cells slots Q σ (pc) lv (.int y :: .int x :: st) := by
  intro H locs ls hP hD hS hl
  exact lv_ishr C.1.1 C.1.2.1 hd (kk H locs ls hP hD hS hl)
theorem g_idiv (C : hv_C p s m args meth c cc nL Ts own D tys) {x y : Int32} (hd : decode cc pc = .ok (.idiv, 1)) (hne : ¬ y = 0) (kk : hv_G p l e R s m args below meth c nL D N a X cells slots Q σ (pc + 1) lv (.int (x / y) :: st)) : hv_G p l e R s m args below meth c nL D N a X cells slots Q σ (pc) lv (.int y :: .int x :: st) := by
  intro H locs ls hP hD hS hl
  exact lv_idiv C.1.1 C.1.2.1 hd hne (kk H locs ls hP hD hS hl)
theorem g_irem (C : hv_C p s m args meth c cc nL Ts own D tys) {x y : Int32} (hd : decode cc pc = .ok (.irem, 1)) (hne : ¬ y = 0) (kk : hv_G p l e R s m args below meth c nL D N a X cells slots Q σ (pc + 1) lv (.int (x - x / y * y) :: st)) : hv_G p l e R s m args below meth c nL D N a X cells slots Q σ (pc) lv (.int y :: .int x :: st) := by
  intro H locs ls hP hD hS hl
  exact lv_irem C.1.1 C.1.2.1 hd hne (kk H locs ls hP hD hS hl)
theorem g_ldiv (C : hv_C p s m args meth c cc nL Ts own D tys) {x y : Int64} (hd : decode cc pc = .ok (.ldiv, 1)) (hne : ¬ y = 0) (kk : hv_G p l e R s m args below meth c nL D N a X cells slots Q σ (pc + 1) lv (.long (x / y) :: st)) : hv_G p l e R s m args below meth c nL D N a X cells slots Q σ (pc) lv (.long y :: .long x :: st) := by
  intro H locs ls hP hD hS hl
  exact lv_ldiv C.1.1 C.1.2.1 hd hne (kk H locs ls hP hD hS hl)
theorem g_lrem (C : hv_C p s m args meth c cc nL Ts own D tys) {x y : Int64} (hd : decode cc pc = .ok (.lrem, 1)) (hne : ¬ y = 0) (kk : hv_G p l e R s m args below meth c nL D N a X cells slots Q σ (pc + 1) lv (.long (x - x / y * y) :: st)) : hv_G p l e R s m args below meth c nL D N a X cells slots Q σ (pc) lv (.long y :: .long x :: st) := by
  intro H locs ls hP hD hS hl
  exact lv_lrem C.1.1 C.1.2.1 hd hne (kk H locs ls hP hD hS hl)
theorem g_ladd (C : hv_C p s m args meth c cc nL Ts own D tys) {x y : Int64} (hd : decode cc pc = .ok (.ladd, 1)) (kk : hv_G p l e R s m args below meth c nL D N a X cells slots Q σ (pc + 1) lv (.long (x + y) :: st)) : hv_G p l e R s m args below meth c nL D N a X cells slots Q σ (pc) lv (.long y :: .long x :: st) := by
  intro H locs ls hP hD hS hl
  exact lv_ladd C.1.1 C.1.2.1 hd (kk H locs ls hP hD hS hl)
theorem g_lsub (C : hv_C p s m args meth c cc nL Ts own D tys) {x y : Int64} (hd : decode cc pc = .ok (.lsub, 1)) (kk : hv_G p l e R s m args below meth c nL D N a X cells slots Q σ (pc + 1) lv (.long (x - y) :: st)) : hv_G p l e R s m args below meth c nL D N a X cells slots Q σ (pc) lv (.long y :: .long x :: st) := by
  intro H locs ls hP hD hS hl
  exact lv_lsub C.1.1 C.1.2.1 hd (kk H locs ls hP hD hS hl)
theorem g_lmul (C : hv_C p s m args meth c cc nL Ts own D tys) {x y : Int64} (hd : decode cc pc = .ok (.lmul, 1)) (kk : hv_G p l e R s m args below meth c nL D N a X cells slots Q σ (pc + 1) lv (.long (x * y) :: st)) : hv_G p l e R s m args below meth c nL D N a X cells slots Q σ (pc) lv (.long y :: .long x :: st) := by
  intro H locs ls hP hD hS hl
  exact lv_lmul C.1.1 C.1.2.1 hd (kk H locs ls hP hD hS hl)
theorem g_ineg (C : hv_C p s m args meth c cc nL Ts own D tys) {x : Int32} (hd : decode cc pc = .ok (.ineg, 1)) (kk : hv_G p l e R s m args below meth c nL D N a X cells slots Q σ (pc + 1) lv (.int (-x) :: st)) : hv_G p l e R s m args below meth c nL D N a X cells slots Q σ (pc) lv (.int x :: st) := by
  intro H locs ls hP hD hS hl
  exact lv_ineg C.1.1 C.1.2.1 hd (kk H locs ls hP hD hS hl)
theorem g_lneg (C : hv_C p s m args meth c cc nL Ts own D tys) {x : Int64} (hd : decode cc pc = .ok (.lneg, 1)) (kk : hv_G p l e R s m args below meth c nL D N a X cells slots Q σ (pc + 1) lv (.long (-x) :: st)) : hv_G p l e R s m args below meth c nL D N a X cells slots Q σ (pc) lv (.long x :: st) := by
  intro H locs ls hP hD hS hl
  exact lv_lneg C.1.1 C.1.2.1 hd (kk H locs ls hP hD hS hl)
theorem g_i2l (C : hv_C p s m args meth c cc nL Ts own D tys) {x : Int32} (hd : decode cc pc = .ok (.i2l, 1)) (kk : hv_G p l e R s m args below meth c nL D N a X cells slots Q σ (pc + 1) lv (.long x.toInt64 :: st)) : hv_G p l e R s m args below meth c nL D N a X cells slots Q σ (pc) lv (.int x :: st) := by
  intro H locs ls hP hD hS hl
  exact lv_i2l C.1.1 C.1.2.1 hd rfl (kk H locs ls hP hD hS hl)
theorem g_l2i (C : hv_C p s m args meth c cc nL Ts own D tys) {x : Int64} (hd : decode cc pc = .ok (.l2i, 1)) (kk : hv_G p l e R s m args below meth c nL D N a X cells slots Q σ (pc + 1) lv (.int x.toInt32 :: st)) : hv_G p l e R s m args below meth c nL D N a X cells slots Q σ (pc) lv (.long x :: st) := by
  intro H locs ls hP hD hS hl
  exact lv_l2i C.1.1 C.1.2.1 hd rfl (kk H locs ls hP hD hS hl)
theorem g_iushr (C : hv_C p s m args meth c cc nL Ts own D tys) {x y : Int32} (hd : decode cc pc = .ok (.iushr, 1)) (kk : hv_G p l e R s m args below meth c nL D N a X cells slots Q σ (pc + 1) lv (.int ((x.toUInt32 >>> (y.toUInt32 &&& Int32.toUInt32 31)).toInt32) :: st)) : hv_G p l e R s m args below meth c nL D N a X cells slots Q σ (pc) lv (.int y :: .int x :: st) := by
  intro H locs ls hP hD hS hl
  exact lv_iushr C.1.1 C.1.2.1 hd rfl (kk H locs ls hP hD hS hl)
theorem g_lcmp (C : hv_C p s m args meth c cc nL Ts own D tys) {x y : Int64} (hd : decode cc pc = .ok (.lcmp, 1)) (kk : hv_G p l e R s m args below meth c nL D N a X cells slots Q σ (pc + 1) lv (.int (lg_cmp x y) :: st)) : hv_G p l e R s m args below meth c nL D N a X cells slots Q σ (pc) lv (.long y :: .long x :: st) := by
  intro H locs ls hP hD hS hl
  exact W.lcmp C.1.1 C.1.2.1 hd (kk H locs ls hP hD hS hl)
theorem g_dup (C : hv_C p s m args meth c cc nL Ts own D tys) {v : Value} (hd : decode cc pc = .ok (.dup, 1)) (hv : v.category = 1) (kk : hv_G p l e R s m args below meth c nL D N a X cells slots Q σ (pc + 1) lv (v :: v :: st)) : hv_G p l e R s m args below meth c nL D N a X cells slots Q σ (pc) lv (v :: st) := by
  intro H locs ls hP hD hS hl
  exact lv_dup C.1.1 C.1.2.1 hd hv (kk H locs ls hP hD hS hl)
theorem g_dup2_2 (C : hv_C p s m args meth c cc nL Ts own D tys) {v : Value} (hd : decode cc pc = .ok (.dup2, 1)) (hv : v.category = 2) (kk : hv_G p l e R s m args below meth c nL D N a X cells slots Q σ (pc + 1) lv (v :: v :: st)) : hv_G p l e R s m args below meth c nL D N a X cells slots Q σ (pc) lv (v :: st) := by
  intro H locs ls hP hD hS hl
  exact lv_dup2_2 C.1.1 C.1.2.1 hd hv (kk H locs ls hP hD hS hl)
theorem g_dup2_11 (C : hv_C p s m args meth c cc nL Ts own D tys) {v w : Value} (hd : decode cc pc = .ok (.dup2, 1)) (hv : v.category = 1) (hw : w.category = 1) (kk : hv_G p l e R s m args below meth c nL D N a X cells slots Q σ (pc + 1) lv (v :: w :: v :: w :: st)) : hv_G p l e R s m args below meth c nL D N a X cells slots Q σ (pc) lv (v :: w :: st) := by
  intro H locs ls hP hD hS hl
  exact lv_dup2_11 C.1.1 C.1.2.1 hd hv hw (kk H locs ls hP hD hS hl)
theorem g_pop (C : hv_C p s m args meth c cc nL Ts own D tys) {v : Value} (hd : decode cc pc = .ok (.pop, 1)) (hv : v.category = 1) (kk : hv_G p l e R s m args below meth c nL D N a X cells slots Q σ (pc + 1) lv (st)) : hv_G p l e R s m args below meth c nL D N a X cells slots Q σ (pc) lv (v :: st) := by
  intro H locs ls hP hD hS hl
  exact lv_pop C.1.1 C.1.2.1 hd hv (kk H locs ls hP hD hS hl)
theorem g_goto (C : hv_C p s m args meth c cc nL Ts own D tys) {off : Int} {tgt : Nat} (hd : decode cc pc = .ok (.goto off, 3)) (ht : (pc : Int) + off = (tgt : Int)) (kk : hv_G p l e R s m args below meth c nL D N a X cells slots Q σ (tgt) lv (st)) : hv_G p l e R s m args below meth c nL D N a X cells slots Q σ (pc) lv (st) := by
  intro H locs ls hP hD hS hl
  exact lv_goto C.1.1 C.1.2.1 hd ht (kk H locs ls hP hD hS hl)
theorem g_icmp_eq (C : hv_C p s m args meth c cc nL Ts own D tys) {x y : Int32} {off : Int} {tgt : Nat} (hd : decode cc pc = .ok (.if_icmp .eq off, 3)) (ht : (pc : Int) + off = (tgt : Int)) (kt : x = y → hv_G p l e R s m args below meth c nL D N a X cells slots Q σ (tgt) lv (st)) (kf : ¬ x = y → hv_G p l e R s m args below meth c nL D N a X cells slots Q σ (pc + 3) lv (st)) : hv_G p l e R s m args below meth c nL D N a X cells slots Q σ (pc) lv (.int y :: .int x :: st) := by
  intro H locs ls hP hD hS hl
  exact lv_icmp_eq C.1.1 C.1.2.1 hd ht (fun h => kt h H locs ls hP hD hS hl) (fun h => kf h H locs ls hP hD hS hl)
theorem g_if_eq (C : hv_C p s m args meth c cc nL Ts own D tys) {x : Int32} {off : Int} {tgt : Nat} (hd : decode cc pc = .ok (.ifCond .eq off, 3)) (ht : (pc : Int) + off = (tgt : Int)) (kt : x = 0 → hv_G p l e R s m args below meth c nL D N a X cells slots Q σ (tgt) lv (st)) (kf : ¬ x = 0 → hv_G p l e R s m args below meth c nL D N a X cells slots Q σ (pc + 3) lv (st)) : hv_G p l e R s m args below meth c nL D N a X cells slots Q σ (pc) lv (.int x :: st) := by
  intro H locs ls hP hD hS hl
  exact lv_if_eq C.1.1 C.1.2.1 hd ht (fun h => kt h H locs ls hP hD hS hl) (fun h => kf h H locs ls hP hD hS hl)
theorem g_icmp_ne (C : hv_C p s m args meth c cc nL Ts own D tys) {x y : Int32} {off : Int} {tgt : Nat} (hd : decode cc pc = .ok (.if_icmp .ne off, 3)) (ht : (pc : Int) + off = (tgt : Int)) (kt : ¬ x = y → hv_G p l e R s m args below meth c nL D N a X cells slots Q σ (tgt) lv (st)) (kf : x = y → hv_G p l e R s m args below meth c nL D N a X cells slots Q σ (pc + 3) lv (st)) : hv_G p l e R s m args below meth c nL D N a X cells slots Q σ (pc) lv (.int y :: .int x :: st) := by
  intro H locs ls hP hD hS hl
  exact lv_icmp_ne C.1.1 C.1.2.1 hd ht (fun h => kt h H locs ls hP hD hS hl) (fun h => kf h H locs ls hP hD hS hl)
theorem g_if_ne (C : hv_C p s m args meth c cc nL Ts own D tys) {x : Int32} {off : Int} {tgt : Nat} (hd : decode cc pc = .ok (.ifCond .ne off, 3)) (ht : (pc : Int) + off = (tgt : Int)) (kt : ¬ x = 0 → hv_G p l e R s m args below meth c nL D N a X cells slots Q σ (tgt) lv (st)) (kf : x = 0 → hv_G p l e R s m args below meth c nL D N a X cells slots Q σ (pc + 3) lv (st)) : hv_G p l e R s m args below meth c nL D N a X cells slots Q σ (pc) lv (.int x :: st) := by
  intro H locs ls hP hD hS hl
  exact lv_if_ne C.1.1 C.1.2.1 hd ht (fun h => kt h H locs ls hP hD hS hl) (fun h => kf h H locs ls hP hD hS hl)
theorem g_icmp_lt (C : hv_C p s m args meth c cc nL Ts own D tys) {x y : Int32} {off : Int} {tgt : Nat} (hd : decode cc pc = .ok (.if_icmp .lt off, 3)) (ht : (pc : Int) + off = (tgt : Int)) (kt : x < y → hv_G p l e R s m args below meth c nL D N a X cells slots Q σ (tgt) lv (st)) (kf : ¬ x < y → hv_G p l e R s m args below meth c nL D N a X cells slots Q σ (pc + 3) lv (st)) : hv_G p l e R s m args below meth c nL D N a X cells slots Q σ (pc) lv (.int y :: .int x :: st) := by
  intro H locs ls hP hD hS hl
  exact lv_icmp_lt C.1.1 C.1.2.1 hd ht (fun h => kt h H locs ls hP hD hS hl) (fun h => kf h H locs ls hP hD hS hl)
theorem g_if_lt (C : hv_C p s m args meth c cc nL Ts own D tys) {x : Int32} {off : Int} {tgt : Nat} (hd : decode cc pc = .ok (.ifCond .lt off, 3)) (ht : (pc : Int) + off = (tgt : Int)) (kt : x < 0 → hv_G p l e R s m args below meth c nL D N a X cells slots Q σ (tgt) lv (st)) (kf : ¬ x < 0 → hv_G p l e R s m args below meth c nL D N a X cells slots Q σ (pc + 3) lv (st)) : hv_G p l e R s m args below meth c nL D N a X cells slots Q σ (pc) lv (.int x :: st) := by
  intro H locs ls hP hD hS hl
  exact lv_if_lt C.1.1 C.1.2.1 hd ht (fun h => kt h H locs ls hP hD hS hl) (fun h => kf h H locs ls hP hD hS hl)
theorem g_icmp_ge (C : hv_C p s m args meth c cc nL Ts own D tys) {x y : Int32} {off : Int} {tgt : Nat} (hd : decode cc pc = .ok (.if_icmp .ge off, 3)) (ht : (pc : Int) + off = (tgt : Int)) (kt : y ≤ x → hv_G p l e R s m args below meth c nL D N a X cells slots Q σ (tgt) lv (st)) (kf : ¬ y ≤ x → hv_G p l e R s m args below meth c nL D N a X cells slots Q σ (pc + 3) lv (st)) : hv_G p l e R s m args below meth c nL D N a X cells slots Q σ (pc) lv (.int y :: .int x :: st) := by
  intro H locs ls hP hD hS hl
  exact lv_icmp_ge C.1.1 C.1.2.1 hd ht (fun h => kt h H locs ls hP hD hS hl) (fun h => kf h H locs ls hP hD hS hl)
theorem g_if_ge (C : hv_C p s m args meth c cc nL Ts own D tys) {x : Int32} {off : Int} {tgt : Nat} (hd : decode cc pc = .ok (.ifCond .ge off, 3)) (ht : (pc : Int) + off = (tgt : Int)) (kt : 0 ≤ x → hv_G p l e R s m args below meth c nL D N a X cells slots Q σ (tgt) lv (st)) (kf : ¬ 0 ≤ x → hv_G p l e R s m args below meth c nL D N a X cells slots Q σ (pc + 3) lv (st)) : hv_G p l e R s m args below meth c nL D N a X cells slots Q σ (pc) lv (.int x :: st) := by
  intro H locs ls hP hD hS hl
  exact lv_if_ge C.1.1 C.1.2.1 hd ht (fun h => kt h H locs ls hP hD hS hl) (fun h => kf h H locs ls hP hD hS hl)
theorem g_icmp_gt (C : hv_C p s m args meth c cc nL Ts own D tys) {x y : Int32} {off : Int} {tgt : Nat} (hd : decode cc pc = .ok (.if_icmp .gt off, 3)) (ht : (pc : Int) + off = (tgt : Int)) (kt : y < x → hv_G p l e R s m args below meth c nL D N a X cells slots Q σ (tgt) lv (st)) (kf : ¬ y < x → hv_G p l e R s m args below meth c nL D N a X cells slots Q σ (pc + 3) lv (st)) : hv_G p l e R s m args below meth c nL D N a X cells slots Q σ (pc) lv (.int y :: .int x :: st) := by
  intro H locs ls hP hD hS hl
  exact lv_icmp_gt C.1.1 C.1.2.1 hd ht (fun h => kt h H locs ls hP hD hS hl) (fun h => kf h H locs ls hP hD hS hl)
theorem g_if_gt (C : hv_C p s m args meth c cc nL Ts own D tys) {x : Int32} {off : Int} {tgt : Nat} (hd : decode cc pc = .ok (.ifCond .gt off, 3)) (ht : (pc : Int) + off = (tgt : Int)) (kt : 0 < x → hv_G p l e R s m args below meth c nL D N a X cells slots Q σ (tgt) lv (st)) (kf : ¬ 0 < x → hv_G p l e R s m args below meth c nL D N a X cells slots Q σ (pc + 3) lv (st)) : hv_G p l e R s m args below meth c nL D N a X cells slots Q σ (pc) lv (.int x :: st) := by
  intro H locs ls hP hD hS hl
  exact lv_if_gt C.1.1 C.1.2.1 hd ht (fun h => kt h H locs ls hP hD hS hl) (fun h => kf h H locs ls hP hD hS hl)
theorem g_icmp_le (C : hv_C p s m args meth c cc nL Ts own D tys) {x y : Int32} {off : Int} {tgt : Nat} (hd : decode cc pc = .ok (.if_icmp .le off, 3)) (ht : (pc : Int) + off = (tgt : Int)) (kt : x ≤ y → hv_G p l e R s m args below meth c nL D N a X cells slots Q σ (tgt) lv (st)) (kf : ¬ x ≤ y → hv_G p l e R s m args below meth c nL D N a X cells slots Q σ (pc + 3) lv (st)) : hv_G p l e R s m args below meth c nL D N a X cells slots Q σ (pc) lv (.int y :: .int x :: st) := by
  intro H locs ls hP hD hS hl
  exact lv_icmp_le C.1.1 C.1.2.1 hd ht (fun h => kt h H locs ls hP hD hS hl) (fun h => kf h H locs ls hP hD hS hl)
theorem g_if_le (C : hv_C p s m args meth c cc nL Ts own D tys) {x : Int32} {off : Int} {tgt : Nat} (hd : decode cc pc = .ok (.ifCond .le off, 3)) (ht : (pc : Int) + off = (tgt : Int)) (kt : x ≤ 0 → hv_G p l e R s m args below meth c nL D N a X cells slots Q σ (tgt) lv (st)) (kf : ¬ x ≤ 0 → hv_G p l e R s m args below meth c nL D N a X cells slots Q σ (pc + 3) lv (st)) : hv_G p l e R s m args below meth c nL D N a X cells slots Q σ (pc) lv (.int x :: st) := by
  intro H locs ls hP hD hS hl
  exact lv_if_le C.1.1 C.1.2.1 hd ht (fun h => kt h H locs ls hP hD hS hl) (fun h => kf h H locs ls hP hD hS hl)
theorem g_tableIn (C : hv_C p s m args meth c cc nL Ts own D tys) {dflt lo hi : Int} {offs : Array Int} {len : Nat} {x : Int32} {off : Int} {tgt : Nat} (hd : decode cc pc = .ok (.tableswitch dflt lo hi offs, len)) (h1 : ¬ x.toInt < lo) (h2 : ¬ hi < x.toInt) (ho : offs[(x.toInt - lo).toNat]? = some off) (ht : (pc : Int) + off = (tgt : Int)) (kk : hv_G p l e R s m args below meth c nL D N a X cells slots Q σ (tgt) lv (st)) : hv_G p l e R s m args below meth c nL D N a X cells slots Q σ (pc) lv (.int x :: st) := by
  intro H locs ls hP hD hS hl
  exact lv_tableIn C.1.1 C.1.2.1 hd h1 h2 ho ht (kk H locs ls hP hD hS hl)
theorem g_tableOut (C : hv_C p s m args meth c cc nL Ts own D tys) {dflt lo hi : Int} {offs : Array Int} {len : Nat} {x : Int32} {tgt : Nat} (hd : decode cc pc = .ok (.tableswitch dflt lo hi offs, len)) (h : x.toInt < lo ∨ hi < x.toInt) (ht : (pc : Int) + dflt = (tgt : Int)) (kk : hv_G p l e R s m args below meth c nL D N a X cells slots Q σ (tgt) lv (st)) : hv_G p l e R s m args below meth c nL D N a X cells slots Q σ (pc) lv (.int x :: st) := by
  intro H locs ls hP hD hS hl
  exact lv_tableOut C.1.1 C.1.2.1 hd h ht (kk H locs ls hP hD hS hl)
theorem g_lookup (C : hv_C p s m args meth c cc nL Ts own D tys) {dflt : Int} {ps : Array (Int × Int)} {len : Nat} {x : Int32} {off : Int} {tgt : Nat} (hd : decode cc pc = .ok (.lookupswitch dflt ps, len)) (hp : (ps.toList.zip (ps.toList.drop 1)).all (fun (a, next) => a.1 < next.1) = true) (ho : Op.lookupswitch.offset ps.toList dflt x.toInt = off) (ht : (pc : Int) + off = (tgt : Int)) (kk : hv_G p l e R s m args below meth c nL D N a X cells slots Q σ (tgt) lv (st)) : hv_G p l e R s m args below meth c nL D N a X cells slots Q σ (pc) lv (.int x :: st) := by
  intro H locs ls hP hD hS hl
  exact lv_lookup C.1.1 C.1.2.1 hd hp ho ht (kk H locs ls hP hD hS hl)
theorem g_lv {lv' : List (Nat × Value)} (ks : List Nat) (h : lv_pick lv ks = lv') (kk : hv_G p l e R s m args below meth c nL D N a X cells slots Q σ (pc) lv' (st)) : hv_G p l e R s m args below meth c nL D N a X cells slots Q σ (pc) lv (st) := by
  intro H locs ls hP hD hS hl
  exact kk H locs ls hP hD hS (lv_sub hl ks h)
theorem g_st {st' : List Value} (h : st = st') (kk : hv_G p l e R s m args below meth c nL D N a X cells slots Q σ (pc) lv (st')) : hv_G p l e R s m args below meth c nL D N a X cells slots Q σ (pc) lv (st) := by
  subst h
  exact kk
theorem g_get (C : hv_C p s m args meth c cc nL Ts own D tys) (i k : Nat) {ci n index : Nat} {Cn ref : String} {T : u_T} {fs : List Value} {v : Value} (hi : i < N) (hX : X i (σ.1 i) (σ.2 i) = .inr (ci, fs)) (hc : vwCl[ci]? = some (Cn, T, n)) (hin : ∀ w ∈ u_ws Cn T n, w ∈ Ts) (hk : k < n) (hr : ref = (T k).1) (hlink : Cond.fieldLink own index ref (T k).2.1 (T k).2.2.1 ∈ Ts) (hv : fs[k]? = some v) (hd : decode cc pc = .ok (.getfield index, 3)) (kk : hv_G p l e R s m args below meth c nL D N a X cells slots Q σ (pc + 3) lv (v :: st)) : hv_G p l e R s m args below meth c nL D N a X cells slots Q σ (pc) lv (.ref (a i) :: st) := by
  intro H locs ls hP hD hS hl
  subst hr
  exact va_get (D := D) (ci := ci) (v := v) C.1.1 C.1.2.1 C.1.2.2.2.2 hin C.1.2.2.2.1 C.2.1.1 hP i (by rw [hv_W_get hi, hX]) hc k hk (C.1.2.2.2.2 _ hlink) (fun _ h9 => h9) hv hd (kk H locs ls hP hD hS hl)
theorem g_put (C : hv_C p s m args meth c cc nL Ts own D tys) (i k : Nat) {ci n index : Nat} {Cn ref : String} {T : u_T} {fs : List Value} {ty0 : Nat → FieldType} {ty : FieldType} {v : Value} {σ' : hv_St} (hi : i < N) (hX : X i (σ.1 i) (σ.2 i) = .inr (ci, fs)) (hc : vwCl[ci]? = some (Cn, T, n)) (hin : ∀ w ∈ u_ws Cn T n, w ∈ Ts) (hty : ∀ k, k < n → parseFieldDescriptor (T k).2.2.1 = some (ty0 k)) (hnm : ∀ a, a < n → ∀ b, b < n → a ≠ b → (T a).2.1 ≠ (T b).2.1) (hk : k < n) (hr : ref = (T k).1) (hlink : Cond.fieldLink own index ref (T k).2.1 (T k).2.2.1 ∈ Ts) (hfin : (T k).2.2.2 = false) (hdd : parseFieldDescriptor (T k).2.2.1 = some ty) (hn : narrow ty v = v) (hft : fits ty v = true) (hlen : k < fs.length) (hE : .inr (ci, fs.set k v) = X i (σ'.1 i) (σ'.2 i)) (ho : ∀ j, j ≠ i → σ'.1 j = σ.1 j ∧ σ'.2 j = σ.2 j) (hd : decode cc pc = .ok (.putfield index, 3)) (kk : hv_G p l e R s m args below meth c nL D N a X cells slots Q σ' (pc + 3) lv (st)) : hv_G p l e R s m args below meth c nL D N a X cells slots Q σ (pc) lv (v :: .ref (a i) :: st) := by
  intro H locs ls hP hD hS hl
  subst hr
  refine va_put (D := D) (ci := ci) (v := v) (ty := ty) C.1.1 C.1.2.1 C.1.2.2.2.2 hin ty0 hty hnm C.1.2.2.2.1 C.2.1.1 hP hD hS i (by rw [hv_W_get hi, hX]) hc k hk (C.1.2.2.2.2 _ hlink) (fun _ h9 => h9) hfin hdd hn hft hlen hd (fun H1 locs1 hP1 hD1 hS1 => ?_)
  rw [hv_W_set hE ho] at hP1 hD1
  exact kk H1 locs1 ls hP1 hD1 hS1 hl
theorem hv_oI {σ : hv_St} {i k : Nat} {v : Int32} : ∀ j, j ≠ i → (hv_sI σ i k v).1 j = σ.1 j ∧ (hv_sI σ i k v).2 j = σ.2 j := fun _ h => ⟨if_neg h, rfl⟩
theorem hv_oJ {σ : hv_St} {i k : Nat} {v : Int64} : ∀ j, j ≠ i → (hv_sJ σ i k v).1 j = σ.1 j ∧ (hv_sJ σ i k v).2 j = σ.2 j := fun _ h => ⟨rfl, if_neg h⟩
theorem g_iald (C : hv_C p s m args meth c cc nL Ts own D tys) (i t0 : Nat) {cA : ClassId} {n : Nat} {j : Int32} (hi : i < N) (hX : X i (σ.1 i) (σ.2 i) = .inl (cA, n, .inl (σ.1 i))) (ht : tys[t0]? = some (cA, .int)) (hj : hv_ok j n = true) (hd : decode cc pc = .ok (.iaload, 1)) (kk : hv_G p l e R s m args below meth c nL D N a X cells slots Q σ (pc + 1) lv (.int (σ.1 i j.toNatClampNeg) :: st)) : hv_G p l e R s m args below meth c nL D N a X cells slots Q σ (pc) lv (.int j :: .ref (a i) :: st) := by
  intro H locs ls hP hD hS hl
  exact va_iald C.1.1 C.1.2.1 C.2.1.1 hP i t0 (by rw [hv_W_get hi, hX]) ht (hv_in hj) hd (kk H locs ls hP hD hS hl)
theorem g_zald (C : hv_C p s m args meth c cc nL Ts own D tys) (i t0 : Nat) {cA : ClassId} {n : Nat} {j : Int32} (hi : i < N) (hX : X i (σ.1 i) (σ.2 i) = .inl (cA, n, .inl (σ.1 i))) (ht : tys[t0]? = some (cA, .boolean)) (hj : hv_ok j n = true) (hd : decode cc pc = .ok (.baload, 1)) (kk : hv_G p l e R s m args below meth c nL D N a X cells slots Q σ (pc + 1) lv (.int (σ.1 i j.toNatClampNeg) :: st)) : hv_G p l e R s m args below meth c nL D N a X cells slots Q σ (pc) lv (.int j :: .ref (a i) :: st) := by
  intro H locs ls hP hD hS hl
  exact va_zald C.1.1 C.1.2.1 C.2.1.1 hP i t0 (by rw [hv_W_get hi, hX]) ht (hv_in hj) hd (kk H locs ls hP hD hS hl)
theorem g_lald (C : hv_C p s m args meth c cc nL Ts own D tys) (i t0 : Nat) {cA : ClassId} {n : Nat} {j : Int32} (hi : i < N) (hX : X i (σ.1 i) (σ.2 i) = .inl (cA, n, .inr (.inl (σ.2 i)))) (ht : tys[t0]? = some (cA, .long)) (hj : hv_ok j n = true) (hd : decode cc pc = .ok (.laload, 1)) (kk : hv_G p l e R s m args below meth c nL D N a X cells slots Q σ (pc + 1) lv (.long (σ.2 i j.toNatClampNeg) :: st)) : hv_G p l e R s m args below meth c nL D N a X cells slots Q σ (pc) lv (.int j :: .ref (a i) :: st) := by
  intro H locs ls hP hD hS hl
  exact va_lald C.1.1 C.1.2.1 C.2.1.1 hP i t0 (by rw [hv_W_get hi, hX]) ht (hv_in hj) hd (kk H locs ls hP hD hS hl)
theorem g_iast (C : hv_C p s m args meth c cc nL Ts own D tys) (i t0 : Nat) {cA : ClassId} {n : Nat} {j : Int32} {x : Int32} {σ' : hv_St} (es : σ' = hv_sI σ i j.toNatClampNeg x) (hi : i < N) (hX : ∀ (f : Nat → Int32) (g : Nat → Int64), X i f g = .inl (cA, n, .inl f)) (ht : tys[t0]? = some (cA, .int)) (hj : hv_ok j n = true) (hd : decode cc pc = .ok (.iastore, 1)) (kk : hv_G p l e R s m args below meth c nL D N a X cells slots Q σ' (pc + 1) lv (st)) : hv_G p l e R s m args below meth c nL D N a X cells slots Q σ (pc) lv (.int x :: .int j :: .ref (a i) :: st) := by
  subst es
  intro H locs ls hP hD hS hl
  refine va_iast C.1.1 C.1.2.1 C.2.1.1 hP hD hS i t0 (by rw [hv_W_get hi, hX]) ht (hv_in hj) hd (fun H1 locs1 hP1 hD1 hS1 => ?_)
  rw [hv_W_set (σ' := hv_sI σ i j.toNatClampNeg x) (by rw [hX, hv_sI_at]) hv_oI] at hP1 hD1
  exact kk H1 locs1 ls hP1 hD1 hS1 hl
theorem g_zast (C : hv_C p s m args meth c cc nL Ts own D tys) (i t0 : Nat) {cA : ClassId} {n : Nat} {j : Int32} {x : Int32} {σ' : hv_St} (es : σ' = hv_sI σ i j.toNatClampNeg x) (hi : i < N) (hX : ∀ (f : Nat → Int32) (g : Nat → Int64), X i f g = .inl (cA, n, .inl f)) (ht : tys[t0]? = some (cA, .boolean)) (hj : hv_ok j n = true) (hz : hv_z x = true) (hd : decode cc pc = .ok (.bastore, 1)) (kk : hv_G p l e R s m args below meth c nL D N a X cells slots Q σ' (pc + 1) lv (st)) : hv_G p l e R s m args below meth c nL D N a X cells slots Q σ (pc) lv (.int x :: .int j :: .ref (a i) :: st) := by
  subst es
  intro H locs ls hP hD hS hl
  refine va_zast C.1.1 C.1.2.1 C.2.1.1 hP hD hS i t0 (by rw [hv_W_get hi, hX]) ht (hv_in hj) hd (fun H1 locs1 hP1 hD1 hS1 => ?_)
  rw [hv_z_nar hz] at hP1 hD1
  rw [hv_W_set (σ' := hv_sI σ i j.toNatClampNeg x) (by rw [hX, hv_sI_at]) hv_oI] at hP1 hD1
  exact kk H1 locs1 ls hP1 hD1 hS1 hl
theorem g_last (C : hv_C p s m args meth c cc nL Ts own D tys) (i t0 : Nat) {cA : ClassId} {n : Nat} {j : Int32} {x : Int64} {σ' : hv_St} (es : σ' = hv_sJ σ i j.toNatClampNeg x) (hi : i < N) (hX : ∀ (f : Nat → Int32) (g : Nat → Int64), X i f g = .inl (cA, n, .inr (.inl g))) (ht : tys[t0]? = some (cA, .long)) (hj : hv_ok j n = true) (hd : decode cc pc = .ok (.lastore, 1)) (kk : hv_G p l e R s m args below meth c nL D N a X cells slots Q σ' (pc + 1) lv (st)) : hv_G p l e R s m args below meth c nL D N a X cells slots Q σ (pc) lv (.long x :: .int j :: .ref (a i) :: st) := by
  subst es
  intro H locs ls hP hD hS hl
  refine va_last C.1.1 C.1.2.1 C.2.1.1 hP hD hS i t0 (by rw [hv_W_get hi, hX]) ht (hv_in hj) hd (fun H1 locs1 hP1 hD1 hS1 => ?_)
  rw [hv_W_set (σ' := hv_sJ σ i j.toNatClampNeg x) (by rw [hX, hv_sJ_at]) hv_oJ] at hP1 hD1
  exact kk H1 locs1 ls hP1 hD1 hS1 hl
theorem g_aald (C : hv_C p s m args meth c cc nL Ts own D tys) (i t0 : Nat) {cA : ClassId} {n b0 : Nat} {j : Int32} {ty : FieldType} (hi : i < N) (hX : X i (σ.1 i) (σ.2 i) = .inl (cA, n, .inr (.inr (.inr (.inr (fun i => if i < n then some (a (b0 + i)) else none)))))) (ht : tys[t0]? = some (cA, ty)) (hty : ty.isReference = true) (hj : hv_ok j n = true) (hd : decode cc pc = .ok (.aaload, 1)) (kk : hv_G p l e R s m args below meth c nL D N a X cells slots Q σ (pc + 1) lv (.ref (a (b0 + j.toNatClampNeg)) :: st)) : hv_G p l e R s m args below meth c nL D N a X cells slots Q σ (pc) lv (.int j :: .ref (a i) :: st) := by
  intro H locs ls hP hD hS hl
  have hlt := hv_lt hj
  have h0 := hP i _ (hv_W_get hi)
  rw [hX] at h0
  exact W.aald (v := .ref (a (b0 + j.toNatClampNeg))) (ty := ty) C.1.1 C.1.2.1 h0 ((C.2.1.1.2 t0 _ ht).1 n (fun j => va_rf (if j < n then some (a (b0 + j)) else none))) hty (fun q => by cases q) (by show ¬ (j < 0 ∨ (arrV _ _ _).slots.size ≤ _); rw [arrV_size]; exact hv_in hj) (by show (arrV _ _ _).slots[_]? = _; rw [arrV_read _ _ hlt]; show some (va_rf (if j.toNatClampNeg < n then some (a (b0 + j.toNatClampNeg)) else none)) = _; rw [if_pos hlt]; rfl) rfl rfl hd (kk H locs ls hP hD hS hl)
/-- behind a call -/
theorem g_run {σ1 : hv_St} {v : Option Value} {rest : List Value} {arr : Array Value} (hrun : ∀ (H : Heap) (locs : List Loc) (ls : Array Slot), va_P D vwCl (hv_W N a X σ) H → va_D (hv_A N a s.heap.size) (hv_W N a X σ) → lv_has ls nL lv → va_Run p l e R s m args below meth c H locs cells slots 0 0 (F0 m pc ls st) rest (hv_Qc D N a X σ1 v (hv_A N a H.size) arr) (hv_A N a H.size)) (kk : hv_G p l e R s m args below meth c nL D N a X cells slots Q σ1 (pc + 3) lv (v.toList ++ rest)) : hv_G p l e R s m args below meth c nL D N a X cells slots Q σ pc lv st := by
  intro H locs ls hP hD hS hl T hT Xs
  obtain ⟨v', st₀, t, T', L, h0, X', hL, e1, e2, ⟨hv, hP1, hz, hk⟩, step⟩ := hrun H locs ls hP hD hl T hT Xs
  cases hv
  rw [h0] at hz hk
  have hsub : ∀ q, hv_A N a H.size q → hv_A N a s.heap.size q := fun q h => by
    rcases h with h | h
    · exact Or.inl h
    · exact Or.inr (Nat.le_trans hS.1 h)
  obtain ⟨t2, a1, b1⟩ := kk T'.heap (locs ++ L) ls (by rw [e1]; exact hP1) (hv_D_of hD)
    ⟨Nat.le_trans hS.1 (by rw [e1]; exact hz), fun q h1 h2 => by rw [e1, hk q (Nat.lt_of_lt_of_le h1 hS.1) (fun z => h2 (hsub q z))]; exact hS.2.1 q h1 h2, fun q hq => by
      rcases List.mem_append.mp hq with h | h
      · exact hS.2.2 q h
      · exact hsub _ (hL q h)⟩ hl T' rfl X'
  exact ⟨t2, step t2 a1, b1⟩
theorem hv_pcOf (C : hv_C p s m args meth c cc nL Ts own D tys) {H : Heap} {as : List Value} (hP : va_P D vwCl (hv_W N a X σ) H) (hD : va_D (hv_A N a s.heap.size) (hv_W N a X σ)) : ∀ U : State, U.heap = H → s.WarmedH U.vm → hv_Pc D tys N a X σ H.size as as.toArray U := fun U hU hW => ⟨rfl, by rw [hU], by rw [hU]; exact hP, C.2.1.warm hW, hD.weaken (fun _ _ _ _ => trivial)⟩
theorem g_callV (C : hv_C p s m args meth c cc nL Ts own D tys) (i : Nat) {ci index maxL n : Nat} {y : MethodName} {ws : List Cond} {rm : Room} {bytes : ByteArray} {ret : Option FieldType} {q : vw_C} {fs : List Value} {σ1 : hv_St} {v : Option Value} {As rest : List Value} (hM : hv_M l y ws rm D tys N a X (.ref (a i) :: As) σ v σ1) (cw : CallW R s args own q.1 index y bytes maxL ret ws rm 0 0 n) (hi : i < N) (hX : X i (σ.1 i) (σ.2 i) = .inr (ci, fs)) (hc : vwCl[ci]? = some q) (hn : As.length = n) (hst : st = As.reverse ++ .ref (a i) :: rest) (hroom : (rest.map fun v => v.category).sum ≤ 8) (hd : decode cc pc = .ok (.invokevirtual index, 3)) (hcl : cells ≤ R.cells ∧ slots ≤ R.slots) (kk : hv_G p l e R s m args below meth c nL D N a X cells slots Q σ1 (pc + 3) lv (v.toList ++ rest)) : hv_G p l e R s m args below meth c nL D N a X cells slots Q σ pc lv st := by
  refine g_run (arr := (Value.ref (a i) :: As).toArray) (fun H locs ls hP hD hl => ?_) kk
  exact va_runV C.1 (hM H.size) cw ⟨hv_blind, va_recv C.2.1.1 hP hc (by rw [hv_W_get hi, hX]), hv_pcOf C hP hD⟩ rfl hn hl.1 hst (lv_room hroom) hd hcl
theorem g_callS (C : hv_C p s m args meth c cc nL Ts own D tys) {index maxL n : Nat} {y : MethodName} {ws : List Cond} {rm : Room} {bytes : ByteArray} {ret : Option FieldType} {σ1 : hv_St} {v : Option Value} {As rest : List Value} (hM : hv_M l y ws rm D tys N a X As σ v σ1) (cw : CallB R s args own index y bytes maxL ret ws rm 0 0 n ∧ (Cond.static y).before args s = true) (hn : As.length = n) (hst : st = As.reverse ++ rest) (hroom : (rest.map fun v => v.category).sum ≤ 8) (hd : decode cc pc = .ok (.invokestatic index, 3)) (hcl : cells ≤ R.cells ∧ slots ≤ R.slots) (kk : hv_G p l e R s m args below meth c nL D N a X cells slots Q σ1 (pc + 3) lv (v.toList ++ rest)) : hv_G p l e R s m args below meth c nL D N a X cells slots Q σ pc lv st := by
  refine g_run (arr := As.toArray) (fun H locs ls hP hD hl => ?_) kk
  exact va_runS C.1 (hM H.size) cw ⟨hv_blind, hv_pcOf C hP hD⟩ rfl hn hl.1 hst (lv_room hroom) hd hcl
theorem g_callSN (C : hv_C p s m args meth c cc nL Ts own D tys) {index maxL n : Nat} {y : MethodName} {host : String} {ws : List Cond} {rm : Room} {bytes : ByteArray} {ret : Option FieldType} {σ1 : hv_St} {v : Option Value} {As rest : List Value} (hM : hv_M l y ws rm D tys N a X As σ v σ1) (cw : va_CN R s args own index y host bytes maxL ret ws rm 0 0 n) (hs : Cond.static y ∈ Ts) (hn : As.length = n) (hst : st = As.reverse ++ rest) (hroom : (rest.map fun v => v.category).sum ≤ 8) (hd : decode cc pc = .ok (.invokestatic index, 3)) (hcl : cells ≤ R.cells ∧ slots ≤ R.slots) (kk : hv_G p l e R s m args below meth c nL D N a X cells slots Q σ1 (pc + 3) lv (v.toList ++ rest)) : hv_G p l e R s m args below meth c nL D N a X cells slots Q σ pc lv st := by
  refine g_run (arr := As.toArray) (fun H locs ls hP hD hl => ?_) kk
  exact va_runSN C.1 (hM H.size) ⟨cw, C.1.2.2.2.2 _ hs, trivial⟩ ⟨hv_blind, hv_pcOf C hP hD⟩ rfl hn hl.1 hst (lv_room hroom) hd hcl
theorem g_mmin (C : hv_C p s m args meth c cc nL Ts own D tys) {index : Nat} {x y : Int32} (h1 : Cond.methodLink own index Lib.Math.min.name ∈ Ts) (h2 : Cond.static Lib.Math.min.name ∈ Ts) (h3 : Cond.initialized "java/lang/Math" ∈ Ts) (h4 : Cond.code Lib.Math.min.name Lib.Math.min.code 2 (some .int) ∈ Ts) (hfr : 1 ≤ R.frames) (hlo : (st.map fun v => v.category).sum + 13 ≤ R.locals) (hcl : cells ≤ R.cells ∧ slots ≤ R.slots) (hd : decode cc pc = .ok (.invokestatic index, 3)) (kk : hv_G p l e R s m args below meth c nL D N a X cells slots Q σ (pc + 3) lv (.int (if y < x then y else x) :: st)) : hv_G p l e R s m args below meth c nL D N a X cells slots Q σ (pc) lv (.int y :: .int x :: st) := by
  intro H locs ls hP hD hS hl
  exact va_mmin C.1.1 C.1.2.1 (by rw [C.1.2.2.1]; exact hl.1.symm) C.1.2.2.2.1 (C.1.2.2.2.2 _ h1) (C.1.2.2.2.2 _ h2) (C.1.2.2.2.2 _ h3) (C.1.2.2.2.2 _ h4) hfr hlo hcl.1 hcl.2 hd (kk H locs ls hP hD hS hl)
theorem g_mminL (C : hv_C p s m args meth c cc nL Ts own D tys) {index : Nat} {x y : Int64} (h1 : Cond.methodLink own index Lib.MathLoose.min_long.x ∈ Ts) (h2 : Cond.static Lib.MathLoose.min_long.x ∈ Ts) (h3 : Cond.initialized "java/lang/Math" ∈ Ts) (h4 : Cond.code Lib.MathLoose.min_long.x Lib.MathLoose.min_long.code 4 (some .long) ∈ Ts) (hfr : 1 ≤ R.frames) (hlo : (st.map fun v => v.category).sum + 15 ≤ R.locals) (hcl : cells ≤ R.cells ∧ slots ≤ R.slots) (hd : decode cc pc = .ok (.invokestatic index, 3)) (kk : hv_G p l e R s m args below meth c nL D N a X cells slots Q σ (pc + 3) lv (.long (if y < x then y else x) :: st)) : hv_G p l e R s m args below meth c nL D N a X cells slots Q σ (pc) lv (.long y :: .long x :: st) := by
  intro H locs ls hP hD hS hl
  exact va_mmin_long C.1.1 C.1.2.1 (by rw [C.1.2.2.1]; exact hl.1.symm) C.1.2.2.2.1 (C.1.2.2.2.2 _ h1) (C.1.2.2.2.2 _ h2) (C.1.2.2.2.2 _ h3) (C.1.2.2.2.2 _ h4) hfr hlo hcl.1 hcl.2 hd (kk H locs ls hP hD hS hl)
theorem g_mabsL (C : hv_C p s m args meth c cc nL Ts own D tys) {index : Nat} {x : Int64} (h1 : Cond.methodLink own index Lib.MathLoose.abs_long.x ∈ Ts) (h2 : Cond.static Lib.MathLoose.abs_long.x ∈ Ts) (h3 : Cond.initialized "java/lang/Math" ∈ Ts) (h4 : Cond.code Lib.MathLoose.abs_long.x Lib.MathLoose.abs_long.code 2 (some .long) ∈ Ts) (hfr : 1 ≤ R.frames) (hlo : (st.map fun v => v.category).sum + 13 ≤ R.locals) (hcl : cells ≤ R.cells ∧ slots ≤ R.slots) (hd : decode cc pc = .ok (.invokestatic index, 3)) (kk : hv_G p l e R s m args below meth c nL D N a X cells slots Q σ (pc + 3) lv (.long (if 0 < x then x else -x) :: st)) : hv_G p l e R s m args below meth c nL D N a X cells slots Q σ (pc) lv (.long x :: st) := by
  intro H locs ls hP hD hS hl
  exact va_mabs_long C.1.1 C.1.2.1 (by rw [C.1.2.2.1]; exact hl.1.symm) C.1.2.2.2.1 (C.1.2.2.2.2 _ h1) (C.1.2.2.2.2 _ h2) (C.1.2.2.2.2 _ h3) (C.1.2.2.2.2 _ h4) hfr hlo hcl.1 hcl.2 hd (kk H locs ls hP hD hS hl)
end HV
section HVR
variable {p : Program} {l : Launch} {e : Env} {R : Room} {s : State} {m : MethodId} {args : Array Value} {below : List Frame} {meth : Method} {c : Code} {cc : ByteArray} {nL : Nat} {Ts : List Cond} {own : String} {D : va_G} {tys : List (ClassId × FieldType)} {N : Nat} {a : Nat → Nat} {X : hv_X} {σ : hv_St} {pc : Nat} {lv : List (Nat × Value)}
abbrev hv_MQ (D : va_G) (N : Nat) (a : Nat → Nat) (X : hv_X) (below : List Frame) (args : Array Value) (s : State) (v : Option Value) (σ : hv_St) : State → Prop := MQ below (hv_Qc D N a X σ v (hv_A N a s.heap.size)) args s 0 0 (hv_A N a s.heap.size)
theorem g_vret (C : hv_C p s m args meth c cc nL Ts own D tys)  (hr : meth.sig.returnType = none)  (hd : decode cc pc = .ok (.return_, 1)) : hv_G p l e R s m args below meth c nL D N a X 0 0 (hv_MQ D N a X below args s none σ) σ pc lv [] := by
  intro H locs ls hP hD hS hl
  exact W.vret C.1.1 C.1.2.1 hr (fun t ht hW => ⟨rfl, by rw [ht]; exact hP, hS.F ht⟩) hS.2.2 hd C.2.2
theorem g_iret (C : hv_C p s m args meth c cc nL Ts own D tys) {x : Int32} (hr : meth.sig.returnType = some .int)  (hd : decode cc pc = .ok (.ireturn, 1)) : hv_G p l e R s m args below meth c nL D N a X 0 0 (hv_MQ D N a X below args s (some (.int x)) σ) σ pc lv [.int x] := by
  intro H locs ls hP hD hS hl
  exact W.iret (v := x) C.1.1 C.1.2.1 hr (fun t ht hW => ⟨rfl, by rw [ht]; exact hP, hS.F ht⟩) hS.2.2 hd C.2.2
theorem g_lret (C : hv_C p s m args meth c cc nL Ts own D tys) {x : Int64} (hr : meth.sig.returnType = some .long)  (hd : decode cc pc = .ok (.lreturn, 1)) : hv_G p l e R s m args below meth c nL D N a X 0 0 (hv_MQ D N a X below args s (some (.long x)) σ) σ pc lv [.long x] := by
  intro H locs ls hP hD hS hl
  exact W.lret (v := x) C.1.1 C.1.2.1 hr (fun t ht hW => ⟨rfl, by rw [ht]; exact hP, hS.F ht⟩) hS.2.2 hd C.2.2
theorem g_zret (C : hv_C p s m args meth c cc nL Ts own D tys) {x : Int32} (hr : meth.sig.returnType = some .boolean) (hz : hv_z x = true) (hd : decode cc pc = .ok (.ireturn, 1)) : hv_G p l e R s m args below meth c nL D N a X 0 0 (hv_MQ D N a X below args s (some (.int x)) σ) σ pc lv [.int x] := by
  intro H locs ls hP hD hS hl
  exact W.zret (v := x) (ty := .boolean) C.1.1 C.1.2.1 hr (hv_z_narrow hz) (fun t ht hW => ⟨rfl, by rw [ht]; exact hP, hS.F ht⟩) hS.2.2 hd C.2.2
theorem g_aret (C : hv_C p s m args meth c cc nL Ts own D tys) {x : Nat} {ty : FieldType} (hr : meth.sig.returnType = some (.array ty)) (hd : decode cc pc = .ok (.areturn, 1)) : hv_G p l e R s m args below meth c nL D N a X 0 0 (hv_MQ D N a X below args s (some (.ref x)) σ) σ pc lv [.ref x] := by
  intro H locs ls hP hD hS hl
  exact W.aret (v := .ref x) C.1.1 C.1.2.1 hr (Or.inr ⟨_, rfl⟩) (Or.inr ⟨_, rfl⟩) (fun t ht hW => ⟨rfl, by rw [ht]; exact hP, hS.F ht⟩) hS.2.2 hd C.2.2
/-- a method's contract out of its body's walk -/
theorem hv_enter {y : MethodName} {ws ws' : List Cond} {rm : Room} {maxL : Nat} {ret : Option FieldType} {as : List Value} {v : Option Value} {σ' : hv_St} {own : String} (hy : plainName y.cls = true) (ho : y.cls = own) (hw : ws = Cond.code y cc maxL ret :: ws') (hlen : (lg_sl as).length ≤ maxL)
    (body : ∀ (p : Program) (e : Env) (s : State) (m : MethodId) (args : Array Value) (below : List Frame) (meth : Method) (c : Code), hv_C p s m args meth c cc maxL ws own D tys → meth.sig.returnType = ret → hv_G p l e (headSpec ws rm).room s m args below meth c maxL D N a X 0 0 (hv_MQ D N a X below args s v σ') σ 0 (lv_args 0 as) []) : hv_M l y ws rm D tys N a X as σ v σ' := by
  intro sz
  refine Met.ofW (cc := cc) (maxL := maxL) (ret := ret) hy hw ?_
  intro p e s m args below meth c s₁ B hml hv
  obtain ⟨rfl, hsz, hP, hK, hD0⟩ := hv
  subst hsz
  subst ho
  have C : hv_C p s m as.toArray meth c cc maxL ws y.cls D tys := ⟨⟨B.exec, B.bytes, hml, findClass_of_methodNamed B.named, atoms_spec (ws := ws) B.pre⟩, hK, B.notSynchronized⟩
  rw [lg_entry_eq]
  exact body p e s m as.toArray below meth c C B.returns s.heap [] _ hP (hv_D_self hD0) va_S.rf (lv_entry as hlen)
end HVR
