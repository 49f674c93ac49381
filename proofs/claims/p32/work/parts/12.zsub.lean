/-! calls into a part of the world: cells o, o + 1 .. of it are the callee's world -/
theorem hv_mg_in {o n : Nat} {σ τ : hv_St} {j : Nat} (h : o ≤ j ∧ j < o + n) : (hv_mg o n σ τ).1 j = τ.1 (j - o) ∧ (hv_mg o n σ τ).2 j = τ.2 (j - o) := ⟨if_pos h, if_pos h⟩
theorem hv_mg_out {o n : Nat} {σ τ : hv_St} {j : Nat} (h : ¬ (o ≤ j ∧ j < o + n)) : (hv_mg o n σ τ).1 j = σ.1 j ∧ (hv_mg o n σ τ).2 j = σ.2 j := ⟨if_neg h, if_neg h⟩
section HVB
variable {D : va_G} {tys : List (ClassId × FieldType)} {N n o : Nat} {a : Nat → Nat} {X X2 : hv_X} {σ : hv_St} {H : Heap}
theorem hv_sub_P (hE : ∀ i, i < n → ∀ f g, X2 i f g = X (i + o) f g) (hn : n + o ≤ N) (hP : va_P D vwCl (hv_W N a X σ) H) : va_P D vwCl (hv_W n (fun i => a (i + o)) X2 (hv_sh o σ)) H := by
  intro k q hk
  obtain ⟨lk, rfl⟩ := hv_W_at hk
  have h := hP (k + o) _ (hv_W_get (by omega))
  rw [hE k lk]
  exact h
theorem hv_sub_D {A B : Nat → Prop} (hn : n + o ≤ N) (hD : va_D A (hv_W N a X σ)) (hB : ∀ i, i < n → B (a (i + o))) : va_D B (hv_W n (fun i => a (i + o)) X2 (hv_sh o σ)) := by
  refine ⟨fun i j p q hi hj hpq => ?_, fun k q hk => ?_⟩
  · obtain ⟨li, rfl⟩ := hv_W_at hi
    obtain ⟨lj, rfl⟩ := hv_W_at hj
    have h := hD.1 (i + o) (j + o) _ _ (hv_W_get (by omega)) (hv_W_get (by omega)) hpq
    omega
  · obtain ⟨lk, rfl⟩ := hv_W_at hk
    exact hB k lk
theorem hv_subA2 (hn : n + o ≤ N) {sz sz' : Nat} (h : sz ≤ sz') : ∀ q, hv_A n (fun i => a (i + o)) sz' q → hv_A N a sz q := fun q hq => by
  rcases hq with ⟨j, hj, rfl⟩ | hq
  · exact Or.inl ⟨j + o, by omega, rfl⟩
  · exact Or.inr (Nat.le_trans h hq)
theorem hv_mg_P {τ : hv_St} {H1 : Heap} {A : Nat → Prop} (hE : ∀ i, i < n → ∀ f g, X2 i f g = X (i + o) f g) (hn : n + o ≤ N) (hP : va_P D vwCl (hv_W N a X σ) H) (hD : va_D A (hv_W N a X σ)) (hk : ∀ q : Nat, q < H.size → ¬ hv_A n (fun i => a (i + o)) H.size q → H1[q]? = H[q]?) (hP1 : va_P D vwCl (hv_W n (fun i => a (i + o)) X2 τ) H1) : va_P D vwCl (hv_W N a X (hv_mg o n σ τ)) H1 := by
  intro k q hq
  obtain ⟨lk, rfl⟩ := hv_W_at hq
  by_cases h : o ≤ k ∧ k < o + n
  · rw [(hv_mg_in h).1, (hv_mg_in h).2]
    have h1 := hP1 (k - o) _ (hv_W_get (by omega))
    have e : k - o + o = k := by omega
    rw [hE (k - o) (by omega)] at h1
    simp only [e] at h1
    exact h1
  · rw [(hv_mg_out h).1, (hv_mg_out h).2]
    have h1 := hP k _ (hv_W_get lk)
    refine h1.kept (hk (a k) h1.lt (fun z => ?_))
    rcases z with ⟨j, hj, e⟩ | z
    · have := hD.1 k (j + o) _ _ (hv_W_get lk) (hv_W_get (by omega)) e
      omega
    · have := h1.lt
      exact absurd z (by omega)
theorem hv_T.sub {U : State} (hn : n + o ≤ N) (h : hv_T N a U) : hv_T n (fun i => a (i + o)) U := ⟨h.1.narrow (hv_subA2 hn (Nat.le_refl _)), h.2.1.narrow (hv_subA2 hn (Nat.le_refl _)), h.2.2⟩
end HVB
section HVS
variable {p : Program} {l : Launch} {e : Env} {R : Room} {s : State} {m : MethodId} {args : Array Value} {below : List Frame} {meth : Method} {c : Code} {cc : ByteArray} {nL : Nat} {Ts : List Cond} {own : String} {D : va_G} {tys : List (ClassId × FieldType)} {N n o : Nat} {a : Nat → Nat} {X X2 : hv_X} {cells slots : Nat} {Q : State → Prop} {σ : hv_St} {pc : Nat} {lv : List (Nat × Value)} {st : List Value}
/-- behind such a call, cells made counted -/
theorem g_subrun {τ : hv_St} {v : Option Value} {rest : List Value} {arr : Array Value} {mc ms : Nat} (hE : ∀ i, i < n → ∀ f g, X2 i f g = X (i + o) f g) (hn : n + o ≤ N) (hrun : ∀ (H : Heap) (locs : List Loc) (ls : Array Slot), va_P D vwCl (hv_W N a X σ) H → va_D (hv_A N a s.heap.size) (hv_W N a X σ) → va_S (hv_A N a s.heap.size) s.heap H locs → lv_has ls nL lv → va_Run p l e R s m args below meth c H locs cells slots mc ms (F0 m pc ls st) rest (hv_Qc D n (fun i => a (i + o)) X2 τ v (hv_A n (fun i => a (i + o)) H.size) arr) (hv_A n (fun i => a (i + o)) H.size)) (kk : hv_G p l e R s m args below meth c nL D N a X (cells + mc) (slots + ms) Q (hv_mg o n σ τ) (pc + 3) lv (v.toList ++ rest)) : hv_G p l e R s m args below meth c nL D N a X cells slots Q σ pc lv st := by
  intro H locs ls hP hD hS hl T hT Xs
  obtain ⟨v', st₀, t, T', L, h0, X', hL, e1, e2, ⟨hv, hP1, hz, hk⟩, step⟩ := hrun H locs ls hP hD hS hl T hT Xs
  cases hv
  rw [h0] at hz hk
  have hsub := hv_subA2 (n := n) (o := o) (N := N) (a := a) hn hS.1
  obtain ⟨t2, a1, b1⟩ := kk T'.heap (locs ++ L) ls (by rw [e1]; exact hv_mg_P hE hn hP hD hk hP1) (hv_D_of hD)
    ⟨Nat.le_trans hS.1 (by rw [e1]; exact hz), fun q h1 h2 => by rw [e1, hk q (Nat.lt_of_lt_of_le h1 hS.1) (fun z => h2 (hsub q z))]; exact hS.2.1 q h1 h2, fun q hq => by
      rcases List.mem_append.mp hq with h | h
      · exact hS.2.2 q h
      · exact hsub _ (hL q h)⟩ hl T' rfl X'
  exact ⟨t2, step t2 a1, b1⟩
theorem g_subV (C : hv_C p s m args meth c cc nL Ts own D tys) (i : Nat) (hE : ∀ i, i < n → ∀ f g, X2 i f g = X (i + o) f g) (hn : n + o ≤ N) {ci index maxL na : Nat} {y : MethodName} {ws : List Cond} {rm : Room} {bytes : ByteArray} {ret : Option FieldType} {q : vw_C} {fs : List Value} {τ : hv_St} {v : Option Value} {As rest : List Value} (hM : hv_M l y ws rm D tys n (fun i => a (i + o)) X2 (.ref (a (i + o)) :: As) (hv_sh o σ) v τ) (cw : CallW R s args own q.1 index y bytes maxL ret ws rm 0 0 na) (hi : i < n) (hX : X2 i ((hv_sh o σ).1 i) ((hv_sh o σ).2 i) = .inr (ci, fs)) (hc : vwCl[ci]? = some q) (hna : As.length = na) (hst : st = As.reverse ++ .ref (a (i + o)) :: rest) (hroom : (rest.map fun v => v.category).sum ≤ 8) (hd : decode cc pc = .ok (.invokevirtual index, 3)) (hcl : cells ≤ R.cells ∧ slots ≤ R.slots) (kk : hv_G p l e R s m args below meth c nL D N a X cells slots Q (hv_mg o n σ τ) (pc + 3) lv (v.toList ++ rest)) : hv_G p l e R s m args below meth c nL D N a X cells slots Q σ pc lv st := by
  refine g_subrun (mc := 0) (ms := 0) (arr := (Value.ref (a (i + o)) :: As).toArray) hE hn (fun H locs ls hP hD hS hl => ?_) kk
  have hP2 := hv_sub_P (X2 := X2) hE hn hP
  have hD2 : va_D (fun _ => True) (hv_W n (fun i => a (i + o)) X2 (hv_sh o σ)) := hv_sub_D hn hD (fun _ _ => trivial)
  exact va_runV C.1 (hM H.size) cw ⟨hv_blind, va_recv (ci := ci) (q := q) (a := a (i + o)) (q0 := i) (fs := fs) C.2.1.1 hP2 hc (by rw [hv_W_get hi, hX]), fun U hU hW => ⟨rfl, by rw [hU], by rw [hU]; exact hP2, C.2.1.warm hW, hD2⟩⟩ rfl hna hl.1 hst (lv_room hroom) hd hcl
/-- the law's helpers: what stands through such a body, its contract -/
def hv_CW (p : Program) (s : State) (m : MethodId) (args : Array Value) (meth : Method) (c : Code) (cc : ByteArray) (nL : Nat) (Ts : List Cond) (own : String) (D : va_G) (tys : List (ClassId × FieldType)) (N : Nat) (a : Nat → Nat) (hh : List (Nat × Nat × Nat × Nat)) : Prop :=
  hv_C p s m args meth c cc nL Ts own D tys ∧ hv_T N a s ∧ c.exceptionTable.toList = tableOf hh
abbrev hv_WM (l : Launch) (y : MethodName) (ws : List Cond) (rm : Room) (D : va_G) (tys : List (ClassId × FieldType)) (N : Nat) (a : Nat → Nat) (X : hv_X) (mc ms : Nat) (as : List Value) (σ : hv_St) (v : Option Value) (σ' : hv_St) : Prop :=
  ∀ sz : Nat, Met l y ws rm (hv_PT D tys N a X σ sz as) (hv_Qc D N a X σ' v (hv_A N a sz)) mc ms (hv_A N a sz)
abbrev hv_WQ (D : va_G) (N : Nat) (a : Nat → Nat) (X : hv_X) (below : List Frame) (args : Array Value) (s : State) (v : Option Value) (σ : hv_St) (mc ms : Nat) : State → Prop := MQ below (hv_Qc D N a X σ v (hv_A N a s.heap.size)) args s mc ms (hv_A N a s.heap.size)
theorem hv_nse_in : Cond.castable hv_nse hv_nse ∈ hv_tw := by decide +kernel
/-- a call that returns or throws, in a try: it returned -/
theorem g_wret {hh : List (Nat × Nat × Nat × Nat)} (CW : hv_CW p s m args meth c cc nL Ts own D tys N a hh) (i : Nat) (hE : ∀ i, i < n → ∀ f g, X2 i f g = X (i + o) f g) (hn : n + o ≤ N) {ci index maxL na : Nat} {y : MethodName} {ws : List Cond} {rm : Room} {bytes : ByteArray} {ret : Option FieldType} {q : vw_C} {fs : List Value} {τ : hv_St} {v : Option Value} {As rest : List Value} {mc ms : Nat} (hM : hv_XM l y ws rm D tys n (fun i => a (i + o)) X2 mc ms (.ref (a (i + o)) :: As) (hv_sh o σ) (some v) τ) (cw : CallW R s args own q.1 index y bytes maxL ret ws rm mc ms na) (hi : i < n) (hX : X2 i ((hv_sh o σ).1 i) ((hv_sh o σ).2 i) = .inr (ci, fs)) (hc : vwCl[ci]? = some q) (hna : As.length = na) (hst : st = As.reverse ++ .ref (a (i + o)) :: rest) (hroom : (rest.map fun v => v.category).sum ≤ 8) (hd : decode cc pc = .ok (.invokevirtual index, 3)) (hcl : cells + mc ≤ R.cells ∧ slots + ms ≤ R.slots) (kk : hv_G p l e R s m args below meth c nL D N a X (cells + mc) (slots + ms) Q (hv_mg o n σ τ) (pc + 3) lv (v.toList ++ rest)) : hv_G p l e R s m args below meth c nL D N a X cells slots Q σ pc lv st := by
  intro H locs ls hP hD hS hl T hT Xs
  have hP2 := hv_sub_P (X2 := X2) hE hn hP
  have hD2 : va_D (fun _ => True) (hv_W n (fun i => a (i + o)) X2 (hv_sh o σ)) := hv_sub_D hn hD (fun _ _ => trivial)
  have hrun := vx_runV (p := p) (l := l) (e := e) (R := R) (below := below) (meth := meth) (locs := locs) (cells := cells) (slots := slots) (g := F0 m pc ls st) (rest := rest) CW.1.1 (hM H.size) cw ⟨hv_blindT, va_recv (ci := ci) (q := q) (a := a (i + o)) (q0 := i) (fs := fs) CW.1.2.1.1 hP2 hc (by rw [hv_W_get hi, hX]), fun U hU hW => ⟨rfl, by rw [hU], by rw [hU]; exact hP2, CW.1.2.1.warm hW, hD2, (CW.2.1.warm hS hU hW).sub hn⟩⟩ rfl hna hl.1 hst (lv_room hroom) hd hcl
  rcases hrun T hT Xs with ⟨v', st₀, t, T', L, h0, X', hL, e1, e2, ⟨⟨v2, hv2, hv⟩, hP1, hz, hk⟩, step⟩ | ⟨q, st₀, t, T', L, E, ce, h0, X', hL, e1, e2, ⟨hq, -⟩, -⟩
  · cases hv2
    cases hv
    rw [h0] at hz hk
    have hsub := hv_subA2 (n := n) (o := o) (N := N) (a := a) hn hS.1
    obtain ⟨t2, a1, b1⟩ := kk T'.heap (locs ++ L) ls (by rw [e1]; exact hv_mg_P hE hn hP hD hk hP1) (hv_D_of hD)
      ⟨Nat.le_trans hS.1 (by rw [e1]; exact hz), fun q h1 h2 => by rw [e1, hk q (Nat.lt_of_lt_of_le h1 hS.1) (fun z => h2 (hsub q z))]; exact hS.2.1 q h1 h2, fun q hq => by
        rcases List.mem_append.mp hq with h | h
        · exact hS.2.2 q h
        · exact hsub _ (hL q h)⟩ hl T' rfl X'
    exact ⟨t2, step t2 a1, b1⟩
  · cases hq
/-- .. it threw: on at the handler -/
theorem g_wthr {z1 z2 z3 z4 : Nat} (CW : hv_CW p s m args meth c cc nL Ts own D tys N a [(z1, z2, z3, z4)]) (i : Nat) (hE : ∀ i, i < n → ∀ f g, X2 i f g = X (i + o) f g) (hn : n + o ≤ N) {ci index maxL na : Nat} {y : MethodName} {ws : List Cond} {rm : Room} {bytes : ByteArray} {ret : Option FieldType} {q : vw_C} {fs : List Value} {τ : hv_St} {As rest : List Value} {mc ms : Nat} (hM : hv_XM l y ws rm D tys n (fun i => a (i + o)) X2 mc ms (.ref (a (i + o)) :: As) (hv_sh o σ) none τ) (cw : CallW R s args own q.1 index y bytes maxL ret ws rm mc ms na) (hi : i < n) (hX : X2 i ((hv_sh o σ).1 i) ((hv_sh o σ).2 i) = .inr (ci, fs)) (hc : vwCl[ci]? = some q) (hna : As.length = na) (hst : st = As.reverse ++ .ref (a (i + o)) :: rest) (hroom : (rest.map fun v => v.category).sum ≤ 8) (hd : decode cc pc = .ok (.invokevirtual index, 3)) (hcl : cells + mc ≤ R.cells ∧ slots + ms ≤ R.slots)
    (hz : z4 ≠ 0) (hlink : Cond.classLink own z4 hv_nse ∈ Ts) (hcov : covers ⟨z1, z2, z3, z4⟩ pc = true) (kk : ∀ q : Nat, hv_G p l e R s m args below meth c nL D N a X (cells + mc) (slots + ms) Q (hv_mg o n σ τ) z3 lv [.ref q]) : hv_G p l e R s m args below meth c nL D N a X cells slots Q σ pc lv st := by
  intro H locs ls hP hD hS hl T hT Xs
  have hP2 := hv_sub_P (X2 := X2) hE hn hP
  have hD2 : va_D (fun _ => True) (hv_W n (fun i => a (i + o)) X2 (hv_sh o σ)) := hv_sub_D hn hD (fun _ _ => trivial)
  have hrun := vx_runV (p := p) (l := l) (e := e) (R := R) (below := below) (meth := meth) (locs := locs) (cells := cells) (slots := slots) (g := F0 m pc ls st) (rest := rest) CW.1.1 (hM H.size) cw ⟨hv_blindT, va_recv (ci := ci) (q := q) (a := a (i + o)) (q0 := i) (fs := fs) CW.1.2.1.1 hP2 hc (by rw [hv_W_get hi, hX]), fun U hU hW => ⟨rfl, by rw [hU], by rw [hU]; exact hP2, CW.1.2.1.warm hW, hD2, (CW.2.1.warm hS hU hW).sub hn⟩⟩ rfl hna hl.1 hst (lv_room hroom) hd hcl
  rcases hrun T hT Xs with ⟨v', st₀, t, T', L, h0, X', hL, e1, e2, ⟨⟨v2, hv2, hv⟩, -⟩, step⟩ | ⟨q, st₀, t, T', L, E, ce, h0, X', hL, e1, e2, ⟨-, hE1, hP1, hz1, hk⟩, hce, hcv, hcl, step⟩
  · cases hv2
  · rw [h0] at hz1 hk
    subst hE1
    have hsub := hv_subA2 (n := n) (o := o) (N := N) (a := a) hn hS.1
    have hG := kk q T'.heap (locs ++ L) ls (by rw [e1]; exact hv_mg_P hE hn hP hD hk hP1) (hv_D_of hD)
      ⟨Nat.le_trans hS.1 (by rw [e1]; exact hz1), fun q h1 h2 => by rw [e1, hk q (Nat.lt_of_lt_of_le h1 hS.1) (fun z => h2 (hsub q z))]; exact hS.2.1 q h1 h2, fun q hq => by
        rcases List.mem_append.mp hq with h | h
        · exact hS.2.2 q h
        · exact hsub _ (hL q h)⟩ hl
    have hcat := vx_catch (p := p) (l := l) (e := e) (R := R) (s := s) (m := m) (args := args) (below := below) (meth := meth) (c := c) (H := T'.heap) (locs := locs ++ L) (cells := cells + mc) (slots := slots + ms) (Q := Q) (pc := pc) (ls := ls) (rest := rest) (own := own) (name := hv_nse) (E := hv_nse) (ce := ce) (q := q) CW.1.1.2.2.2.1 [] ⟨z1, z2, z3, z4⟩ [] (by rw [CW.2.2]; rfl) (fun z hz => by cases hz) hcov hz (CW.1.1.2.2.2.2 _ hlink) (va_Nw.use rfl (CW.2.1.2.2 _ hv_nse_in)) (by rw [e1]; exact hce) hcv hcl hG
    obtain ⟨t2, a1, b1⟩ := hcat T' rfl X'
    exact ⟨t2, step.trans a1, b1⟩
theorem g_wiret {hh : List (Nat × Nat × Nat × Nat)} (CW : hv_CW p s m args meth c cc nL Ts own D tys N a hh) {x : Int32} {MC MS : Nat} (hr : meth.sig.returnType = some .int) (hd : decode cc pc = .ok (.ireturn, 1)) (h1 : cells ≤ MC) (h2 : slots ≤ MS) : hv_G p l e R s m args below meth c nL D N a X cells slots (hv_WQ D N a X below args s (some (.int x)) σ MC MS) σ pc lv [.int x] := by
  intro H locs ls hP hD hS hl
  refine W.widen h1 h2 ?_
  exact W.iret (v := x) CW.1.1.1 CW.1.1.2.1 hr (fun t ht hW => ⟨rfl, by rw [ht]; exact hP, hS.F ht⟩) hS.2.2 hd CW.1.2.2
theorem hv_wenter {y : MethodName} {ws ws' : List Cond} {rm : Room} {maxL : Nat} {ret : Option FieldType} {as : List Value} {v : Option Value} {σ' : hv_St} {own : String} {mc ms : Nat} {hh : List (Nat × Nat × Nat × Nat)} (hy : plainName y.cls = true) (ho : y.cls = own) (hw : ws = Cond.codeWith y cc maxL ret hh :: ws') (hlen : (lg_sl as).length ≤ maxL)
    (body : ∀ (p : Program) (e : Env) (s : State) (m : MethodId) (args : Array Value) (below : List Frame) (meth : Method) (c : Code), hv_CW p s m args meth c cc maxL ws own D tys N a hh → meth.sig.returnType = ret → hv_G p l e (headSpec ws rm).room s m args below meth c maxL D N a X 0 0 (hv_WQ D N a X below args s v σ' mc ms) σ 0 (lv_args 0 as) []) : hv_WM l y ws rm D tys N a X mc ms as σ v σ' := by
  intro sz
  refine va_MetW (cc := cc) (maxL := maxL) (ret := ret) (hh := hh) hy hw ?_
  intro p e s m args below meth c s₁ B hml hv
  have htab := vx_table (x := y) (hh := hh) (bytes := cc) (maxL' := maxL) (ret' := ret) (y := y) B (atoms_spec (ws := ws) B.pre _ (by rw [hw]; exact List.mem_cons_self))
  obtain ⟨rfl, hsz, hP, hK, hD0, hTT⟩ := hv
  subst hsz
  subst ho
  have C : hv_C p s m as.toArray meth c cc maxL ws y.cls D tys := ⟨⟨B.exec, B.bytes, hml, findClass_of_methodNamed B.named, atoms_spec (ws := ws) B.pre⟩, hK, B.notSynchronized⟩
  rw [lg_entry_eq]
  exact body p e s m as.toArray below meth c ⟨C, hTT, htab⟩ B.returns s.heap [] _ hP (hv_D_self hD0) va_S.rf (lv_entry as hlen)
/-- a call of such a helper, on the world from cell 0 on -/
theorem g_callW (C : hv_C p s m args meth c cc nL Ts own D tys) (hT : hv_T N a s) (hE : ∀ i, i < n → ∀ f g, X2 i f g = X (i + 0) f g) (hn : n + 0 ≤ N) {index maxL na : Nat} {y : MethodName} {hh : List (Nat × Nat × Nat × Nat)} {ws : List Cond} {rm : Room} {bytes : ByteArray} {ret : Option FieldType} {τ : hv_St} {v : Option Value} {As rest : List Value} {mc ms : Nat} (hM : hv_WM l y ws rm D tys n (fun i => a (i + 0)) X2 mc ms As (hv_sh 0 σ) v τ) (cw : vx_CSW R s args own index y bytes maxL ret hh ws rm mc ms na) (hna : As.length = na) (hst : st = As.reverse ++ rest) (hroom : (rest.map fun v => v.category).sum ≤ 8) (hd : decode cc pc = .ok (.invokestatic index, 3)) (hcl : cells + mc ≤ R.cells ∧ slots + ms ≤ R.slots) (kk : hv_G p l e R s m args below meth c nL D N a X (cells + mc) (slots + ms) Q (hv_mg 0 n σ τ) (pc + 3) lv (v.toList ++ rest)) : hv_G p l e R s m args below meth c nL D N a X cells slots Q σ pc lv st := by
  refine g_subrun (mc := mc) (ms := ms) (arr := As.toArray) hE hn (fun H locs ls hP hD hS hl => ?_) kk
  have hP2 := hv_sub_P (X2 := X2) hE hn hP
  have hD2 : va_D (fun _ => True) (hv_W n (fun i => a (i + 0)) X2 (hv_sh 0 σ)) := hv_sub_D hn hD (fun _ _ => trivial)
  exact vx_runSW C.1 (hM H.size) cw ⟨hv_blindT, fun U hU hW => ⟨rfl, by rw [hU], by rw [hU]; exact hP2, C.2.1.warm hW, hD2, (hT.warm hS hU hW).sub hn⟩⟩ rfl hna hl.1 hst (lv_room hroom) hd hcl
end HVS
