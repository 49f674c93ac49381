/-! rows: pull, state, force; told, plus, times, whole, isLeast -/
theorem hv_by_some {τ ρ : Type} {x : Option (Option τ × hv_St)} {k0 : hv_St → Option ρ} {k1 : τ → hv_St → Option ρ} {o : ρ} (h : hv_by x k0 k1 = some o) : (∃ σ, x = some (none, σ) ∧ k0 σ = some o) ∨ ∃ y σ, x = some (some y, σ) ∧ k1 y σ = some o := by
  match x, h with
  | none, h => cases h
  | some (none, σ), h => exact Or.inl ⟨σ, rfl, h⟩
  | some (some y, σ), h => exact Or.inr ⟨y, σ, rfl, h⟩
def hv_ox {α ρ : Type} (r : Option α) (k0 : Option ρ) (k1 : α → Option ρ) : Option ρ := match r with
  | none => k0
  | some x => k1 x
theorem hv_ox_some {α ρ : Type} {r : Option α} {k0 : Option ρ} {k1 : α → Option ρ} {o : ρ} (h : hv_ox r k0 k1 = some o) : (r = none ∧ k0 = some o) ∨ ∃ x, r = some x ∧ k1 x = some o := by
  match r, h with
  | none, h => exact Or.inl ⟨rfl, h⟩
  | some x, h => exact Or.inr ⟨x, rfl, h⟩
theorem lv_mem {w1 w2 rows : va_W} {x : Nat × va_E} (k : Nat) (h : rows[k]? = some x) : x ∈ w1 ++ (w2 ++ rows) := List.mem_append_right _ (List.mem_append_right _ (List.mem_of_getElem? h))
theorem lv_keep {w1 w2 rows rows' w : va_W} (h : rows'.Sublist (rows ++ w)) : (w1 ++ (w2 ++ rows')).Sublist ((w1 ++ (w2 ++ rows)) ++ w) := by
  rw [List.append_assoc, List.append_assoc]
  exact (List.Sublist.refl w1).append ((List.Sublist.refl w2).append h)
theorem lv_keep2 {w1 w2 rows rows' : va_W} (h : rows'.Sublist rows) : (w1 ++ (w2 ++ rows')).Sublist (w1 ++ (w2 ++ rows)) := (List.Sublist.refl w1).append ((List.Sublist.refl w2).append h)
theorem lv_drop {w1 w2 rows : va_W} : (w1 ++ w2).Sublist (w1 ++ (w2 ++ rows)) := (List.Sublist.refl w1).append (List.sublist_append_left _ _)
theorem lv_nil {w1 w2 : va_W} : w1 ++ w2 = w1 ++ (w2 ++ []) := by rw [List.append_nil]
section LR3
variable {p : Program} {l : Launch} {e : Env} {R : Room} {s : State} {m : MethodId} {args : Array Value} {below : List Frame} {meth : Method} {c : Code} {cc : ByteArray} {nL : Nat} {Ts : List Cond} {own : String} {D : va_G} {cy : ClassId × ClassId × ClassId × ClassId} {A : Nat → Prop} {cells slots : Nat} {Q : State → Prop} {ws : va_W} {pc : Nat} {lv : List (Nat × Value)} {st : List Value} {a : Nat → Nat} {X : hv_X} {N : Nat} {σ : hv_St} {tl : va_W}
/-- a call that returns or throws, in a try: it returned -/
theorem r_wret {hh : List (Nat × Nat × Nat × Nat)} (C : hv_C p s m args meth c cc nL Ts own D (hv_tys cy)) (hA : ∀ q, s.heap.size ≤ q → A q) (hT : hv_TA A s) (htab : c.exceptionTable.toList = tableOf hh) (i : Nat) {ci index maxL na : Nat} {y : MethodName} {wd : List Cond} {rm : Room} {bytes : ByteArray} {ret : Option FieldType} {q : vw_C} {fs : List Value} {τ : hv_St} {v : Option Value} {As rest : List Value} {mc ms : Nat} (hM : hv_XM l y wd rm D (hv_tys cy) N a X mc ms (.ref (a i) :: As) σ (some v) τ) (cw : CallW R s args own q.1 index y bytes maxL ret wd rm mc ms na) (hi : i < N) (hX : X i (σ.1 i) (σ.2 i) = .inr (ci, fs)) (hc : vwCl[ci]? = some q) (hna : As.length = na) (hst : st = As.reverse ++ .ref (a i) :: rest) (hroom : (rest.map fun v => v.category).sum ≤ 8) (hd : decode cc pc = .ok (.invokevirtual index, 3)) (hcl : cells + mc ≤ R.cells ∧ slots + ms ≤ R.slots) (kk : hv_J p l e R s m args below meth c nL D A (cells + mc) (slots + ms) Q (hv_W N a X τ ++ tl) (pc + 3) lv (v.toList ++ rest)) : hv_J p l e R s m args below meth c nL D A cells slots Q (hv_W N a X σ ++ tl) pc lv st := by
  intro H locs ls hP hD hS hl T hTT Xs
  have hP2 := (lv_P_app.mp hP).1
  have hD2 : va_D (fun _ => True) (hv_W N a X σ) := (lv_D_app.mp hD).1.weaken (fun _ _ _ _ => trivial)
  have hsub := lv_blkA (pre := []) (tl := tl) hA hD hS
  have hrun := vx_runV (p := p) (l := l) (e := e) (R := R) (below := below) (meth := meth) (locs := locs) (cells := cells) (slots := slots) (g := F0 m pc ls st) (rest := rest) C.1 (hM H.size) cw ⟨hv_blindT, va_recv (ci := ci) (q := q) (a := a i) (q0 := i) (fs := fs) C.2.1.1 hP2 hc (by rw [hv_W_get hi, hX]), fun U hU hW => ⟨rfl, by rw [hU], by rw [hU]; exact hP2, C.2.1.warm hW, hD2, (hT.warm hS hU hW (by rw [hU]; exact hsub)).1⟩⟩ rfl hna hl.1 hst (lv_room hroom) hd hcl
  rcases hrun T hTT Xs with ⟨v', st₀, t, T', L, h0, X', hL, e1, e2, ⟨⟨v2, hv2, hv⟩, hP1, hz, hk⟩, step⟩ | ⟨q, st₀, t, T', L, E, ce, h0, X', hL, e1, e2, ⟨hq, -⟩, -⟩
  · cases hv2
    cases hv
    rw [h0] at hz hk
    obtain ⟨g1, g2⟩ := lv_blk (pre := []) hP hD hk hP1
    obtain ⟨t2, a1, b1⟩ := kk T'.heap (locs ++ L) ls (by rw [e1]; exact g1) g2 (by rw [e1]; exact lv_S hS hsub hz hk hL) hl T' rfl X'
    exact ⟨t2, step t2 a1, b1⟩
  · cases hq
/-- .. it threw: on at the handler -/
theorem r_wthr {z1 z2 z3 z4 : Nat} (C : hv_C p s m args meth c cc nL Ts own D (hv_tys cy)) (hA : ∀ q, s.heap.size ≤ q → A q) (hT : hv_TA A s) (htab : c.exceptionTable.toList = tableOf [(z1, z2, z3, z4)]) (i : Nat) {ci index maxL na : Nat} {y : MethodName} {wd : List Cond} {rm : Room} {bytes : ByteArray} {ret : Option FieldType} {q : vw_C} {fs : List Value} {τ : hv_St} {As rest : List Value} {mc ms : Nat} (hM : hv_XM l y wd rm D (hv_tys cy) N a X mc ms (.ref (a i) :: As) σ none τ) (cw : CallW R s args own q.1 index y bytes maxL ret wd rm mc ms na) (hi : i < N) (hX : X i (σ.1 i) (σ.2 i) = .inr (ci, fs)) (hc : vwCl[ci]? = some q) (hna : As.length = na) (hst : st = As.reverse ++ .ref (a i) :: rest) (hroom : (rest.map fun v => v.category).sum ≤ 8) (hd : decode cc pc = .ok (.invokevirtual index, 3)) (hcl : cells + mc ≤ R.cells ∧ slots + ms ≤ R.slots)
    (hz : z4 ≠ 0) (hlink : Cond.classLink own z4 hv_nse ∈ Ts) (hcov : covers ⟨z1, z2, z3, z4⟩ pc = true) (kk : ∀ q : Nat, hv_J p l e R s m args below meth c nL D A (cells + mc) (slots + ms) Q (hv_W N a X τ ++ tl) z3 lv [.ref q]) : hv_J p l e R s m args below meth c nL D A cells slots Q (hv_W N a X σ ++ tl) pc lv st := by
  intro H locs ls hP hD hS hl T hTT Xs
  have hP2 := (lv_P_app.mp hP).1
  have hD2 : va_D (fun _ => True) (hv_W N a X σ) := (lv_D_app.mp hD).1.weaken (fun _ _ _ _ => trivial)
  have hsub := lv_blkA (pre := []) (tl := tl) hA hD hS
  have hrun := vx_runV (p := p) (l := l) (e := e) (R := R) (below := below) (meth := meth) (locs := locs) (cells := cells) (slots := slots) (g := F0 m pc ls st) (rest := rest) C.1 (hM H.size) cw ⟨hv_blindT, va_recv (ci := ci) (q := q) (a := a i) (q0 := i) (fs := fs) C.2.1.1 hP2 hc (by rw [hv_W_get hi, hX]), fun U hU hW => ⟨rfl, by rw [hU], by rw [hU]; exact hP2, C.2.1.warm hW, hD2, (hT.warm hS hU hW (by rw [hU]; exact hsub)).1⟩⟩ rfl hna hl.1 hst (lv_room hroom) hd hcl
  rcases hrun T hTT Xs with ⟨v', st₀, t, T', L, h0, X', hL, e1, e2, ⟨⟨v2, hv2, hv⟩, -⟩, step⟩ | ⟨q, st₀, t, T', L, E, ce, h0, X', hL, e1, e2, ⟨-, hE1, hP1, hz1, hk⟩, hce, hcv, hcl, step⟩
  · cases hv2
  · rw [h0] at hz1 hk
    subst hE1
    obtain ⟨g1, g2⟩ := lv_blk (pre := []) hP hD hk hP1
    have hG := kk q T'.heap (locs ++ L) ls (by rw [e1]; exact g1) g2 (by rw [e1]; exact lv_S hS hsub hz1 hk hL) hl
    have hcat := vx_catch (p := p) (l := l) (e := e) (R := R) (s := s) (m := m) (args := args) (below := below) (meth := meth) (c := c) (H := T'.heap) (locs := locs ++ L) (cells := cells + mc) (slots := slots + ms) (Q := Q) (pc := pc) (ls := ls) (rest := rest) (own := own) (name := hv_nse) (E := hv_nse) (ce := ce) (q := q) C.1.2.2.2.1 [] ⟨z1, z2, z3, z4⟩ [] (by rw [htab]; rfl) (fun z hz => by cases hz) hcov hz (C.1.2.2.2.2 _ hlink) (va_Nw.use rfl (hT.1.2.2 _ hv_nse_in)) (by rw [e1]; exact hce) hcv hcl hG
    obtain ⟨t2, a1, b1⟩ := hcat T' rfl X'
    exact ⟨t2, step.trans a1, b1⟩
theorem lv_enterW {y : MethodName} {wd wd' : List Cond} {rm : Room} {maxL mc ms : Nat} {ret : Option FieldType} {as : List Value} {Rr : Option Value → va_W → Prop} {own : String} {hh : List (Nat × Nat × Nat × Nat)} (hy : plainName y.cls = true) (ho : y.cls = own) (hw : wd = Cond.codeWith y cc maxL ret hh :: wd') (hlen : (lg_sl as).length ≤ maxL)
    (body : ∀ (p : Program) (e : Env) (s : State) (m : MethodId) (args : Array Value) (below : List Frame) (meth : Method) (c : Code) (A : Nat → Prop), hv_C p s m args meth c cc maxL wd own D (hv_tys cy) → (∀ q, s.heap.size ≤ q → A q) → hv_TA A s → c.exceptionTable.toList = tableOf hh → meth.sig.returnType = ret → hv_J p l e (headSpec wd rm).room s m args below meth c maxL D A 0 0 (MQ below (lv_Q D Rr A) args s mc ms A) ws 0 (lv_args 0 as) []) : lv_M l y wd rm D cy mc ms as ws Rr := by
  intro sz
  refine va_MetW (cc := cc) (maxL := maxL) (ret := ret) (hh := hh) hy hw ?_
  intro p e s m args below meth c s₁ B hml hv
  have htab := vx_table (x := y) (hh := hh) (bytes := cc) (maxL' := maxL) (ret' := ret) (y := y) B (atoms_spec (ws := wd) B.pre _ (by rw [hw]; exact List.mem_cons_self))
  obtain ⟨rfl, hsz, hP, hK, hD0, hTT⟩ := hv
  subst hsz
  subst ho
  have C : hv_C p s m as.toArray meth c cc maxL wd y.cls D (hv_tys cy) := ⟨⟨B.exec, B.bytes, hml, findClass_of_methodNamed B.named, atoms_spec (ws := wd) B.pre⟩, hK, B.notSynchronized⟩
  rw [lg_entry_eq]
  exact body p e s m as.toArray below meth c (va_A ws s.heap.size) C (fun q h => Or.inr h) hTT htab B.returns s.heap [] _ hP (hD0.self (sz := s.heap.size)) va_S.rf (lv_entry as hlen)
end LR3
section LR5
variable {p : Program} {l : Launch} {e : Env} {R : Room} {s : State} {m : MethodId} {args : Array Value} {below : List Frame} {meth : Method} {c : Code} {cc : ByteArray} {nL : Nat} {Ts : List Cond} {own : String} {D : va_G} {cy : ClassId × ClassId × ClassId × ClassId} {A : Nat → Prop} {cells slots : Nat} {Q : State → Prop} {wr : va_W} {pc : Nat} {lv : List (Nat × Value)} {st : List Value}
/-- a constructor's call: its object's cell stands last -/
theorem r_runI {mc ms b : Nat} {E : va_E} {w : (Nat → Nat) → va_W} {rest : List Value} {arr : Array Value} (hA : ∀ q, s.heap.size ≤ q → A q) (hrun : ∀ (H : Heap) (locs : List Loc) (ls : Array Slot), va_P D vwCl [(b, E)] H → va_D (fun _ => True) [(b, E)] → lv_has ls nL lv → va_Run p l e R s m args below meth c H locs cells slots mc ms (F0 m pc ls st) rest (hv_IQ D w (va_A [(b, E)] H.size) arr) (va_A [(b, E)] H.size)) (kk : ∀ u : Nat → Nat, hv_J p l e R s m args below meth c nL D A (cells + mc) (slots + ms) Q (wr ++ w u) (pc + 3) lv rest) : hv_J p l e R s m args below meth c nL D A cells slots Q (wr ++ [(b, E)]) pc lv st := by
  intro H locs ls hP hD hS hl
  obtain ⟨p1, p2⟩ := lv_P_app.mp hP
  obtain ⟨d1, d2, d3⟩ := lv_D_app.mp hD
  have hFc : ∀ q, va_A [(b, E)] H.size q → A q := fun q h => by
    rcases h with ⟨k, e1, h⟩ | h
    · exact (lv_D_iff.mp d2).2 (q, e1) (List.mem_of_getElem? h)
    · exact hA q (Nat.le_trans hS.1 h)
  refine va_callv (hrun H locs ls p2 (d2.weaken (fun _ _ _ _ => trivial)) hl) hS (fun q _ h => hFc q h) hFc (fun u t H1 locs1 ht hvm hw hB hz1 hk1 hS1 => ?_)
  rw [ht] at hB
  have apart : ∀ x ∈ wr, ¬ va_A [(b, E)] H.size x.1 := fun x hx h => by
    rcases h with ⟨k, e3, h⟩ | h
    · exact d3 x hx (x.1, e3) (List.mem_of_getElem? h) rfl
    · have := (lv_P_iff.mp p1 x hx).lt
      omega
  exact kk u H1 locs1 ls (lv_P_app.mpr ⟨lv_P_iff.mpr (fun x hx => (lv_P_iff.mp p1 x hx).kept (hk1 x.1 (lv_P_iff.mp p1 x hx).lt (apart x hx))), hB.1⟩) (lv_D_app.mpr ⟨d1, hB.2.weaken (fun _ _ _ h => hFc _ h), fun x hx y hy e3 => apart x hx (by rw [e3]; exact (lv_D_iff.mp hB.2).2 y hy)⟩) hS1 hl
theorem r_ini (C : hv_C p s m args meth c cc nL Ts own D (hv_tys cy)) (hA : ∀ q, s.heap.size ≤ q → A q) (hT : hv_TA A s) {index maxL na b mc ms : Nat} {y : MethodName} {wd : List Cond} {rm : Room} {bytes : ByteArray} {E : va_E} {w : (Nat → Nat) → va_W} {As rest : List Value} (hM : hv_IM l y wd rm D cy mc ms (.ref b :: As) [(b, E)] w) (cw : CallB R s args own index y bytes maxL none wd rm mc ms na ∧ y.name = "<init>" ∧ (Cond.instanceMethod y).before args s = true) (hna : As.length = na) (hst : st = As.reverse ++ .ref b :: rest) (hroom : (rest.map fun v => v.category).sum ≤ 8) (hd : decode cc pc = .ok (.invokespecial index, 3)) (hcl : cells + mc ≤ R.cells ∧ slots + ms ≤ R.slots) (kk : ∀ u : Nat → Nat, hv_J p l e R s m args below meth c nL D A (cells + mc) (slots + ms) Q (wr ++ w u) (pc + 3) lv rest) : hv_J p l e R s m args below meth c nL D A cells slots Q (wr ++ [(b, E)]) pc lv st :=
  r_runI (arr := (Value.ref b :: As).toArray) hA (fun H locs ls hP hD hl => va_runI C.1 (hM H.size) cw ⟨hv_blindI, fun U hU hW => ⟨rfl, by rw [hU], by rw [hU]; exact hP, C.2.1.warm hW, hD, hv_aoa hW.alike hT.2⟩⟩ rfl hna hl.1 hst (lv_room hroom) hd hcl) kk
theorem r_iniN (C : hv_C p s m args meth c cc nL Ts own D (hv_tys cy)) (hA : ∀ q, s.heap.size ≤ q → A q) (hT : hv_TA A s) {index maxL na b mc ms : Nat} {y : MethodName} {host : String} {wd : List Cond} {rm : Room} {bytes : ByteArray} {E : va_E} {w : (Nat → Nat) → va_W} {As rest : List Value} (hM : hv_IM l y wd rm D cy mc ms (.ref b :: As) [(b, E)] w) (cw : va_CN R s args own index y host bytes maxL none wd rm mc ms na ∧ y.name = "<init>" ∧ (Cond.instanceMethod y).before args s = true) (hna : As.length = na) (hst : st = As.reverse ++ .ref b :: rest) (hroom : (rest.map fun v => v.category).sum ≤ 8) (hd : decode cc pc = .ok (.invokespecial index, 3)) (hcl : cells + mc ≤ R.cells ∧ slots + ms ≤ R.slots) (kk : ∀ u : Nat → Nat, hv_J p l e R s m args below meth c nL D A (cells + mc) (slots + ms) Q (wr ++ w u) (pc + 3) lv rest) : hv_J p l e R s m args below meth c nL D A cells slots Q (wr ++ [(b, E)]) pc lv st :=
  r_runI (arr := (Value.ref b :: As).toArray) hA (fun H locs ls hP hD hl => va_runIN C.1 (hM H.size) cw ⟨hv_blindI, fun U hU hW => ⟨rfl, by rw [hU], by rw [hU]; exact hP, C.2.1.warm hW, hD, hv_aoa hW.alike hT.2⟩⟩ rfl hna hl.1 hst (lv_room hroom) hd hcl) kk
theorem r_tw1 {ws : va_W} {κ n : Nat} (kk : hv_J p l e R s m args below meth c nL D A (κ + 1) (12 * (κ + 1)) Q ws pc lv st) (hn : n ≤ 12 := by decide) : hv_J p l e R s m args below meth c nL D A (κ + 1) (12 * κ + n) Q ws pc lv st := r_wide (Nat.le_refl _) (by omega) kk
end LR5

section
variable {p : Program} {l : Launch} {e : Env} {s : State} {m : MethodId} {args : Array Value} {below : List Frame} {meth : Method} {c : Code} {D : va_G} {cy : ClassId × ClassId × ClassId × ClassId} {A : Nat → Prop} {a b : Nat → Nat} {d0 : Nat}
abbrev rmQ_pull : Room := { frames := 8, cells := 3, slots := 12 * 3, locals := 164 }
def mQ_pull (n : Nat) (σ : hv_St) (p1 : Int32) : Option (Option (Int64 × Int64) × hv_St) := hv_by (mX7_pull n σ p1 (0 : Int32)) (fun σ1 => some (none, σ1)) (fun u σ1 => hv_by (mX7_pull n σ1 p1 (1 : Int32)) (fun σ2 => some (none, σ2)) (fun v σ2 => some (some (u, v), σ2)))
set_option maxRecDepth 20000 in
theorem qL_pull_C : Cond.classLink RL 13 hv_nse ∈ wsL_pull := by decide +kernel
set_option maxRecDepth 20000 in
theorem qL_pull_A : Cond.arrayClass .long ∈ wsL_pull := by decide +kernel
set_option maxHeartbeats 4000000 in
set_option maxRecDepth 20000 in
theorem vQ_pull (hflag : l.stackTraces = false) {n : Nat} {σ : hv_St} {p1 : Int32} {o : Option (Int64 × Int64) × hv_St} (h : mQ_pull n σ p1 = some o) : lv_M l yL_pull wsL_pull rmQ_pull D cy 3 (12 * 3) [.ref (a 0), .int p1] (hv_W 55 a (hv_XE a cy) σ) (lv_nul cy o.1 (hv_W 55 a (hv_XE a cy) o.2)) := by
  refine lv_enterW (own := RL) (cc := cL_pull) (maxL := 3) (ret := some (.array .long)) (hh := [(0, 21, 22, 13)]) (by decide) rfl rfl (Nat.le_of_ble_eq_true rfl) ?_
  intro p e s m args below meth c A C hA hT htab hr
  unfold mQ_pull at h
  refine r_lv [0, 1] (lv' := [(0, .ref (a 0)), (1, .int p1)]) rfl ?_
  refine r_iconst (pc := 0) (v := (2 : Int32)) C dL_pull_0 (by decide) ?_
  refine r_newl (pc := 1) C hA qL_pull_A (Nat.le_of_ble_eq_true rfl) (Nat.le_of_ble_eq_true rfl) dL_pull_1 (fun q => ?_)
  refine r_dup (pc := 3) C dL_pull_3 rfl ?_
  refine r_iconst (pc := 4) (v := (0 : Int32)) C dL_pull_4 (by decide) ?_
  refine r_aload_n (pc := 5) C 0 dL_pull_5 rfl rfl ?_
  refine r_iload_n (pc := 6) C 1 dL_pull_6 rfl rfl ?_
  refine r_iconst (pc := 7) (v := (0 : Int32)) C dL_pull_7 (by decide) ?_
  rcases hv_by_some h with ⟨τ1, hc0, h⟩ | ⟨u, τ1, hc0, h⟩
  · refine r_wthr (pc := 8) (τ := τ1) (As := [.int p1, .int (0 : Int32)]) (rest := [.int (0 : Int32), .ref q, .ref q]) C hA hT htab 0 (vX7_pull hflag hc0) (cwV 2 C.1.2.2.2.2 gL_pull_X7_pull rfl rfl rfl (by decide +kernel) ⟨(Nat.le_of_ble_eq_true rfl), (Nat.le_of_ble_eq_true rfl)⟩) (Nat.le_of_ble_eq_true rfl) rfl rfl rfl rfl (Nat.le_of_ble_eq_true rfl) dL_pull_8 ⟨(Nat.le_of_ble_eq_true rfl), (Nat.le_of_ble_eq_true rfl)⟩ (by decide) qL_pull_C (by decide) (fun q9 => ?_)
    refine r_astore_n (pc := 22) (lv' := [(2, .ref q9), (0, .ref (a 0)), (1, .int p1)]) C rfl dL_pull_22 rfl (Nat.le_of_ble_eq_true rfl) rfl ?_
    refine r_null (pc := 23) C dL_pull_23 ?_
    cases h
    exact r_aretN (pc := 24) C (List.sublist_append_left _ _) ⟨rfl, rfl⟩ hr (Or.inr ⟨_, rfl⟩) dL_pull_24 (Nat.le_of_ble_eq_true rfl) (Nat.le_of_ble_eq_true rfl)
  · refine r_wret (pc := 8) (τ := τ1) (v := some (.long u)) (As := [.int p1, .int (0 : Int32)]) (rest := [.int (0 : Int32), .ref q, .ref q]) C hA hT htab 0 (vX7_pull hflag hc0) (cwV 2 C.1.2.2.2.2 gL_pull_X7_pull rfl rfl rfl (by decide +kernel) ⟨(Nat.le_of_ble_eq_true rfl), (Nat.le_of_ble_eq_true rfl)⟩) (Nat.le_of_ble_eq_true rfl) rfl rfl rfl rfl (Nat.le_of_ble_eq_true rfl) dL_pull_8 ⟨(Nat.le_of_ble_eq_true rfl), (Nat.le_of_ble_eq_true rfl)⟩ ?_
    refine r_st (st' := .long u :: [.int (0 : Int32), .ref q, .ref q]) rfl ?_
    refine r_last (pc := 11) (q := q) (f' := vp_updL (fun _ => 0) 0 u) C (by decide) rfl dL_pull_11 ?_
    refine r_dup (pc := 12) C dL_pull_12 rfl ?_
    refine r_iconst (pc := 13) (v := (1 : Int32)) C dL_pull_13 (by decide) ?_
    refine r_aload_n (pc := 14) C 0 dL_pull_14 rfl rfl ?_
    refine r_iload_n (pc := 15) C 1 dL_pull_15 rfl rfl ?_
    refine r_iconst (pc := 16) (v := (1 : Int32)) C dL_pull_16 (by decide) ?_
    rcases hv_by_some h with ⟨τ2, hc1, h⟩ | ⟨v, τ2, hc1, h⟩
    · refine r_wthr (pc := 17) (τ := τ2) (As := [.int p1, .int (1 : Int32)]) (rest := [.int (1 : Int32), .ref q, .ref q]) C hA hT htab 0 (vX7_pull hflag hc1) (cwV 2 C.1.2.2.2.2 gL_pull_X7_pull rfl rfl rfl (by decide +kernel) ⟨(Nat.le_of_ble_eq_true rfl), (Nat.le_of_ble_eq_true rfl)⟩) (Nat.le_of_ble_eq_true rfl) rfl rfl rfl rfl (Nat.le_of_ble_eq_true rfl) dL_pull_17 ⟨(Nat.le_of_ble_eq_true rfl), (Nat.le_of_ble_eq_true rfl)⟩ (by decide) qL_pull_C (by decide) (fun q9 => ?_)
      refine r_astore_n (pc := 22) (lv' := [(2, .ref q9), (0, .ref (a 0)), (1, .int p1)]) C rfl dL_pull_22 rfl (Nat.le_of_ble_eq_true rfl) rfl ?_
      refine r_null (pc := 23) C dL_pull_23 ?_
      cases h
      exact r_aretN (pc := 24) C (List.sublist_append_left _ _) ⟨rfl, rfl⟩ hr (Or.inr ⟨_, rfl⟩) dL_pull_24 (Nat.le_of_ble_eq_true rfl) (Nat.le_of_ble_eq_true rfl)
    · refine r_wret (pc := 17) (τ := τ2) (v := some (.long v)) (As := [.int p1, .int (1 : Int32)]) (rest := [.int (1 : Int32), .ref q, .ref q]) C hA hT htab 0 (vX7_pull hflag hc1) (cwV 2 C.1.2.2.2.2 gL_pull_X7_pull rfl rfl rfl (by decide +kernel) ⟨(Nat.le_of_ble_eq_true rfl), (Nat.le_of_ble_eq_true rfl)⟩) (Nat.le_of_ble_eq_true rfl) rfl rfl rfl rfl (Nat.le_of_ble_eq_true rfl) dL_pull_17 ⟨(Nat.le_of_ble_eq_true rfl), (Nat.le_of_ble_eq_true rfl)⟩ ?_
      refine r_st (st' := .long v :: [.int (1 : Int32), .ref q, .ref q]) rfl ?_
      refine r_last (pc := 20) (q := q) (f' := vp_updL (vp_updL (fun _ => 0) 0 u) 1 v) C (by decide) rfl dL_pull_20 ?_
      cases h
      exact r_aret (pc := 21) C (List.Sublist.refl _) ⟨q, rfl, rfl⟩ hr (Or.inr ⟨_, rfl⟩) dL_pull_21 (Nat.le_of_ble_eq_true rfl) (Nat.le_of_ble_eq_true rfl)
abbrev rmQ_state : Room := { frames := 8, cells := 3, slots := 12 * 3, locals := 165 }
def mQ_state (n : Nat) (σ : hv_St) (p1 : Int32) (p2 : Int32) : Option (Option (Int64 × Int64) × hv_St) := hv_by (mX7_state n σ p1 p2 (0 : Int32)) (fun σ1 => some (none, σ1)) (fun u σ1 => hv_by (mX7_state n σ1 p1 p2 (1 : Int32)) (fun σ2 => some (none, σ2)) (fun v σ2 => some (some (u, v), σ2)))
set_option maxRecDepth 20000 in
theorem qL_state_C : Cond.classLink RL 13 hv_nse ∈ wsL_state := by decide +kernel
set_option maxRecDepth 20000 in
theorem qL_state_A : Cond.arrayClass .long ∈ wsL_state := by decide +kernel
set_option maxHeartbeats 4000000 in
set_option maxRecDepth 20000 in
theorem vQ_state (hflag : l.stackTraces = false) {n : Nat} {σ : hv_St} {p1 : Int32} {p2 : Int32} {o : Option (Int64 × Int64) × hv_St} (h : mQ_state n σ p1 p2 = some o) : lv_M l yL_state wsL_state rmQ_state D cy 3 (12 * 3) [.ref (a 0), .int p1, .int p2] (hv_W 55 a (hv_XE a cy) σ) (lv_nul cy o.1 (hv_W 55 a (hv_XE a cy) o.2)) := by
  refine lv_enterW (own := RL) (cc := cL_state) (maxL := 4) (ret := some (.array .long)) (hh := [(0, 23, 24, 13)]) (by decide) rfl rfl (Nat.le_of_ble_eq_true rfl) ?_
  intro p e s m args below meth c A C hA hT htab hr
  unfold mQ_state at h
  refine r_lv [0, 1, 2] (lv' := [(0, .ref (a 0)), (1, .int p1), (2, .int p2)]) rfl ?_
  refine r_iconst (pc := 0) (v := (2 : Int32)) C dL_state_0 (by decide) ?_
  refine r_newl (pc := 1) C hA qL_state_A (Nat.le_of_ble_eq_true rfl) (Nat.le_of_ble_eq_true rfl) dL_state_1 (fun q => ?_)
  refine r_dup (pc := 3) C dL_state_3 rfl ?_
  refine r_iconst (pc := 4) (v := (0 : Int32)) C dL_state_4 (by decide) ?_
  refine r_aload_n (pc := 5) C 0 dL_state_5 rfl rfl ?_
  refine r_iload_n (pc := 6) C 1 dL_state_6 rfl rfl ?_
  refine r_iload_n (pc := 7) C 2 dL_state_7 rfl rfl ?_
  refine r_iconst (pc := 8) (v := (0 : Int32)) C dL_state_8 (by decide) ?_
  rcases hv_by_some h with ⟨τ1, hc0, h⟩ | ⟨u, τ1, hc0, h⟩
  · refine r_wthr (pc := 9) (τ := τ1) (As := [.int p1, .int p2, .int (0 : Int32)]) (rest := [.int (0 : Int32), .ref q, .ref q]) C hA hT htab 0 (vX7_state hflag hc0) (cwV 3 C.1.2.2.2.2 gL_state_X7_state rfl rfl rfl (by decide +kernel) ⟨(Nat.le_of_ble_eq_true rfl), (Nat.le_of_ble_eq_true rfl)⟩) (Nat.le_of_ble_eq_true rfl) rfl rfl rfl rfl (Nat.le_of_ble_eq_true rfl) dL_state_9 ⟨(Nat.le_of_ble_eq_true rfl), (Nat.le_of_ble_eq_true rfl)⟩ (by decide) qL_state_C (by decide) (fun q9 => ?_)
    refine r_astore_n (pc := 24) (lv' := [(3, .ref q9), (0, .ref (a 0)), (1, .int p1), (2, .int p2)]) C rfl dL_state_24 rfl (Nat.le_of_ble_eq_true rfl) rfl ?_
    refine r_null (pc := 25) C dL_state_25 ?_
    cases h
    exact r_aretN (pc := 26) C (List.sublist_append_left _ _) ⟨rfl, rfl⟩ hr (Or.inr ⟨_, rfl⟩) dL_state_26 (Nat.le_of_ble_eq_true rfl) (Nat.le_of_ble_eq_true rfl)
  · refine r_wret (pc := 9) (τ := τ1) (v := some (.long u)) (As := [.int p1, .int p2, .int (0 : Int32)]) (rest := [.int (0 : Int32), .ref q, .ref q]) C hA hT htab 0 (vX7_state hflag hc0) (cwV 3 C.1.2.2.2.2 gL_state_X7_state rfl rfl rfl (by decide +kernel) ⟨(Nat.le_of_ble_eq_true rfl), (Nat.le_of_ble_eq_true rfl)⟩) (Nat.le_of_ble_eq_true rfl) rfl rfl rfl rfl (Nat.le_of_ble_eq_true rfl) dL_state_9 ⟨(Nat.le_of_ble_eq_true rfl), (Nat.le_of_ble_eq_true rfl)⟩ ?_
    refine r_st (st' := .long u :: [.int (0 : Int32), .ref q, .ref q]) rfl ?_
    refine r_last (pc := 12) (q := q) (f' := vp_updL (fun _ => 0) 0 u) C (by decide) rfl dL_state_12 ?_
    refine r_dup (pc := 13) C dL_state_13 rfl ?_
    refine r_iconst (pc := 14) (v := (1 : Int32)) C dL_state_14 (by decide) ?_
    refine r_aload_n (pc := 15) C 0 dL_state_15 rfl rfl ?_
    refine r_iload_n (pc := 16) C 1 dL_state_16 rfl rfl ?_
    refine r_iload_n (pc := 17) C 2 dL_state_17 rfl rfl ?_
    refine r_iconst (pc := 18) (v := (1 : Int32)) C dL_state_18 (by decide) ?_
    rcases hv_by_some h with ⟨τ2, hc1, h⟩ | ⟨v, τ2, hc1, h⟩
    · refine r_wthr (pc := 19) (τ := τ2) (As := [.int p1, .int p2, .int (1 : Int32)]) (rest := [.int (1 : Int32), .ref q, .ref q]) C hA hT htab 0 (vX7_state hflag hc1) (cwV 3 C.1.2.2.2.2 gL_state_X7_state rfl rfl rfl (by decide +kernel) ⟨(Nat.le_of_ble_eq_true rfl), (Nat.le_of_ble_eq_true rfl)⟩) (Nat.le_of_ble_eq_true rfl) rfl rfl rfl rfl (Nat.le_of_ble_eq_true rfl) dL_state_19 ⟨(Nat.le_of_ble_eq_true rfl), (Nat.le_of_ble_eq_true rfl)⟩ (by decide) qL_state_C (by decide) (fun q9 => ?_)
      refine r_astore_n (pc := 24) (lv' := [(3, .ref q9), (0, .ref (a 0)), (1, .int p1), (2, .int p2)]) C rfl dL_state_24 rfl (Nat.le_of_ble_eq_true rfl) rfl ?_
      refine r_null (pc := 25) C dL_state_25 ?_
      cases h
      exact r_aretN (pc := 26) C (List.sublist_append_left _ _) ⟨rfl, rfl⟩ hr (Or.inr ⟨_, rfl⟩) dL_state_26 (Nat.le_of_ble_eq_true rfl) (Nat.le_of_ble_eq_true rfl)
    · refine r_wret (pc := 19) (τ := τ2) (v := some (.long v)) (As := [.int p1, .int p2, .int (1 : Int32)]) (rest := [.int (1 : Int32), .ref q, .ref q]) C hA hT htab 0 (vX7_state hflag hc1) (cwV 3 C.1.2.2.2.2 gL_state_X7_state rfl rfl rfl (by decide +kernel) ⟨(Nat.le_of_ble_eq_true rfl), (Nat.le_of_ble_eq_true rfl)⟩) (Nat.le_of_ble_eq_true rfl) rfl rfl rfl rfl (Nat.le_of_ble_eq_true rfl) dL_state_19 ⟨(Nat.le_of_ble_eq_true rfl), (Nat.le_of_ble_eq_true rfl)⟩ ?_
      refine r_st (st' := .long v :: [.int (1 : Int32), .ref q, .ref q]) rfl ?_
      refine r_last (pc := 22) (q := q) (f' := vp_updL (vp_updL (fun _ => 0) 0 u) 1 v) C (by decide) rfl dL_state_22 ?_
      cases h
      exact r_aret (pc := 23) C (List.Sublist.refl _) ⟨q, rfl, rfl⟩ hr (Or.inr ⟨_, rfl⟩) dL_state_23 (Nat.le_of_ble_eq_true rfl) (Nat.le_of_ble_eq_true rfl)
abbrev rmQ_force : Room := { frames := 8, cells := 5, slots := 12 * 5, locals := 169 }
def mQ_force (n : Nat) (σ : hv_St) (p1 : Int32) (p2 : Int32) : Option (Option (Int64 × Int64) × hv_St) := hv_by (mX7_force n σ p1 p2 (0 : Int32)) (fun σ1 => some (none, σ1)) (fun u σ1 => hv_by (mX7_force n σ1 p1 p2 (1 : Int32)) (fun σ2 => some (none, σ2)) (fun v σ2 => some (some (u, v), σ2)))
set_option maxRecDepth 20000 in
theorem qL_force_C : Cond.classLink RL 13 hv_nse ∈ wsL_force := by decide +kernel
set_option maxRecDepth 20000 in
theorem qL_force_A : Cond.arrayClass .long ∈ wsL_force := by decide +kernel
set_option maxHeartbeats 4000000 in
set_option maxRecDepth 20000 in
theorem vQ_force (hflag : l.stackTraces = false) {n : Nat} {σ : hv_St} {p1 : Int32} {p2 : Int32} {o : Option (Int64 × Int64) × hv_St} (h : mQ_force n σ p1 p2 = some o) : lv_M l yL_force wsL_force rmQ_force D cy 5 (12 * 5) [.ref (a 0), .int p1, .int p2] (hv_W 55 a (hv_XE a cy) σ) (lv_nul cy o.1 (hv_W 55 a (hv_XE a cy) o.2)) := by
  refine lv_enterW (own := RL) (cc := cL_force) (maxL := 4) (ret := some (.array .long)) (hh := [(0, 23, 24, 13)]) (by decide) rfl rfl (Nat.le_of_ble_eq_true rfl) ?_
  intro p e s m args below meth c A C hA hT htab hr
  unfold mQ_force at h
  refine r_lv [0, 1, 2] (lv' := [(0, .ref (a 0)), (1, .int p1), (2, .int p2)]) rfl ?_
  refine r_iconst (pc := 0) (v := (2 : Int32)) C dL_force_0 (by decide) ?_
  refine r_newl (pc := 1) C hA qL_force_A (Nat.le_of_ble_eq_true rfl) (Nat.le_of_ble_eq_true rfl) dL_force_1 (fun q => ?_)
  refine r_dup (pc := 3) C dL_force_3 rfl ?_
  refine r_iconst (pc := 4) (v := (0 : Int32)) C dL_force_4 (by decide) ?_
  refine r_aload_n (pc := 5) C 0 dL_force_5 rfl rfl ?_
  refine r_iload_n (pc := 6) C 1 dL_force_6 rfl rfl ?_
  refine r_iload_n (pc := 7) C 2 dL_force_7 rfl rfl ?_
  refine r_iconst (pc := 8) (v := (0 : Int32)) C dL_force_8 (by decide) ?_
  rcases hv_by_some h with ⟨τ1, hc0, h⟩ | ⟨u, τ1, hc0, h⟩
  · refine r_wthr (pc := 9) (τ := τ1) (As := [.int p1, .int p2, .int (0 : Int32)]) (rest := [.int (0 : Int32), .ref q, .ref q]) C hA hT htab 0 (vX7_force hflag hc0) (cwV 3 C.1.2.2.2.2 gL_force_X7_force rfl rfl rfl (by decide +kernel) ⟨(Nat.le_of_ble_eq_true rfl), (Nat.le_of_ble_eq_true rfl)⟩) (Nat.le_of_ble_eq_true rfl) rfl rfl rfl rfl (Nat.le_of_ble_eq_true rfl) dL_force_9 ⟨(Nat.le_of_ble_eq_true rfl), (Nat.le_of_ble_eq_true rfl)⟩ (by decide) qL_force_C (by decide) (fun q9 => ?_)
    refine r_astore_n (pc := 24) (lv' := [(3, .ref q9), (0, .ref (a 0)), (1, .int p1), (2, .int p2)]) C rfl dL_force_24 rfl (Nat.le_of_ble_eq_true rfl) rfl ?_
    refine r_null (pc := 25) C dL_force_25 ?_
    cases h
    exact r_aretN (pc := 26) C (List.sublist_append_left _ _) ⟨rfl, rfl⟩ hr (Or.inr ⟨_, rfl⟩) dL_force_26 (Nat.le_of_ble_eq_true rfl) (Nat.le_of_ble_eq_true rfl)
  · refine r_wret (pc := 9) (τ := τ1) (v := some (.long u)) (As := [.int p1, .int p2, .int (0 : Int32)]) (rest := [.int (0 : Int32), .ref q, .ref q]) C hA hT htab 0 (vX7_force hflag hc0) (cwV 3 C.1.2.2.2.2 gL_force_X7_force rfl rfl rfl (by decide +kernel) ⟨(Nat.le_of_ble_eq_true rfl), (Nat.le_of_ble_eq_true rfl)⟩) (Nat.le_of_ble_eq_true rfl) rfl rfl rfl rfl (Nat.le_of_ble_eq_true rfl) dL_force_9 ⟨(Nat.le_of_ble_eq_true rfl), (Nat.le_of_ble_eq_true rfl)⟩ ?_
    refine r_st (st' := .long u :: [.int (0 : Int32), .ref q, .ref q]) rfl ?_
    refine r_last (pc := 12) (q := q) (f' := vp_updL (fun _ => 0) 0 u) C (by decide) rfl dL_force_12 ?_
    refine r_dup (pc := 13) C dL_force_13 rfl ?_
    refine r_iconst (pc := 14) (v := (1 : Int32)) C dL_force_14 (by decide) ?_
    refine r_aload_n (pc := 15) C 0 dL_force_15 rfl rfl ?_
    refine r_iload_n (pc := 16) C 1 dL_force_16 rfl rfl ?_
    refine r_iload_n (pc := 17) C 2 dL_force_17 rfl rfl ?_
    refine r_iconst (pc := 18) (v := (1 : Int32)) C dL_force_18 (by decide) ?_
    rcases hv_by_some h with ⟨τ2, hc1, h⟩ | ⟨v, τ2, hc1, h⟩
    · refine r_wthr (pc := 19) (τ := τ2) (As := [.int p1, .int p2, .int (1 : Int32)]) (rest := [.int (1 : Int32), .ref q, .ref q]) C hA hT htab 0 (vX7_force hflag hc1) (cwV 3 C.1.2.2.2.2 gL_force_X7_force rfl rfl rfl (by decide +kernel) ⟨(Nat.le_of_ble_eq_true rfl), (Nat.le_of_ble_eq_true rfl)⟩) (Nat.le_of_ble_eq_true rfl) rfl rfl rfl rfl (Nat.le_of_ble_eq_true rfl) dL_force_19 ⟨(Nat.le_of_ble_eq_true rfl), (Nat.le_of_ble_eq_true rfl)⟩ (by decide) qL_force_C (by decide) (fun q9 => ?_)
      refine r_astore_n (pc := 24) (lv' := [(3, .ref q9), (0, .ref (a 0)), (1, .int p1), (2, .int p2)]) C rfl dL_force_24 rfl (Nat.le_of_ble_eq_true rfl) rfl ?_
      refine r_null (pc := 25) C dL_force_25 ?_
      cases h
      exact r_aretN (pc := 26) C (List.sublist_append_left _ _) ⟨rfl, rfl⟩ hr (Or.inr ⟨_, rfl⟩) dL_force_26 (Nat.le_of_ble_eq_true rfl) (Nat.le_of_ble_eq_true rfl)
    · refine r_wret (pc := 19) (τ := τ2) (v := some (.long v)) (As := [.int p1, .int p2, .int (1 : Int32)]) (rest := [.int (1 : Int32), .ref q, .ref q]) C hA hT htab 0 (vX7_force hflag hc1) (cwV 3 C.1.2.2.2.2 gL_force_X7_force rfl rfl rfl (by decide +kernel) ⟨(Nat.le_of_ble_eq_true rfl), (Nat.le_of_ble_eq_true rfl)⟩) (Nat.le_of_ble_eq_true rfl) rfl rfl rfl rfl (Nat.le_of_ble_eq_true rfl) dL_force_19 ⟨(Nat.le_of_ble_eq_true rfl), (Nat.le_of_ble_eq_true rfl)⟩ ?_
      refine r_st (st' := .long v :: [.int (1 : Int32), .ref q, .ref q]) rfl ?_
      refine r_last (pc := 22) (q := q) (f' := vp_updL (vp_updL (fun _ => 0) 0 u) 1 v) C (by decide) rfl dL_force_22 ?_
      cases h
      exact r_aret (pc := 23) C (List.Sublist.refl _) ⟨q, rfl, rfl⟩ hr (Or.inr ⟨_, rfl⟩) dL_force_23 (Nat.le_of_ble_eq_true rfl) (Nat.le_of_ble_eq_true rfl)
end
