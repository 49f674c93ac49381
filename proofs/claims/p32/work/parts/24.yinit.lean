/-! constructors: rows over a world written out -/
def hv_J (p : Program) (l : Launch) (e : Env) (R : Room) (s : State) (m : MethodId) (args : Array Value) (below : List Frame) (meth : Method) (c : Code) (nL : Nat) (D : va_G) (A : Nat → Prop) (cells slots : Nat) (Q : State → Prop) (ws : va_W) (pc : Nat) (lv : List (Nat × Value)) (st : List Value) : Prop :=
  ∀ (H : Heap) (locs : List Loc) (ls : Array Slot), va_P D vwCl ws H → va_D A ws → va_S A s.heap H locs → lv_has ls nL lv → W p l e R s m args below meth c H locs cells slots Q (F0 m pc ls st)
def hv_CI (p : Program) (s : State) (m : MethodId) (args : Array Value) (meth : Method) (c : Code) (cc : ByteArray) (nL : Nat) (Ts : List Cond) (own : String) (D : va_G) (cy : ClassId × ClassId × ClassId × ClassId) (A : Nat → Prop) : Prop :=
  hv_C p s m args meth c cc nL Ts own D (hv_tys cy) ∧ (∀ q, s.heap.size ≤ q → A q) ∧ va_AOA .long s
def hv_IP (D : va_G) (cy : ClassId × ClassId × ClassId × ClassId) (ws : va_W) (sz : Nat) (as : List Value) : Array Value → State → Prop := va_Pc as (fun U => U.heap.size = sz ∧ va_P D vwCl ws U.heap ∧ hv_K D (hv_tys cy) U ∧ va_D (fun _ => True) ws ∧ va_AOA .long U)
theorem hv_aoa {t : FieldType} {u U : State} (hvm : u.vm.Alike U.vm) (h : va_AOA t u) : va_AOA t U := over_moved (a := #[]) (a' := #[]) hvm h
def hv_IQ (D : va_G) (w : (Nat → Nat) → va_W) (A : Nat → Prop) : Array Value → State → Outcome → State → Prop := va_Qv (fun _ : Nat → Nat => True) (fun u t => va_P D vwCl (w u) t.heap ∧ va_D A (w u)) A
/-- a constructor's contract: of the cell ws it makes the world w u, with addresses u -/
abbrev hv_IM (l : Launch) (y : MethodName) (wd : List Cond) (rm : Room) (D : va_G) (cy : ClassId × ClassId × ClassId × ClassId) (mc ms : Nat) (as : List Value) (ws : va_W) (w : (Nat → Nat) → va_W) : Prop :=
  ∀ sz : Nat, Met l y wd rm (hv_IP D cy ws sz as) (hv_IQ D w (va_A ws sz)) mc ms (va_A ws sz)
theorem hv_blindI {D : va_G} {cy : ClassId × ClassId × ClassId × ClassId} {ws : va_W} {sz : Nat} {as : List Value} : FrameBlind (hv_IP D cy ws sz as) := fun b U g mk q => ⟨q.1, q.2.1, q.2.2.1, hv_K.same (s := U) (U := U.calling g mk b) rfl q.2.2.2.1, q.2.2.2.2.1, hv_aoa (u := U) (U := U.calling g mk b) (Vm.Alike.refl U.vm) q.2.2.2.2.2⟩
section HVJ
variable {p : Program} {l : Launch} {e : Env} {R : Room} {s : State} {m : MethodId} {args : Array Value} {below : List Frame} {meth : Method} {c : Code} {cc : ByteArray} {nL : Nat} {Ts : List Cond} {own : String} {D : va_G} {cy : ClassId × ClassId × ClassId × ClassId} {A : Nat → Prop} {cells slots : Nat} {Q : State → Prop} {ws : va_W} {pc : Nat} {lv : List (Nat × Value)} {st : List Value}
theorem j_aload_n (C : hv_CI p s m args meth c cc nL Ts own D cy A) {k : Fin 4} {i : Nat} (pl : Nat) {x : Nat} (hd : decode cc pc = .ok (.aload_n k, 1)) (hi : (k : Nat) = i) (hk : lv[pl]? = some (i, .ref x)) (kk : hv_J p l e R s m args below meth c nL D A cells slots Q ws (pc + 1) lv (.ref x :: st)) : hv_J p l e R s m args below meth c nL D A cells slots Q ws pc lv st := by
  intro H locs ls hP hD hS hl
  exact lv_aload_n C.1.1.1 C.1.1.2.1 hd hi (lv_at hl pl hk) (kk H locs ls hP hD hS hl)
theorem j_astore_n (C : hv_CI p s m args meth c cc nL Ts own D cy A) {k : Fin 4} {i : Nat} {x : Nat} {lv' : List (Nat × Value)} (hd : decode cc pc = .ok (.astore_n k, 1)) (hi : (k : Nat) = i) (hn : i < nL) (hf : (i, Value.ref x) :: lv.filter (fun q => !(q.1 == i) && !(q.1 + 1 == i && q.2.category == 2)) = lv') (kk : hv_J p l e R s m args below meth c nL D A cells slots Q ws (pc + 1) lv' st) : hv_J p l e R s m args below meth c nL D A cells slots Q ws pc lv (.ref x :: st) := by
  intro H locs ls hP hD hS hl
  exact lv_astore_n C.1.1.1 C.1.1.2.1 hd hi hl hn hf (fun ls' hl' => kk H locs ls' hP hD hS hl')
theorem j_iconst (C : hv_CI p s m args meth c cc nL Ts own D cy A) {n : Int} {v : Int32} (hd : decode cc pc = .ok (.iconst n, 1)) (hv : Int32.ofInt n = v) (kk : hv_J p l e R s m args below meth c nL D A cells slots Q ws (pc + 1) lv (.int v :: st)) : hv_J p l e R s m args below meth c nL D A cells slots Q ws pc lv st := by
  intro H locs ls hP hD hS hl
  exact lv_iconst C.1.1.1 C.1.1.2.1 hd hv (kk H locs ls hP hD hS hl)
theorem j_bipush (C : hv_CI p s m args meth c cc nL Ts own D cy A) {n : Int} {v : Int32} (hd : decode cc pc = .ok (.bipush n, 2)) (hv : (Int8.ofInt n).toInt32 = v) (kk : hv_J p l e R s m args below meth c nL D A cells slots Q ws (pc + 2) lv (.int v :: st)) : hv_J p l e R s m args below meth c nL D A cells slots Q ws pc lv st := by
  intro H locs ls hP hD hS hl
  exact lv_bipush C.1.1.1 C.1.1.2.1 hd hv (kk H locs ls hP hD hS hl)
theorem j_sipush (C : hv_CI p s m args meth c cc nL Ts own D cy A) {n : Int} {v : Int32} (hd : decode cc pc = .ok (.sipush n, 3)) (hv : (Int16.ofInt n).toInt32 = v) (kk : hv_J p l e R s m args below meth c nL D A cells slots Q ws (pc + 3) lv (.int v :: st)) : hv_J p l e R s m args below meth c nL D A cells slots Q ws pc lv st := by
  intro H locs ls hP hD hS hl
  exact lv_sipush C.1.1.1 C.1.1.2.1 hd hv (kk H locs ls hP hD hS hl)
theorem j_dup (C : hv_CI p s m args meth c cc nL Ts own D cy A) {v : Value} (hd : decode cc pc = .ok (.dup, 1)) (hv : v.category = 1) (kk : hv_J p l e R s m args below meth c nL D A cells slots Q ws (pc + 1) lv (v :: v :: st)) : hv_J p l e R s m args below meth c nL D A cells slots Q ws pc lv (v :: st) := by
  intro H locs ls hP hD hS hl
  exact lv_dup C.1.1.1 C.1.1.2.1 hd hv (kk H locs ls hP hD hS hl)
theorem j_lv {lv' : List (Nat × Value)} (ks : List Nat) (h : lv_pick lv ks = lv') (kk : hv_J p l e R s m args below meth c nL D A cells slots Q ws pc lv' st) : hv_J p l e R s m args below meth c nL D A cells slots Q ws pc lv st := by
  intro H locs ls hP hD hS hl
  exact kk H locs ls hP hD hS (lv_sub hl ks h)
theorem j_ws {ws' : va_W} (is : List Nat) (hn : va_nd is = true) (hP : is.filterMap (fun i => ws[i]?) = ws') (hq : is.map (fun i => ws[i]?) = ws'.map some) (kk : hv_J p l e R s m args below meth c nL D A cells slots Q ws' pc lv st) : hv_J p l e R s m args below meth c nL D A cells slots Q ws pc lv st := by
  intro H locs ls hP1 hD hS hl
  exact kk H locs ls (hP1.sub is hP) (hD.sub is hn hq) hS hl
theorem j_obj (C : hv_CI p s m args meth c cc nL Ts own D cy A) {idx a : Nat} (h1 : Cond.methodLink own idx objectInit ∈ Ts) (h2 : Cond.instanceMethod objectInit ∈ Ts) (h3 : Cond.code objectInit ⟨#[0xb1]⟩ 1 none ∈ Ts) (hd : decode cc pc = .ok (.invokespecial idx, 3)) (hfr : 1 ≤ R.frames) (hlo : (st.map fun v => v.category).sum + 12 ≤ R.locals) (kk : hv_J p l e R s m args below meth c nL D A cells slots Q ws (pc + 3) lv st) : hv_J p l e R s m args below meth c nL D A cells slots Q ws pc lv (.ref a :: st) := by
  intro H locs ls hP hD hS hl
  refine W.objInit C.1.1.1 C.1.1.2.1 C.1.1.2.2.2.1 (C.1.1.2.2.2.2 _ h1) (C.1.1.2.2.2.2 _ h2) (C.1.1.2.2.2.2 _ h3) rfl (by rw [C.1.1.2.2.1]; exact hl.1) rfl hd hfr (by show 2 * 0 + _ + 12 ≤ _; omega) ?_
  exact kk H locs ls hP hD hS hl
theorem j_newa (C : hv_CI p s m args meth c cc nL Ts own D cy A) (t0 : Nat) {atype : ArrayType} {ty : FieldType} {cA0 : ClassId} {n : Int32} {N' : Nat} {a0 : vp_A} (hty : newarray.typeOf atype = ty) (ht : (hv_tys cy)[t0]? = some (cA0, ty)) (hra : ∀ cA : ClassId, va_RA s cA ty → s.vm.findClass ("[" ++ ty.toString) = some cA) (harr : Cond.arrayClass (newarray.typeOf atype) ∈ Ts) (ha : ∀ cA : ClassId, vp_cell cA a0 = arrV cA N' (fun _ => defaultValue ty)) (hn : ¬ n < 0) (hN : n.toNatClampNeg = N') (hbytes : N' * componentBytes ty ≤ 536870912) (hcells : cells + 1 ≤ R.cells) (hslots : slots + N' ≤ R.slots) (hd : decode cc pc = .ok (.newarray atype, 2))
    (kk : ∀ q : Nat, hv_J p l e R s m args below meth c nL D A (cells + 1) (slots + N') Q (ws ++ [(q, .inl (cA0, a0))]) (pc + 2) lv (.ref q :: st)) : hv_J p l e R s m args below meth c nL D A cells slots Q ws pc lv (.int n :: st) := by
  intro H locs ls hP hD hS hl
  refine va_newa C.1.1.1 C.1.1.2.1 (C.1.1.2.2.2.2 _ harr) hty C.1.2.1.1 hP hD hS C.2.1 ha hn hN hbytes hcells hslots hd (fun q cA H1 hK1 hP1 hD1 hS1 => ?_)
  have e1 := hra cA ((hK1.2 4 (cA, ty) rfl).2)
  have e2 := hra cA0 ((C.1.2.1.1.2 t0 _ ht).2)
  have e3 : cA = cA0 := Option.some.inj (e1.symm.trans e2)
  subst e3
  exact kk q H1 locs ls hP1 hD1 hS1 hl
theorem j_mna (C : hv_CI p s m args meth c cc nL Ts own D cy A) {index : Nat} {n k : Int32} {N' K' : Nat} (hcl : Cond.classLink own index ("[" ++ (FieldType.array FieldType.long).toString) ∈ Ts) (harr : Cond.arrayClass .long ∈ Ts) (hn : ¬ n < 0) (hk : ¬ k < 0) (hN : n.toNatClampNeg = N') (hM : k.toNatClampNeg = K') (hb1 : N' * 4 ≤ 536870912) (hb2 : K' * componentBytes .long ≤ 536870912) (hb3 : K' ≤ 536870912) (hcells : cells + (1 + N') ≤ R.cells) (hslots : slots + (N' + N' * K') ≤ R.slots) (hd : decode cc pc = .ok (.multianewarray index 2, 4))
    (kk : ∀ (q : Nat) (r : Nat → Nat), hv_J p l e R s m args below meth c nL D A (cells + 1 + N') (slots + N' + N' * K') Q (ws ++ ((q, .inl (cy.2.2.2, N', .inr (.inr (.inr (.inr (fun i => if i < N' then some (r i) else none)))))) :: (List.range N').map (fun i => (r i, .inl (cy.2.1, K', .inr (.inl (fun _ => 0))))))) (pc + 4) lv (.ref q :: st)) : hv_J p l e R s m args below meth c nL D A cells slots Q ws pc lv (.int k :: .int n :: st) := by
  intro H locs ls hP hD hS hl
  have eJ : s.vm.findClass (FieldType.array FieldType.long).toString = some cy.2.1 := (C.1.2.1.1.2 1 (cy.2.1, .long) rfl).2
  have hP0 : va_P D vwCl (ws ++ va_pl [] (fun _ => .inr (0, []))) H := by
    show va_P D vwCl (ws ++ []) H
    rw [List.append_nil]
    exact hP
  have hD0 : va_D A (ws ++ va_pl [] (fun _ => .inr (0, []))) := by
    show va_D A (ws ++ [])
    rw [List.append_nil]
    exact hD
  refine va_mna (X := ws) (L := []) (z := (K', .inr (.inl (fun _ => 0)))) C.1.1.1 C.1.1.2.1 C.1.1.2.2.2.1 (C.1.1.2.2.2.2 _ hcl) C.2.2 (C.1.1.2.2.2.2 _ harr) eJ C.1.2.1.1 hP0 hD0 hS C.2.1 hn hk hN hM hb1 hb2 hb3 rfl rfl hcells hslots (fun c => ?_) hd (fun q r cA H1 hinj hnl hK1 hP1 hD1 hS1 => ?_)
  · rw [vp_cell_l, ← arrV_new]
    rfl
  · have e1 : s.vm.findClass ("[" ++ (FieldType.array FieldType.long).toString) = some cA := (hK1.2 4 (cA, .array .long) rfl).2
    have e2 : s.vm.findClass ("[" ++ (FieldType.array FieldType.long).toString) = some cy.2.2.2 := (C.1.2.1.1.2 3 (cy.2.2.2, .array .long) rfl).2
    have e3 : cA = cy.2.2.2 := Option.some.inj (e1.symm.trans e2)
    subst e3
    have e4 : va_pl ([] ++ (List.range N').map r) (vr_up (fun _ => .inr (0, [])) ((List.range N').map r) (.inl (cy.2.1, (K', .inr (.inl (fun _ => 0)))))) = (List.range N').map (fun i => (r i, .inl (cy.2.1, K', .inr (.inl (fun _ => 0))))) := by
      unfold va_pl
      rw [List.nil_append, List.map_map]
      apply List.map_congr_left
      intro i hi
      show (r i, vr_up _ _ _ (r i)) = _
      rw [vr_up_in (List.mem_map.mpr ⟨i, hi, rfl⟩)]
    rw [e4, List.append_assoc] at hP1 hD1
    exact kk q r H1 locs ls hP1 hD1 hS1 hl
theorem j_putF (C : hv_CI p s m args meth c cc nL Ts own D cy A) (hin9 : meth.name = "<init>") (i k : Nat) {ci n index a : Nat} {Cn ref : String} {T : u_T} {fs : List Value} {ty0 : Nat → FieldType} {ty : FieldType} {v : Value} {ws' : va_W} (he : ws[i]? = some (a, .inr (ci, fs))) (hc : vwCl[ci]? = some (Cn, T, n)) (hin : ∀ w ∈ u_ws Cn T n, w ∈ Ts) (hty : ∀ k, k < n → parseFieldDescriptor (T k).2.2.1 = some (ty0 k)) (hnm : ∀ a, a < n → ∀ b, b < n → a ≠ b → (T a).2.1 ≠ (T b).2.1) (hk : k < n) (hr : ref = (T k).1) (hlink : Cond.fieldLink own index ref (T k).2.1 (T k).2.2.1 ∈ Ts) (hfin : (T k).2.2.2 = true) (hdecl : (T k).1 = own) (hdd : parseFieldDescriptor (T k).2.2.1 = some ty) (hn : narrow ty v = v) (hft : fits ty v = true) (hlen : k < fs.length) (hE : ws.set i (a, .inr (ci, fs.set k v)) = ws') (hd : decode cc pc = .ok (.putfield index, 3)) (kk : hv_J p l e R s m args below meth c nL D A cells slots Q ws' (pc + 3) lv st) : hv_J p l e R s m args below meth c nL D A cells slots Q ws pc lv (v :: .ref a :: st) := by
  intro H locs ls hP hD hS hl
  subst hr
  subst hE
  exact va_putF (D := D) (ci := ci) (v := v) (ty := ty) C.1.1.1 C.1.1.2.1 C.1.1.2.2.2.2 hin ty0 hty hnm C.1.1.2.2.2.1 C.1.2.1.1 hP hD hS i he hc k hk (C.1.1.2.2.2.2 _ hlink) (fun _ h9 => h9) hfin hin9 hdecl hdd hn hft hlen hd (fun H1 locs1 hP1 hD1 hS1 => kk H1 locs1 ls hP1 hD1 hS1 hl)
theorem j_new (C : hv_CI p s m args meth c cc nL Ts own D cy A) {Cn : String} {T : u_T} {ty0 : Nat → FieldType} {n ci index : Nat} {fs : List Value} (hin : ∀ w ∈ u_ws Cn T n, w ∈ Ts) (hty : ∀ k, k < n → parseFieldDescriptor (T k).2.2.1 = some (ty0 k)) (h1 : Cond.classLink own index Cn ∈ Ts) (h2 : Cond.instantiable Cn n ∈ Ts) (h3 : Cond.initialized Cn ∈ Ts) (hc : vwCl[ci]? = some (Cn, T, n)) (hfs : ∀ j, j < n → defaultValue (ty0 j) = vp_V fs j) (hcells : cells + 1 ≤ R.cells) (hslots : slots + n ≤ R.slots) (hd : decode cc pc = .ok (.new index, 3))
    (kk : ∀ q : Nat, hv_J p l e R s m args below meth c nL D A (cells + 1) (slots + n) Q (ws ++ [(q, .inr (ci, fs))]) (pc + 3) lv (.ref q :: st)) : hv_J p l e R s m args below meth c nL D A cells slots Q ws pc lv st := by
  intro H locs ls hP hD hS hl
  exact va_new C.1.1.1 C.1.1.2.1 C.1.1.2.2.2.2 hin ty0 hty C.1.1.2.2.2.1 (C.1.1.2.2.2.2 _ h1) (C.1.1.2.2.2.2 _ h2) (C.1.1.2.2.2.2 _ h3) C.1.2.1.1 hP hD hS C.2.1 hc hfs hcells hslots hd (fun q H1 hP1 hD1 hS1 => kk q H1 locs ls hP1 hD1 hS1 hl)
/-- a constructor's call: its object's cell is number i of the world -/
theorem j_run {mc ms b : Nat} {E : va_E} {w : (Nat → Nat) → va_W} {wr : va_W} {rest : List Value} {arr : Array Value} (i : Nat) (isR : List Nat) (hA : ∀ q, s.heap.size ≤ q → A q) (hi : ws[i]? = some (b, E)) (hR : isR.map (fun i => ws[i]?) = wr.map some) (hn : va_nd isR = true) (hdis : ∀ j ∈ isR, j ∉ [i]) (hrun : ∀ (H : Heap) (locs : List Loc) (ls : Array Slot), va_P D vwCl [(b, E)] H → va_D (fun _ => True) [(b, E)] → lv_has ls nL lv → va_Run p l e R s m args below meth c H locs cells slots mc ms (F0 m pc ls st) rest (hv_IQ D w (va_A [(b, E)] H.size) arr) (va_A [(b, E)] H.size)) (kk : ∀ u : Nat → Nat, hv_J p l e R s m args below meth c nL D A (cells + mc) (slots + ms) Q (wr ++ w u) (pc + 3) lv rest) : hv_J p l e R s m args below meth c nL D A cells slots Q ws pc lv st := by
  intro H locs ls hP hD hS hl
  have hPc := hP.sub (ws' := [(b, E)]) [i] (by simp [hi])
  have hC : [i].map (fun i => ws[i]?) = ([(b, E)] : va_W).map some := by simp [hi]
  have hDc : va_D (fun _ => True) [(b, E)] := (hD.sub (ws' := [(b, E)]) [i] (by simp [va_nd]) hC).weaken (fun _ _ _ _ => trivial)
  have hFc := va_free (wc := [(b, E)]) hD hS hA [i] hC
  refine va_callv (hrun H locs ls hPc hDc hl) hS (fun q _ h => hFc q h) hFc (fun u t H1 locs1 ht hvm hw hB hz1 hk1 hS1 => ?_)
  rw [ht] at hB
  obtain ⟨hP2, hD2⟩ := va_join (wr := wr) (w1 := w u) hP hD [i] isR hC hR hn hdis hk1 hFc hB.1 hB.2
  exact kk u H1 locs1 ls hP2 hD2 hS1 hl
theorem j_call (C : hv_CI p s m args meth c cc nL Ts own D cy A) (i : Nat) (isR : List Nat) {index maxL na b mc ms : Nat} {y : MethodName} {wd : List Cond} {rm : Room} {bytes : ByteArray} {E : va_E} {w : (Nat → Nat) → va_W} {wr : va_W} {As rest : List Value} (hM : hv_IM l y wd rm D cy mc ms (.ref b :: As) [(b, E)] w) (cw : CallB R s args own index y bytes maxL none wd rm mc ms na ∧ y.name = "<init>" ∧ (Cond.instanceMethod y).before args s = true) (hi : ws[i]? = some (b, E)) (hR : isR.map (fun i => ws[i]?) = wr.map some) (hn : va_nd isR = true) (hdis : ∀ j ∈ isR, j ∉ [i]) (hna : As.length = na) (hst : st = As.reverse ++ .ref b :: rest) (hroom : (rest.map fun v => v.category).sum ≤ 8) (hd : decode cc pc = .ok (.invokespecial index, 3)) (hcl : cells + mc ≤ R.cells ∧ slots + ms ≤ R.slots) (kk : ∀ u : Nat → Nat, hv_J p l e R s m args below meth c nL D A (cells + mc) (slots + ms) Q (wr ++ w u) (pc + 3) lv rest) : hv_J p l e R s m args below meth c nL D A cells slots Q ws pc lv st :=
  j_run (arr := (Value.ref b :: As).toArray) i isR C.2.1 hi hR hn hdis (fun H locs ls hP hD hl => va_runI C.1.1 (hM H.size) cw ⟨hv_blindI, fun U hU hW => ⟨rfl, by rw [hU], by rw [hU]; exact hP, C.1.2.1.warm hW, hD, hv_aoa hW.alike C.2.2⟩⟩ rfl hna hl.1 hst (lv_room hroom) hd hcl) kk
theorem j_callN (C : hv_CI p s m args meth c cc nL Ts own D cy A) (i : Nat) (isR : List Nat) {index maxL na b mc ms : Nat} {y : MethodName} {host : String} {wd : List Cond} {rm : Room} {bytes : ByteArray} {E : va_E} {w : (Nat → Nat) → va_W} {wr : va_W} {As rest : List Value} (hM : hv_IM l y wd rm D cy mc ms (.ref b :: As) [(b, E)] w) (cw : va_CN R s args own index y host bytes maxL none wd rm mc ms na ∧ y.name = "<init>" ∧ (Cond.instanceMethod y).before args s = true) (hi : ws[i]? = some (b, E)) (hR : isR.map (fun i => ws[i]?) = wr.map some) (hn : va_nd isR = true) (hdis : ∀ j ∈ isR, j ∉ [i]) (hna : As.length = na) (hst : st = As.reverse ++ .ref b :: rest) (hroom : (rest.map fun v => v.category).sum ≤ 8) (hd : decode cc pc = .ok (.invokespecial index, 3)) (hcl : cells + mc ≤ R.cells ∧ slots + ms ≤ R.slots) (kk : ∀ u : Nat → Nat, hv_J p l e R s m args below meth c nL D A (cells + mc) (slots + ms) Q (wr ++ w u) (pc + 3) lv rest) : hv_J p l e R s m args below meth c nL D A cells slots Q ws pc lv st :=
  j_run (arr := (Value.ref b :: As).toArray) i isR C.2.1 hi hR hn hdis (fun H locs ls hP hD hl => va_runIN C.1.1 (hM H.size) cw ⟨hv_blindI, fun U hU hW => ⟨rfl, by rw [hU], by rw [hU]; exact hP, C.1.2.1.warm hW, hD, hv_aoa hW.alike C.2.2⟩⟩ rfl hna hl.1 hst (lv_room hroom) hd hcl) kk
theorem j_ret (C : hv_CI p s m args meth c cc nL Ts own D cy A) {w : (Nat → Nat) → va_W} {MC MS : Nat} (u : Nat → Nat) (hu : ws = w u) (hr : meth.sig.returnType = none) (hd : decode cc pc = .ok (.return_, 1)) (h1 : cells ≤ MC) (h2 : slots ≤ MS) : hv_J p l e R s m args below meth c nL D A cells slots (MQ below (hv_IQ D w A) args s MC MS A) ws pc lv [] := by
  intro H locs ls hP hD hS hl
  subst hu
  refine W.widen h1 h2 ?_
  exact W.vret C.1.1.1 C.1.1.2.1 hr (fun t ht hW => ⟨⟨u, rfl, trivial, by rw [ht]; exact hP, hD⟩, hS.F ht⟩) hS.2.2 hd C.1.2.2
theorem hv_ienter {y : MethodName} {wd wd' : List Cond} {rm : Room} {maxL mc ms : Nat} {as : List Value} {w : (Nat → Nat) → va_W} {own : String} (hy : plainName y.cls = true) (ho : y.cls = own) (hin : y.name = "<init>") (hw : wd = Cond.code y cc maxL none :: wd') (hlen : (lg_sl as).length ≤ maxL)
    (body : ∀ (p : Program) (e : Env) (s : State) (m : MethodId) (args : Array Value) (below : List Frame) (meth : Method) (c : Code) (A : Nat → Prop), hv_CI p s m args meth c cc maxL wd own D cy A → meth.name = "<init>" → meth.sig.returnType = none → hv_J p l e (headSpec wd rm).room s m args below meth c maxL D A 0 0 (MQ below (hv_IQ D w A) args s mc ms A) ws 0 (lv_args 0 as) []) : hv_IM l y wd rm D cy mc ms as ws w := by
  intro sz
  refine Met.ofW (cc := cc) (maxL := maxL) (ret := none) hy hw ?_
  intro p e s m args below meth c s₁ B hml hv
  obtain ⟨rfl, hsz, hP, hK, hD0, hAOA⟩ := hv
  subst hsz
  subst ho
  have C : hv_C p s m as.toArray meth c cc maxL wd y.cls D (hv_tys cy) := ⟨⟨B.exec, B.bytes, hml, findClass_of_methodNamed B.named, atoms_spec (ws := wd) B.pre⟩, hK, B.notSynchronized⟩
  have hD := hD0.self (sz := s.heap.size)
  rw [lg_entry_eq]
  exact body p e s m as.toArray below meth c (va_A ws s.heap.size) ⟨C, fun q h => Or.inr h, hAOA⟩ (((name_of_methodNamed B.named B.method).1).trans hin) B.returns s.heap [] _ hP hD va_S.rf (lv_entry as hlen)
end HVJ
/-- rows' places: n of them, in order -/
def hv_fr (r : Nat → Nat) (n : Nat) : Nat → Option Nat := fun i => if i < n then some (r i) else none
theorem hv_fr_congr {r r' : Nat → Nat} {n : Nat} (h : ∀ i, i < n → r i = r' i) : hv_fr r n = hv_fr r' n := funext fun i => by
  unfold hv_fr
  by_cases hi : i < n
  · rw [if_pos hi, if_pos hi, h i hi]
  · rw [if_neg hi, if_neg hi]
theorem j_eq {p : Program} {l : Launch} {e : Env} {R : Room} {s : State} {m : MethodId} {args : Array Value} {below : List Frame} {meth : Method} {c : Code} {nL : Nat} {D : va_G} {A : Nat → Prop} {cells slots : Nat} {Q : State → Prop} {ws ws' : va_W} {pc : Nat} {lv : List (Nat × Value)} {st : List Value} (h : ws = ws') (kk : hv_J p l e R s m args below meth c nL D A cells slots Q ws' pc lv st) : hv_J p l e R s m args below meth c nL D A cells slots Q ws pc lv st := by
  subst h
  exact kk
