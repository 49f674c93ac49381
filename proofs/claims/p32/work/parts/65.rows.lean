/-! rows over a world written as a list -/
section LR
variable {p : Program} {l : Launch} {e : Env} {R : Room} {s : State} {m : MethodId} {args : Array Value} {below : List Frame} {meth : Method} {c : Code} {cc : ByteArray} {nL : Nat} {Ts : List Cond} {own : String} {D : va_G} {cy : ClassId × ClassId × ClassId × ClassId} {A : Nat → Prop} {cells slots : Nat} {Q : State → Prop} {ws : va_W} {pc : Nat} {lv : List (Nat × Value)} {st : List Value}
theorem r_iconst (C : hv_C p s m args meth c cc nL Ts own D (hv_tys cy)) {n : Int} {v : Int32} (hd : decode cc pc = .ok (.iconst n, 1)) (hv : Int32.ofInt n = v) (kk : hv_J p l e R s m args below meth c nL D A cells slots Q ws (pc + 1) lv (.int v :: st)) : hv_J p l e R s m args below meth c nL D A cells slots Q ws (pc) lv (st) := by
  intro H locs ls hP hD hS hl
  exact lv_iconst C.1.1 C.1.2.1 hd hv (kk H locs ls hP hD hS hl)
theorem r_bipush (C : hv_C p s m args meth c cc nL Ts own D (hv_tys cy)) {n : Int} {v : Int32} (hd : decode cc pc = .ok (.bipush n, 2)) (hv : (Int8.ofInt n).toInt32 = v) (kk : hv_J p l e R s m args below meth c nL D A cells slots Q ws (pc + 2) lv (.int v :: st)) : hv_J p l e R s m args below meth c nL D A cells slots Q ws (pc) lv (st) := by
  intro H locs ls hP hD hS hl
  exact lv_bipush C.1.1 C.1.2.1 hd hv (kk H locs ls hP hD hS hl)
theorem r_sipush (C : hv_C p s m args meth c cc nL Ts own D (hv_tys cy)) {n : Int} {v : Int32} (hd : decode cc pc = .ok (.sipush n, 3)) (hv : (Int16.ofInt n).toInt32 = v) (kk : hv_J p l e R s m args below meth c nL D A cells slots Q ws (pc + 3) lv (.int v :: st)) : hv_J p l e R s m args below meth c nL D A cells slots Q ws (pc) lv (st) := by
  intro H locs ls hP hD hS hl
  exact lv_sipush C.1.1 C.1.2.1 hd hv (kk H locs ls hP hD hS hl)
theorem r_lconst (C : hv_C p s m args meth c cc nL Ts own D (hv_tys cy)) {n : Fin 2} {v : Int64} (hd : decode cc pc = .ok (.lconst n, 1)) (hv : Int64.ofNat (n : Nat) = v) (kk : hv_J p l e R s m args below meth c nL D A cells slots Q ws (pc + 1) lv (.long v :: st)) : hv_J p l e R s m args below meth c nL D A cells slots Q ws (pc) lv (st) := by
  intro H locs ls hP hD hS hl
  exact lv_lconst C.1.1 C.1.2.1 hd hv (kk H locs ls hP hD hS hl)
theorem r_ldc2 (C : hv_C p s m args meth c cc nL Ts own D (hv_tys cy)) {index : Nat} {v : Int64} (hc : Cond.constantLong own index v ∈ Ts) (hd : decode cc pc = .ok (.ldc2_w index, 3)) (kk : hv_J p l e R s m args below meth c nL D A cells slots Q ws (pc + 3) lv (.long v :: st)) : hv_J p l e R s m args below meth c nL D A cells slots Q ws (pc) lv (st) := by
  intro H locs ls hP hD hS hl
  exact lv_ldc2 C.1.1 C.1.2.1 C.1.2.2.2.1 (C.1.2.2.2.2 _ hc) hd (kk H locs ls hP hD hS hl)
theorem r_ldcw (C : hv_C p s m args meth c cc nL Ts own D (hv_tys cy)) {index : Nat} {v : Int32} (hc : Cond.constant own index v ∈ Ts) (hd : decode cc pc = .ok (.ldc_w index, 3)) (kk : hv_J p l e R s m args below meth c nL D A cells slots Q ws (pc + 3) lv (.int v :: st)) : hv_J p l e R s m args below meth c nL D A cells slots Q ws (pc) lv (st) := by
  intro H locs ls hP hD hS hl
  exact lv_ldcw C.1.1 C.1.2.1 C.1.2.2.2.1 (C.1.2.2.2.2 _ hc) hd (kk H locs ls hP hD hS hl)
theorem r_iload_n (C : hv_C p s m args meth c cc nL Ts own D (hv_tys cy)) {k : Fin 4} {i : Nat} (pl : Nat) {x : Int32} (hd : decode cc pc = .ok (.iload_n k, 1)) (hi : (k : Nat) = i) (hk : lv[pl]? = some (i, .int x)) (kk : hv_J p l e R s m args below meth c nL D A cells slots Q ws (pc + 1) lv (.int x :: st)) : hv_J p l e R s m args below meth c nL D A cells slots Q ws (pc) lv (st) := by
  intro H locs ls hP hD hS hl
  exact lv_iload_n C.1.1 C.1.2.1 hd hi (lv_at hl pl hk) (kk H locs ls hP hD hS hl)
theorem r_iload (C : hv_C p s m args meth c cc nL Ts own D (hv_tys cy)) {i : Nat} (pl : Nat) {x : Int32} (hd : decode cc pc = .ok (.iload i, 2)) (hk : lv[pl]? = some (i, .int x)) (kk : hv_J p l e R s m args below meth c nL D A cells slots Q ws (pc + 2) lv (.int x :: st)) : hv_J p l e R s m args below meth c nL D A cells slots Q ws (pc) lv (st) := by
  intro H locs ls hP hD hS hl
  exact lv_iload C.1.1 C.1.2.1 hd (lv_at hl pl hk) (kk H locs ls hP hD hS hl)
theorem r_lload_n (C : hv_C p s m args meth c cc nL Ts own D (hv_tys cy)) {k : Fin 4} {i : Nat} (pl : Nat) {x : Int64} (hd : decode cc pc = .ok (.lload_n k, 1)) (hi : (k : Nat) = i) (hk : lv[pl]? = some (i, .long x)) (kk : hv_J p l e R s m args below meth c nL D A cells slots Q ws (pc + 1) lv (.long x :: st)) : hv_J p l e R s m args below meth c nL D A cells slots Q ws (pc) lv (st) := by
  intro H locs ls hP hD hS hl
  exact lv_lload_n C.1.1 C.1.2.1 hd hi (lv_at hl pl hk) (kk H locs ls hP hD hS hl)
theorem r_lload (C : hv_C p s m args meth c cc nL Ts own D (hv_tys cy)) {i : Nat} (pl : Nat) {x : Int64} (hd : decode cc pc = .ok (.lload i, 2)) (hk : lv[pl]? = some (i, .long x)) (kk : hv_J p l e R s m args below meth c nL D A cells slots Q ws (pc + 2) lv (.long x :: st)) : hv_J p l e R s m args below meth c nL D A cells slots Q ws (pc) lv (st) := by
  intro H locs ls hP hD hS hl
  exact lv_lload C.1.1 C.1.2.1 hd (lv_at hl pl hk) (kk H locs ls hP hD hS hl)
theorem r_aload_n (C : hv_C p s m args meth c cc nL Ts own D (hv_tys cy)) {k : Fin 4} {i : Nat} (pl : Nat) {x : Nat} (hd : decode cc pc = .ok (.aload_n k, 1)) (hi : (k : Nat) = i) (hk : lv[pl]? = some (i, .ref x)) (kk : hv_J p l e R s m args below meth c nL D A cells slots Q ws (pc + 1) lv (.ref x :: st)) : hv_J p l e R s m args below meth c nL D A cells slots Q ws (pc) lv (st) := by
  intro H locs ls hP hD hS hl
  exact lv_aload_n C.1.1 C.1.2.1 hd hi (lv_at hl pl hk) (kk H locs ls hP hD hS hl)
theorem r_aload (C : hv_C p s m args meth c cc nL Ts own D (hv_tys cy)) {i : Nat} (pl : Nat) {x : Nat} (hd : decode cc pc = .ok (.aload i, 2)) (hk : lv[pl]? = some (i, .ref x)) (kk : hv_J p l e R s m args below meth c nL D A cells slots Q ws (pc + 2) lv (.ref x :: st)) : hv_J p l e R s m args below meth c nL D A cells slots Q ws (pc) lv (st) := by
  intro H locs ls hP hD hS hl
  exact lv_aload C.1.1 C.1.2.1 hd (lv_at hl pl hk) (kk H locs ls hP hD hS hl)
theorem r_istore_n (C : hv_C p s m args meth c cc nL Ts own D (hv_tys cy)) {k : Fin 4} {i : Nat} {v x : Int32} {lv' : List (Nat × Value)} (ev : x = v) (hd : decode cc pc = .ok (.istore_n k, 1)) (hi : (k : Nat) = i) (hn : i < nL) (hf : (i, Value.int x) :: lv.filter (fun q => !(q.1 == i) && !(q.1 + 1 == i && q.2.category == 2)) = lv') (kk : hv_J p l e R s m args below meth c nL D A cells slots Q ws (pc + 1) lv' (st)) : hv_J p l e R s m args below meth c nL D A cells slots Q ws (pc) lv (.int v :: st) := by
  subst ev
  intro H locs ls hP hD hS hl
  exact lv_istore_n C.1.1 C.1.2.1 hd hi hl hn hf (fun ls' hl' => kk H locs ls' hP hD hS hl')
theorem r_istore (C : hv_C p s m args meth c cc nL Ts own D (hv_tys cy)) {i : Nat} {v x : Int32} {lv' : List (Nat × Value)} (ev : x = v) (hd : decode cc pc = .ok (.istore i, 2)) (hn : i < nL) (hf : (i, Value.int x) :: lv.filter (fun q => !(q.1 == i) && !(q.1 + 1 == i && q.2.category == 2)) = lv') (kk : hv_J p l e R s m args below meth c nL D A cells slots Q ws (pc + 2) lv' (st)) : hv_J p l e R s m args below meth c nL D A cells slots Q ws (pc) lv (.int v :: st) := by
  subst ev
  intro H locs ls hP hD hS hl
  exact lv_istore C.1.1 C.1.2.1 hd hl hn hf (fun ls' hl' => kk H locs ls' hP hD hS hl')
theorem r_lstore_n (C : hv_C p s m args meth c cc nL Ts own D (hv_tys cy)) {k : Fin 4} {i : Nat} {v x : Int64} {lv' : List (Nat × Value)} (ev : x = v) (hd : decode cc pc = .ok (.lstore_n k, 1)) (hi : (k : Nat) = i) (hn : i + 1 < nL) (hf : (i, Value.long x) :: lv.filter (fun q => !(q.1 == i) && (!(q.1 == i + 1) && !(q.1 + 1 == i && q.2.category == 2))) = lv') (kk : hv_J p l e R s m args below meth c nL D A cells slots Q ws (pc + 1) lv' (st)) : hv_J p l e R s m args below meth c nL D A cells slots Q ws (pc) lv (.long v :: st) := by
  subst ev
  intro H locs ls hP hD hS hl
  exact lv_lstore_n C.1.1 C.1.2.1 hd hi hl hn hf (fun ls' hl' => kk H locs ls' hP hD hS hl')
theorem r_lstore (C : hv_C p s m args meth c cc nL Ts own D (hv_tys cy)) {i : Nat} {v x : Int64} {lv' : List (Nat × Value)} (ev : x = v) (hd : decode cc pc = .ok (.lstore i, 2)) (hn : i + 1 < nL) (hf : (i, Value.long x) :: lv.filter (fun q => !(q.1 == i) && (!(q.1 == i + 1) && !(q.1 + 1 == i && q.2.category == 2))) = lv') (kk : hv_J p l e R s m args below meth c nL D A cells slots Q ws (pc + 2) lv' (st)) : hv_J p l e R s m args below meth c nL D A cells slots Q ws (pc) lv (.long v :: st) := by
  subst ev
  intro H locs ls hP hD hS hl
  exact lv_lstore C.1.1 C.1.2.1 hd hl hn hf (fun ls' hl' => kk H locs ls' hP hD hS hl')
theorem r_astore_n (C : hv_C p s m args meth c cc nL Ts own D (hv_tys cy)) {k : Fin 4} {i : Nat} {v x : Nat} {lv' : List (Nat × Value)} (ev : x = v) (hd : decode cc pc = .ok (.astore_n k, 1)) (hi : (k : Nat) = i) (hn : i < nL) (hf : (i, Value.ref x) :: lv.filter (fun q => !(q.1 == i) && !(q.1 + 1 == i && q.2.category == 2)) = lv') (kk : hv_J p l e R s m args below meth c nL D A cells slots Q ws (pc + 1) lv' (st)) : hv_J p l e R s m args below meth c nL D A cells slots Q ws (pc) lv (.ref v :: st) := by
  subst ev
  intro H locs ls hP hD hS hl
  exact lv_astore_n C.1.1 C.1.2.1 hd hi hl hn hf (fun ls' hl' => kk H locs ls' hP hD hS hl')
theorem r_astore (C : hv_C p s m args meth c cc nL Ts own D (hv_tys cy)) {i : Nat} {v x : Nat} {lv' : List (Nat × Value)} (ev : x = v) (hd : decode cc pc = .ok (.astore i, 2)) (hn : i < nL) (hf : (i, Value.ref x) :: lv.filter (fun q => !(q.1 == i) && !(q.1 + 1 == i && q.2.category == 2)) = lv') (kk : hv_J p l e R s m args below meth c nL D A cells slots Q ws (pc + 2) lv' (st)) : hv_J p l e R s m args below meth c nL D A cells slots Q ws (pc) lv (.ref v :: st) := by
  subst ev
  intro H locs ls hP hD hS hl
  exact lv_astore C.1.1 C.1.2.1 hd hl hn hf (fun ls' hl' => kk H locs ls' hP hD hS hl')
theorem r_iinc (C : hv_C p s m args meth c cc nL Ts own D (hv_tys cy)) {i : Nat} (k : Nat) {n : Int} {x v : Int32} {lv' : List (Nat × Value)} (hd : decode cc pc = .ok (.iinc i n, 3)) (hk : lv[k]? = some (i, .int x)) (hv : x + Int32.ofInt n = v) (hn : i < nL) (hf : (i, Value.int v) :: lv.filter (fun q => !(q.1 == i) && !(q.1 + 1 == i && q.2.category == 2)) = lv') (kk : hv_J p l e R s m args below meth c nL D A cells slots Q ws (pc + 3) lv' (st)) : hv_J p l e R s m args below meth c nL D A cells slots Q ws (pc) lv (st) := by
  intro H locs ls hP hD hS hl
  exact lv_iinc C.1.1 C.1.2.1 hd hl hk hv hn hf (fun ls' hl' => kk H locs ls' hP hD hS hl')
theorem r_iadd (C : hv_C p s m args meth c cc nL Ts own D (hv_tys cy)) {x y : Int32} (hd : decode cc pc = .ok (.iadd, 1)) (kk : hv_J p l e R s m args below meth c nL D A cells slots Q ws (pc + 1) lv (.int (x + y) :: st)) : hv_J p l e R s m args below meth c nL D A cells slots Q ws (pc) lv (.int y :: .int x :: st) := by
  intro H locs ls hP hD hS hl
  exact lv_iadd C.1.1 C.1.2.1 hd (kk H locs ls hP hD hS hl)
theorem r_isub (C : hv_C p s m args meth c cc nL Ts own D (hv_tys cy)) {x y : Int32} (hd : decode cc pc = .ok (.isub, 1)) (kk : hv_J p l e R s m args below meth c nL D A cells slots Q ws (pc + 1) lv (.int (x - y) :: st)) : hv_J p l e R s m args below meth c nL D A cells slots Q ws (pc) lv (.int y :: .int x :: st) := by
  intro H locs ls hP hD hS hl
  exact lv_isub C.1.1 C.1.2.1 hd (kk H locs ls hP hD hS hl)
theorem r_imul (C : hv_C p s m args meth c cc nL Ts own D (hv_tys cy)) {x y : Int32} (hd : decode cc pc = .ok (.imul, 1)) (kk : hv_J p l e R s m args below meth c nL D A cells slots Q ws (pc + 1) lv (.int (x * y) :: st)) : hv_J p l e R s m args below meth c nL D A cells slots Q ws (pc) lv (.int y :: .int x :: st) := by
  intro H locs ls hP hD hS hl
  exact lv_imul C.1.1 C.1.2.1 hd (kk H locs ls hP hD hS hl)
theorem r_iand (C : hv_C p s m args meth c cc nL Ts own D (hv_tys cy)) {x y : Int32} (hd : decode cc pc = .ok (.iand, 1)) (kk : hv_J p l e R s m args below meth c nL D A cells slots Q ws (pc + 1) lv (.int (x &&& y) :: st)) : hv_J p l e R s m args below meth c nL D A cells slots Q ws (pc) lv (.int y :: .int x :: st) := by
  intro H locs ls hP hD hS hl
  exact lv_iand C.1.1 C.1.2.1 hd (kk H locs ls hP hD hS hl)
theorem r_ior (C : hv_C p s m args meth c cc nL Ts own D (hv_tys cy)) {x y : Int32} (hd : decode cc pc = .ok (.ior, 1)) (kk : hv_J p l e R s m args below meth c nL D A cells slots Q ws (pc + 1) lv (.int (x ||| y) :: st)) : hv_J p l e R s m args below meth c nL D A cells slots Q ws (pc) lv (.int y :: .int x :: st) := by
  intro H locs ls hP hD hS hl
  exact lv_ior C.1.1 C.1.2.1 hd (kk H locs ls hP hD hS hl)
theorem r_ixor (C : hv_C p s m args meth c cc nL Ts own D (hv_tys cy)) {x y : Int32} (hd : decode cc pc = .ok (.ixor, 1)) (kk : hv_J p l e R s m args below meth c nL D A cells slots Q ws (pc + 1) lv (.int (x ^^^ y) :: st)) : hv_J p l e R s m args below meth c nL D A cells slots Q ws (pc) lv (.int y :: .int x :: st) := by
  intro H locs ls hP hD hS hl
  exact lv_ixor C.1.1 C.1.2.1 hd (kk H locs ls hP hD hS hl)
theorem r_ishl (C : hv_C p s m args meth c cc nL Ts own D (hv_tys cy)) {x y : Int32} (hd : decode cc pc = .ok (.ishl, 1)) (kk : hv_J p l e R s m args below meth c nL D A cells slots Q ws (pc + 1) lv (.int (x <<< (y &&& 31)) :: st)) : hv_J p l e R s m args below meth c nL D A cells slots Q ws (pc) lv (.int y :: .int x :: st) := by
  intro H locs ls hP hD hS hl
  exact lv_ishl C.1.1 C.1.2.1 hd (kk H locs ls hP hD hS hl)
theorem r_ishr (C : hv_C p s m args meth c cc nL Ts own D (hv_tys cy)) {x y : Int32} (hd : decode cc pc = .ok (.ishr, 1)) (kk : hv_J p l e R s m args below meth c nL D A cells slots Q ws (pc + 1) lv (.int (x >>> (y &&& 31)) :: st)) : hv_J p l e R s m args below meth c nL D A cells slots Q ws (pc) lv (.int y :: .int x :: st) := by
  intro H locs ls hP hD hS hl
  exact lv_ishr C.1.1 C.1.2.1 hd (kk H locs ls hP hD hS hl)
theorem r_idiv (C : hv_C p s m args meth c cc nL Ts own D (hv_tys cy)) {x y : Int32} (hd : decode cc pc = .ok (.idiv, 1)) (hne : ¬ y = 0) (kk : hv_J p l e R s m args below meth c nL D A cells slots Q ws (pc + 1) lv (.int (x / y) :: st)) : hv_J p l e R s m args below meth c nL D A cells slots Q ws (pc) lv (.int y :: .int x :: st) := by
  intro H locs ls hP hD hS hl
  exact lv_idiv C.1.1 C.1.2.1 hd hne (kk H locs ls hP hD hS hl)
theorem r_irem (C : hv_C p s m args meth c cc nL Ts own D (hv_tys cy)) {x y : Int32} (hd : decode cc pc = .ok (.irem, 1)) (hne : ¬ y = 0) (kk : hv_J p l e R s m args below meth c nL D A cells slots Q ws (pc + 1) lv (.int (x - x / y * y) :: st)) : hv_J p l e R s m args below meth c nL D A cells slots Q ws (pc) lv (.int y :: .int x :: st) := by
  intro H locs ls hP hD hS hl
  exact lv_irem C.1.1 C.1.2.1 hd hne (kk H locs ls hP hD hS hl)
theorem r_ldiv (C : hv_C p s m args meth c cc nL Ts own D (hv_tys cy)) {x y : Int64} (hd : decode cc pc = .ok (.ldiv, 1)) (hne : ¬ y = 0) (kk : hv_J p l e R s m args below meth c nL D A cells slots Q ws (pc + 1) lv (.long (x / y) :: st)) : hv_J p l e R s m args below meth c nL D A cells slots Q ws (pc) lv (.long y :: .long x :: st) := by
  intro H locs ls hP hD hS hl
  exact lv_ldiv C.1.1 C.1.2.1 hd hne (kk H locs ls hP hD hS hl)
theorem r_lrem (C : hv_C p s m args meth c cc nL Ts own D (hv_tys cy)) {x y : Int64} (hd : decode cc pc = .ok (.lrem, 1)) (hne : ¬ y = 0) (kk : hv_J p l e R s m args below meth c nL D A cells slots Q ws (pc + 1) lv (.long (x - x / y * y) :: st)) : hv_J p l e R s m args below meth c nL D A cells slots Q ws (pc) lv (.long y :: .long x :: st) := by
  intro H locs ls hP hD hS hl
  exact lv_lrem C.1.1 C.1.2.1 hd hne (kk H locs ls hP hD hS hl)
theorem r_ladd (C : hv_C p s m args meth c cc nL Ts own D (hv_tys cy)) {x y : Int64} (hd : decode cc pc = .ok (.ladd, 1)) (kk : hv_J p l e R s m args below meth c nL D A cells slots Q ws (pc + 1) lv (.long (x + y) :: st)) : hv_J p l e R s m args below meth c nL D A cells slots Q ws (pc) lv (.long y :: .long x :: st) := by
  intro H locs ls hP hD hS hl
  exact lv_ladd C.1.1 C.1.2.1 hd (kk H locs ls hP hD hS hl)
theorem r_lsub (C : hv_C p s m args meth c cc nL Ts own D (hv_tys cy)) {x y : Int64} (hd : decode cc pc = .ok (.lsub, 1)) (kk : hv_J p l e R s m args below meth c nL D A cells slots Q ws (pc + 1) lv (.long (x - y) :: st)) : hv_J p l e R s m args below meth c nL D A cells slots Q ws (pc) lv (.long y :: .long x :: st) := by
  intro H locs ls hP hD hS hl
  exact lv_lsub C.1.1 C.1.2.1 hd (kk H locs ls hP hD hS hl)
theorem r_lmul (C : hv_C p s m args meth c cc nL Ts own D (hv_tys cy)) {x y : Int64} (hd : decode cc pc = .ok (.lmul, 1)) (kk : hv_J p l e R s m args below meth c nL D A cells slots Q ws (pc + 1) lv (.long (x * y) :: st)) : hv_J p l e R s m args below meth c nL D A cells slots Q ws (pc) lv (.long y :: .long x :: st) := by
  intro H locs ls hP hD hS hl
  exact lv_lmul C.1.1 C.1.2.1 hd (kk H locs ls hP hD hS hl)
theorem r_ineg (C : hv_C p s m args meth c cc nL Ts own D (hv_tys cy)) {x : Int32} (hd : decode cc pc = .ok (.ineg, 1)) (kk : hv_J p l e R s m args below meth c nL D A cells slots Q ws (pc + 1) lv (.int (-x) :: st)) : hv_J p l e R s m args below meth c nL D A cells slots Q ws (pc) lv (.int x :: st) := by
  intro H locs ls hP hD hS hl
  exact lv_ineg C.1.1 C.1.2.1 hd (kk H locs ls hP hD hS hl)
theorem r_lneg (C : hv_C p s m args meth c cc nL Ts own D (hv_tys cy)) {x : Int64} (hd : decode cc pc = .ok (.lneg, 1)) (kk : hv_J p l e R s m args below meth c nL D A cells slots Q ws (pc + 1) lv (.long (-x) :: st)) : hv_J p l e R s m args below meth c nL D A cells slots Q ws (pc) lv (.long x :: st) := by
  intro H locs ls hP hD hS hl
  exact lv_lneg C.1.1 C.1.2.1 hd (kk H locs ls hP hD hS hl)
theorem r_i2l (C : hv_C p s m args meth c cc nL Ts own D (hv_tys cy)) {x : Int32} (hd : decode cc pc = .ok (.i2l, 1)) (kk : hv_J p l e R s m args below meth c nL D A cells slots Q ws (pc + 1) lv (.long x.toInt64 :: st)) : hv_J p l e R s m args below meth c nL D A cells slots Q ws (pc) lv (.int x :: st) := by
  intro H locs ls hP hD hS hl
  exact lv_i2l C.1.1 C.1.2.1 hd rfl (kk H locs ls hP hD hS hl)
theorem r_l2i (C : hv_C p s m args meth c cc nL Ts own D (hv_tys cy)) {x : Int64} (hd : decode cc pc = .ok (.l2i, 1)) (kk : hv_J p l e R s m args below meth c nL D A cells slots Q ws (pc + 1) lv (.int x.toInt32 :: st)) : hv_J p l e R s m args below meth c nL D A cells slots Q ws (pc) lv (.long x :: st) := by
  intro H locs ls hP hD hS hl
  exact lv_l2i C.1.1 C.1.2.1 hd rfl (kk H locs ls hP hD hS hl)
theorem r_iushr (C : hv_C p s m args meth c cc nL Ts own D (hv_tys cy)) {x y : Int32} (hd : decode cc pc = .ok (.iushr, 1)) (kk : hv_J p l e R s m args below meth c nL D A cells slots Q ws (pc + 1) lv (.int ((x.toUInt32 >>> (y.toUInt32 &&& Int32.toUInt32 31)).toInt32) :: st)) : hv_J p l e R s m args below meth c nL D A cells slots Q ws (pc) lv (.int y :: .int x :: st) := by
  intro H locs ls hP hD hS hl
  exact lv_iushr C.1.1 C.1.2.1 hd rfl (kk H locs ls hP hD hS hl)
theorem r_lcmp (C : hv_C p s m args meth c cc nL Ts own D (hv_tys cy)) {x y : Int64} (hd : decode cc pc = .ok (.lcmp, 1)) (kk : hv_J p l e R s m args below meth c nL D A cells slots Q ws (pc + 1) lv (.int (lg_cmp x y) :: st)) : hv_J p l e R s m args below meth c nL D A cells slots Q ws (pc) lv (.long y :: .long x :: st) := by
  intro H locs ls hP hD hS hl
  exact W.lcmp C.1.1 C.1.2.1 hd (kk H locs ls hP hD hS hl)
theorem r_dup (C : hv_C p s m args meth c cc nL Ts own D (hv_tys cy)) {v : Value} (hd : decode cc pc = .ok (.dup, 1)) (hv : v.category = 1) (kk : hv_J p l e R s m args below meth c nL D A cells slots Q ws (pc + 1) lv (v :: v :: st)) : hv_J p l e R s m args below meth c nL D A cells slots Q ws (pc) lv (v :: st) := by
  intro H locs ls hP hD hS hl
  exact lv_dup C.1.1 C.1.2.1 hd hv (kk H locs ls hP hD hS hl)
theorem r_dup2_2 (C : hv_C p s m args meth c cc nL Ts own D (hv_tys cy)) {v : Value} (hd : decode cc pc = .ok (.dup2, 1)) (hv : v.category = 2) (kk : hv_J p l e R s m args below meth c nL D A cells slots Q ws (pc + 1) lv (v :: v :: st)) : hv_J p l e R s m args below meth c nL D A cells slots Q ws (pc) lv (v :: st) := by
  intro H locs ls hP hD hS hl
  exact lv_dup2_2 C.1.1 C.1.2.1 hd hv (kk H locs ls hP hD hS hl)
theorem r_dup2_11 (C : hv_C p s m args meth c cc nL Ts own D (hv_tys cy)) {v w : Value} (hd : decode cc pc = .ok (.dup2, 1)) (hv : v.category = 1) (hw : w.category = 1) (kk : hv_J p l e R s m args below meth c nL D A cells slots Q ws (pc + 1) lv (v :: w :: v :: w :: st)) : hv_J p l e R s m args below meth c nL D A cells slots Q ws (pc) lv (v :: w :: st) := by
  intro H locs ls hP hD hS hl
  exact lv_dup2_11 C.1.1 C.1.2.1 hd hv hw (kk H locs ls hP hD hS hl)
theorem r_pop (C : hv_C p s m args meth c cc nL Ts own D (hv_tys cy)) {v : Value} (hd : decode cc pc = .ok (.pop, 1)) (hv : v.category = 1) (kk : hv_J p l e R s m args below meth c nL D A cells slots Q ws (pc + 1) lv (st)) : hv_J p l e R s m args below meth c nL D A cells slots Q ws (pc) lv (v :: st) := by
  intro H locs ls hP hD hS hl
  exact lv_pop C.1.1 C.1.2.1 hd hv (kk H locs ls hP hD hS hl)
theorem r_goto (C : hv_C p s m args meth c cc nL Ts own D (hv_tys cy)) {off : Int} {tgt : Nat} (hd : decode cc pc = .ok (.goto off, 3)) (ht : (pc : Int) + off = (tgt : Int)) (kk : hv_J p l e R s m args below meth c nL D A cells slots Q ws (tgt) lv (st)) : hv_J p l e R s m args below meth c nL D A cells slots Q ws (pc) lv (st) := by
  intro H locs ls hP hD hS hl
  exact lv_goto C.1.1 C.1.2.1 hd ht (kk H locs ls hP hD hS hl)
theorem r_icmp_eq (C : hv_C p s m args meth c cc nL Ts own D (hv_tys cy)) {x y : Int32} {off : Int} {tgt : Nat} (hd : decode cc pc = .ok (.if_icmp .eq off, 3)) (ht : (pc : Int) + off = (tgt : Int)) (kt : x = y → hv_J p l e R s m args below meth c nL D A cells slots Q ws (tgt) lv (st)) (kf : ¬ x = y → hv_J p l e R s m args below meth c nL D A cells slots Q ws (pc + 3) lv (st)) : hv_J p l e R s m args below meth c nL D A cells slots Q ws (pc) lv (.int y :: .int x :: st) := by
  intro H locs ls hP hD hS hl
  exact lv_icmp_eq C.1.1 C.1.2.1 hd ht (fun h => kt h H locs ls hP hD hS hl) (fun h => kf h H locs ls hP hD hS hl)
theorem r_if_eq (C : hv_C p s m args meth c cc nL Ts own D (hv_tys cy)) {x : Int32} {off : Int} {tgt : Nat} (hd : decode cc pc = .ok (.ifCond .eq off, 3)) (ht : (pc : Int) + off = (tgt : Int)) (kt : x = 0 → hv_J p l e R s m args below meth c nL D A cells slots Q ws (tgt) lv (st)) (kf : ¬ x = 0 → hv_J p l e R s m args below meth c nL D A cells slots Q ws (pc + 3) lv (st)) : hv_J p l e R s m args below meth c nL D A cells slots Q ws (pc) lv (.int x :: st) := by
  intro H locs ls hP hD hS hl
  exact lv_if_eq C.1.1 C.1.2.1 hd ht (fun h => kt h H locs ls hP hD hS hl) (fun h => kf h H locs ls hP hD hS hl)
theorem r_icmp_ne (C : hv_C p s m args meth c cc nL Ts own D (hv_tys cy)) {x y : Int32} {off : Int} {tgt : Nat} (hd : decode cc pc = .ok (.if_icmp .ne off, 3)) (ht : (pc : Int) + off = (tgt : Int)) (kt : ¬ x = y → hv_J p l e R s m args below meth c nL D A cells slots Q ws (tgt) lv (st)) (kf : x = y → hv_J p l e R s m args below meth c nL D A cells slots Q ws (pc + 3) lv (st)) : hv_J p l e R s m args below meth c nL D A cells slots Q ws (pc) lv (.int y :: .int x :: st) := by
  intro H locs ls hP hD hS hl
  exact lv_icmp_ne C.1.1 C.1.2.1 hd ht (fun h => kt h H locs ls hP hD hS hl) (fun h => kf h H locs ls hP hD hS hl)
theorem r_if_ne (C : hv_C p s m args meth c cc nL Ts own D (hv_tys cy)) {x : Int32} {off : Int} {tgt : Nat} (hd : decode cc pc = .ok (.ifCond .ne off, 3)) (ht : (pc : Int) + off = (tgt : Int)) (kt : ¬ x = 0 → hv_J p l e R s m args below meth c nL D A cells slots Q ws (tgt) lv (st)) (kf : x = 0 → hv_J p l e R s m args below meth c nL D A cells slots Q ws (pc + 3) lv (st)) : hv_J p l e R s m args below meth c nL D A cells slots Q ws (pc) lv (.int x :: st) := by
  intro H locs ls hP hD hS hl
  exact lv_if_ne C.1.1 C.1.2.1 hd ht (fun h => kt h H locs ls hP hD hS hl) (fun h => kf h H locs ls hP hD hS hl)
theorem r_icmp_lt (C : hv_C p s m args meth c cc nL Ts own D (hv_tys cy)) {x y : Int32} {off : Int} {tgt : Nat} (hd : decode cc pc = .ok (.if_icmp .lt off, 3)) (ht : (pc : Int) + off = (tgt : Int)) (kt : x < y → hv_J p l e R s m args below meth c nL D A cells slots Q ws (tgt) lv (st)) (kf : ¬ x < y → hv_J p l e R s m args below meth c nL D A cells slots Q ws (pc + 3) lv (st)) : hv_J p l e R s m args below meth c nL D A cells slots Q ws (pc) lv (.int y :: .int x :: st) := by
  intro H locs ls hP hD hS hl
  exact lv_icmp_lt C.1.1 C.1.2.1 hd ht (fun h => kt h H locs ls hP hD hS hl) (fun h => kf h H locs ls hP hD hS hl)
theorem r_if_lt (C : hv_C p s m args meth c cc nL Ts own D (hv_tys cy)) {x : Int32} {off : Int} {tgt : Nat} (hd : decode cc pc = .ok (.ifCond .lt off, 3)) (ht : (pc : Int) + off = (tgt : Int)) (kt : x < 0 → hv_J p l e R s m args below meth c nL D A cells slots Q ws (tgt) lv (st)) (kf : ¬ x < 0 → hv_J p l e R s m args below meth c nL D A cells slots Q ws (pc + 3) lv (st)) : hv_J p l e R s m args below meth c nL D A cells slots Q ws (pc) lv (.int x :: st) := by
  intro H locs ls hP hD hS hl
  exact lv_if_lt C.1.1 C.1.2.1 hd ht (fun h => kt h H locs ls hP hD hS hl) (fun h => kf h H locs ls hP hD hS hl)
theorem r_icmp_ge (C : hv_C p s m args meth c cc nL Ts own D (hv_tys cy)) {x y : Int32} {off : Int} {tgt : Nat} (hd : decode cc pc = .ok (.if_icmp .ge off, 3)) (ht : (pc : Int) + off = (tgt : Int)) (kt : y ≤ x → hv_J p l e R s m args below meth c nL D A cells slots Q ws (tgt) lv (st)) (kf : ¬ y ≤ x → hv_J p l e R s m args below meth c nL D A cells slots Q ws (pc + 3) lv (st)) : hv_J p l e R s m args below meth c nL D A cells slots Q ws (pc) lv (.int y :: .int x :: st) := by
  intro H locs ls hP hD hS hl
  exact lv_icmp_ge C.1.1 C.1.2.1 hd ht (fun h => kt h H locs ls hP hD hS hl) (fun h => kf h H locs ls hP hD hS hl)
theorem r_if_ge (C : hv_C p s m args meth c cc nL Ts own D (hv_tys cy)) {x : Int32} {off : Int} {tgt : Nat} (hd : decode cc pc = .ok (.ifCond .ge off, 3)) (ht : (pc : Int) + off = (tgt : Int)) (kt : 0 ≤ x → hv_J p l e R s m args below meth c nL D A cells slots Q ws (tgt) lv (st)) (kf : ¬ 0 ≤ x → hv_J p l e R s m args below meth c nL D A cells slots Q ws (pc + 3) lv (st)) : hv_J p l e R s m args below meth c nL D A cells slots Q ws (pc) lv (.int x :: st) := by
  intro H locs ls hP hD hS hl
  exact lv_if_ge C.1.1 C.1.2.1 hd ht (fun h => kt h H locs ls hP hD hS hl) (fun h => kf h H locs ls hP hD hS hl)
theorem r_icmp_gt (C : hv_C p s m args meth c cc nL Ts own D (hv_tys cy)) {x y : Int32} {off : Int} {tgt : Nat} (hd : decode cc pc = .ok (.if_icmp .gt off, 3)) (ht : (pc : Int) + off = (tgt : Int)) (kt : y < x → hv_J p l e R s m args below meth c nL D A cells slots Q ws (tgt) lv (st)) (kf : ¬ y < x → hv_J p l e R s m args below meth c nL D A cells slots Q ws (pc + 3) lv (st)) : hv_J p l e R s m args below meth c nL D A cells slots Q ws (pc) lv (.int y :: .int x :: st) := by
  intro H locs ls hP hD hS hl
  exact lv_icmp_gt C.1.1 C.1.2.1 hd ht (fun h => kt h H locs ls hP hD hS hl) (fun h => kf h H locs ls hP hD hS hl)
theorem r_if_gt (C : hv_C p s m args meth c cc nL Ts own D (hv_tys cy)) {x : Int32} {off : Int} {tgt : Nat} (hd : decode cc pc = .ok (.ifCond .gt off, 3)) (ht : (pc : Int) + off = (tgt : Int)) (kt : 0 < x → hv_J p l e R s m args below meth c nL D A cells slots Q ws (tgt) lv (st)) (kf : ¬ 0 < x → hv_J p l e R s m args below meth c nL D A cells slots Q ws (pc + 3) lv (st)) : hv_J p l e R s m args below meth c nL D A cells slots Q ws (pc) lv (.int x :: st) := by
  intro H locs ls hP hD hS hl
  exact lv_if_gt C.1.1 C.1.2.1 hd ht (fun h => kt h H locs ls hP hD hS hl) (fun h => kf h H locs ls hP hD hS hl)
theorem r_icmp_le (C : hv_C p s m args meth c cc nL Ts own D (hv_tys cy)) {x y : Int32} {off : Int} {tgt : Nat} (hd : decode cc pc = .ok (.if_icmp .le off, 3)) (ht : (pc : Int) + off = (tgt : Int)) (kt : x ≤ y → hv_J p l e R s m args below meth c nL D A cells slots Q ws (tgt) lv (st)) (kf : ¬ x ≤ y → hv_J p l e R s m args below meth c nL D A cells slots Q ws (pc + 3) lv (st)) : hv_J p l e R s m args below meth c nL D A cells slots Q ws (pc) lv (.int y :: .int x :: st) := by
  intro H locs ls hP hD hS hl
  exact lv_icmp_le C.1.1 C.1.2.1 hd ht (fun h => kt h H locs ls hP hD hS hl) (fun h => kf h H locs ls hP hD hS hl)
theorem r_if_le (C : hv_C p s m args meth c cc nL Ts own D (hv_tys cy)) {x : Int32} {off : Int} {tgt : Nat} (hd : decode cc pc = .ok (.ifCond .le off, 3)) (ht : (pc : Int) + off = (tgt : Int)) (kt : x ≤ 0 → hv_J p l e R s m args below meth c nL D A cells slots Q ws (tgt) lv (st)) (kf : ¬ x ≤ 0 → hv_J p l e R s m args below meth c nL D A cells slots Q ws (pc + 3) lv (st)) : hv_J p l e R s m args below meth c nL D A cells slots Q ws (pc) lv (.int x :: st) := by
  intro H locs ls hP hD hS hl
  exact lv_if_le C.1.1 C.1.2.1 hd ht (fun h => kt h H locs ls hP hD hS hl) (fun h => kf h H locs ls hP hD hS hl)
theorem r_tableIn (C : hv_C p s m args meth c cc nL Ts own D (hv_tys cy)) {dflt lo hi : Int} {offs : Array Int} {len : Nat} {x : Int32} {off : Int} {tgt : Nat} (hd : decode cc pc = .ok (.tableswitch dflt lo hi offs, len)) (h1 : ¬ x.toInt < lo) (h2 : ¬ hi < x.toInt) (ho : offs[(x.toInt - lo).toNat]? = some off) (ht : (pc : Int) + off = (tgt : Int)) (kk : hv_J p l e R s m args below meth c nL D A cells slots Q ws (tgt) lv (st)) : hv_J p l e R s m args below meth c nL D A cells slots Q ws (pc) lv (.int x :: st) := by
  intro H locs ls hP hD hS hl
  exact lv_tableIn C.1.1 C.1.2.1 hd h1 h2 ho ht (kk H locs ls hP hD hS hl)
theorem r_tableOut (C : hv_C p s m args meth c cc nL Ts own D (hv_tys cy)) {dflt lo hi : Int} {offs : Array Int} {len : Nat} {x : Int32} {tgt : Nat} (hd : decode cc pc = .ok (.tableswitch dflt lo hi offs, len)) (h : x.toInt < lo ∨ hi < x.toInt) (ht : (pc : Int) + dflt = (tgt : Int)) (kk : hv_J p l e R s m args below meth c nL D A cells slots Q ws (tgt) lv (st)) : hv_J p l e R s m args below meth c nL D A cells slots Q ws (pc) lv (.int x :: st) := by
  intro H locs ls hP hD hS hl
  exact lv_tableOut C.1.1 C.1.2.1 hd h ht (kk H locs ls hP hD hS hl)
theorem r_lookup (C : hv_C p s m args meth c cc nL Ts own D (hv_tys cy)) {dflt : Int} {ps : Array (Int × Int)} {len : Nat} {x : Int32} {off : Int} {tgt : Nat} (hd : decode cc pc = .ok (.lookupswitch dflt ps, len)) (hp : (ps.toList.zip (ps.toList.drop 1)).all (fun (a, next) => a.1 < next.1) = true) (ho : Op.lookupswitch.offset ps.toList dflt x.toInt = off) (ht : (pc : Int) + off = (tgt : Int)) (kk : hv_J p l e R s m args below meth c nL D A cells slots Q ws (tgt) lv (st)) : hv_J p l e R s m args below meth c nL D A cells slots Q ws (pc) lv (.int x :: st) := by
  intro H locs ls hP hD hS hl
  exact lv_lookup C.1.1 C.1.2.1 hd hp ho ht (kk H locs ls hP hD hS hl)
theorem r_lv {lv' : List (Nat × Value)} (ks : List Nat) (h : lv_pick lv ks = lv') (kk : hv_J p l e R s m args below meth c nL D A cells slots Q ws (pc) lv' (st)) : hv_J p l e R s m args below meth c nL D A cells slots Q ws (pc) lv (st) := by
  intro H locs ls hP hD hS hl
  exact kk H locs ls hP hD hS (lv_sub hl ks h)
theorem r_st {st' : List Value} (h : st = st') (kk : hv_J p l e R s m args below meth c nL D A cells slots Q ws (pc) lv (st')) : hv_J p l e R s m args below meth c nL D A cells slots Q ws (pc) lv (st) := by
  subst h
  exact kk
theorem r_mmin (C : hv_C p s m args meth c cc nL Ts own D (hv_tys cy)) {index : Nat} {x y : Int32} (h1 : Cond.methodLink own index Lib.Math.min.name ∈ Ts) (h2 : Cond.static Lib.Math.min.name ∈ Ts) (h3 : Cond.initialized "java/lang/Math" ∈ Ts) (h4 : Cond.code Lib.Math.min.name Lib.Math.min.code 2 (some .int) ∈ Ts) (hfr : 1 ≤ R.frames) (hlo : (st.map fun v => v.category).sum + 13 ≤ R.locals) (hcl : cells ≤ R.cells ∧ slots ≤ R.slots) (hd : decode cc pc = .ok (.invokestatic index, 3)) (kk : hv_J p l e R s m args below meth c nL D A cells slots Q ws (pc + 3) lv (.int (if y < x then y else x) :: st)) : hv_J p l e R s m args below meth c nL D A cells slots Q ws (pc) lv (.int y :: .int x :: st) := by
  intro H locs ls hP hD hS hl
  exact va_mmin C.1.1 C.1.2.1 (by rw [C.1.2.2.1]; exact hl.1.symm) C.1.2.2.2.1 (C.1.2.2.2.2 _ h1) (C.1.2.2.2.2 _ h2) (C.1.2.2.2.2 _ h3) (C.1.2.2.2.2 _ h4) hfr hlo hcl.1 hcl.2 hd (kk H locs ls hP hD hS hl)
theorem r_mminL (C : hv_C p s m args meth c cc nL Ts own D (hv_tys cy)) {index : Nat} {x y : Int64} (h1 : Cond.methodLink own index Lib.MathLoose.min_long.x ∈ Ts) (h2 : Cond.static Lib.MathLoose.min_long.x ∈ Ts) (h3 : Cond.initialized "java/lang/Math" ∈ Ts) (h4 : Cond.code Lib.MathLoose.min_long.x Lib.MathLoose.min_long.code 4 (some .long) ∈ Ts) (hfr : 1 ≤ R.frames) (hlo : (st.map fun v => v.category).sum + 15 ≤ R.locals) (hcl : cells ≤ R.cells ∧ slots ≤ R.slots) (hd : decode cc pc = .ok (.invokestatic index, 3)) (kk : hv_J p l e R s m args below meth c nL D A cells slots Q ws (pc + 3) lv (.long (if y < x then y else x) :: st)) : hv_J p l e R s m args below meth c nL D A cells slots Q ws (pc) lv (.long y :: .long x :: st) := by
  intro H locs ls hP hD hS hl
  exact va_mmin_long C.1.1 C.1.2.1 (by rw [C.1.2.2.1]; exact hl.1.symm) C.1.2.2.2.1 (C.1.2.2.2.2 _ h1) (C.1.2.2.2.2 _ h2) (C.1.2.2.2.2 _ h3) (C.1.2.2.2.2 _ h4) hfr hlo hcl.1 hcl.2 hd (kk H locs ls hP hD hS hl)
theorem r_mabsL (C : hv_C p s m args meth c cc nL Ts own D (hv_tys cy)) {index : Nat} {x : Int64} (h1 : Cond.methodLink own index Lib.MathLoose.abs_long.x ∈ Ts) (h2 : Cond.static Lib.MathLoose.abs_long.x ∈ Ts) (h3 : Cond.initialized "java/lang/Math" ∈ Ts) (h4 : Cond.code Lib.MathLoose.abs_long.x Lib.MathLoose.abs_long.code 2 (some .long) ∈ Ts) (hfr : 1 ≤ R.frames) (hlo : (st.map fun v => v.category).sum + 13 ≤ R.locals) (hcl : cells ≤ R.cells ∧ slots ≤ R.slots) (hd : decode cc pc = .ok (.invokestatic index, 3)) (kk : hv_J p l e R s m args below meth c nL D A cells slots Q ws (pc + 3) lv (.long (if 0 < x then x else -x) :: st)) : hv_J p l e R s m args below meth c nL D A cells slots Q ws (pc) lv (.long x :: st) := by
  intro H locs ls hP hD hS hl
  exact va_mabs_long C.1.1 C.1.2.1 (by rw [C.1.2.2.1]; exact hl.1.symm) C.1.2.2.2.1 (C.1.2.2.2.2 _ h1) (C.1.2.2.2.2 _ h2) (C.1.2.2.2.2 _ h3) (C.1.2.2.2.2 _ h4) hfr hlo hcl.1 hcl.2 hd (kk H locs ls hP hD hS hl)
theorem r_ldc (C : hv_C p s m args meth c cc nL Ts own D (hv_tys cy)) {index : Nat} {v : Int32} (hc : Cond.constant own index v ∈ Ts) (hd : decode cc pc = .ok (.ldc index, 2)) (kk : hv_J p l e R s m args below meth c nL D A cells slots Q ws (pc + 2) lv (.int v :: st)) : hv_J p l e R s m args below meth c nL D A cells slots Q ws pc lv st := by
  intro H locs ls hP hD hS hl
  exact lv_ldc C.1.1 C.1.2.1 C.1.2.2.2.1 (C.1.2.2.2.2 _ hc) hd (kk H locs ls hP hD hS hl)
theorem r_null (C : hv_C p s m args meth c cc nL Ts own D (hv_tys cy)) (hd : decode cc pc = .ok (.aconst_null, 1)) (kk : hv_J p l e R s m args below meth c nL D A cells slots Q ws (pc + 1) lv (.null :: st)) : hv_J p l e R s m args below meth c nL D A cells slots Q ws pc lv st := by
  intro H locs ls hP hD hS hl
  exact lv_null C.1.1 C.1.2.1 hd (kk H locs ls hP hD hS hl)
theorem r_ifnonnull (C : hv_C p s m args meth c cc nL Ts own D (hv_tys cy)) {x : Nat} {off : Int} {tgt : Nat} (hd : decode cc pc = .ok (.ifnonnull off, 3)) (ht : (pc : Int) + off = (tgt : Int)) (kk : hv_J p l e R s m args below meth c nL D A cells slots Q ws tgt lv st) : hv_J p l e R s m args below meth c nL D A cells slots Q ws pc lv (.ref x :: st) := by
  intro H locs ls hP hD hS hl
  exact lv_ifnonnull C.1.1 C.1.2.1 hd ht (kk H locs ls hP hD hS hl)
theorem r_ifnull (C : hv_C p s m args meth c cc nL Ts own D (hv_tys cy)) {x : Nat} {off : Int} (hd : decode cc pc = .ok (.ifnull off, 3)) (kk : hv_J p l e R s m args below meth c nL D A cells slots Q ws (pc + 3) lv st) : hv_J p l e R s m args below meth c nL D A cells slots Q ws pc lv (.ref x :: st) := by
  intro H locs ls hP hD hS hl
  exact lv_ifnull C.1.1 C.1.2.1 hd (kk H locs ls hP hD hS hl)
theorem r_ifnullN (C : hv_C p s m args meth c cc nL Ts own D (hv_tys cy)) {off : Int} {tgt : Nat} (hd : decode cc pc = .ok (.ifnull off, 3)) (ht : (pc : Int) + off = (tgt : Int)) (kk : hv_J p l e R s m args below meth c nL D A cells slots Q ws tgt lv st) : hv_J p l e R s m args below meth c nL D A cells slots Q ws pc lv (.null :: st) := by
  intro H locs ls hP hD hS hl
  exact lv_ifnullN C.1.1 C.1.2.1 hd ht (kk H locs ls hP hD hS hl)
theorem r_ifnonnullN (C : hv_C p s m args meth c cc nL Ts own D (hv_tys cy)) {off : Int} (hd : decode cc pc = .ok (.ifnonnull off, 3)) (kk : hv_J p l e R s m args below meth c nL D A cells slots Q ws (pc + 3) lv st) : hv_J p l e R s m args below meth c nL D A cells slots Q ws pc lv (.null :: st) := by
  intro H locs ls hP hD hS hl
  exact lv_ifnonnullN C.1.1 C.1.2.1 hd (kk H locs ls hP hD hS hl)
theorem r_aloadN (C : hv_C p s m args meth c cc nL Ts own D (hv_tys cy)) {i : Nat} (pl : Nat) (hd : decode cc pc = .ok (.aload i, 2)) (hk : lv[pl]? = some (i, .null)) (kk : hv_J p l e R s m args below meth c nL D A cells slots Q ws (pc + 2) lv (.null :: st)) : hv_J p l e R s m args below meth c nL D A cells slots Q ws pc lv st := by
  intro H locs ls hP hD hS hl
  exact lv_aloadN C.1.1 C.1.2.1 hd (lv_at hl pl hk) (kk H locs ls hP hD hS hl)
theorem r_astoreN (C : hv_C p s m args meth c cc nL Ts own D (hv_tys cy)) {i : Nat} {lv' : List (Nat × Value)} (hd : decode cc pc = .ok (.astore i, 2)) (hn : i < nL) (hf : (i, Value.null) :: lv.filter (fun q => !(q.1 == i) && !(q.1 + 1 == i && q.2.category == 2)) = lv') (kk : hv_J p l e R s m args below meth c nL D A cells slots Q ws (pc + 2) lv' st) : hv_J p l e R s m args below meth c nL D A cells slots Q ws pc lv (.null :: st) := by
  intro H locs ls hP hD hS hl
  exact lv_astoreN C.1.1 C.1.2.1 hd hl hn hf (fun ls' hl' => kk H locs ls' hP hD hS hl')
theorem r_astore_nN (C : hv_C p s m args meth c cc nL Ts own D (hv_tys cy)) {k : Fin 4} {i : Nat} {lv' : List (Nat × Value)} (hd : decode cc pc = .ok (.astore_n k, 1)) (hi : (k : Nat) = i) (hn : i < nL) (hf : (i, Value.null) :: lv.filter (fun q => !(q.1 == i) && !(q.1 + 1 == i && q.2.category == 2)) = lv') (kk : hv_J p l e R s m args below meth c nL D A cells slots Q ws (pc + 1) lv' st) : hv_J p l e R s m args below meth c nL D A cells slots Q ws pc lv (.null :: st) := by
  intro H locs ls hP hD hS hl
  exact lv_astore_nN C.1.1 C.1.2.1 hd hi hl hn hf (fun ls' hl' => kk H locs ls' hP hD hS hl')
theorem r_ws {ws' : va_W} (h : ws = ws') (kk : hv_J p l e R s m args below meth c nL D A cells slots Q ws' pc lv st) : hv_J p l e R s m args below meth c nL D A cells slots Q ws pc lv st := by
  subst h
  exact kk
theorem r_wide {k n : Nat} (h1 : cells ≤ k) (h2 : slots ≤ n) (kk : hv_J p l e R s m args below meth c nL D A k n Q ws pc lv st) : hv_J p l e R s m args below meth c nL D A cells slots Q ws pc lv st := by
  intro H locs ls hP hD hS hl
  exact W.widen h1 h2 (kk H locs ls hP hD hS hl)
theorem r_nm {x v : Int32} (e1 : x = v) (kk : hv_J p l e R s m args below meth c nL D A cells slots Q ws pc lv (.int x :: st)) : hv_J p l e R s m args below meth c nL D A cells slots Q ws pc lv (.int v :: st) := by
  subst e1
  exact kk
end LR

/-! worlds as lists: by their members -/
theorem lv_P_iff {D : va_G} {cl : List vw_C} {ws : va_W} {H : Heap} : va_P D cl ws H ↔ ∀ x ∈ ws, va_at D cl x H := by
  constructor
  · intro h x hx
    obtain ⟨k, hk, e⟩ := List.mem_iff_getElem.mp hx
    exact h k x (by rw [List.getElem?_eq_getElem hk, e])
  · intro h k q hq
    exact h q (List.mem_of_getElem? hq)
theorem lv_D_iff {A : Nat → Prop} {ws : va_W} : va_D A ws ↔ (ws.map Prod.fst).Nodup ∧ ∀ x ∈ ws, A x.1 := by
  constructor
  · intro h
    refine ⟨?_, fun x hx => ?_⟩
    · rw [List.nodup_iff_pairwise_ne, List.pairwise_iff_getElem]
      intro i j hi hj hij e
      rw [List.length_map] at hi hj
      rw [List.getElem_map, List.getElem_map] at e
      have := h.1 i j _ _ (List.getElem?_eq_getElem hi) (List.getElem?_eq_getElem hj) e
      omega
    · obtain ⟨k, hk, e⟩ := List.mem_iff_getElem.mp hx
      exact h.2 k x (by rw [List.getElem?_eq_getElem hk, e])
  · intro h
    refine ⟨fun i j p q hi hj e => ?_, fun k q hq => h.2 q (List.mem_of_getElem? hq)⟩
    obtain ⟨li, ei⟩ := List.getElem?_eq_some_iff.mp hi
    obtain ⟨lj, ej⟩ := List.getElem?_eq_some_iff.mp hj
    have hn := h.1
    rw [List.nodup_iff_pairwise_ne, List.pairwise_iff_getElem] at hn
    rcases Nat.lt_trichotomy i j with hij | hij | hij
    · refine absurd ?_ (hn i j (by rw [List.length_map]; exact li) (by rw [List.length_map]; exact lj) hij)
      rw [List.getElem_map, List.getElem_map, ei, ej, e]
    · exact hij
    · refine absurd ?_ (hn j i (by rw [List.length_map]; exact lj) (by rw [List.length_map]; exact li) hij)
      rw [List.getElem_map, List.getElem_map, ei, ej, e]
theorem lv_P_app {D : va_G} {cl : List vw_C} {a b : va_W} {H : Heap} : va_P D cl (a ++ b) H ↔ va_P D cl a H ∧ va_P D cl b H := by
  rw [lv_P_iff, lv_P_iff, lv_P_iff]
  exact List.forall_mem_append
theorem lv_D_app {A : Nat → Prop} {a b : va_W} : va_D A (a ++ b) ↔ va_D A a ∧ va_D A b ∧ ∀ x ∈ a, ∀ y ∈ b, x.1 ≠ y.1 := by
  rw [lv_D_iff, lv_D_iff, lv_D_iff, List.map_append, List.nodup_append, List.forall_mem_append]
  constructor
  · rintro ⟨⟨h1, h2, h3⟩, h4, h5⟩
    exact ⟨⟨h1, h4⟩, ⟨h2, h5⟩, fun x hx y hy => h3 _ (List.mem_map_of_mem hx) _ (List.mem_map_of_mem hy)⟩
  · rintro ⟨⟨h1, h4⟩, ⟨h2, h5⟩, h3⟩
    refine ⟨⟨h1, h2, fun x hx y hy => ?_⟩, h4, h5⟩
    obtain ⟨x', hx', rfl⟩ := List.mem_map.mp hx
    obtain ⟨y', hy', rfl⟩ := List.mem_map.mp hy
    exact h3 x' hx' y' hy'
theorem lv_D_sub {A : Nat → Prop} {a b : va_W} (h : a.Sublist b) (hD : va_D A b) : va_D A a := lv_D_iff.mpr ⟨(h.map Prod.fst).nodup (lv_D_iff.mp hD).1, fun x hx => (lv_D_iff.mp hD).2 x (h.subset hx)⟩
theorem lv_P_sub {D : va_G} {cl : List vw_C} {a b : va_W} {H : Heap} (h : a.Sublist b) (hP : va_P D cl b H) : va_P D cl a H := lv_P_iff.mpr (fun x hx => lv_P_iff.mp hP x (h.subset hx))
theorem lv_D_perm {A : Nat → Prop} {a b : va_W} (h : a.Perm b) (hD : va_D A a) : va_D A b := lv_D_iff.mpr ⟨(h.map Prod.fst).nodup_iff.mp (lv_D_iff.mp hD).1, fun x hx => (lv_D_iff.mp hD).2 x (h.mem_iff.mpr hx)⟩
theorem lv_P_perm {D : va_G} {cl : List vw_C} {a b : va_W} {H : Heap} (h : a.Perm b) (hP : va_P D cl a H) : va_P D cl b H := lv_P_iff.mpr (fun x hx => lv_P_iff.mp hP x (h.mem_iff.mpr hx))
theorem lv_D_fst {A : Nat → Prop} {a b : va_W} (h : a.map Prod.fst = b.map Prod.fst) (hD : va_D A a) : va_D A b := by
  have h1 := lv_D_iff.mp hD
  refine lv_D_iff.mpr ⟨by rw [← h]; exact h1.1, fun x hx => ?_⟩
  have : x.1 ∈ a.map Prod.fst := by rw [h]; exact List.mem_map_of_mem hx
  obtain ⟨y, hy, e⟩ := List.mem_map.mp this
  rw [← e]
  exact h1.2 y hy
theorem hv_W_fst {N : Nat} {a : Nat → Nat} {X : hv_X} {σ : hv_St} : (hv_W N a X σ).map Prod.fst = (List.range N).map a := by
  unfold hv_W
  rw [List.map_map]
  rfl
theorem hv_W_len {N : Nat} {a : Nat → Nat} {X : hv_X} {σ : hv_St} : (hv_W N a X σ).length = N := by simp [hv_W]
theorem hv_W_mem {N : Nat} {a : Nat → Nat} {X : hv_X} {σ : hv_St} {j : Nat} (h : j < N) : (a j, X j (σ.1 j) (σ.2 j)) ∈ hv_W N a X σ := List.mem_of_getElem? (hv_W_get h)
/-- the block behind pre -/
theorem lv_b_get {pre tl : va_W} {N : Nat} {a : Nat → Nat} {X : hv_X} {σ : hv_St} {i : Nat} (h : i < N) : (pre ++ (hv_W N a X σ ++ tl))[pre.length + i]? = some (a i, X i (σ.1 i) (σ.2 i)) := by
  rw [List.getElem?_append_right (by omega), Nat.add_sub_cancel_left, List.getElem?_append_left (by rw [hv_W_len]; exact h), hv_W_get h]
theorem lv_b_set {pre tl : va_W} {N : Nat} {a : Nat → Nat} {X : hv_X} {σ σ' : hv_St} {i : Nat} {E : va_E} (hi : i < N) (hE : E = X i (σ'.1 i) (σ'.2 i)) (ho : ∀ j, j ≠ i → σ'.1 j = σ.1 j ∧ σ'.2 j = σ.2 j) : (pre ++ (hv_W N a X σ ++ tl)).set (pre.length + i) (a i, E) = pre ++ (hv_W N a X σ' ++ tl) := by
  rw [List.set_append_right _ _ (by omega), Nat.add_sub_cancel_left, List.set_append_left _ _ (by rw [hv_W_len]; exact hi), hv_W_set hE ho]
/-- a row of two longs -/
def hv_row (cy : ClassId × ClassId × ClassId × ClassId) (u v : Int64) : va_E := .inl (cy.2.1, 2, .inr (.inl (vp_updL (vp_updL (fun _ => 0) 0 u) 1 v)))
/-- what a throw needs of the machine -/
def hv_TA (A : Nat → Prop) (U : State) : Prop := (vx_Zq Bundle.tN "UNASSIGNED_STACK" Bundle.steD A U U.heap ∧ vx_Zq Bundle.tN "SUPPRESSED_SENTINEL" Bundle.listD A U U.heap ∧ ∀ w ∈ hv_tw, va_Nw w U) ∧ va_AOA .long U
theorem hv_aoa9 {t : FieldType} {u U : State} (hvm : u.vm.Alike U.vm) (h : va_AOA t u) : va_AOA t U := over_moved (a := #[]) (a' := #[]) hvm h
theorem hv_TA.warm {A B : Nat → Prop} {s U : State} {H : Heap} {locs : List Loc} (hT : hv_TA A s) (hS : va_S A s.heap H locs) (hU : U.heap = H) (hW : s.WarmedH U.vm) (hsub : ∀ q, B q → A q) : hv_TA B U := by
  refine ⟨⟨?_, ?_, fun w hw => by
    rcases hv_tw_form w hw with ⟨x, t, rfl⟩ | ⟨x, rfl⟩
    · exact hv_cast_warm hW (hT.1.2.2 _ hw)
    · exact va_Nw.warmD hW (hT.1.2.2 _ hw)⟩, hv_aoa9 hW.alike hT.2⟩
  · rw [hU]
    exact ((hT.1.1.kept (fun x h1 h2 => hS.2.1 x h1 h2)).moved hW.alike).narrow hsub
  · rw [hU]
    exact ((hT.1.2.1.kept (fun x h1 h2 => hS.2.1 x h1 h2)).moved hW.alike).narrow hsub
theorem hv_TA.calling {A : Nat → Prop} {U : State} (g : JFrame) (mk : MethodId) (b : Array Value) (h : hv_TA A U) : hv_TA A (U.calling g mk b) := ⟨⟨h.1.1.moved (u := U) (U := U.calling g mk b) (Vm.Alike.refl U.vm), h.1.2.1.moved (u := U) (U := U.calling g mk b) (Vm.Alike.refl U.vm), fun w hw => by
  rcases hv_tw_form w hw with ⟨x, t, rfl⟩ | ⟨x, rfl⟩ <;> exact va_Nw.same (u := U) (U := U.calling g mk b) rfl rfl (h.1.2.2 _ hw)⟩, hv_aoa9 (u := U) (U := U.calling g mk b) (Vm.Alike.refl U.vm) h.2⟩
/-- contracts of the law's methods: over a list of cells; what is answered, and the cells behind it, as R says -/
def lv_Q (D : va_G) (R : Option Value → va_W → Prop) (A : Nat → Prop) : Array Value → State → Outcome → State → Prop := fun _ st oc t => ∃ v w, oc = .returned v ∧ R v w ∧ va_P D vwCl w t.heap ∧ va_D A w ∧ va_F A st t
def lv_P (D : va_G) (cy : ClassId × ClassId × ClassId × ClassId) (ws : va_W) (sz : Nat) (as : List Value) : Array Value → State → Prop := va_Pc as (fun U => U.heap.size = sz ∧ va_P D vwCl ws U.heap ∧ hv_K D (hv_tys cy) U ∧ va_D (fun _ => True) ws ∧ hv_TA (va_A ws sz) U)
def lv_M (l : Launch) (y : MethodName) (wd : List Cond) (rm : Room) (D : va_G) (cy : ClassId × ClassId × ClassId × ClassId) (mc ms : Nat) (as : List Value) (ws : va_W) (R : Option Value → va_W → Prop) : Prop :=
  ∀ sz : Nat, Met l y wd rm (lv_P D cy ws sz as) (lv_Q D R (va_A ws sz)) mc ms (va_A ws sz)
/-- .. that write new cells alone, and read ps -/
def lv_PO (D : va_G) (cy : ClassId × ClassId × ClassId × ClassId) (ps : va_W) (sz : Nat) (as : List Value) : Array Value → State → Prop := va_Pc as (fun U => U.heap.size = sz ∧ va_P D vwCl ps U.heap ∧ hv_K D (hv_tys cy) U)
def lv_O (l : Launch) (y : MethodName) (wd : List Cond) (rm : Room) (D : va_G) (cy : ClassId × ClassId × ClassId × ClassId) (mc ms : Nat) (as : List Value) (ps : va_W) (R : Option Value → va_W → Prop) : Prop :=
  ∀ sz : Nat, Met l y wd rm (lv_PO D cy ps sz as) (lv_Q D R (fun q => sz ≤ q)) mc ms (fun q => sz ≤ q)
theorem lv_blind {D : va_G} {cy : ClassId × ClassId × ClassId × ClassId} {ws : va_W} {sz : Nat} {as : List Value} : FrameBlind (lv_P D cy ws sz as) := fun b U g mk q => ⟨q.1, q.2.1, q.2.2.1, hv_K.same (s := U) (U := U.calling g mk b) rfl q.2.2.2.1, q.2.2.2.2.1, q.2.2.2.2.2.calling g mk b⟩
theorem lv_blindO {D : va_G} {cy : ClassId × ClassId × ClassId × ClassId} {ws : va_W} {sz : Nat} {as : List Value} : FrameBlind (lv_PO D cy ws sz as) := fun b U g mk q => ⟨q.1, q.2.1, q.2.2.1, hv_K.same (s := U) (U := U.calling g mk b) rfl q.2.2.2⟩
/-- a row as the answer; a row or null; a value, the cells w -/
def lv_row (cy : ClassId × ClassId × ClassId × ClassId) (x : Int64 × Int64) : Option Value → va_W → Prop := fun v w => ∃ q, v = some (.ref q) ∧ w = [(q, hv_row cy x.1 x.2)]
def lv_val (v0 : Option Value) (w0 : va_W) : Option Value → va_W → Prop := fun v w => v = v0 ∧ w = w0
def lv_nul (cy : ClassId × ClassId × ClassId × ClassId) (r : Option (Int64 × Int64)) (w0 : va_W) : Option Value → va_W → Prop := fun v w => match r with
  | none => v = some .null ∧ w = w0
  | some x => ∃ q, v = some (.ref q) ∧ w = w0 ++ [(q, hv_row cy x.1 x.2)]

section LR2
variable {p : Program} {l : Launch} {e : Env} {R : Room} {s : State} {m : MethodId} {args : Array Value} {below : List Frame} {meth : Method} {c : Code} {cc : ByteArray} {nL : Nat} {Ts : List Cond} {own : String} {D : va_G} {cy : ClassId × ClassId × ClassId × ClassId} {A : Nat → Prop} {cells slots : Nat} {Q : State → Prop} {ws : va_W} {pc : Nat} {lv : List (Nat × Value)} {st : List Value}

variable {a : Nat → Nat} {X : hv_X} {N : Nat} {σ : hv_St} {pre tl : va_W}
theorem r_sub {ws' : va_W} (h : ws'.Sublist ws) (kk : hv_J p l e R s m args below meth c nL D A cells slots Q ws' pc lv st) : hv_J p l e R s m args below meth c nL D A cells slots Q ws pc lv st := by
  intro H locs ls hP hD hS hl
  exact kk H locs ls (lv_P_sub h hP) (lv_D_sub h hD) hS hl
theorem r_perm {ws' : va_W} (h : ws.Perm ws') (kk : hv_J p l e R s m args below meth c nL D A cells slots Q ws' pc lv st) : hv_J p l e R s m args below meth c nL D A cells slots Q ws pc lv st := by
  intro H locs ls hP hD hS hl
  exact kk H locs ls (lv_P_perm h hP) (lv_D_perm h hD) hS hl
theorem r_getN (C : hv_C p s m args meth c cc nL Ts own D (hv_tys cy)) (i k : Nat) {ci n index : Nat} {Cn ref host : String} {T : u_T} {fs : List Value} {v : Value} (hi : i < N) (hX : X i (σ.1 i) (σ.2 i) = .inr (ci, fs)) (hc : vwCl[ci]? = some (Cn, T, n)) (hin : ∀ w ∈ u_ws Cn T n, w ∈ Ts) (hk : k < n) (hr : ref = (T k).1) (hlink : Cond.fieldLinkNest own index ref (T k).2.1 (T k).2.2.1 host ∈ hv_ns) (hv : fs[k]? = some v) (hd : decode cc pc = .ok (.getfield index, 3)) (kk : hv_J p l e R s m args below meth c nL D A cells slots Q (pre ++ (hv_W N a X σ ++ tl)) (pc + 3) lv (v :: st)) : hv_J p l e R s m args below meth c nL D A cells slots Q (pre ++ (hv_W N a X σ ++ tl)) pc lv (.ref (a i) :: st) := by
  intro H locs ls hP hD hS hl
  subst hr
  exact va_getN (D := D) (ci := ci) (v := v) C.1.1 C.1.2.1 C.1.2.2.2.2 hin C.1.2.2.2.1 C.2.1.1 hP (pre.length + i) (by rw [lv_b_get hi, hX]) hc k hk (va_Nw.use rfl (C.2.1.2 _ hlink)) (fun _ h9 => h9) hv hd (kk H locs ls hP hD hS hl)
theorem r_putN (C : hv_C p s m args meth c cc nL Ts own D (hv_tys cy)) (i k : Nat) {ci n index : Nat} {Cn ref host : String} {T : u_T} {fs : List Value} {ty0 : Nat → FieldType} {ty : FieldType} {v : Value} {σ' : hv_St} (hi : i < N) (hX : X i (σ.1 i) (σ.2 i) = .inr (ci, fs)) (hc : vwCl[ci]? = some (Cn, T, n)) (hin : ∀ w ∈ u_ws Cn T n, w ∈ Ts) (hty : ∀ k, k < n → parseFieldDescriptor (T k).2.2.1 = some (ty0 k)) (hnm : ∀ a, a < n → ∀ b, b < n → a ≠ b → (T a).2.1 ≠ (T b).2.1) (hk : k < n) (hr : ref = (T k).1) (hlink : Cond.fieldLinkNest own index ref (T k).2.1 (T k).2.2.1 host ∈ hv_ns) (hfin : (T k).2.2.2 = false) (hdd : parseFieldDescriptor (T k).2.2.1 = some ty) (hn : narrow ty v = v) (hft : fits ty v = true) (hlen : k < fs.length) (hE : .inr (ci, fs.set k v) = X i (σ'.1 i) (σ'.2 i)) (ho : ∀ j, j ≠ i → σ'.1 j = σ.1 j ∧ σ'.2 j = σ.2 j) (hd : decode cc pc = .ok (.putfield index, 3)) (kk : hv_J p l e R s m args below meth c nL D A cells slots Q (pre ++ (hv_W N a X σ' ++ tl)) (pc + 3) lv st) : hv_J p l e R s m args below meth c nL D A cells slots Q (pre ++ (hv_W N a X σ ++ tl)) pc lv (v :: .ref (a i) :: st) := by
  intro H locs ls hP hD hS hl
  subst hr
  refine va_putN (D := D) (ci := ci) (v := v) (ty := ty) C.1.1 C.1.2.1 C.1.2.2.2.2 hin ty0 hty hnm C.1.2.2.2.1 C.2.1.1 hP hD hS (pre.length + i) (by rw [lv_b_get hi, hX]) hc k hk (va_Nw.use rfl (C.2.1.2 _ hlink)) (fun _ h9 => h9) hfin hdd hn hft hlen hd (fun H1 locs1 hP1 hD1 hS1 => ?_)
  rw [lv_b_set hi hE ho] at hP1 hD1
  exact kk H1 locs1 ls hP1 hD1 hS1 hl
theorem r_iald (C : hv_C p s m args meth c cc nL Ts own D (hv_tys cy)) (i : Nat) {n : Nat} {j : Int32} (hi : i < N) (hX : X i (σ.1 i) (σ.2 i) = .inl (cy.1, n, .inl (σ.1 i))) (hj : hv_ok j n = true) (hd : decode cc pc = .ok (.iaload, 1)) (kk : hv_J p l e R s m args below meth c nL D A cells slots Q (pre ++ (hv_W N a X σ ++ tl)) (pc + 1) lv (.int (σ.1 i j.toNatClampNeg) :: st)) : hv_J p l e R s m args below meth c nL D A cells slots Q (pre ++ (hv_W N a X σ ++ tl)) pc lv (.int j :: .ref (a i) :: st) := by
  intro H locs ls hP hD hS hl
  exact va_iald C.1.1 C.1.2.1 C.2.1.1 hP (pre.length + i) 0 (by rw [lv_b_get hi, hX]) rfl (hv_in hj) hd (kk H locs ls hP hD hS hl)
theorem r_iast (C : hv_C p s m args meth c cc nL Ts own D (hv_tys cy)) (i : Nat) {n : Nat} {j : Int32} {x : Int32} {σ' : hv_St} (es : σ' = hv_sI σ i j.toNatClampNeg x) (hi : i < N) (hX : ∀ (f : Nat → Int32) (g : Nat → Int64), X i f g = .inl (cy.1, n, .inl f)) (hj : hv_ok j n = true) (hd : decode cc pc = .ok (.iastore, 1)) (kk : hv_J p l e R s m args below meth c nL D A cells slots Q (pre ++ (hv_W N a X σ' ++ tl)) (pc + 1) lv st) : hv_J p l e R s m args below meth c nL D A cells slots Q (pre ++ (hv_W N a X σ ++ tl)) pc lv (.int x :: .int j :: .ref (a i) :: st) := by
  subst es
  intro H locs ls hP hD hS hl
  refine va_iast C.1.1 C.1.2.1 C.2.1.1 hP hD hS (pre.length + i) 0 (by rw [lv_b_get hi, hX]) rfl (hv_in hj) hd (fun H1 locs1 hP1 hD1 hS1 => ?_)
  rw [lv_b_set (σ' := hv_sI σ i j.toNatClampNeg x) hi (by rw [hX, hv_sI_at]) hv_oI] at hP1 hD1
  exact kk H1 locs1 ls hP1 hD1 hS1 hl
/-- the two numbers of a row -/
theorem r_row0 (C : hv_C p s m args meth c cc nL Ts own D (hv_tys cy)) {q : Nat} {u v : Int64} (hx : (q, hv_row cy u v) ∈ ws) (hd : decode cc pc = .ok (.laload, 1)) (kk : hv_J p l e R s m args below meth c nL D A cells slots Q ws (pc + 1) lv (.long u :: st)) : hv_J p l e R s m args below meth c nL D A cells slots Q ws pc lv (.int (0 : Int32) :: .ref q :: st) := by
  intro H locs ls hP hD hS hl
  obtain ⟨k, hk, e1⟩ := List.mem_iff_getElem.mp hx
  exact va_lald (f := vp_updL (vp_updL (fun _ => 0) 0 u) 1 v) (n := 2) C.1.1 C.1.2.1 C.2.1.1 hP k 1 (by rw [List.getElem?_eq_getElem hk, e1]; rfl) rfl (hv_in (by decide)) hd (kk H locs ls hP hD hS hl)
theorem r_row1 (C : hv_C p s m args meth c cc nL Ts own D (hv_tys cy)) {q : Nat} {u v : Int64} (hx : (q, hv_row cy u v) ∈ ws) (hd : decode cc pc = .ok (.laload, 1)) (kk : hv_J p l e R s m args below meth c nL D A cells slots Q ws (pc + 1) lv (.long v :: st)) : hv_J p l e R s m args below meth c nL D A cells slots Q ws pc lv (.int (1 : Int32) :: .ref q :: st) := by
  intro H locs ls hP hD hS hl
  obtain ⟨k, hk, e1⟩ := List.mem_iff_getElem.mp hx
  exact va_lald (f := vp_updL (vp_updL (fun _ => 0) 0 u) 1 v) (n := 2) C.1.1 C.1.2.1 C.2.1.1 hP k 1 (by rw [List.getElem?_eq_getElem hk, e1]; rfl) rfl (hv_in (by decide)) hd (kk H locs ls hP hD hS hl)
/-- .. of a row that was there at the start and that nobody writes -/
theorem lv_old {ps : va_W} {H : Heap} {locs : List Loc} (hps : va_P D vwCl ps s.heap) (hS : va_S (fun q => s.heap.size ≤ q) s.heap H locs) : va_P D vwCl ps H := hps.kept (fun k q hq => hS.2.1 q.1 (hps k q hq).lt (fun h => by have := (hps k q hq).lt; omega))
theorem r_old0 (C : hv_C p s m args meth c cc nL Ts own D (hv_tys cy)) {ps : va_W} (hps : va_P D vwCl ps s.heap) {q : Nat} {u v : Int64} (hx : (q, hv_row cy u v) ∈ ps) (hd : decode cc pc = .ok (.laload, 1)) (kk : hv_J p l e R s m args below meth c nL D (fun q => s.heap.size ≤ q) cells slots Q ws (pc + 1) lv (.long u :: st)) : hv_J p l e R s m args below meth c nL D (fun q => s.heap.size ≤ q) cells slots Q ws pc lv (.int (0 : Int32) :: .ref q :: st) := by
  intro H locs ls hP hD hS hl
  obtain ⟨k, hk, e1⟩ := List.mem_iff_getElem.mp hx
  exact va_lald (f := vp_updL (vp_updL (fun _ => 0) 0 u) 1 v) (n := 2) C.1.1 C.1.2.1 C.2.1.1 (lv_old hps hS) k 1 (by rw [List.getElem?_eq_getElem hk, e1]; rfl) rfl (hv_in (by decide)) hd (kk H locs ls hP hD hS hl)
theorem r_old1 (C : hv_C p s m args meth c cc nL Ts own D (hv_tys cy)) {ps : va_W} (hps : va_P D vwCl ps s.heap) {q : Nat} {u v : Int64} (hx : (q, hv_row cy u v) ∈ ps) (hd : decode cc pc = .ok (.laload, 1)) (kk : hv_J p l e R s m args below meth c nL D (fun q => s.heap.size ≤ q) cells slots Q ws (pc + 1) lv (.long v :: st)) : hv_J p l e R s m args below meth c nL D (fun q => s.heap.size ≤ q) cells slots Q ws pc lv (.int (1 : Int32) :: .ref q :: st) := by
  intro H locs ls hP hD hS hl
  obtain ⟨k, hk, e1⟩ := List.mem_iff_getElem.mp hx
  exact va_lald (f := vp_updL (vp_updL (fun _ => 0) 0 u) 1 v) (n := 2) C.1.1 C.1.2.1 C.2.1.1 (lv_old hps hS) k 1 (by rw [List.getElem?_eq_getElem hk, e1]; rfl) rfl (hv_in (by decide)) hd (kk H locs ls hP hD hS hl)
/-- a new row -/
theorem r_newl (C : hv_C p s m args meth c cc nL Ts own D (hv_tys cy)) (hA : ∀ q, s.heap.size ≤ q → A q) (harr : Cond.arrayClass .long ∈ Ts) (hcells : cells + 1 ≤ R.cells) (hslots : slots + 2 ≤ R.slots) (hd : decode cc pc = .ok (.newarray .long, 2)) (kk : ∀ q : Nat, hv_J p l e R s m args below meth c nL D A (cells + 1) (slots + 2) Q (ws ++ [(q, .inl (cy.2.1, 2, .inr (.inl (fun _ => 0))))]) (pc + 2) lv (.ref q :: st)) : hv_J p l e R s m args below meth c nL D A cells slots Q ws pc lv (.int (2 : Int32) :: st) := by
  intro H locs ls hP hD hS hl
  refine va_newa (atype := .long) (ty := .long) (N' := 2) (a0 := (2, .inr (.inl (fun _ => 0)))) C.1.1 C.1.2.1 (C.1.2.2.2.2 _ harr) rfl C.2.1.1 hP hD hS hA (fun _ => rfl) (by decide) (by decide) (by decide) hcells hslots hd (fun q cA H1 hK1 hP1 hD1 hS1 => ?_)
  have e1 := (hK1.2 4 (cA, .long) rfl).2
  have e2 := (C.2.1.1.2 1 _ rfl).2
  have e3 : cA = cy.2.1 := Option.some.inj (e1.symm.trans e2)
  subst e3
  exact kk q H1 locs ls hP1 hD1 hS1 hl
theorem lv_set_last {ws : va_W} {x y : Nat × va_E} : (ws ++ [x]).set ws.length y = ws ++ [y] := by
  rw [List.set_append_right _ _ (Nat.le_refl _), Nat.sub_self]
  rfl
/-- a number into the newest row -/
theorem r_last (C : hv_C p s m args meth c cc nL Ts own D (hv_tys cy)) {q : Nat} {f f' : Nat → Int64} {j : Int32} {x : Int64} (hj : hv_ok j 2 = true) (hf : f' = vp_updL f j.toNatClampNeg x) (hd : decode cc pc = .ok (.lastore, 1)) (kk : hv_J p l e R s m args below meth c nL D A cells slots Q (ws ++ [(q, .inl (cy.2.1, 2, .inr (.inl f')))]) (pc + 1) lv st) : hv_J p l e R s m args below meth c nL D A cells slots Q (ws ++ [(q, .inl (cy.2.1, 2, .inr (.inl f)))]) pc lv (.long x :: .int j :: .ref q :: st) := by
  subst hf
  intro H locs ls hP hD hS hl
  refine va_last (n := 2) C.1.1 C.1.2.1 C.2.1.1 hP hD hS ws.length 1 (by rw [List.getElem?_append_right (Nat.le_refl _), Nat.sub_self]; rfl) rfl (hv_in hj) hd (fun H1 locs1 hP1 hD1 hS1 => ?_)
  rw [lv_set_last] at hP1 hD1
  exact kk H1 locs1 ls hP1 hD1 hS1 hl


/-- behind a call: the callee's cells wc, the others as they were -/
theorem lv_S {B : Nat → Prop} {H H1 : Heap} {locs L : List Loc} (hS : va_S A s.heap H locs) (hsub : ∀ q, B q → A q) (hz : H.size ≤ H1.size) (hk : ∀ q : Nat, q < H.size → ¬ B q → H1[q]? = H[q]?) (hL : ∀ q ∈ L, B q.base) : va_S A s.heap H1 (locs ++ L) := ⟨Nat.le_trans hS.1 hz, fun q h1 h2 => by rw [hk q (Nat.lt_of_lt_of_le h1 hS.1) (fun z => h2 (hsub q z))]; exact hS.2.1 q h1 h2, fun q hq => by
  rcases List.mem_append.mp hq with h | h
  · exact hS.2.2 q h
  · exact hsub _ (hL q h)⟩
/-- a callee that writes new cells alone -/
theorem r_runO {mc ms : Nat} {Rr : Option Value → va_W → Prop} {rest : List Value} {arr : Array Value} (hA : ∀ q, s.heap.size ≤ q → A q) (hrun : ∀ (H : Heap) (locs : List Loc) (ls : Array Slot), va_P D vwCl ws H → lv_has ls nL lv → va_Run p l e R s m args below meth c H locs cells slots mc ms (F0 m pc ls st) rest (lv_Q D Rr (fun q => H.size ≤ q) arr) (fun q => H.size ≤ q)) (kk : ∀ v w, Rr v w → hv_J p l e R s m args below meth c nL D A (cells + mc) (slots + ms) Q (ws ++ w) (pc + 3) lv (v.toList ++ rest)) : hv_J p l e R s m args below meth c nL D A cells slots Q ws pc lv st := by
  intro H locs ls hP hD hS hl T hT Xs
  obtain ⟨v', st₀, t, T', L, h0, X', hL, e1, e2, ⟨v, w, hv, hR, hP1, hD1, hz, hk⟩, step⟩ := hrun H locs ls hP hl T hT Xs
  cases hv
  rw [h0] at hz hk
  have hPo : va_P D vwCl ws t.heap := hP.kept (fun k q hq => hk q.1 (hP k q hq).lt (fun h => by have := (hP k q hq).lt; omega))
  obtain ⟨t2, a1, b1⟩ := kk v' w hR T'.heap (locs ++ L) ls (by rw [e1]; exact lv_P_app.mpr ⟨hPo, hP1⟩) (lv_D_app.mpr ⟨hD, hD1.weaken (fun _ _ _ h => hA _ (Nat.le_trans hS.1 h)), fun x hx y hy => by
    have h1 := (lv_P_iff.mp hP x hx).lt
    have h2 := (lv_D_iff.mp hD1).2 y hy
    omega⟩) (by rw [e1]; exact lv_S hS (fun q h => hA q (Nat.le_trans hS.1 h)) hz hk hL) hl T' rfl X'
  exact ⟨t2, step t2 a1, b1⟩
theorem r_callO (C : hv_C p s m args meth c cc nL Ts own D (hv_tys cy)) (hA : ∀ q, s.heap.size ≤ q → A q) {ps : va_W} (hps : ∀ x ∈ ps, x ∈ ws) {index maxL na mc ms : Nat} {y : MethodName} {wd : List Cond} {rm : Room} {bytes : ByteArray} {ret : Option FieldType} {Rr : Option Value → va_W → Prop} {As rest : List Value} (hM : lv_O l y wd rm D cy mc ms As ps Rr) (cw : CallB R s args own index y bytes maxL ret wd rm mc ms na ∧ (Cond.static y).before args s = true) (hna : As.length = na) (hst : st = As.reverse ++ rest) (hroom : (rest.map fun v => v.category).sum ≤ 8) (hd : decode cc pc = .ok (.invokestatic index, 3)) (hcl : cells + mc ≤ R.cells ∧ slots + ms ≤ R.slots) (kk : ∀ v w, Rr v w → hv_J p l e R s m args below meth c nL D A (cells + mc) (slots + ms) Q (ws ++ w) (pc + 3) lv (v.toList ++ rest)) : hv_J p l e R s m args below meth c nL D A cells slots Q ws pc lv st := by
  refine r_runO (arr := As.toArray) hA (fun H locs ls hP hl => ?_) kk
  exact va_runS C.1 (hM H.size) cw ⟨lv_blindO, fun U hU hW => ⟨rfl, by rw [hU], by rw [hU]; exact lv_P_iff.mpr (fun x hx => lv_P_iff.mp hP x (hps x hx)), C.2.1.warm hW⟩⟩ rfl hna hl.1 hst (lv_room hroom) hd hcl
/-- a callee without cells -/
theorem r_callP (C : hv_C p s m args meth c cc nL Ts own D (hv_tys cy)) {index maxL na : Nat} {y : MethodName} {wd : List Cond} {rm : Room} {bytes : ByteArray} {ret : Option FieldType} {a0 : Nat → Nat} {X0 : hv_X} {σ0 τ0 : hv_St} {v : Option Value} {As rest : List Value} (hA : ∀ q, s.heap.size ≤ q → A q) (hM : hv_M l y wd rm D (hv_tys cy) 0 a0 X0 As σ0 v τ0) (cw : CallB R s args own index y bytes maxL ret wd rm 0 0 na ∧ (Cond.static y).before args s = true) (hna : As.length = na) (hst : st = As.reverse ++ rest) (hroom : (rest.map fun v => v.category).sum ≤ 8) (hd : decode cc pc = .ok (.invokestatic index, 3)) (hcl : cells ≤ R.cells ∧ slots ≤ R.slots) (kk : hv_J p l e R s m args below meth c nL D A cells slots Q ws (pc + 3) lv (v.toList ++ rest)) : hv_J p l e R s m args below meth c nL D A cells slots Q ws pc lv st := by
  intro H locs ls hP hD hS hl T hT Xs
  have hP0 : va_P D vwCl (hv_W 0 a0 X0 σ0) H := fun k q hq => by cases hq
  have hD0 : va_D (fun _ => True) (hv_W 0 a0 X0 σ0) := ⟨(fun i j p q hi => by cases hi), (fun k q hq => by cases hq)⟩
  obtain ⟨v', st₀, t, T', L, h0, X', hL, e1, e2, ⟨hv, hP1, hz, hk⟩, step⟩ := va_runS (p := p) (l := l) (e := e) (R := R) (below := below) (meth := meth) (locs := locs) (cells := cells) (slots := slots) (g := F0 m pc ls st) (rest := rest) C.1 (hM H.size) cw ⟨hv_blind, fun U hU hW => ⟨rfl, by rw [hU], by rw [hU]; exact hP0, C.2.1.warm hW, hD0⟩⟩ rfl hna hl.1 hst (lv_room hroom) hd hcl T hT Xs
  cases hv
  rw [h0] at hz hk
  have hB : ∀ q, hv_A 0 a0 H.size q → H.size ≤ q := fun q h => by
    rcases h with ⟨j, hj, -⟩ | h
    · omega
    · exact h
  obtain ⟨t2, a1, b1⟩ := kk T'.heap (locs ++ L) ls (by rw [e1]; exact hP.kept (fun k q hq => hk q.1 (hP k q hq).lt (fun h => by have h1 := (hP k q hq).lt; have h2 := hB _ h; omega))) hD (by rw [e1]; exact lv_S hS (fun q h => hA q (Nat.le_trans hS.1 (hB q h))) hz hk hL) hl T' rfl X'
  exact ⟨t2, step t2 a1, b1⟩
theorem lv_blkA {H : Heap} {locs : List Loc} (hA : ∀ q, s.heap.size ≤ q → A q) (hD : va_D A (pre ++ (hv_W N a X σ ++ tl))) (hS : va_S A s.heap H locs) : ∀ q, hv_A N a H.size q → A q := fun q h => by
  rcases h with ⟨j, hj, rfl⟩ | h
  · exact hD.2 (pre.length + j) _ (lv_b_get hj)
  · exact hA q (Nat.le_trans hS.1 h)
theorem lv_blk {τ : hv_St} {H H1 : Heap} (hP : va_P D vwCl (pre ++ (hv_W N a X σ ++ tl)) H) (hD : va_D A (pre ++ (hv_W N a X σ ++ tl))) (hk : ∀ q : Nat, q < H.size → ¬ hv_A N a H.size q → H1[q]? = H[q]?) (hP1 : va_P D vwCl (hv_W N a X τ) H1) : va_P D vwCl (pre ++ (hv_W N a X τ ++ tl)) H1 ∧ va_D A (pre ++ (hv_W N a X τ ++ tl)) := by
  obtain ⟨p1, p2⟩ := lv_P_app.mp hP
  obtain ⟨p2, p3⟩ := lv_P_app.mp p2
  obtain ⟨d1, d2, d3⟩ := lv_D_app.mp hD
  obtain ⟨d4, d5, d6⟩ := lv_D_app.mp d2
  have out : ∀ x : Nat × va_E, va_at D vwCl x H → (∀ j, j < N → x.1 ≠ a j) → va_at D vwCl x H1 := fun x hx hn => hx.kept (hk x.1 hx.lt (fun h => by
    rcases h with ⟨j, hj, e1⟩ | h
    · exact hn j hj e1
    · have := hx.lt
      omega))
  refine ⟨lv_P_app.mpr ⟨lv_P_iff.mpr (fun x hx => out x (lv_P_iff.mp p1 x hx) (fun j hj => d3 x hx _ (List.mem_append_left _ (hv_W_mem hj)))), lv_P_app.mpr ⟨hP1, lv_P_iff.mpr (fun x hx => out x (lv_P_iff.mp p3 x hx) (fun j hj e1 => d6 _ (hv_W_mem hj) x hx e1.symm))⟩⟩, lv_D_fst ?_ hD⟩
  rw [List.map_append, List.map_append, List.map_append, List.map_append, hv_W_fst, hv_W_fst]
theorem r_runB {τ : hv_St} {v : Option Value} {rest : List Value} {arr : Array Value} (hA : ∀ q, s.heap.size ≤ q → A q) (hrun : ∀ (H : Heap) (locs : List Loc) (ls : Array Slot), va_P D vwCl (hv_W N a X σ) H → va_D (fun _ => True) (hv_W N a X σ) → lv_has ls nL lv → va_Run p l e R s m args below meth c H locs cells slots 0 0 (F0 m pc ls st) rest (hv_Qc D N a X τ v (hv_A N a H.size) arr) (hv_A N a H.size)) (kk : hv_J p l e R s m args below meth c nL D A cells slots Q (pre ++ (hv_W N a X τ ++ tl)) (pc + 3) lv (v.toList ++ rest)) : hv_J p l e R s m args below meth c nL D A cells slots Q (pre ++ (hv_W N a X σ ++ tl)) pc lv st := by
  intro H locs ls hP hD hS hl T hT Xs
  have hP2 := (lv_P_app.mp (lv_P_app.mp hP).2).1
  have hD2 := (lv_D_app.mp (lv_D_app.mp hD).2.1).1
  obtain ⟨v', st₀, t, T', L, h0, X', hL, e1, e2, ⟨hv, hP1, hz, hk⟩, step⟩ := hrun H locs ls hP2 (hD2.weaken (fun _ _ _ _ => trivial)) hl T hT Xs
  cases hv
  rw [h0] at hz hk
  obtain ⟨g1, g2⟩ := lv_blk hP hD hk hP1
  obtain ⟨t2, a1, b1⟩ := kk T'.heap (locs ++ L) ls (by rw [e1]; exact g1) g2 (by rw [e1]; exact lv_S hS (lv_blkA hA hD hS) hz hk hL) hl T' rfl X'
  exact ⟨t2, step t2 a1, b1⟩
theorem r_callV (C : hv_C p s m args meth c cc nL Ts own D (hv_tys cy)) (hA : ∀ q, s.heap.size ≤ q → A q) (i : Nat) {ci index maxL na : Nat} {y : MethodName} {wd : List Cond} {rm : Room} {bytes : ByteArray} {ret : Option FieldType} {q : vw_C} {fs : List Value} {τ : hv_St} {v : Option Value} {As rest : List Value} (hM : hv_M l y wd rm D (hv_tys cy) N a X (.ref (a i) :: As) σ v τ) (cw : CallW R s args own q.1 index y bytes maxL ret wd rm 0 0 na) (hi : i < N) (hX : X i (σ.1 i) (σ.2 i) = .inr (ci, fs)) (hc : vwCl[ci]? = some q) (hna : As.length = na) (hst : st = As.reverse ++ .ref (a i) :: rest) (hroom : (rest.map fun v => v.category).sum ≤ 8) (hd : decode cc pc = .ok (.invokevirtual index, 3)) (hcl : cells ≤ R.cells ∧ slots ≤ R.slots) (kk : hv_J p l e R s m args below meth c nL D A cells slots Q (pre ++ (hv_W N a X τ ++ tl)) (pc + 3) lv (v.toList ++ rest)) : hv_J p l e R s m args below meth c nL D A cells slots Q (pre ++ (hv_W N a X σ ++ tl)) pc lv st := by
  refine r_runB (arr := (Value.ref (a i) :: As).toArray) hA (fun H locs ls hP hD hl => ?_) kk
  exact va_runV C.1 (hM H.size) cw ⟨hv_blind, va_recv (ci := ci) (q := q) (a := a i) (q0 := i) (fs := fs) C.2.1.1 hP hc (by rw [hv_W_get hi, hX]), fun U hU hW => ⟨rfl, by rw [hU], by rw [hU]; exact hP, C.2.1.warm hW, hD⟩⟩ rfl hna hl.1 hst (lv_room hroom) hd hcl
theorem r_callB (C : hv_C p s m args meth c cc nL Ts own D (hv_tys cy)) (hA : ∀ q, s.heap.size ≤ q → A q) {index maxL na : Nat} {y : MethodName} {wd : List Cond} {rm : Room} {bytes : ByteArray} {ret : Option FieldType} {τ : hv_St} {v : Option Value} {As rest : List Value} (hM : hv_M l y wd rm D (hv_tys cy) N a X As σ v τ) (cw : CallB R s args own index y bytes maxL ret wd rm 0 0 na ∧ (Cond.static y).before args s = true) (hna : As.length = na) (hst : st = As.reverse ++ rest) (hroom : (rest.map fun v => v.category).sum ≤ 8) (hd : decode cc pc = .ok (.invokestatic index, 3)) (hcl : cells ≤ R.cells ∧ slots ≤ R.slots) (kk : hv_J p l e R s m args below meth c nL D A cells slots Q (pre ++ (hv_W N a X τ ++ tl)) (pc + 3) lv (v.toList ++ rest)) : hv_J p l e R s m args below meth c nL D A cells slots Q (pre ++ (hv_W N a X σ ++ tl)) pc lv st := by
  refine r_runB (arr := As.toArray) hA (fun H locs ls hP hD hl => ?_) kk
  exact va_runS C.1 (hM H.size) cw ⟨hv_blind, fun U hU hW => ⟨rfl, by rw [hU], by rw [hU]; exact hP, C.2.1.warm hW, hD⟩⟩ rfl hna hl.1 hst (lv_room hroom) hd hcl
/-- the same where the block stands first -/
theorem r_callV0 (C : hv_C p s m args meth c cc nL Ts own D (hv_tys cy)) (hA : ∀ q, s.heap.size ≤ q → A q) (i : Nat) {ci index maxL na : Nat} {y : MethodName} {wd : List Cond} {rm : Room} {bytes : ByteArray} {ret : Option FieldType} {q : vw_C} {fs : List Value} {τ : hv_St} {v : Option Value} {As rest : List Value} (hM : hv_M l y wd rm D (hv_tys cy) N a X (.ref (a i) :: As) σ v τ) (cw : CallW R s args own q.1 index y bytes maxL ret wd rm 0 0 na) (hi : i < N) (hX : X i (σ.1 i) (σ.2 i) = .inr (ci, fs)) (hc : vwCl[ci]? = some q) (hna : As.length = na) (hst : st = As.reverse ++ .ref (a i) :: rest) (hroom : (rest.map fun v => v.category).sum ≤ 8) (hd : decode cc pc = .ok (.invokevirtual index, 3)) (hcl : cells ≤ R.cells ∧ slots ≤ R.slots) (kk : hv_J p l e R s m args below meth c nL D A cells slots Q (hv_W N a X τ ++ tl) (pc + 3) lv (v.toList ++ rest)) : hv_J p l e R s m args below meth c nL D A cells slots Q (hv_W N a X σ ++ tl) pc lv st := r_callV (pre := []) C hA i hM cw hi hX hc hna hst hroom hd hcl kk
theorem r_callB0 (C : hv_C p s m args meth c cc nL Ts own D (hv_tys cy)) (hA : ∀ q, s.heap.size ≤ q → A q) {index maxL na : Nat} {y : MethodName} {wd : List Cond} {rm : Room} {bytes : ByteArray} {ret : Option FieldType} {τ : hv_St} {v : Option Value} {As rest : List Value} (hM : hv_M l y wd rm D (hv_tys cy) N a X As σ v τ) (cw : CallB R s args own index y bytes maxL ret wd rm 0 0 na ∧ (Cond.static y).before args s = true) (hna : As.length = na) (hst : st = As.reverse ++ rest) (hroom : (rest.map fun v => v.category).sum ≤ 8) (hd : decode cc pc = .ok (.invokestatic index, 3)) (hcl : cells ≤ R.cells ∧ slots ≤ R.slots) (kk : hv_J p l e R s m args below meth c nL D A cells slots Q (hv_W N a X τ ++ tl) (pc + 3) lv (v.toList ++ rest)) : hv_J p l e R s m args below meth c nL D A cells slots Q (hv_W N a X σ ++ tl) pc lv st := r_callB (pre := []) C hA hM cw hna hst hroom hd hcl kk
/-- a callee of the law whose cells stand first -/
theorem lv_wcA {wc wr : va_W} {H : Heap} {locs : List Loc} (hA : ∀ q, s.heap.size ≤ q → A q) (hD : va_D A (wc ++ wr)) (hS : va_S A s.heap H locs) : ∀ q, va_A wc H.size q → A q := fun q h => by
  rcases h with ⟨k, e1, h⟩ | h
  · exact (lv_D_iff.mp (lv_D_app.mp hD).1).2 (q, e1) (List.mem_of_getElem? h)
  · exact hA q (Nat.le_trans hS.1 h)
theorem r_runM {wc wr : va_W} {mc ms : Nat} {Rr : Option Value → va_W → Prop} {rest : List Value} {arr : Array Value} (hA : ∀ q, s.heap.size ≤ q → A q) (hrun : ∀ (H : Heap) (locs : List Loc) (ls : Array Slot), va_P D vwCl wc H → va_D (fun _ => True) wc → va_S A s.heap H locs → (∀ q, va_A wc H.size q → A q) → lv_has ls nL lv → va_Run p l e R s m args below meth c H locs cells slots mc ms (F0 m pc ls st) rest (lv_Q D Rr (va_A wc H.size) arr) (va_A wc H.size)) (kk : ∀ v w, Rr v w → hv_J p l e R s m args below meth c nL D A (cells + mc) (slots + ms) Q (w ++ wr) (pc + 3) lv (v.toList ++ rest)) : hv_J p l e R s m args below meth c nL D A cells slots Q (wc ++ wr) pc lv st := by
  intro H locs ls hP hD hS hl T hT Xs
  obtain ⟨pc1, pr1⟩ := lv_P_app.mp hP
  obtain ⟨dc, dr, dx⟩ := lv_D_app.mp hD
  have hsub := lv_wcA (wc := wc) (wr := wr) hA hD hS
  obtain ⟨v', st₀, t, T', L, h0, X', hL, e1, e2, ⟨v, w, hv, hR, hP1, hD1, hz, hk⟩, step⟩ := hrun H locs ls pc1 (dc.weaken (fun _ _ _ _ => trivial)) hS hsub hl T hT Xs
  cases hv
  rw [h0] at hz hk
  have apart : ∀ x ∈ wr, ¬ va_A wc H.size x.1 := fun x hx h => by
    rcases h with ⟨k, e3, h⟩ | h
    · exact dx (x.1, e3) (List.mem_of_getElem? h) x hx rfl
    · have := (lv_P_iff.mp pr1 x hx).lt
      omega
  obtain ⟨t2, a1, b1⟩ := kk v' w hR T'.heap (locs ++ L) ls (by rw [e1]; exact lv_P_app.mpr ⟨hP1, lv_P_iff.mpr (fun x hx => (lv_P_iff.mp pr1 x hx).kept (hk x.1 (lv_P_iff.mp pr1 x hx).lt (apart x hx)))⟩) (lv_D_app.mpr ⟨hD1.weaken (fun _ _ _ h => hsub _ h), dr, fun x hx y hy e3 => apart y hy (by rw [← e3]; exact (lv_D_iff.mp hD1).2 x hx)⟩) (by rw [e1]; exact lv_S hS hsub hz hk hL) hl T' rfl X'
  exact ⟨t2, step t2 a1, b1⟩
theorem r_callM (C : hv_C p s m args meth c cc nL Ts own D (hv_tys cy)) (hA : ∀ q, s.heap.size ≤ q → A q) (hT : hv_TA A s) {wc wr : va_W} {index maxL na mc ms : Nat} {y : MethodName} {wd : List Cond} {rm : Room} {bytes : ByteArray} {ret : Option FieldType} {Rr : Option Value → va_W → Prop} {As rest : List Value} (hM : lv_M l y wd rm D cy mc ms As wc Rr) (cw : CallB R s args own index y bytes maxL ret wd rm mc ms na ∧ (Cond.static y).before args s = true) (hna : As.length = na) (hst : st = As.reverse ++ rest) (hroom : (rest.map fun v => v.category).sum ≤ 8) (hd : decode cc pc = .ok (.invokestatic index, 3)) (hcl : cells + mc ≤ R.cells ∧ slots + ms ≤ R.slots) (kk : ∀ v w, Rr v w → hv_J p l e R s m args below meth c nL D A (cells + mc) (slots + ms) Q (w ++ wr) (pc + 3) lv (v.toList ++ rest)) : hv_J p l e R s m args below meth c nL D A cells slots Q (wc ++ wr) pc lv st := by
  refine r_runM (arr := As.toArray) hA (fun H locs ls hP hD hS hsub hl => ?_) kk
  exact va_runS C.1 (hM H.size) cw ⟨lv_blind, fun U hU hW => ⟨rfl, by rw [hU], by rw [hU]; exact hP, C.2.1.warm hW, hD, hT.warm hS hU hW hsub⟩⟩ rfl hna hl.1 hst (lv_room hroom) hd hcl
theorem r_callMW (C : hv_C p s m args meth c cc nL Ts own D (hv_tys cy)) (hA : ∀ q, s.heap.size ≤ q → A q) (hT : hv_TA A s) {wc wr : va_W} {index maxL na mc ms : Nat} {y : MethodName} {hh : List (Nat × Nat × Nat × Nat)} {wd : List Cond} {rm : Room} {bytes : ByteArray} {ret : Option FieldType} {Rr : Option Value → va_W → Prop} {As rest : List Value} (hM : lv_M l y wd rm D cy mc ms As wc Rr) (cw : vx_CSW R s args own index y bytes maxL ret hh wd rm mc ms na) (hna : As.length = na) (hst : st = As.reverse ++ rest) (hroom : (rest.map fun v => v.category).sum ≤ 8) (hd : decode cc pc = .ok (.invokestatic index, 3)) (hcl : cells + mc ≤ R.cells ∧ slots + ms ≤ R.slots) (kk : ∀ v w, Rr v w → hv_J p l e R s m args below meth c nL D A (cells + mc) (slots + ms) Q (w ++ wr) (pc + 3) lv (v.toList ++ rest)) : hv_J p l e R s m args below meth c nL D A cells slots Q (wc ++ wr) pc lv st := by
  refine r_runM (arr := As.toArray) hA (fun H locs ls hP hD hS hsub hl => ?_) kk
  exact vx_runSW C.1 (hM H.size) cw ⟨lv_blind, fun U hU hW => ⟨rfl, by rw [hU], by rw [hU]; exact hP, C.2.1.warm hW, hD, hT.warm hS hU hW hsub⟩⟩ rfl hna hl.1 hst (lv_room hroom) hd hcl
theorem lv_rot {w1 w2 rows : va_W} {x : Nat × va_E} : ((w1 ++ [x]) ++ (w2 ++ rows)).Perm (w1 ++ (w2 ++ (rows ++ [x]))) := by
  rw [List.append_assoc]
  refine List.Perm.append_left w1 ?_
  rw [← List.append_assoc w2]
  exact List.perm_append_comm
/-- ends -/
theorem r_ret0 (C : hv_C p s m args meth c cc nL Ts own D (hv_tys cy)) {Rr : Option Value → va_W → Prop} {ws' : va_W} {MC MS : Nat} (hw : ws'.Sublist ws) (hR : Rr none ws') (hr : meth.sig.returnType = none) (hd : decode cc pc = .ok (.return_, 1)) (h1 : cells ≤ MC) (h2 : slots ≤ MS) : hv_J p l e R s m args below meth c nL D A cells slots (MQ below (lv_Q D Rr A) args s MC MS A) ws pc lv [] := by
  intro H locs ls hP hD hS hl
  refine W.widen h1 h2 ?_
  exact W.vret C.1.1 C.1.2.1 hr (fun t ht hW => ⟨_, _, rfl, hR, by rw [ht]; exact lv_P_sub hw hP, lv_D_sub hw hD, hS.F ht⟩) hS.2.2 hd C.2.2
theorem r_zret (C : hv_C p s m args meth c cc nL Ts own D (hv_tys cy)) {Rr : Option Value → va_W → Prop} {ws' : va_W} {MC MS : Nat} {x : Int32} (hw : ws'.Sublist ws) (hR : Rr (some (.int x)) ws') (hr : meth.sig.returnType = some .boolean) (hz : hv_z x = true) (hd : decode cc pc = .ok (.ireturn, 1)) (h1 : cells ≤ MC) (h2 : slots ≤ MS) : hv_J p l e R s m args below meth c nL D A cells slots (MQ below (lv_Q D Rr A) args s MC MS A) ws pc lv [.int x] := by
  intro H locs ls hP hD hS hl
  refine W.widen h1 h2 ?_
  exact W.zret (v := x) (ty := .boolean) C.1.1 C.1.2.1 hr (hv_z_narrow hz) (fun t ht hW => ⟨_, _, rfl, hR, by rw [ht]; exact lv_P_sub hw hP, lv_D_sub hw hD, hS.F ht⟩) hS.2.2 hd C.2.2
theorem r_iret (C : hv_C p s m args meth c cc nL Ts own D (hv_tys cy)) {Rr : Option Value → va_W → Prop} {ws' : va_W} {MC MS : Nat} {x : Int32} (hw : ws'.Sublist ws) (hR : Rr (some (.int x)) ws') (hr : meth.sig.returnType = some .int) (hd : decode cc pc = .ok (.ireturn, 1)) (h1 : cells ≤ MC) (h2 : slots ≤ MS) : hv_J p l e R s m args below meth c nL D A cells slots (MQ below (lv_Q D Rr A) args s MC MS A) ws pc lv [.int x] := by
  intro H locs ls hP hD hS hl
  refine W.widen h1 h2 ?_
  exact W.iret (v := x) C.1.1 C.1.2.1 hr (fun t ht hW => ⟨_, _, rfl, hR, by rw [ht]; exact lv_P_sub hw hP, lv_D_sub hw hD, hS.F ht⟩) hS.2.2 hd C.2.2
theorem r_aret (C : hv_C p s m args meth c cc nL Ts own D (hv_tys cy)) {Rr : Option Value → va_W → Prop} {ws' : va_W} {MC MS : Nat} {x : Nat} {ty : FieldType} (hw : ws'.Sublist ws) (hR : Rr (some (.ref x)) ws') (hr : meth.sig.returnType = some ty) (hty : (∃ C9, ty = .object C9) ∨ ∃ t9, ty = .array t9) (hd : decode cc pc = .ok (.areturn, 1)) (h1 : cells ≤ MC) (h2 : slots ≤ MS) : hv_J p l e R s m args below meth c nL D A cells slots (MQ below (lv_Q D Rr A) args s MC MS A) ws pc lv [.ref x] := by
  intro H locs ls hP hD hS hl
  refine W.widen h1 h2 ?_
  exact W.aret (v := .ref x) C.1.1 C.1.2.1 hr hty (Or.inr ⟨_, rfl⟩) (fun t ht hW => ⟨_, _, rfl, hR, by rw [ht]; exact lv_P_sub hw hP, lv_D_sub hw hD, hS.F ht⟩) hS.2.2 hd C.2.2
theorem r_aretN (C : hv_C p s m args meth c cc nL Ts own D (hv_tys cy)) {Rr : Option Value → va_W → Prop} {ws' : va_W} {MC MS : Nat} {ty : FieldType} (hw : ws'.Sublist ws) (hR : Rr (some .null) ws') (hr : meth.sig.returnType = some ty) (hty : (∃ C9, ty = .object C9) ∨ ∃ t9, ty = .array t9) (hd : decode cc pc = .ok (.areturn, 1)) (h1 : cells ≤ MC) (h2 : slots ≤ MS) : hv_J p l e R s m args below meth c nL D A cells slots (MQ below (lv_Q D Rr A) args s MC MS A) ws pc lv [.null] := by
  intro H locs ls hP hD hS hl
  refine W.widen h1 h2 ?_
  exact W.aret (v := .null) C.1.1 C.1.2.1 hr hty (Or.inl rfl) (fun t ht hW => ⟨_, _, rfl, hR, by rw [ht]; exact lv_P_sub hw hP, lv_D_sub hw hD, hS.F ht⟩) hS.2.2 hd C.2.2
/-- a method's contract out of its body's walk -/
theorem lv_enter {y : MethodName} {wd wd' : List Cond} {rm : Room} {maxL mc ms : Nat} {ret : Option FieldType} {as : List Value} {Rr : Option Value → va_W → Prop} {own : String} (hy : plainName y.cls = true) (ho : y.cls = own) (hw : wd = Cond.code y cc maxL ret :: wd') (hlen : (lg_sl as).length ≤ maxL)
    (body : ∀ (p : Program) (e : Env) (s : State) (m : MethodId) (args : Array Value) (below : List Frame) (meth : Method) (c : Code) (A : Nat → Prop), hv_C p s m args meth c cc maxL wd own D (hv_tys cy) → (∀ q, s.heap.size ≤ q → A q) → hv_TA A s → meth.sig.returnType = ret → hv_J p l e (headSpec wd rm).room s m args below meth c maxL D A 0 0 (MQ below (lv_Q D Rr A) args s mc ms A) ws 0 (lv_args 0 as) []) : lv_M l y wd rm D cy mc ms as ws Rr := by
  intro sz
  refine Met.ofW (cc := cc) (maxL := maxL) (ret := ret) hy hw ?_
  intro p e s m args below meth c s₁ B hml hv
  obtain ⟨rfl, hsz, hP, hK, hD0, hTT⟩ := hv
  subst hsz
  subst ho
  have C : hv_C p s m as.toArray meth c cc maxL wd y.cls D (hv_tys cy) := ⟨⟨B.exec, B.bytes, hml, findClass_of_methodNamed B.named, atoms_spec (ws := wd) B.pre⟩, hK, B.notSynchronized⟩
  rw [lg_entry_eq]
  exact body p e s m as.toArray below meth c (va_A ws s.heap.size) C (fun q h => Or.inr h) hTT B.returns s.heap [] _ hP (hD0.self (sz := s.heap.size)) va_S.rf (lv_entry as hlen)
theorem lv_enterO {y : MethodName} {wd wd' : List Cond} {rm : Room} {maxL mc ms : Nat} {ret : Option FieldType} {as : List Value} {ps : va_W} {Rr : Option Value → va_W → Prop} {own : String} (hy : plainName y.cls = true) (ho : y.cls = own) (hw : wd = Cond.code y cc maxL ret :: wd') (hlen : (lg_sl as).length ≤ maxL)
    (body : ∀ (p : Program) (e : Env) (s : State) (m : MethodId) (args : Array Value) (below : List Frame) (meth : Method) (c : Code), hv_C p s m args meth c cc maxL wd own D (hv_tys cy) → va_P D vwCl ps s.heap → meth.sig.returnType = ret → hv_J p l e (headSpec wd rm).room s m args below meth c maxL D (fun q => s.heap.size ≤ q) 0 0 (MQ below (lv_Q D Rr (fun q => s.heap.size ≤ q)) args s mc ms (fun q => s.heap.size ≤ q)) [] 0 (lv_args 0 as) []) : lv_O l y wd rm D cy mc ms as ps Rr := by
  intro sz
  refine Met.ofW (cc := cc) (maxL := maxL) (ret := ret) hy hw ?_
  intro p e s m args below meth c s₁ B hml hv
  obtain ⟨rfl, hsz, hP, hK⟩ := hv
  subst hsz
  subst ho
  have C : hv_C p s m as.toArray meth c cc maxL wd y.cls D (hv_tys cy) := ⟨⟨B.exec, B.bytes, hml, findClass_of_methodNamed B.named, atoms_spec (ws := wd) B.pre⟩, hK, B.notSynchronized⟩
  rw [lg_entry_eq]
  exact body p e s m as.toArray below meth c C hP B.returns s.heap [] _ (fun k q hq => by cases hq) ⟨(fun i j p q hi => by cases hi), (fun k q hq => by cases hq)⟩ va_S.rf (lv_entry as hlen)
theorem lv_cl {κ need mc MC : Nat} (h : κ + need ≤ MC) (h2 : mc ≤ need) : κ + mc ≤ MC ∧ 12 * κ + 12 * mc ≤ 12 * MC := by omega
theorem lv_cl0 {κ need MC : Nat} (h : κ + need ≤ MC) : κ ≤ MC ∧ 12 * κ ≤ 12 * MC := by omega
theorem r_tw {κ mc : Nat} (kk : hv_J p l e R s m args below meth c nL D A (κ + mc) (12 * (κ + mc)) Q ws pc lv st) : hv_J p l e R s m args below meth c nL D A (κ + mc) (12 * κ + 12 * mc) Q ws pc lv st := r_wide (Nat.le_refl _) (by omega) kk
end LR2

