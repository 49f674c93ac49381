/-! the law, walked -/
section
variable {p : Program} {l : Launch} {e : Env} {s : State} {m : MethodId} {args : Array Value} {below : List Frame} {meth : Method} {c : Code} {D : va_G} {cy : ClassId × ClassId × ClassId × ClassId} {A : Nat → Prop} {a b : Nat → Nat} {bS L : Nat} {xs : Nat → Int32}
def kQ_law_261 (n : Nat) (r2 : Int32 → Option Unit) (r106 : hv_St → hv_St → Int32 → Int32 → Option (Unit)) (σ τ : hv_St) (x1 : Int32) (x5 : Int32) (z0 : Int32) (z1 : Int32) : Option Unit := hv_let (hv_sI (τ) 1 9 ((z1) ^^^ (z0))) fun t262 => r106 (σ) (t262) (x1) ((x5) + 1)
def kQ_law_237 (n : Nat) (r2 : Int32 → Option Unit) (r106 : hv_St → hv_St → Int32 → Int32 → Option (Unit)) (σ τ : hv_St) (x1 : Int32) (x5 : Int32) (x6 : Int32) : Option Unit := if (τ).1 1 8 ≤ x6 then (kQ_law_261 n r2 r106 (σ) (τ) (x1) (x5) ((0 : Int32)) ((τ).1 1 9)) else (kQ_law_261 n r2 r106 (σ) (τ) (x1) (x5) (((1 : Int32)) <<< ((x6) &&& 31)) ((τ).1 1 9))
def kQ_law_229 (n : Nat) (r2 : Int32 → Option Unit) (r106 : hv_St → hv_St → Int32 → Int32 → Option (Unit)) (σ τ : hv_St) (x1 : Int32) (x5 : Int32) (x6 : Int32) (z0 : Int32) (z1 : Int32) : Option Unit := hv_b2 (mX7_turn n (σ) (z1) (z0)) fun r229 s229 => if r229 = 0 then (kQ_law_237 n r2 r106 (s229) (τ) (x1) (x5) (x6)) else (none)
def kQ_law_203 (n : Nat) (r2 : Int32 → Option Unit) (r106 : hv_St → hv_St → Int32 → Int32 → Option (Unit)) (σ τ : hv_St) (x1 : Int32) (x5 : Int32) (x6 : Int32) (x7 : Int32) (z0 : Int32) (z1 : Int32) : Option Unit := if z1 = z0 then (if (τ).1 1 8 ≤ x6 then (kQ_law_237 n r2 r106 (σ) (τ) (x1) (x5) (x6)) else (if x7 = 0 then (kQ_law_229 n r2 r106 (σ) (τ) (x1) (x5) (x6) ((1 : Int32)) (x6)) else (kQ_law_229 n r2 r106 (σ) (τ) (x1) (x5) (x6) ((0 : Int32)) (x6)))) else (none)
def kQ_law_185 (n : Nat) (r2 : Int32 → Option Unit) (r106 : hv_St → hv_St → Int32 → Int32 → Option (Unit)) (σ τ : hv_St) (x1 : Int32) (x5 : Int32) (x6 : Int32) (x7 : Int32) (z0 : Int32) (z1 : Int32) : Option Unit := hv_b2 (mX7_turn n (σ) (z1) (z0)) fun r185 s185 => if (τ).1 1 8 ≤ x6 then (kQ_law_203 n r2 r106 (s185) (τ) (x1) (x5) (x6) (x7) ((0 : Int32)) (r185)) else (kQ_law_203 n r2 r106 (s185) (τ) (x1) (x5) (x6) (x7) ((1 : Int32)) (r185))
def kQ_law_152 (n : Nat) (r2 : Int32 → Option Unit) (r106 : hv_St → hv_St → Int32 → Int32 → Option (Unit)) (σ τ : hv_St) (x1 : Int32) (x5 : Int32) : Option Unit := hv_b2 (mX8_next n (τ) ((11 : Int32))) fun r155 s155 => hv_b2 (mL_isOn n hv_0 ((s155).1 1 9) (r155)) fun r167 _ => if r167 = 0 then (kQ_law_185 n r2 r106 (σ) (s155) (x1) (x5) (r155) (r167) ((1 : Int32)) (r155)) else (kQ_law_185 n r2 r106 (σ) (s155) (x1) (x5) (r155) (r167) ((0 : Int32)) (r155))
def kQ_law_106_b (n : Nat) (r2 : Int32 → Option Unit) (r106 : hv_St → hv_St → Int32 → Int32 → Option (Unit)) (σ τ : hv_St) (x1 : Int32) (x5 : Int32) : Option Unit := if (3 : Int32) ≤ x5 then (r2 ((x1) + 1)) else (hv_bd (mQ_isKind n (σ) (τ)) fun o115 => hv_b2 (mX7_count n (o115.1) ((4 : Int32))) fun r123 s123 => hv_b2 (mL_isFirm n hv_0 (r123)) fun r126 _ => if r126 = 0 then (kQ_law_152 n r2 r106 (s123) (o115.2) (x1) (x5)) else (hv_bd (mQ_isBalance n (s123) (o115.2)) fun o135 => hv_bd (mQ_areStates n (o135.1) (o135.2)) fun o144 => kQ_law_152 n r2 r106 (o144.1) (o144.2) (x1) (x5)))
def kQ_law_106 (n : Nat) (r2 : Int32 → Option Unit) : Nat → hv_St → hv_St → Int32 → Int32 → Option (Unit)
  | 0 => fun _ _ _ _ => none
  | i + 1 => kQ_law_106_b n r2 (kQ_law_106 n r2 i)
def kQ_law_15 (n L : Nat) (xs : Nat → Int32) (r2 : Int32 → Option Unit) (x1 : Int32) : Option Unit := hv_b2 (mX7_count n (hv_0) ((4 : Int32))) fun r18 s18 => if r18 = (1 : Int32) then (hv_b2 (mX7_count n (s18) ((3 : Int32))) fun r27 s27 => if r27 = 0 then (hv_b2 (mX7_painted n (s27) ((1 : Int32))) fun r35 s35 => if r35 = 0 then (hv_b2 (mX7_pin n (s35) ((4 : Int32)) ((0 : Int32))) fun r44 s44 => if r44 = (-1 : Int32) then (hv_b2 (mX7_bar n (s44) ((0 : Int32)) ((1 : Int32)) ((1 : Int32))) fun r55 s55 => if r55 = (-1 : Int32) then (if Int32.ofNat L ≤ x1 then (hv_let (((37 : Int32)) * (x1)) fun y_84 => hv_bd (mQ_begins n (s55) (hv_sI hv_0 0 0 y_84) (5 : Int32)) fun o91 => kQ_law_106 n r2 4 (o91.1) (o91.2) (x1) ((0 : Int32))) else (hv_if (hv_ok (x1) L) (hv_let (xs (x1).toNatClampNeg) fun y_84 => hv_bd (mQ_begins n (s55) (hv_sI hv_0 0 0 y_84) (5 : Int32)) fun o91 => kQ_law_106 n r2 4 (o91.1) (o91.2) (x1) ((0 : Int32))))) else (none)) else (none)) else (none)) else (none)) else (none)
def kQ_law_2 (n L : Nat) (xs : Nat → Int32) : Nat → Int32 → Option Unit
  | 0 => fun _ => none
  | i + 1 => fun x1 => if (6 : Int32) ≤ x1 then some () else kQ_law_15 n L xs (kQ_law_2 n L xs i) x1
set_option maxRecDepth 20000 in
theorem qL_law_C8 : Cond.classLink RL 8 RX7 ∈ wsL_law := by decide +kernel
set_option maxRecDepth 20000 in
theorem qL_law_NX7 : Cond.instantiable RX7 7 ∈ wsL_law := by decide +kernel
set_option maxRecDepth 20000 in
theorem qL_law_SX7 : Cond.initialized RX7 ∈ wsL_law := by decide +kernel
set_option maxRecDepth 20000 in
theorem qL_law_IX7 : Cond.instanceMethod yX7_init ∈ wsL_law := by decide +kernel
set_option maxRecDepth 20000 in
theorem qL_law_L153 : Cond.methodLink RL 153 yX7_init ∈ wsL_law := by decide +kernel
set_option maxRecDepth 20000 in
theorem qL_law_C42 : Cond.classLink RL 42 RX8 ∈ wsL_law := by decide +kernel
set_option maxRecDepth 20000 in
theorem qL_law_NX8 : Cond.instantiable RX8 1 ∈ wsL_law := by decide +kernel
set_option maxRecDepth 20000 in
theorem qL_law_SX8 : Cond.initialized RX8 ∈ wsL_law := by decide +kernel
set_option maxRecDepth 20000 in
theorem qL_law_IX8 : Cond.instanceMethod yX8_init ∈ wsL_law := by decide +kernel
set_option maxRecDepth 20000 in
theorem qL_law_L154 : Cond.methodLink RL 154 yX8_init ∈ wsL_law := by decide +kernel
theorem iL_law_X7 : ∀ w ∈ u_ws RX7 TX7 7, w ∈ wsL_law := inlX7
theorem iL_law_X8 : ∀ w ∈ u_ws RX8 TX8 1, w ∈ wsL_law := inlX8
theorem iL_law_X9 : ∀ w ∈ u_ws RX9 TX9 10, w ∈ wsL_law := inlX9
set_option maxHeartbeats 4000000 in
set_option maxRecDepth 20000 in
theorem bQ_law_261 (hflag : l.stackTraces = false) (C : hv_C p s m #[Value.ref bS] meth c code 8 wsL_law RL D (hv_tys cy)) (hT : hv_TA (fun q => s.heap.size ≤ q) s) (hX : va_X bS L xs s s.heap) (hbl : bS < s.heap.size) (hr : meth.sig.returnType = ret) {n : Nat} {o : Unit} {r2 : Int32 → Option Unit} {C2 : Nat} (hr2 : ∀ (κ : Nat) (x1 : Int32), κ + C2 ≤ 212000 → r2 x1 = some () → hv_J p l e room_1 s m #[Value.ref bS] below meth c 8 D (fun q => s.heap.size ≤ q) κ (12 * κ) (lw_Z below #[Value.ref bS] s) [] 2 [(0, .ref bS), (1, .int (x1))] []) {r106 : hv_St → hv_St → Int32 → Int32 → Option (Unit)} {C106 : Nat} (hr106 : ∀ (κ : Nat) (σ τ : hv_St) (x1 : Int32) (x5 : Int32), κ + C106 ≤ 212000 → r106 σ τ x1 x5 = some o → hv_J p l e room_1 s m #[Value.ref bS] below meth c 8 D (fun q => s.heap.size ≤ q) κ (12 * κ) (lw_Z below #[Value.ref bS] s) (hv_W 55 a (hv_XE a cy) (σ) ++ (hv_W 9 b (hv_TE b cy) (τ) ++ [])) 106 [(0, .ref bS), (1, .int (x1)), (2, .ref (a 0)), (3, .ref (b 0)), (4, .ref (b 1)), (5, .int (x5))] []) : ∀ (κ : Nat) (σ τ : hv_St) (x1 : Int32) (x5 : Int32) (z0 : Int32) (z1 : Int32), κ + (0 + C106) ≤ 212000 → kQ_law_261 n r2 r106 σ τ x1 x5 z0 z1 = some o → hv_J p l e room_1 s m #[Value.ref bS] below meth c 8 D (fun q => s.heap.size ≤ q) κ (12 * κ) (lw_Z below #[Value.ref bS] s) (hv_W 55 a (hv_XE a cy) (σ) ++ (hv_W 9 b (hv_TE b cy) (τ) ++ [])) 261 [(0, .ref bS), (1, .int (x1)), (2, .ref (a 0)), (3, .ref (b 0)), (4, .ref (b 1)), (5, .int (x5))] [.int (z0), .int (z1), .ref (b 1)] := by
  intro κ σ τ x1 x5 z0 z1 hκ h
  have hA : ∀ q, s.heap.size ≤ q → (fun q => s.heap.size ≤ q) q := fun _ h => h
  unfold kQ_law_261 at h
  refine r_ixor (pc := 261) C dL_law_261 ?_
  obtain ⟨t262, et262, h⟩ := hv_let_some h
  refine rt_put_9 (pc := 262) C et262 iL_law_X9 (List.mem_of_getElem? (i := 20) rfl) dL_law_262 ?_
  refine r_iinc (pc := 265) C 5 (v := (x5) + 1) (lv' := [(5, .int ((x5) + 1)), (0, .ref bS), (1, .int (x1)), (2, .ref (a 0)), (3, .ref (b 0)), (4, .ref (b 1))]) dL_law_265 rfl rfl (Nat.le_of_ble_eq_true rfl) rfl ?_
  refine r_goto (pc := 268) C (tgt := 106) dL_law_268 (by decide) ?_
  have K9 := hr106 κ (σ) (t262) (x1) ((x5) + 1) (by omega) h
  exact r_lv [1, 2, 3, 4, 5, 0] rfl K9
set_option maxHeartbeats 4000000 in
set_option maxRecDepth 20000 in
theorem bQ_law_237 (hflag : l.stackTraces = false) (C : hv_C p s m #[Value.ref bS] meth c code 8 wsL_law RL D (hv_tys cy)) (hT : hv_TA (fun q => s.heap.size ≤ q) s) (hX : va_X bS L xs s s.heap) (hbl : bS < s.heap.size) (hr : meth.sig.returnType = ret) {n : Nat} {o : Unit} {r2 : Int32 → Option Unit} {C2 : Nat} (hr2 : ∀ (κ : Nat) (x1 : Int32), κ + C2 ≤ 212000 → r2 x1 = some () → hv_J p l e room_1 s m #[Value.ref bS] below meth c 8 D (fun q => s.heap.size ≤ q) κ (12 * κ) (lw_Z below #[Value.ref bS] s) [] 2 [(0, .ref bS), (1, .int (x1))] []) {r106 : hv_St → hv_St → Int32 → Int32 → Option (Unit)} {C106 : Nat} (hr106 : ∀ (κ : Nat) (σ τ : hv_St) (x1 : Int32) (x5 : Int32), κ + C106 ≤ 212000 → r106 σ τ x1 x5 = some o → hv_J p l e room_1 s m #[Value.ref bS] below meth c 8 D (fun q => s.heap.size ≤ q) κ (12 * κ) (lw_Z below #[Value.ref bS] s) (hv_W 55 a (hv_XE a cy) (σ) ++ (hv_W 9 b (hv_TE b cy) (τ) ++ [])) 106 [(0, .ref bS), (1, .int (x1)), (2, .ref (a 0)), (3, .ref (b 0)), (4, .ref (b 1)), (5, .int (x5))] []) : ∀ (κ : Nat) (σ τ : hv_St) (x1 : Int32) (x5 : Int32) (x6 : Int32), κ + (0 + C106) ≤ 212000 → kQ_law_237 n r2 r106 σ τ x1 x5 x6 = some o → hv_J p l e room_1 s m #[Value.ref bS] below meth c 8 D (fun q => s.heap.size ≤ q) κ (12 * κ) (lw_Z below #[Value.ref bS] s) (hv_W 55 a (hv_XE a cy) (σ) ++ (hv_W 9 b (hv_TE b cy) (τ) ++ [])) 237 [(0, .ref bS), (1, .int (x1)), (2, .ref (a 0)), (3, .ref (b 0)), (4, .ref (b 1)), (5, .int (x5)), (6, .int (x6))] [] := by
  intro κ σ τ x1 x5 x6 hκ h
  have hA : ∀ q, s.heap.size ≤ q → (fun q => s.heap.size ≤ q) q := fun _ h => h
  unfold kQ_law_237 at h
  refine r_aload (pc := 237) C 4 dL_law_237 rfl ?_
  refine r_dup (pc := 239) C dL_law_239 rfl ?_
  refine rt_get_9 (pc := 240) C iL_law_X9 (List.mem_of_getElem? (i := 20) rfl) dL_law_240 ?_
  refine r_iload (pc := 243) C 6 dL_law_243 rfl ?_
  refine r_aload (pc := 245) C 4 dL_law_245 rfl ?_
  refine rt_get_8 (pc := 247) C iL_law_X9 (List.mem_of_getElem? (i := 19) rfl) dL_law_247 ?_
  refine r_icmp_ge (pc := 250) (tgt := 260) C dL_law_250 (by decide) (fun c250 => ?_) (fun c250 => ?_)
  · rw [if_pos c250] at h
    refine r_iconst (pc := 260) C (v := (0 : Int32)) dL_law_260 (by decide) ?_
    have K9 := bQ_law_261 (e := e) (below := below) (a := a) (b := b) (n := n) hflag C hT hX hbl hr hr2 hr106 κ (σ) (τ) (x1) (x5) ((0 : Int32)) ((τ).1 1 9) (by omega) h
    exact r_lv [0, 1, 2, 3, 4, 5] rfl K9
  · rw [if_neg c250] at h
    refine r_iconst (pc := 253) C (v := (1 : Int32)) dL_law_253 (by decide) ?_
    refine r_iload (pc := 254) C 6 dL_law_254 rfl ?_
    refine r_ishl (pc := 256) C dL_law_256 ?_
    refine r_goto (pc := 257) C (tgt := 261) dL_law_257 (by decide) ?_
    have K9 := bQ_law_261 (e := e) (below := below) (a := a) (b := b) (n := n) hflag C hT hX hbl hr hr2 hr106 κ (σ) (τ) (x1) (x5) (((1 : Int32)) <<< ((x6) &&& 31)) ((τ).1 1 9) (by omega) h
    exact r_lv [0, 1, 2, 3, 4, 5] rfl K9
set_option maxHeartbeats 4000000 in
set_option maxRecDepth 20000 in
theorem bQ_law_229 (hflag : l.stackTraces = false) (C : hv_C p s m #[Value.ref bS] meth c code 8 wsL_law RL D (hv_tys cy)) (hT : hv_TA (fun q => s.heap.size ≤ q) s) (hX : va_X bS L xs s s.heap) (hbl : bS < s.heap.size) (hr : meth.sig.returnType = ret) {n : Nat} {o : Unit} {r2 : Int32 → Option Unit} {C2 : Nat} (hr2 : ∀ (κ : Nat) (x1 : Int32), κ + C2 ≤ 212000 → r2 x1 = some () → hv_J p l e room_1 s m #[Value.ref bS] below meth c 8 D (fun q => s.heap.size ≤ q) κ (12 * κ) (lw_Z below #[Value.ref bS] s) [] 2 [(0, .ref bS), (1, .int (x1))] []) {r106 : hv_St → hv_St → Int32 → Int32 → Option (Unit)} {C106 : Nat} (hr106 : ∀ (κ : Nat) (σ τ : hv_St) (x1 : Int32) (x5 : Int32), κ + C106 ≤ 212000 → r106 σ τ x1 x5 = some o → hv_J p l e room_1 s m #[Value.ref bS] below meth c 8 D (fun q => s.heap.size ≤ q) κ (12 * κ) (lw_Z below #[Value.ref bS] s) (hv_W 55 a (hv_XE a cy) (σ) ++ (hv_W 9 b (hv_TE b cy) (τ) ++ [])) 106 [(0, .ref bS), (1, .int (x1)), (2, .ref (a 0)), (3, .ref (b 0)), (4, .ref (b 1)), (5, .int (x5))] []) : ∀ (κ : Nat) (σ τ : hv_St) (x1 : Int32) (x5 : Int32) (x6 : Int32) (z0 : Int32) (z1 : Int32), κ + (0 + C106) ≤ 212000 → kQ_law_229 n r2 r106 σ τ x1 x5 x6 z0 z1 = some o → hv_J p l e room_1 s m #[Value.ref bS] below meth c 8 D (fun q => s.heap.size ≤ q) κ (12 * κ) (lw_Z below #[Value.ref bS] s) (hv_W 55 a (hv_XE a cy) (σ) ++ (hv_W 9 b (hv_TE b cy) (τ) ++ [])) 229 [(0, .ref bS), (1, .int (x1)), (2, .ref (a 0)), (3, .ref (b 0)), (4, .ref (b 1)), (5, .int (x5)), (6, .int (x6))] [.int (z0), .int (z1), .ref (a 0)] := by
  intro κ σ τ x1 x5 x6 z0 z1 hκ h
  have hA : ∀ q, s.heap.size ≤ q → (fun q => s.heap.size ≤ q) q := fun _ h => h
  unfold kQ_law_229 at h
  obtain ⟨r229, s229, hc229, h⟩ := hv_b2_some h
  refine r_callV0 (pc := 229) (τ := s229) (v := some (.int (r229))) (As := [.int (z1), .int (z0)]) (rest := []) C hA 0 (vX7_turn hc229) (cwV 2 C.1.2.2.2.2 gL_law_X7_turn rfl rfl rfl (by decide +kernel) ⟨(Nat.le_of_ble_eq_true rfl), (Nat.le_of_ble_eq_true rfl)⟩) (Nat.le_of_ble_eq_true rfl) rfl rfl rfl rfl (Nat.le_of_ble_eq_true rfl) dL_law_229 (lv_clL0 (need := 0) (by omega)) ?_
  refine r_st (st' := [.int (r229)]) rfl ?_
  refine r_if_eq (pc := 232) (tgt := 237) C dL_law_232 (by decide) (fun c232 => ?_) (fun c232 => ?_)
  · rw [if_pos c232] at h
    have K9 := bQ_law_237 (e := e) (below := below) (a := a) (b := b) (n := n) hflag C hT hX hbl hr hr2 hr106 κ (s229) (τ) (x1) (x5) (x6) (by omega) h
    exact r_lv [0, 1, 2, 3, 4, 5, 6] rfl K9
  · rw [if_neg c232] at h
    cases h
set_option maxHeartbeats 4000000 in
set_option maxRecDepth 20000 in
theorem bQ_law_203 (hflag : l.stackTraces = false) (C : hv_C p s m #[Value.ref bS] meth c code 8 wsL_law RL D (hv_tys cy)) (hT : hv_TA (fun q => s.heap.size ≤ q) s) (hX : va_X bS L xs s s.heap) (hbl : bS < s.heap.size) (hr : meth.sig.returnType = ret) {n : Nat} {o : Unit} {r2 : Int32 → Option Unit} {C2 : Nat} (hr2 : ∀ (κ : Nat) (x1 : Int32), κ + C2 ≤ 212000 → r2 x1 = some () → hv_J p l e room_1 s m #[Value.ref bS] below meth c 8 D (fun q => s.heap.size ≤ q) κ (12 * κ) (lw_Z below #[Value.ref bS] s) [] 2 [(0, .ref bS), (1, .int (x1))] []) {r106 : hv_St → hv_St → Int32 → Int32 → Option (Unit)} {C106 : Nat} (hr106 : ∀ (κ : Nat) (σ τ : hv_St) (x1 : Int32) (x5 : Int32), κ + C106 ≤ 212000 → r106 σ τ x1 x5 = some o → hv_J p l e room_1 s m #[Value.ref bS] below meth c 8 D (fun q => s.heap.size ≤ q) κ (12 * κ) (lw_Z below #[Value.ref bS] s) (hv_W 55 a (hv_XE a cy) (σ) ++ (hv_W 9 b (hv_TE b cy) (τ) ++ [])) 106 [(0, .ref bS), (1, .int (x1)), (2, .ref (a 0)), (3, .ref (b 0)), (4, .ref (b 1)), (5, .int (x5))] []) : ∀ (κ : Nat) (σ τ : hv_St) (x1 : Int32) (x5 : Int32) (x6 : Int32) (x7 : Int32) (z0 : Int32) (z1 : Int32), κ + (0 + C106) ≤ 212000 → kQ_law_203 n r2 r106 σ τ x1 x5 x6 x7 z0 z1 = some o → hv_J p l e room_1 s m #[Value.ref bS] below meth c 8 D (fun q => s.heap.size ≤ q) κ (12 * κ) (lw_Z below #[Value.ref bS] s) (hv_W 55 a (hv_XE a cy) (σ) ++ (hv_W 9 b (hv_TE b cy) (τ) ++ [])) 203 [(0, .ref bS), (1, .int (x1)), (2, .ref (a 0)), (3, .ref (b 0)), (4, .ref (b 1)), (5, .int (x5)), (6, .int (x6)), (7, .int (x7))] [.int (z0), .int (z1)] := by
  intro κ σ τ x1 x5 x6 x7 z0 z1 hκ h
  have hA : ∀ q, s.heap.size ≤ q → (fun q => s.heap.size ≤ q) q := fun _ h => h
  unfold kQ_law_203 at h
  refine r_icmp_ne (pc := 203) (tgt := 235) C dL_law_203 (by decide) (fun c203 => ?_) (fun c203 => ?_)
  · rw [if_neg c203] at h
    cases h
  · rw [if_pos c203] at h
    refine r_iload (pc := 206) C 6 dL_law_206 rfl ?_
    refine r_aload (pc := 208) C 4 dL_law_208 rfl ?_
    refine rt_get_8 (pc := 210) C iL_law_X9 (List.mem_of_getElem? (i := 19) rfl) dL_law_210 ?_
    refine r_icmp_ge (pc := 213) (tgt := 237) C dL_law_213 (by decide) (fun c213 => ?_) (fun c213 => ?_)
    · rw [if_pos c213] at h
      have K9 := bQ_law_237 (e := e) (below := below) (a := a) (b := b) (n := n) hflag C hT hX hbl hr hr2 hr106 κ (σ) (τ) (x1) (x5) (x6) (by omega) h
      exact r_lv [0, 1, 2, 3, 4, 5, 6] rfl K9
    · rw [if_neg c213] at h
      refine r_aload_n (pc := 216) C 2 dL_law_216 rfl rfl ?_
      refine r_iload (pc := 217) C 6 dL_law_217 rfl ?_
      refine r_iload (pc := 219) C 7 dL_law_219 rfl ?_
      refine r_if_ne (pc := 221) (tgt := 228) C dL_law_221 (by decide) (fun c221 => ?_) (fun c221 => ?_)
      · rw [if_neg c221] at h
        refine r_iconst (pc := 228) C (v := (0 : Int32)) dL_law_228 (by decide) ?_
        have K9 := bQ_law_229 (e := e) (below := below) (a := a) (b := b) (n := n) hflag C hT hX hbl hr hr2 hr106 κ (σ) (τ) (x1) (x5) (x6) ((0 : Int32)) (x6) (by omega) h
        exact r_lv [0, 1, 2, 3, 4, 5, 6] rfl K9
      · rw [if_pos c221] at h
        refine r_iconst (pc := 224) C (v := (1 : Int32)) dL_law_224 (by decide) ?_
        refine r_goto (pc := 225) C (tgt := 229) dL_law_225 (by decide) ?_
        have K9 := bQ_law_229 (e := e) (below := below) (a := a) (b := b) (n := n) hflag C hT hX hbl hr hr2 hr106 κ (σ) (τ) (x1) (x5) (x6) ((1 : Int32)) (x6) (by omega) h
        exact r_lv [0, 1, 2, 3, 4, 5, 6] rfl K9
set_option maxHeartbeats 4000000 in
set_option maxRecDepth 20000 in
theorem bQ_law_185 (hflag : l.stackTraces = false) (C : hv_C p s m #[Value.ref bS] meth c code 8 wsL_law RL D (hv_tys cy)) (hT : hv_TA (fun q => s.heap.size ≤ q) s) (hX : va_X bS L xs s s.heap) (hbl : bS < s.heap.size) (hr : meth.sig.returnType = ret) {n : Nat} {o : Unit} {r2 : Int32 → Option Unit} {C2 : Nat} (hr2 : ∀ (κ : Nat) (x1 : Int32), κ + C2 ≤ 212000 → r2 x1 = some () → hv_J p l e room_1 s m #[Value.ref bS] below meth c 8 D (fun q => s.heap.size ≤ q) κ (12 * κ) (lw_Z below #[Value.ref bS] s) [] 2 [(0, .ref bS), (1, .int (x1))] []) {r106 : hv_St → hv_St → Int32 → Int32 → Option (Unit)} {C106 : Nat} (hr106 : ∀ (κ : Nat) (σ τ : hv_St) (x1 : Int32) (x5 : Int32), κ + C106 ≤ 212000 → r106 σ τ x1 x5 = some o → hv_J p l e room_1 s m #[Value.ref bS] below meth c 8 D (fun q => s.heap.size ≤ q) κ (12 * κ) (lw_Z below #[Value.ref bS] s) (hv_W 55 a (hv_XE a cy) (σ) ++ (hv_W 9 b (hv_TE b cy) (τ) ++ [])) 106 [(0, .ref bS), (1, .int (x1)), (2, .ref (a 0)), (3, .ref (b 0)), (4, .ref (b 1)), (5, .int (x5))] []) : ∀ (κ : Nat) (σ τ : hv_St) (x1 : Int32) (x5 : Int32) (x6 : Int32) (x7 : Int32) (z0 : Int32) (z1 : Int32), κ + (0 + C106) ≤ 212000 → kQ_law_185 n r2 r106 σ τ x1 x5 x6 x7 z0 z1 = some o → hv_J p l e room_1 s m #[Value.ref bS] below meth c 8 D (fun q => s.heap.size ≤ q) κ (12 * κ) (lw_Z below #[Value.ref bS] s) (hv_W 55 a (hv_XE a cy) (σ) ++ (hv_W 9 b (hv_TE b cy) (τ) ++ [])) 185 [(0, .ref bS), (1, .int (x1)), (2, .ref (a 0)), (3, .ref (b 0)), (4, .ref (b 1)), (5, .int (x5)), (6, .int (x6)), (7, .int (x7))] [.int (z0), .int (z1), .ref (a 0)] := by
  intro κ σ τ x1 x5 x6 x7 z0 z1 hκ h
  have hA : ∀ q, s.heap.size ≤ q → (fun q => s.heap.size ≤ q) q := fun _ h => h
  unfold kQ_law_185 at h
  obtain ⟨r185, s185, hc185, h⟩ := hv_b2_some h
  refine r_callV0 (pc := 185) (τ := s185) (v := some (.int (r185))) (As := [.int (z1), .int (z0)]) (rest := []) C hA 0 (vX7_turn hc185) (cwV 2 C.1.2.2.2.2 gL_law_X7_turn rfl rfl rfl (by decide +kernel) ⟨(Nat.le_of_ble_eq_true rfl), (Nat.le_of_ble_eq_true rfl)⟩) (Nat.le_of_ble_eq_true rfl) rfl rfl rfl rfl (Nat.le_of_ble_eq_true rfl) dL_law_185 (lv_clL0 (need := 0) (by omega)) ?_
  refine r_st (st' := [.int (r185)]) rfl ?_
  refine r_iload (pc := 188) C 6 dL_law_188 rfl ?_
  refine r_aload (pc := 190) C 4 dL_law_190 rfl ?_
  refine rt_get_8 (pc := 192) C iL_law_X9 (List.mem_of_getElem? (i := 19) rfl) dL_law_192 ?_
  refine r_icmp_ge (pc := 195) (tgt := 202) C dL_law_195 (by decide) (fun c195 => ?_) (fun c195 => ?_)
  · rw [if_pos c195] at h
    refine r_iconst (pc := 202) C (v := (0 : Int32)) dL_law_202 (by decide) ?_
    have K9 := bQ_law_203 (e := e) (below := below) (a := a) (b := b) (n := n) hflag C hT hX hbl hr hr2 hr106 κ (s185) (τ) (x1) (x5) (x6) (x7) ((0 : Int32)) (r185) (by omega) h
    exact r_lv [0, 1, 2, 3, 4, 5, 6, 7] rfl K9
  · rw [if_neg c195] at h
    refine r_iconst (pc := 198) C (v := (1 : Int32)) dL_law_198 (by decide) ?_
    refine r_goto (pc := 199) C (tgt := 203) dL_law_199 (by decide) ?_
    have K9 := bQ_law_203 (e := e) (below := below) (a := a) (b := b) (n := n) hflag C hT hX hbl hr hr2 hr106 κ (s185) (τ) (x1) (x5) (x6) (x7) ((1 : Int32)) (r185) (by omega) h
    exact r_lv [0, 1, 2, 3, 4, 5, 6, 7] rfl K9
set_option maxHeartbeats 4000000 in
set_option maxRecDepth 20000 in
theorem bQ_law_152 (hflag : l.stackTraces = false) (C : hv_C p s m #[Value.ref bS] meth c code 8 wsL_law RL D (hv_tys cy)) (hT : hv_TA (fun q => s.heap.size ≤ q) s) (hX : va_X bS L xs s s.heap) (hbl : bS < s.heap.size) (hr : meth.sig.returnType = ret) {n : Nat} {o : Unit} {r2 : Int32 → Option Unit} {C2 : Nat} (hr2 : ∀ (κ : Nat) (x1 : Int32), κ + C2 ≤ 212000 → r2 x1 = some () → hv_J p l e room_1 s m #[Value.ref bS] below meth c 8 D (fun q => s.heap.size ≤ q) κ (12 * κ) (lw_Z below #[Value.ref bS] s) [] 2 [(0, .ref bS), (1, .int (x1))] []) {r106 : hv_St → hv_St → Int32 → Int32 → Option (Unit)} {C106 : Nat} (hr106 : ∀ (κ : Nat) (σ τ : hv_St) (x1 : Int32) (x5 : Int32), κ + C106 ≤ 212000 → r106 σ τ x1 x5 = some o → hv_J p l e room_1 s m #[Value.ref bS] below meth c 8 D (fun q => s.heap.size ≤ q) κ (12 * κ) (lw_Z below #[Value.ref bS] s) (hv_W 55 a (hv_XE a cy) (σ) ++ (hv_W 9 b (hv_TE b cy) (τ) ++ [])) 106 [(0, .ref bS), (1, .int (x1)), (2, .ref (a 0)), (3, .ref (b 0)), (4, .ref (b 1)), (5, .int (x5))] []) : ∀ (κ : Nat) (σ τ : hv_St) (x1 : Int32) (x5 : Int32), κ + (0 + C106) ≤ 212000 → kQ_law_152 n r2 r106 σ τ x1 x5 = some o → hv_J p l e room_1 s m #[Value.ref bS] below meth c 8 D (fun q => s.heap.size ≤ q) κ (12 * κ) (lw_Z below #[Value.ref bS] s) (hv_W 55 a (hv_XE a cy) (σ) ++ (hv_W 9 b (hv_TE b cy) (τ) ++ [])) 152 [(0, .ref bS), (1, .int (x1)), (2, .ref (a 0)), (3, .ref (b 0)), (4, .ref (b 1)), (5, .int (x5))] [] := by
  intro κ σ τ x1 x5 hκ h
  have hA : ∀ q, s.heap.size ≤ q → (fun q => s.heap.size ≤ q) q := fun _ h => h
  unfold kQ_law_152 at h
  refine r_aload_n (pc := 152) C 3 dL_law_152 rfl rfl ?_
  refine r_bipush (pc := 153) C (v := (11 : Int32)) dL_law_153 (by decide) ?_
  obtain ⟨r155, s155, hc155, h⟩ := hv_b2_some h
  refine r_callV (pc := 155) (τ := s155) (v := some (.int (r155))) (As := [.int ((11 : Int32))]) (rest := []) C hA 0 (vX8_next hc155) (cwV 1 C.1.2.2.2.2 gL_law_X8_next rfl rfl rfl (by decide +kernel) ⟨(Nat.le_of_ble_eq_true rfl), (Nat.le_of_ble_eq_true rfl)⟩) (Nat.le_of_ble_eq_true rfl) rfl rfl rfl rfl (Nat.le_of_ble_eq_true rfl) dL_law_155 (lv_clL0 (need := 0) (by omega)) ?_
  refine r_st (st' := [.int (r155)]) rfl ?_
  refine r_istore (pc := 158) C (lv' := [(6, .int (r155)), (0, .ref bS), (1, .int (x1)), (2, .ref (a 0)), (3, .ref (b 0)), (4, .ref (b 1)), (5, .int (x5))]) rfl dL_law_158 (Nat.le_of_ble_eq_true rfl) rfl ?_
  refine r_aload (pc := 160) C 5 dL_law_160 rfl ?_
  refine rt_get_9 (pc := 162) C iL_law_X9 (List.mem_of_getElem? (i := 20) rfl) dL_law_162 ?_
  refine r_iload (pc := 165) C 0 dL_law_165 rfl ?_
  obtain ⟨r167, s167, hc167, h⟩ := hv_b2_some h
  refine r_callP (pc := 167) (v := some (.int (r167))) (As := [.int ((s155).1 1 9), .int (r155)]) (rest := []) C hA (vL_isOn (a := fun _ => 0) hc167) (va_cwS 2 C.1.2.2.2.2 gL_law_L_isOn rfl rfl rfl (by decide +kernel) ⟨(Nat.le_of_ble_eq_true rfl), (Nat.le_of_ble_eq_true rfl)⟩) rfl rfl (Nat.le_of_ble_eq_true rfl) dL_law_167 (lv_clL0 (need := 0) (by omega)) ?_
  refine r_st (st' := [.int (r167)]) rfl ?_
  refine r_istore (pc := 170) C (lv' := [(7, .int (r167)), (6, .int (r155)), (0, .ref bS), (1, .int (x1)), (2, .ref (a 0)), (3, .ref (b 0)), (4, .ref (b 1)), (5, .int (x5))]) rfl dL_law_170 (Nat.le_of_ble_eq_true rfl) rfl ?_
  refine r_aload_n (pc := 172) C 4 dL_law_172 rfl rfl ?_
  refine r_iload (pc := 173) C 1 dL_law_173 rfl ?_
  refine r_iload (pc := 175) C 0 dL_law_175 rfl ?_
  refine r_if_ne (pc := 177) (tgt := 184) C dL_law_177 (by decide) (fun c177 => ?_) (fun c177 => ?_)
  · rw [if_neg c177] at h
    refine r_iconst (pc := 184) C (v := (0 : Int32)) dL_law_184 (by decide) ?_
    have K9 := bQ_law_185 (e := e) (below := below) (a := a) (b := b) (n := n) hflag C hT hX hbl hr hr2 hr106 κ (σ) (s155) (x1) (x5) (r155) (r167) ((0 : Int32)) (r155) (by omega) h
    exact r_lv [2, 3, 4, 5, 6, 7, 1, 0] rfl K9
  · rw [if_pos c177] at h
    refine r_iconst (pc := 180) C (v := (1 : Int32)) dL_law_180 (by decide) ?_
    refine r_goto (pc := 181) C (tgt := 185) dL_law_181 (by decide) ?_
    have K9 := bQ_law_185 (e := e) (below := below) (a := a) (b := b) (n := n) hflag C hT hX hbl hr hr2 hr106 κ (σ) (s155) (x1) (x5) (r155) (r167) ((1 : Int32)) (r155) (by omega) h
    exact r_lv [2, 3, 4, 5, 6, 7, 1, 0] rfl K9
set_option maxHeartbeats 4000000 in
set_option maxRecDepth 20000 in
theorem bQ_law_106 (hflag : l.stackTraces = false) (C : hv_C p s m #[Value.ref bS] meth c code 8 wsL_law RL D (hv_tys cy)) (hT : hv_TA (fun q => s.heap.size ≤ q) s) (hX : va_X bS L xs s s.heap) (hbl : bS < s.heap.size) (hr : meth.sig.returnType = ret) {n : Nat} {o : Unit} {r2 : Int32 → Option Unit} {C2 : Nat} (hr2 : ∀ (κ : Nat) (x1 : Int32), κ + C2 ≤ 212000 → r2 x1 = some () → hv_J p l e room_1 s m #[Value.ref bS] below meth c 8 D (fun q => s.heap.size ≤ q) κ (12 * κ) (lw_Z below #[Value.ref bS] s) [] 2 [(0, .ref bS), (1, .int (x1))] []) : ∀ (i κ : Nat) (σ τ : hv_St) (x1 : Int32) (x5 : Int32), κ + (i * 7518 + (0 + C2)) ≤ 212000 → kQ_law_106 n r2 i σ τ x1 x5 = some o → hv_J p l e room_1 s m #[Value.ref bS] below meth c 8 D (fun q => s.heap.size ≤ q) κ (12 * κ) (lw_Z below #[Value.ref bS] s) (hv_W 55 a (hv_XE a cy) (σ) ++ (hv_W 9 b (hv_TE b cy) (τ) ++ [])) 106 [(0, .ref bS), (1, .int (x1)), (2, .ref (a 0)), (3, .ref (b 0)), (4, .ref (b 1)), (5, .int (x5))] [] := by
  intro i
  have hA : ∀ q, s.heap.size ≤ q → (fun q => s.heap.size ≤ q) q := fun _ h => h
  induction i with
  | zero =>
    intro κ σ τ x1 x5 hκ h
    cases h
  | succ i ih =>
    intro κ σ τ x1 x5 hκ h
    generalize hg : kQ_law_106 n r2 i = r106 at ih
    have hr106 := ih
    rw [Nat.succ_mul] at hκ
    generalize eC9 : i * 7518 + (0 + C2) = C9 at hr106
    replace h : kQ_law_106_b n r2 r106 σ τ x1 x5 = some o := by rw [← hg]; exact h
    unfold kQ_law_106_b at h
    refine r_iload (pc := 106) C 5 dL_law_106 rfl ?_
    refine r_iconst (pc := 108) C (v := (3 : Int32)) dL_law_108 (by decide) ?_
    refine r_icmp_ge (pc := 109) (tgt := 271) C dL_law_109 (by decide) (fun c109 => ?_) (fun c109 => ?_)
    · rw [if_pos c109] at h
      refine r_iinc (pc := 271) C 1 (v := (x1) + 1) (lv' := [(1, .int ((x1) + 1)), (0, .ref bS), (2, .ref (a 0)), (3, .ref (b 0)), (4, .ref (b 1)), (5, .int (x5))]) dL_law_271 rfl rfl (Nat.le_of_ble_eq_true rfl) rfl ?_
      refine r_goto (pc := 274) C (tgt := 2) dL_law_274 (by decide) ?_
      refine r_sub (ws' := []) (List.nil_sublist _) ?_
      exact r_lv [1, 0] rfl (hr2 κ ((x1) + 1) (by omega) h)
    · rw [if_neg c109] at h
      refine r_aload_n (pc := 112) C 2 dL_law_112 rfl rfl ?_
      refine r_aload (pc := 113) C 4 dL_law_113 rfl ?_
      obtain ⟨o115, hc115, h⟩ := hv_bd_some h
      refine r_ws lv_as ?_
      refine r_callM (pc := 115) (As := [.ref (a 0), .ref (b 1)]) (rest := []) C hA hT (vQ_isKind hflag hc115) (va_cwS 2 C.1.2.2.2.2 gL_law_L_isKind rfl rfl rfl (by decide +kernel) ⟨(Nat.le_of_ble_eq_true rfl), (Nat.le_of_ble_eq_true rfl)⟩) rfl rfl (Nat.le_of_ble_eq_true rfl) dL_law_115 (lv_clL (need := 3) (by omega) (Nat.le_refl _)) (fun v w hR => ?_)
      refine r_tw ?_
      obtain ⟨rfl, rfl⟩ := hR
      refine r_ws lv_as.symm ?_
      refine r_st (st' := [.int ((1 : Int32))]) rfl ?_
      refine r_if_eq (pc := 118) (tgt := 150) C dL_law_118 (by decide) (fun k => ?_) (fun k => ?_)
      · exact absurd k (by decide)
      · clear k
        refine r_aload_n (pc := 121) C 2 dL_law_121 rfl rfl ?_
        refine r_iconst (pc := 122) C (v := (4 : Int32)) dL_law_122 (by decide) ?_
        obtain ⟨r123, s123, hc123, h⟩ := hv_b2_some h
        refine r_callV0 (pc := 123) (τ := s123) (v := some (.int (r123))) (As := [.int ((4 : Int32))]) (rest := []) C hA 0 (vX7_count hc123) (cwV 1 C.1.2.2.2.2 gL_law_X7_count rfl rfl rfl (by decide +kernel) ⟨(Nat.le_of_ble_eq_true rfl), (Nat.le_of_ble_eq_true rfl)⟩) (Nat.le_of_ble_eq_true rfl) rfl rfl rfl rfl (Nat.le_of_ble_eq_true rfl) dL_law_123 (lv_clL0 (need := 0) (by omega)) ?_
        refine r_st (st' := [.int (r123)]) rfl ?_
        obtain ⟨r126, s126, hc126, h⟩ := hv_b2_some h
        refine r_callP (pc := 126) (v := some (.int (r126))) (As := [.int (r123)]) (rest := []) C hA (vL_isFirm (a := fun _ => 0) hc126) (va_cwS 1 C.1.2.2.2.2 gL_law_L_isFirm rfl rfl rfl (by decide +kernel) ⟨(Nat.le_of_ble_eq_true rfl), (Nat.le_of_ble_eq_true rfl)⟩) rfl rfl (Nat.le_of_ble_eq_true rfl) dL_law_126 (lv_clL0 (need := 0) (by omega)) ?_
        refine r_st (st' := [.int (r126)]) rfl ?_
        refine r_if_eq (pc := 129) (tgt := 152) C dL_law_129 (by decide) (fun c129 => ?_) (fun c129 => ?_)
        · rw [if_pos c129] at h
          have K9 := bQ_law_152 (e := e) (below := below) (a := a) (b := b) (n := n) hflag C hT hX hbl hr hr2 hr106 (κ + 3) (s123) (o115.2) (x1) (x5) (by omega) h
          exact r_lv [0, 1, 2, 3, 4, 5] rfl K9
        · rw [if_neg c129] at h
          refine r_aload_n (pc := 132) C 2 dL_law_132 rfl rfl ?_
          refine r_aload (pc := 133) C 4 dL_law_133 rfl ?_
          obtain ⟨o135, hc135, h⟩ := hv_bd_some h
          refine r_ws lv_as ?_
          refine r_callM (pc := 135) (As := [.ref (a 0), .ref (b 1)]) (rest := []) C hA hT (vQ_isBalance hflag hc135) (va_cwS 2 C.1.2.2.2.2 gL_law_L_isBalance rfl rfl rfl (by decide +kernel) ⟨(Nat.le_of_ble_eq_true rfl), (Nat.le_of_ble_eq_true rfl)⟩) rfl rfl (Nat.le_of_ble_eq_true rfl) dL_law_135 (lv_clL (need := 1422) (by omega) (Nat.le_refl _)) (fun v w hR => ?_)
          refine r_tw ?_
          obtain ⟨rfl, rfl⟩ := hR
          refine r_ws lv_as.symm ?_
          refine r_st (st' := [.int ((1 : Int32))]) rfl ?_
          refine r_if_eq (pc := 138) (tgt := 150) C dL_law_138 (by decide) (fun k => ?_) (fun k => ?_)
          · exact absurd k (by decide)
          · clear k
            refine r_aload_n (pc := 141) C 2 dL_law_141 rfl rfl ?_
            refine r_aload (pc := 142) C 4 dL_law_142 rfl ?_
            obtain ⟨o144, hc144, h⟩ := hv_bd_some h
            refine r_ws lv_as ?_
            refine r_callM (pc := 144) (As := [.ref (a 0), .ref (b 1)]) (rest := []) C hA hT (vQ_areStates hflag hc144) (va_cwS 2 C.1.2.2.2.2 gL_law_L_areStates rfl rfl rfl (by decide +kernel) ⟨(Nat.le_of_ble_eq_true rfl), (Nat.le_of_ble_eq_true rfl)⟩) rfl rfl (Nat.le_of_ble_eq_true rfl) dL_law_144 (lv_clL (need := 6093) (by omega) (Nat.le_refl _)) (fun v w hR => ?_)
            refine r_tw ?_
            obtain ⟨rfl, rfl⟩ := hR
            refine r_ws lv_as.symm ?_
            refine r_st (st' := [.int ((1 : Int32))]) rfl ?_
            refine r_if_ne (pc := 147) (tgt := 152) C dL_law_147 (by decide) (fun k => ?_) (fun k => ?_)
            · clear k
              have K9 := bQ_law_152 (e := e) (below := below) (a := a) (b := b) (n := n) hflag C hT hX hbl hr hr2 hr106 (((κ + 3) + 1422) + 6093) (o144.1) (o144.2) (x1) (x5) (by omega) h
              exact r_lv [0, 1, 2, 3, 4, 5] rfl K9
            · exact absurd k (by decide)
set_option maxHeartbeats 4000000 in
set_option maxRecDepth 20000 in
theorem bQ_law_15 (hflag : l.stackTraces = false) (C : hv_C p s m #[Value.ref bS] meth c code 8 wsL_law RL D (hv_tys cy)) (hT : hv_TA (fun q => s.heap.size ≤ q) s) (hX : va_X bS L xs s s.heap) (hbl : bS < s.heap.size) (hr : meth.sig.returnType = ret) {n : Nat} {o : Unit} {r2 : Int32 → Option Unit} {C2 : Nat} (hr2 : ∀ (κ : Nat) (x1 : Int32), κ + C2 ≤ 212000 → r2 x1 = some () → hv_J p l e room_1 s m #[Value.ref bS] below meth c 8 D (fun q => s.heap.size ≤ q) κ (12 * κ) (lw_Z below #[Value.ref bS] s) [] 2 [(0, .ref bS), (1, .int (x1))] []) : ∀ (κ : Nat) (x1 : Int32), κ + (30081 + C2) ≤ 212000 → kQ_law_15 n L xs r2 x1 = some o → hv_J p l e room_1 s m #[Value.ref bS] below meth c 8 D (fun q => s.heap.size ≤ q) κ (12 * κ) (lw_Z below #[Value.ref bS] s) (hv_W 55 a (hv_XE a cy) (hv_0) ++ []) 15 [(0, .ref bS), (1, .int (x1))] [.ref (a 0)] := by
  intro κ x1 hκ h
  have hA : ∀ q, s.heap.size ≤ q → (fun q => s.heap.size ≤ q) q := fun _ h => h
  unfold kQ_law_15 at h
  refine r_astore_n (pc := 15) C (lv' := [(2, .ref (a 0)), (0, .ref bS), (1, .int (x1))]) rfl dL_law_15 rfl (Nat.le_of_ble_eq_true rfl) rfl ?_
  refine r_aload_n (pc := 16) C 0 dL_law_16 rfl rfl ?_
  refine r_iconst (pc := 17) C (v := (4 : Int32)) dL_law_17 (by decide) ?_
  obtain ⟨r18, s18, hc18, h⟩ := hv_b2_some h
  refine r_callV0 (pc := 18) (τ := s18) (v := some (.int (r18))) (As := [.int ((4 : Int32))]) (rest := []) C hA 0 (vX7_count hc18) (cwV 1 C.1.2.2.2.2 gL_law_X7_count rfl rfl rfl (by decide +kernel) ⟨(Nat.le_of_ble_eq_true rfl), (Nat.le_of_ble_eq_true rfl)⟩) (Nat.le_of_ble_eq_true rfl) rfl rfl rfl rfl (Nat.le_of_ble_eq_true rfl) dL_law_18 (lv_clL0 (need := 0) (by omega)) ?_
  refine r_st (st' := [.int (r18)]) rfl ?_
  refine r_iconst (pc := 21) C (v := (1 : Int32)) dL_law_21 (by decide) ?_
  refine r_icmp_ne (pc := 22) (tgt := 62) C dL_law_22 (by decide) (fun c22 => ?_) (fun c22 => ?_)
  · rw [if_neg c22] at h
    cases h
  · rw [if_pos c22] at h
    refine r_aload_n (pc := 25) C 0 dL_law_25 rfl rfl ?_
    refine r_iconst (pc := 26) C (v := (3 : Int32)) dL_law_26 (by decide) ?_
    obtain ⟨r27, s27, hc27, h⟩ := hv_b2_some h
    refine r_callV0 (pc := 27) (τ := s27) (v := some (.int (r27))) (As := [.int ((3 : Int32))]) (rest := []) C hA 0 (vX7_count hc27) (cwV 1 C.1.2.2.2.2 gL_law_X7_count rfl rfl rfl (by decide +kernel) ⟨(Nat.le_of_ble_eq_true rfl), (Nat.le_of_ble_eq_true rfl)⟩) (Nat.le_of_ble_eq_true rfl) rfl rfl rfl rfl (Nat.le_of_ble_eq_true rfl) dL_law_27 (lv_clL0 (need := 0) (by omega)) ?_
    refine r_st (st' := [.int (r27)]) rfl ?_
    refine r_if_ne (pc := 30) (tgt := 62) C dL_law_30 (by decide) (fun c30 => ?_) (fun c30 => ?_)
    · rw [if_neg c30] at h
      cases h
    · rw [if_pos c30] at h
      refine r_aload_n (pc := 33) C 0 dL_law_33 rfl rfl ?_
      refine r_iconst (pc := 34) C (v := (1 : Int32)) dL_law_34 (by decide) ?_
      obtain ⟨r35, s35, hc35, h⟩ := hv_b2_some h
      refine r_callV0 (pc := 35) (τ := s35) (v := some (.int (r35))) (As := [.int ((1 : Int32))]) (rest := []) C hA 0 (vX7_painted hc35) (cwV 1 C.1.2.2.2.2 gL_law_X7_painted rfl rfl rfl (by decide +kernel) ⟨(Nat.le_of_ble_eq_true rfl), (Nat.le_of_ble_eq_true rfl)⟩) (Nat.le_of_ble_eq_true rfl) rfl rfl rfl rfl (Nat.le_of_ble_eq_true rfl) dL_law_35 (lv_clL0 (need := 0) (by omega)) ?_
      refine r_st (st' := [.int (r35)]) rfl ?_
      refine r_if_ne (pc := 38) (tgt := 62) C dL_law_38 (by decide) (fun c38 => ?_) (fun c38 => ?_)
      · rw [if_neg c38] at h
        cases h
      · rw [if_pos c38] at h
        refine r_aload_n (pc := 41) C 0 dL_law_41 rfl rfl ?_
        refine r_iconst (pc := 42) C (v := (4 : Int32)) dL_law_42 (by decide) ?_
        refine r_iconst (pc := 43) C (v := (0 : Int32)) dL_law_43 (by decide) ?_
        obtain ⟨r44, s44, hc44, h⟩ := hv_b2_some h
        refine r_callV0 (pc := 44) (τ := s44) (v := some (.int (r44))) (As := [.int ((4 : Int32)), .int ((0 : Int32))]) (rest := []) C hA 0 (vX7_pin hc44) (cwV 2 C.1.2.2.2.2 gL_law_X7_pin rfl rfl rfl (by decide +kernel) ⟨(Nat.le_of_ble_eq_true rfl), (Nat.le_of_ble_eq_true rfl)⟩) (Nat.le_of_ble_eq_true rfl) rfl rfl rfl rfl (Nat.le_of_ble_eq_true rfl) dL_law_44 (lv_clL0 (need := 0) (by omega)) ?_
        refine r_st (st' := [.int (r44)]) rfl ?_
        refine r_iconst (pc := 47) C (v := (-1 : Int32)) dL_law_47 (by decide) ?_
        refine r_icmp_ne (pc := 48) (tgt := 62) C dL_law_48 (by decide) (fun c48 => ?_) (fun c48 => ?_)
        · rw [if_neg c48] at h
          cases h
        · rw [if_pos c48] at h
          refine r_aload_n (pc := 51) C 0 dL_law_51 rfl rfl ?_
          refine r_iconst (pc := 52) C (v := (0 : Int32)) dL_law_52 (by decide) ?_
          refine r_iconst (pc := 53) C (v := (1 : Int32)) dL_law_53 (by decide) ?_
          refine r_iconst (pc := 54) C (v := (1 : Int32)) dL_law_54 (by decide) ?_
          obtain ⟨r55, s55, hc55, h⟩ := hv_b2_some h
          refine r_callV0 (pc := 55) (τ := s55) (v := some (.int (r55))) (As := [.int ((0 : Int32)), .int ((1 : Int32)), .int ((1 : Int32))]) (rest := []) C hA 0 (vX7_bar hc55) (cwV 3 C.1.2.2.2.2 gL_law_X7_bar rfl rfl rfl (by decide +kernel) ⟨(Nat.le_of_ble_eq_true rfl), (Nat.le_of_ble_eq_true rfl)⟩) (Nat.le_of_ble_eq_true rfl) rfl rfl rfl rfl (Nat.le_of_ble_eq_true rfl) dL_law_55 (lv_clL0 (need := 0) (by omega)) ?_
          refine r_st (st' := [.int (r55)]) rfl ?_
          refine r_iconst (pc := 58) C (v := (-1 : Int32)) dL_law_58 (by decide) ?_
          refine r_icmp_eq (pc := 59) (tgt := 64) C dL_law_59 (by decide) (fun c59 => ?_) (fun c59 => ?_)
          · rw [if_pos c59] at h
            refine j_new (pc := 64) (T := TX8) (ty0 := tyX8) (ci := 8) (fs := [.int 0]) ⟨C, hA, hT.2⟩ iL_law_X8 tyX8_ok qL_law_C42 qL_law_NX8 qL_law_SX8 rfl (fun j hj => match j, hj with | 0, _ => rfl | j + 1, hj => absurd hj (by omega)) (lv_cl1 (by omega)) (lv_cl2 (by omega)) dL_law_64 (fun q64 => ?_)
            refine r_tw1 ?_
            refine r_dup (pc := 67) C dL_law_67 rfl ?_
            refine r_iload_n (pc := 68) C 2 dL_law_68 rfl rfl ?_
            refine r_aload_n (pc := 69) C 1 dL_law_69 rfl rfl ?_
            refine r_slen (pc := 70) C hX hbl dL_law_70 ?_
            refine r_icmp_ge (pc := 71) (tgt := 80) C dL_law_71 (by decide) (fun c71 => ?_) (fun c71 => ?_)
            · rw [if_pos c71] at h
              refine r_bipush (pc := 80) C (v := (37 : Int32)) dL_law_80 (by decide) ?_
              refine r_iload_n (pc := 82) C 2 dL_law_82 rfl rfl ?_
              refine r_imul (pc := 83) C dL_law_83 ?_
              obtain ⟨y_84, ey_84, h⟩ := hv_let_some h
              refine r_nm ey_84 ?_
              refine r_ini (pc := 84) (As := [.int y_84]) (rest := [.ref q64]) C hA hT (vX8_init) (cwI 1 C.1.2.2.2.2 gL_law_X8_init rfl rfl rfl (C.1.2.2.2.2 _ qL_law_SX8) (C.1.2.2.2.2 _ qL_law_L154) (C.1.2.2.2.2 _ qL_law_IX8) rfl (by decide +kernel) ⟨(Nat.le_of_ble_eq_true rfl), (Nat.le_of_ble_eq_true rfl)⟩) rfl (by rfl) (Nat.le_of_ble_eq_true rfl) dL_law_84 (lv_clL (need := 0) (by omega) (Nat.le_refl _)) (fun u => ?_)
              refine r_st (st' := [.ref q64]) rfl ?_
              refine r_astore_n (pc := 87) C (lv' := [(3, .ref q64), (2, .ref (a 0)), (0, .ref bS), (1, .int (x1))]) rfl dL_law_87 rfl (Nat.le_of_ble_eq_true rfl) rfl ?_
              refine r_aload_n (pc := 88) C 1 dL_law_88 rfl rfl ?_
              refine r_aload_n (pc := 89) C 0 dL_law_89 rfl rfl ?_
              refine r_iconst (pc := 90) C (v := (5 : Int32)) dL_law_90 (by decide) ?_
              obtain ⟨o91, hc91, h⟩ := hv_bd_some h
              refine r_ws (ws' := (hv_W 55 a (hv_XE a cy) (s55) ++ [(q64, .inr (8, [.int y_84]))]) ++ []) (by rw [List.append_nil, List.append_nil]) ?_
              refine r_callM (pc := 91) (As := [.ref (a 0), .ref q64, .int ((5 : Int32))]) (rest := []) C hA hT (vQ_begins hflag hc91) (va_cwS 3 C.1.2.2.2.2 gL_law_L_begins rfl rfl rfl (by decide +kernel) ⟨(Nat.le_of_ble_eq_true rfl), (Nat.le_of_ble_eq_true rfl)⟩) rfl rfl (Nat.le_of_ble_eq_true rfl) dL_law_91 (lv_clL (need := 8) (by omega) (Nat.le_refl _)) (fun v w hR => ?_)
              refine r_tw ?_
              obtain ⟨b, rfl, rfl, eb⟩ := hR
              subst eb
              refine r_ws lv_as.symm ?_
              refine r_st (st' := [.ref (b 1)]) rfl ?_
              refine r_astore (pc := 94) C (lv' := [(4, .ref (b 1)), (3, .ref (b 0)), (2, .ref (a 0)), (0, .ref bS), (1, .int (x1))]) rfl dL_law_94 (Nat.le_of_ble_eq_true rfl) rfl ?_
              refine r_aload (pc := 96) C 0 dL_law_96 rfl ?_
              refine r_ifnonnull (pc := 98) C (tgt := 103) dL_law_98 (by decide) ?_
              refine r_iconst (pc := 103) C (v := (0 : Int32)) dL_law_103 (by decide) ?_
              refine r_istore (pc := 104) C (lv' := [(5, .int ((0 : Int32))), (4, .ref (b 1)), (3, .ref (b 0)), (2, .ref (a 0)), (0, .ref bS), (1, .int (x1))]) rfl dL_law_104 (Nat.le_of_ble_eq_true rfl) rfl ?_
              have K9 := bQ_law_106 (e := e) (below := below) (a := a) (b := b) (n := n) hflag C hT hX hbl hr hr2 4 ((κ + 1) + 8) (o91.1) (o91.2) (x1) ((0 : Int32)) (by omega) h
              exact r_lv [4, 5, 3, 2, 1, 0] rfl K9
            · rw [if_neg c71] at h
              refine r_aload_n (pc := 74) C 1 dL_law_74 rfl rfl ?_
              refine r_iload_n (pc := 75) C 2 dL_law_75 rfl rfl ?_
              obtain ⟨k76, h⟩ := hv_if_some h
              refine r_sld (pc := 76) C hX hbl k76 dL_law_76 ?_
              refine r_goto (pc := 77) C (tgt := 84) dL_law_77 (by decide) ?_
              obtain ⟨y_84, ey_84, h⟩ := hv_let_some h
              refine r_nm ey_84 ?_
              refine r_ini (pc := 84) (As := [.int y_84]) (rest := [.ref q64]) C hA hT (vX8_init) (cwI 1 C.1.2.2.2.2 gL_law_X8_init rfl rfl rfl (C.1.2.2.2.2 _ qL_law_SX8) (C.1.2.2.2.2 _ qL_law_L154) (C.1.2.2.2.2 _ qL_law_IX8) rfl (by decide +kernel) ⟨(Nat.le_of_ble_eq_true rfl), (Nat.le_of_ble_eq_true rfl)⟩) rfl (by rfl) (Nat.le_of_ble_eq_true rfl) dL_law_84 (lv_clL (need := 0) (by omega) (Nat.le_refl _)) (fun u => ?_)
              refine r_st (st' := [.ref q64]) rfl ?_
              refine r_astore_n (pc := 87) C (lv' := [(3, .ref q64), (2, .ref (a 0)), (0, .ref bS), (1, .int (x1))]) rfl dL_law_87 rfl (Nat.le_of_ble_eq_true rfl) rfl ?_
              refine r_aload_n (pc := 88) C 1 dL_law_88 rfl rfl ?_
              refine r_aload_n (pc := 89) C 0 dL_law_89 rfl rfl ?_
              refine r_iconst (pc := 90) C (v := (5 : Int32)) dL_law_90 (by decide) ?_
              obtain ⟨o91, hc91, h⟩ := hv_bd_some h
              refine r_ws (ws' := (hv_W 55 a (hv_XE a cy) (s55) ++ [(q64, .inr (8, [.int y_84]))]) ++ []) (by rw [List.append_nil, List.append_nil]) ?_
              refine r_callM (pc := 91) (As := [.ref (a 0), .ref q64, .int ((5 : Int32))]) (rest := []) C hA hT (vQ_begins hflag hc91) (va_cwS 3 C.1.2.2.2.2 gL_law_L_begins rfl rfl rfl (by decide +kernel) ⟨(Nat.le_of_ble_eq_true rfl), (Nat.le_of_ble_eq_true rfl)⟩) rfl rfl (Nat.le_of_ble_eq_true rfl) dL_law_91 (lv_clL (need := 8) (by omega) (Nat.le_refl _)) (fun v w hR => ?_)
              refine r_tw ?_
              obtain ⟨b, rfl, rfl, eb⟩ := hR
              subst eb
              refine r_ws lv_as.symm ?_
              refine r_st (st' := [.ref (b 1)]) rfl ?_
              refine r_astore (pc := 94) C (lv' := [(4, .ref (b 1)), (3, .ref (b 0)), (2, .ref (a 0)), (0, .ref bS), (1, .int (x1))]) rfl dL_law_94 (Nat.le_of_ble_eq_true rfl) rfl ?_
              refine r_aload (pc := 96) C 0 dL_law_96 rfl ?_
              refine r_ifnonnull (pc := 98) C (tgt := 103) dL_law_98 (by decide) ?_
              refine r_iconst (pc := 103) C (v := (0 : Int32)) dL_law_103 (by decide) ?_
              refine r_istore (pc := 104) C (lv' := [(5, .int ((0 : Int32))), (4, .ref (b 1)), (3, .ref (b 0)), (2, .ref (a 0)), (0, .ref bS), (1, .int (x1))]) rfl dL_law_104 (Nat.le_of_ble_eq_true rfl) rfl ?_
              have K9 := bQ_law_106 (e := e) (below := below) (a := a) (b := b) (n := n) hflag C hT hX hbl hr hr2 4 ((κ + 1) + 8) (o91.1) (o91.2) (x1) ((0 : Int32)) (by omega) h
              exact r_lv [4, 5, 3, 2, 1, 0] rfl K9
          · rw [if_neg c59] at h
            cases h
set_option maxHeartbeats 4000000 in
set_option maxRecDepth 20000 in
theorem bQ_law_2 (hflag : l.stackTraces = false) (C : hv_C p s m #[Value.ref bS] meth c code 8 wsL_law RL D (hv_tys cy)) (hT : hv_TA (fun q => s.heap.size ≤ q) s) (hX : va_X bS L xs s s.heap) (hbl : bS < s.heap.size) (hr : meth.sig.returnType = ret) {n : Nat} : ∀ (i κ : Nat) (x1 : Int32), κ + i * 30136 ≤ 212000 → kQ_law_2 n L xs i x1 = some () → hv_J p l e room_1 s m #[Value.ref bS] below meth c 8 D (fun q => s.heap.size ≤ q) κ (12 * κ) (lw_Z below #[Value.ref bS] s) [] 2 [(0, .ref bS), (1, .int (x1))] [] := by
  intro i
  have hA : ∀ q, s.heap.size ≤ q → (fun q => s.heap.size ≤ q) q := fun _ h => h
  induction i with
  | zero =>
    intro κ x1 hκ h
    cases h
  | succ i ih =>
    intro κ x1 hκ h
    rw [Nat.succ_mul] at hκ
    replace h : (if (6 : Int32) ≤ x1 then some () else kQ_law_15 n L xs (kQ_law_2 n L xs i) x1) = some () := h
    refine r_iload_n (pc := 2) C 1 dL_law_2 rfl rfl ?_
    refine r_bipush (pc := 3) (v := (6 : Int32)) C dL_law_3 (by decide) ?_
    refine r_icmp_ge (pc := 5) (tgt := 277) C dL_law_5 (by decide) (fun c5 => ?_) (fun c5 => ?_)
    · refine r_iconst (pc := 277) (v := (1 : Int32)) C dL_law_277 (by decide) ?_
      exact r_lawret (pc := 278) C hr (by omega) dL_law_278
    · rw [if_neg c5] at h
      refine j_new (pc := 8) (T := TX7) (ty0 := tyX7) (ci := 7) (fs := [.null, .null, .null, .null, .null, .null, .null]) ⟨C, hA, hT.2⟩ iL_law_X7 tyX7_ok qL_law_C8 qL_law_NX7 qL_law_SX7 rfl (fun j hj => match j, hj with | 0, _ => rfl | 1, _ => rfl | 2, _ => rfl | 3, _ => rfl | 4, _ => rfl | 5, _ => rfl | 6, _ => rfl | j + 7, hj => absurd hj (by omega)) (lv_cl1 (by omega)) (lv_cl2 (by omega)) dL_law_8 (fun q => ?_)
      refine r_tw1 ?_
      refine r_dup (pc := 11) C dL_law_11 rfl ?_
      refine r_ini (pc := 12) (As := []) (rest := [.ref q]) C hA hT vX7_init (cwI 0 C.1.2.2.2.2 gL_law_X7_init rfl rfl rfl (C.1.2.2.2.2 _ qL_law_SX7) (C.1.2.2.2.2 _ qL_law_L153) (C.1.2.2.2.2 _ qL_law_IX7) rfl (by decide +kernel) ⟨(Nat.le_of_ble_eq_true rfl), (Nat.le_of_ble_eq_true rfl)⟩) rfl rfl (Nat.le_of_ble_eq_true rfl) dL_law_12 (lv_cl54 (by omega)) (fun u => ?_)
      refine r_wide (k := κ + 1 + 54) (n := 12 * (κ + 1 + 54)) (Nat.le_refl _) (by omega) ?_
      refine r_ws (ws' := hv_W 55 (fun k => if k = 0 then q else u k) (hv_XE (fun k => if k = 0 then q else u k) cy) hv_0 ++ []) (by rw [List.append_nil]; rfl) ?_
      exact bQ_law_15 (a := fun k => if k = 0 then q else u k) hflag C hT hX hbl hr (C2 := i * 30136) (fun κ x1 hκ h => ih κ x1 hκ h) (κ + 1 + 54) x1 (by omega) h
end
