/-! class, walked: X0_findFree, X7_has, X0_swap, X7_quotient, X0_clearColumn, X0_take, X0_extend, X3_brings, X0_layRow, X0_settle, J6_bitCount_0f7a4, X0_kindNumber, X2_greatestDivisor, X2_reduce, X3_isPin, X3_isBar, X3_isOn, X3_hasPinAt, X3_hasBar, X3_put, X3_addBar, X3_barsAt, X4_across -/
section
variable {p : Program} {l : Launch} {e : Env} {s : State} {m : MethodId} {args : Array Value} {below : List Frame} {meth : Method} {c : Code} {D : va_G} {a : Nat → Nat} {cy : ClassId × ClassId × ClassId × ClassId}
abbrev rmX0_findFree : Room := { frames := 0, cells := 0, slots := 0, locals := 0 }
set_option maxRecDepth 20000 in
theorem qX0_findFree_F16 : Cond.fieldLink RX0 16 "PinFrame$Balance" "slotOf" "[I" ∈ wsX0_findFree := by decide +kernel
set_option maxRecDepth 20000 in
theorem qX0_findFree_F23 : Cond.fieldLink RX0 23 "PinFrame$Balance" "frame" "LPinFrame$Frame;" ∈ wsX0_findFree := by decide +kernel
set_option maxRecDepth 20000 in
theorem qX0_findFree_F30 : Cond.fieldLink RX0 30 "PinFrame$Balance" "free" "I" ∈ wsX0_findFree := by decide +kernel
set_option maxRecDepth 20000 in
theorem qX0_findFree_F82 : Cond.fieldLink RX0 82 "PinFrame$Frame" "pins" "I" ∈ wsX0_findFree := by decide +kernel
set_option maxRecDepth 20000 in
theorem qX0_findFree_F85 : Cond.fieldLink RX0 85 "PinFrame$Frame" "held" "[Z" ∈ wsX0_findFree := by decide +kernel
set_option maxRecDepth 20000 in
theorem iX0_findFree_X0 : ∀ w ∈ u_ws RX0 TX0 9, w ∈ wsX0_findFree := by decide +kernel
set_option maxRecDepth 20000 in
theorem iX0_findFree_X3 : ∀ w ∈ u_ws RX3 TX3 10, w ∈ wsX0_findFree := by decide +kernel
set_option maxHeartbeats 4000000 in
set_option maxRecDepth 20000 in
theorem bX0_findFree_52 (C : hv_C p s m args meth c cX0_findFree 2 wsX0_findFree RX0 D (hv_tys cy)) (hr : meth.sig.returnType = none) {n : Nat} {o : hv_St} {r7 : hv_St → Int32 → Option (hv_St)} (hr7 : ∀ (σ : hv_St) (x1 : Int32), r7 σ x1 = some o → hv_G p l e (headSpec wsX0_findFree rmX0_findFree).room s m args below meth c 2 D 55 a (hv_XE a cy) 0 0 (hv_MQ D 55 a (hv_XE a cy) below args s none o) σ 7 [(0, .ref (a 9)), (1, .int (x1))] []) : ∀ (σ : hv_St) (x1 : Int32), kX0_findFree_52 n r7 σ x1 = some o → hv_G p l e (headSpec wsX0_findFree rmX0_findFree).room s m args below meth c 2 D 55 a (hv_XE a cy) 0 0 (hv_MQ D 55 a (hv_XE a cy) below args s none o) σ 52 [(0, .ref (a 9)), (1, .int (x1))] [] := by
  intro σ x1 h
  unfold kX0_findFree_52 at h
  refine g_iinc (pc := 52) C 1 (v := x1 + 1) (lv' := [(1, .int (x1 + 1)), (0, .ref (a 9))]) dX0_findFree_52 rfl rfl (Nat.le_of_ble_eq_true rfl) rfl ?_
  refine g_goto (pc := 55) C (tgt := 7) dX0_findFree_55 (by decide) ?_
  exact g_lv [1, 0] rfl (hr7 σ (x1 + 1) h)
set_option maxHeartbeats 4000000 in
set_option maxRecDepth 20000 in
theorem bX0_findFree_7 (C : hv_C p s m args meth c cX0_findFree 2 wsX0_findFree RX0 D (hv_tys cy)) (hr : meth.sig.returnType = none) {n : Nat} {o : hv_St} : ∀ (i : Nat) (σ : hv_St) (x1 : Int32), kX0_findFree_7 n i σ x1 = some o → hv_G p l e (headSpec wsX0_findFree rmX0_findFree).room s m args below meth c 2 D 55 a (hv_XE a cy) 0 0 (hv_MQ D 55 a (hv_XE a cy) below args s none o) σ 7 [(0, .ref (a 9)), (1, .int (x1))] [] := by
  intro i
  induction i with
  | zero =>
    intro σ x1 h
    cases h
  | succ i ih =>
    intro σ x1 h
    generalize hg : kX0_findFree_7 n i = r7 at ih
    have hr7 := ih
    replace h : kX0_findFree_7_b n r7 σ x1 = some o := by rw [← hg]; exact h
    unfold kX0_findFree_7_b at h
    refine g_iload_n (pc := 7) C 1 dX0_findFree_7 rfl rfl ?_
    refine g_iconst (pc := 8) C (v := (2 : Int32)) dX0_findFree_8 (by decide) ?_
    refine g_aload_n (pc := 9) C 0 dX0_findFree_9 rfl rfl ?_
    refine gx_get_9_0 (pc := 10) C iX0_findFree_X0 qX0_findFree_F23 dX0_findFree_10 ?_
    refine gx_get_1_0 (pc := 13) C iX0_findFree_X3 qX0_findFree_F82 dX0_findFree_13 ?_
    refine g_imul (pc := 16) C dX0_findFree_16 ?_
    refine g_icmp_ge (pc := 17) (tgt := 58) C dX0_findFree_17 (by decide) (fun c17 => ?_) (fun c17 => ?_)
    · rw [if_pos c17] at h
      cases h
      exact g_vret (pc := 58) C hr dX0_findFree_58
    · rw [if_neg c17] at h
      refine g_aload_n (pc := 20) C 0 dX0_findFree_20 rfl rfl ?_
      refine gx_get_9_0 (pc := 21) C iX0_findFree_X0 qX0_findFree_F23 dX0_findFree_21 ?_
      refine gx_get_1_5 (pc := 24) C iX0_findFree_X3 qX0_findFree_F85 dX0_findFree_24 ?_
      refine g_iload_n (pc := 27) C 1 dX0_findFree_27 rfl rfl ?_
      obtain ⟨k28, h⟩ := hv_if_some h
      refine gx_ld_4 (pc := 28) C k28 dX0_findFree_28 ?_
      refine g_if_ne (pc := 29) (tgt := 52) C dX0_findFree_29 (by decide) (fun c29 => ?_) (fun c29 => ?_)
      · rw [if_neg c29] at h
        exact g_lv [0, 1] rfl (bX0_findFree_52 C hr hr7 σ (x1) h)
      · rw [if_pos c29] at h
        refine g_aload_n (pc := 32) C 0 dX0_findFree_32 rfl rfl ?_
        refine gx_get_9_2 (pc := 33) C iX0_findFree_X0 qX0_findFree_F16 dX0_findFree_33 ?_
        refine g_aload_n (pc := 36) C 0 dX0_findFree_36 rfl rfl ?_
        refine gx_get_9_4 (pc := 37) C iX0_findFree_X0 qX0_findFree_F30 dX0_findFree_37 ?_
        refine g_iload_n (pc := 40) C 1 dX0_findFree_40 rfl rfl ?_
        obtain ⟨k41, h⟩ := hv_if_some h
        obtain ⟨s41, es41, h⟩ := hv_let_some h
        refine gx_st_11 (pc := 41) C es41 k41 dX0_findFree_41 ?_
        refine g_aload_n (pc := 42) C 0 dX0_findFree_42 rfl rfl ?_
        refine g_dup (pc := 43) C dX0_findFree_43 rfl ?_
        refine gx_get_9_4 (pc := 44) C iX0_findFree_X0 qX0_findFree_F30 dX0_findFree_44 ?_
        refine g_iconst (pc := 47) C (v := (1 : Int32)) dX0_findFree_47 (by decide) ?_
        refine g_iadd (pc := 48) C dX0_findFree_48 ?_
        obtain ⟨s49, es49, h⟩ := hv_let_some h
        refine gx_put_9_4 (pc := 49) C es49 iX0_findFree_X0 qX0_findFree_F30 dX0_findFree_49 ?_
        exact g_lv [0, 1] rfl (bX0_findFree_52 C hr hr7 s49 (x1) h)
set_option maxHeartbeats 4000000 in
set_option maxRecDepth 20000 in
theorem vX0_findFree {n : Nat} {σ : hv_St} {o : hv_St} (h : mX0_findFree n σ = some o) : hv_M l yX0_findFree wsX0_findFree rmX0_findFree D (hv_tys cy) 55 a (hv_XE a cy) [.ref (a 9)] σ none o := by
  refine hv_enter (own := RX0) (cc := cX0_findFree) (maxL := 2) (ret := none) (by decide) rfl rfl (Nat.le_of_ble_eq_true rfl) ?_
  intro p e s m args below meth c C hr
  unfold mX0_findFree at h
  refine g_lv [0] (lv' := [(0, .ref (a 9))]) rfl ?_
  refine g_aload_n (pc := 0) C 0 dX0_findFree_0 rfl rfl ?_
  refine g_iconst (pc := 1) C (v := (0 : Int32)) dX0_findFree_1 (by decide) ?_
  obtain ⟨s2, es2, h⟩ := hv_let_some h
  refine gx_put_9_4 (pc := 2) C es2 iX0_findFree_X0 qX0_findFree_F30 dX0_findFree_2 ?_
  refine g_iconst (pc := 5) C (v := (0 : Int32)) dX0_findFree_5 (by decide) ?_
  refine g_istore_n (pc := 6) C (lv' := [(1, .int ((0 : Int32))), (0, .ref (a 9))]) rfl dX0_findFree_6 rfl (Nat.le_of_ble_eq_true rfl) rfl ?_
  exact g_lv [1, 0] rfl (bX0_findFree_7 C hr n s2 ((0 : Int32)) h)
abbrev rmX7_has : Room := { frames := 0, cells := 0, slots := 0, locals := 0 }
set_option maxHeartbeats 4000000 in
set_option maxRecDepth 20000 in
theorem vX7_has {n : Nat} {σ : hv_St} {p0 : Int32} {p1 : Int32} {o : Int32 × hv_St} (h : mX7_has n σ p0 p1 = some o) : hv_M l yX7_has wsX7_has rmX7_has D (hv_tys cy) 55 a (hv_XE a cy) [.int (p0), .int (p1)] σ (some (.int o.1)) o.2 := by
  refine hv_enter (own := RX7) (cc := cX7_has) (maxL := 2) (ret := (some .boolean)) (by decide) rfl rfl (Nat.le_of_ble_eq_true rfl) ?_
  intro p e s m args below meth c C hr
  unfold mX7_has at h
  refine g_lv [0, 1] (lv' := [(0, .int (p0)), (1, .int (p1))]) rfl ?_
  refine g_iload_n (pc := 0) C 0 dX7_has_0 rfl rfl ?_
  refine g_iload_n (pc := 1) C 1 dX7_has_1 rfl rfl ?_
  refine g_ishr (pc := 2) C dX7_has_2 ?_
  refine g_iconst (pc := 3) C (v := (1 : Int32)) dX7_has_3 (by decide) ?_
  refine g_iand (pc := 4) C dX7_has_4 ?_
  refine g_iconst (pc := 5) C (v := (1 : Int32)) dX7_has_5 (by decide) ?_
  refine g_icmp_ne (pc := 6) (tgt := 13) C dX7_has_6 (by decide) (fun c6 => ?_) (fun c6 => ?_)
  · rw [if_neg c6] at h
    refine g_iconst (pc := 13) C (v := (0 : Int32)) dX7_has_13 (by decide) ?_
    cases h
    exact g_zret (pc := 14) (x := (0 : Int32)) C hr (by decide) dX7_has_14
  · rw [if_pos c6] at h
    refine g_iconst (pc := 9) C (v := (1 : Int32)) dX7_has_9 (by decide) ?_
    refine g_goto (pc := 10) C (tgt := 14) dX7_has_10 (by decide) ?_
    cases h
    exact g_zret (pc := 14) (x := (1 : Int32)) C hr (by decide) dX7_has_14
abbrev rmX0_swap : Room := { frames := 0, cells := 0, slots := 0, locals := 0 }
set_option maxRecDepth 20000 in
theorem qX0_swap_F11 : Cond.fieldLink RX0 11 "PinFrame$Balance" "rows" "[[J" ∈ wsX0_swap := by decide +kernel
set_option maxRecDepth 20000 in
theorem qX0_swap_F23 : Cond.fieldLink RX0 23 "PinFrame$Balance" "frame" "LPinFrame$Frame;" ∈ wsX0_swap := by decide +kernel
set_option maxRecDepth 20000 in
theorem qX0_swap_F30 : Cond.fieldLink RX0 30 "PinFrame$Balance" "free" "I" ∈ wsX0_swap := by decide +kernel
set_option maxRecDepth 20000 in
theorem qX0_swap_F54 : Cond.fieldLink RX0 54 "PinFrame$Frame" "bars" "I" ∈ wsX0_swap := by decide +kernel
set_option maxRecDepth 20000 in
theorem iX0_swap_X0 : ∀ w ∈ u_ws RX0 TX0 9, w ∈ wsX0_swap := by decide +kernel
set_option maxRecDepth 20000 in
theorem iX0_swap_X3 : ∀ w ∈ u_ws RX3 TX3 10, w ∈ wsX0_swap := by decide +kernel
set_option maxHeartbeats 4000000 in
set_option maxRecDepth 20000 in
theorem bX0_swap_2 (C : hv_C p s m args meth c cX0_swap 6 wsX0_swap RX0 D (hv_tys cy)) (hr : meth.sig.returnType = none) {n : Nat} {o : hv_St} : ∀ (i : Nat) (σ : hv_St) (x1 : Int32) (x2 : Int32) (x3 : Int32), kX0_swap_2 n i σ x1 x2 x3 = some o → hv_G p l e (headSpec wsX0_swap rmX0_swap).room s m args below meth c 6 D 55 a (hv_XE a cy) 0 0 (hv_MQ D 55 a (hv_XE a cy) below args s none o) σ 2 [(0, .ref (a 9)), (1, .int (x1)), (2, .int (x2)), (3, .int (x3))] [] := by
  intro i
  induction i with
  | zero =>
    intro σ x1 x2 x3 h
    cases h
  | succ i ih =>
    intro σ x1 x2 x3 h
    generalize hg : kX0_swap_2 n i = r2 at ih
    have hr2 := ih
    replace h : kX0_swap_2_b n r2 σ x1 x2 x3 = some o := by rw [← hg]; exact h
    unfold kX0_swap_2_b at h
    refine g_iload_n (pc := 2) C 3 dX0_swap_2 rfl rfl ?_
    refine g_aload_n (pc := 3) C 0 dX0_swap_3 rfl rfl ?_
    refine gx_get_9_0 (pc := 4) C iX0_swap_X0 qX0_swap_F23 dX0_swap_4 ?_
    refine gx_get_1_1 (pc := 7) C iX0_swap_X3 qX0_swap_F54 dX0_swap_7 ?_
    refine g_aload_n (pc := 10) C 0 dX0_swap_10 rfl rfl ?_
    refine gx_get_9_4 (pc := 11) C iX0_swap_X0 qX0_swap_F30 dX0_swap_11 ?_
    refine g_iadd (pc := 14) C dX0_swap_14 ?_
    refine g_icmp_ge (pc := 15) (tgt := 60) C dX0_swap_15 (by decide) (fun c15 => ?_) (fun c15 => ?_)
    · rw [if_pos c15] at h
      cases h
      exact g_vret (pc := 60) C hr dX0_swap_60
    · rw [if_neg c15] at h
      refine g_aload_n (pc := 18) C 0 dX0_swap_18 rfl rfl ?_
      refine gx_get_9_1 (pc := 19) C iX0_swap_X0 qX0_swap_F11 dX0_swap_19 ?_
      refine g_iload_n (pc := 22) C 1 dX0_swap_22 rfl rfl ?_
      obtain ⟨k23, h⟩ := hv_if_some h
      refine gx_ld_10 (pc := 23) C k23 dX0_swap_23 ?_
      refine g_iload_n (pc := 24) C 3 dX0_swap_24 rfl rfl ?_
      obtain ⟨k25, h⟩ := hv_if_some h
      refine gx_ldr_27 (pc := 25) C k23 k25 dX0_swap_25 ?_
      obtain ⟨y4_26, ey4_26, h⟩ := hv_let_some h
      refine g_lstore (pc := 26) C (lv' := [(4, .long (y4_26)), (0, .ref (a 9)), (1, .int (x1)), (2, .int (x2)), (3, .int (x3))]) ey4_26 dX0_swap_26 (Nat.le_of_ble_eq_true rfl) rfl ?_
      refine g_aload_n (pc := 28) C 1 dX0_swap_28 rfl rfl ?_
      refine gx_get_9_1 (pc := 29) C iX0_swap_X0 qX0_swap_F11 dX0_swap_29 ?_
      refine g_iload_n (pc := 32) C 2 dX0_swap_32 rfl rfl ?_
      obtain ⟨k33, h⟩ := hv_if_some h
      refine gx_ld_10 (pc := 33) C k33 dX0_swap_33 ?_
      refine g_iload_n (pc := 34) C 4 dX0_swap_34 rfl rfl ?_
      refine g_aload_n (pc := 35) C 1 dX0_swap_35 rfl rfl ?_
      refine gx_get_9_1 (pc := 36) C iX0_swap_X0 qX0_swap_F11 dX0_swap_36 ?_
      refine g_iload_n (pc := 39) C 3 dX0_swap_39 rfl rfl ?_
      obtain ⟨k40, h⟩ := hv_if_some h
      refine gx_ld_10 (pc := 40) C k40 dX0_swap_40 ?_
      refine g_iload_n (pc := 41) C 4 dX0_swap_41 rfl rfl ?_
      obtain ⟨k42, h⟩ := hv_if_some h
      refine gx_ldr_27 (pc := 42) C k40 k42 dX0_swap_42 ?_
      obtain ⟨k43, h⟩ := hv_if_some h
      obtain ⟨s43, es43, h⟩ := hv_let_some h
      refine gx_str_27 (pc := 43) C es43 k33 k43 dX0_swap_43 ?_
      refine g_aload_n (pc := 44) C 1 dX0_swap_44 rfl rfl ?_
      refine gx_get_9_1 (pc := 45) C iX0_swap_X0 qX0_swap_F11 dX0_swap_45 ?_
      refine g_iload_n (pc := 48) C 3 dX0_swap_48 rfl rfl ?_
      obtain ⟨k49, h⟩ := hv_if_some h
      refine gx_ld_10 (pc := 49) C k49 dX0_swap_49 ?_
      refine g_iload_n (pc := 50) C 4 dX0_swap_50 rfl rfl ?_
      refine g_lload (pc := 51) C 0 dX0_swap_51 rfl ?_
      obtain ⟨k53, h⟩ := hv_if_some h
      obtain ⟨s53, es53, h⟩ := hv_let_some h
      refine gx_str_27 (pc := 53) C es53 k49 k53 dX0_swap_53 ?_
      refine g_iinc (pc := 54) C 4 (v := x3 + 1) (lv' := [(3, .int (x3 + 1)), (4, .long (y4_26)), (0, .ref (a 9)), (1, .int (x1)), (2, .int (x2))]) dX0_swap_54 rfl rfl (Nat.le_of_ble_eq_true rfl) rfl ?_
      refine g_goto (pc := 57) C (tgt := 2) dX0_swap_57 (by decide) ?_
      exact g_lv [2, 3, 4, 0] rfl (hr2 s53 (x1) (x2) (x3 + 1) h)
set_option maxHeartbeats 4000000 in
set_option maxRecDepth 20000 in
theorem vX0_swap {n : Nat} {σ : hv_St} {p0 : Int32} {p1 : Int32} {o : hv_St} (h : mX0_swap n σ p0 p1 = some o) : hv_M l yX0_swap wsX0_swap rmX0_swap D (hv_tys cy) 55 a (hv_XE a cy) [.ref (a 9), .int (p0), .int (p1)] σ none o := by
  refine hv_enter (own := RX0) (cc := cX0_swap) (maxL := 6) (ret := none) (by decide) rfl rfl (Nat.le_of_ble_eq_true rfl) ?_
  intro p e s m args below meth c C hr
  unfold mX0_swap at h
  refine g_lv [0, 1, 2] (lv' := [(0, .ref (a 9)), (1, .int (p0)), (2, .int (p1))]) rfl ?_
  refine g_iconst (pc := 0) C (v := (0 : Int32)) dX0_swap_0 (by decide) ?_
  refine g_istore_n (pc := 1) C (lv' := [(3, .int ((0 : Int32))), (0, .ref (a 9)), (1, .int (p0)), (2, .int (p1))]) rfl dX0_swap_1 rfl (Nat.le_of_ble_eq_true rfl) rfl ?_
  exact g_lv [1, 2, 3, 0] rfl (bX0_swap_2 C hr n σ (p0) (p1) ((0 : Int32)) h)
abbrev rmX7_quotient : Room := { frames := 0, cells := 0, slots := 0, locals := 0 }
set_option maxHeartbeats 4000000 in
set_option maxRecDepth 20000 in
theorem vX7_quotient {n : Nat} {σ : hv_St} {p0 : Int64} {p1 : Int64} {o : Int64 × hv_St} (h : mX7_quotient n σ p0 p1 = some o) : hv_M l yX7_quotient wsX7_quotient rmX7_quotient D (hv_tys cy) 55 a (hv_XE a cy) [.long (p0), .long (p1)] σ (some (.long o.1)) o.2 := by
  refine hv_enter (own := RX7) (cc := cX7_quotient) (maxL := 4) (ret := (some .long)) (by decide) rfl rfl (Nat.le_of_ble_eq_true rfl) ?_
  intro p e s m args below meth c C hr
  unfold mX7_quotient at h
  refine g_lv [0, 1] (lv' := [(0, .long (p0)), (2, .long (p1))]) rfl ?_
  refine g_lload_n (pc := 0) C 1 dX7_quotient_0 rfl rfl ?_
  refine g_lconst (pc := 1) C (v := (0 : Int64)) dX7_quotient_1 (by decide) ?_
  refine g_lcmp (pc := 2) C dX7_quotient_2 ?_
  refine g_if_ne (pc := 3) (tgt := 10) C dX7_quotient_3 (by decide) (fun c3 => ?_) (fun c3 => ?_)
  · rw [if_neg c3] at h
    refine g_lload_n (pc := 10) C 0 dX7_quotient_10 rfl rfl ?_
    refine g_lload_n (pc := 11) C 1 dX7_quotient_11 rfl rfl ?_
    obtain ⟨k12, h⟩ := hv_if_some h
    refine g_ldiv (pc := 12) C dX7_quotient_12 (of_decide_eq_true k12) ?_
    cases h
    exact g_lret (pc := 13) C hr dX7_quotient_13
  · rw [if_pos c3] at h
    refine g_lconst (pc := 6) C (v := (0 : Int64)) dX7_quotient_6 (by decide) ?_
    refine g_goto (pc := 7) C (tgt := 13) dX7_quotient_7 (by decide) ?_
    cases h
    exact g_lret (pc := 13) C hr dX7_quotient_13
abbrev rmX0_clearColumn : Room := { frames := 1, cells := 0, slots := 0, locals := 23 }
set_option maxRecDepth 20000 in
theorem qX0_clearColumn_F11 : Cond.fieldLink RX0 11 "PinFrame$Balance" "rows" "[[J" ∈ wsX0_clearColumn := by decide +kernel
set_option maxRecDepth 20000 in
theorem qX0_clearColumn_F23 : Cond.fieldLink RX0 23 "PinFrame$Balance" "frame" "LPinFrame$Frame;" ∈ wsX0_clearColumn := by decide +kernel
set_option maxRecDepth 20000 in
theorem qX0_clearColumn_F30 : Cond.fieldLink RX0 30 "PinFrame$Balance" "free" "I" ∈ wsX0_clearColumn := by decide +kernel
set_option maxRecDepth 20000 in
theorem qX0_clearColumn_F47 : Cond.fieldLink RX0 47 "PinFrame$Balance" "scale" "J" ∈ wsX0_clearColumn := by decide +kernel
set_option maxRecDepth 20000 in
theorem qX0_clearColumn_F54 : Cond.fieldLink RX0 54 "PinFrame$Frame" "bars" "I" ∈ wsX0_clearColumn := by decide +kernel
set_option maxRecDepth 20000 in
theorem qX0_clearColumn_NI_X7_quotient : Cond.initialized RX7 ∈ wsX0_clearColumn := by decide +kernel
set_option maxRecDepth 20000 in
theorem qX0_clearColumn_NS_X7_quotient : Cond.static yX7_quotient ∈ wsX0_clearColumn := by decide +kernel
set_option maxRecDepth 20000 in
theorem iX0_clearColumn_X0 : ∀ w ∈ u_ws RX0 TX0 9, w ∈ wsX0_clearColumn := by decide +kernel
set_option maxRecDepth 20000 in
theorem iX0_clearColumn_X3 : ∀ w ∈ u_ws RX3 TX3 10, w ∈ wsX0_clearColumn := by decide +kernel
set_option maxHeartbeats 4000000 in
set_option maxRecDepth 20000 in
theorem bX0_clearColumn_113 (C : hv_C p s m args meth c cX0_clearColumn 11 wsX0_clearColumn RX0 D (hv_tys cy)) (hr : meth.sig.returnType = none) {n : Nat} {o : hv_St} {r12 : hv_St → Int32 → Int32 → Int64 → Int32 → Option (hv_St)} (hr12 : ∀ (σ : hv_St) (x1 : Int32) (x2 : Int32) (x3 : Int64) (x5 : Int32), r12 σ x1 x2 x3 x5 = some o → hv_G p l e (headSpec wsX0_clearColumn rmX0_clearColumn).room s m args below meth c 11 D 55 a (hv_XE a cy) 0 0 (hv_MQ D 55 a (hv_XE a cy) below args s none o) σ 12 [(0, .ref (a 9)), (1, .int (x1)), (2, .int (x2)), (3, .long (x3)), (5, .int (x5))] []) : ∀ (σ : hv_St) (x1 : Int32) (x2 : Int32) (x3 : Int64) (x5 : Int32), kX0_clearColumn_113 n r12 σ x1 x2 x3 x5 = some o → hv_G p l e (headSpec wsX0_clearColumn rmX0_clearColumn).room s m args below meth c 11 D 55 a (hv_XE a cy) 0 0 (hv_MQ D 55 a (hv_XE a cy) below args s none o) σ 113 [(0, .ref (a 9)), (1, .int (x1)), (2, .int (x2)), (3, .long (x3)), (5, .int (x5))] [] := by
  intro σ x1 x2 x3 x5 h
  unfold kX0_clearColumn_113 at h
  refine g_iinc (pc := 113) C 4 (v := x5 + 1) (lv' := [(5, .int (x5 + 1)), (0, .ref (a 9)), (1, .int (x1)), (2, .int (x2)), (3, .long (x3))]) dX0_clearColumn_113 rfl rfl (Nat.le_of_ble_eq_true rfl) rfl ?_
  refine g_goto (pc := 116) C (tgt := 12) dX0_clearColumn_116 (by decide) ?_
  exact g_lv [1, 2, 3, 4, 0] rfl (hr12 σ (x1) (x2) (x3) (x5 + 1) h)
set_option maxHeartbeats 4000000 in
set_option maxRecDepth 20000 in
theorem bX0_clearColumn_44 (C : hv_C p s m args meth c cX0_clearColumn 11 wsX0_clearColumn RX0 D (hv_tys cy)) (hr : meth.sig.returnType = none) {n : Nat} {o : hv_St} {r12 : hv_St → Int32 → Int32 → Int64 → Int32 → Option (hv_St)} (hr12 : ∀ (σ : hv_St) (x1 : Int32) (x2 : Int32) (x3 : Int64) (x5 : Int32), r12 σ x1 x2 x3 x5 = some o → hv_G p l e (headSpec wsX0_clearColumn rmX0_clearColumn).room s m args below meth c 11 D 55 a (hv_XE a cy) 0 0 (hv_MQ D 55 a (hv_XE a cy) below args s none o) σ 12 [(0, .ref (a 9)), (1, .int (x1)), (2, .int (x2)), (3, .long (x3)), (5, .int (x5))] []) : ∀ (i : Nat) (σ : hv_St) (x1 : Int32) (x2 : Int32) (x3 : Int64) (x5 : Int32) (x6 : Int64) (x8 : Int32), kX0_clearColumn_44 n r12 i σ x1 x2 x3 x5 x6 x8 = some o → hv_G p l e (headSpec wsX0_clearColumn rmX0_clearColumn).room s m args below meth c 11 D 55 a (hv_XE a cy) 0 0 (hv_MQ D 55 a (hv_XE a cy) below args s none o) σ 44 [(0, .ref (a 9)), (1, .int (x1)), (2, .int (x2)), (3, .long (x3)), (5, .int (x5)), (6, .long (x6)), (8, .int (x8))] [] := by
  intro i
  induction i with
  | zero =>
    intro σ x1 x2 x3 x5 x6 x8 h
    cases h
  | succ i ih =>
    intro σ x1 x2 x3 x5 x6 x8 h
    generalize hg : kX0_clearColumn_44 n r12 i = r44 at ih
    have hr44 := ih
    replace h : kX0_clearColumn_44_b n r12 r44 σ x1 x2 x3 x5 x6 x8 = some o := by rw [← hg]; exact h
    unfold kX0_clearColumn_44_b at h
    refine g_iload (pc := 44) C 6 dX0_clearColumn_44 rfl ?_
    refine g_aload_n (pc := 46) C 0 dX0_clearColumn_46 rfl rfl ?_
    refine gx_get_9_0 (pc := 47) C iX0_clearColumn_X0 qX0_clearColumn_F23 dX0_clearColumn_47 ?_
    refine gx_get_1_1 (pc := 50) C iX0_clearColumn_X3 qX0_clearColumn_F54 dX0_clearColumn_50 ?_
    refine g_aload_n (pc := 53) C 0 dX0_clearColumn_53 rfl rfl ?_
    refine gx_get_9_4 (pc := 54) C iX0_clearColumn_X0 qX0_clearColumn_F30 dX0_clearColumn_54 ?_
    refine g_iadd (pc := 57) C dX0_clearColumn_57 ?_
    refine g_icmp_ge (pc := 58) (tgt := 113) C dX0_clearColumn_58 (by decide) (fun c58 => ?_) (fun c58 => ?_)
    · rw [if_pos c58] at h
      exact g_lv [0, 1, 2, 3, 4] rfl (bX0_clearColumn_113 C hr hr12 σ (x1) (x2) (x3) (x5) h)
    · rw [if_neg c58] at h
      refine g_lload_n (pc := 61) C 3 dX0_clearColumn_61 rfl rfl ?_
      refine g_aload_n (pc := 62) C 0 dX0_clearColumn_62 rfl rfl ?_
      refine gx_get_9_1 (pc := 63) C iX0_clearColumn_X0 qX0_clearColumn_F11 dX0_clearColumn_63 ?_
      refine g_iload (pc := 66) C 4 dX0_clearColumn_66 rfl ?_
      obtain ⟨k68, h⟩ := hv_if_some h
      refine gx_ld_10 (pc := 68) C k68 dX0_clearColumn_68 ?_
      refine g_iload (pc := 69) C 6 dX0_clearColumn_69 rfl ?_
      obtain ⟨k71, h⟩ := hv_if_some h
      refine gx_ldr_27 (pc := 71) C k68 k71 dX0_clearColumn_71 ?_
      refine g_lmul (pc := 72) C dX0_clearColumn_72 ?_
      refine g_lload (pc := 73) C 5 dX0_clearColumn_73 rfl ?_
      refine g_aload_n (pc := 75) C 0 dX0_clearColumn_75 rfl rfl ?_
      refine gx_get_9_1 (pc := 76) C iX0_clearColumn_X0 qX0_clearColumn_F11 dX0_clearColumn_76 ?_
      refine g_iload_n (pc := 79) C 2 dX0_clearColumn_79 rfl rfl ?_
      obtain ⟨k80, h⟩ := hv_if_some h
      refine gx_ld_10 (pc := 80) C k80 dX0_clearColumn_80 ?_
      refine g_iload (pc := 81) C 6 dX0_clearColumn_81 rfl ?_
      obtain ⟨k83, h⟩ := hv_if_some h
      refine gx_ldr_27 (pc := 83) C k80 k83 dX0_clearColumn_83 ?_
      refine g_lmul (pc := 84) C dX0_clearColumn_84 ?_
      refine g_lsub (pc := 85) C dX0_clearColumn_85 ?_
      obtain ⟨y9_86, ey9_86, h⟩ := hv_let_some h
      refine g_lstore (pc := 86) C (lv' := [(9, .long (y9_86)), (0, .ref (a 9)), (1, .int (x1)), (2, .int (x2)), (3, .long (x3)), (5, .int (x5)), (6, .long (x6)), (8, .int (x8))]) ey9_86 dX0_clearColumn_86 (Nat.le_of_ble_eq_true rfl) rfl ?_
      refine g_aload_n (pc := 88) C 1 dX0_clearColumn_88 rfl rfl ?_
      refine gx_get_9_1 (pc := 89) C iX0_clearColumn_X0 qX0_clearColumn_F11 dX0_clearColumn_89 ?_
      refine g_iload (pc := 92) C 5 dX0_clearColumn_92 rfl ?_
      obtain ⟨k94, h⟩ := hv_if_some h
      refine gx_ld_10 (pc := 94) C k94 dX0_clearColumn_94 ?_
      refine g_iload (pc := 95) C 7 dX0_clearColumn_95 rfl ?_
      refine g_lload (pc := 97) C 0 dX0_clearColumn_97 rfl ?_
      refine g_aload_n (pc := 99) C 1 dX0_clearColumn_99 rfl rfl ?_
      refine gx_get_9_8 (pc := 100) C iX0_clearColumn_X0 qX0_clearColumn_F47 dX0_clearColumn_100 ?_
      obtain ⟨r103, s103, hc103, h⟩ := hv_b2_some h
      refine g_callSN (pc := 103) (σ1 := s103) (v := (some (.long (r103)))) (As := [.long (y9_86), .long (σ.2 9 8)]) (rest := [.int (x8), .ref (a (27 + (x5).toNatClampNeg))]) C (vX7_quotient hc103) (va_cnB 2 C.1.2.2.2.2 gX0_clearColumn_X7_quotient_n99 rfl rfl rfl (C.2.1.2 _ (List.mem_of_getElem? (i := 6) rfl)) (C.1.2.2.2.2 _ qX0_clearColumn_NI_X7_quotient) (by decide +kernel) ⟨Nat.le_of_ble_eq_true rfl, Nat.le_of_ble_eq_true rfl⟩) qX0_clearColumn_NS_X7_quotient rfl rfl (Nat.le_of_ble_eq_true rfl) dX0_clearColumn_103 ⟨Nat.zero_le _, Nat.zero_le _⟩ ?_
      refine g_st (st' := [.long (r103), .int (x8), .ref (a (27 + (x5).toNatClampNeg))]) rfl ?_
      obtain ⟨k106, h⟩ := hv_if_some h
      obtain ⟨s106, es106, h⟩ := hv_let_some h
      refine gx_str_27 (pc := 106) C es106 k94 k106 dX0_clearColumn_106 ?_
      refine g_iinc (pc := 107) C 7 (v := x8 + 1) (lv' := [(8, .int (x8 + 1)), (9, .long (y9_86)), (0, .ref (a 9)), (1, .int (x1)), (2, .int (x2)), (3, .long (x3)), (5, .int (x5)), (6, .long (x6))]) dX0_clearColumn_107 rfl rfl (Nat.le_of_ble_eq_true rfl) rfl ?_
      refine g_goto (pc := 110) C (tgt := 44) dX0_clearColumn_110 (by decide) ?_
      exact g_lv [2, 3, 4, 5, 6, 7, 0] rfl (hr44 s106 (x1) (x2) (x3) (x5) (x6) (x8 + 1) h)
set_option maxHeartbeats 4000000 in
set_option maxRecDepth 20000 in
theorem bX0_clearColumn_12 (C : hv_C p s m args meth c cX0_clearColumn 11 wsX0_clearColumn RX0 D (hv_tys cy)) (hr : meth.sig.returnType = none) {n : Nat} {o : hv_St} : ∀ (i : Nat) (σ : hv_St) (x1 : Int32) (x2 : Int32) (x3 : Int64) (x5 : Int32), kX0_clearColumn_12 n i σ x1 x2 x3 x5 = some o → hv_G p l e (headSpec wsX0_clearColumn rmX0_clearColumn).room s m args below meth c 11 D 55 a (hv_XE a cy) 0 0 (hv_MQ D 55 a (hv_XE a cy) below args s none o) σ 12 [(0, .ref (a 9)), (1, .int (x1)), (2, .int (x2)), (3, .long (x3)), (5, .int (x5))] [] := by
  intro i
  induction i with
  | zero =>
    intro σ x1 x2 x3 x5 h
    cases h
  | succ i ih =>
    intro σ x1 x2 x3 x5 h
    generalize hg : kX0_clearColumn_12 n i = r12 at ih
    have hr12 := ih
    replace h : kX0_clearColumn_12_b n r12 σ x1 x2 x3 x5 = some o := by rw [← hg]; exact h
    unfold kX0_clearColumn_12_b at h
    refine g_iload (pc := 12) C 4 dX0_clearColumn_12 rfl ?_
    refine g_aload_n (pc := 14) C 0 dX0_clearColumn_14 rfl rfl ?_
    refine gx_get_9_4 (pc := 15) C iX0_clearColumn_X0 qX0_clearColumn_F30 dX0_clearColumn_15 ?_
    refine g_icmp_ge (pc := 18) (tgt := 119) C dX0_clearColumn_18 (by decide) (fun c18 => ?_) (fun c18 => ?_)
    · rw [if_pos c18] at h
      refine g_aload_n (pc := 119) C 0 dX0_clearColumn_119 rfl rfl ?_
      refine g_lload_n (pc := 120) C 3 dX0_clearColumn_120 rfl rfl ?_
      obtain ⟨s121, es121, h⟩ := hv_let_some h
      refine gx_put_9_8 (pc := 121) C es121 iX0_clearColumn_X0 qX0_clearColumn_F47 dX0_clearColumn_121 ?_
      cases h
      exact g_vret (pc := 124) C hr dX0_clearColumn_124
    · rw [if_neg c18] at h
      refine g_iload (pc := 21) C 4 dX0_clearColumn_21 rfl ?_
      refine g_iload_n (pc := 23) C 2 dX0_clearColumn_23 rfl rfl ?_
      refine g_icmp_ne (pc := 24) (tgt := 30) C dX0_clearColumn_24 (by decide) (fun c24 => ?_) (fun c24 => ?_)
      · rw [if_neg c24] at h
        refine g_aload_n (pc := 30) C 0 dX0_clearColumn_30 rfl rfl ?_
        refine gx_get_9_1 (pc := 31) C iX0_clearColumn_X0 qX0_clearColumn_F11 dX0_clearColumn_31 ?_
        refine g_iload (pc := 34) C 4 dX0_clearColumn_34 rfl ?_
        obtain ⟨k36, h⟩ := hv_if_some h
        refine gx_ld_10 (pc := 36) C k36 dX0_clearColumn_36 ?_
        refine g_iload_n (pc := 37) C 1 dX0_clearColumn_37 rfl rfl ?_
        obtain ⟨k38, h⟩ := hv_if_some h
        refine gx_ldr_27 (pc := 38) C k36 k38 dX0_clearColumn_38 ?_
        obtain ⟨y6_39, ey6_39, h⟩ := hv_let_some h
        refine g_lstore (pc := 39) C (lv' := [(6, .long (y6_39)), (0, .ref (a 9)), (1, .int (x1)), (2, .int (x2)), (3, .long (x3)), (5, .int (x5))]) ey6_39 dX0_clearColumn_39 (Nat.le_of_ble_eq_true rfl) rfl ?_
        refine g_iconst (pc := 41) C (v := (0 : Int32)) dX0_clearColumn_41 (by decide) ?_
        refine g_istore (pc := 42) C (lv' := [(8, .int ((0 : Int32))), (6, .long (y6_39)), (0, .ref (a 9)), (1, .int (x1)), (2, .int (x2)), (3, .long (x3)), (5, .int (x5))]) rfl dX0_clearColumn_42 (Nat.le_of_ble_eq_true rfl) rfl ?_
        exact g_lv [2, 3, 4, 5, 6, 1, 0] rfl (bX0_clearColumn_44 C hr hr12 n σ (x1) (x2) (x3) (x5) (y6_39) ((0 : Int32)) h)
      · rw [if_pos c24] at h
        refine g_goto (pc := 27) C (tgt := 113) dX0_clearColumn_27 (by decide) ?_
        exact g_lv [0, 1, 2, 3, 4] rfl (bX0_clearColumn_113 C hr hr12 σ (x1) (x2) (x3) (x5) h)
set_option maxHeartbeats 4000000 in
set_option maxRecDepth 20000 in
theorem vX0_clearColumn {n : Nat} {σ : hv_St} {p0 : Int32} {p1 : Int32} {o : hv_St} (h : mX0_clearColumn n σ p0 p1 = some o) : hv_M l yX0_clearColumn wsX0_clearColumn rmX0_clearColumn D (hv_tys cy) 55 a (hv_XE a cy) [.ref (a 9), .int (p0), .int (p1)] σ none o := by
  refine hv_enter (own := RX0) (cc := cX0_clearColumn) (maxL := 11) (ret := none) (by decide) rfl rfl (Nat.le_of_ble_eq_true rfl) ?_
  intro p e s m args below meth c C hr
  unfold mX0_clearColumn at h
  refine g_lv [0, 1, 2] (lv' := [(0, .ref (a 9)), (1, .int (p0)), (2, .int (p1))]) rfl ?_
  refine g_aload_n (pc := 0) C 0 dX0_clearColumn_0 rfl rfl ?_
  refine gx_get_9_1 (pc := 1) C iX0_clearColumn_X0 qX0_clearColumn_F11 dX0_clearColumn_1 ?_
  refine g_iload_n (pc := 4) C 2 dX0_clearColumn_4 rfl rfl ?_
  obtain ⟨k5, h⟩ := hv_if_some h
  refine gx_ld_10 (pc := 5) C k5 dX0_clearColumn_5 ?_
  refine g_iload_n (pc := 6) C 1 dX0_clearColumn_6 rfl rfl ?_
  obtain ⟨k7, h⟩ := hv_if_some h
  refine gx_ldr_27 (pc := 7) C k5 k7 dX0_clearColumn_7 ?_
  obtain ⟨y3_8, ey3_8, h⟩ := hv_let_some h
  refine g_lstore_n (pc := 8) C (lv' := [(3, .long (y3_8)), (0, .ref (a 9)), (1, .int (p0)), (2, .int (p1))]) ey3_8 dX0_clearColumn_8 rfl (Nat.le_of_ble_eq_true rfl) rfl ?_
  refine g_iconst (pc := 9) C (v := (0 : Int32)) dX0_clearColumn_9 (by decide) ?_
  refine g_istore (pc := 10) C (lv' := [(5, .int ((0 : Int32))), (3, .long (y3_8)), (0, .ref (a 9)), (1, .int (p0)), (2, .int (p1))]) rfl dX0_clearColumn_10 (Nat.le_of_ble_eq_true rfl) rfl ?_
  exact g_lv [2, 3, 4, 1, 0] rfl (bX0_clearColumn_12 C hr n σ (p0) (p1) (y3_8) ((0 : Int32)) h)
abbrev rmX0_take : Room := { frames := 2, cells := 0, slots := 0, locals := 53 }
set_option maxRecDepth 20000 in
theorem qX0_take_F11 : Cond.fieldLink RX0 11 "PinFrame$Balance" "rows" "[[J" ∈ wsX0_take := by decide +kernel
set_option maxRecDepth 20000 in
theorem qX0_take_F20 : Cond.fieldLink RX0 20 "PinFrame$Balance" "baseBar" "[I" ∈ wsX0_take := by decide +kernel
set_option maxRecDepth 20000 in
theorem qX0_take_F30 : Cond.fieldLink RX0 30 "PinFrame$Balance" "free" "I" ∈ wsX0_take := by decide +kernel
set_option maxRecDepth 20000 in
theorem qX0_take_F38 : Cond.fieldLink RX0 38 "PinFrame$Balance" "rank" "I" ∈ wsX0_take := by decide +kernel
set_option maxRecDepth 20000 in
theorem qX0_take_F41 : Cond.fieldLink RX0 41 "PinFrame$Balance" "base" "I" ∈ wsX0_take := by decide +kernel
set_option maxRecDepth 20000 in
theorem qX0_take_F44 : Cond.fieldLink RX0 44 "PinFrame$Balance" "spare" "I" ∈ wsX0_take := by decide +kernel
set_option maxRecDepth 20000 in
theorem iX0_take_X0 : ∀ w ∈ u_ws RX0 TX0 9, w ∈ wsX0_take := by decide +kernel
set_option maxHeartbeats 4000000 in
set_option maxRecDepth 20000 in
theorem bX0_take_32 (C : hv_C p s m args meth c cX0_take 3 wsX0_take RX0 D (hv_tys cy)) (hr : meth.sig.returnType = none) {n : Nat} {o : hv_St} : ∀ (σ : hv_St) (x1 : Int32) (x2 : Int32), kX0_take_32 n σ x1 x2 = some o → hv_G p l e (headSpec wsX0_take rmX0_take).room s m args below meth c 3 D 55 a (hv_XE a cy) 0 0 (hv_MQ D 55 a (hv_XE a cy) below args s none o) σ 32 [(0, .ref (a 9)), (1, .int (x1)), (2, .int (x2))] [] := by
  intro σ x1 x2 h
  unfold kX0_take_32 at h
  refine g_iload_n (pc := 32) C 2 dX0_take_32 rfl rfl ?_
  refine g_aload_n (pc := 33) C 0 dX0_take_33 rfl rfl ?_
  refine gx_get_9_4 (pc := 34) C iX0_take_X0 qX0_take_F30 dX0_take_34 ?_
  refine g_icmp_ne (pc := 37) (tgt := 53) C dX0_take_37 (by decide) (fun c37 => ?_) (fun c37 => ?_)
  · rw [if_neg c37] at h
    refine g_aload_n (pc := 53) C 0 dX0_take_53 rfl rfl ?_
    refine g_iload_n (pc := 54) C 2 dX0_take_54 rfl rfl ?_
    refine g_aload_n (pc := 55) C 0 dX0_take_55 rfl rfl ?_
    refine gx_get_9_5 (pc := 56) C iX0_take_X0 qX0_take_F38 dX0_take_56 ?_
    obtain ⟨s59, hc59, h⟩ := hv_bd_some h
    refine g_callV (pc := 59) (σ1 := s59) (v := none) (As := [.int (x2), .int (σ.1 9 5)]) (rest := []) C 9 (vX0_swap hc59) (cwV 2 C.1.2.2.2.2 gX0_take_X0_swap rfl rfl rfl (by decide +kernel) ⟨Nat.le_of_ble_eq_true rfl, Nat.le_of_ble_eq_true rfl⟩) (Nat.le_of_ble_eq_true rfl) rfl rfl rfl rfl (Nat.le_of_ble_eq_true rfl) dX0_take_59 ⟨Nat.zero_le _, Nat.zero_le _⟩ ?_
    refine g_st (st' := []) rfl ?_
    refine g_aload_n (pc := 62) C 0 dX0_take_62 rfl rfl ?_
    refine g_iload_n (pc := 63) C 1 dX0_take_63 rfl rfl ?_
    refine g_aload_n (pc := 64) C 0 dX0_take_64 rfl rfl ?_
    refine gx_get_9_5 (pc := 65) C iX0_take_X0 qX0_take_F38 dX0_take_65 ?_
    obtain ⟨s68, hc68, h⟩ := hv_bd_some h
    refine g_callV (pc := 68) (σ1 := s68) (v := none) (As := [.int (x1), .int (s59.1 9 5)]) (rest := []) C 9 (vX0_clearColumn hc68) (cwV 2 C.1.2.2.2.2 gX0_take_X0_clearColumn rfl rfl rfl (by decide +kernel) ⟨Nat.le_of_ble_eq_true rfl, Nat.le_of_ble_eq_true rfl⟩) (Nat.le_of_ble_eq_true rfl) rfl rfl rfl rfl (Nat.le_of_ble_eq_true rfl) dX0_take_68 ⟨Nat.zero_le _, Nat.zero_le _⟩ ?_
    refine g_st (st' := []) rfl ?_
    refine g_aload_n (pc := 71) C 0 dX0_take_71 rfl rfl ?_
    refine gx_get_9_3 (pc := 72) C iX0_take_X0 qX0_take_F20 dX0_take_72 ?_
    refine g_aload_n (pc := 75) C 0 dX0_take_75 rfl rfl ?_
    refine gx_get_9_5 (pc := 76) C iX0_take_X0 qX0_take_F38 dX0_take_76 ?_
    refine g_iload_n (pc := 79) C 1 dX0_take_79 rfl rfl ?_
    obtain ⟨k80, h⟩ := hv_if_some h
    obtain ⟨s80, es80, h⟩ := hv_let_some h
    refine gx_st_12 (pc := 80) C es80 k80 dX0_take_80 ?_
    refine g_aload_n (pc := 81) C 0 dX0_take_81 rfl rfl ?_
    refine g_dup (pc := 82) C dX0_take_82 rfl ?_
    refine gx_get_9_6 (pc := 83) C iX0_take_X0 qX0_take_F41 dX0_take_83 ?_
    refine g_iconst (pc := 86) C (v := (1 : Int32)) dX0_take_86 (by decide) ?_
    refine g_iload_n (pc := 87) C 1 dX0_take_87 rfl rfl ?_
    refine g_ishl (pc := 88) C dX0_take_88 ?_
    refine g_ior (pc := 89) C dX0_take_89 ?_
    obtain ⟨s90, es90, h⟩ := hv_let_some h
    refine gx_put_9_6 (pc := 90) C es90 iX0_take_X0 qX0_take_F41 dX0_take_90 ?_
    refine g_aload_n (pc := 93) C 0 dX0_take_93 rfl rfl ?_
    refine g_dup (pc := 94) C dX0_take_94 rfl ?_
    refine gx_get_9_5 (pc := 95) C iX0_take_X0 qX0_take_F38 dX0_take_95 ?_
    refine g_iconst (pc := 98) C (v := (1 : Int32)) dX0_take_98 (by decide) ?_
    refine g_iadd (pc := 99) C dX0_take_99 ?_
    obtain ⟨s100, es100, h⟩ := hv_let_some h
    refine gx_put_9_5 (pc := 100) C es100 iX0_take_X0 qX0_take_F38 dX0_take_100 ?_
    cases h
    exact g_vret (pc := 103) C hr dX0_take_103
  · rw [if_pos c37] at h
    refine g_aload_n (pc := 40) C 0 dX0_take_40 rfl rfl ?_
    refine g_dup (pc := 41) C dX0_take_41 rfl ?_
    refine gx_get_9_7 (pc := 42) C iX0_take_X0 qX0_take_F44 dX0_take_42 ?_
    refine g_iconst (pc := 45) C (v := (1 : Int32)) dX0_take_45 (by decide) ?_
    refine g_iload_n (pc := 46) C 1 dX0_take_46 rfl rfl ?_
    refine g_ishl (pc := 47) C dX0_take_47 ?_
    refine g_ior (pc := 48) C dX0_take_48 ?_
    obtain ⟨s49, es49, h⟩ := hv_let_some h
    refine gx_put_9_7 (pc := 49) C es49 iX0_take_X0 qX0_take_F44 dX0_take_49 ?_
    cases h
    exact g_vret (pc := 52) C hr dX0_take_52
set_option maxHeartbeats 4000000 in
set_option maxRecDepth 20000 in
theorem bX0_take_5 (C : hv_C p s m args meth c cX0_take 3 wsX0_take RX0 D (hv_tys cy)) (hr : meth.sig.returnType = none) {n : Nat} {o : hv_St} : ∀ (i : Nat) (σ : hv_St) (x1 : Int32) (x2 : Int32), kX0_take_5 n i σ x1 x2 = some o → hv_G p l e (headSpec wsX0_take rmX0_take).room s m args below meth c 3 D 55 a (hv_XE a cy) 0 0 (hv_MQ D 55 a (hv_XE a cy) below args s none o) σ 5 [(0, .ref (a 9)), (1, .int (x1)), (2, .int (x2))] [] := by
  intro i
  induction i with
  | zero =>
    intro σ x1 x2 h
    cases h
  | succ i ih =>
    intro σ x1 x2 h
    generalize hg : kX0_take_5 n i = r5 at ih
    have hr5 := ih
    replace h : kX0_take_5_b n r5 σ x1 x2 = some o := by rw [← hg]; exact h
    unfold kX0_take_5_b at h
    refine g_iload_n (pc := 5) C 2 dX0_take_5 rfl rfl ?_
    refine g_aload_n (pc := 6) C 0 dX0_take_6 rfl rfl ?_
    refine gx_get_9_4 (pc := 7) C iX0_take_X0 qX0_take_F30 dX0_take_7 ?_
    refine g_icmp_ge (pc := 10) (tgt := 32) C dX0_take_10 (by decide) (fun c10 => ?_) (fun c10 => ?_)
    · rw [if_pos c10] at h
      exact g_lv [0, 1, 2] rfl (bX0_take_32 C hr σ (x1) (x2) h)
    · rw [if_neg c10] at h
      refine g_aload_n (pc := 13) C 0 dX0_take_13 rfl rfl ?_
      refine gx_get_9_1 (pc := 14) C iX0_take_X0 qX0_take_F11 dX0_take_14 ?_
      refine g_iload_n (pc := 17) C 2 dX0_take_17 rfl rfl ?_
      obtain ⟨k18, h⟩ := hv_if_some h
      refine gx_ld_10 (pc := 18) C k18 dX0_take_18 ?_
      refine g_iload_n (pc := 19) C 1 dX0_take_19 rfl rfl ?_
      obtain ⟨k20, h⟩ := hv_if_some h
      refine gx_ldr_27 (pc := 20) C k18 k20 dX0_take_20 ?_
      refine g_lconst (pc := 21) C (v := (0 : Int64)) dX0_take_21 (by decide) ?_
      refine g_lcmp (pc := 22) C dX0_take_22 ?_
      refine g_if_ne (pc := 23) (tgt := 32) C dX0_take_23 (by decide) (fun c23 => ?_) (fun c23 => ?_)
      · rw [if_neg c23] at h
        exact g_lv [0, 1, 2] rfl (bX0_take_32 C hr σ (x1) (x2) h)
      · rw [if_pos c23] at h
        refine g_iinc (pc := 26) C 2 (v := x2 + 1) (lv' := [(2, .int (x2 + 1)), (0, .ref (a 9)), (1, .int (x1))]) dX0_take_26 rfl rfl (Nat.le_of_ble_eq_true rfl) rfl ?_
        refine g_goto (pc := 29) C (tgt := 5) dX0_take_29 (by decide) ?_
        exact g_lv [1, 2, 0] rfl (hr5 σ (x1) (x2 + 1) h)
set_option maxHeartbeats 4000000 in
set_option maxRecDepth 20000 in
theorem vX0_take {n : Nat} {σ : hv_St} {p0 : Int32} {o : hv_St} (h : mX0_take n σ p0 = some o) : hv_M l yX0_take wsX0_take rmX0_take D (hv_tys cy) 55 a (hv_XE a cy) [.ref (a 9), .int (p0)] σ none o := by
  refine hv_enter (own := RX0) (cc := cX0_take) (maxL := 3) (ret := none) (by decide) rfl rfl (Nat.le_of_ble_eq_true rfl) ?_
  intro p e s m args below meth c C hr
  unfold mX0_take at h
  refine g_lv [0, 1] (lv' := [(0, .ref (a 9)), (1, .int (p0))]) rfl ?_
  refine g_aload_n (pc := 0) C 0 dX0_take_0 rfl rfl ?_
  refine gx_get_9_5 (pc := 1) C iX0_take_X0 qX0_take_F38 dX0_take_1 ?_
  obtain ⟨y2_4, ey2_4, h⟩ := hv_let_some h
  refine g_istore_n (pc := 4) C (lv' := [(2, .int (y2_4)), (0, .ref (a 9)), (1, .int (p0))]) ey2_4 dX0_take_4 rfl (Nat.le_of_ble_eq_true rfl) rfl ?_
  exact g_lv [1, 2, 0] rfl (bX0_take_5 C hr n σ (p0) (y2_4) h)
abbrev rmX0_extend : Room := { frames := 3, cells := 0, slots := 0, locals := 75 }
set_option maxRecDepth 20000 in
theorem qX0_extend_F23 : Cond.fieldLink RX0 23 "PinFrame$Balance" "frame" "LPinFrame$Frame;" ∈ wsX0_extend := by decide +kernel
set_option maxRecDepth 20000 in
theorem qX0_extend_F54 : Cond.fieldLink RX0 54 "PinFrame$Frame" "bars" "I" ∈ wsX0_extend := by decide +kernel
set_option maxRecDepth 20000 in
theorem qX0_extend_NI_X7_has : Cond.initialized RX7 ∈ wsX0_extend := by decide +kernel
set_option maxRecDepth 20000 in
theorem qX0_extend_NS_X7_has : Cond.static yX7_has ∈ wsX0_extend := by decide +kernel
set_option maxRecDepth 20000 in
theorem iX0_extend_X0 : ∀ w ∈ u_ws RX0 TX0 9, w ∈ wsX0_extend := by decide +kernel
set_option maxRecDepth 20000 in
theorem iX0_extend_X3 : ∀ w ∈ u_ws RX3 TX3 10, w ∈ wsX0_extend := by decide +kernel
set_option maxHeartbeats 4000000 in
set_option maxRecDepth 20000 in
theorem bX0_extend_26 (C : hv_C p s m args meth c cX0_extend 3 wsX0_extend RX0 D (hv_tys cy)) (hr : meth.sig.returnType = none) {n : Nat} {o : hv_St} {r2 : hv_St → Int32 → Int32 → Option (hv_St)} (hr2 : ∀ (σ : hv_St) (x1 : Int32) (x2 : Int32), r2 σ x1 x2 = some o → hv_G p l e (headSpec wsX0_extend rmX0_extend).room s m args below meth c 3 D 55 a (hv_XE a cy) 0 0 (hv_MQ D 55 a (hv_XE a cy) below args s none o) σ 2 [(0, .ref (a 9)), (1, .int (x1)), (2, .int (x2))] []) : ∀ (σ : hv_St) (x1 : Int32) (x2 : Int32), kX0_extend_26 n r2 σ x1 x2 = some o → hv_G p l e (headSpec wsX0_extend rmX0_extend).room s m args below meth c 3 D 55 a (hv_XE a cy) 0 0 (hv_MQ D 55 a (hv_XE a cy) below args s none o) σ 26 [(0, .ref (a 9)), (1, .int (x1)), (2, .int (x2))] [] := by
  intro σ x1 x2 h
  unfold kX0_extend_26 at h
  refine g_iinc (pc := 26) C 2 (v := x2 + 1) (lv' := [(2, .int (x2 + 1)), (0, .ref (a 9)), (1, .int (x1))]) dX0_extend_26 rfl rfl (Nat.le_of_ble_eq_true rfl) rfl ?_
  refine g_goto (pc := 29) C (tgt := 2) dX0_extend_29 (by decide) ?_
  exact g_lv [1, 2, 0] rfl (hr2 σ (x1) (x2 + 1) h)
set_option maxHeartbeats 4000000 in
set_option maxRecDepth 20000 in
theorem bX0_extend_2 (C : hv_C p s m args meth c cX0_extend 3 wsX0_extend RX0 D (hv_tys cy)) (hr : meth.sig.returnType = none) {n : Nat} {o : hv_St} : ∀ (i : Nat) (σ : hv_St) (x1 : Int32) (x2 : Int32), kX0_extend_2 n i σ x1 x2 = some o → hv_G p l e (headSpec wsX0_extend rmX0_extend).room s m args below meth c 3 D 55 a (hv_XE a cy) 0 0 (hv_MQ D 55 a (hv_XE a cy) below args s none o) σ 2 [(0, .ref (a 9)), (1, .int (x1)), (2, .int (x2))] [] := by
  intro i
  induction i with
  | zero =>
    intro σ x1 x2 h
    cases h
  | succ i ih =>
    intro σ x1 x2 h
    generalize hg : kX0_extend_2 n i = r2 at ih
    have hr2 := ih
    replace h : kX0_extend_2_b n r2 σ x1 x2 = some o := by rw [← hg]; exact h
    unfold kX0_extend_2_b at h
    refine g_iload_n (pc := 2) C 2 dX0_extend_2 rfl rfl ?_
    refine g_aload_n (pc := 3) C 0 dX0_extend_3 rfl rfl ?_
    refine gx_get_9_0 (pc := 4) C iX0_extend_X0 qX0_extend_F23 dX0_extend_4 ?_
    refine gx_get_1_1 (pc := 7) C iX0_extend_X3 qX0_extend_F54 dX0_extend_7 ?_
    refine g_icmp_ge (pc := 10) (tgt := 32) C dX0_extend_10 (by decide) (fun c10 => ?_) (fun c10 => ?_)
    · rw [if_pos c10] at h
      cases h
      exact g_vret (pc := 32) C hr dX0_extend_32
    · rw [if_neg c10] at h
      refine g_iload_n (pc := 13) C 1 dX0_extend_13 rfl rfl ?_
      refine g_iload_n (pc := 14) C 2 dX0_extend_14 rfl rfl ?_
      obtain ⟨r15, s15, hc15, h⟩ := hv_b2_some h
      refine g_callSN (pc := 15) (σ1 := s15) (v := (some (.int (r15)))) (As := [.int (x1), .int (x2)]) (rest := []) C (vX7_has hc15) (va_cnB 2 C.1.2.2.2.2 gX0_extend_X7_has_n59 rfl rfl rfl (C.2.1.2 _ (List.mem_of_getElem? (i := 5) rfl)) (C.1.2.2.2.2 _ qX0_extend_NI_X7_has) (by decide +kernel) ⟨Nat.le_of_ble_eq_true rfl, Nat.le_of_ble_eq_true rfl⟩) qX0_extend_NS_X7_has rfl rfl (Nat.le_of_ble_eq_true rfl) dX0_extend_15 ⟨Nat.zero_le _, Nat.zero_le _⟩ ?_
      refine g_st (st' := [.int (r15)]) rfl ?_
      refine g_if_eq (pc := 18) (tgt := 26) C dX0_extend_18 (by decide) (fun c18 => ?_) (fun c18 => ?_)
      · rw [if_pos c18] at h
        exact g_lv [0, 1, 2] rfl (bX0_extend_26 C hr hr2 s15 (x1) (x2) h)
      · rw [if_neg c18] at h
        refine g_aload_n (pc := 21) C 0 dX0_extend_21 rfl rfl ?_
        refine g_iload_n (pc := 22) C 2 dX0_extend_22 rfl rfl ?_
        obtain ⟨s23, hc23, h⟩ := hv_bd_some h
        refine g_callV (pc := 23) (σ1 := s23) (v := none) (As := [.int (x2)]) (rest := []) C 9 (vX0_take hc23) (cwV 1 C.1.2.2.2.2 gX0_extend_X0_take rfl rfl rfl (by decide +kernel) ⟨Nat.le_of_ble_eq_true rfl, Nat.le_of_ble_eq_true rfl⟩) (Nat.le_of_ble_eq_true rfl) rfl rfl rfl rfl (Nat.le_of_ble_eq_true rfl) dX0_extend_23 ⟨Nat.zero_le _, Nat.zero_le _⟩ ?_
        refine g_st (st' := []) rfl ?_
        exact g_lv [0, 1, 2] rfl (bX0_extend_26 C hr hr2 s23 (x1) (x2) h)
set_option maxHeartbeats 4000000 in
set_option maxRecDepth 20000 in
theorem vX0_extend {n : Nat} {σ : hv_St} {p0 : Int32} {o : hv_St} (h : mX0_extend n σ p0 = some o) : hv_M l yX0_extend wsX0_extend rmX0_extend D (hv_tys cy) 55 a (hv_XE a cy) [.ref (a 9), .int (p0)] σ none o := by
  refine hv_enter (own := RX0) (cc := cX0_extend) (maxL := 3) (ret := none) (by decide) rfl rfl (Nat.le_of_ble_eq_true rfl) ?_
  intro p e s m args below meth c C hr
  unfold mX0_extend at h
  refine g_lv [0, 1] (lv' := [(0, .ref (a 9)), (1, .int (p0))]) rfl ?_
  refine g_iconst (pc := 0) C (v := (0 : Int32)) dX0_extend_0 (by decide) ?_
  refine g_istore_n (pc := 1) C (lv' := [(2, .int ((0 : Int32))), (0, .ref (a 9)), (1, .int (p0))]) rfl dX0_extend_1 rfl (Nat.le_of_ble_eq_true rfl) rfl ?_
  exact g_lv [1, 2, 0] rfl (bX0_extend_2 C hr n σ (p0) ((0 : Int32)) h)
abbrev rmX3_brings : Room := { frames := 0, cells := 0, slots := 0, locals := 0 }
set_option maxRecDepth 20000 in
theorem qX3_brings_F22 : Cond.fieldLink RX3 22 "PinFrame$Frame" "one" "[I" ∈ wsX3_brings := by decide +kernel
set_option maxRecDepth 20000 in
theorem qX3_brings_F25 : Cond.fieldLink RX3 25 "PinFrame$Frame" "other" "[I" ∈ wsX3_brings := by decide +kernel
set_option maxRecDepth 20000 in
theorem qX3_brings_F9 : Cond.fieldLink RX3 9 "PinFrame$Frame" "spot" "[I" ∈ wsX3_brings := by decide +kernel
set_option maxRecDepth 20000 in
theorem iX3_brings_X3 : ∀ w ∈ u_ws RX3 TX3 10, w ∈ wsX3_brings := by decide +kernel
set_option maxHeartbeats 4000000 in
set_option maxRecDepth 20000 in
theorem vX3_brings {n : Nat} {σ : hv_St} {p0 : Int32} {p1 : Int32} {o : Int32 × hv_St} (h : mX3_brings n σ p0 p1 = some o) : hv_M l yX3_brings wsX3_brings rmX3_brings D (hv_tys cy) 55 a (hv_XE a cy) [.ref (a 1), .int (p0), .int (p1)] σ (some (.int o.1)) o.2 := by
  refine hv_enter (own := RX3) (cc := cX3_brings) (maxL := 6) (ret := (some .int)) (by decide) rfl rfl (Nat.le_of_ble_eq_true rfl) ?_
  intro p e s m args below meth c C hr
  unfold mX3_brings at h
  refine g_lv [0, 1, 2] (lv' := [(0, .ref (a 1)), (1, .int (p0)), (2, .int (p1))]) rfl ?_
  refine g_iload_n (pc := 0) C 2 dX3_brings_0 rfl rfl ?_
  refine g_iconst (pc := 1) C (v := (2 : Int32)) dX3_brings_1 (by decide) ?_
  refine g_idiv (pc := 2) C dX3_brings_2 (by decide) ?_
  obtain ⟨y3_3, ey3_3, h⟩ := hv_let_some h
  refine g_istore_n (pc := 3) C (lv' := [(3, .int (y3_3)), (0, .ref (a 1)), (1, .int (p0)), (2, .int (p1))]) ey3_3 dX3_brings_3 rfl (Nat.le_of_ble_eq_true rfl) rfl ?_
  refine g_iload_n (pc := 4) C 3 dX3_brings_4 rfl rfl ?_
  refine g_iconst (pc := 5) C (v := (2 : Int32)) dX3_brings_5 (by decide) ?_
  refine g_irem (pc := 6) C dX3_brings_6 (by decide) ?_
  obtain ⟨y4_7, ey4_7, h⟩ := hv_let_some h
  refine g_istore (pc := 7) C (lv' := [(4, .int (y4_7)), (3, .int (y3_3)), (0, .ref (a 1)), (1, .int (p0)), (2, .int (p1))]) ey4_7 dX3_brings_7 (Nat.le_of_ble_eq_true rfl) rfl ?_
  refine g_aload_n (pc := 9) C 2 dX3_brings_9 rfl rfl ?_
  refine gx_get_1_3 (pc := 10) C iX3_brings_X3 qX3_brings_F9 dX3_brings_10 ?_
  refine g_iconst (pc := 13) C (v := (2 : Int32)) dX3_brings_13 (by decide) ?_
  refine g_aload_n (pc := 14) C 2 dX3_brings_14 rfl rfl ?_
  refine gx_get_1_7 (pc := 15) C iX3_brings_X3 qX3_brings_F25 dX3_brings_15 ?_
  refine g_iload_n (pc := 18) C 3 dX3_brings_18 rfl rfl ?_
  obtain ⟨k19, h⟩ := hv_if_some h
  refine gx_ld_6 (pc := 19) C k19 dX3_brings_19 ?_
  refine g_imul (pc := 20) C dX3_brings_20 ?_
  refine g_iload (pc := 21) C 0 dX3_brings_21 rfl ?_
  refine g_iadd (pc := 23) C dX3_brings_23 ?_
  obtain ⟨k24, h⟩ := hv_if_some h
  refine gx_ld_2 (pc := 24) C k24 dX3_brings_24 ?_
  refine g_aload_n (pc := 25) C 2 dX3_brings_25 rfl rfl ?_
  refine gx_get_1_3 (pc := 26) C iX3_brings_X3 qX3_brings_F9 dX3_brings_26 ?_
  refine g_iconst (pc := 29) C (v := (2 : Int32)) dX3_brings_29 (by decide) ?_
  refine g_aload_n (pc := 30) C 2 dX3_brings_30 rfl rfl ?_
  refine gx_get_1_6 (pc := 31) C iX3_brings_X3 qX3_brings_F22 dX3_brings_31 ?_
  refine g_iload_n (pc := 34) C 3 dX3_brings_34 rfl rfl ?_
  obtain ⟨k35, h⟩ := hv_if_some h
  refine gx_ld_5 (pc := 35) C k35 dX3_brings_35 ?_
  refine g_imul (pc := 36) C dX3_brings_36 ?_
  refine g_iload (pc := 37) C 0 dX3_brings_37 rfl ?_
  refine g_iadd (pc := 39) C dX3_brings_39 ?_
  obtain ⟨k40, h⟩ := hv_if_some h
  refine gx_ld_2 (pc := 40) C k40 dX3_brings_40 ?_
  refine g_isub (pc := 41) C dX3_brings_41 ?_
  obtain ⟨y5_42, ey5_42, h⟩ := hv_let_some h
  refine g_istore (pc := 42) C (lv' := [(5, .int (y5_42)), (4, .int (y4_7)), (3, .int (y3_3)), (0, .ref (a 1)), (1, .int (p0)), (2, .int (p1))]) ey5_42 dX3_brings_42 (Nat.le_of_ble_eq_true rfl) rfl ?_
  refine g_aload_n (pc := 44) C 3 dX3_brings_44 rfl rfl ?_
  refine gx_get_1_6 (pc := 45) C iX3_brings_X3 qX3_brings_F22 dX3_brings_45 ?_
  refine g_iload_n (pc := 48) C 4 dX3_brings_48 rfl rfl ?_
  obtain ⟨k49, h⟩ := hv_if_some h
  refine gx_ld_5 (pc := 49) C k49 dX3_brings_49 ?_
  refine g_iload_n (pc := 50) C 2 dX3_brings_50 rfl rfl ?_
  refine g_icmp_ne (pc := 51) (tgt := 57) C dX3_brings_51 (by decide) (fun c51 => ?_) (fun c51 => ?_)
  · rw [if_neg c51] at h
    refine g_aload_n (pc := 57) C 3 dX3_brings_57 rfl rfl ?_
    refine gx_get_1_7 (pc := 58) C iX3_brings_X3 qX3_brings_F25 dX3_brings_58 ?_
    refine g_iload_n (pc := 61) C 4 dX3_brings_61 rfl rfl ?_
    obtain ⟨k62, h⟩ := hv_if_some h
    refine gx_ld_6 (pc := 62) C k62 dX3_brings_62 ?_
    refine g_iload_n (pc := 63) C 2 dX3_brings_63 rfl rfl ?_
    refine g_icmp_ne (pc := 64) (tgt := 73) C dX3_brings_64 (by decide) (fun c64 => ?_) (fun c64 => ?_)
    · rw [if_neg c64] at h
      refine g_iconst (pc := 73) C (v := (0 : Int32)) dX3_brings_73 (by decide) ?_
      cases h
      exact g_iret (pc := 74) C hr dX3_brings_74
    · rw [if_pos c64] at h
      refine g_iload (pc := 67) C 0 dX3_brings_67 rfl ?_
      refine g_ineg (pc := 69) C dX3_brings_69 ?_
      refine g_goto (pc := 70) C (tgt := 74) dX3_brings_70 (by decide) ?_
      cases h
      exact g_iret (pc := 74) C hr dX3_brings_74
  · rw [if_pos c51] at h
    refine g_iload (pc := 54) C 0 dX3_brings_54 rfl ?_
    cases h
    exact g_iret (pc := 56) C hr dX3_brings_56
abbrev rmX0_layRow : Room := { frames := 1, cells := 0, slots := 0, locals := 25 }
set_option maxRecDepth 20000 in
theorem qX0_layRow_F11 : Cond.fieldLink RX0 11 "PinFrame$Balance" "rows" "[[J" ∈ wsX0_layRow := by decide +kernel
set_option maxRecDepth 20000 in
theorem qX0_layRow_F16 : Cond.fieldLink RX0 16 "PinFrame$Balance" "slotOf" "[I" ∈ wsX0_layRow := by decide +kernel
set_option maxRecDepth 20000 in
theorem qX0_layRow_F23 : Cond.fieldLink RX0 23 "PinFrame$Balance" "frame" "LPinFrame$Frame;" ∈ wsX0_layRow := by decide +kernel
set_option maxRecDepth 20000 in
theorem qX0_layRow_F30 : Cond.fieldLink RX0 30 "PinFrame$Balance" "free" "I" ∈ wsX0_layRow := by decide +kernel
set_option maxRecDepth 20000 in
theorem qX0_layRow_F54 : Cond.fieldLink RX0 54 "PinFrame$Frame" "bars" "I" ∈ wsX0_layRow := by decide +kernel
set_option maxRecDepth 20000 in
theorem iX0_layRow_X0 : ∀ w ∈ u_ws RX0 TX0 9, w ∈ wsX0_layRow := by decide +kernel
set_option maxRecDepth 20000 in
theorem iX0_layRow_X3 : ∀ w ∈ u_ws RX3 TX3 10, w ∈ wsX0_layRow := by decide +kernel
set_option maxHeartbeats 4000000 in
set_option maxRecDepth 20000 in
theorem bX0_layRow_77 (C : hv_C p s m args meth c cX0_layRow 3 wsX0_layRow RX0 D (hv_tys cy)) (hr : meth.sig.returnType = none) {n : Nat} {o : hv_St} {r44 : hv_St → Int32 → Int32 → Option (hv_St)} (hr44 : ∀ (σ : hv_St) (x1 : Int32) (x2 : Int32), r44 σ x1 x2 = some o → hv_G p l e (headSpec wsX0_layRow rmX0_layRow).room s m args below meth c 3 D 55 a (hv_XE a cy) 0 0 (hv_MQ D 55 a (hv_XE a cy) below args s none o) σ 44 [(0, .ref (a 9)), (1, .int (x1)), (2, .int (x2))] []) : ∀ (σ : hv_St) (x1 : Int32) (x2 : Int32) (z0 : Int64) (z1 : Int32), kX0_layRow_77 n r44 σ x1 x2 z0 z1 = some o → hv_G p l e (headSpec wsX0_layRow rmX0_layRow).room s m args below meth c 3 D 55 a (hv_XE a cy) 0 0 (hv_MQ D 55 a (hv_XE a cy) below args s none o) σ 77 [(0, .ref (a 9)), (1, .int (x1)), (2, .int (x2))] [.long (z0), .int (z1), .ref (a (27 + (x1).toNatClampNeg))] := by
  intro σ x1 x2 z0 z1 h
  unfold kX0_layRow_77 at h
  obtain ⟨kw77_s2, h⟩ := hv_if_some h
  obtain ⟨k77, h⟩ := hv_if_some h
  obtain ⟨s77, es77, h⟩ := hv_let_some h
  refine gx_str_27 (pc := 77) C es77 kw77_s2 k77 dX0_layRow_77 ?_
  refine g_iinc (pc := 78) C 2 (v := x2 + 1) (lv' := [(2, .int (x2 + 1)), (0, .ref (a 9)), (1, .int (x1))]) dX0_layRow_78 rfl rfl (Nat.le_of_ble_eq_true rfl) rfl ?_
  refine g_goto (pc := 81) C (tgt := 44) dX0_layRow_81 (by decide) ?_
  exact g_lv [1, 2, 0] rfl (hr44 s77 (x1) (x2 + 1) h)
set_option maxHeartbeats 4000000 in
set_option maxRecDepth 20000 in
theorem bX0_layRow_44 (C : hv_C p s m args meth c cX0_layRow 3 wsX0_layRow RX0 D (hv_tys cy)) (hr : meth.sig.returnType = none) {n : Nat} {o : hv_St} : ∀ (i : Nat) (σ : hv_St) (x1 : Int32) (x2 : Int32), kX0_layRow_44 n i σ x1 x2 = some o → hv_G p l e (headSpec wsX0_layRow rmX0_layRow).room s m args below meth c 3 D 55 a (hv_XE a cy) 0 0 (hv_MQ D 55 a (hv_XE a cy) below args s none o) σ 44 [(0, .ref (a 9)), (1, .int (x1)), (2, .int (x2))] [] := by
  intro i
  induction i with
  | zero =>
    intro σ x1 x2 h
    cases h
  | succ i ih =>
    intro σ x1 x2 h
    generalize hg : kX0_layRow_44 n i = r44 at ih
    have hr44 := ih
    replace h : kX0_layRow_44_b n r44 σ x1 x2 = some o := by rw [← hg]; exact h
    unfold kX0_layRow_44_b at h
    refine g_iload_n (pc := 44) C 2 dX0_layRow_44 rfl rfl ?_
    refine g_aload_n (pc := 45) C 0 dX0_layRow_45 rfl rfl ?_
    refine gx_get_9_4 (pc := 46) C iX0_layRow_X0 qX0_layRow_F30 dX0_layRow_46 ?_
    refine g_icmp_ge (pc := 49) (tgt := 84) C dX0_layRow_49 (by decide) (fun c49 => ?_) (fun c49 => ?_)
    · rw [if_pos c49] at h
      cases h
      exact g_vret (pc := 84) C hr dX0_layRow_84
    · rw [if_neg c49] at h
      refine g_aload_n (pc := 52) C 0 dX0_layRow_52 rfl rfl ?_
      refine gx_get_9_1 (pc := 53) C iX0_layRow_X0 qX0_layRow_F11 dX0_layRow_53 ?_
      refine g_iload_n (pc := 56) C 1 dX0_layRow_56 rfl rfl ?_
      obtain ⟨k57, h⟩ := hv_if_some h
      refine gx_ld_10 (pc := 57) C k57 dX0_layRow_57 ?_
      refine g_aload_n (pc := 58) C 0 dX0_layRow_58 rfl rfl ?_
      refine gx_get_9_0 (pc := 59) C iX0_layRow_X0 qX0_layRow_F23 dX0_layRow_59 ?_
      refine gx_get_1_1 (pc := 62) C iX0_layRow_X3 qX0_layRow_F54 dX0_layRow_62 ?_
      refine g_iload_n (pc := 65) C 2 dX0_layRow_65 rfl rfl ?_
      refine g_iadd (pc := 66) C dX0_layRow_66 ?_
      refine g_iload_n (pc := 67) C 2 dX0_layRow_67 rfl rfl ?_
      refine g_iload_n (pc := 68) C 1 dX0_layRow_68 rfl rfl ?_
      refine g_icmp_ne (pc := 69) (tgt := 76) C dX0_layRow_69 (by decide) (fun c69 => ?_) (fun c69 => ?_)
      · rw [if_neg c69] at h
        refine g_lconst (pc := 76) C (v := (0 : Int64)) dX0_layRow_76 (by decide) ?_
        exact g_lv [0, 1, 2] rfl (bX0_layRow_77 C hr hr44 σ (x1) (x2) ((0 : Int64)) ((σ.1 1 1) + (x2)) h)
      · rw [if_pos c69] at h
        refine g_lconst (pc := 72) C (v := (1 : Int64)) dX0_layRow_72 (by decide) ?_
        refine g_goto (pc := 73) C (tgt := 77) dX0_layRow_73 (by decide) ?_
        exact g_lv [0, 1, 2] rfl (bX0_layRow_77 C hr hr44 σ (x1) (x2) ((1 : Int64)) ((σ.1 1 1) + (x2)) h)
set_option maxHeartbeats 4000000 in
set_option maxRecDepth 20000 in
theorem bX0_layRow_2 (C : hv_C p s m args meth c cX0_layRow 3 wsX0_layRow RX0 D (hv_tys cy)) (hr : meth.sig.returnType = none) {n : Nat} {o : hv_St} : ∀ (i : Nat) (σ : hv_St) (x1 : Int32) (x2 : Int32), kX0_layRow_2 n i σ x1 x2 = some o → hv_G p l e (headSpec wsX0_layRow rmX0_layRow).room s m args below meth c 3 D 55 a (hv_XE a cy) 0 0 (hv_MQ D 55 a (hv_XE a cy) below args s none o) σ 2 [(0, .ref (a 9)), (1, .int (x1)), (2, .int (x2))] [] := by
  intro i
  induction i with
  | zero =>
    intro σ x1 x2 h
    cases h
  | succ i ih =>
    intro σ x1 x2 h
    generalize hg : kX0_layRow_2 n i = r2 at ih
    have hr2 := ih
    replace h : kX0_layRow_2_b n r2 σ x1 x2 = some o := by rw [← hg]; exact h
    unfold kX0_layRow_2_b at h
    refine g_iload_n (pc := 2) C 2 dX0_layRow_2 rfl rfl ?_
    refine g_aload_n (pc := 3) C 0 dX0_layRow_3 rfl rfl ?_
    refine gx_get_9_0 (pc := 4) C iX0_layRow_X0 qX0_layRow_F23 dX0_layRow_4 ?_
    refine gx_get_1_1 (pc := 7) C iX0_layRow_X3 qX0_layRow_F54 dX0_layRow_7 ?_
    refine g_icmp_ge (pc := 10) (tgt := 42) C dX0_layRow_10 (by decide) (fun c10 => ?_) (fun c10 => ?_)
    · rw [if_pos c10] at h
      refine g_iconst (pc := 42) C (v := (0 : Int32)) dX0_layRow_42 (by decide) ?_
      refine g_istore_n (pc := 43) C (lv' := [(2, .int ((0 : Int32))), (0, .ref (a 9)), (1, .int (x1))]) rfl dX0_layRow_43 rfl (Nat.le_of_ble_eq_true rfl) rfl ?_
      exact g_lv [1, 2, 0] rfl (bX0_layRow_44 C hr n σ (x1) ((0 : Int32)) h)
    · rw [if_neg c10] at h
      refine g_aload_n (pc := 13) C 0 dX0_layRow_13 rfl rfl ?_
      refine gx_get_9_1 (pc := 14) C iX0_layRow_X0 qX0_layRow_F11 dX0_layRow_14 ?_
      refine g_iload_n (pc := 17) C 1 dX0_layRow_17 rfl rfl ?_
      obtain ⟨k18, h⟩ := hv_if_some h
      refine gx_ld_10 (pc := 18) C k18 dX0_layRow_18 ?_
      refine g_iload_n (pc := 19) C 2 dX0_layRow_19 rfl rfl ?_
      refine g_aload_n (pc := 20) C 0 dX0_layRow_20 rfl rfl ?_
      refine gx_get_9_0 (pc := 21) C iX0_layRow_X0 qX0_layRow_F23 dX0_layRow_21 ?_
      refine g_iload_n (pc := 24) C 2 dX0_layRow_24 rfl rfl ?_
      refine g_aload_n (pc := 25) C 0 dX0_layRow_25 rfl rfl ?_
      refine gx_get_9_2 (pc := 26) C iX0_layRow_X0 qX0_layRow_F16 dX0_layRow_26 ?_
      refine g_iload_n (pc := 29) C 1 dX0_layRow_29 rfl rfl ?_
      obtain ⟨k30, h⟩ := hv_if_some h
      refine gx_ld_11 (pc := 30) C k30 dX0_layRow_30 ?_
      obtain ⟨r31, s31, hc31, h⟩ := hv_b2_some h
      refine g_callV (pc := 31) (σ1 := s31) (v := (some (.int (r31)))) (As := [.int (x2), .int (σ.1 11 (x1).toNatClampNeg)]) (rest := [.int (x2), .ref (a (27 + (x1).toNatClampNeg))]) C 1 (vX3_brings hc31) (cwV 2 C.1.2.2.2.2 gX0_layRow_X3_brings rfl rfl rfl (by decide +kernel) ⟨Nat.le_of_ble_eq_true rfl, Nat.le_of_ble_eq_true rfl⟩) (Nat.le_of_ble_eq_true rfl) rfl rfl rfl rfl (Nat.le_of_ble_eq_true rfl) dX0_layRow_31 ⟨Nat.zero_le _, Nat.zero_le _⟩ ?_
      refine g_st (st' := [.int (r31), .int (x2), .ref (a (27 + (x1).toNatClampNeg))]) rfl ?_
      refine g_i2l (pc := 34) C dX0_layRow_34 ?_
      obtain ⟨k35, h⟩ := hv_if_some h
      obtain ⟨s35, es35, h⟩ := hv_let_some h
      refine gx_str_27 (pc := 35) C es35 k18 k35 dX0_layRow_35 ?_
      refine g_iinc (pc := 36) C 2 (v := x2 + 1) (lv' := [(2, .int (x2 + 1)), (0, .ref (a 9)), (1, .int (x1))]) dX0_layRow_36 rfl rfl (Nat.le_of_ble_eq_true rfl) rfl ?_
      refine g_goto (pc := 39) C (tgt := 2) dX0_layRow_39 (by decide) ?_
      exact g_lv [1, 2, 0] rfl (hr2 s35 (x1) (x2 + 1) h)
set_option maxHeartbeats 4000000 in
set_option maxRecDepth 20000 in
theorem vX0_layRow {n : Nat} {σ : hv_St} {p0 : Int32} {o : hv_St} (h : mX0_layRow n σ p0 = some o) : hv_M l yX0_layRow wsX0_layRow rmX0_layRow D (hv_tys cy) 55 a (hv_XE a cy) [.ref (a 9), .int (p0)] σ none o := by
  refine hv_enter (own := RX0) (cc := cX0_layRow) (maxL := 3) (ret := none) (by decide) rfl rfl (Nat.le_of_ble_eq_true rfl) ?_
  intro p e s m args below meth c C hr
  unfold mX0_layRow at h
  refine g_lv [0, 1] (lv' := [(0, .ref (a 9)), (1, .int (p0))]) rfl ?_
  refine g_iconst (pc := 0) C (v := (0 : Int32)) dX0_layRow_0 (by decide) ?_
  refine g_istore_n (pc := 1) C (lv' := [(2, .int ((0 : Int32))), (0, .ref (a 9)), (1, .int (p0))]) rfl dX0_layRow_1 rfl (Nat.le_of_ble_eq_true rfl) rfl ?_
  exact g_lv [1, 2, 0] rfl (bX0_layRow_2 C hr n σ (p0) ((0 : Int32)) h)
abbrev rmX0_settle : Room := { frames := 4, cells := 0, slots := 0, locals := 97 }
set_option maxRecDepth 20000 in
theorem qX0_settle_F30 : Cond.fieldLink RX0 30 "PinFrame$Balance" "free" "I" ∈ wsX0_settle := by decide +kernel
set_option maxRecDepth 20000 in
theorem qX0_settle_F38 : Cond.fieldLink RX0 38 "PinFrame$Balance" "rank" "I" ∈ wsX0_settle := by decide +kernel
set_option maxRecDepth 20000 in
theorem qX0_settle_F41 : Cond.fieldLink RX0 41 "PinFrame$Balance" "base" "I" ∈ wsX0_settle := by decide +kernel
set_option maxRecDepth 20000 in
theorem qX0_settle_F44 : Cond.fieldLink RX0 44 "PinFrame$Balance" "spare" "I" ∈ wsX0_settle := by decide +kernel
set_option maxRecDepth 20000 in
theorem qX0_settle_F47 : Cond.fieldLink RX0 47 "PinFrame$Balance" "scale" "J" ∈ wsX0_settle := by decide +kernel
set_option maxRecDepth 20000 in
theorem iX0_settle_X0 : ∀ w ∈ u_ws RX0 TX0 9, w ∈ wsX0_settle := by decide +kernel
set_option maxHeartbeats 4000000 in
set_option maxRecDepth 20000 in
theorem bX0_settle_6 (C : hv_C p s m args meth c cX0_settle 3 wsX0_settle RX0 D (hv_tys cy)) (hr : meth.sig.returnType = none) {n : Nat} {o : hv_St} : ∀ (i : Nat) (σ : hv_St) (x1 : Int32) (x2 : Int32), kX0_settle_6 n i σ x1 x2 = some o → hv_G p l e (headSpec wsX0_settle rmX0_settle).room s m args below meth c 3 D 55 a (hv_XE a cy) 0 0 (hv_MQ D 55 a (hv_XE a cy) below args s none o) σ 6 [(0, .ref (a 9)), (1, .int (x1)), (2, .int (x2))] [] := by
  intro i
  induction i with
  | zero =>
    intro σ x1 x2 h
    cases h
  | succ i ih =>
    intro σ x1 x2 h
    generalize hg : kX0_settle_6 n i = r6 at ih
    have hr6 := ih
    replace h : kX0_settle_6_b n r6 σ x1 x2 = some o := by rw [← hg]; exact h
    unfold kX0_settle_6_b at h
    refine g_iload_n (pc := 6) C 2 dX0_settle_6 rfl rfl ?_
    refine g_aload_n (pc := 7) C 0 dX0_settle_7 rfl rfl ?_
    refine gx_get_9_4 (pc := 8) C iX0_settle_X0 qX0_settle_F30 dX0_settle_8 ?_
    refine g_icmp_ge (pc := 11) (tgt := 25) C dX0_settle_11 (by decide) (fun c11 => ?_) (fun c11 => ?_)
    · rw [if_pos c11] at h
      refine g_aload_n (pc := 25) C 0 dX0_settle_25 rfl rfl ?_
      refine g_iconst (pc := 26) C (v := (0 : Int32)) dX0_settle_26 (by decide) ?_
      obtain ⟨s27, es27, h⟩ := hv_let_some h
      refine gx_put_9_5 (pc := 27) C es27 iX0_settle_X0 qX0_settle_F38 dX0_settle_27 ?_
      refine g_aload_n (pc := 30) C 0 dX0_settle_30 rfl rfl ?_
      refine g_iconst (pc := 31) C (v := (0 : Int32)) dX0_settle_31 (by decide) ?_
      obtain ⟨s32, es32, h⟩ := hv_let_some h
      refine gx_put_9_6 (pc := 32) C es32 iX0_settle_X0 qX0_settle_F41 dX0_settle_32 ?_
      refine g_aload_n (pc := 35) C 0 dX0_settle_35 rfl rfl ?_
      refine g_iconst (pc := 36) C (v := (0 : Int32)) dX0_settle_36 (by decide) ?_
      obtain ⟨s37, es37, h⟩ := hv_let_some h
      refine gx_put_9_7 (pc := 37) C es37 iX0_settle_X0 qX0_settle_F44 dX0_settle_37 ?_
      refine g_aload_n (pc := 40) C 0 dX0_settle_40 rfl rfl ?_
      refine g_lconst (pc := 41) C (v := (1 : Int64)) dX0_settle_41 (by decide) ?_
      obtain ⟨s42, es42, h⟩ := hv_let_some h
      refine gx_put_9_8 (pc := 42) C es42 iX0_settle_X0 qX0_settle_F47 dX0_settle_42 ?_
      refine g_aload_n (pc := 45) C 0 dX0_settle_45 rfl rfl ?_
      refine g_iload_n (pc := 46) C 1 dX0_settle_46 rfl rfl ?_
      obtain ⟨s47, hc47, h⟩ := hv_bd_some h
      refine g_callV (pc := 47) (σ1 := s47) (v := none) (As := [.int (x1)]) (rest := []) C 9 (vX0_extend hc47) (cwV 1 C.1.2.2.2.2 gX0_settle_X0_extend rfl rfl rfl (by decide +kernel) ⟨Nat.le_of_ble_eq_true rfl, Nat.le_of_ble_eq_true rfl⟩) (Nat.le_of_ble_eq_true rfl) rfl rfl rfl rfl (Nat.le_of_ble_eq_true rfl) dX0_settle_47 ⟨Nat.zero_le _, Nat.zero_le _⟩ ?_
      refine g_st (st' := []) rfl ?_
      cases h
      exact g_vret (pc := 50) C hr dX0_settle_50
    · rw [if_neg c11] at h
      refine g_aload_n (pc := 14) C 0 dX0_settle_14 rfl rfl ?_
      refine g_iload_n (pc := 15) C 2 dX0_settle_15 rfl rfl ?_
      obtain ⟨s16, hc16, h⟩ := hv_bd_some h
      refine g_callV (pc := 16) (σ1 := s16) (v := none) (As := [.int (x2)]) (rest := []) C 9 (vX0_layRow hc16) (cwV 1 C.1.2.2.2.2 gX0_settle_X0_layRow rfl rfl rfl (by decide +kernel) ⟨Nat.le_of_ble_eq_true rfl, Nat.le_of_ble_eq_true rfl⟩) (Nat.le_of_ble_eq_true rfl) rfl rfl rfl rfl (Nat.le_of_ble_eq_true rfl) dX0_settle_16 ⟨Nat.zero_le _, Nat.zero_le _⟩ ?_
      refine g_st (st' := []) rfl ?_
      refine g_iinc (pc := 19) C 2 (v := x2 + 1) (lv' := [(2, .int (x2 + 1)), (0, .ref (a 9)), (1, .int (x1))]) dX0_settle_19 rfl rfl (Nat.le_of_ble_eq_true rfl) rfl ?_
      refine g_goto (pc := 22) C (tgt := 6) dX0_settle_22 (by decide) ?_
      exact g_lv [1, 2, 0] rfl (hr6 s16 (x1) (x2 + 1) h)
set_option maxHeartbeats 4000000 in
set_option maxRecDepth 20000 in
theorem vX0_settle {n : Nat} {σ : hv_St} {p0 : Int32} {o : hv_St} (h : mX0_settle n σ p0 = some o) : hv_M l yX0_settle wsX0_settle rmX0_settle D (hv_tys cy) 55 a (hv_XE a cy) [.ref (a 9), .int (p0)] σ none o := by
  refine hv_enter (own := RX0) (cc := cX0_settle) (maxL := 3) (ret := none) (by decide) rfl rfl (Nat.le_of_ble_eq_true rfl) ?_
  intro p e s m args below meth c C hr
  unfold mX0_settle at h
  refine g_lv [0, 1] (lv' := [(0, .ref (a 9)), (1, .int (p0))]) rfl ?_
  refine g_aload_n (pc := 0) C 0 dX0_settle_0 rfl rfl ?_
  obtain ⟨s1, hc1, h⟩ := hv_bd_some h
  refine g_callV (pc := 1) (σ1 := s1) (v := none) (As := []) (rest := []) C 9 (vX0_findFree hc1) (cwV 0 C.1.2.2.2.2 gX0_settle_X0_findFree rfl rfl rfl (by decide +kernel) ⟨Nat.le_of_ble_eq_true rfl, Nat.le_of_ble_eq_true rfl⟩) (Nat.le_of_ble_eq_true rfl) rfl rfl rfl rfl (Nat.le_of_ble_eq_true rfl) dX0_settle_1 ⟨Nat.zero_le _, Nat.zero_le _⟩ ?_
  refine g_st (st' := []) rfl ?_
  refine g_iconst (pc := 4) C (v := (0 : Int32)) dX0_settle_4 (by decide) ?_
  refine g_istore_n (pc := 5) C (lv' := [(2, .int ((0 : Int32))), (0, .ref (a 9)), (1, .int (p0))]) rfl dX0_settle_5 rfl (Nat.le_of_ble_eq_true rfl) rfl ?_
  exact g_lv [1, 2, 0] rfl (bX0_settle_6 C hr n s1 (p0) ((0 : Int32)) h)
abbrev rmJ6_bitCount_0f7a4 : Room := { frames := 0, cells := 0, slots := 0, locals := 0 }
set_option maxRecDepth 20000 in
theorem qJ6_bitCount_0f7a4_I265 : Cond.constant RJ6 265 (1431655765) ∈ wsJ6_bitCount_0f7a4 := by decide +kernel
set_option maxRecDepth 20000 in
theorem qJ6_bitCount_0f7a4_I266 : Cond.constant RJ6 266 (858993459) ∈ wsJ6_bitCount_0f7a4 := by decide +kernel
set_option maxRecDepth 20000 in
theorem qJ6_bitCount_0f7a4_I267 : Cond.constant RJ6 267 (252645135) ∈ wsJ6_bitCount_0f7a4 := by decide +kernel
set_option maxHeartbeats 4000000 in
set_option maxRecDepth 20000 in
theorem vJ6_bitCount_0f7a4 {n : Nat} {σ : hv_St} {p0 : Int32} {o : Int32 × hv_St} (h : mJ6_bitCount_0f7a4 n σ p0 = some o) : hv_M l yJ6_bitCount_0f7a4 wsJ6_bitCount_0f7a4 rmJ6_bitCount_0f7a4 D (hv_tys cy) 55 a (hv_XE a cy) [.int (p0)] σ (some (.int o.1)) o.2 := by
  refine hv_enter (own := RJ6) (cc := cJ6_bitCount_0f7a4) (maxL := 1) (ret := (some .int)) (by decide) rfl rfl (Nat.le_of_ble_eq_true rfl) ?_
  intro p e s m args below meth c C hr
  unfold mJ6_bitCount_0f7a4 at h
  refine g_lv [0] (lv' := [(0, .int (p0))]) rfl ?_
  refine g_iload_n (pc := 0) C 0 dJ6_bitCount_0f7a4_0 rfl rfl ?_
  refine g_iload_n (pc := 1) C 0 dJ6_bitCount_0f7a4_1 rfl rfl ?_
  refine g_iconst (pc := 2) C (v := (1 : Int32)) dJ6_bitCount_0f7a4_2 (by decide) ?_
  refine g_iushr (pc := 3) C dJ6_bitCount_0f7a4_3 ?_
  refine g_ldcw (pc := 4) C (v := (1431655765 : Int32)) qJ6_bitCount_0f7a4_I265 dJ6_bitCount_0f7a4_4 ?_
  refine g_iand (pc := 7) C dJ6_bitCount_0f7a4_7 ?_
  refine g_isub (pc := 8) C dJ6_bitCount_0f7a4_8 ?_
  obtain ⟨y0_9, ey0_9, h⟩ := hv_let_some h
  refine g_istore_n (pc := 9) C (lv' := [(0, .int (y0_9))]) ey0_9 dJ6_bitCount_0f7a4_9 rfl (Nat.le_of_ble_eq_true rfl) rfl ?_
  refine g_iload_n (pc := 10) C 0 dJ6_bitCount_0f7a4_10 rfl rfl ?_
  refine g_ldcw (pc := 11) C (v := (858993459 : Int32)) qJ6_bitCount_0f7a4_I266 dJ6_bitCount_0f7a4_11 ?_
  refine g_iand (pc := 14) C dJ6_bitCount_0f7a4_14 ?_
  refine g_iload_n (pc := 15) C 0 dJ6_bitCount_0f7a4_15 rfl rfl ?_
  refine g_iconst (pc := 16) C (v := (2 : Int32)) dJ6_bitCount_0f7a4_16 (by decide) ?_
  refine g_iushr (pc := 17) C dJ6_bitCount_0f7a4_17 ?_
  refine g_ldcw (pc := 18) C (v := (858993459 : Int32)) qJ6_bitCount_0f7a4_I266 dJ6_bitCount_0f7a4_18 ?_
  refine g_iand (pc := 21) C dJ6_bitCount_0f7a4_21 ?_
  refine g_iadd (pc := 22) C dJ6_bitCount_0f7a4_22 ?_
  obtain ⟨y0_23, ey0_23, h⟩ := hv_let_some h
  refine g_istore_n (pc := 23) C (lv' := [(0, .int (y0_23))]) ey0_23 dJ6_bitCount_0f7a4_23 rfl (Nat.le_of_ble_eq_true rfl) rfl ?_
  refine g_iload_n (pc := 24) C 0 dJ6_bitCount_0f7a4_24 rfl rfl ?_
  refine g_iload_n (pc := 25) C 0 dJ6_bitCount_0f7a4_25 rfl rfl ?_
  refine g_iconst (pc := 26) C (v := (4 : Int32)) dJ6_bitCount_0f7a4_26 (by decide) ?_
  refine g_iushr (pc := 27) C dJ6_bitCount_0f7a4_27 ?_
  refine g_iadd (pc := 28) C dJ6_bitCount_0f7a4_28 ?_
  refine g_ldcw (pc := 29) C (v := (252645135 : Int32)) qJ6_bitCount_0f7a4_I267 dJ6_bitCount_0f7a4_29 ?_
  refine g_iand (pc := 32) C dJ6_bitCount_0f7a4_32 ?_
  obtain ⟨y0_33, ey0_33, h⟩ := hv_let_some h
  refine g_istore_n (pc := 33) C (lv' := [(0, .int (y0_33))]) ey0_33 dJ6_bitCount_0f7a4_33 rfl (Nat.le_of_ble_eq_true rfl) rfl ?_
  refine g_iload_n (pc := 34) C 0 dJ6_bitCount_0f7a4_34 rfl rfl ?_
  refine g_iload_n (pc := 35) C 0 dJ6_bitCount_0f7a4_35 rfl rfl ?_
  refine g_bipush (pc := 36) C (v := (8 : Int32)) dJ6_bitCount_0f7a4_36 (by decide) ?_
  refine g_iushr (pc := 38) C dJ6_bitCount_0f7a4_38 ?_
  refine g_iadd (pc := 39) C dJ6_bitCount_0f7a4_39 ?_
  obtain ⟨y0_40, ey0_40, h⟩ := hv_let_some h
  refine g_istore_n (pc := 40) C (lv' := [(0, .int (y0_40))]) ey0_40 dJ6_bitCount_0f7a4_40 rfl (Nat.le_of_ble_eq_true rfl) rfl ?_
  refine g_iload_n (pc := 41) C 0 dJ6_bitCount_0f7a4_41 rfl rfl ?_
  refine g_iload_n (pc := 42) C 0 dJ6_bitCount_0f7a4_42 rfl rfl ?_
  refine g_bipush (pc := 43) C (v := (16 : Int32)) dJ6_bitCount_0f7a4_43 (by decide) ?_
  refine g_iushr (pc := 45) C dJ6_bitCount_0f7a4_45 ?_
  refine g_iadd (pc := 46) C dJ6_bitCount_0f7a4_46 ?_
  obtain ⟨y0_47, ey0_47, h⟩ := hv_let_some h
  refine g_istore_n (pc := 47) C (lv' := [(0, .int (y0_47))]) ey0_47 dJ6_bitCount_0f7a4_47 rfl (Nat.le_of_ble_eq_true rfl) rfl ?_
  refine g_iload_n (pc := 48) C 0 dJ6_bitCount_0f7a4_48 rfl rfl ?_
  refine g_bipush (pc := 49) C (v := (63 : Int32)) dJ6_bitCount_0f7a4_49 (by decide) ?_
  refine g_iand (pc := 51) C dJ6_bitCount_0f7a4_51 ?_
  cases h
  exact g_iret (pc := 52) C hr dJ6_bitCount_0f7a4_52
abbrev rmX0_kindNumber : Room := { frames := 1, cells := 0, slots := 0, locals := 23 }
set_option maxRecDepth 20000 in
theorem qX0_kindNumber_F30 : Cond.fieldLink RX0 30 "PinFrame$Balance" "free" "I" ∈ wsX0_kindNumber := by decide +kernel
set_option maxRecDepth 20000 in
theorem qX0_kindNumber_F38 : Cond.fieldLink RX0 38 "PinFrame$Balance" "rank" "I" ∈ wsX0_kindNumber := by decide +kernel
set_option maxRecDepth 20000 in
theorem qX0_kindNumber_F44 : Cond.fieldLink RX0 44 "PinFrame$Balance" "spare" "I" ∈ wsX0_kindNumber := by decide +kernel
set_option maxRecDepth 20000 in
theorem qX0_kindNumber_MC72 : Cond.code Lib.Math.min.name Lib.Math.min.code 2 (some .int) ∈ wsX0_kindNumber := by decide +kernel
set_option maxRecDepth 20000 in
theorem qX0_kindNumber_MI72 : Cond.initialized "java/lang/Math" ∈ wsX0_kindNumber := by decide +kernel
set_option maxRecDepth 20000 in
theorem qX0_kindNumber_ML72 : Cond.methodLink RX0 72 Lib.Math.min.name ∈ wsX0_kindNumber := by decide +kernel
set_option maxRecDepth 20000 in
theorem qX0_kindNumber_MS72 : Cond.static Lib.Math.min.name ∈ wsX0_kindNumber := by decide +kernel
set_option maxRecDepth 20000 in
theorem iX0_kindNumber_X0 : ∀ w ∈ u_ws RX0 TX0 9, w ∈ wsX0_kindNumber := by decide +kernel
set_option maxHeartbeats 4000000 in
set_option maxRecDepth 20000 in
theorem vX0_kindNumber {n : Nat} {σ : hv_St} {o : Int32 × hv_St} (h : mX0_kindNumber n σ = some o) : hv_M l yX0_kindNumber wsX0_kindNumber rmX0_kindNumber D (hv_tys cy) 55 a (hv_XE a cy) [.ref (a 9)] σ (some (.int o.1)) o.2 := by
  refine hv_enter (own := RX0) (cc := cX0_kindNumber) (maxL := 1) (ret := (some .int)) (by decide) rfl rfl (Nat.le_of_ble_eq_true rfl) ?_
  intro p e s m args below meth c C hr
  unfold mX0_kindNumber at h
  refine g_lv [0] (lv' := [(0, .ref (a 9))]) rfl ?_
  refine g_aload_n (pc := 0) C 0 dX0_kindNumber_0 rfl rfl ?_
  refine gx_get_9_5 (pc := 1) C iX0_kindNumber_X0 qX0_kindNumber_F38 dX0_kindNumber_1 ?_
  refine g_aload_n (pc := 4) C 0 dX0_kindNumber_4 rfl rfl ?_
  refine gx_get_9_4 (pc := 5) C iX0_kindNumber_X0 qX0_kindNumber_F30 dX0_kindNumber_5 ?_
  refine g_icmp_ge (pc := 8) (tgt := 15) C dX0_kindNumber_8 (by decide) (fun c8 => ?_) (fun c8 => ?_)
  · rw [if_pos c8] at h
    refine g_iconst (pc := 15) C (v := (4 : Int32)) dX0_kindNumber_15 (by decide) ?_
    refine g_iconst (pc := 16) C (v := (1 : Int32)) dX0_kindNumber_16 (by decide) ?_
    refine g_aload_n (pc := 17) C 0 dX0_kindNumber_17 rfl rfl ?_
    refine gx_get_9_7 (pc := 18) C iX0_kindNumber_X0 qX0_kindNumber_F44 dX0_kindNumber_18 ?_
    obtain ⟨r21, s21, hc21, h⟩ := hv_b2_some h
    refine g_callS (pc := 21) (σ1 := s21) (v := (some (.int (r21)))) (As := [.int (σ.1 9 7)]) (rest := [.int ((1 : Int32)), .int ((4 : Int32))]) C (vJ6_bitCount_0f7a4 hc21) (va_cwS 1 C.1.2.2.2.2 gX0_kindNumber_J6_bitCount_0f7a4 rfl rfl rfl (by decide +kernel) ⟨Nat.le_of_ble_eq_true rfl, Nat.le_of_ble_eq_true rfl⟩) rfl rfl (Nat.le_of_ble_eq_true rfl) dX0_kindNumber_21 ⟨Nat.zero_le _, Nat.zero_le _⟩ ?_
    refine g_st (st' := [.int (r21), .int ((1 : Int32)), .int ((4 : Int32))]) rfl ?_
    refine g_iadd (pc := 24) C dX0_kindNumber_24 ?_
    refine g_mmin (pc := 25) C qX0_kindNumber_ML72 qX0_kindNumber_MS72 qX0_kindNumber_MI72 qX0_kindNumber_MC72 (Nat.le_of_ble_eq_true rfl) (Nat.le_of_ble_eq_true rfl) ⟨Nat.zero_le _, Nat.zero_le _⟩ dX0_kindNumber_25 ?_
    obtain ⟨y_25, ey_25, h⟩ := hv_let_some h
    rw [← ey_25]
    cases h
    exact g_iret (pc := 28) C hr dX0_kindNumber_28
  · rw [if_neg c8] at h
    refine g_iconst (pc := 11) C (v := (0 : Int32)) dX0_kindNumber_11 (by decide) ?_
    refine g_goto (pc := 12) C (tgt := 28) dX0_kindNumber_12 (by decide) ?_
    cases h
    exact g_iret (pc := 28) C hr dX0_kindNumber_28
abbrev rmX2_greatestDivisor : Room := { frames := 0, cells := 0, slots := 0, locals := 0 }
set_option maxHeartbeats 4000000 in
set_option maxRecDepth 20000 in
theorem bX2_greatestDivisor_9 (C : hv_C p s m args meth c cX2_greatestDivisor 11 wsX2_greatestDivisor RX2 D (hv_tys cy)) (hr : meth.sig.returnType = (some .long)) {n : Nat} {o : Int64 × hv_St} : ∀ (i : Nat) (σ : hv_St) (x4 : Int64) (x6 : Int64) (x8 : Int32), kX2_greatestDivisor_9 n i σ x4 x6 x8 = some o → hv_G p l e (headSpec wsX2_greatestDivisor rmX2_greatestDivisor).room s m args below meth c 11 D 55 a (hv_XE a cy) 0 0 (hv_MQ D 55 a (hv_XE a cy) below args s (some (.long o.1)) o.2) σ 9 [(4, .long (x4)), (6, .long (x6)), (8, .int (x8))] [] := by
  intro i
  induction i with
  | zero =>
    intro σ x4 x6 x8 h
    cases h
  | succ i ih =>
    intro σ x4 x6 x8 h
    generalize hg : kX2_greatestDivisor_9 n i = r9 at ih
    have hr9 := ih
    replace h : kX2_greatestDivisor_9_b n r9 σ x4 x6 x8 = some o := by rw [← hg]; exact h
    unfold kX2_greatestDivisor_9_b at h
    refine g_iload (pc := 9) C 2 dX2_greatestDivisor_9 rfl ?_
    refine g_sipush (pc := 11) C (v := (200 : Int32)) dX2_greatestDivisor_11 (by decide) ?_
    refine g_icmp_ge (pc := 14) (tgt := 45) C dX2_greatestDivisor_14 (by decide) (fun c14 => ?_) (fun c14 => ?_)
    · rw [if_pos c14] at h
      refine g_lload (pc := 45) C 0 dX2_greatestDivisor_45 rfl ?_
      cases h
      exact g_lret (pc := 47) C hr dX2_greatestDivisor_47
    · rw [if_neg c14] at h
      refine g_lload (pc := 17) C 1 dX2_greatestDivisor_17 rfl ?_
      refine g_lconst (pc := 19) C (v := (0 : Int64)) dX2_greatestDivisor_19 (by decide) ?_
      refine g_lcmp (pc := 20) C dX2_greatestDivisor_20 ?_
      refine g_if_eq (pc := 21) (tgt := 45) C dX2_greatestDivisor_21 (by decide) (fun c21 => ?_) (fun c21 => ?_)
      · rw [if_pos c21] at h
        refine g_lload (pc := 45) C 0 dX2_greatestDivisor_45 rfl ?_
        cases h
        exact g_lret (pc := 47) C hr dX2_greatestDivisor_47
      · rw [if_neg c21] at h
        refine g_lload (pc := 24) C 0 dX2_greatestDivisor_24 rfl ?_
        refine g_lload (pc := 26) C 1 dX2_greatestDivisor_26 rfl ?_
        obtain ⟨k28, h⟩ := hv_if_some h
        refine g_lrem (pc := 28) C dX2_greatestDivisor_28 (of_decide_eq_true k28) ?_
        obtain ⟨y9_29, ey9_29, h⟩ := hv_let_some h
        refine g_lstore (pc := 29) C (lv' := [(9, .long (y9_29)), (4, .long (x4)), (6, .long (x6)), (8, .int (x8))]) ey9_29 dX2_greatestDivisor_29 (Nat.le_of_ble_eq_true rfl) rfl ?_
        refine g_lload (pc := 31) C 2 dX2_greatestDivisor_31 rfl ?_
        refine g_lstore (pc := 33) C (lv' := [(4, .long (x6)), (9, .long (y9_29)), (6, .long (x6)), (8, .int (x8))]) rfl dX2_greatestDivisor_33 (Nat.le_of_ble_eq_true rfl) rfl ?_
        refine g_lload (pc := 35) C 1 dX2_greatestDivisor_35 rfl ?_
        refine g_lstore (pc := 37) C (lv' := [(6, .long (y9_29)), (4, .long (x6)), (9, .long (y9_29)), (8, .int (x8))]) rfl dX2_greatestDivisor_37 (Nat.le_of_ble_eq_true rfl) rfl ?_
        refine g_iinc (pc := 39) C 3 (v := x8 + 1) (lv' := [(8, .int (x8 + 1)), (6, .long (y9_29)), (4, .long (x6)), (9, .long (y9_29))]) dX2_greatestDivisor_39 rfl rfl (Nat.le_of_ble_eq_true rfl) rfl ?_
        refine g_goto (pc := 42) C (tgt := 9) dX2_greatestDivisor_42 (by decide) ?_
        exact g_lv [2, 1, 0] rfl (hr9 σ (x6) (y9_29) (x8 + 1) h)
set_option maxHeartbeats 4000000 in
set_option maxRecDepth 20000 in
theorem vX2_greatestDivisor {n : Nat} {σ : hv_St} {p0 : Int64} {p1 : Int64} {o : Int64 × hv_St} (h : mX2_greatestDivisor n σ p0 p1 = some o) : hv_M l yX2_greatestDivisor wsX2_greatestDivisor rmX2_greatestDivisor D (hv_tys cy) 55 a (hv_XE a cy) [.long (p0), .long (p1)] σ (some (.long o.1)) o.2 := by
  refine hv_enter (own := RX2) (cc := cX2_greatestDivisor) (maxL := 11) (ret := (some .long)) (by decide) rfl rfl (Nat.le_of_ble_eq_true rfl) ?_
  intro p e s m args below meth c C hr
  unfold mX2_greatestDivisor at h
  refine g_lv [0, 1] (lv' := [(0, .long (p0)), (2, .long (p1))]) rfl ?_
  refine g_lload_n (pc := 0) C 0 dX2_greatestDivisor_0 rfl rfl ?_
  refine g_lstore (pc := 1) C (lv' := [(4, .long (p0)), (0, .long (p0)), (2, .long (p1))]) rfl dX2_greatestDivisor_1 (Nat.le_of_ble_eq_true rfl) rfl ?_
  refine g_lload_n (pc := 3) C 2 dX2_greatestDivisor_3 rfl rfl ?_
  refine g_lstore (pc := 4) C (lv' := [(6, .long (p1)), (4, .long (p0)), (0, .long (p0)), (2, .long (p1))]) rfl dX2_greatestDivisor_4 (Nat.le_of_ble_eq_true rfl) rfl ?_
  refine g_iconst (pc := 6) C (v := (0 : Int32)) dX2_greatestDivisor_6 (by decide) ?_
  refine g_istore (pc := 7) C (lv' := [(8, .int ((0 : Int32))), (6, .long (p1)), (4, .long (p0)), (0, .long (p0)), (2, .long (p1))]) rfl dX2_greatestDivisor_7 (Nat.le_of_ble_eq_true rfl) rfl ?_
  exact g_lv [2, 1, 0] rfl (bX2_greatestDivisor_9 C hr n σ (p0) (p1) ((0 : Int32)) h)
abbrev rmX2_reduce : Room := { frames := 1, cells := 0, slots := 0, locals := 30 }
set_option maxRecDepth 20000 in
theorem qX2_reduce_F24 : Cond.fieldLink RX2 24 "PinFrame$Fraction" "over" "J" ∈ wsX2_reduce := by decide +kernel
set_option maxRecDepth 20000 in
theorem qX2_reduce_F28 : Cond.fieldLink RX2 28 "PinFrame$Fraction" "under" "J" ∈ wsX2_reduce := by decide +kernel
set_option maxRecDepth 20000 in
theorem qX2_reduce_MC9 : Cond.code Lib.MathLoose.abs_long.x Lib.MathLoose.abs_long.code 2 (some .long) ∈ wsX2_reduce := by decide +kernel
set_option maxRecDepth 20000 in
theorem qX2_reduce_MI9 : Cond.initialized "java/lang/Math" ∈ wsX2_reduce := by decide +kernel
set_option maxRecDepth 20000 in
theorem qX2_reduce_ML9 : Cond.methodLink RX2 9 Lib.MathLoose.abs_long.x ∈ wsX2_reduce := by decide +kernel
set_option maxRecDepth 20000 in
theorem qX2_reduce_MS9 : Cond.static Lib.MathLoose.abs_long.x ∈ wsX2_reduce := by decide +kernel
set_option maxRecDepth 20000 in
theorem qX2_reduce_NI_X7_quotient : Cond.initialized RX7 ∈ wsX2_reduce := by decide +kernel
set_option maxRecDepth 20000 in
theorem qX2_reduce_NS_X7_quotient : Cond.static yX7_quotient ∈ wsX2_reduce := by decide +kernel
set_option maxRecDepth 20000 in
theorem iX2_reduce_X2 : ∀ w ∈ u_ws RX2 TX2 2, w ∈ wsX2_reduce := by decide +kernel
set_option maxHeartbeats 4000000 in
set_option maxRecDepth 20000 in
theorem bX2_reduce_27 (C : hv_C p s m args meth c cX2_reduce 9 wsX2_reduce RX2 D (hv_tys cy)) (hr : meth.sig.returnType = none) {n : Nat} {o : hv_St} : ∀ (σ : hv_St) (x1 : Int64) (x3 : Int64) (z0 : Int64), kX2_reduce_27 n σ x1 x3 z0 = some o → hv_G p l e (headSpec wsX2_reduce rmX2_reduce).room s m args below meth c 9 D 55 a (hv_XE a cy) 0 0 (hv_MQ D 55 a (hv_XE a cy) below args s none o) σ 27 [(0, .ref (a 26)), (1, .long (x1)), (3, .long (x3))] [.long (z0)] := by
  intro σ x1 x3 z0 h
  unfold kX2_reduce_27 at h
  refine g_lstore (pc := 27) C (lv' := [(7, .long (z0)), (0, .ref (a 26)), (1, .long (x1)), (3, .long (x3))]) rfl dX2_reduce_27 (Nat.le_of_ble_eq_true rfl) rfl ?_
  refine g_aload_n (pc := 29) C 1 dX2_reduce_29 rfl rfl ?_
  refine g_lload_n (pc := 30) C 2 dX2_reduce_30 rfl rfl ?_
  refine g_lload (pc := 31) C 0 dX2_reduce_31 rfl ?_
  obtain ⟨r33, s33, hc33, h⟩ := hv_b2_some h
  refine g_callSN (pc := 33) (σ1 := s33) (v := (some (.long (r33)))) (As := [.long (x1), .long (z0)]) (rest := [.ref (a 26)]) C (vX7_quotient hc33) (va_cnB 2 C.1.2.2.2.2 gX2_reduce_X7_quotient_n21 rfl rfl rfl (C.2.1.2 _ (List.mem_of_getElem? (i := 9) rfl)) (C.1.2.2.2.2 _ qX2_reduce_NI_X7_quotient) (by decide +kernel) ⟨Nat.le_of_ble_eq_true rfl, Nat.le_of_ble_eq_true rfl⟩) qX2_reduce_NS_X7_quotient rfl rfl (Nat.le_of_ble_eq_true rfl) dX2_reduce_33 ⟨Nat.zero_le _, Nat.zero_le _⟩ ?_
  refine g_st (st' := [.long (r33), .ref (a 26)]) rfl ?_
  obtain ⟨s36, es36, h⟩ := hv_let_some h
  refine gx_put_26_0 (pc := 36) C es36 iX2_reduce_X2 qX2_reduce_F24 dX2_reduce_36 ?_
  refine g_aload_n (pc := 39) C 1 dX2_reduce_39 rfl rfl ?_
  refine g_lload_n (pc := 40) C 3 dX2_reduce_40 rfl rfl ?_
  refine g_lload (pc := 41) C 0 dX2_reduce_41 rfl ?_
  obtain ⟨r43, s43, hc43, h⟩ := hv_b2_some h
  refine g_callSN (pc := 43) (σ1 := s43) (v := (some (.long (r43)))) (As := [.long (x3), .long (z0)]) (rest := [.ref (a 26)]) C (vX7_quotient hc43) (va_cnB 2 C.1.2.2.2.2 gX2_reduce_X7_quotient_n21 rfl rfl rfl (C.2.1.2 _ (List.mem_of_getElem? (i := 9) rfl)) (C.1.2.2.2.2 _ qX2_reduce_NI_X7_quotient) (by decide +kernel) ⟨Nat.le_of_ble_eq_true rfl, Nat.le_of_ble_eq_true rfl⟩) qX2_reduce_NS_X7_quotient rfl rfl (Nat.le_of_ble_eq_true rfl) dX2_reduce_43 ⟨Nat.zero_le _, Nat.zero_le _⟩ ?_
  refine g_st (st' := [.long (r43), .ref (a 26)]) rfl ?_
  obtain ⟨s46, es46, h⟩ := hv_let_some h
  refine gx_put_26_1 (pc := 46) C es46 iX2_reduce_X2 qX2_reduce_F28 dX2_reduce_46 ?_
  cases h
  exact g_vret (pc := 49) C hr dX2_reduce_49
set_option maxHeartbeats 4000000 in
set_option maxRecDepth 20000 in
theorem vX2_reduce {n : Nat} {σ : hv_St} {p0 : Int64} {p1 : Int64} {o : hv_St} (h : mX2_reduce n σ p0 p1 = some o) : hv_M l yX2_reduce wsX2_reduce rmX2_reduce D (hv_tys cy) 55 a (hv_XE a cy) [.ref (a 26), .long (p0), .long (p1)] σ none o := by
  refine hv_enter (own := RX2) (cc := cX2_reduce) (maxL := 9) (ret := none) (by decide) rfl rfl (Nat.le_of_ble_eq_true rfl) ?_
  intro p e s m args below meth c C hr
  unfold mX2_reduce at h
  refine g_lv [0, 1, 2] (lv' := [(0, .ref (a 26)), (1, .long (p0)), (3, .long (p1))]) rfl ?_
  refine g_lload_n (pc := 0) C 1 dX2_reduce_0 rfl rfl ?_
  refine g_mabsL (pc := 1) C qX2_reduce_ML9 qX2_reduce_MS9 qX2_reduce_MI9 qX2_reduce_MC9 (Nat.le_of_ble_eq_true rfl) (Nat.le_of_ble_eq_true rfl) ⟨Nat.zero_le _, Nat.zero_le _⟩ dX2_reduce_1 ?_
  obtain ⟨y_1, ey_1, h⟩ := hv_let_some h
  rw [← ey_1]
  refine g_lload_n (pc := 4) C 2 dX2_reduce_4 rfl rfl ?_
  refine g_mabsL (pc := 5) C qX2_reduce_ML9 qX2_reduce_MS9 qX2_reduce_MI9 qX2_reduce_MC9 (Nat.le_of_ble_eq_true rfl) (Nat.le_of_ble_eq_true rfl) ⟨Nat.zero_le _, Nat.zero_le _⟩ dX2_reduce_5 ?_
  obtain ⟨y_5, ey_5, h⟩ := hv_let_some h
  rw [← ey_5]
  obtain ⟨r8, s8, hc8, h⟩ := hv_b2_some h
  refine g_callS (pc := 8) (σ1 := s8) (v := (some (.long (r8)))) (As := [.long (y_1), .long (y_5)]) (rest := []) C (vX2_greatestDivisor hc8) (va_cwS 2 C.1.2.2.2.2 gX2_reduce_X2_greatestDivisor rfl rfl rfl (by decide +kernel) ⟨Nat.le_of_ble_eq_true rfl, Nat.le_of_ble_eq_true rfl⟩) rfl rfl (Nat.le_of_ble_eq_true rfl) dX2_reduce_8 ⟨Nat.zero_le _, Nat.zero_le _⟩ ?_
  refine g_st (st' := [.long (r8)]) rfl ?_
  refine g_lstore (pc := 11) C (lv' := [(5, .long (r8)), (0, .ref (a 26)), (1, .long (p0)), (3, .long (p1))]) rfl dX2_reduce_11 (Nat.le_of_ble_eq_true rfl) rfl ?_
  refine g_lload_n (pc := 13) C 3 dX2_reduce_13 rfl rfl ?_
  refine g_lconst (pc := 14) C (v := (0 : Int64)) dX2_reduce_14 (by decide) ?_
  refine g_lcmp (pc := 15) C dX2_reduce_15 ?_
  refine g_if_ge (pc := 16) (tgt := 25) C dX2_reduce_16 (by decide) (fun c16 => ?_) (fun c16 => ?_)
  · rw [if_pos c16] at h
    refine g_lload (pc := 25) C 0 dX2_reduce_25 rfl ?_
    exact g_lv [1, 2, 3] rfl (bX2_reduce_27 C hr s8 (p0) (p1) (r8) h)
  · rw [if_neg c16] at h
    refine g_lload (pc := 19) C 0 dX2_reduce_19 rfl ?_
    refine g_lneg (pc := 21) C dX2_reduce_21 ?_
    refine g_goto (pc := 22) C (tgt := 27) dX2_reduce_22 (by decide) ?_
    exact g_lv [1, 2, 3] rfl (bX2_reduce_27 C hr s8 (p0) (p1) (-(r8)) h)
abbrev rmX3_isPin : Room := { frames := 0, cells := 0, slots := 0, locals := 0 }
set_option maxRecDepth 20000 in
theorem qX3_isPin_F34 : Cond.fieldLink RX3 34 "PinFrame$Frame" "pins" "I" ∈ wsX3_isPin := by decide +kernel
set_option maxRecDepth 20000 in
theorem iX3_isPin_X3 : ∀ w ∈ u_ws RX3 TX3 10, w ∈ wsX3_isPin := by decide +kernel
set_option maxHeartbeats 4000000 in
set_option maxRecDepth 20000 in
theorem bX3_isPin_16 (C : hv_C p s m args meth c cX3_isPin 2 wsX3_isPin RX3 D (hv_tys cy)) (hr : meth.sig.returnType = (some .boolean)) {n : Nat} {o : Int32 × hv_St} : ∀ (σ : hv_St), kX3_isPin_16 n σ = some o → hv_G p l e (headSpec wsX3_isPin rmX3_isPin).room s m args below meth c 2 D 55 a (hv_XE a cy) 0 0 (hv_MQ D 55 a (hv_XE a cy) below args s (some (.int o.1)) o.2) σ 16 [] [] := by
  intro σ h
  unfold kX3_isPin_16 at h
  refine g_iconst (pc := 16) C (v := (0 : Int32)) dX3_isPin_16 (by decide) ?_
  cases h
  exact g_zret (pc := 17) (x := (0 : Int32)) C hr (by decide) dX3_isPin_17
set_option maxHeartbeats 4000000 in
set_option maxRecDepth 20000 in
theorem vX3_isPin {n : Nat} {σ : hv_St} {p0 : Int32} {o : Int32 × hv_St} (h : mX3_isPin n σ p0 = some o) : hv_M l yX3_isPin wsX3_isPin rmX3_isPin D (hv_tys cy) 55 a (hv_XE a cy) [.ref (a 1), .int (p0)] σ (some (.int o.1)) o.2 := by
  refine hv_enter (own := RX3) (cc := cX3_isPin) (maxL := 2) (ret := (some .boolean)) (by decide) rfl rfl (Nat.le_of_ble_eq_true rfl) ?_
  intro p e s m args below meth c C hr
  unfold mX3_isPin at h
  refine g_lv [0, 1] (lv' := [(0, .ref (a 1)), (1, .int (p0))]) rfl ?_
  refine g_iload_n (pc := 0) C 1 dX3_isPin_0 rfl rfl ?_
  refine g_if_lt (pc := 1) (tgt := 16) C dX3_isPin_1 (by decide) (fun c1 => ?_) (fun c1 => ?_)
  · rw [if_pos c1] at h
    exact g_lv [] rfl (bX3_isPin_16 C hr σ h)
  · rw [if_neg c1] at h
    refine g_iload_n (pc := 4) C 1 dX3_isPin_4 rfl rfl ?_
    refine g_aload_n (pc := 5) C 0 dX3_isPin_5 rfl rfl ?_
    refine gx_get_1_0 (pc := 6) C iX3_isPin_X3 qX3_isPin_F34 dX3_isPin_6 ?_
    refine g_icmp_ge (pc := 9) (tgt := 16) C dX3_isPin_9 (by decide) (fun c9 => ?_) (fun c9 => ?_)
    · rw [if_pos c9] at h
      exact g_lv [] rfl (bX3_isPin_16 C hr σ h)
    · rw [if_neg c9] at h
      refine g_iconst (pc := 12) C (v := (1 : Int32)) dX3_isPin_12 (by decide) ?_
      refine g_goto (pc := 13) C (tgt := 17) dX3_isPin_13 (by decide) ?_
      cases h
      exact g_zret (pc := 17) (x := (1 : Int32)) C hr (by decide) dX3_isPin_17
abbrev rmX3_isBar : Room := { frames := 0, cells := 0, slots := 0, locals := 0 }
set_option maxRecDepth 20000 in
theorem qX3_isBar_F38 : Cond.fieldLink RX3 38 "PinFrame$Frame" "bars" "I" ∈ wsX3_isBar := by decide +kernel
set_option maxRecDepth 20000 in
theorem iX3_isBar_X3 : ∀ w ∈ u_ws RX3 TX3 10, w ∈ wsX3_isBar := by decide +kernel
set_option maxHeartbeats 4000000 in
set_option maxRecDepth 20000 in
theorem bX3_isBar_16 (C : hv_C p s m args meth c cX3_isBar 2 wsX3_isBar RX3 D (hv_tys cy)) (hr : meth.sig.returnType = (some .boolean)) {n : Nat} {o : Int32 × hv_St} : ∀ (σ : hv_St), kX3_isBar_16 n σ = some o → hv_G p l e (headSpec wsX3_isBar rmX3_isBar).room s m args below meth c 2 D 55 a (hv_XE a cy) 0 0 (hv_MQ D 55 a (hv_XE a cy) below args s (some (.int o.1)) o.2) σ 16 [] [] := by
  intro σ h
  unfold kX3_isBar_16 at h
  refine g_iconst (pc := 16) C (v := (0 : Int32)) dX3_isBar_16 (by decide) ?_
  cases h
  exact g_zret (pc := 17) (x := (0 : Int32)) C hr (by decide) dX3_isBar_17
set_option maxHeartbeats 4000000 in
set_option maxRecDepth 20000 in
theorem vX3_isBar {n : Nat} {σ : hv_St} {p0 : Int32} {o : Int32 × hv_St} (h : mX3_isBar n σ p0 = some o) : hv_M l yX3_isBar wsX3_isBar rmX3_isBar D (hv_tys cy) 55 a (hv_XE a cy) [.ref (a 1), .int (p0)] σ (some (.int o.1)) o.2 := by
  refine hv_enter (own := RX3) (cc := cX3_isBar) (maxL := 2) (ret := (some .boolean)) (by decide) rfl rfl (Nat.le_of_ble_eq_true rfl) ?_
  intro p e s m args below meth c C hr
  unfold mX3_isBar at h
  refine g_lv [0, 1] (lv' := [(0, .ref (a 1)), (1, .int (p0))]) rfl ?_
  refine g_iload_n (pc := 0) C 1 dX3_isBar_0 rfl rfl ?_
  refine g_if_lt (pc := 1) (tgt := 16) C dX3_isBar_1 (by decide) (fun c1 => ?_) (fun c1 => ?_)
  · rw [if_pos c1] at h
    exact g_lv [] rfl (bX3_isBar_16 C hr σ h)
  · rw [if_neg c1] at h
    refine g_iload_n (pc := 4) C 1 dX3_isBar_4 rfl rfl ?_
    refine g_aload_n (pc := 5) C 0 dX3_isBar_5 rfl rfl ?_
    refine gx_get_1_1 (pc := 6) C iX3_isBar_X3 qX3_isBar_F38 dX3_isBar_6 ?_
    refine g_icmp_ge (pc := 9) (tgt := 16) C dX3_isBar_9 (by decide) (fun c9 => ?_) (fun c9 => ?_)
    · rw [if_pos c9] at h
      exact g_lv [] rfl (bX3_isBar_16 C hr σ h)
    · rw [if_neg c9] at h
      refine g_iconst (pc := 12) C (v := (1 : Int32)) dX3_isBar_12 (by decide) ?_
      refine g_goto (pc := 13) C (tgt := 17) dX3_isBar_13 (by decide) ?_
      cases h
      exact g_zret (pc := 17) (x := (1 : Int32)) C hr (by decide) dX3_isBar_17
abbrev rmX3_isOn : Room := { frames := 1, cells := 0, slots := 0, locals := 21 }
set_option maxRecDepth 20000 in
theorem qX3_isOn_F45 : Cond.fieldLink RX3 45 "PinFrame$Frame" "on" "I" ∈ wsX3_isOn := by decide +kernel
set_option maxRecDepth 20000 in
theorem qX3_isOn_NI_X7_has : Cond.initialized RX7 ∈ wsX3_isOn := by decide +kernel
set_option maxRecDepth 20000 in
theorem qX3_isOn_NS_X7_has : Cond.static yX7_has ∈ wsX3_isOn := by decide +kernel
set_option maxRecDepth 20000 in
theorem iX3_isOn_X3 : ∀ w ∈ u_ws RX3 TX3 10, w ∈ wsX3_isOn := by decide +kernel
set_option maxHeartbeats 4000000 in
set_option maxRecDepth 20000 in
theorem bX3_isOn_23 (C : hv_C p s m args meth c cX3_isOn 2 wsX3_isOn RX3 D (hv_tys cy)) (hr : meth.sig.returnType = (some .boolean)) {n : Nat} {o : Int32 × hv_St} : ∀ (σ : hv_St), kX3_isOn_23 n σ = some o → hv_G p l e (headSpec wsX3_isOn rmX3_isOn).room s m args below meth c 2 D 55 a (hv_XE a cy) 0 0 (hv_MQ D 55 a (hv_XE a cy) below args s (some (.int o.1)) o.2) σ 23 [] [] := by
  intro σ h
  unfold kX3_isOn_23 at h
  refine g_iconst (pc := 23) C (v := (0 : Int32)) dX3_isOn_23 (by decide) ?_
  cases h
  exact g_zret (pc := 24) (x := (0 : Int32)) C hr (by decide) dX3_isOn_24
set_option maxHeartbeats 4000000 in
set_option maxRecDepth 20000 in
theorem vX3_isOn {n : Nat} {σ : hv_St} {p0 : Int32} {o : Int32 × hv_St} (h : mX3_isOn n σ p0 = some o) : hv_M l yX3_isOn wsX3_isOn rmX3_isOn D (hv_tys cy) 55 a (hv_XE a cy) [.ref (a 1), .int (p0)] σ (some (.int o.1)) o.2 := by
  refine hv_enter (own := RX3) (cc := cX3_isOn) (maxL := 2) (ret := (some .boolean)) (by decide) rfl rfl (Nat.le_of_ble_eq_true rfl) ?_
  intro p e s m args below meth c C hr
  unfold mX3_isOn at h
  refine g_lv [0, 1] (lv' := [(0, .ref (a 1)), (1, .int (p0))]) rfl ?_
  refine g_aload_n (pc := 0) C 0 dX3_isOn_0 rfl rfl ?_
  refine g_iload_n (pc := 1) C 1 dX3_isOn_1 rfl rfl ?_
  obtain ⟨r2, s2, hc2, h⟩ := hv_b2_some h
  refine g_callV (pc := 2) (σ1 := s2) (v := (some (.int (r2)))) (As := [.int (p0)]) (rest := []) C 1 (vX3_isBar hc2) (cwV 1 C.1.2.2.2.2 gX3_isOn_X3_isBar rfl rfl rfl (by decide +kernel) ⟨Nat.le_of_ble_eq_true rfl, Nat.le_of_ble_eq_true rfl⟩) (Nat.le_of_ble_eq_true rfl) rfl rfl rfl rfl (Nat.le_of_ble_eq_true rfl) dX3_isOn_2 ⟨Nat.zero_le _, Nat.zero_le _⟩ ?_
  refine g_st (st' := [.int (r2)]) rfl ?_
  refine g_if_eq (pc := 5) (tgt := 23) C dX3_isOn_5 (by decide) (fun c5 => ?_) (fun c5 => ?_)
  · rw [if_pos c5] at h
    exact g_lv [] rfl (bX3_isOn_23 C hr s2 h)
  · rw [if_neg c5] at h
    refine g_aload_n (pc := 8) C 0 dX3_isOn_8 rfl rfl ?_
    refine gx_get_1_2 (pc := 9) C iX3_isOn_X3 qX3_isOn_F45 dX3_isOn_9 ?_
    refine g_iload_n (pc := 12) C 1 dX3_isOn_12 rfl rfl ?_
    obtain ⟨r13, s13, hc13, h⟩ := hv_b2_some h
    refine g_callSN (pc := 13) (σ1 := s13) (v := (some (.int (r13)))) (As := [.int (s2.1 1 2), .int (p0)]) (rest := []) C (vX7_has hc13) (va_cnB 2 C.1.2.2.2.2 gX3_isOn_X7_has_n48 rfl rfl rfl (C.2.1.2 _ (List.mem_of_getElem? (i := 3) rfl)) (C.1.2.2.2.2 _ qX3_isOn_NI_X7_has) (by decide +kernel) ⟨Nat.le_of_ble_eq_true rfl, Nat.le_of_ble_eq_true rfl⟩) qX3_isOn_NS_X7_has rfl rfl (Nat.le_of_ble_eq_true rfl) dX3_isOn_13 ⟨Nat.zero_le _, Nat.zero_le _⟩ ?_
    refine g_st (st' := [.int (r13)]) rfl ?_
    refine g_if_eq (pc := 16) (tgt := 23) C dX3_isOn_16 (by decide) (fun c16 => ?_) (fun c16 => ?_)
    · rw [if_pos c16] at h
      exact g_lv [] rfl (bX3_isOn_23 C hr s13 h)
    · rw [if_neg c16] at h
      refine g_iconst (pc := 19) C (v := (1 : Int32)) dX3_isOn_19 (by decide) ?_
      refine g_goto (pc := 20) C (tgt := 24) dX3_isOn_20 (by decide) ?_
      cases h
      exact g_zret (pc := 24) (x := (1 : Int32)) C hr (by decide) dX3_isOn_24
abbrev rmX3_hasPinAt : Room := { frames := 0, cells := 0, slots := 0, locals := 0 }
set_option maxRecDepth 20000 in
theorem qX3_hasPinAt_F34 : Cond.fieldLink RX3 34 "PinFrame$Frame" "pins" "I" ∈ wsX3_hasPinAt := by decide +kernel
set_option maxRecDepth 20000 in
theorem qX3_hasPinAt_F9 : Cond.fieldLink RX3 9 "PinFrame$Frame" "spot" "[I" ∈ wsX3_hasPinAt := by decide +kernel
set_option maxRecDepth 20000 in
theorem iX3_hasPinAt_X3 : ∀ w ∈ u_ws RX3 TX3 10, w ∈ wsX3_hasPinAt := by decide +kernel
set_option maxHeartbeats 4000000 in
set_option maxRecDepth 20000 in
theorem bX3_hasPinAt_38 (C : hv_C p s m args meth c cX3_hasPinAt 4 wsX3_hasPinAt RX3 D (hv_tys cy)) (hr : meth.sig.returnType = (some .boolean)) {n : Nat} {o : Int32 × hv_St} {r2 : hv_St → Int32 → Int32 → Int32 → Option (Int32 × hv_St)} (hr2 : ∀ (σ : hv_St) (x1 : Int32) (x2 : Int32) (x3 : Int32), r2 σ x1 x2 x3 = some o → hv_G p l e (headSpec wsX3_hasPinAt rmX3_hasPinAt).room s m args below meth c 4 D 55 a (hv_XE a cy) 0 0 (hv_MQ D 55 a (hv_XE a cy) below args s (some (.int o.1)) o.2) σ 2 [(0, .ref (a 1)), (1, .int (x1)), (2, .int (x2)), (3, .int (x3))] []) : ∀ (σ : hv_St) (x1 : Int32) (x2 : Int32) (x3 : Int32), kX3_hasPinAt_38 n r2 σ x1 x2 x3 = some o → hv_G p l e (headSpec wsX3_hasPinAt rmX3_hasPinAt).room s m args below meth c 4 D 55 a (hv_XE a cy) 0 0 (hv_MQ D 55 a (hv_XE a cy) below args s (some (.int o.1)) o.2) σ 38 [(0, .ref (a 1)), (1, .int (x1)), (2, .int (x2)), (3, .int (x3))] [] := by
  intro σ x1 x2 x3 h
  unfold kX3_hasPinAt_38 at h
  refine g_iinc (pc := 38) C 3 (v := x3 + 1) (lv' := [(3, .int (x3 + 1)), (0, .ref (a 1)), (1, .int (x1)), (2, .int (x2))]) dX3_hasPinAt_38 rfl rfl (Nat.le_of_ble_eq_true rfl) rfl ?_
  refine g_goto (pc := 41) C (tgt := 2) dX3_hasPinAt_41 (by decide) ?_
  exact g_lv [1, 2, 3, 0] rfl (hr2 σ (x1) (x2) (x3 + 1) h)
set_option maxHeartbeats 4000000 in
set_option maxRecDepth 20000 in
theorem bX3_hasPinAt_2 (C : hv_C p s m args meth c cX3_hasPinAt 4 wsX3_hasPinAt RX3 D (hv_tys cy)) (hr : meth.sig.returnType = (some .boolean)) {n : Nat} {o : Int32 × hv_St} : ∀ (i : Nat) (σ : hv_St) (x1 : Int32) (x2 : Int32) (x3 : Int32), kX3_hasPinAt_2 n i σ x1 x2 x3 = some o → hv_G p l e (headSpec wsX3_hasPinAt rmX3_hasPinAt).room s m args below meth c 4 D 55 a (hv_XE a cy) 0 0 (hv_MQ D 55 a (hv_XE a cy) below args s (some (.int o.1)) o.2) σ 2 [(0, .ref (a 1)), (1, .int (x1)), (2, .int (x2)), (3, .int (x3))] [] := by
  intro i
  induction i with
  | zero =>
    intro σ x1 x2 x3 h
    cases h
  | succ i ih =>
    intro σ x1 x2 x3 h
    generalize hg : kX3_hasPinAt_2 n i = r2 at ih
    have hr2 := ih
    replace h : kX3_hasPinAt_2_b n r2 σ x1 x2 x3 = some o := by rw [← hg]; exact h
    unfold kX3_hasPinAt_2_b at h
    refine g_iload_n (pc := 2) C 3 dX3_hasPinAt_2 rfl rfl ?_
    refine g_aload_n (pc := 3) C 0 dX3_hasPinAt_3 rfl rfl ?_
    refine gx_get_1_0 (pc := 4) C iX3_hasPinAt_X3 qX3_hasPinAt_F34 dX3_hasPinAt_4 ?_
    refine g_icmp_ge (pc := 7) (tgt := 44) C dX3_hasPinAt_7 (by decide) (fun c7 => ?_) (fun c7 => ?_)
    · rw [if_pos c7] at h
      refine g_iconst (pc := 44) C (v := (0 : Int32)) dX3_hasPinAt_44 (by decide) ?_
      cases h
      exact g_zret (pc := 45) (x := (0 : Int32)) C hr (by decide) dX3_hasPinAt_45
    · rw [if_neg c7] at h
      refine g_aload_n (pc := 10) C 0 dX3_hasPinAt_10 rfl rfl ?_
      refine gx_get_1_3 (pc := 11) C iX3_hasPinAt_X3 qX3_hasPinAt_F9 dX3_hasPinAt_11 ?_
      refine g_iconst (pc := 14) C (v := (2 : Int32)) dX3_hasPinAt_14 (by decide) ?_
      refine g_iload_n (pc := 15) C 3 dX3_hasPinAt_15 rfl rfl ?_
      refine g_imul (pc := 16) C dX3_hasPinAt_16 ?_
      obtain ⟨k17, h⟩ := hv_if_some h
      refine gx_ld_2 (pc := 17) C k17 dX3_hasPinAt_17 ?_
      refine g_iload_n (pc := 18) C 1 dX3_hasPinAt_18 rfl rfl ?_
      refine g_icmp_ne (pc := 19) (tgt := 38) C dX3_hasPinAt_19 (by decide) (fun c19 => ?_) (fun c19 => ?_)
      · rw [if_neg c19] at h
        exact g_lv [0, 1, 2, 3] rfl (bX3_hasPinAt_38 C hr hr2 σ (x1) (x2) (x3) h)
      · rw [if_pos c19] at h
        refine g_aload_n (pc := 22) C 0 dX3_hasPinAt_22 rfl rfl ?_
        refine gx_get_1_3 (pc := 23) C iX3_hasPinAt_X3 qX3_hasPinAt_F9 dX3_hasPinAt_23 ?_
        refine g_iconst (pc := 26) C (v := (2 : Int32)) dX3_hasPinAt_26 (by decide) ?_
        refine g_iload_n (pc := 27) C 3 dX3_hasPinAt_27 rfl rfl ?_
        refine g_imul (pc := 28) C dX3_hasPinAt_28 ?_
        refine g_iconst (pc := 29) C (v := (1 : Int32)) dX3_hasPinAt_29 (by decide) ?_
        refine g_iadd (pc := 30) C dX3_hasPinAt_30 ?_
        obtain ⟨k31, h⟩ := hv_if_some h
        refine gx_ld_2 (pc := 31) C k31 dX3_hasPinAt_31 ?_
        refine g_iload_n (pc := 32) C 2 dX3_hasPinAt_32 rfl rfl ?_
        refine g_icmp_ne (pc := 33) (tgt := 38) C dX3_hasPinAt_33 (by decide) (fun c33 => ?_) (fun c33 => ?_)
        · rw [if_neg c33] at h
          exact g_lv [0, 1, 2, 3] rfl (bX3_hasPinAt_38 C hr hr2 σ (x1) (x2) (x3) h)
        · rw [if_pos c33] at h
          refine g_iconst (pc := 36) C (v := (1 : Int32)) dX3_hasPinAt_36 (by decide) ?_
          cases h
          exact g_zret (pc := 37) (x := (1 : Int32)) C hr (by decide) dX3_hasPinAt_37
set_option maxHeartbeats 4000000 in
set_option maxRecDepth 20000 in
theorem vX3_hasPinAt {n : Nat} {σ : hv_St} {p0 : Int32} {p1 : Int32} {o : Int32 × hv_St} (h : mX3_hasPinAt n σ p0 p1 = some o) : hv_M l yX3_hasPinAt wsX3_hasPinAt rmX3_hasPinAt D (hv_tys cy) 55 a (hv_XE a cy) [.ref (a 1), .int (p0), .int (p1)] σ (some (.int o.1)) o.2 := by
  refine hv_enter (own := RX3) (cc := cX3_hasPinAt) (maxL := 4) (ret := (some .boolean)) (by decide) rfl rfl (Nat.le_of_ble_eq_true rfl) ?_
  intro p e s m args below meth c C hr
  unfold mX3_hasPinAt at h
  refine g_lv [0, 1, 2] (lv' := [(0, .ref (a 1)), (1, .int (p0)), (2, .int (p1))]) rfl ?_
  refine g_iconst (pc := 0) C (v := (0 : Int32)) dX3_hasPinAt_0 (by decide) ?_
  refine g_istore_n (pc := 1) C (lv' := [(3, .int ((0 : Int32))), (0, .ref (a 1)), (1, .int (p0)), (2, .int (p1))]) rfl dX3_hasPinAt_1 rfl (Nat.le_of_ble_eq_true rfl) rfl ?_
  exact g_lv [1, 2, 3, 0] rfl (bX3_hasPinAt_2 C hr n σ (p0) (p1) ((0 : Int32)) h)
abbrev rmX3_hasBar : Room := { frames := 0, cells := 0, slots := 0, locals := 0 }
set_option maxRecDepth 20000 in
theorem qX3_hasBar_F22 : Cond.fieldLink RX3 22 "PinFrame$Frame" "one" "[I" ∈ wsX3_hasBar := by decide +kernel
set_option maxRecDepth 20000 in
theorem qX3_hasBar_F25 : Cond.fieldLink RX3 25 "PinFrame$Frame" "other" "[I" ∈ wsX3_hasBar := by decide +kernel
set_option maxRecDepth 20000 in
theorem qX3_hasBar_F38 : Cond.fieldLink RX3 38 "PinFrame$Frame" "bars" "I" ∈ wsX3_hasBar := by decide +kernel
set_option maxRecDepth 20000 in
theorem iX3_hasBar_X3 : ∀ w ∈ u_ws RX3 TX3 10, w ∈ wsX3_hasBar := by decide +kernel
set_option maxHeartbeats 4000000 in
set_option maxRecDepth 20000 in
theorem bX3_hasBar_52 (C : hv_C p s m args meth c cX3_hasBar 4 wsX3_hasBar RX3 D (hv_tys cy)) (hr : meth.sig.returnType = (some .boolean)) {n : Nat} {o : Int32 × hv_St} {r2 : hv_St → Int32 → Int32 → Int32 → Option (Int32 × hv_St)} (hr2 : ∀ (σ : hv_St) (x1 : Int32) (x2 : Int32) (x3 : Int32), r2 σ x1 x2 x3 = some o → hv_G p l e (headSpec wsX3_hasBar rmX3_hasBar).room s m args below meth c 4 D 55 a (hv_XE a cy) 0 0 (hv_MQ D 55 a (hv_XE a cy) below args s (some (.int o.1)) o.2) σ 2 [(0, .ref (a 1)), (1, .int (x1)), (2, .int (x2)), (3, .int (x3))] []) : ∀ (σ : hv_St) (x1 : Int32) (x2 : Int32) (x3 : Int32), kX3_hasBar_52 n r2 σ x1 x2 x3 = some o → hv_G p l e (headSpec wsX3_hasBar rmX3_hasBar).room s m args below meth c 4 D 55 a (hv_XE a cy) 0 0 (hv_MQ D 55 a (hv_XE a cy) below args s (some (.int o.1)) o.2) σ 52 [(0, .ref (a 1)), (1, .int (x1)), (2, .int (x2)), (3, .int (x3))] [] := by
  intro σ x1 x2 x3 h
  unfold kX3_hasBar_52 at h
  refine g_iinc (pc := 52) C 3 (v := x3 + 1) (lv' := [(3, .int (x3 + 1)), (0, .ref (a 1)), (1, .int (x1)), (2, .int (x2))]) dX3_hasBar_52 rfl rfl (Nat.le_of_ble_eq_true rfl) rfl ?_
  refine g_goto (pc := 55) C (tgt := 2) dX3_hasBar_55 (by decide) ?_
  exact g_lv [1, 2, 3, 0] rfl (hr2 σ (x1) (x2) (x3 + 1) h)
set_option maxHeartbeats 4000000 in
set_option maxRecDepth 20000 in
theorem bX3_hasBar_30 (C : hv_C p s m args meth c cX3_hasBar 4 wsX3_hasBar RX3 D (hv_tys cy)) (hr : meth.sig.returnType = (some .boolean)) {n : Nat} {o : Int32 × hv_St} {r2 : hv_St → Int32 → Int32 → Int32 → Option (Int32 × hv_St)} (hr2 : ∀ (σ : hv_St) (x1 : Int32) (x2 : Int32) (x3 : Int32), r2 σ x1 x2 x3 = some o → hv_G p l e (headSpec wsX3_hasBar rmX3_hasBar).room s m args below meth c 4 D 55 a (hv_XE a cy) 0 0 (hv_MQ D 55 a (hv_XE a cy) below args s (some (.int o.1)) o.2) σ 2 [(0, .ref (a 1)), (1, .int (x1)), (2, .int (x2)), (3, .int (x3))] []) : ∀ (σ : hv_St) (x1 : Int32) (x2 : Int32) (x3 : Int32), kX3_hasBar_30 n r2 σ x1 x2 x3 = some o → hv_G p l e (headSpec wsX3_hasBar rmX3_hasBar).room s m args below meth c 4 D 55 a (hv_XE a cy) 0 0 (hv_MQ D 55 a (hv_XE a cy) below args s (some (.int o.1)) o.2) σ 30 [(0, .ref (a 1)), (1, .int (x1)), (2, .int (x2)), (3, .int (x3))] [] := by
  intro σ x1 x2 x3 h
  unfold kX3_hasBar_30 at h
  refine g_aload_n (pc := 30) C 0 dX3_hasBar_30 rfl rfl ?_
  refine gx_get_1_6 (pc := 31) C iX3_hasBar_X3 qX3_hasBar_F22 dX3_hasBar_31 ?_
  refine g_iload_n (pc := 34) C 3 dX3_hasBar_34 rfl rfl ?_
  obtain ⟨k35, h⟩ := hv_if_some h
  refine gx_ld_5 (pc := 35) C k35 dX3_hasBar_35 ?_
  refine g_iload_n (pc := 36) C 2 dX3_hasBar_36 rfl rfl ?_
  refine g_icmp_ne (pc := 37) (tgt := 52) C dX3_hasBar_37 (by decide) (fun c37 => ?_) (fun c37 => ?_)
  · rw [if_neg c37] at h
    exact g_lv [0, 1, 2, 3] rfl (bX3_hasBar_52 C hr hr2 σ (x1) (x2) (x3) h)
  · rw [if_pos c37] at h
    refine g_aload_n (pc := 40) C 0 dX3_hasBar_40 rfl rfl ?_
    refine gx_get_1_7 (pc := 41) C iX3_hasBar_X3 qX3_hasBar_F25 dX3_hasBar_41 ?_
    refine g_iload_n (pc := 44) C 3 dX3_hasBar_44 rfl rfl ?_
    obtain ⟨k45, h⟩ := hv_if_some h
    refine gx_ld_6 (pc := 45) C k45 dX3_hasBar_45 ?_
    refine g_iload_n (pc := 46) C 1 dX3_hasBar_46 rfl rfl ?_
    refine g_icmp_ne (pc := 47) (tgt := 52) C dX3_hasBar_47 (by decide) (fun c47 => ?_) (fun c47 => ?_)
    · rw [if_neg c47] at h
      exact g_lv [0, 1, 2, 3] rfl (bX3_hasBar_52 C hr hr2 σ (x1) (x2) (x3) h)
    · rw [if_pos c47] at h
      refine g_iconst (pc := 50) C (v := (1 : Int32)) dX3_hasBar_50 (by decide) ?_
      cases h
      exact g_zret (pc := 51) (x := (1 : Int32)) C hr (by decide) dX3_hasBar_51
set_option maxHeartbeats 4000000 in
set_option maxRecDepth 20000 in
theorem bX3_hasBar_2 (C : hv_C p s m args meth c cX3_hasBar 4 wsX3_hasBar RX3 D (hv_tys cy)) (hr : meth.sig.returnType = (some .boolean)) {n : Nat} {o : Int32 × hv_St} : ∀ (i : Nat) (σ : hv_St) (x1 : Int32) (x2 : Int32) (x3 : Int32), kX3_hasBar_2 n i σ x1 x2 x3 = some o → hv_G p l e (headSpec wsX3_hasBar rmX3_hasBar).room s m args below meth c 4 D 55 a (hv_XE a cy) 0 0 (hv_MQ D 55 a (hv_XE a cy) below args s (some (.int o.1)) o.2) σ 2 [(0, .ref (a 1)), (1, .int (x1)), (2, .int (x2)), (3, .int (x3))] [] := by
  intro i
  induction i with
  | zero =>
    intro σ x1 x2 x3 h
    cases h
  | succ i ih =>
    intro σ x1 x2 x3 h
    generalize hg : kX3_hasBar_2 n i = r2 at ih
    have hr2 := ih
    replace h : kX3_hasBar_2_b n r2 σ x1 x2 x3 = some o := by rw [← hg]; exact h
    unfold kX3_hasBar_2_b at h
    refine g_iload_n (pc := 2) C 3 dX3_hasBar_2 rfl rfl ?_
    refine g_aload_n (pc := 3) C 0 dX3_hasBar_3 rfl rfl ?_
    refine gx_get_1_1 (pc := 4) C iX3_hasBar_X3 qX3_hasBar_F38 dX3_hasBar_4 ?_
    refine g_icmp_ge (pc := 7) (tgt := 58) C dX3_hasBar_7 (by decide) (fun c7 => ?_) (fun c7 => ?_)
    · rw [if_pos c7] at h
      refine g_iconst (pc := 58) C (v := (0 : Int32)) dX3_hasBar_58 (by decide) ?_
      cases h
      exact g_zret (pc := 59) (x := (0 : Int32)) C hr (by decide) dX3_hasBar_59
    · rw [if_neg c7] at h
      refine g_aload_n (pc := 10) C 0 dX3_hasBar_10 rfl rfl ?_
      refine gx_get_1_6 (pc := 11) C iX3_hasBar_X3 qX3_hasBar_F22 dX3_hasBar_11 ?_
      refine g_iload_n (pc := 14) C 3 dX3_hasBar_14 rfl rfl ?_
      obtain ⟨k15, h⟩ := hv_if_some h
      refine gx_ld_5 (pc := 15) C k15 dX3_hasBar_15 ?_
      refine g_iload_n (pc := 16) C 1 dX3_hasBar_16 rfl rfl ?_
      refine g_icmp_ne (pc := 17) (tgt := 30) C dX3_hasBar_17 (by decide) (fun c17 => ?_) (fun c17 => ?_)
      · rw [if_neg c17] at h
        exact g_lv [0, 1, 2, 3] rfl (bX3_hasBar_30 C hr hr2 σ (x1) (x2) (x3) h)
      · rw [if_pos c17] at h
        refine g_aload_n (pc := 20) C 0 dX3_hasBar_20 rfl rfl ?_
        refine gx_get_1_7 (pc := 21) C iX3_hasBar_X3 qX3_hasBar_F25 dX3_hasBar_21 ?_
        refine g_iload_n (pc := 24) C 3 dX3_hasBar_24 rfl rfl ?_
        obtain ⟨k25, h⟩ := hv_if_some h
        refine gx_ld_6 (pc := 25) C k25 dX3_hasBar_25 ?_
        refine g_iload_n (pc := 26) C 2 dX3_hasBar_26 rfl rfl ?_
        refine g_icmp_eq (pc := 27) (tgt := 50) C dX3_hasBar_27 (by decide) (fun c27 => ?_) (fun c27 => ?_)
        · rw [if_pos c27] at h
          refine g_iconst (pc := 50) C (v := (1 : Int32)) dX3_hasBar_50 (by decide) ?_
          cases h
          exact g_zret (pc := 51) (x := (1 : Int32)) C hr (by decide) dX3_hasBar_51
        · rw [if_neg c27] at h
          exact g_lv [0, 1, 2, 3] rfl (bX3_hasBar_30 C hr hr2 σ (x1) (x2) (x3) h)
set_option maxHeartbeats 4000000 in
set_option maxRecDepth 20000 in
theorem vX3_hasBar {n : Nat} {σ : hv_St} {p0 : Int32} {p1 : Int32} {o : Int32 × hv_St} (h : mX3_hasBar n σ p0 p1 = some o) : hv_M l yX3_hasBar wsX3_hasBar rmX3_hasBar D (hv_tys cy) 55 a (hv_XE a cy) [.ref (a 1), .int (p0), .int (p1)] σ (some (.int o.1)) o.2 := by
  refine hv_enter (own := RX3) (cc := cX3_hasBar) (maxL := 4) (ret := (some .boolean)) (by decide) rfl rfl (Nat.le_of_ble_eq_true rfl) ?_
  intro p e s m args below meth c C hr
  unfold mX3_hasBar at h
  refine g_lv [0, 1, 2] (lv' := [(0, .ref (a 1)), (1, .int (p0)), (2, .int (p1))]) rfl ?_
  refine g_iconst (pc := 0) C (v := (0 : Int32)) dX3_hasBar_0 (by decide) ?_
  refine g_istore_n (pc := 1) C (lv' := [(3, .int ((0 : Int32))), (0, .ref (a 1)), (1, .int (p0)), (2, .int (p1))]) rfl dX3_hasBar_1 rfl (Nat.le_of_ble_eq_true rfl) rfl ?_
  exact g_lv [1, 2, 3, 0] rfl (bX3_hasBar_2 C hr n σ (p0) (p1) ((0 : Int32)) h)
abbrev rmX3_put : Room := { frames := 0, cells := 0, slots := 0, locals := 0 }
set_option maxRecDepth 20000 in
theorem qX3_put_F9 : Cond.fieldLink RX3 9 "PinFrame$Frame" "spot" "[I" ∈ wsX3_put := by decide +kernel
set_option maxRecDepth 20000 in
theorem iX3_put_X3 : ∀ w ∈ u_ws RX3 TX3 10, w ∈ wsX3_put := by decide +kernel
set_option maxHeartbeats 4000000 in
set_option maxRecDepth 20000 in
theorem vX3_put {n : Nat} {σ : hv_St} {p0 : Int32} {p1 : Int32} {p2 : Int32} {o : hv_St} (h : mX3_put n σ p0 p1 p2 = some o) : hv_M l yX3_put wsX3_put rmX3_put D (hv_tys cy) 55 a (hv_XE a cy) [.ref (a 1), .int (p0), .int (p1), .int (p2)] σ none o := by
  refine hv_enter (own := RX3) (cc := cX3_put) (maxL := 4) (ret := none) (by decide) rfl rfl (Nat.le_of_ble_eq_true rfl) ?_
  intro p e s m args below meth c C hr
  unfold mX3_put at h
  refine g_lv [0, 1, 2, 3] (lv' := [(0, .ref (a 1)), (1, .int (p0)), (2, .int (p1)), (3, .int (p2))]) rfl ?_
  refine g_aload_n (pc := 0) C 0 dX3_put_0 rfl rfl ?_
  refine gx_get_1_3 (pc := 1) C iX3_put_X3 qX3_put_F9 dX3_put_1 ?_
  refine g_iconst (pc := 4) C (v := (2 : Int32)) dX3_put_4 (by decide) ?_
  refine g_iload_n (pc := 5) C 1 dX3_put_5 rfl rfl ?_
  refine g_imul (pc := 6) C dX3_put_6 ?_
  refine g_iload_n (pc := 7) C 2 dX3_put_7 rfl rfl ?_
  obtain ⟨k8, h⟩ := hv_if_some h
  obtain ⟨s8, es8, h⟩ := hv_let_some h
  refine gx_st_2 (pc := 8) C es8 k8 dX3_put_8 ?_
  refine g_aload_n (pc := 9) C 0 dX3_put_9 rfl rfl ?_
  refine gx_get_1_3 (pc := 10) C iX3_put_X3 qX3_put_F9 dX3_put_10 ?_
  refine g_iconst (pc := 13) C (v := (2 : Int32)) dX3_put_13 (by decide) ?_
  refine g_iload_n (pc := 14) C 1 dX3_put_14 rfl rfl ?_
  refine g_imul (pc := 15) C dX3_put_15 ?_
  refine g_iconst (pc := 16) C (v := (1 : Int32)) dX3_put_16 (by decide) ?_
  refine g_iadd (pc := 17) C dX3_put_17 ?_
  refine g_iload_n (pc := 18) C 3 dX3_put_18 rfl rfl ?_
  obtain ⟨k19, h⟩ := hv_if_some h
  obtain ⟨s19, es19, h⟩ := hv_let_some h
  refine gx_st_2 (pc := 19) C es19 k19 dX3_put_19 ?_
  cases h
  exact g_vret (pc := 20) C hr dX3_put_20
abbrev rmX3_addBar : Room := { frames := 0, cells := 0, slots := 0, locals := 0 }
set_option maxRecDepth 20000 in
theorem qX3_addBar_F22 : Cond.fieldLink RX3 22 "PinFrame$Frame" "one" "[I" ∈ wsX3_addBar := by decide +kernel
set_option maxRecDepth 20000 in
theorem qX3_addBar_F25 : Cond.fieldLink RX3 25 "PinFrame$Frame" "other" "[I" ∈ wsX3_addBar := by decide +kernel
set_option maxRecDepth 20000 in
theorem qX3_addBar_F28 : Cond.fieldLink RX3 28 "PinFrame$Frame" "give" "[I" ∈ wsX3_addBar := by decide +kernel
set_option maxRecDepth 20000 in
theorem qX3_addBar_F31 : Cond.fieldLink RX3 31 "PinFrame$Frame" "strength" "[I" ∈ wsX3_addBar := by decide +kernel
set_option maxRecDepth 20000 in
theorem qX3_addBar_F38 : Cond.fieldLink RX3 38 "PinFrame$Frame" "bars" "I" ∈ wsX3_addBar := by decide +kernel
set_option maxRecDepth 20000 in
theorem qX3_addBar_F45 : Cond.fieldLink RX3 45 "PinFrame$Frame" "on" "I" ∈ wsX3_addBar := by decide +kernel
set_option maxRecDepth 20000 in
theorem iX3_addBar_X3 : ∀ w ∈ u_ws RX3 TX3 10, w ∈ wsX3_addBar := by decide +kernel
set_option maxHeartbeats 4000000 in
set_option maxRecDepth 20000 in
theorem vX3_addBar {n : Nat} {σ : hv_St} {p0 : Int32} {p1 : Int32} {p2 : Int32} {o : Int32 × hv_St} (h : mX3_addBar n σ p0 p1 p2 = some o) : hv_M l yX3_addBar wsX3_addBar rmX3_addBar D (hv_tys cy) 55 a (hv_XE a cy) [.ref (a 1), .int (p0), .int (p1), .int (p2)] σ (some (.int o.1)) o.2 := by
  refine hv_enter (own := RX3) (cc := cX3_addBar) (maxL := 5) (ret := (some .int)) (by decide) rfl rfl (Nat.le_of_ble_eq_true rfl) ?_
  intro p e s m args below meth c C hr
  unfold mX3_addBar at h
  refine g_lv [0, 1, 2, 3] (lv' := [(0, .ref (a 1)), (1, .int (p0)), (2, .int (p1)), (3, .int (p2))]) rfl ?_
  refine g_aload_n (pc := 0) C 0 dX3_addBar_0 rfl rfl ?_
  refine gx_get_1_1 (pc := 1) C iX3_addBar_X3 qX3_addBar_F38 dX3_addBar_1 ?_
  obtain ⟨y4_4, ey4_4, h⟩ := hv_let_some h
  refine g_istore (pc := 4) C (lv' := [(4, .int (y4_4)), (0, .ref (a 1)), (1, .int (p0)), (2, .int (p1)), (3, .int (p2))]) ey4_4 dX3_addBar_4 (Nat.le_of_ble_eq_true rfl) rfl ?_
  refine g_aload_n (pc := 6) C 1 dX3_addBar_6 rfl rfl ?_
  refine gx_get_1_6 (pc := 7) C iX3_addBar_X3 qX3_addBar_F22 dX3_addBar_7 ?_
  refine g_iload (pc := 10) C 0 dX3_addBar_10 rfl ?_
  refine g_iload_n (pc := 12) C 2 dX3_addBar_12 rfl rfl ?_
  obtain ⟨k13, h⟩ := hv_if_some h
  obtain ⟨s13, es13, h⟩ := hv_let_some h
  refine gx_st_5 (pc := 13) C es13 k13 dX3_addBar_13 ?_
  refine g_aload_n (pc := 14) C 1 dX3_addBar_14 rfl rfl ?_
  refine gx_get_1_7 (pc := 15) C iX3_addBar_X3 qX3_addBar_F25 dX3_addBar_15 ?_
  refine g_iload (pc := 18) C 0 dX3_addBar_18 rfl ?_
  refine g_iload_n (pc := 20) C 3 dX3_addBar_20 rfl rfl ?_
  obtain ⟨k21, h⟩ := hv_if_some h
  obtain ⟨s21, es21, h⟩ := hv_let_some h
  refine gx_st_6 (pc := 21) C es21 k21 dX3_addBar_21 ?_
  refine g_aload_n (pc := 22) C 1 dX3_addBar_22 rfl rfl ?_
  refine gx_get_1_8 (pc := 23) C iX3_addBar_X3 qX3_addBar_F28 dX3_addBar_23 ?_
  refine g_iload (pc := 26) C 0 dX3_addBar_26 rfl ?_
  refine g_iload_n (pc := 28) C 4 dX3_addBar_28 rfl rfl ?_
  obtain ⟨k29, h⟩ := hv_if_some h
  obtain ⟨s29, es29, h⟩ := hv_let_some h
  refine gx_st_7 (pc := 29) C es29 k29 dX3_addBar_29 ?_
  refine g_aload_n (pc := 30) C 1 dX3_addBar_30 rfl rfl ?_
  refine gx_get_1_9 (pc := 31) C iX3_addBar_X3 qX3_addBar_F31 dX3_addBar_31 ?_
  refine g_iload (pc := 34) C 0 dX3_addBar_34 rfl ?_
  refine g_bipush (pc := 36) C (v := (99 : Int32)) dX3_addBar_36 (by decide) ?_
  obtain ⟨k38, h⟩ := hv_if_some h
  obtain ⟨s38, es38, h⟩ := hv_let_some h
  refine gx_st_8 (pc := 38) C es38 k38 dX3_addBar_38 ?_
  refine g_aload_n (pc := 39) C 1 dX3_addBar_39 rfl rfl ?_
  refine g_dup (pc := 40) C dX3_addBar_40 rfl ?_
  refine gx_get_1_2 (pc := 41) C iX3_addBar_X3 qX3_addBar_F45 dX3_addBar_41 ?_
  refine g_iconst (pc := 44) C (v := (1 : Int32)) dX3_addBar_44 (by decide) ?_
  refine g_iload (pc := 45) C 0 dX3_addBar_45 rfl ?_
  refine g_ishl (pc := 47) C dX3_addBar_47 ?_
  refine g_ior (pc := 48) C dX3_addBar_48 ?_
  obtain ⟨s49, es49, h⟩ := hv_let_some h
  refine gx_put_1_2 (pc := 49) C es49 iX3_addBar_X3 qX3_addBar_F45 dX3_addBar_49 ?_
  refine g_aload_n (pc := 52) C 1 dX3_addBar_52 rfl rfl ?_
  refine g_dup (pc := 53) C dX3_addBar_53 rfl ?_
  refine gx_get_1_1 (pc := 54) C iX3_addBar_X3 qX3_addBar_F38 dX3_addBar_54 ?_
  refine g_iconst (pc := 57) C (v := (1 : Int32)) dX3_addBar_57 (by decide) ?_
  refine g_iadd (pc := 58) C dX3_addBar_58 ?_
  obtain ⟨s59, es59, h⟩ := hv_let_some h
  refine gx_put_1_1 (pc := 59) C es59 iX3_addBar_X3 qX3_addBar_F38 dX3_addBar_59 ?_
  refine g_iload (pc := 62) C 0 dX3_addBar_62 rfl ?_
  cases h
  exact g_iret (pc := 64) C hr dX3_addBar_64
abbrev rmX3_barsAt : Room := { frames := 1, cells := 0, slots := 0, locals := 21 }
set_option maxRecDepth 20000 in
theorem qX3_barsAt_F22 : Cond.fieldLink RX3 22 "PinFrame$Frame" "one" "[I" ∈ wsX3_barsAt := by decide +kernel
set_option maxRecDepth 20000 in
theorem qX3_barsAt_F25 : Cond.fieldLink RX3 25 "PinFrame$Frame" "other" "[I" ∈ wsX3_barsAt := by decide +kernel
set_option maxRecDepth 20000 in
theorem qX3_barsAt_F38 : Cond.fieldLink RX3 38 "PinFrame$Frame" "bars" "I" ∈ wsX3_barsAt := by decide +kernel
set_option maxRecDepth 20000 in
theorem qX3_barsAt_F45 : Cond.fieldLink RX3 45 "PinFrame$Frame" "on" "I" ∈ wsX3_barsAt := by decide +kernel
set_option maxRecDepth 20000 in
theorem qX3_barsAt_NI_X7_has : Cond.initialized RX7 ∈ wsX3_barsAt := by decide +kernel
set_option maxRecDepth 20000 in
theorem qX3_barsAt_NS_X7_has : Cond.static yX7_has ∈ wsX3_barsAt := by decide +kernel
set_option maxRecDepth 20000 in
theorem iX3_barsAt_X3 : ∀ w ∈ u_ws RX3 TX3 10, w ∈ wsX3_barsAt := by decide +kernel
set_option maxHeartbeats 4000000 in
set_option maxRecDepth 20000 in
theorem bX3_barsAt_49 (C : hv_C p s m args meth c cX3_barsAt 4 wsX3_barsAt RX3 D (hv_tys cy)) (hr : meth.sig.returnType = (some .int)) {n : Nat} {o : Int32 × hv_St} {r4 : hv_St → Int32 → Int32 → Int32 → Option (Int32 × hv_St)} (hr4 : ∀ (σ : hv_St) (x1 : Int32) (x2 : Int32) (x3 : Int32), r4 σ x1 x2 x3 = some o → hv_G p l e (headSpec wsX3_barsAt rmX3_barsAt).room s m args below meth c 4 D 55 a (hv_XE a cy) 0 0 (hv_MQ D 55 a (hv_XE a cy) below args s (some (.int o.1)) o.2) σ 4 [(0, .ref (a 1)), (1, .int (x1)), (2, .int (x2)), (3, .int (x3))] []) : ∀ (σ : hv_St) (x1 : Int32) (x2 : Int32) (x3 : Int32), kX3_barsAt_49 n r4 σ x1 x2 x3 = some o → hv_G p l e (headSpec wsX3_barsAt rmX3_barsAt).room s m args below meth c 4 D 55 a (hv_XE a cy) 0 0 (hv_MQ D 55 a (hv_XE a cy) below args s (some (.int o.1)) o.2) σ 49 [(0, .ref (a 1)), (1, .int (x1)), (2, .int (x2)), (3, .int (x3))] [] := by
  intro σ x1 x2 x3 h
  unfold kX3_barsAt_49 at h
  refine g_iinc (pc := 49) C 3 (v := x3 + 1) (lv' := [(3, .int (x3 + 1)), (0, .ref (a 1)), (1, .int (x1)), (2, .int (x2))]) dX3_barsAt_49 rfl rfl (Nat.le_of_ble_eq_true rfl) rfl ?_
  refine g_goto (pc := 52) C (tgt := 4) dX3_barsAt_52 (by decide) ?_
  exact g_lv [1, 2, 3, 0] rfl (hr4 σ (x1) (x2) (x3 + 1) h)
set_option maxHeartbeats 4000000 in
set_option maxRecDepth 20000 in
theorem bX3_barsAt_43 (C : hv_C p s m args meth c cX3_barsAt 4 wsX3_barsAt RX3 D (hv_tys cy)) (hr : meth.sig.returnType = (some .int)) {n : Nat} {o : Int32 × hv_St} {r4 : hv_St → Int32 → Int32 → Int32 → Option (Int32 × hv_St)} (hr4 : ∀ (σ : hv_St) (x1 : Int32) (x2 : Int32) (x3 : Int32), r4 σ x1 x2 x3 = some o → hv_G p l e (headSpec wsX3_barsAt rmX3_barsAt).room s m args below meth c 4 D 55 a (hv_XE a cy) 0 0 (hv_MQ D 55 a (hv_XE a cy) below args s (some (.int o.1)) o.2) σ 4 [(0, .ref (a 1)), (1, .int (x1)), (2, .int (x2)), (3, .int (x3))] []) : ∀ (σ : hv_St) (x1 : Int32) (x2 : Int32) (x3 : Int32), kX3_barsAt_43 n r4 σ x1 x2 x3 = some o → hv_G p l e (headSpec wsX3_barsAt rmX3_barsAt).room s m args below meth c 4 D 55 a (hv_XE a cy) 0 0 (hv_MQ D 55 a (hv_XE a cy) below args s (some (.int o.1)) o.2) σ 43 [(0, .ref (a 1)), (1, .int (x1)), (2, .int (x2)), (3, .int (x3))] [] := by
  intro σ x1 x2 x3 h
  unfold kX3_barsAt_43 at h
  refine g_iload_n (pc := 43) C 2 dX3_barsAt_43 rfl rfl ?_
  refine g_iconst (pc := 44) C (v := (1 : Int32)) dX3_barsAt_44 (by decide) ?_
  refine g_iload_n (pc := 45) C 3 dX3_barsAt_45 rfl rfl ?_
  refine g_ishl (pc := 46) C dX3_barsAt_46 ?_
  refine g_ior (pc := 47) C dX3_barsAt_47 ?_
  obtain ⟨y2_48, ey2_48, h⟩ := hv_let_some h
  refine g_istore_n (pc := 48) C (lv' := [(2, .int (y2_48)), (0, .ref (a 1)), (1, .int (x1)), (3, .int (x3))]) ey2_48 dX3_barsAt_48 rfl (Nat.le_of_ble_eq_true rfl) rfl ?_
  exact g_lv [1, 2, 0, 3] rfl (bX3_barsAt_49 C hr hr4 σ (x1) (y2_48) (x3) h)
set_option maxHeartbeats 4000000 in
set_option maxRecDepth 20000 in
theorem bX3_barsAt_4 (C : hv_C p s m args meth c cX3_barsAt 4 wsX3_barsAt RX3 D (hv_tys cy)) (hr : meth.sig.returnType = (some .int)) {n : Nat} {o : Int32 × hv_St} : ∀ (i : Nat) (σ : hv_St) (x1 : Int32) (x2 : Int32) (x3 : Int32), kX3_barsAt_4 n i σ x1 x2 x3 = some o → hv_G p l e (headSpec wsX3_barsAt rmX3_barsAt).room s m args below meth c 4 D 55 a (hv_XE a cy) 0 0 (hv_MQ D 55 a (hv_XE a cy) below args s (some (.int o.1)) o.2) σ 4 [(0, .ref (a 1)), (1, .int (x1)), (2, .int (x2)), (3, .int (x3))] [] := by
  intro i
  induction i with
  | zero =>
    intro σ x1 x2 x3 h
    cases h
  | succ i ih =>
    intro σ x1 x2 x3 h
    generalize hg : kX3_barsAt_4 n i = r4 at ih
    have hr4 := ih
    replace h : kX3_barsAt_4_b n r4 σ x1 x2 x3 = some o := by rw [← hg]; exact h
    unfold kX3_barsAt_4_b at h
    refine g_iload_n (pc := 4) C 3 dX3_barsAt_4 rfl rfl ?_
    refine g_aload_n (pc := 5) C 0 dX3_barsAt_5 rfl rfl ?_
    refine gx_get_1_1 (pc := 6) C iX3_barsAt_X3 qX3_barsAt_F38 dX3_barsAt_6 ?_
    refine g_icmp_ge (pc := 9) (tgt := 55) C dX3_barsAt_9 (by decide) (fun c9 => ?_) (fun c9 => ?_)
    · rw [if_pos c9] at h
      refine g_iload_n (pc := 55) C 2 dX3_barsAt_55 rfl rfl ?_
      cases h
      exact g_iret (pc := 56) C hr dX3_barsAt_56
    · rw [if_neg c9] at h
      refine g_aload_n (pc := 12) C 0 dX3_barsAt_12 rfl rfl ?_
      refine gx_get_1_2 (pc := 13) C iX3_barsAt_X3 qX3_barsAt_F45 dX3_barsAt_13 ?_
      refine g_iload_n (pc := 16) C 3 dX3_barsAt_16 rfl rfl ?_
      obtain ⟨r17, s17, hc17, h⟩ := hv_b2_some h
      refine g_callSN (pc := 17) (σ1 := s17) (v := (some (.int (r17)))) (As := [.int (σ.1 1 2), .int (x3)]) (rest := []) C (vX7_has hc17) (va_cnB 2 C.1.2.2.2.2 gX3_barsAt_X7_has_n48 rfl rfl rfl (C.2.1.2 _ (List.mem_of_getElem? (i := 3) rfl)) (C.1.2.2.2.2 _ qX3_barsAt_NI_X7_has) (by decide +kernel) ⟨Nat.le_of_ble_eq_true rfl, Nat.le_of_ble_eq_true rfl⟩) qX3_barsAt_NS_X7_has rfl rfl (Nat.le_of_ble_eq_true rfl) dX3_barsAt_17 ⟨Nat.zero_le _, Nat.zero_le _⟩ ?_
      refine g_st (st' := [.int (r17)]) rfl ?_
      refine g_if_eq (pc := 20) (tgt := 49) C dX3_barsAt_20 (by decide) (fun c20 => ?_) (fun c20 => ?_)
      · rw [if_pos c20] at h
        exact g_lv [0, 1, 2, 3] rfl (bX3_barsAt_49 C hr hr4 s17 (x1) (x2) (x3) h)
      · rw [if_neg c20] at h
        refine g_aload_n (pc := 23) C 0 dX3_barsAt_23 rfl rfl ?_
        refine gx_get_1_6 (pc := 24) C iX3_barsAt_X3 qX3_barsAt_F22 dX3_barsAt_24 ?_
        refine g_iload_n (pc := 27) C 3 dX3_barsAt_27 rfl rfl ?_
        obtain ⟨k28, h⟩ := hv_if_some h
        refine gx_ld_5 (pc := 28) C k28 dX3_barsAt_28 ?_
        refine g_iload_n (pc := 29) C 1 dX3_barsAt_29 rfl rfl ?_
        refine g_icmp_eq (pc := 30) (tgt := 43) C dX3_barsAt_30 (by decide) (fun c30 => ?_) (fun c30 => ?_)
        · rw [if_pos c30] at h
          exact g_lv [0, 1, 2, 3] rfl (bX3_barsAt_43 C hr hr4 s17 (x1) (x2) (x3) h)
        · rw [if_neg c30] at h
          refine g_aload_n (pc := 33) C 0 dX3_barsAt_33 rfl rfl ?_
          refine gx_get_1_7 (pc := 34) C iX3_barsAt_X3 qX3_barsAt_F25 dX3_barsAt_34 ?_
          refine g_iload_n (pc := 37) C 3 dX3_barsAt_37 rfl rfl ?_
          obtain ⟨k38, h⟩ := hv_if_some h
          refine gx_ld_6 (pc := 38) C k38 dX3_barsAt_38 ?_
          refine g_iload_n (pc := 39) C 1 dX3_barsAt_39 rfl rfl ?_
          refine g_icmp_ne (pc := 40) (tgt := 49) C dX3_barsAt_40 (by decide) (fun c40 => ?_) (fun c40 => ?_)
          · rw [if_neg c40] at h
            exact g_lv [0, 1, 2, 3] rfl (bX3_barsAt_49 C hr hr4 s17 (x1) (x2) (x3) h)
          · rw [if_pos c40] at h
            exact g_lv [0, 1, 2, 3] rfl (bX3_barsAt_43 C hr hr4 s17 (x1) (x2) (x3) h)
set_option maxHeartbeats 4000000 in
set_option maxRecDepth 20000 in
theorem vX3_barsAt {n : Nat} {σ : hv_St} {p0 : Int32} {o : Int32 × hv_St} (h : mX3_barsAt n σ p0 = some o) : hv_M l yX3_barsAt wsX3_barsAt rmX3_barsAt D (hv_tys cy) 55 a (hv_XE a cy) [.ref (a 1), .int (p0)] σ (some (.int o.1)) o.2 := by
  refine hv_enter (own := RX3) (cc := cX3_barsAt) (maxL := 4) (ret := (some .int)) (by decide) rfl rfl (Nat.le_of_ble_eq_true rfl) ?_
  intro p e s m args below meth c C hr
  unfold mX3_barsAt at h
  refine g_lv [0, 1] (lv' := [(0, .ref (a 1)), (1, .int (p0))]) rfl ?_
  refine g_iconst (pc := 0) C (v := (0 : Int32)) dX3_barsAt_0 (by decide) ?_
  refine g_istore_n (pc := 1) C (lv' := [(2, .int ((0 : Int32))), (0, .ref (a 1)), (1, .int (p0))]) rfl dX3_barsAt_1 rfl (Nat.le_of_ble_eq_true rfl) rfl ?_
  refine g_iconst (pc := 2) C (v := (0 : Int32)) dX3_barsAt_2 (by decide) ?_
  refine g_istore_n (pc := 3) C (lv' := [(3, .int ((0 : Int32))), (2, .int ((0 : Int32))), (0, .ref (a 1)), (1, .int (p0))]) rfl dX3_barsAt_3 rfl (Nat.le_of_ble_eq_true rfl) rfl ?_
  exact g_lv [2, 3, 1, 0] rfl (bX3_barsAt_4 C hr n σ (p0) ((0 : Int32)) ((0 : Int32)) h)
abbrev rmX4_across : Room := { frames := 1, cells := 0, slots := 0, locals := 25 }
set_option maxRecDepth 20000 in
theorem qX4_across_F15 : Cond.fieldLink RX4 15 "PinFrame$Joints" "frame" "LPinFrame$Frame;" ∈ wsX4_across := by decide +kernel
set_option maxRecDepth 20000 in
theorem qX4_across_F59 : Cond.fieldLink RX4 59 "PinFrame$Frame" "bars" "I" ∈ wsX4_across := by decide +kernel
set_option maxRecDepth 20000 in
theorem qX4_across_NI_X7_has : Cond.initialized RX7 ∈ wsX4_across := by decide +kernel
set_option maxRecDepth 20000 in
theorem qX4_across_NS_X7_has : Cond.static yX7_has ∈ wsX4_across := by decide +kernel
set_option maxRecDepth 20000 in
theorem iX4_across_X3 : ∀ w ∈ u_ws RX3 TX3 10, w ∈ wsX4_across := by decide +kernel
set_option maxRecDepth 20000 in
theorem iX4_across_X4 : ∀ w ∈ u_ws RX4 TX4 4, w ∈ wsX4_across := by decide +kernel
set_option maxHeartbeats 4000000 in
set_option maxRecDepth 20000 in
theorem bX4_across_46 (C : hv_C p s m args meth c cX4_across 6 wsX4_across RX4 D (hv_tys cy)) (hr : meth.sig.returnType = (some .int)) {n : Nat} {o : Int32 × hv_St} {r6 : hv_St → Int32 → Int32 → Int32 → Int32 → Int32 → Option (Int32 × hv_St)} (hr6 : ∀ (σ : hv_St) (x1 : Int32) (x2 : Int32) (x3 : Int32) (x4 : Int32) (x5 : Int32), r6 σ x1 x2 x3 x4 x5 = some o → hv_G p l e (headSpec wsX4_across rmX4_across).room s m args below meth c 6 D 55 a (hv_XE a cy) 0 0 (hv_MQ D 55 a (hv_XE a cy) below args s (some (.int o.1)) o.2) σ 6 [(0, .ref (a 17)), (1, .int (x1)), (2, .int (x2)), (3, .int (x3)), (4, .int (x4)), (5, .int (x5))] []) : ∀ (σ : hv_St) (x1 : Int32) (x2 : Int32) (x3 : Int32) (x4 : Int32) (x5 : Int32), kX4_across_46 n r6 σ x1 x2 x3 x4 x5 = some o → hv_G p l e (headSpec wsX4_across rmX4_across).room s m args below meth c 6 D 55 a (hv_XE a cy) 0 0 (hv_MQ D 55 a (hv_XE a cy) below args s (some (.int o.1)) o.2) σ 46 [(0, .ref (a 17)), (1, .int (x1)), (2, .int (x2)), (3, .int (x3)), (4, .int (x4)), (5, .int (x5))] [] := by
  intro σ x1 x2 x3 x4 x5 h
  unfold kX4_across_46 at h
  refine g_iinc (pc := 46) C 5 (v := x5 + 1) (lv' := [(5, .int (x5 + 1)), (0, .ref (a 17)), (1, .int (x1)), (2, .int (x2)), (3, .int (x3)), (4, .int (x4))]) dX4_across_46 rfl rfl (Nat.le_of_ble_eq_true rfl) rfl ?_
  refine g_goto (pc := 49) C (tgt := 6) dX4_across_49 (by decide) ?_
  exact g_lv [1, 2, 3, 4, 5, 0] rfl (hr6 σ (x1) (x2) (x3) (x4) (x5 + 1) h)
set_option maxHeartbeats 4000000 in
set_option maxRecDepth 20000 in
theorem bX4_across_6 (C : hv_C p s m args meth c cX4_across 6 wsX4_across RX4 D (hv_tys cy)) (hr : meth.sig.returnType = (some .int)) {n : Nat} {o : Int32 × hv_St} : ∀ (i : Nat) (σ : hv_St) (x1 : Int32) (x2 : Int32) (x3 : Int32) (x4 : Int32) (x5 : Int32), kX4_across_6 n i σ x1 x2 x3 x4 x5 = some o → hv_G p l e (headSpec wsX4_across rmX4_across).room s m args below meth c 6 D 55 a (hv_XE a cy) 0 0 (hv_MQ D 55 a (hv_XE a cy) below args s (some (.int o.1)) o.2) σ 6 [(0, .ref (a 17)), (1, .int (x1)), (2, .int (x2)), (3, .int (x3)), (4, .int (x4)), (5, .int (x5))] [] := by
  intro i
  induction i with
  | zero =>
    intro σ x1 x2 x3 x4 x5 h
    cases h
  | succ i ih =>
    intro σ x1 x2 x3 x4 x5 h
    generalize hg : kX4_across_6 n i = r6 at ih
    have hr6 := ih
    replace h : kX4_across_6_b n r6 σ x1 x2 x3 x4 x5 = some o := by rw [← hg]; exact h
    unfold kX4_across_6_b at h
    refine g_iload (pc := 6) C 5 dX4_across_6 rfl ?_
    refine g_aload_n (pc := 8) C 0 dX4_across_8 rfl rfl ?_
    refine gx_get_17_0 (pc := 9) C iX4_across_X4 qX4_across_F15 dX4_across_9 ?_
    refine gx_get_1_1 (pc := 12) C iX4_across_X3 qX4_across_F59 dX4_across_12 ?_
    refine g_icmp_ge (pc := 15) (tgt := 52) C dX4_across_15 (by decide) (fun c15 => ?_) (fun c15 => ?_)
    · rw [if_pos c15] at h
      refine g_iload (pc := 52) C 4 dX4_across_52 rfl ?_
      cases h
      exact g_iret (pc := 54) C hr dX4_across_54
    · rw [if_neg c15] at h
      refine g_iload_n (pc := 18) C 3 dX4_across_18 rfl rfl ?_
      refine g_iload (pc := 19) C 5 dX4_across_19 rfl ?_
      obtain ⟨r21, s21, hc21, h⟩ := hv_b2_some h
      refine g_callSN (pc := 21) (σ1 := s21) (v := (some (.int (r21)))) (As := [.int (x3), .int (x5)]) (rest := []) C (vX7_has hc21) (va_cnB 2 C.1.2.2.2.2 gX4_across_X7_has_n62 rfl rfl rfl (C.2.1.2 _ (List.mem_of_getElem? (i := 4) rfl)) (C.1.2.2.2.2 _ qX4_across_NI_X7_has) (by decide +kernel) ⟨Nat.le_of_ble_eq_true rfl, Nat.le_of_ble_eq_true rfl⟩) qX4_across_NS_X7_has rfl rfl (Nat.le_of_ble_eq_true rfl) dX4_across_21 ⟨Nat.zero_le _, Nat.zero_le _⟩ ?_
      refine g_st (st' := [.int (r21)]) rfl ?_
      refine g_if_eq (pc := 24) (tgt := 46) C dX4_across_24 (by decide) (fun c24 => ?_) (fun c24 => ?_)
      · rw [if_pos c24] at h
        exact g_lv [0, 1, 2, 3, 4, 5] rfl (bX4_across_46 C hr hr6 s21 (x1) (x2) (x3) (x4) (x5) h)
      · rw [if_neg c24] at h
        refine g_iload (pc := 27) C 4 dX4_across_27 rfl ?_
        refine g_aload_n (pc := 29) C 0 dX4_across_29 rfl rfl ?_
        refine gx_get_17_0 (pc := 30) C iX4_across_X4 qX4_across_F15 dX4_across_30 ?_
        refine g_iload (pc := 33) C 5 dX4_across_33 rfl ?_
        refine g_iconst (pc := 35) C (v := (2 : Int32)) dX4_across_35 (by decide) ?_
        refine g_iload_n (pc := 36) C 1 dX4_across_36 rfl rfl ?_
        refine g_imul (pc := 37) C dX4_across_37 ?_
        refine g_iload_n (pc := 38) C 2 dX4_across_38 rfl rfl ?_
        refine g_iadd (pc := 39) C dX4_across_39 ?_
        obtain ⟨r40, s40, hc40, h⟩ := hv_b2_some h
        refine g_callV (pc := 40) (σ1 := s40) (v := (some (.int (r40)))) (As := [.int (x5), .int ((((2 : Int32)) * (x1)) + (x2))]) (rest := [.int (x4)]) C 1 (vX3_brings hc40) (cwV 2 C.1.2.2.2.2 gX4_across_X3_brings rfl rfl rfl (by decide +kernel) ⟨Nat.le_of_ble_eq_true rfl, Nat.le_of_ble_eq_true rfl⟩) (Nat.le_of_ble_eq_true rfl) rfl rfl rfl rfl (Nat.le_of_ble_eq_true rfl) dX4_across_40 ⟨Nat.zero_le _, Nat.zero_le _⟩ ?_
        refine g_st (st' := [.int (r40), .int (x4)]) rfl ?_
        refine g_iadd (pc := 43) C dX4_across_43 ?_
        obtain ⟨y4_44, ey4_44, h⟩ := hv_let_some h
        refine g_istore (pc := 44) C (lv' := [(4, .int (y4_44)), (0, .ref (a 17)), (1, .int (x1)), (2, .int (x2)), (3, .int (x3)), (5, .int (x5))]) ey4_44 dX4_across_44 (Nat.le_of_ble_eq_true rfl) rfl ?_
        exact g_lv [1, 2, 3, 4, 0, 5] rfl (bX4_across_46 C hr hr6 s40 (x1) (x2) (x3) (y4_44) (x5) h)
set_option maxHeartbeats 4000000 in
set_option maxRecDepth 20000 in
theorem vX4_across {n : Nat} {σ : hv_St} {p0 : Int32} {p1 : Int32} {p2 : Int32} {o : Int32 × hv_St} (h : mX4_across n σ p0 p1 p2 = some o) : hv_M l yX4_across wsX4_across rmX4_across D (hv_tys cy) 55 a (hv_XE a cy) [.ref (a 17), .int (p0), .int (p1), .int (p2)] σ (some (.int o.1)) o.2 := by
  refine hv_enter (own := RX4) (cc := cX4_across) (maxL := 6) (ret := (some .int)) (by decide) rfl rfl (Nat.le_of_ble_eq_true rfl) ?_
  intro p e s m args below meth c C hr
  unfold mX4_across at h
  refine g_lv [0, 1, 2, 3] (lv' := [(0, .ref (a 17)), (1, .int (p0)), (2, .int (p1)), (3, .int (p2))]) rfl ?_
  refine g_iconst (pc := 0) C (v := (0 : Int32)) dX4_across_0 (by decide) ?_
  refine g_istore (pc := 1) C (lv' := [(4, .int ((0 : Int32))), (0, .ref (a 17)), (1, .int (p0)), (2, .int (p1)), (3, .int (p2))]) rfl dX4_across_1 (Nat.le_of_ble_eq_true rfl) rfl ?_
  refine g_iconst (pc := 3) C (v := (0 : Int32)) dX4_across_3 (by decide) ?_
  refine g_istore (pc := 4) C (lv' := [(5, .int ((0 : Int32))), (4, .int ((0 : Int32))), (0, .ref (a 17)), (1, .int (p0)), (2, .int (p1)), (3, .int (p2))]) rfl dX4_across_4 (Nat.le_of_ble_eq_true rfl) rfl ?_
  exact g_lv [2, 3, 4, 5, 1, 0] rfl (bX4_across_6 C hr n σ (p0) (p1) (p2) ((0 : Int32)) ((0 : Int32)) h)
end
