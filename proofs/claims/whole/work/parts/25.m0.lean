/-! reference, walked: X8_thrown, X8_in, X8_isOn, X8_bits, X8_abs, X8_isPin, X8_isBar, X8_isPlace, X8_pinAt, X8_pin, X8_place, X8_bar, X8_turn, X8_alter, X8_hold, X8_load, X8_unload, X8_deck, X8_strip, X8_train, X8_laysFree, X8_brings -/
section
variable {p : Program} {l : Launch} {e : Env} {s : State} {m : MethodId} {args : Array Value} {below : List Frame} {meth : Method} {c : Code} {D : va_G} {a : Nat → Nat} {cy : ClassId × ClassId × ClassId × ClassId}
abbrev rmX8_thrown : Room := { frames := 0, cells := 0, slots := 0, locals := 0 }
set_option maxRecDepth 20000 in
theorem qX8_thrown_F77 : Cond.fieldLink RX8 77 "PinFrameModel" "raised" "I" ∈ wsX8_thrown := by decide +kernel
set_option maxRecDepth 20000 in
theorem iX8_thrown_X8 : ∀ w ∈ u_ws RX8 TX8 35, w ∈ wsX8_thrown := by decide +kernel
set_option maxHeartbeats 4000000 in
set_option maxRecDepth 20000 in
theorem vX8_thrown {n : Nat} {σ : hv_St} {o : Int32 × hv_St} (h : mX8_thrown n σ = some o) : hv_M l yX8_thrown wsX8_thrown rmX8_thrown D (hv_tys cy) 23 a (hv_ME a cy) [.ref (a 0)] σ (some (.int o.1)) o.2 := by
  refine hv_enter (own := RX8) (cc := cX8_thrown) (maxL := 1) (ret := (some .int)) (by decide) rfl rfl (Nat.le_of_ble_eq_true rfl) ?_
  intro p e s m args below meth c C hr
  unfold mX8_thrown at h
  refine g_lv [0] (lv' := [(0, .ref (a 0))]) rfl ?_
  refine g_aload_n (pc := 0) C 0 dX8_thrown_0 rfl rfl ?_
  refine gm_get_0_0 (pc := 1) C iX8_thrown_X8 qX8_thrown_F77 dX8_thrown_1 ?_
  cases h
  exact g_iret (pc := 4) C hr dX8_thrown_4
abbrev rmX8_in : Room := { frames := 0, cells := 0, slots := 0, locals := 0 }
set_option maxHeartbeats 4000000 in
set_option maxRecDepth 20000 in
theorem bX8_in_17 (C : hv_C p s m args meth c cX8_in 6 wsX8_in RX8 D (hv_tys cy)) (hr : meth.sig.returnType = (some .boolean)) {n : Nat} {o : Int32 × hv_St} : ∀ (σ : hv_St), kX8_in_17 n σ = some o → hv_G p l e (headSpec wsX8_in rmX8_in).room s m args below meth c 6 D 23 a (hv_ME a cy) 0 0 (hv_MQ D 23 a (hv_ME a cy) below args s (some (.int o.1)) o.2) σ 17 [] [] := by
  intro σ h
  unfold kX8_in_17 at h
  refine g_iconst (pc := 17) C (v := (0 : Int32)) dX8_in_17 (by decide) ?_
  cases h
  exact g_zret (pc := 18) (x := (0 : Int32)) C hr (by decide) dX8_in_18
set_option maxHeartbeats 4000000 in
set_option maxRecDepth 20000 in
theorem vX8_in {n : Nat} {σ : hv_St} {p0 : Int64} {p1 : Int64} {p2 : Int64} {o : Int32 × hv_St} (h : mX8_in n σ p0 p1 p2 = some o) : hv_M l yX8_in wsX8_in rmX8_in D (hv_tys cy) 23 a (hv_ME a cy) [.long (p0), .long (p1), .long (p2)] σ (some (.int o.1)) o.2 := by
  refine hv_enter (own := RX8) (cc := cX8_in) (maxL := 6) (ret := (some .boolean)) (by decide) rfl rfl (Nat.le_of_ble_eq_true rfl) ?_
  intro p e s m args below meth c C hr
  unfold mX8_in at h
  refine g_lv [0, 1, 2] (lv' := [(0, .long (p0)), (2, .long (p1)), (4, .long (p2))]) rfl ?_
  refine g_lload_n (pc := 0) C 0 dX8_in_0 rfl rfl ?_
  refine g_lload_n (pc := 1) C 1 dX8_in_1 rfl rfl ?_
  refine g_lcmp (pc := 2) C dX8_in_2 ?_
  refine g_if_lt (pc := 3) (tgt := 17) C dX8_in_3 (by decide) (fun c3 => ?_) (fun c3 => ?_)
  · rw [if_pos c3] at h
    exact g_lv [] rfl (bX8_in_17 C hr σ h)
  · rw [if_neg c3] at h
    refine g_lload_n (pc := 6) C 0 dX8_in_6 rfl rfl ?_
    refine g_lload (pc := 7) C 2 dX8_in_7 rfl ?_
    refine g_lcmp (pc := 9) C dX8_in_9 ?_
    refine g_if_gt (pc := 10) (tgt := 17) C dX8_in_10 (by decide) (fun c10 => ?_) (fun c10 => ?_)
    · rw [if_pos c10] at h
      exact g_lv [] rfl (bX8_in_17 C hr σ h)
    · rw [if_neg c10] at h
      refine g_iconst (pc := 13) C (v := (1 : Int32)) dX8_in_13 (by decide) ?_
      refine g_goto (pc := 14) C (tgt := 18) dX8_in_14 (by decide) ?_
      cases h
      exact g_zret (pc := 18) (x := (1 : Int32)) C hr (by decide) dX8_in_18
abbrev rmX8_isOn : Room := { frames := 0, cells := 0, slots := 0, locals := 0 }
set_option maxHeartbeats 4000000 in
set_option maxRecDepth 20000 in
theorem vX8_isOn {n : Nat} {σ : hv_St} {p0 : Int32} {p1 : Int32} {o : Int32 × hv_St} (h : mX8_isOn n σ p0 p1 = some o) : hv_M l yX8_isOn wsX8_isOn rmX8_isOn D (hv_tys cy) 23 a (hv_ME a cy) [.int (p0), .int (p1)] σ (some (.int o.1)) o.2 := by
  refine hv_enter (own := RX8) (cc := cX8_isOn) (maxL := 2) (ret := (some .boolean)) (by decide) rfl rfl (Nat.le_of_ble_eq_true rfl) ?_
  intro p e s m args below meth c C hr
  unfold mX8_isOn at h
  refine g_lv [0, 1] (lv' := [(0, .int (p0)), (1, .int (p1))]) rfl ?_
  refine g_iload_n (pc := 0) C 0 dX8_isOn_0 rfl rfl ?_
  refine g_iload_n (pc := 1) C 1 dX8_isOn_1 rfl rfl ?_
  refine g_ishr (pc := 2) C dX8_isOn_2 ?_
  refine g_iconst (pc := 3) C (v := (1 : Int32)) dX8_isOn_3 (by decide) ?_
  refine g_iand (pc := 4) C dX8_isOn_4 ?_
  refine g_iconst (pc := 5) C (v := (1 : Int32)) dX8_isOn_5 (by decide) ?_
  refine g_icmp_ne (pc := 6) (tgt := 13) C dX8_isOn_6 (by decide) (fun c6 => ?_) (fun c6 => ?_)
  · rw [if_neg c6] at h
    refine g_iconst (pc := 13) C (v := (0 : Int32)) dX8_isOn_13 (by decide) ?_
    cases h
    exact g_zret (pc := 14) (x := (0 : Int32)) C hr (by decide) dX8_isOn_14
  · rw [if_pos c6] at h
    refine g_iconst (pc := 9) C (v := (1 : Int32)) dX8_isOn_9 (by decide) ?_
    refine g_goto (pc := 10) C (tgt := 14) dX8_isOn_10 (by decide) ?_
    cases h
    exact g_zret (pc := 14) (x := (1 : Int32)) C hr (by decide) dX8_isOn_14
abbrev rmX8_bits : Room := { frames := 0, cells := 0, slots := 0, locals := 0 }
set_option maxHeartbeats 4000000 in
set_option maxRecDepth 20000 in
theorem bX8_bits_4 (C : hv_C p s m args meth c cX8_bits 3 wsX8_bits RX8 D (hv_tys cy)) (hr : meth.sig.returnType = (some .int)) {n : Nat} {o : Int32 × hv_St} : ∀ (i : Nat) (σ : hv_St) (x0 : Int32) (x1 : Int32) (x2 : Int32), kX8_bits_4 n i σ x0 x1 x2 = some o → hv_G p l e (headSpec wsX8_bits rmX8_bits).room s m args below meth c 3 D 23 a (hv_ME a cy) 0 0 (hv_MQ D 23 a (hv_ME a cy) below args s (some (.int o.1)) o.2) σ 4 [(0, .int (x0)), (1, .int (x1)), (2, .int (x2))] [] := by
  intro i
  induction i with
  | zero =>
    intro σ x0 x1 x2 h
    cases h
  | succ i ih =>
    intro σ x0 x1 x2 h
    generalize hg : kX8_bits_4 n i = r4 at ih
    have hr4 := ih
    replace h : kX8_bits_4_b n r4 σ x0 x1 x2 = some o := by rw [← hg]; exact h
    unfold kX8_bits_4_b at h
    refine g_iload_n (pc := 4) C 2 dX8_bits_4 rfl rfl ?_
    refine g_bipush (pc := 5) C (v := (12 : Int32)) dX8_bits_5 (by decide) ?_
    refine g_icmp_ge (pc := 7) (tgt := 24) C dX8_bits_7 (by decide) (fun c7 => ?_) (fun c7 => ?_)
    · rw [if_pos c7] at h
      refine g_iload_n (pc := 24) C 1 dX8_bits_24 rfl rfl ?_
      cases h
      exact g_iret (pc := 25) C hr dX8_bits_25
    · rw [if_neg c7] at h
      refine g_iload_n (pc := 10) C 1 dX8_bits_10 rfl rfl ?_
      refine g_iload_n (pc := 11) C 0 dX8_bits_11 rfl rfl ?_
      refine g_iload_n (pc := 12) C 2 dX8_bits_12 rfl rfl ?_
      refine g_ishr (pc := 13) C dX8_bits_13 ?_
      refine g_iconst (pc := 14) C (v := (1 : Int32)) dX8_bits_14 (by decide) ?_
      refine g_iand (pc := 15) C dX8_bits_15 ?_
      refine g_iadd (pc := 16) C dX8_bits_16 ?_
      obtain ⟨y1_17, ey1_17, h⟩ := hv_let_some h
      refine g_istore_n (pc := 17) C (lv' := [(1, .int (y1_17)), (0, .int (x0)), (2, .int (x2))]) ey1_17 dX8_bits_17 rfl (Nat.le_of_ble_eq_true rfl) rfl ?_
      refine g_iinc (pc := 18) C 2 (v := x2 + 1) (lv' := [(2, .int (x2 + 1)), (1, .int (y1_17)), (0, .int (x0))]) dX8_bits_18 rfl rfl (Nat.le_of_ble_eq_true rfl) rfl ?_
      refine g_goto (pc := 21) C (tgt := 4) dX8_bits_21 (by decide) ?_
      exact g_lv [2, 1, 0] rfl (hr4 σ (x0) (y1_17) (x2 + 1) h)
set_option maxHeartbeats 4000000 in
set_option maxRecDepth 20000 in
theorem vX8_bits {n : Nat} {σ : hv_St} {p0 : Int32} {o : Int32 × hv_St} (h : mX8_bits n σ p0 = some o) : hv_M l yX8_bits wsX8_bits rmX8_bits D (hv_tys cy) 23 a (hv_ME a cy) [.int (p0)] σ (some (.int o.1)) o.2 := by
  refine hv_enter (own := RX8) (cc := cX8_bits) (maxL := 3) (ret := (some .int)) (by decide) rfl rfl (Nat.le_of_ble_eq_true rfl) ?_
  intro p e s m args below meth c C hr
  unfold mX8_bits at h
  refine g_lv [0] (lv' := [(0, .int (p0))]) rfl ?_
  refine g_iconst (pc := 0) C (v := (0 : Int32)) dX8_bits_0 (by decide) ?_
  refine g_istore_n (pc := 1) C (lv' := [(1, .int ((0 : Int32))), (0, .int (p0))]) rfl dX8_bits_1 rfl (Nat.le_of_ble_eq_true rfl) rfl ?_
  refine g_iconst (pc := 2) C (v := (0 : Int32)) dX8_bits_2 (by decide) ?_
  refine g_istore_n (pc := 3) C (lv' := [(2, .int ((0 : Int32))), (1, .int ((0 : Int32))), (0, .int (p0))]) rfl dX8_bits_3 rfl (Nat.le_of_ble_eq_true rfl) rfl ?_
  exact g_lv [2, 1, 0] rfl (bX8_bits_4 C hr n σ (p0) ((0 : Int32)) ((0 : Int32)) h)
abbrev rmX8_abs : Room := { frames := 0, cells := 0, slots := 0, locals := 0 }
set_option maxHeartbeats 4000000 in
set_option maxRecDepth 20000 in
theorem vX8_abs {n : Nat} {σ : hv_St} {p0 : Int64} {o : Int64 × hv_St} (h : mX8_abs n σ p0 = some o) : hv_M l yX8_abs wsX8_abs rmX8_abs D (hv_tys cy) 23 a (hv_ME a cy) [.long (p0)] σ (some (.long o.1)) o.2 := by
  refine hv_enter (own := RX8) (cc := cX8_abs) (maxL := 2) (ret := (some .long)) (by decide) rfl rfl (Nat.le_of_ble_eq_true rfl) ?_
  intro p e s m args below meth c C hr
  unfold mX8_abs at h
  refine g_lv [0] (lv' := [(0, .long (p0))]) rfl ?_
  refine g_lload_n (pc := 0) C 0 dX8_abs_0 rfl rfl ?_
  refine g_lconst (pc := 1) C (v := (0 : Int64)) dX8_abs_1 (by decide) ?_
  refine g_lcmp (pc := 2) C dX8_abs_2 ?_
  refine g_if_ge (pc := 3) (tgt := 11) C dX8_abs_3 (by decide) (fun c3 => ?_) (fun c3 => ?_)
  · rw [if_pos c3] at h
    refine g_lload_n (pc := 11) C 0 dX8_abs_11 rfl rfl ?_
    cases h
    exact g_lret (pc := 12) C hr dX8_abs_12
  · rw [if_neg c3] at h
    refine g_lload_n (pc := 6) C 0 dX8_abs_6 rfl rfl ?_
    refine g_lneg (pc := 7) C dX8_abs_7 ?_
    refine g_goto (pc := 8) C (tgt := 12) dX8_abs_8 (by decide) ?_
    cases h
    exact g_lret (pc := 12) C hr dX8_abs_12
abbrev rmX8_isPin : Room := { frames := 1, cells := 0, slots := 0, locals := 25 }
set_option maxRecDepth 20000 in
theorem qX8_isPin_F81 : Cond.fieldLink RX8 81 "PinFrameModel" "pins" "I" ∈ wsX8_isPin := by decide +kernel
set_option maxRecDepth 20000 in
theorem iX8_isPin_X8 : ∀ w ∈ u_ws RX8 TX8 35, w ∈ wsX8_isPin := by decide +kernel
set_option maxHeartbeats 4000000 in
set_option maxRecDepth 20000 in
theorem vX8_isPin {n : Nat} {σ : hv_St} {p0 : Int32} {o : Int32 × hv_St} (h : mX8_isPin n σ p0 = some o) : hv_M l yX8_isPin wsX8_isPin rmX8_isPin D (hv_tys cy) 23 a (hv_ME a cy) [.ref (a 0), .int (p0)] σ (some (.int o.1)) o.2 := by
  refine hv_enter (own := RX8) (cc := cX8_isPin) (maxL := 2) (ret := (some .boolean)) (by decide) rfl rfl (Nat.le_of_ble_eq_true rfl) ?_
  intro p e s m args below meth c C hr
  unfold mX8_isPin at h
  refine g_lv [0, 1] (lv' := [(0, .ref (a 0)), (1, .int (p0))]) rfl ?_
  refine g_iload_n (pc := 0) C 1 dX8_isPin_0 rfl rfl ?_
  refine g_i2l (pc := 1) C dX8_isPin_1 ?_
  refine g_lconst (pc := 2) C (v := (0 : Int64)) dX8_isPin_2 (by decide) ?_
  refine g_aload_n (pc := 3) C 0 dX8_isPin_3 rfl rfl ?_
  refine gm_get_0_1 (pc := 4) C iX8_isPin_X8 qX8_isPin_F81 dX8_isPin_4 ?_
  refine g_iconst (pc := 7) C (v := (1 : Int32)) dX8_isPin_7 (by decide) ?_
  refine g_isub (pc := 8) C dX8_isPin_8 ?_
  refine g_i2l (pc := 9) C dX8_isPin_9 ?_
  obtain ⟨r10, s10, hc10, h⟩ := hv_b2_some h
  refine g_callS (pc := 10) (σ1 := s10) (v := (some (.int (r10)))) (As := [.long ((p0).toInt64), .long ((0 : Int64)), .long (((σ.1 0 1) - ((1 : Int32))).toInt64)]) (rest := []) C (vX8_in hc10) (va_cwS 3 C.1.2.2.2.2 gX8_isPin_X8_in rfl rfl rfl (by decide +kernel) ⟨Nat.le_of_ble_eq_true rfl, Nat.le_of_ble_eq_true rfl⟩) rfl rfl (Nat.le_of_ble_eq_true rfl) dX8_isPin_10 ⟨Nat.zero_le _, Nat.zero_le _⟩ ?_
  refine g_st (st' := [.int (r10)]) rfl ?_
  obtain ⟨z13, h⟩ := hv_if_some h
  cases h
  exact g_zret (pc := 13) (x := r10) C hr z13 dX8_isPin_13
abbrev rmX8_isBar : Room := { frames := 1, cells := 0, slots := 0, locals := 25 }
set_option maxRecDepth 20000 in
theorem qX8_isBar_F88 : Cond.fieldLink RX8 88 "PinFrameModel" "bars" "I" ∈ wsX8_isBar := by decide +kernel
set_option maxRecDepth 20000 in
theorem iX8_isBar_X8 : ∀ w ∈ u_ws RX8 TX8 35, w ∈ wsX8_isBar := by decide +kernel
set_option maxHeartbeats 4000000 in
set_option maxRecDepth 20000 in
theorem vX8_isBar {n : Nat} {σ : hv_St} {p0 : Int32} {o : Int32 × hv_St} (h : mX8_isBar n σ p0 = some o) : hv_M l yX8_isBar wsX8_isBar rmX8_isBar D (hv_tys cy) 23 a (hv_ME a cy) [.ref (a 0), .int (p0)] σ (some (.int o.1)) o.2 := by
  refine hv_enter (own := RX8) (cc := cX8_isBar) (maxL := 2) (ret := (some .boolean)) (by decide) rfl rfl (Nat.le_of_ble_eq_true rfl) ?_
  intro p e s m args below meth c C hr
  unfold mX8_isBar at h
  refine g_lv [0, 1] (lv' := [(0, .ref (a 0)), (1, .int (p0))]) rfl ?_
  refine g_iload_n (pc := 0) C 1 dX8_isBar_0 rfl rfl ?_
  refine g_i2l (pc := 1) C dX8_isBar_1 ?_
  refine g_lconst (pc := 2) C (v := (0 : Int64)) dX8_isBar_2 (by decide) ?_
  refine g_aload_n (pc := 3) C 0 dX8_isBar_3 rfl rfl ?_
  refine gm_get_0_6 (pc := 4) C iX8_isBar_X8 qX8_isBar_F88 dX8_isBar_4 ?_
  refine g_iconst (pc := 7) C (v := (1 : Int32)) dX8_isBar_7 (by decide) ?_
  refine g_isub (pc := 8) C dX8_isBar_8 ?_
  refine g_i2l (pc := 9) C dX8_isBar_9 ?_
  obtain ⟨r10, s10, hc10, h⟩ := hv_b2_some h
  refine g_callS (pc := 10) (σ1 := s10) (v := (some (.int (r10)))) (As := [.long ((p0).toInt64), .long ((0 : Int64)), .long (((σ.1 0 6) - ((1 : Int32))).toInt64)]) (rest := []) C (vX8_in hc10) (va_cwS 3 C.1.2.2.2.2 gX8_isBar_X8_in rfl rfl rfl (by decide +kernel) ⟨Nat.le_of_ble_eq_true rfl, Nat.le_of_ble_eq_true rfl⟩) rfl rfl (Nat.le_of_ble_eq_true rfl) dX8_isBar_10 ⟨Nat.zero_le _, Nat.zero_le _⟩ ?_
  refine g_st (st' := [.int (r10)]) rfl ?_
  obtain ⟨z13, h⟩ := hv_if_some h
  cases h
  exact g_zret (pc := 13) (x := r10) C hr z13 dX8_isBar_13
abbrev rmX8_isPlace : Room := { frames := 1, cells := 0, slots := 0, locals := 25 }
set_option maxRecDepth 20000 in
theorem qX8_isPlace_L91 : Cond.constantLong RX8 91 (3) ∈ wsX8_isPlace := by decide +kernel
set_option maxRecDepth 20000 in
theorem qX8_isPlace_L93 : Cond.constantLong RX8 93 (2) ∈ wsX8_isPlace := by decide +kernel
set_option maxHeartbeats 4000000 in
set_option maxRecDepth 20000 in
theorem bX8_isPlace_28 (C : hv_C p s m args meth c cX8_isPlace 2 wsX8_isPlace RX8 D (hv_tys cy)) (hr : meth.sig.returnType = (some .boolean)) {n : Nat} {o : Int32 × hv_St} : ∀ (σ : hv_St), kX8_isPlace_28 n σ = some o → hv_G p l e (headSpec wsX8_isPlace rmX8_isPlace).room s m args below meth c 2 D 23 a (hv_ME a cy) 0 0 (hv_MQ D 23 a (hv_ME a cy) below args s (some (.int o.1)) o.2) σ 28 [] [] := by
  intro σ h
  unfold kX8_isPlace_28 at h
  refine g_iconst (pc := 28) C (v := (0 : Int32)) dX8_isPlace_28 (by decide) ?_
  cases h
  exact g_zret (pc := 29) (x := (0 : Int32)) C hr (by decide) dX8_isPlace_29
set_option maxHeartbeats 4000000 in
set_option maxRecDepth 20000 in
theorem vX8_isPlace {n : Nat} {σ : hv_St} {p0 : Int32} {p1 : Int32} {o : Int32 × hv_St} (h : mX8_isPlace n σ p0 p1 = some o) : hv_M l yX8_isPlace wsX8_isPlace rmX8_isPlace D (hv_tys cy) 23 a (hv_ME a cy) [.int (p0), .int (p1)] σ (some (.int o.1)) o.2 := by
  refine hv_enter (own := RX8) (cc := cX8_isPlace) (maxL := 2) (ret := (some .boolean)) (by decide) rfl rfl (Nat.le_of_ble_eq_true rfl) ?_
  intro p e s m args below meth c C hr
  unfold mX8_isPlace at h
  refine g_lv [0, 1] (lv' := [(0, .int (p0)), (1, .int (p1))]) rfl ?_
  refine g_iload_n (pc := 0) C 0 dX8_isPlace_0 rfl rfl ?_
  refine g_i2l (pc := 1) C dX8_isPlace_1 ?_
  refine g_lconst (pc := 2) C (v := (0 : Int64)) dX8_isPlace_2 (by decide) ?_
  refine g_ldc2 (pc := 3) C (v := (3 : Int64)) qX8_isPlace_L91 dX8_isPlace_3 ?_
  obtain ⟨r6, s6, hc6, h⟩ := hv_b2_some h
  refine g_callS (pc := 6) (σ1 := s6) (v := (some (.int (r6)))) (As := [.long ((p0).toInt64), .long ((0 : Int64)), .long ((3 : Int64))]) (rest := []) C (vX8_in hc6) (va_cwS 3 C.1.2.2.2.2 gX8_isPlace_X8_in rfl rfl rfl (by decide +kernel) ⟨Nat.le_of_ble_eq_true rfl, Nat.le_of_ble_eq_true rfl⟩) rfl rfl (Nat.le_of_ble_eq_true rfl) dX8_isPlace_6 ⟨Nat.zero_le _, Nat.zero_le _⟩ ?_
  refine g_st (st' := [.int (r6)]) rfl ?_
  refine g_if_eq (pc := 9) (tgt := 28) C dX8_isPlace_9 (by decide) (fun c9 => ?_) (fun c9 => ?_)
  · rw [if_pos c9] at h
    exact g_lv [] rfl (bX8_isPlace_28 C hr s6 h)
  · rw [if_neg c9] at h
    refine g_iload_n (pc := 12) C 1 dX8_isPlace_12 rfl rfl ?_
    refine g_i2l (pc := 13) C dX8_isPlace_13 ?_
    refine g_lconst (pc := 14) C (v := (0 : Int64)) dX8_isPlace_14 (by decide) ?_
    refine g_ldc2 (pc := 15) C (v := (2 : Int64)) qX8_isPlace_L93 dX8_isPlace_15 ?_
    obtain ⟨r18, s18, hc18, h⟩ := hv_b2_some h
    refine g_callS (pc := 18) (σ1 := s18) (v := (some (.int (r18)))) (As := [.long ((p1).toInt64), .long ((0 : Int64)), .long ((2 : Int64))]) (rest := []) C (vX8_in hc18) (va_cwS 3 C.1.2.2.2.2 gX8_isPlace_X8_in rfl rfl rfl (by decide +kernel) ⟨Nat.le_of_ble_eq_true rfl, Nat.le_of_ble_eq_true rfl⟩) rfl rfl (Nat.le_of_ble_eq_true rfl) dX8_isPlace_18 ⟨Nat.zero_le _, Nat.zero_le _⟩ ?_
    refine g_st (st' := [.int (r18)]) rfl ?_
    refine g_if_eq (pc := 21) (tgt := 28) C dX8_isPlace_21 (by decide) (fun c21 => ?_) (fun c21 => ?_)
    · rw [if_pos c21] at h
      exact g_lv [] rfl (bX8_isPlace_28 C hr s18 h)
    · rw [if_neg c21] at h
      refine g_iconst (pc := 24) C (v := (1 : Int32)) dX8_isPlace_24 (by decide) ?_
      refine g_goto (pc := 25) C (tgt := 29) dX8_isPlace_25 (by decide) ?_
      cases h
      exact g_zret (pc := 29) (x := (1 : Int32)) C hr (by decide) dX8_isPlace_29
abbrev rmX8_pinAt : Room := { frames := 0, cells := 0, slots := 0, locals := 0 }
set_option maxRecDepth 20000 in
theorem qX8_pinAt_F13 : Cond.fieldLink RX8 13 "PinFrameModel" "y" "[I" ∈ wsX8_pinAt := by decide +kernel
set_option maxRecDepth 20000 in
theorem qX8_pinAt_F7 : Cond.fieldLink RX8 7 "PinFrameModel" "x" "[I" ∈ wsX8_pinAt := by decide +kernel
set_option maxRecDepth 20000 in
theorem qX8_pinAt_F81 : Cond.fieldLink RX8 81 "PinFrameModel" "pins" "I" ∈ wsX8_pinAt := by decide +kernel
set_option maxRecDepth 20000 in
theorem iX8_pinAt_X8 : ∀ w ∈ u_ws RX8 TX8 35, w ∈ wsX8_pinAt := by decide +kernel
set_option maxHeartbeats 4000000 in
set_option maxRecDepth 20000 in
theorem bX8_pinAt_32 (C : hv_C p s m args meth c cX8_pinAt 4 wsX8_pinAt RX8 D (hv_tys cy)) (hr : meth.sig.returnType = (some .int)) {n : Nat} {o : Int32 × hv_St} {r2 : hv_St → Int32 → Int32 → Int32 → Option (Int32 × hv_St)} (hr2 : ∀ (σ : hv_St) (x1 : Int32) (x2 : Int32) (x3 : Int32), r2 σ x1 x2 x3 = some o → hv_G p l e (headSpec wsX8_pinAt rmX8_pinAt).room s m args below meth c 4 D 23 a (hv_ME a cy) 0 0 (hv_MQ D 23 a (hv_ME a cy) below args s (some (.int o.1)) o.2) σ 2 [(0, .ref (a 0)), (1, .int (x1)), (2, .int (x2)), (3, .int (x3))] []) : ∀ (σ : hv_St) (x1 : Int32) (x2 : Int32) (x3 : Int32), kX8_pinAt_32 n r2 σ x1 x2 x3 = some o → hv_G p l e (headSpec wsX8_pinAt rmX8_pinAt).room s m args below meth c 4 D 23 a (hv_ME a cy) 0 0 (hv_MQ D 23 a (hv_ME a cy) below args s (some (.int o.1)) o.2) σ 32 [(0, .ref (a 0)), (1, .int (x1)), (2, .int (x2)), (3, .int (x3))] [] := by
  intro σ x1 x2 x3 h
  unfold kX8_pinAt_32 at h
  refine g_iinc (pc := 32) C 3 (v := x3 + 1) (lv' := [(3, .int (x3 + 1)), (0, .ref (a 0)), (1, .int (x1)), (2, .int (x2))]) dX8_pinAt_32 rfl rfl (Nat.le_of_ble_eq_true rfl) rfl ?_
  refine g_goto (pc := 35) C (tgt := 2) dX8_pinAt_35 (by decide) ?_
  exact g_lv [1, 2, 3, 0] rfl (hr2 σ (x1) (x2) (x3 + 1) h)
set_option maxHeartbeats 4000000 in
set_option maxRecDepth 20000 in
theorem bX8_pinAt_2 (C : hv_C p s m args meth c cX8_pinAt 4 wsX8_pinAt RX8 D (hv_tys cy)) (hr : meth.sig.returnType = (some .int)) {n : Nat} {o : Int32 × hv_St} : ∀ (i : Nat) (σ : hv_St) (x1 : Int32) (x2 : Int32) (x3 : Int32), kX8_pinAt_2 n i σ x1 x2 x3 = some o → hv_G p l e (headSpec wsX8_pinAt rmX8_pinAt).room s m args below meth c 4 D 23 a (hv_ME a cy) 0 0 (hv_MQ D 23 a (hv_ME a cy) below args s (some (.int o.1)) o.2) σ 2 [(0, .ref (a 0)), (1, .int (x1)), (2, .int (x2)), (3, .int (x3))] [] := by
  intro i
  induction i with
  | zero =>
    intro σ x1 x2 x3 h
    cases h
  | succ i ih =>
    intro σ x1 x2 x3 h
    generalize hg : kX8_pinAt_2 n i = r2 at ih
    have hr2 := ih
    replace h : kX8_pinAt_2_b n r2 σ x1 x2 x3 = some o := by rw [← hg]; exact h
    unfold kX8_pinAt_2_b at h
    refine g_iload_n (pc := 2) C 3 dX8_pinAt_2 rfl rfl ?_
    refine g_aload_n (pc := 3) C 0 dX8_pinAt_3 rfl rfl ?_
    refine gm_get_0_1 (pc := 4) C iX8_pinAt_X8 qX8_pinAt_F81 dX8_pinAt_4 ?_
    refine g_icmp_ge (pc := 7) (tgt := 38) C dX8_pinAt_7 (by decide) (fun c7 => ?_) (fun c7 => ?_)
    · rw [if_pos c7] at h
      refine g_iconst (pc := 38) C (v := (-1 : Int32)) dX8_pinAt_38 (by decide) ?_
      cases h
      exact g_iret (pc := 39) C hr dX8_pinAt_39
    · rw [if_neg c7] at h
      refine g_aload_n (pc := 10) C 0 dX8_pinAt_10 rfl rfl ?_
      refine gm_get_0_2 (pc := 11) C iX8_pinAt_X8 qX8_pinAt_F7 dX8_pinAt_11 ?_
      refine g_iload_n (pc := 14) C 3 dX8_pinAt_14 rfl rfl ?_
      obtain ⟨k15, h⟩ := hv_if_some h
      refine gm_ld_1 (pc := 15) C k15 dX8_pinAt_15 ?_
      refine g_iload_n (pc := 16) C 1 dX8_pinAt_16 rfl rfl ?_
      refine g_icmp_ne (pc := 17) (tgt := 32) C dX8_pinAt_17 (by decide) (fun c17 => ?_) (fun c17 => ?_)
      · rw [if_neg c17] at h
        exact g_lv [0, 1, 2, 3] rfl (bX8_pinAt_32 C hr hr2 σ (x1) (x2) (x3) h)
      · rw [if_pos c17] at h
        refine g_aload_n (pc := 20) C 0 dX8_pinAt_20 rfl rfl ?_
        refine gm_get_0_3 (pc := 21) C iX8_pinAt_X8 qX8_pinAt_F13 dX8_pinAt_21 ?_
        refine g_iload_n (pc := 24) C 3 dX8_pinAt_24 rfl rfl ?_
        obtain ⟨k25, h⟩ := hv_if_some h
        refine gm_ld_2 (pc := 25) C k25 dX8_pinAt_25 ?_
        refine g_iload_n (pc := 26) C 2 dX8_pinAt_26 rfl rfl ?_
        refine g_icmp_ne (pc := 27) (tgt := 32) C dX8_pinAt_27 (by decide) (fun c27 => ?_) (fun c27 => ?_)
        · rw [if_neg c27] at h
          exact g_lv [0, 1, 2, 3] rfl (bX8_pinAt_32 C hr hr2 σ (x1) (x2) (x3) h)
        · rw [if_pos c27] at h
          refine g_iload_n (pc := 30) C 3 dX8_pinAt_30 rfl rfl ?_
          cases h
          exact g_iret (pc := 31) C hr dX8_pinAt_31
set_option maxHeartbeats 4000000 in
set_option maxRecDepth 20000 in
theorem vX8_pinAt {n : Nat} {σ : hv_St} {p0 : Int32} {p1 : Int32} {o : Int32 × hv_St} (h : mX8_pinAt n σ p0 p1 = some o) : hv_M l yX8_pinAt wsX8_pinAt rmX8_pinAt D (hv_tys cy) 23 a (hv_ME a cy) [.ref (a 0), .int (p0), .int (p1)] σ (some (.int o.1)) o.2 := by
  refine hv_enter (own := RX8) (cc := cX8_pinAt) (maxL := 4) (ret := (some .int)) (by decide) rfl rfl (Nat.le_of_ble_eq_true rfl) ?_
  intro p e s m args below meth c C hr
  unfold mX8_pinAt at h
  refine g_lv [0, 1, 2] (lv' := [(0, .ref (a 0)), (1, .int (p0)), (2, .int (p1))]) rfl ?_
  refine g_iconst (pc := 0) C (v := (0 : Int32)) dX8_pinAt_0 (by decide) ?_
  refine g_istore_n (pc := 1) C (lv' := [(3, .int ((0 : Int32))), (0, .ref (a 0)), (1, .int (p0)), (2, .int (p1))]) rfl dX8_pinAt_1 rfl (Nat.le_of_ble_eq_true rfl) rfl ?_
  exact g_lv [1, 2, 3, 0] rfl (bX8_pinAt_2 C hr n σ (p0) (p1) ((0 : Int32)) h)
abbrev rmX8_pin : Room := { frames := 2, cells := 0, slots := 0, locals := 46 }
set_option maxRecDepth 20000 in
theorem qX8_pin_F13 : Cond.fieldLink RX8 13 "PinFrameModel" "y" "[I" ∈ wsX8_pin := by decide +kernel
set_option maxRecDepth 20000 in
theorem qX8_pin_F7 : Cond.fieldLink RX8 7 "PinFrameModel" "x" "[I" ∈ wsX8_pin := by decide +kernel
set_option maxRecDepth 20000 in
theorem qX8_pin_F77 : Cond.fieldLink RX8 77 "PinFrameModel" "raised" "I" ∈ wsX8_pin := by decide +kernel
set_option maxRecDepth 20000 in
theorem qX8_pin_F81 : Cond.fieldLink RX8 81 "PinFrameModel" "pins" "I" ∈ wsX8_pin := by decide +kernel
set_option maxRecDepth 20000 in
theorem iX8_pin_X8 : ∀ w ∈ u_ws RX8 TX8 35, w ∈ wsX8_pin := by decide +kernel
set_option maxHeartbeats 4000000 in
set_option maxRecDepth 20000 in
theorem vX8_pin {n : Nat} {σ : hv_St} {p0 : Int32} {p1 : Int32} {o : Int32 × hv_St} (h : mX8_pin n σ p0 p1 = some o) : hv_M l yX8_pin wsX8_pin rmX8_pin D (hv_tys cy) 23 a (hv_ME a cy) [.ref (a 0), .int (p0), .int (p1)] σ (some (.int o.1)) o.2 := by
  refine hv_enter (own := RX8) (cc := cX8_pin) (maxL := 3) (ret := (some .int)) (by decide) rfl rfl (Nat.le_of_ble_eq_true rfl) ?_
  intro p e s m args below meth c C hr
  unfold mX8_pin at h
  refine g_lv [0, 1, 2] (lv' := [(0, .ref (a 0)), (1, .int (p0)), (2, .int (p1))]) rfl ?_
  refine g_aload_n (pc := 0) C 0 dX8_pin_0 rfl rfl ?_
  refine g_iconst (pc := 1) C (v := (0 : Int32)) dX8_pin_1 (by decide) ?_
  obtain ⟨s2, es2, h⟩ := hv_let_some h
  refine gm_put_0_0 (pc := 2) C es2 iX8_pin_X8 qX8_pin_F77 dX8_pin_2 ?_
  refine g_aload_n (pc := 5) C 0 dX8_pin_5 rfl rfl ?_
  refine gm_get_0_1 (pc := 6) C iX8_pin_X8 qX8_pin_F81 dX8_pin_6 ?_
  refine g_bipush (pc := 9) C (v := (6 : Int32)) dX8_pin_9 (by decide) ?_
  refine g_icmp_eq (pc := 11) (tgt := 32) C dX8_pin_11 (by decide) (fun c11 => ?_) (fun c11 => ?_)
  · rw [if_pos c11] at h
    refine g_iconst (pc := 32) C (v := (-1 : Int32)) dX8_pin_32 (by decide) ?_
    cases h
    exact g_iret (pc := 33) C hr dX8_pin_33
  · rw [if_neg c11] at h
    refine g_iload_n (pc := 14) C 1 dX8_pin_14 rfl rfl ?_
    refine g_iload_n (pc := 15) C 2 dX8_pin_15 rfl rfl ?_
    obtain ⟨r16, s16, hc16, h⟩ := hv_b2_some h
    refine g_callS (pc := 16) (σ1 := s16) (v := (some (.int (r16)))) (As := [.int (p0), .int (p1)]) (rest := []) C (vX8_isPlace hc16) (va_cwS 2 C.1.2.2.2.2 gX8_pin_X8_isPlace rfl rfl rfl (by decide +kernel) ⟨Nat.le_of_ble_eq_true rfl, Nat.le_of_ble_eq_true rfl⟩) rfl rfl (Nat.le_of_ble_eq_true rfl) dX8_pin_16 ⟨Nat.zero_le _, Nat.zero_le _⟩ ?_
    refine g_st (st' := [.int (r16)]) rfl ?_
    refine g_if_eq (pc := 19) (tgt := 32) C dX8_pin_19 (by decide) (fun c19 => ?_) (fun c19 => ?_)
    · rw [if_pos c19] at h
      refine g_iconst (pc := 32) C (v := (-1 : Int32)) dX8_pin_32 (by decide) ?_
      cases h
      exact g_iret (pc := 33) C hr dX8_pin_33
    · rw [if_neg c19] at h
      refine g_aload_n (pc := 22) C 0 dX8_pin_22 rfl rfl ?_
      refine g_iload_n (pc := 23) C 1 dX8_pin_23 rfl rfl ?_
      refine g_iload_n (pc := 24) C 2 dX8_pin_24 rfl rfl ?_
      obtain ⟨r25, s25, hc25, h⟩ := hv_b2_some h
      refine g_callV (pc := 25) (σ1 := s25) (v := (some (.int (r25)))) (As := [.int (p0), .int (p1)]) (rest := []) C 0 (vX8_pinAt hc25) (cwV 2 C.1.2.2.2.2 gX8_pin_X8_pinAt rfl rfl rfl (by decide +kernel) ⟨Nat.le_of_ble_eq_true rfl, Nat.le_of_ble_eq_true rfl⟩) (Nat.le_of_ble_eq_true rfl) rfl rfl rfl rfl (Nat.le_of_ble_eq_true rfl) dX8_pin_25 ⟨Nat.zero_le _, Nat.zero_le _⟩ ?_
      refine g_st (st' := [.int (r25)]) rfl ?_
      refine g_iconst (pc := 28) C (v := (-1 : Int32)) dX8_pin_28 (by decide) ?_
      refine g_icmp_eq (pc := 29) (tgt := 34) C dX8_pin_29 (by decide) (fun c29 => ?_) (fun c29 => ?_)
      · rw [if_pos c29] at h
        refine g_aload_n (pc := 34) C 0 dX8_pin_34 rfl rfl ?_
        refine gm_get_0_2 (pc := 35) C iX8_pin_X8 qX8_pin_F7 dX8_pin_35 ?_
        refine g_aload_n (pc := 38) C 0 dX8_pin_38 rfl rfl ?_
        refine gm_get_0_1 (pc := 39) C iX8_pin_X8 qX8_pin_F81 dX8_pin_39 ?_
        refine g_iload_n (pc := 42) C 1 dX8_pin_42 rfl rfl ?_
        obtain ⟨k43, h⟩ := hv_if_some h
        obtain ⟨s43, es43, h⟩ := hv_let_some h
        refine gm_st_1 (pc := 43) C es43 k43 dX8_pin_43 ?_
        refine g_aload_n (pc := 44) C 0 dX8_pin_44 rfl rfl ?_
        refine gm_get_0_3 (pc := 45) C iX8_pin_X8 qX8_pin_F13 dX8_pin_45 ?_
        refine g_aload_n (pc := 48) C 0 dX8_pin_48 rfl rfl ?_
        refine gm_get_0_1 (pc := 49) C iX8_pin_X8 qX8_pin_F81 dX8_pin_49 ?_
        refine g_iload_n (pc := 52) C 2 dX8_pin_52 rfl rfl ?_
        obtain ⟨k53, h⟩ := hv_if_some h
        obtain ⟨s53, es53, h⟩ := hv_let_some h
        refine gm_st_2 (pc := 53) C es53 k53 dX8_pin_53 ?_
        refine g_aload_n (pc := 54) C 0 dX8_pin_54 rfl rfl ?_
        refine g_dup (pc := 55) C dX8_pin_55 rfl ?_
        refine gm_get_0_1 (pc := 56) C iX8_pin_X8 qX8_pin_F81 dX8_pin_56 ?_
        refine g_iconst (pc := 59) C (v := (1 : Int32)) dX8_pin_59 (by decide) ?_
        refine g_iadd (pc := 60) C dX8_pin_60 ?_
        obtain ⟨s61, es61, h⟩ := hv_let_some h
        refine gm_put_0_1 (pc := 61) C es61 iX8_pin_X8 qX8_pin_F81 dX8_pin_61 ?_
        refine g_aload_n (pc := 64) C 0 dX8_pin_64 rfl rfl ?_
        refine gm_get_0_1 (pc := 65) C iX8_pin_X8 qX8_pin_F81 dX8_pin_65 ?_
        refine g_iconst (pc := 68) C (v := (1 : Int32)) dX8_pin_68 (by decide) ?_
        refine g_isub (pc := 69) C dX8_pin_69 ?_
        cases h
        exact g_iret (pc := 70) C hr dX8_pin_70
      · rw [if_neg c29] at h
        refine g_iconst (pc := 32) C (v := (-1 : Int32)) dX8_pin_32 (by decide) ?_
        cases h
        exact g_iret (pc := 33) C hr dX8_pin_33
abbrev rmX8_place : Room := { frames := 2, cells := 0, slots := 0, locals := 46 }
set_option maxRecDepth 20000 in
theorem qX8_place_F13 : Cond.fieldLink RX8 13 "PinFrameModel" "y" "[I" ∈ wsX8_place := by decide +kernel
set_option maxRecDepth 20000 in
theorem qX8_place_F7 : Cond.fieldLink RX8 7 "PinFrameModel" "x" "[I" ∈ wsX8_place := by decide +kernel
set_option maxRecDepth 20000 in
theorem qX8_place_F77 : Cond.fieldLink RX8 77 "PinFrameModel" "raised" "I" ∈ wsX8_place := by decide +kernel
set_option maxRecDepth 20000 in
theorem iX8_place_X8 : ∀ w ∈ u_ws RX8 TX8 35, w ∈ wsX8_place := by decide +kernel
set_option maxHeartbeats 4000000 in
set_option maxRecDepth 20000 in
theorem vX8_place {n : Nat} {σ : hv_St} {p0 : Int32} {p1 : Int32} {p2 : Int32} {o : Int32 × hv_St} (h : mX8_place n σ p0 p1 p2 = some o) : hv_M l yX8_place wsX8_place rmX8_place D (hv_tys cy) 23 a (hv_ME a cy) [.ref (a 0), .int (p0), .int (p1), .int (p2)] σ (some (.int o.1)) o.2 := by
  refine hv_enter (own := RX8) (cc := cX8_place) (maxL := 4) (ret := (some .boolean)) (by decide) rfl rfl (Nat.le_of_ble_eq_true rfl) ?_
  intro p e s m args below meth c C hr
  unfold mX8_place at h
  refine g_lv [0, 1, 2, 3] (lv' := [(0, .ref (a 0)), (1, .int (p0)), (2, .int (p1)), (3, .int (p2))]) rfl ?_
  refine g_aload_n (pc := 0) C 0 dX8_place_0 rfl rfl ?_
  refine g_iconst (pc := 1) C (v := (0 : Int32)) dX8_place_1 (by decide) ?_
  obtain ⟨s2, es2, h⟩ := hv_let_some h
  refine gm_put_0_0 (pc := 2) C es2 iX8_place_X8 qX8_place_F77 dX8_place_2 ?_
  refine g_aload_n (pc := 5) C 0 dX8_place_5 rfl rfl ?_
  refine g_iload_n (pc := 6) C 1 dX8_place_6 rfl rfl ?_
  obtain ⟨r7, s7, hc7, h⟩ := hv_b2_some h
  refine g_callV (pc := 7) (σ1 := s7) (v := (some (.int (r7)))) (As := [.int (p0)]) (rest := []) C 0 (vX8_isPin hc7) (cwV 1 C.1.2.2.2.2 gX8_place_X8_isPin rfl rfl rfl (by decide +kernel) ⟨Nat.le_of_ble_eq_true rfl, Nat.le_of_ble_eq_true rfl⟩) (Nat.le_of_ble_eq_true rfl) rfl rfl rfl rfl (Nat.le_of_ble_eq_true rfl) dX8_place_7 ⟨Nat.zero_le _, Nat.zero_le _⟩ ?_
  refine g_st (st' := [.int (r7)]) rfl ?_
  refine g_if_eq (pc := 10) (tgt := 31) C dX8_place_10 (by decide) (fun c10 => ?_) (fun c10 => ?_)
  · rw [if_pos c10] at h
    refine g_iconst (pc := 31) C (v := (0 : Int32)) dX8_place_31 (by decide) ?_
    cases h
    exact g_zret (pc := 32) (x := (0 : Int32)) C hr (by decide) dX8_place_32
  · rw [if_neg c10] at h
    refine g_iload_n (pc := 13) C 2 dX8_place_13 rfl rfl ?_
    refine g_iload_n (pc := 14) C 3 dX8_place_14 rfl rfl ?_
    obtain ⟨r15, s15, hc15, h⟩ := hv_b2_some h
    refine g_callS (pc := 15) (σ1 := s15) (v := (some (.int (r15)))) (As := [.int (p1), .int (p2)]) (rest := []) C (vX8_isPlace hc15) (va_cwS 2 C.1.2.2.2.2 gX8_place_X8_isPlace rfl rfl rfl (by decide +kernel) ⟨Nat.le_of_ble_eq_true rfl, Nat.le_of_ble_eq_true rfl⟩) rfl rfl (Nat.le_of_ble_eq_true rfl) dX8_place_15 ⟨Nat.zero_le _, Nat.zero_le _⟩ ?_
    refine g_st (st' := [.int (r15)]) rfl ?_
    refine g_if_eq (pc := 18) (tgt := 31) C dX8_place_18 (by decide) (fun c18 => ?_) (fun c18 => ?_)
    · rw [if_pos c18] at h
      refine g_iconst (pc := 31) C (v := (0 : Int32)) dX8_place_31 (by decide) ?_
      cases h
      exact g_zret (pc := 32) (x := (0 : Int32)) C hr (by decide) dX8_place_32
    · rw [if_neg c18] at h
      refine g_aload_n (pc := 21) C 0 dX8_place_21 rfl rfl ?_
      refine g_iload_n (pc := 22) C 2 dX8_place_22 rfl rfl ?_
      refine g_iload_n (pc := 23) C 3 dX8_place_23 rfl rfl ?_
      obtain ⟨r24, s24, hc24, h⟩ := hv_b2_some h
      refine g_callV (pc := 24) (σ1 := s24) (v := (some (.int (r24)))) (As := [.int (p1), .int (p2)]) (rest := []) C 0 (vX8_pinAt hc24) (cwV 2 C.1.2.2.2.2 gX8_place_X8_pinAt rfl rfl rfl (by decide +kernel) ⟨Nat.le_of_ble_eq_true rfl, Nat.le_of_ble_eq_true rfl⟩) (Nat.le_of_ble_eq_true rfl) rfl rfl rfl rfl (Nat.le_of_ble_eq_true rfl) dX8_place_24 ⟨Nat.zero_le _, Nat.zero_le _⟩ ?_
      refine g_st (st' := [.int (r24)]) rfl ?_
      refine g_iconst (pc := 27) C (v := (-1 : Int32)) dX8_place_27 (by decide) ?_
      refine g_icmp_eq (pc := 28) (tgt := 33) C dX8_place_28 (by decide) (fun c28 => ?_) (fun c28 => ?_)
      · rw [if_pos c28] at h
        refine g_aload_n (pc := 33) C 0 dX8_place_33 rfl rfl ?_
        refine gm_get_0_2 (pc := 34) C iX8_place_X8 qX8_place_F7 dX8_place_34 ?_
        refine g_iload_n (pc := 37) C 1 dX8_place_37 rfl rfl ?_
        refine g_iload_n (pc := 38) C 2 dX8_place_38 rfl rfl ?_
        obtain ⟨k39, h⟩ := hv_if_some h
        obtain ⟨s39, es39, h⟩ := hv_let_some h
        refine gm_st_1 (pc := 39) C es39 k39 dX8_place_39 ?_
        refine g_aload_n (pc := 40) C 0 dX8_place_40 rfl rfl ?_
        refine gm_get_0_3 (pc := 41) C iX8_place_X8 qX8_place_F13 dX8_place_41 ?_
        refine g_iload_n (pc := 44) C 1 dX8_place_44 rfl rfl ?_
        refine g_iload_n (pc := 45) C 3 dX8_place_45 rfl rfl ?_
        obtain ⟨k46, h⟩ := hv_if_some h
        obtain ⟨s46, es46, h⟩ := hv_let_some h
        refine gm_st_2 (pc := 46) C es46 k46 dX8_place_46 ?_
        refine g_iconst (pc := 47) C (v := (1 : Int32)) dX8_place_47 (by decide) ?_
        cases h
        exact g_zret (pc := 48) (x := (1 : Int32)) C hr (by decide) dX8_place_48
      · rw [if_neg c28] at h
        refine g_iconst (pc := 31) C (v := (0 : Int32)) dX8_place_31 (by decide) ?_
        cases h
        exact g_zret (pc := 32) (x := (0 : Int32)) C hr (by decide) dX8_place_32
abbrev rmX8_bar : Room := { frames := 2, cells := 0, slots := 0, locals := 46 }
set_option maxRecDepth 20000 in
theorem qX8_bar_F107 : Cond.fieldLink RX8 107 "PinFrameModel" "on" "I" ∈ wsX8_bar := by decide +kernel
set_option maxRecDepth 20000 in
theorem qX8_bar_F22 : Cond.fieldLink RX8 22 "PinFrameModel" "one" "[I" ∈ wsX8_bar := by decide +kernel
set_option maxRecDepth 20000 in
theorem qX8_bar_F25 : Cond.fieldLink RX8 25 "PinFrameModel" "other" "[I" ∈ wsX8_bar := by decide +kernel
set_option maxRecDepth 20000 in
theorem qX8_bar_F28 : Cond.fieldLink RX8 28 "PinFrameModel" "give" "[I" ∈ wsX8_bar := by decide +kernel
set_option maxRecDepth 20000 in
theorem qX8_bar_F31 : Cond.fieldLink RX8 31 "PinFrameModel" "strength" "[I" ∈ wsX8_bar := by decide +kernel
set_option maxRecDepth 20000 in
theorem qX8_bar_F77 : Cond.fieldLink RX8 77 "PinFrameModel" "raised" "I" ∈ wsX8_bar := by decide +kernel
set_option maxRecDepth 20000 in
theorem qX8_bar_F88 : Cond.fieldLink RX8 88 "PinFrameModel" "bars" "I" ∈ wsX8_bar := by decide +kernel
set_option maxRecDepth 20000 in
theorem qX8_bar_L91 : Cond.constantLong RX8 91 (3) ∈ wsX8_bar := by decide +kernel
set_option maxRecDepth 20000 in
theorem iX8_bar_X8 : ∀ w ∈ u_ws RX8 TX8 35, w ∈ wsX8_bar := by decide +kernel
set_option maxHeartbeats 4000000 in
set_option maxRecDepth 20000 in
theorem bX8_bar_107 (C : hv_C p s m args meth c cX8_bar 5 wsX8_bar RX8 D (hv_tys cy)) (hr : meth.sig.returnType = (some .int)) {n : Nat} {o : Int32 × hv_St} {r52 : hv_St → Int32 → Int32 → Int32 → Int32 → Option (Int32 × hv_St)} (hr52 : ∀ (σ : hv_St) (x1 : Int32) (x2 : Int32) (x3 : Int32) (x4 : Int32), r52 σ x1 x2 x3 x4 = some o → hv_G p l e (headSpec wsX8_bar rmX8_bar).room s m args below meth c 5 D 23 a (hv_ME a cy) 0 0 (hv_MQ D 23 a (hv_ME a cy) below args s (some (.int o.1)) o.2) σ 52 [(0, .ref (a 0)), (1, .int (x1)), (2, .int (x2)), (3, .int (x3)), (4, .int (x4))] []) : ∀ (σ : hv_St) (x1 : Int32) (x2 : Int32) (x3 : Int32) (x4 : Int32), kX8_bar_107 n r52 σ x1 x2 x3 x4 = some o → hv_G p l e (headSpec wsX8_bar rmX8_bar).room s m args below meth c 5 D 23 a (hv_ME a cy) 0 0 (hv_MQ D 23 a (hv_ME a cy) below args s (some (.int o.1)) o.2) σ 107 [(0, .ref (a 0)), (1, .int (x1)), (2, .int (x2)), (3, .int (x3)), (4, .int (x4))] [] := by
  intro σ x1 x2 x3 x4 h
  unfold kX8_bar_107 at h
  refine g_iinc (pc := 107) C 4 (v := x4 + 1) (lv' := [(4, .int (x4 + 1)), (0, .ref (a 0)), (1, .int (x1)), (2, .int (x2)), (3, .int (x3))]) dX8_bar_107 rfl rfl (Nat.le_of_ble_eq_true rfl) rfl ?_
  refine g_goto (pc := 110) C (tgt := 52) dX8_bar_110 (by decide) ?_
  exact g_lv [1, 2, 3, 4, 0] rfl (hr52 σ (x1) (x2) (x3) (x4 + 1) h)
set_option maxHeartbeats 4000000 in
set_option maxRecDepth 20000 in
theorem bX8_bar_83 (C : hv_C p s m args meth c cX8_bar 5 wsX8_bar RX8 D (hv_tys cy)) (hr : meth.sig.returnType = (some .int)) {n : Nat} {o : Int32 × hv_St} {r52 : hv_St → Int32 → Int32 → Int32 → Int32 → Option (Int32 × hv_St)} (hr52 : ∀ (σ : hv_St) (x1 : Int32) (x2 : Int32) (x3 : Int32) (x4 : Int32), r52 σ x1 x2 x3 x4 = some o → hv_G p l e (headSpec wsX8_bar rmX8_bar).room s m args below meth c 5 D 23 a (hv_ME a cy) 0 0 (hv_MQ D 23 a (hv_ME a cy) below args s (some (.int o.1)) o.2) σ 52 [(0, .ref (a 0)), (1, .int (x1)), (2, .int (x2)), (3, .int (x3)), (4, .int (x4))] []) : ∀ (σ : hv_St) (x1 : Int32) (x2 : Int32) (x3 : Int32) (x4 : Int32), kX8_bar_83 n r52 σ x1 x2 x3 x4 = some o → hv_G p l e (headSpec wsX8_bar rmX8_bar).room s m args below meth c 5 D 23 a (hv_ME a cy) 0 0 (hv_MQ D 23 a (hv_ME a cy) below args s (some (.int o.1)) o.2) σ 83 [(0, .ref (a 0)), (1, .int (x1)), (2, .int (x2)), (3, .int (x3)), (4, .int (x4))] [] := by
  intro σ x1 x2 x3 x4 h
  unfold kX8_bar_83 at h
  refine g_aload_n (pc := 83) C 0 dX8_bar_83 rfl rfl ?_
  refine gm_get_0_7 (pc := 84) C iX8_bar_X8 qX8_bar_F22 dX8_bar_84 ?_
  refine g_iload (pc := 87) C 4 dX8_bar_87 rfl ?_
  obtain ⟨k89, h⟩ := hv_if_some h
  refine gm_ld_5 (pc := 89) C k89 dX8_bar_89 ?_
  refine g_iload_n (pc := 90) C 2 dX8_bar_90 rfl rfl ?_
  refine g_icmp_ne (pc := 91) (tgt := 107) C dX8_bar_91 (by decide) (fun c91 => ?_) (fun c91 => ?_)
  · rw [if_neg c91] at h
    exact g_lv [0, 1, 2, 3, 4] rfl (bX8_bar_107 C hr hr52 σ (x1) (x2) (x3) (x4) h)
  · rw [if_pos c91] at h
    refine g_aload_n (pc := 94) C 0 dX8_bar_94 rfl rfl ?_
    refine gm_get_0_8 (pc := 95) C iX8_bar_X8 qX8_bar_F25 dX8_bar_95 ?_
    refine g_iload (pc := 98) C 4 dX8_bar_98 rfl ?_
    obtain ⟨k100, h⟩ := hv_if_some h
    refine gm_ld_6 (pc := 100) C k100 dX8_bar_100 ?_
    refine g_iload_n (pc := 101) C 1 dX8_bar_101 rfl rfl ?_
    refine g_icmp_ne (pc := 102) (tgt := 107) C dX8_bar_102 (by decide) (fun c102 => ?_) (fun c102 => ?_)
    · rw [if_neg c102] at h
      exact g_lv [0, 1, 2, 3, 4] rfl (bX8_bar_107 C hr hr52 σ (x1) (x2) (x3) (x4) h)
    · rw [if_pos c102] at h
      refine g_iconst (pc := 105) C (v := (-1 : Int32)) dX8_bar_105 (by decide) ?_
      cases h
      exact g_iret (pc := 106) C hr dX8_bar_106
set_option maxHeartbeats 4000000 in
set_option maxRecDepth 20000 in
theorem bX8_bar_52 (C : hv_C p s m args meth c cX8_bar 5 wsX8_bar RX8 D (hv_tys cy)) (hr : meth.sig.returnType = (some .int)) {n : Nat} {o : Int32 × hv_St} : ∀ (i : Nat) (σ : hv_St) (x1 : Int32) (x2 : Int32) (x3 : Int32) (x4 : Int32), kX8_bar_52 n i σ x1 x2 x3 x4 = some o → hv_G p l e (headSpec wsX8_bar rmX8_bar).room s m args below meth c 5 D 23 a (hv_ME a cy) 0 0 (hv_MQ D 23 a (hv_ME a cy) below args s (some (.int o.1)) o.2) σ 52 [(0, .ref (a 0)), (1, .int (x1)), (2, .int (x2)), (3, .int (x3)), (4, .int (x4))] [] := by
  intro i
  induction i with
  | zero =>
    intro σ x1 x2 x3 x4 h
    cases h
  | succ i ih =>
    intro σ x1 x2 x3 x4 h
    generalize hg : kX8_bar_52 n i = r52 at ih
    have hr52 := ih
    replace h : kX8_bar_52_b n r52 σ x1 x2 x3 x4 = some o := by rw [← hg]; exact h
    unfold kX8_bar_52_b at h
    refine g_iload (pc := 52) C 4 dX8_bar_52 rfl ?_
    refine g_aload_n (pc := 54) C 0 dX8_bar_54 rfl rfl ?_
    refine gm_get_0_6 (pc := 55) C iX8_bar_X8 qX8_bar_F88 dX8_bar_55 ?_
    refine g_icmp_ge (pc := 58) (tgt := 113) C dX8_bar_58 (by decide) (fun c58 => ?_) (fun c58 => ?_)
    · rw [if_pos c58] at h
      refine g_aload_n (pc := 113) C 0 dX8_bar_113 rfl rfl ?_
      refine gm_get_0_7 (pc := 114) C iX8_bar_X8 qX8_bar_F22 dX8_bar_114 ?_
      refine g_aload_n (pc := 117) C 0 dX8_bar_117 rfl rfl ?_
      refine gm_get_0_6 (pc := 118) C iX8_bar_X8 qX8_bar_F88 dX8_bar_118 ?_
      refine g_iload_n (pc := 121) C 1 dX8_bar_121 rfl rfl ?_
      obtain ⟨k122, h⟩ := hv_if_some h
      obtain ⟨s122, es122, h⟩ := hv_let_some h
      refine gm_st_5 (pc := 122) C es122 k122 dX8_bar_122 ?_
      refine g_aload_n (pc := 123) C 0 dX8_bar_123 rfl rfl ?_
      refine gm_get_0_8 (pc := 124) C iX8_bar_X8 qX8_bar_F25 dX8_bar_124 ?_
      refine g_aload_n (pc := 127) C 0 dX8_bar_127 rfl rfl ?_
      refine gm_get_0_6 (pc := 128) C iX8_bar_X8 qX8_bar_F88 dX8_bar_128 ?_
      refine g_iload_n (pc := 131) C 2 dX8_bar_131 rfl rfl ?_
      obtain ⟨k132, h⟩ := hv_if_some h
      obtain ⟨s132, es132, h⟩ := hv_let_some h
      refine gm_st_6 (pc := 132) C es132 k132 dX8_bar_132 ?_
      refine g_aload_n (pc := 133) C 0 dX8_bar_133 rfl rfl ?_
      refine gm_get_0_9 (pc := 134) C iX8_bar_X8 qX8_bar_F28 dX8_bar_134 ?_
      refine g_aload_n (pc := 137) C 0 dX8_bar_137 rfl rfl ?_
      refine gm_get_0_6 (pc := 138) C iX8_bar_X8 qX8_bar_F88 dX8_bar_138 ?_
      refine g_iload_n (pc := 141) C 3 dX8_bar_141 rfl rfl ?_
      obtain ⟨k142, h⟩ := hv_if_some h
      obtain ⟨s142, es142, h⟩ := hv_let_some h
      refine gm_st_7 (pc := 142) C es142 k142 dX8_bar_142 ?_
      refine g_aload_n (pc := 143) C 0 dX8_bar_143 rfl rfl ?_
      refine gm_get_0_10 (pc := 144) C iX8_bar_X8 qX8_bar_F31 dX8_bar_144 ?_
      refine g_aload_n (pc := 147) C 0 dX8_bar_147 rfl rfl ?_
      refine gm_get_0_6 (pc := 148) C iX8_bar_X8 qX8_bar_F88 dX8_bar_148 ?_
      refine g_bipush (pc := 151) C (v := (99 : Int32)) dX8_bar_151 (by decide) ?_
      obtain ⟨k153, h⟩ := hv_if_some h
      obtain ⟨s153, es153, h⟩ := hv_let_some h
      refine gm_st_8 (pc := 153) C es153 k153 dX8_bar_153 ?_
      refine g_aload_n (pc := 154) C 0 dX8_bar_154 rfl rfl ?_
      refine g_dup (pc := 155) C dX8_bar_155 rfl ?_
      refine gm_get_0_11 (pc := 156) C iX8_bar_X8 qX8_bar_F107 dX8_bar_156 ?_
      refine g_iconst (pc := 159) C (v := (1 : Int32)) dX8_bar_159 (by decide) ?_
      refine g_aload_n (pc := 160) C 0 dX8_bar_160 rfl rfl ?_
      refine gm_get_0_6 (pc := 161) C iX8_bar_X8 qX8_bar_F88 dX8_bar_161 ?_
      refine g_ishl (pc := 164) C dX8_bar_164 ?_
      refine g_ior (pc := 165) C dX8_bar_165 ?_
      obtain ⟨s166, es166, h⟩ := hv_let_some h
      refine gm_put_0_11 (pc := 166) C es166 iX8_bar_X8 qX8_bar_F107 dX8_bar_166 ?_
      refine g_aload_n (pc := 169) C 0 dX8_bar_169 rfl rfl ?_
      refine g_dup (pc := 170) C dX8_bar_170 rfl ?_
      refine gm_get_0_6 (pc := 171) C iX8_bar_X8 qX8_bar_F88 dX8_bar_171 ?_
      refine g_iconst (pc := 174) C (v := (1 : Int32)) dX8_bar_174 (by decide) ?_
      refine g_iadd (pc := 175) C dX8_bar_175 ?_
      obtain ⟨s176, es176, h⟩ := hv_let_some h
      refine gm_put_0_6 (pc := 176) C es176 iX8_bar_X8 qX8_bar_F88 dX8_bar_176 ?_
      refine g_aload_n (pc := 179) C 0 dX8_bar_179 rfl rfl ?_
      refine gm_get_0_6 (pc := 180) C iX8_bar_X8 qX8_bar_F88 dX8_bar_180 ?_
      refine g_iconst (pc := 183) C (v := (1 : Int32)) dX8_bar_183 (by decide) ?_
      refine g_isub (pc := 184) C dX8_bar_184 ?_
      cases h
      exact g_iret (pc := 185) C hr dX8_bar_185
    · rw [if_neg c58] at h
      refine g_aload_n (pc := 61) C 0 dX8_bar_61 rfl rfl ?_
      refine gm_get_0_7 (pc := 62) C iX8_bar_X8 qX8_bar_F22 dX8_bar_62 ?_
      refine g_iload (pc := 65) C 4 dX8_bar_65 rfl ?_
      obtain ⟨k67, h⟩ := hv_if_some h
      refine gm_ld_5 (pc := 67) C k67 dX8_bar_67 ?_
      refine g_iload_n (pc := 68) C 1 dX8_bar_68 rfl rfl ?_
      refine g_icmp_ne (pc := 69) (tgt := 83) C dX8_bar_69 (by decide) (fun c69 => ?_) (fun c69 => ?_)
      · rw [if_neg c69] at h
        exact g_lv [0, 1, 2, 3, 4] rfl (bX8_bar_83 C hr hr52 σ (x1) (x2) (x3) (x4) h)
      · rw [if_pos c69] at h
        refine g_aload_n (pc := 72) C 0 dX8_bar_72 rfl rfl ?_
        refine gm_get_0_8 (pc := 73) C iX8_bar_X8 qX8_bar_F25 dX8_bar_73 ?_
        refine g_iload (pc := 76) C 4 dX8_bar_76 rfl ?_
        obtain ⟨k78, h⟩ := hv_if_some h
        refine gm_ld_6 (pc := 78) C k78 dX8_bar_78 ?_
        refine g_iload_n (pc := 79) C 2 dX8_bar_79 rfl rfl ?_
        refine g_icmp_eq (pc := 80) (tgt := 105) C dX8_bar_80 (by decide) (fun c80 => ?_) (fun c80 => ?_)
        · rw [if_pos c80] at h
          refine g_iconst (pc := 105) C (v := (-1 : Int32)) dX8_bar_105 (by decide) ?_
          cases h
          exact g_iret (pc := 106) C hr dX8_bar_106
        · rw [if_neg c80] at h
          exact g_lv [0, 1, 2, 3, 4] rfl (bX8_bar_83 C hr hr52 σ (x1) (x2) (x3) (x4) h)
set_option maxHeartbeats 4000000 in
set_option maxRecDepth 20000 in
theorem vX8_bar {n : Nat} {σ : hv_St} {p0 : Int32} {p1 : Int32} {p2 : Int32} {o : Int32 × hv_St} (h : mX8_bar n σ p0 p1 p2 = some o) : hv_M l yX8_bar wsX8_bar rmX8_bar D (hv_tys cy) 23 a (hv_ME a cy) [.ref (a 0), .int (p0), .int (p1), .int (p2)] σ (some (.int o.1)) o.2 := by
  refine hv_enter (own := RX8) (cc := cX8_bar) (maxL := 5) (ret := (some .int)) (by decide) rfl rfl (Nat.le_of_ble_eq_true rfl) ?_
  intro p e s m args below meth c C hr
  unfold mX8_bar at h
  refine g_lv [0, 1, 2, 3] (lv' := [(0, .ref (a 0)), (1, .int (p0)), (2, .int (p1)), (3, .int (p2))]) rfl ?_
  refine g_aload_n (pc := 0) C 0 dX8_bar_0 rfl rfl ?_
  refine g_iconst (pc := 1) C (v := (0 : Int32)) dX8_bar_1 (by decide) ?_
  obtain ⟨s2, es2, h⟩ := hv_let_some h
  refine gm_put_0_0 (pc := 2) C es2 iX8_bar_X8 qX8_bar_F77 dX8_bar_2 ?_
  refine g_aload_n (pc := 5) C 0 dX8_bar_5 rfl rfl ?_
  refine gm_get_0_6 (pc := 6) C iX8_bar_X8 qX8_bar_F88 dX8_bar_6 ?_
  refine g_bipush (pc := 9) C (v := (11 : Int32)) dX8_bar_9 (by decide) ?_
  refine g_icmp_eq (pc := 11) (tgt := 47) C dX8_bar_11 (by decide) (fun c11 => ?_) (fun c11 => ?_)
  · rw [if_pos c11] at h
    refine g_iconst (pc := 47) C (v := (-1 : Int32)) dX8_bar_47 (by decide) ?_
    cases h
    exact g_iret (pc := 48) C hr dX8_bar_48
  · rw [if_neg c11] at h
    refine g_aload_n (pc := 14) C 0 dX8_bar_14 rfl rfl ?_
    refine g_iload_n (pc := 15) C 1 dX8_bar_15 rfl rfl ?_
    obtain ⟨r16, s16, hc16, h⟩ := hv_b2_some h
    refine g_callV (pc := 16) (σ1 := s16) (v := (some (.int (r16)))) (As := [.int (p0)]) (rest := []) C 0 (vX8_isPin hc16) (cwV 1 C.1.2.2.2.2 gX8_bar_X8_isPin rfl rfl rfl (by decide +kernel) ⟨Nat.le_of_ble_eq_true rfl, Nat.le_of_ble_eq_true rfl⟩) (Nat.le_of_ble_eq_true rfl) rfl rfl rfl rfl (Nat.le_of_ble_eq_true rfl) dX8_bar_16 ⟨Nat.zero_le _, Nat.zero_le _⟩ ?_
    refine g_st (st' := [.int (r16)]) rfl ?_
    refine g_if_eq (pc := 19) (tgt := 47) C dX8_bar_19 (by decide) (fun c19 => ?_) (fun c19 => ?_)
    · rw [if_pos c19] at h
      refine g_iconst (pc := 47) C (v := (-1 : Int32)) dX8_bar_47 (by decide) ?_
      cases h
      exact g_iret (pc := 48) C hr dX8_bar_48
    · rw [if_neg c19] at h
      refine g_aload_n (pc := 22) C 0 dX8_bar_22 rfl rfl ?_
      refine g_iload_n (pc := 23) C 2 dX8_bar_23 rfl rfl ?_
      obtain ⟨r24, s24, hc24, h⟩ := hv_b2_some h
      refine g_callV (pc := 24) (σ1 := s24) (v := (some (.int (r24)))) (As := [.int (p1)]) (rest := []) C 0 (vX8_isPin hc24) (cwV 1 C.1.2.2.2.2 gX8_bar_X8_isPin rfl rfl rfl (by decide +kernel) ⟨Nat.le_of_ble_eq_true rfl, Nat.le_of_ble_eq_true rfl⟩) (Nat.le_of_ble_eq_true rfl) rfl rfl rfl rfl (Nat.le_of_ble_eq_true rfl) dX8_bar_24 ⟨Nat.zero_le _, Nat.zero_le _⟩ ?_
      refine g_st (st' := [.int (r24)]) rfl ?_
      refine g_if_eq (pc := 27) (tgt := 47) C dX8_bar_27 (by decide) (fun c27 => ?_) (fun c27 => ?_)
      · rw [if_pos c27] at h
        refine g_iconst (pc := 47) C (v := (-1 : Int32)) dX8_bar_47 (by decide) ?_
        cases h
        exact g_iret (pc := 48) C hr dX8_bar_48
      · rw [if_neg c27] at h
        refine g_iload_n (pc := 30) C 1 dX8_bar_30 rfl rfl ?_
        refine g_iload_n (pc := 31) C 2 dX8_bar_31 rfl rfl ?_
        refine g_icmp_eq (pc := 32) (tgt := 47) C dX8_bar_32 (by decide) (fun c32 => ?_) (fun c32 => ?_)
        · rw [if_pos c32] at h
          refine g_iconst (pc := 47) C (v := (-1 : Int32)) dX8_bar_47 (by decide) ?_
          cases h
          exact g_iret (pc := 48) C hr dX8_bar_48
        · rw [if_neg c32] at h
          refine g_iload_n (pc := 35) C 3 dX8_bar_35 rfl rfl ?_
          refine g_i2l (pc := 36) C dX8_bar_36 ?_
          refine g_lconst (pc := 37) C (v := (1 : Int64)) dX8_bar_37 (by decide) ?_
          refine g_ldc2 (pc := 38) C (v := (3 : Int64)) qX8_bar_L91 dX8_bar_38 ?_
          obtain ⟨r41, s41, hc41, h⟩ := hv_b2_some h
          refine g_callS (pc := 41) (σ1 := s41) (v := (some (.int (r41)))) (As := [.long ((p2).toInt64), .long ((1 : Int64)), .long ((3 : Int64))]) (rest := []) C (vX8_in hc41) (va_cwS 3 C.1.2.2.2.2 gX8_bar_X8_in rfl rfl rfl (by decide +kernel) ⟨Nat.le_of_ble_eq_true rfl, Nat.le_of_ble_eq_true rfl⟩) rfl rfl (Nat.le_of_ble_eq_true rfl) dX8_bar_41 ⟨Nat.zero_le _, Nat.zero_le _⟩ ?_
          refine g_st (st' := [.int (r41)]) rfl ?_
          refine g_if_ne (pc := 44) (tgt := 49) C dX8_bar_44 (by decide) (fun c44 => ?_) (fun c44 => ?_)
          · rw [if_neg c44] at h
            refine g_iconst (pc := 49) C (v := (0 : Int32)) dX8_bar_49 (by decide) ?_
            refine g_istore (pc := 50) C (lv' := [(4, .int ((0 : Int32))), (0, .ref (a 0)), (1, .int (p0)), (2, .int (p1)), (3, .int (p2))]) rfl dX8_bar_50 (Nat.le_of_ble_eq_true rfl) rfl ?_
            exact g_lv [1, 2, 3, 4, 0] rfl (bX8_bar_52 C hr n s41 (p0) (p1) (p2) ((0 : Int32)) h)
          · rw [if_pos c44] at h
            refine g_iconst (pc := 47) C (v := (-1 : Int32)) dX8_bar_47 (by decide) ?_
            cases h
            exact g_iret (pc := 48) C hr dX8_bar_48
abbrev rmX8_turn : Room := { frames := 2, cells := 0, slots := 0, locals := 46 }
set_option maxRecDepth 20000 in
theorem qX8_turn_F107 : Cond.fieldLink RX8 107 "PinFrameModel" "on" "I" ∈ wsX8_turn := by decide +kernel
set_option maxRecDepth 20000 in
theorem qX8_turn_F77 : Cond.fieldLink RX8 77 "PinFrameModel" "raised" "I" ∈ wsX8_turn := by decide +kernel
set_option maxRecDepth 20000 in
theorem iX8_turn_X8 : ∀ w ∈ u_ws RX8 TX8 35, w ∈ wsX8_turn := by decide +kernel
set_option maxHeartbeats 4000000 in
set_option maxRecDepth 20000 in
theorem vX8_turn {n : Nat} {σ : hv_St} {p0 : Int32} {p1 : Int32} {o : Int32 × hv_St} (h : mX8_turn n σ p0 p1 = some o) : hv_M l yX8_turn wsX8_turn rmX8_turn D (hv_tys cy) 23 a (hv_ME a cy) [.ref (a 0), .int (p0), .int (p1)] σ (some (.int o.1)) o.2 := by
  refine hv_enter (own := RX8) (cc := cX8_turn) (maxL := 3) (ret := (some .boolean)) (by decide) rfl rfl (Nat.le_of_ble_eq_true rfl) ?_
  intro p e s m args below meth c C hr
  unfold mX8_turn at h
  refine g_lv [0, 1, 2] (lv' := [(0, .ref (a 0)), (1, .int (p0)), (2, .int (p1))]) rfl ?_
  refine g_aload_n (pc := 0) C 0 dX8_turn_0 rfl rfl ?_
  refine g_iconst (pc := 1) C (v := (0 : Int32)) dX8_turn_1 (by decide) ?_
  obtain ⟨s2, es2, h⟩ := hv_let_some h
  refine gm_put_0_0 (pc := 2) C es2 iX8_turn_X8 qX8_turn_F77 dX8_turn_2 ?_
  refine g_aload_n (pc := 5) C 0 dX8_turn_5 rfl rfl ?_
  refine g_iload_n (pc := 6) C 1 dX8_turn_6 rfl rfl ?_
  obtain ⟨r7, s7, hc7, h⟩ := hv_b2_some h
  refine g_callV (pc := 7) (σ1 := s7) (v := (some (.int (r7)))) (As := [.int (p0)]) (rest := []) C 0 (vX8_isBar hc7) (cwV 1 C.1.2.2.2.2 gX8_turn_X8_isBar rfl rfl rfl (by decide +kernel) ⟨Nat.le_of_ble_eq_true rfl, Nat.le_of_ble_eq_true rfl⟩) (Nat.le_of_ble_eq_true rfl) rfl rfl rfl rfl (Nat.le_of_ble_eq_true rfl) dX8_turn_7 ⟨Nat.zero_le _, Nat.zero_le _⟩ ?_
  refine g_st (st' := [.int (r7)]) rfl ?_
  refine g_if_eq (pc := 10) (tgt := 25) C dX8_turn_10 (by decide) (fun c10 => ?_) (fun c10 => ?_)
  · rw [if_pos c10] at h
    refine g_iconst (pc := 25) C (v := (0 : Int32)) dX8_turn_25 (by decide) ?_
    cases h
    exact g_zret (pc := 26) (x := (0 : Int32)) C hr (by decide) dX8_turn_26
  · rw [if_neg c10] at h
    refine g_aload_n (pc := 13) C 0 dX8_turn_13 rfl rfl ?_
    refine gm_get_0_11 (pc := 14) C iX8_turn_X8 qX8_turn_F107 dX8_turn_14 ?_
    refine g_iload_n (pc := 17) C 1 dX8_turn_17 rfl rfl ?_
    obtain ⟨r18, s18, hc18, h⟩ := hv_b2_some h
    refine g_callS (pc := 18) (σ1 := s18) (v := (some (.int (r18)))) (As := [.int (s7.1 0 11), .int (p0)]) (rest := []) C (vX8_isOn hc18) (va_cwS 2 C.1.2.2.2.2 gX8_turn_X8_isOn rfl rfl rfl (by decide +kernel) ⟨Nat.le_of_ble_eq_true rfl, Nat.le_of_ble_eq_true rfl⟩) rfl rfl (Nat.le_of_ble_eq_true rfl) dX8_turn_18 ⟨Nat.zero_le _, Nat.zero_le _⟩ ?_
    refine g_st (st' := [.int (r18)]) rfl ?_
    refine g_iload_n (pc := 21) C 2 dX8_turn_21 rfl rfl ?_
    refine g_icmp_ne (pc := 22) (tgt := 27) C dX8_turn_22 (by decide) (fun c22 => ?_) (fun c22 => ?_)
    · rw [if_neg c22] at h
      refine g_aload_n (pc := 27) C 0 dX8_turn_27 rfl rfl ?_
      refine g_dup (pc := 28) C dX8_turn_28 rfl ?_
      refine gm_get_0_11 (pc := 29) C iX8_turn_X8 qX8_turn_F107 dX8_turn_29 ?_
      refine g_iconst (pc := 32) C (v := (1 : Int32)) dX8_turn_32 (by decide) ?_
      refine g_iload_n (pc := 33) C 1 dX8_turn_33 rfl rfl ?_
      refine g_ishl (pc := 34) C dX8_turn_34 ?_
      refine g_ixor (pc := 35) C dX8_turn_35 ?_
      obtain ⟨s36, es36, h⟩ := hv_let_some h
      refine gm_put_0_11 (pc := 36) C es36 iX8_turn_X8 qX8_turn_F107 dX8_turn_36 ?_
      refine g_iconst (pc := 39) C (v := (1 : Int32)) dX8_turn_39 (by decide) ?_
      cases h
      exact g_zret (pc := 40) (x := (1 : Int32)) C hr (by decide) dX8_turn_40
    · rw [if_pos c22] at h
      refine g_iconst (pc := 25) C (v := (0 : Int32)) dX8_turn_25 (by decide) ?_
      cases h
      exact g_zret (pc := 26) (x := (0 : Int32)) C hr (by decide) dX8_turn_26
abbrev rmX8_alter : Room := { frames := 2, cells := 0, slots := 0, locals := 46 }
set_option maxRecDepth 20000 in
theorem qX8_alter_F28 : Cond.fieldLink RX8 28 "PinFrameModel" "give" "[I" ∈ wsX8_alter := by decide +kernel
set_option maxRecDepth 20000 in
theorem qX8_alter_F31 : Cond.fieldLink RX8 31 "PinFrameModel" "strength" "[I" ∈ wsX8_alter := by decide +kernel
set_option maxRecDepth 20000 in
theorem qX8_alter_F77 : Cond.fieldLink RX8 77 "PinFrameModel" "raised" "I" ∈ wsX8_alter := by decide +kernel
set_option maxRecDepth 20000 in
theorem qX8_alter_L116 : Cond.constantLong RX8 116 (999) ∈ wsX8_alter := by decide +kernel
set_option maxRecDepth 20000 in
theorem qX8_alter_L91 : Cond.constantLong RX8 91 (3) ∈ wsX8_alter := by decide +kernel
set_option maxRecDepth 20000 in
theorem iX8_alter_X8 : ∀ w ∈ u_ws RX8 TX8 35, w ∈ wsX8_alter := by decide +kernel
set_option maxHeartbeats 4000000 in
set_option maxRecDepth 20000 in
theorem bX8_alter_54 (C : hv_C p s m args meth c cX8_alter 4 wsX8_alter RX8 D (hv_tys cy)) (hr : meth.sig.returnType = (some .boolean)) {n : Nat} {o : Int32 × hv_St} : ∀ (σ : hv_St) (x1 : Int32) (x2 : Int32) (x3 : Int32) (z0 : Int32), kX8_alter_54 n σ x1 x2 x3 z0 = some o → hv_G p l e (headSpec wsX8_alter rmX8_alter).room s m args below meth c 4 D 23 a (hv_ME a cy) 0 0 (hv_MQ D 23 a (hv_ME a cy) below args s (some (.int o.1)) o.2) σ 54 [(0, .ref (a 0)), (1, .int (x1)), (2, .int (x2)), (3, .int (x3))] [.int (z0)] := by
  intro σ x1 x2 x3 z0 h
  unfold kX8_alter_54 at h
  refine g_iload_n (pc := 54) C 3 dX8_alter_54 rfl rfl ?_
  refine g_icmp_ne (pc := 55) (tgt := 60) C dX8_alter_55 (by decide) (fun c55 => ?_) (fun c55 => ?_)
  · rw [if_neg c55] at h
    refine g_iload_n (pc := 60) C 2 dX8_alter_60 rfl rfl ?_
    refine g_if_eq (pc := 61) (tgt := 74) C dX8_alter_61 (by decide) (fun c61 => ?_) (fun c61 => ?_)
    · rw [if_pos c61] at h
      refine g_aload_n (pc := 74) C 0 dX8_alter_74 rfl rfl ?_
      refine gm_get_0_9 (pc := 75) C iX8_alter_X8 qX8_alter_F28 dX8_alter_75 ?_
      refine g_iload_n (pc := 78) C 1 dX8_alter_78 rfl rfl ?_
      refine g_iload_n (pc := 79) C 3 dX8_alter_79 rfl rfl ?_
      obtain ⟨k80, h⟩ := hv_if_some h
      obtain ⟨s80, es80, h⟩ := hv_let_some h
      refine gm_st_7 (pc := 80) C es80 k80 dX8_alter_80 ?_
      refine g_iconst (pc := 81) C (v := (1 : Int32)) dX8_alter_81 (by decide) ?_
      cases h
      exact g_zret (pc := 82) (x := (1 : Int32)) C hr (by decide) dX8_alter_82
    · rw [if_neg c61] at h
      refine g_aload_n (pc := 64) C 0 dX8_alter_64 rfl rfl ?_
      refine gm_get_0_10 (pc := 65) C iX8_alter_X8 qX8_alter_F31 dX8_alter_65 ?_
      refine g_iload_n (pc := 68) C 1 dX8_alter_68 rfl rfl ?_
      refine g_iload_n (pc := 69) C 3 dX8_alter_69 rfl rfl ?_
      obtain ⟨k70, h⟩ := hv_if_some h
      obtain ⟨s70, es70, h⟩ := hv_let_some h
      refine gm_st_8 (pc := 70) C es70 k70 dX8_alter_70 ?_
      refine g_goto (pc := 71) C (tgt := 81) dX8_alter_71 (by decide) ?_
      refine g_iconst (pc := 81) C (v := (1 : Int32)) dX8_alter_81 (by decide) ?_
      cases h
      exact g_zret (pc := 82) (x := (1 : Int32)) C hr (by decide) dX8_alter_82
  · rw [if_pos c55] at h
    refine g_iconst (pc := 58) C (v := (0 : Int32)) dX8_alter_58 (by decide) ?_
    cases h
    exact g_zret (pc := 59) (x := (0 : Int32)) C hr (by decide) dX8_alter_59
set_option maxHeartbeats 4000000 in
set_option maxRecDepth 20000 in
theorem bX8_alter_29 (C : hv_C p s m args meth c cX8_alter 4 wsX8_alter RX8 D (hv_tys cy)) (hr : meth.sig.returnType = (some .boolean)) {n : Nat} {o : Int32 × hv_St} : ∀ (σ : hv_St) (x1 : Int32) (x2 : Int32) (x3 : Int32) (z0 : Int64) (z1 : Int64) (z2 : Int64), kX8_alter_29 n σ x1 x2 x3 z0 z1 z2 = some o → hv_G p l e (headSpec wsX8_alter rmX8_alter).room s m args below meth c 4 D 23 a (hv_ME a cy) 0 0 (hv_MQ D 23 a (hv_ME a cy) below args s (some (.int o.1)) o.2) σ 29 [(0, .ref (a 0)), (1, .int (x1)), (2, .int (x2)), (3, .int (x3))] [.long (z0), .long (z1), .long (z2)] := by
  intro σ x1 x2 x3 z0 z1 z2 h
  unfold kX8_alter_29 at h
  obtain ⟨r29, s29, hc29, h⟩ := hv_b2_some h
  refine g_callS (pc := 29) (σ1 := s29) (v := (some (.int (r29)))) (As := [.long (z2), .long (z1), .long (z0)]) (rest := []) C (vX8_in hc29) (va_cwS 3 C.1.2.2.2.2 gX8_alter_X8_in rfl rfl rfl (by decide +kernel) ⟨Nat.le_of_ble_eq_true rfl, Nat.le_of_ble_eq_true rfl⟩) rfl rfl (Nat.le_of_ble_eq_true rfl) dX8_alter_29 ⟨Nat.zero_le _, Nat.zero_le _⟩ ?_
  refine g_st (st' := [.int (r29)]) rfl ?_
  refine g_if_eq (pc := 32) (tgt := 58) C dX8_alter_32 (by decide) (fun c32 => ?_) (fun c32 => ?_)
  · rw [if_pos c32] at h
    refine g_iconst (pc := 58) C (v := (0 : Int32)) dX8_alter_58 (by decide) ?_
    cases h
    exact g_zret (pc := 59) (x := (0 : Int32)) C hr (by decide) dX8_alter_59
  · rw [if_neg c32] at h
    refine g_iload_n (pc := 35) C 2 dX8_alter_35 rfl rfl ?_
    refine g_if_eq (pc := 36) (tgt := 48) C dX8_alter_36 (by decide) (fun c36 => ?_) (fun c36 => ?_)
    · rw [if_pos c36] at h
      refine g_aload_n (pc := 48) C 0 dX8_alter_48 rfl rfl ?_
      refine gm_get_0_9 (pc := 49) C iX8_alter_X8 qX8_alter_F28 dX8_alter_49 ?_
      refine g_iload_n (pc := 52) C 1 dX8_alter_52 rfl rfl ?_
      obtain ⟨k53, h⟩ := hv_if_some h
      refine gm_ld_7 (pc := 53) C k53 dX8_alter_53 ?_
      exact g_lv [0, 1, 2, 3] rfl (bX8_alter_54 C hr s29 (x1) (x2) (x3) (s29.1 7 (x1).toNatClampNeg) h)
    · rw [if_neg c36] at h
      refine g_aload_n (pc := 39) C 0 dX8_alter_39 rfl rfl ?_
      refine gm_get_0_10 (pc := 40) C iX8_alter_X8 qX8_alter_F31 dX8_alter_40 ?_
      refine g_iload_n (pc := 43) C 1 dX8_alter_43 rfl rfl ?_
      obtain ⟨k44, h⟩ := hv_if_some h
      refine gm_ld_8 (pc := 44) C k44 dX8_alter_44 ?_
      refine g_goto (pc := 45) C (tgt := 54) dX8_alter_45 (by decide) ?_
      exact g_lv [0, 1, 2, 3] rfl (bX8_alter_54 C hr s29 (x1) (x2) (x3) (s29.1 8 (x1).toNatClampNeg) h)
set_option maxHeartbeats 4000000 in
set_option maxRecDepth 20000 in
theorem vX8_alter {n : Nat} {σ : hv_St} {p0 : Int32} {p1 : Int32} {p2 : Int32} {o : Int32 × hv_St} (h : mX8_alter n σ p0 p1 p2 = some o) : hv_M l yX8_alter wsX8_alter rmX8_alter D (hv_tys cy) 23 a (hv_ME a cy) [.ref (a 0), .int (p0), .int (p1), .int (p2)] σ (some (.int o.1)) o.2 := by
  refine hv_enter (own := RX8) (cc := cX8_alter) (maxL := 4) (ret := (some .boolean)) (by decide) rfl rfl (Nat.le_of_ble_eq_true rfl) ?_
  intro p e s m args below meth c C hr
  unfold mX8_alter at h
  refine g_lv [0, 1, 2, 3] (lv' := [(0, .ref (a 0)), (1, .int (p0)), (2, .int (p1)), (3, .int (p2))]) rfl ?_
  refine g_aload_n (pc := 0) C 0 dX8_alter_0 rfl rfl ?_
  refine g_iconst (pc := 1) C (v := (0 : Int32)) dX8_alter_1 (by decide) ?_
  obtain ⟨s2, es2, h⟩ := hv_let_some h
  refine gm_put_0_0 (pc := 2) C es2 iX8_alter_X8 qX8_alter_F77 dX8_alter_2 ?_
  refine g_aload_n (pc := 5) C 0 dX8_alter_5 rfl rfl ?_
  refine g_iload_n (pc := 6) C 1 dX8_alter_6 rfl rfl ?_
  obtain ⟨r7, s7, hc7, h⟩ := hv_b2_some h
  refine g_callV (pc := 7) (σ1 := s7) (v := (some (.int (r7)))) (As := [.int (p0)]) (rest := []) C 0 (vX8_isBar hc7) (cwV 1 C.1.2.2.2.2 gX8_alter_X8_isBar rfl rfl rfl (by decide +kernel) ⟨Nat.le_of_ble_eq_true rfl, Nat.le_of_ble_eq_true rfl⟩) (Nat.le_of_ble_eq_true rfl) rfl rfl rfl rfl (Nat.le_of_ble_eq_true rfl) dX8_alter_7 ⟨Nat.zero_le _, Nat.zero_le _⟩ ?_
  refine g_st (st' := [.int (r7)]) rfl ?_
  refine g_if_eq (pc := 10) (tgt := 58) C dX8_alter_10 (by decide) (fun c10 => ?_) (fun c10 => ?_)
  · rw [if_pos c10] at h
    refine g_iconst (pc := 58) C (v := (0 : Int32)) dX8_alter_58 (by decide) ?_
    cases h
    exact g_zret (pc := 59) (x := (0 : Int32)) C hr (by decide) dX8_alter_59
  · rw [if_neg c10] at h
    refine g_iload_n (pc := 13) C 3 dX8_alter_13 rfl rfl ?_
    refine g_i2l (pc := 14) C dX8_alter_14 ?_
    refine g_lconst (pc := 15) C (v := (1 : Int64)) dX8_alter_15 (by decide) ?_
    refine g_iload_n (pc := 16) C 2 dX8_alter_16 rfl rfl ?_
    refine g_if_eq (pc := 17) (tgt := 26) C dX8_alter_17 (by decide) (fun c17 => ?_) (fun c17 => ?_)
    · rw [if_pos c17] at h
      refine g_ldc2 (pc := 26) C (v := (3 : Int64)) qX8_alter_L91 dX8_alter_26 ?_
      exact g_lv [0, 1, 2, 3] rfl (bX8_alter_29 C hr s7 (p0) (p1) (p2) ((3 : Int64)) ((1 : Int64)) ((p2).toInt64) h)
    · rw [if_neg c17] at h
      refine g_ldc2 (pc := 20) C (v := (999 : Int64)) qX8_alter_L116 dX8_alter_20 ?_
      refine g_goto (pc := 23) C (tgt := 29) dX8_alter_23 (by decide) ?_
      exact g_lv [0, 1, 2, 3] rfl (bX8_alter_29 C hr s7 (p0) (p1) (p2) ((999 : Int64)) ((1 : Int64)) ((p2).toInt64) h)
abbrev rmX8_hold : Room := { frames := 2, cells := 0, slots := 0, locals := 46 }
set_option maxRecDepth 20000 in
theorem qX8_hold_F16 : Cond.fieldLink RX8 16 "PinFrameModel" "held" "[I" ∈ wsX8_hold := by decide +kernel
set_option maxRecDepth 20000 in
theorem qX8_hold_F77 : Cond.fieldLink RX8 77 "PinFrameModel" "raised" "I" ∈ wsX8_hold := by decide +kernel
set_option maxRecDepth 20000 in
theorem iX8_hold_X8 : ∀ w ∈ u_ws RX8 TX8 35, w ∈ wsX8_hold := by decide +kernel
set_option maxHeartbeats 4000000 in
set_option maxRecDepth 20000 in
theorem vX8_hold {n : Nat} {σ : hv_St} {p0 : Int32} {p1 : Int32} {p2 : Int32} {o : Int32 × hv_St} (h : mX8_hold n σ p0 p1 p2 = some o) : hv_M l yX8_hold wsX8_hold rmX8_hold D (hv_tys cy) 23 a (hv_ME a cy) [.ref (a 0), .int (p0), .int (p1), .int (p2)] σ (some (.int o.1)) o.2 := by
  refine hv_enter (own := RX8) (cc := cX8_hold) (maxL := 4) (ret := (some .boolean)) (by decide) rfl rfl (Nat.le_of_ble_eq_true rfl) ?_
  intro p e s m args below meth c C hr
  unfold mX8_hold at h
  refine g_lv [0, 1, 2, 3] (lv' := [(0, .ref (a 0)), (1, .int (p0)), (2, .int (p1)), (3, .int (p2))]) rfl ?_
  refine g_aload_n (pc := 0) C 0 dX8_hold_0 rfl rfl ?_
  refine g_iconst (pc := 1) C (v := (0 : Int32)) dX8_hold_1 (by decide) ?_
  obtain ⟨s2, es2, h⟩ := hv_let_some h
  refine gm_put_0_0 (pc := 2) C es2 iX8_hold_X8 qX8_hold_F77 dX8_hold_2 ?_
  refine g_aload_n (pc := 5) C 0 dX8_hold_5 rfl rfl ?_
  refine g_iload_n (pc := 6) C 1 dX8_hold_6 rfl rfl ?_
  obtain ⟨r7, s7, hc7, h⟩ := hv_b2_some h
  refine g_callV (pc := 7) (σ1 := s7) (v := (some (.int (r7)))) (As := [.int (p0)]) (rest := []) C 0 (vX8_isPin hc7) (cwV 1 C.1.2.2.2.2 gX8_hold_X8_isPin rfl rfl rfl (by decide +kernel) ⟨Nat.le_of_ble_eq_true rfl, Nat.le_of_ble_eq_true rfl⟩) (Nat.le_of_ble_eq_true rfl) rfl rfl rfl rfl (Nat.le_of_ble_eq_true rfl) dX8_hold_7 ⟨Nat.zero_le _, Nat.zero_le _⟩ ?_
  refine g_st (st' := [.int (r7)]) rfl ?_
  refine g_if_eq (pc := 10) (tgt := 37) C dX8_hold_10 (by decide) (fun c10 => ?_) (fun c10 => ?_)
  · rw [if_pos c10] at h
    refine g_iconst (pc := 37) C (v := (0 : Int32)) dX8_hold_37 (by decide) ?_
    cases h
    exact g_zret (pc := 38) (x := (0 : Int32)) C hr (by decide) dX8_hold_38
  · rw [if_neg c10] at h
    refine g_iload_n (pc := 13) C 2 dX8_hold_13 rfl rfl ?_
    refine g_i2l (pc := 14) C dX8_hold_14 ?_
    refine g_lconst (pc := 15) C (v := (0 : Int64)) dX8_hold_15 (by decide) ?_
    refine g_lconst (pc := 16) C (v := (1 : Int64)) dX8_hold_16 (by decide) ?_
    obtain ⟨r17, s17, hc17, h⟩ := hv_b2_some h
    refine g_callS (pc := 17) (σ1 := s17) (v := (some (.int (r17)))) (As := [.long ((p1).toInt64), .long ((0 : Int64)), .long ((1 : Int64))]) (rest := []) C (vX8_in hc17) (va_cwS 3 C.1.2.2.2.2 gX8_hold_X8_in rfl rfl rfl (by decide +kernel) ⟨Nat.le_of_ble_eq_true rfl, Nat.le_of_ble_eq_true rfl⟩) rfl rfl (Nat.le_of_ble_eq_true rfl) dX8_hold_17 ⟨Nat.zero_le _, Nat.zero_le _⟩ ?_
    refine g_st (st' := [.int (r17)]) rfl ?_
    refine g_if_eq (pc := 20) (tgt := 37) C dX8_hold_20 (by decide) (fun c20 => ?_) (fun c20 => ?_)
    · rw [if_pos c20] at h
      refine g_iconst (pc := 37) C (v := (0 : Int32)) dX8_hold_37 (by decide) ?_
      cases h
      exact g_zret (pc := 38) (x := (0 : Int32)) C hr (by decide) dX8_hold_38
    · rw [if_neg c20] at h
      refine g_aload_n (pc := 23) C 0 dX8_hold_23 rfl rfl ?_
      refine gm_get_0_4 (pc := 24) C iX8_hold_X8 qX8_hold_F16 dX8_hold_24 ?_
      refine g_iload_n (pc := 27) C 1 dX8_hold_27 rfl rfl ?_
      obtain ⟨k28, h⟩ := hv_if_some h
      refine gm_ld_3 (pc := 28) C k28 dX8_hold_28 ?_
      refine g_iload_n (pc := 29) C 2 dX8_hold_29 rfl rfl ?_
      obtain ⟨r30, s30, hc30, h⟩ := hv_b2_some h
      refine g_callS (pc := 30) (σ1 := s30) (v := (some (.int (r30)))) (As := [.int (s17.1 3 (p0).toNatClampNeg), .int (p1)]) (rest := []) C (vX8_isOn hc30) (va_cwS 2 C.1.2.2.2.2 gX8_hold_X8_isOn rfl rfl rfl (by decide +kernel) ⟨Nat.le_of_ble_eq_true rfl, Nat.le_of_ble_eq_true rfl⟩) rfl rfl (Nat.le_of_ble_eq_true rfl) dX8_hold_30 ⟨Nat.zero_le _, Nat.zero_le _⟩ ?_
      refine g_st (st' := [.int (r30)]) rfl ?_
      refine g_iload_n (pc := 33) C 3 dX8_hold_33 rfl rfl ?_
      refine g_icmp_ne (pc := 34) (tgt := 39) C dX8_hold_34 (by decide) (fun c34 => ?_) (fun c34 => ?_)
      · rw [if_neg c34] at h
        refine g_aload_n (pc := 39) C 0 dX8_hold_39 rfl rfl ?_
        refine gm_get_0_4 (pc := 40) C iX8_hold_X8 qX8_hold_F16 dX8_hold_40 ?_
        refine g_iload_n (pc := 43) C 1 dX8_hold_43 rfl rfl ?_
        refine g_dup2_11 (pc := 44) C dX8_hold_44 rfl rfl ?_
        obtain ⟨k45, h⟩ := hv_if_some h
        refine gm_ld_3 (pc := 45) C k45 dX8_hold_45 ?_
        refine g_iconst (pc := 46) C (v := (1 : Int32)) dX8_hold_46 (by decide) ?_
        refine g_iload_n (pc := 47) C 2 dX8_hold_47 rfl rfl ?_
        refine g_ishl (pc := 48) C dX8_hold_48 ?_
        refine g_ixor (pc := 49) C dX8_hold_49 ?_
        obtain ⟨k50, h⟩ := hv_if_some h
        obtain ⟨s50, es50, h⟩ := hv_let_some h
        refine gm_st_3 (pc := 50) C es50 k50 dX8_hold_50 ?_
        refine g_iconst (pc := 51) C (v := (1 : Int32)) dX8_hold_51 (by decide) ?_
        cases h
        exact g_zret (pc := 52) (x := (1 : Int32)) C hr (by decide) dX8_hold_52
      · rw [if_pos c34] at h
        refine g_iconst (pc := 37) C (v := (0 : Int32)) dX8_hold_37 (by decide) ?_
        cases h
        exact g_zret (pc := 38) (x := (0 : Int32)) C hr (by decide) dX8_hold_38
abbrev rmX8_load : Room := { frames := 2, cells := 0, slots := 0, locals := 46 }
set_option maxRecDepth 20000 in
theorem qX8_load_F19 : Cond.fieldLink RX8 19 "PinFrameModel" "loads" "[I" ∈ wsX8_load := by decide +kernel
set_option maxRecDepth 20000 in
theorem qX8_load_F77 : Cond.fieldLink RX8 77 "PinFrameModel" "raised" "I" ∈ wsX8_load := by decide +kernel
set_option maxRecDepth 20000 in
theorem qX8_load_L118 : Cond.constantLong RX8 118 (-9) ∈ wsX8_load := by decide +kernel
set_option maxRecDepth 20000 in
theorem qX8_load_L120 : Cond.constantLong RX8 120 (9) ∈ wsX8_load := by decide +kernel
set_option maxRecDepth 20000 in
theorem iX8_load_X8 : ∀ w ∈ u_ws RX8 TX8 35, w ∈ wsX8_load := by decide +kernel
set_option maxHeartbeats 4000000 in
set_option maxRecDepth 20000 in
theorem vX8_load {n : Nat} {σ : hv_St} {p0 : Int32} {p1 : Int32} {p2 : Int32} {o : Int32 × hv_St} (h : mX8_load n σ p0 p1 p2 = some o) : hv_M l yX8_load wsX8_load rmX8_load D (hv_tys cy) 23 a (hv_ME a cy) [.ref (a 0), .int (p0), .int (p1), .int (p2)] σ (some (.int o.1)) o.2 := by
  refine hv_enter (own := RX8) (cc := cX8_load) (maxL := 4) (ret := (some .boolean)) (by decide) rfl rfl (Nat.le_of_ble_eq_true rfl) ?_
  intro p e s m args below meth c C hr
  unfold mX8_load at h
  refine g_lv [0, 1, 2, 3] (lv' := [(0, .ref (a 0)), (1, .int (p0)), (2, .int (p1)), (3, .int (p2))]) rfl ?_
  refine g_aload_n (pc := 0) C 0 dX8_load_0 rfl rfl ?_
  refine g_iconst (pc := 1) C (v := (0 : Int32)) dX8_load_1 (by decide) ?_
  obtain ⟨s2, es2, h⟩ := hv_let_some h
  refine gm_put_0_0 (pc := 2) C es2 iX8_load_X8 qX8_load_F77 dX8_load_2 ?_
  refine g_aload_n (pc := 5) C 0 dX8_load_5 rfl rfl ?_
  refine g_iload_n (pc := 6) C 1 dX8_load_6 rfl rfl ?_
  obtain ⟨r7, s7, hc7, h⟩ := hv_b2_some h
  refine g_callV (pc := 7) (σ1 := s7) (v := (some (.int (r7)))) (As := [.int (p0)]) (rest := []) C 0 (vX8_isPin hc7) (cwV 1 C.1.2.2.2.2 gX8_load_X8_isPin rfl rfl rfl (by decide +kernel) ⟨Nat.le_of_ble_eq_true rfl, Nat.le_of_ble_eq_true rfl⟩) (Nat.le_of_ble_eq_true rfl) rfl rfl rfl rfl (Nat.le_of_ble_eq_true rfl) dX8_load_7 ⟨Nat.zero_le _, Nat.zero_le _⟩ ?_
  refine g_st (st' := [.int (r7)]) rfl ?_
  refine g_if_eq (pc := 10) (tgt := 41) C dX8_load_10 (by decide) (fun c10 => ?_) (fun c10 => ?_)
  · rw [if_pos c10] at h
    refine g_iconst (pc := 41) C (v := (0 : Int32)) dX8_load_41 (by decide) ?_
    cases h
    exact g_zret (pc := 42) (x := (0 : Int32)) C hr (by decide) dX8_load_42
  · rw [if_neg c10] at h
    refine g_iload_n (pc := 13) C 2 dX8_load_13 rfl rfl ?_
    refine g_i2l (pc := 14) C dX8_load_14 ?_
    refine g_ldc2 (pc := 15) C (v := (-9 : Int64)) qX8_load_L118 dX8_load_15 ?_
    refine g_ldc2 (pc := 18) C (v := (9 : Int64)) qX8_load_L120 dX8_load_18 ?_
    obtain ⟨r21, s21, hc21, h⟩ := hv_b2_some h
    refine g_callS (pc := 21) (σ1 := s21) (v := (some (.int (r21)))) (As := [.long ((p1).toInt64), .long ((-9 : Int64)), .long ((9 : Int64))]) (rest := []) C (vX8_in hc21) (va_cwS 3 C.1.2.2.2.2 gX8_load_X8_in rfl rfl rfl (by decide +kernel) ⟨Nat.le_of_ble_eq_true rfl, Nat.le_of_ble_eq_true rfl⟩) rfl rfl (Nat.le_of_ble_eq_true rfl) dX8_load_21 ⟨Nat.zero_le _, Nat.zero_le _⟩ ?_
    refine g_st (st' := [.int (r21)]) rfl ?_
    refine g_if_eq (pc := 24) (tgt := 41) C dX8_load_24 (by decide) (fun c24 => ?_) (fun c24 => ?_)
    · rw [if_pos c24] at h
      refine g_iconst (pc := 41) C (v := (0 : Int32)) dX8_load_41 (by decide) ?_
      cases h
      exact g_zret (pc := 42) (x := (0 : Int32)) C hr (by decide) dX8_load_42
    · rw [if_neg c24] at h
      refine g_iload_n (pc := 27) C 3 dX8_load_27 rfl rfl ?_
      refine g_i2l (pc := 28) C dX8_load_28 ?_
      refine g_ldc2 (pc := 29) C (v := (-9 : Int64)) qX8_load_L118 dX8_load_29 ?_
      refine g_ldc2 (pc := 32) C (v := (9 : Int64)) qX8_load_L120 dX8_load_32 ?_
      obtain ⟨r35, s35, hc35, h⟩ := hv_b2_some h
      refine g_callS (pc := 35) (σ1 := s35) (v := (some (.int (r35)))) (As := [.long ((p2).toInt64), .long ((-9 : Int64)), .long ((9 : Int64))]) (rest := []) C (vX8_in hc35) (va_cwS 3 C.1.2.2.2.2 gX8_load_X8_in rfl rfl rfl (by decide +kernel) ⟨Nat.le_of_ble_eq_true rfl, Nat.le_of_ble_eq_true rfl⟩) rfl rfl (Nat.le_of_ble_eq_true rfl) dX8_load_35 ⟨Nat.zero_le _, Nat.zero_le _⟩ ?_
      refine g_st (st' := [.int (r35)]) rfl ?_
      refine g_if_ne (pc := 38) (tgt := 43) C dX8_load_38 (by decide) (fun c38 => ?_) (fun c38 => ?_)
      · rw [if_neg c38] at h
        refine g_aload_n (pc := 43) C 0 dX8_load_43 rfl rfl ?_
        refine gm_get_0_5 (pc := 44) C iX8_load_X8 qX8_load_F19 dX8_load_44 ?_
        refine g_iconst (pc := 47) C (v := (2 : Int32)) dX8_load_47 (by decide) ?_
        refine g_iload_n (pc := 48) C 1 dX8_load_48 rfl rfl ?_
        refine g_imul (pc := 49) C dX8_load_49 ?_
        refine g_iload_n (pc := 50) C 2 dX8_load_50 rfl rfl ?_
        obtain ⟨k51, h⟩ := hv_if_some h
        obtain ⟨s51, es51, h⟩ := hv_let_some h
        refine gm_st_4 (pc := 51) C es51 k51 dX8_load_51 ?_
        refine g_aload_n (pc := 52) C 0 dX8_load_52 rfl rfl ?_
        refine gm_get_0_5 (pc := 53) C iX8_load_X8 qX8_load_F19 dX8_load_53 ?_
        refine g_iconst (pc := 56) C (v := (2 : Int32)) dX8_load_56 (by decide) ?_
        refine g_iload_n (pc := 57) C 1 dX8_load_57 rfl rfl ?_
        refine g_imul (pc := 58) C dX8_load_58 ?_
        refine g_iconst (pc := 59) C (v := (1 : Int32)) dX8_load_59 (by decide) ?_
        refine g_iadd (pc := 60) C dX8_load_60 ?_
        refine g_iload_n (pc := 61) C 3 dX8_load_61 rfl rfl ?_
        obtain ⟨k62, h⟩ := hv_if_some h
        obtain ⟨s62, es62, h⟩ := hv_let_some h
        refine gm_st_4 (pc := 62) C es62 k62 dX8_load_62 ?_
        refine g_iconst (pc := 63) C (v := (1 : Int32)) dX8_load_63 (by decide) ?_
        cases h
        exact g_zret (pc := 64) (x := (1 : Int32)) C hr (by decide) dX8_load_64
      · rw [if_pos c38] at h
        refine g_iconst (pc := 41) C (v := (0 : Int32)) dX8_load_41 (by decide) ?_
        cases h
        exact g_zret (pc := 42) (x := (0 : Int32)) C hr (by decide) dX8_load_42
abbrev rmX8_unload : Room := { frames := 0, cells := 0, slots := 0, locals := 0 }
set_option maxRecDepth 20000 in
theorem qX8_unload_F19 : Cond.fieldLink RX8 19 "PinFrameModel" "loads" "[I" ∈ wsX8_unload := by decide +kernel
set_option maxRecDepth 20000 in
theorem qX8_unload_F77 : Cond.fieldLink RX8 77 "PinFrameModel" "raised" "I" ∈ wsX8_unload := by decide +kernel
set_option maxRecDepth 20000 in
theorem iX8_unload_X8 : ∀ w ∈ u_ws RX8 TX8 35, w ∈ wsX8_unload := by decide +kernel
set_option maxHeartbeats 4000000 in
set_option maxRecDepth 20000 in
theorem bX8_unload_30 (C : hv_C p s m args meth c cX8_unload 3 wsX8_unload RX8 D (hv_tys cy)) (hr : meth.sig.returnType = (some .int)) {n : Nat} {o : Int32 × hv_St} {r9 : hv_St → Int32 → Int32 → Option (Int32 × hv_St)} (hr9 : ∀ (σ : hv_St) (x1 : Int32) (x2 : Int32), r9 σ x1 x2 = some o → hv_G p l e (headSpec wsX8_unload rmX8_unload).room s m args below meth c 3 D 23 a (hv_ME a cy) 0 0 (hv_MQ D 23 a (hv_ME a cy) below args s (some (.int o.1)) o.2) σ 9 [(0, .ref (a 0)), (1, .int (x1)), (2, .int (x2))] []) : ∀ (σ : hv_St) (x2 : Int32) (z0 : Int32) (z1 : Int32), kX8_unload_30 n r9 σ x2 z0 z1 = some o → hv_G p l e (headSpec wsX8_unload rmX8_unload).room s m args below meth c 3 D 23 a (hv_ME a cy) 0 0 (hv_MQ D 23 a (hv_ME a cy) below args s (some (.int o.1)) o.2) σ 30 [(0, .ref (a 0)), (2, .int (x2))] [.int (z0), .int (z1)] := by
  intro σ x2 z0 z1 h
  unfold kX8_unload_30 at h
  refine g_iadd (pc := 30) C dX8_unload_30 ?_
  obtain ⟨y1_31, ey1_31, h⟩ := hv_let_some h
  refine g_istore_n (pc := 31) C (lv' := [(1, .int (y1_31)), (0, .ref (a 0)), (2, .int (x2))]) ey1_31 dX8_unload_31 rfl (Nat.le_of_ble_eq_true rfl) rfl ?_
  refine g_aload_n (pc := 32) C 1 dX8_unload_32 rfl rfl ?_
  refine gm_get_0_5 (pc := 33) C iX8_unload_X8 qX8_unload_F19 dX8_unload_33 ?_
  refine g_iload_n (pc := 36) C 2 dX8_unload_36 rfl rfl ?_
  refine g_iconst (pc := 37) C (v := (0 : Int32)) dX8_unload_37 (by decide) ?_
  obtain ⟨k38, h⟩ := hv_if_some h
  obtain ⟨s38, es38, h⟩ := hv_let_some h
  refine gm_st_4 (pc := 38) C es38 k38 dX8_unload_38 ?_
  refine g_iinc (pc := 39) C 2 (v := x2 + 1) (lv' := [(2, .int (x2 + 1)), (1, .int (y1_31)), (0, .ref (a 0))]) dX8_unload_39 rfl rfl (Nat.le_of_ble_eq_true rfl) rfl ?_
  refine g_goto (pc := 42) C (tgt := 9) dX8_unload_42 (by decide) ?_
  exact g_lv [2, 1, 0] rfl (hr9 s38 (y1_31) (x2 + 1) h)
set_option maxHeartbeats 4000000 in
set_option maxRecDepth 20000 in
theorem bX8_unload_9 (C : hv_C p s m args meth c cX8_unload 3 wsX8_unload RX8 D (hv_tys cy)) (hr : meth.sig.returnType = (some .int)) {n : Nat} {o : Int32 × hv_St} : ∀ (i : Nat) (σ : hv_St) (x1 : Int32) (x2 : Int32), kX8_unload_9 n i σ x1 x2 = some o → hv_G p l e (headSpec wsX8_unload rmX8_unload).room s m args below meth c 3 D 23 a (hv_ME a cy) 0 0 (hv_MQ D 23 a (hv_ME a cy) below args s (some (.int o.1)) o.2) σ 9 [(0, .ref (a 0)), (1, .int (x1)), (2, .int (x2))] [] := by
  intro i
  induction i with
  | zero =>
    intro σ x1 x2 h
    cases h
  | succ i ih =>
    intro σ x1 x2 h
    generalize hg : kX8_unload_9 n i = r9 at ih
    have hr9 := ih
    replace h : kX8_unload_9_b n r9 σ x1 x2 = some o := by rw [← hg]; exact h
    unfold kX8_unload_9_b at h
    refine g_iload_n (pc := 9) C 2 dX8_unload_9 rfl rfl ?_
    refine g_bipush (pc := 10) C (v := (12 : Int32)) dX8_unload_10 (by decide) ?_
    refine g_icmp_ge (pc := 12) (tgt := 45) C dX8_unload_12 (by decide) (fun c12 => ?_) (fun c12 => ?_)
    · rw [if_pos c12] at h
      refine g_iload_n (pc := 45) C 1 dX8_unload_45 rfl rfl ?_
      cases h
      exact g_iret (pc := 46) C hr dX8_unload_46
    · rw [if_neg c12] at h
      refine g_iload_n (pc := 15) C 1 dX8_unload_15 rfl rfl ?_
      refine g_aload_n (pc := 16) C 0 dX8_unload_16 rfl rfl ?_
      refine gm_get_0_5 (pc := 17) C iX8_unload_X8 qX8_unload_F19 dX8_unload_17 ?_
      refine g_iload_n (pc := 20) C 2 dX8_unload_20 rfl rfl ?_
      obtain ⟨k21, h⟩ := hv_if_some h
      refine gm_ld_4 (pc := 21) C k21 dX8_unload_21 ?_
      refine g_if_eq (pc := 22) (tgt := 29) C dX8_unload_22 (by decide) (fun c22 => ?_) (fun c22 => ?_)
      · rw [if_pos c22] at h
        refine g_iconst (pc := 29) C (v := (0 : Int32)) dX8_unload_29 (by decide) ?_
        exact g_lv [0, 2] rfl (bX8_unload_30 C hr hr9 σ (x2) ((0 : Int32)) (x1) h)
      · rw [if_neg c22] at h
        refine g_iconst (pc := 25) C (v := (1 : Int32)) dX8_unload_25 (by decide) ?_
        refine g_goto (pc := 26) C (tgt := 30) dX8_unload_26 (by decide) ?_
        exact g_lv [0, 2] rfl (bX8_unload_30 C hr hr9 σ (x2) ((1 : Int32)) (x1) h)
set_option maxHeartbeats 4000000 in
set_option maxRecDepth 20000 in
theorem vX8_unload {n : Nat} {σ : hv_St} {o : Int32 × hv_St} (h : mX8_unload n σ = some o) : hv_M l yX8_unload wsX8_unload rmX8_unload D (hv_tys cy) 23 a (hv_ME a cy) [.ref (a 0)] σ (some (.int o.1)) o.2 := by
  refine hv_enter (own := RX8) (cc := cX8_unload) (maxL := 3) (ret := (some .int)) (by decide) rfl rfl (Nat.le_of_ble_eq_true rfl) ?_
  intro p e s m args below meth c C hr
  unfold mX8_unload at h
  refine g_lv [0] (lv' := [(0, .ref (a 0))]) rfl ?_
  refine g_aload_n (pc := 0) C 0 dX8_unload_0 rfl rfl ?_
  refine g_iconst (pc := 1) C (v := (0 : Int32)) dX8_unload_1 (by decide) ?_
  obtain ⟨s2, es2, h⟩ := hv_let_some h
  refine gm_put_0_0 (pc := 2) C es2 iX8_unload_X8 qX8_unload_F77 dX8_unload_2 ?_
  refine g_iconst (pc := 5) C (v := (0 : Int32)) dX8_unload_5 (by decide) ?_
  refine g_istore_n (pc := 6) C (lv' := [(1, .int ((0 : Int32))), (0, .ref (a 0))]) rfl dX8_unload_6 rfl (Nat.le_of_ble_eq_true rfl) rfl ?_
  refine g_iconst (pc := 7) C (v := (0 : Int32)) dX8_unload_7 (by decide) ?_
  refine g_istore_n (pc := 8) C (lv' := [(2, .int ((0 : Int32))), (1, .int ((0 : Int32))), (0, .ref (a 0))]) rfl dX8_unload_8 rfl (Nat.le_of_ble_eq_true rfl) rfl ?_
  exact g_lv [2, 1, 0] rfl (bX8_unload_9 C hr n s2 ((0 : Int32)) ((0 : Int32)) h)
abbrev rmX8_deck : Room := { frames := 2, cells := 0, slots := 0, locals := 46 }
set_option maxRecDepth 20000 in
theorem qX8_deck_F122 : Cond.fieldLink RX8 122 "PinFrameModel" "decks" "I" ∈ wsX8_deck := by decide +kernel
set_option maxRecDepth 20000 in
theorem qX8_deck_F34 : Cond.fieldLink RX8 34 "PinFrameModel" "deck" "[I" ∈ wsX8_deck := by decide +kernel
set_option maxRecDepth 20000 in
theorem qX8_deck_F77 : Cond.fieldLink RX8 77 "PinFrameModel" "raised" "I" ∈ wsX8_deck := by decide +kernel
set_option maxRecDepth 20000 in
theorem iX8_deck_X8 : ∀ w ∈ u_ws RX8 TX8 35, w ∈ wsX8_deck := by decide +kernel
set_option maxHeartbeats 4000000 in
set_option maxRecDepth 20000 in
theorem bX8_deck_17 (C : hv_C p s m args meth c cX8_deck 3 wsX8_deck RX8 D (hv_tys cy)) (hr : meth.sig.returnType = (some .int)) {n : Nat} {o : Int32 × hv_St} : ∀ (i : Nat) (σ : hv_St) (x1 : Int32) (x2 : Int32), kX8_deck_17 n i σ x1 x2 = some o → hv_G p l e (headSpec wsX8_deck rmX8_deck).room s m args below meth c 3 D 23 a (hv_ME a cy) 0 0 (hv_MQ D 23 a (hv_ME a cy) below args s (some (.int o.1)) o.2) σ 17 [(0, .ref (a 0)), (1, .int (x1)), (2, .int (x2))] [] := by
  intro i
  induction i with
  | zero =>
    intro σ x1 x2 h
    cases h
  | succ i ih =>
    intro σ x1 x2 h
    generalize hg : kX8_deck_17 n i = r17 at ih
    have hr17 := ih
    replace h : kX8_deck_17_b n r17 σ x1 x2 = some o := by rw [← hg]; exact h
    unfold kX8_deck_17_b at h
    refine g_iload_n (pc := 17) C 2 dX8_deck_17 rfl rfl ?_
    refine g_aload_n (pc := 18) C 0 dX8_deck_18 rfl rfl ?_
    refine gm_get_0_13 (pc := 19) C iX8_deck_X8 qX8_deck_F122 dX8_deck_19 ?_
    refine g_icmp_ge (pc := 22) (tgt := 43) C dX8_deck_22 (by decide) (fun c22 => ?_) (fun c22 => ?_)
    · rw [if_pos c22] at h
      refine g_aload_n (pc := 43) C 0 dX8_deck_43 rfl rfl ?_
      refine gm_get_0_12 (pc := 44) C iX8_deck_X8 qX8_deck_F34 dX8_deck_44 ?_
      refine g_aload_n (pc := 47) C 0 dX8_deck_47 rfl rfl ?_
      refine gm_get_0_13 (pc := 48) C iX8_deck_X8 qX8_deck_F122 dX8_deck_48 ?_
      refine g_iload_n (pc := 51) C 1 dX8_deck_51 rfl rfl ?_
      obtain ⟨k52, h⟩ := hv_if_some h
      obtain ⟨s52, es52, h⟩ := hv_let_some h
      refine gm_st_9 (pc := 52) C es52 k52 dX8_deck_52 ?_
      refine g_aload_n (pc := 53) C 0 dX8_deck_53 rfl rfl ?_
      refine g_dup (pc := 54) C dX8_deck_54 rfl ?_
      refine gm_get_0_13 (pc := 55) C iX8_deck_X8 qX8_deck_F122 dX8_deck_55 ?_
      refine g_iconst (pc := 58) C (v := (1 : Int32)) dX8_deck_58 (by decide) ?_
      refine g_iadd (pc := 59) C dX8_deck_59 ?_
      obtain ⟨s60, es60, h⟩ := hv_let_some h
      refine gm_put_0_13 (pc := 60) C es60 iX8_deck_X8 qX8_deck_F122 dX8_deck_60 ?_
      refine g_aload_n (pc := 63) C 0 dX8_deck_63 rfl rfl ?_
      refine gm_get_0_13 (pc := 64) C iX8_deck_X8 qX8_deck_F122 dX8_deck_64 ?_
      cases h
      exact g_iret (pc := 67) C hr dX8_deck_67
    · rw [if_neg c22] at h
      refine g_aload_n (pc := 25) C 0 dX8_deck_25 rfl rfl ?_
      refine gm_get_0_12 (pc := 26) C iX8_deck_X8 qX8_deck_F34 dX8_deck_26 ?_
      refine g_iload_n (pc := 29) C 2 dX8_deck_29 rfl rfl ?_
      obtain ⟨k30, h⟩ := hv_if_some h
      refine gm_ld_9 (pc := 30) C k30 dX8_deck_30 ?_
      refine g_iload_n (pc := 31) C 1 dX8_deck_31 rfl rfl ?_
      refine g_icmp_ne (pc := 32) (tgt := 37) C dX8_deck_32 (by decide) (fun c32 => ?_) (fun c32 => ?_)
      · rw [if_neg c32] at h
        refine g_iinc (pc := 37) C 2 (v := x2 + 1) (lv' := [(2, .int (x2 + 1)), (0, .ref (a 0)), (1, .int (x1))]) dX8_deck_37 rfl rfl (Nat.le_of_ble_eq_true rfl) rfl ?_
        refine g_goto (pc := 40) C (tgt := 17) dX8_deck_40 (by decide) ?_
        exact g_lv [1, 2, 0] rfl (hr17 σ (x1) (x2 + 1) h)
      · rw [if_pos c32] at h
        refine g_iconst (pc := 35) C (v := (-1 : Int32)) dX8_deck_35 (by decide) ?_
        cases h
        exact g_iret (pc := 36) C hr dX8_deck_36
set_option maxHeartbeats 4000000 in
set_option maxRecDepth 20000 in
theorem vX8_deck {n : Nat} {σ : hv_St} {p0 : Int32} {o : Int32 × hv_St} (h : mX8_deck n σ p0 = some o) : hv_M l yX8_deck wsX8_deck rmX8_deck D (hv_tys cy) 23 a (hv_ME a cy) [.ref (a 0), .int (p0)] σ (some (.int o.1)) o.2 := by
  refine hv_enter (own := RX8) (cc := cX8_deck) (maxL := 3) (ret := (some .int)) (by decide) rfl rfl (Nat.le_of_ble_eq_true rfl) ?_
  intro p e s m args below meth c C hr
  unfold mX8_deck at h
  refine g_lv [0, 1] (lv' := [(0, .ref (a 0)), (1, .int (p0))]) rfl ?_
  refine g_aload_n (pc := 0) C 0 dX8_deck_0 rfl rfl ?_
  refine g_iconst (pc := 1) C (v := (0 : Int32)) dX8_deck_1 (by decide) ?_
  obtain ⟨s2, es2, h⟩ := hv_let_some h
  refine gm_put_0_0 (pc := 2) C es2 iX8_deck_X8 qX8_deck_F77 dX8_deck_2 ?_
  refine g_aload_n (pc := 5) C 0 dX8_deck_5 rfl rfl ?_
  refine g_iload_n (pc := 6) C 1 dX8_deck_6 rfl rfl ?_
  obtain ⟨r7, s7, hc7, h⟩ := hv_b2_some h
  refine g_callV (pc := 7) (σ1 := s7) (v := (some (.int (r7)))) (As := [.int (p0)]) (rest := []) C 0 (vX8_isPin hc7) (cwV 1 C.1.2.2.2.2 gX8_deck_X8_isPin rfl rfl rfl (by decide +kernel) ⟨Nat.le_of_ble_eq_true rfl, Nat.le_of_ble_eq_true rfl⟩) (Nat.le_of_ble_eq_true rfl) rfl rfl rfl rfl (Nat.le_of_ble_eq_true rfl) dX8_deck_7 ⟨Nat.zero_le _, Nat.zero_le _⟩ ?_
  refine g_st (st' := [.int (r7)]) rfl ?_
  refine g_if_ne (pc := 10) (tgt := 15) C dX8_deck_10 (by decide) (fun c10 => ?_) (fun c10 => ?_)
  · rw [if_neg c10] at h
    refine g_iconst (pc := 15) C (v := (0 : Int32)) dX8_deck_15 (by decide) ?_
    refine g_istore_n (pc := 16) C (lv' := [(2, .int ((0 : Int32))), (0, .ref (a 0)), (1, .int (p0))]) rfl dX8_deck_16 rfl (Nat.le_of_ble_eq_true rfl) rfl ?_
    exact g_lv [1, 2, 0] rfl (bX8_deck_17 C hr n s7 (p0) ((0 : Int32)) h)
  · rw [if_pos c10] at h
    refine g_iconst (pc := 13) C (v := (-1 : Int32)) dX8_deck_13 (by decide) ?_
    cases h
    exact g_iret (pc := 14) C hr dX8_deck_14
abbrev rmX8_strip : Room := { frames := 0, cells := 0, slots := 0, locals := 0 }
set_option maxRecDepth 20000 in
theorem qX8_strip_F122 : Cond.fieldLink RX8 122 "PinFrameModel" "decks" "I" ∈ wsX8_strip := by decide +kernel
set_option maxRecDepth 20000 in
theorem qX8_strip_F77 : Cond.fieldLink RX8 77 "PinFrameModel" "raised" "I" ∈ wsX8_strip := by decide +kernel
set_option maxRecDepth 20000 in
theorem iX8_strip_X8 : ∀ w ∈ u_ws RX8 TX8 35, w ∈ wsX8_strip := by decide +kernel
set_option maxHeartbeats 4000000 in
set_option maxRecDepth 20000 in
theorem vX8_strip {n : Nat} {σ : hv_St} {o : Int32 × hv_St} (h : mX8_strip n σ = some o) : hv_M l yX8_strip wsX8_strip rmX8_strip D (hv_tys cy) 23 a (hv_ME a cy) [.ref (a 0)] σ (some (.int o.1)) o.2 := by
  refine hv_enter (own := RX8) (cc := cX8_strip) (maxL := 2) (ret := (some .int)) (by decide) rfl rfl (Nat.le_of_ble_eq_true rfl) ?_
  intro p e s m args below meth c C hr
  unfold mX8_strip at h
  refine g_lv [0] (lv' := [(0, .ref (a 0))]) rfl ?_
  refine g_aload_n (pc := 0) C 0 dX8_strip_0 rfl rfl ?_
  refine g_iconst (pc := 1) C (v := (0 : Int32)) dX8_strip_1 (by decide) ?_
  obtain ⟨s2, es2, h⟩ := hv_let_some h
  refine gm_put_0_0 (pc := 2) C es2 iX8_strip_X8 qX8_strip_F77 dX8_strip_2 ?_
  refine g_aload_n (pc := 5) C 0 dX8_strip_5 rfl rfl ?_
  refine gm_get_0_13 (pc := 6) C iX8_strip_X8 qX8_strip_F122 dX8_strip_6 ?_
  obtain ⟨y1_9, ey1_9, h⟩ := hv_let_some h
  refine g_istore_n (pc := 9) C (lv' := [(1, .int (y1_9)), (0, .ref (a 0))]) ey1_9 dX8_strip_9 rfl (Nat.le_of_ble_eq_true rfl) rfl ?_
  refine g_aload_n (pc := 10) C 1 dX8_strip_10 rfl rfl ?_
  refine g_iconst (pc := 11) C (v := (0 : Int32)) dX8_strip_11 (by decide) ?_
  obtain ⟨s12, es12, h⟩ := hv_let_some h
  refine gm_put_0_13 (pc := 12) C es12 iX8_strip_X8 qX8_strip_F122 dX8_strip_12 ?_
  refine g_iload_n (pc := 15) C 0 dX8_strip_15 rfl rfl ?_
  cases h
  exact g_iret (pc := 16) C hr dX8_strip_16
abbrev rmX8_train : Room := { frames := 1, cells := 0, slots := 0, locals := 25 }
set_option maxRecDepth 20000 in
theorem qX8_train_F127 : Cond.fieldLink RX8 127 "PinFrameModel" "weights" "I" ∈ wsX8_train := by decide +kernel
set_option maxRecDepth 20000 in
theorem qX8_train_F37 : Cond.fieldLink RX8 37 "PinFrameModel" "weight" "[I" ∈ wsX8_train := by decide +kernel
set_option maxRecDepth 20000 in
theorem qX8_train_F77 : Cond.fieldLink RX8 77 "PinFrameModel" "raised" "I" ∈ wsX8_train := by decide +kernel
set_option maxRecDepth 20000 in
theorem qX8_train_L125 : Cond.constantLong RX8 125 (9999) ∈ wsX8_train := by decide +kernel
set_option maxRecDepth 20000 in
theorem iX8_train_X8 : ∀ w ∈ u_ws RX8 TX8 35, w ∈ wsX8_train := by decide +kernel
set_option maxHeartbeats 4000000 in
set_option maxRecDepth 20000 in
theorem bX8_train_90 (C : hv_C p s m args meth c cX8_train 5 wsX8_train RX8 D (hv_tys cy)) (hr : meth.sig.returnType = (some .int)) {n : Nat} {o : Int32 × hv_St} : ∀ (i : Nat) (σ : hv_St) (x2 : Int32) (x3 : Int32) (x4 : Int32), kX8_train_90 n i σ x2 x3 x4 = some o → hv_G p l e (headSpec wsX8_train rmX8_train).room s m args below meth c 5 D 23 a (hv_ME a cy) 0 0 (hv_MQ D 23 a (hv_ME a cy) below args s (some (.int o.1)) o.2) σ 90 [(0, .ref (a 0)), (2, .int (x2)), (3, .int (x3)), (4, .int (x4))] [] := by
  intro i
  induction i with
  | zero =>
    intro σ x2 x3 x4 h
    cases h
  | succ i ih =>
    intro σ x2 x3 x4 h
    generalize hg : kX8_train_90 n i = r90 at ih
    have hr90 := ih
    replace h : kX8_train_90_b n r90 σ x2 x3 x4 = some o := by rw [← hg]; exact h
    unfold kX8_train_90_b at h
    refine g_iload (pc := 90) C 3 dX8_train_90 rfl ?_
    refine g_if_lt (pc := 92) (tgt := 117) C dX8_train_92 (by decide) (fun c92 => ?_) (fun c92 => ?_)
    · rw [if_pos c92] at h
      refine g_aload_n (pc := 117) C 0 dX8_train_117 rfl rfl ?_
      refine g_iload_n (pc := 118) C 1 dX8_train_118 rfl rfl ?_
      obtain ⟨s119, es119, h⟩ := hv_let_some h
      refine gm_put_0_15 (pc := 119) C es119 iX8_train_X8 qX8_train_F127 dX8_train_119 ?_
      refine g_iload_n (pc := 122) C 1 dX8_train_122 rfl rfl ?_
      cases h
      exact g_iret (pc := 123) C hr dX8_train_123
    · rw [if_neg c92] at h
      refine g_aload_n (pc := 95) C 0 dX8_train_95 rfl rfl ?_
      refine gm_get_0_14 (pc := 96) C iX8_train_X8 qX8_train_F37 dX8_train_96 ?_
      refine g_iload (pc := 99) C 3 dX8_train_99 rfl ?_
      refine g_iload_n (pc := 101) C 2 dX8_train_101 rfl rfl ?_
      refine g_bipush (pc := 102) C (v := (10 : Int32)) dX8_train_102 (by decide) ?_
      refine g_irem (pc := 104) C dX8_train_104 (by decide) ?_
      obtain ⟨k105, h⟩ := hv_if_some h
      obtain ⟨s105, es105, h⟩ := hv_let_some h
      refine gm_st_10 (pc := 105) C es105 k105 dX8_train_105 ?_
      refine g_iload_n (pc := 106) C 2 dX8_train_106 rfl rfl ?_
      refine g_bipush (pc := 107) C (v := (10 : Int32)) dX8_train_107 (by decide) ?_
      refine g_idiv (pc := 109) C dX8_train_109 (by decide) ?_
      obtain ⟨y3_110, ey3_110, h⟩ := hv_let_some h
      refine g_istore_n (pc := 110) C (lv' := [(3, .int (y3_110)), (0, .ref (a 0)), (2, .int (x2)), (4, .int (x4))]) ey3_110 dX8_train_110 rfl (Nat.le_of_ble_eq_true rfl) rfl ?_
      refine g_iinc (pc := 111) C 3 (v := (x4) + (-1)) (lv' := [(4, .int ((x4) + (-1))), (3, .int (y3_110)), (0, .ref (a 0)), (2, .int (x2))]) dX8_train_111 rfl rfl (Nat.le_of_ble_eq_true rfl) rfl ?_
      refine g_goto (pc := 114) C (tgt := 90) dX8_train_114 (by decide) ?_
      exact g_lv [2, 3, 1, 0] rfl (hr90 s105 (x2) (y3_110) ((x4) + (-1)) h)
set_option maxHeartbeats 4000000 in
set_option maxRecDepth 20000 in
theorem bX8_train_57 (C : hv_C p s m args meth c cX8_train 5 wsX8_train RX8 D (hv_tys cy)) (hr : meth.sig.returnType = (some .int)) {n : Nat} {o : Int32 × hv_St} : ∀ (i : Nat) (σ : hv_St) (x1 : Int32) (x2 : Int32) (x3 : Int32) (x4 : Int32), kX8_train_57 n i σ x1 x2 x3 x4 = some o → hv_G p l e (headSpec wsX8_train rmX8_train).room s m args below meth c 5 D 23 a (hv_ME a cy) 0 0 (hv_MQ D 23 a (hv_ME a cy) below args s (some (.int o.1)) o.2) σ 57 [(0, .ref (a 0)), (1, .int (x1)), (2, .int (x2)), (3, .int (x3)), (4, .int (x4))] [] := by
  intro i
  induction i with
  | zero =>
    intro σ x1 x2 x3 x4 h
    cases h
  | succ i ih =>
    intro σ x1 x2 x3 x4 h
    generalize hg : kX8_train_57 n i = r57 at ih
    have hr57 := ih
    replace h : kX8_train_57_b n r57 σ x1 x2 x3 x4 = some o := by rw [← hg]; exact h
    unfold kX8_train_57_b at h
    refine g_iload (pc := 57) C 4 dX8_train_57 rfl ?_
    refine g_iload_n (pc := 59) C 2 dX8_train_59 rfl rfl ?_
    refine g_icmp_ge (pc := 60) (tgt := 83) C dX8_train_60 (by decide) (fun c60 => ?_) (fun c60 => ?_)
    · rw [if_pos c60] at h
      refine g_iload_n (pc := 83) C 1 dX8_train_83 rfl rfl ?_
      refine g_istore_n (pc := 84) C (lv' := [(3, .int (x1)), (0, .ref (a 0)), (1, .int (x1)), (2, .int (x2)), (4, .int (x4))]) rfl dX8_train_84 rfl (Nat.le_of_ble_eq_true rfl) rfl ?_
      refine g_iload_n (pc := 85) C 3 dX8_train_85 rfl rfl ?_
      refine g_iconst (pc := 86) C (v := (1 : Int32)) dX8_train_86 (by decide) ?_
      refine g_isub (pc := 87) C dX8_train_87 ?_
      obtain ⟨y4_88, ey4_88, h⟩ := hv_let_some h
      refine g_istore (pc := 88) C (lv' := [(4, .int (y4_88)), (3, .int (x1)), (0, .ref (a 0)), (1, .int (x1)), (2, .int (x2))]) ey4_88 dX8_train_88 (Nat.le_of_ble_eq_true rfl) rfl ?_
      exact g_lv [2, 4, 1, 0] rfl (bX8_train_90 C hr n σ (x2) (x1) (y4_88) h)
    · rw [if_neg c60] at h
      refine g_iload_n (pc := 63) C 3 dX8_train_63 rfl rfl ?_
      refine g_bipush (pc := 64) C (v := (10 : Int32)) dX8_train_64 (by decide) ?_
      refine g_irem (pc := 66) C dX8_train_66 (by decide) ?_
      refine g_if_ne (pc := 67) (tgt := 72) C dX8_train_67 (by decide) (fun c67 => ?_) (fun c67 => ?_)
      · rw [if_neg c67] at h
        refine g_iload_n (pc := 72) C 3 dX8_train_72 rfl rfl ?_
        refine g_bipush (pc := 73) C (v := (10 : Int32)) dX8_train_73 (by decide) ?_
        refine g_idiv (pc := 75) C dX8_train_75 (by decide) ?_
        obtain ⟨y3_76, ey3_76, h⟩ := hv_let_some h
        refine g_istore_n (pc := 76) C (lv' := [(3, .int (y3_76)), (0, .ref (a 0)), (1, .int (x1)), (2, .int (x2)), (4, .int (x4))]) ey3_76 dX8_train_76 rfl (Nat.le_of_ble_eq_true rfl) rfl ?_
        refine g_iinc (pc := 77) C 4 (v := x4 + 1) (lv' := [(4, .int (x4 + 1)), (3, .int (y3_76)), (0, .ref (a 0)), (1, .int (x1)), (2, .int (x2))]) dX8_train_77 rfl rfl (Nat.le_of_ble_eq_true rfl) rfl ?_
        refine g_goto (pc := 80) C (tgt := 57) dX8_train_80 (by decide) ?_
        exact g_lv [2, 3, 4, 1, 0] rfl (hr57 σ (x1) (x2) (y3_76) (x4 + 1) h)
      · rw [if_pos c67] at h
        refine g_iconst (pc := 70) C (v := (-1 : Int32)) dX8_train_70 (by decide) ?_
        cases h
        exact g_iret (pc := 71) C hr dX8_train_71
set_option maxHeartbeats 4000000 in
set_option maxRecDepth 20000 in
theorem bX8_train_51 (C : hv_C p s m args meth c cX8_train 5 wsX8_train RX8 D (hv_tys cy)) (hr : meth.sig.returnType = (some .int)) {n : Nat} {o : Int32 × hv_St} : ∀ (σ : hv_St) (x1 : Int32) (z0 : Int32), kX8_train_51 n σ x1 z0 = some o → hv_G p l e (headSpec wsX8_train rmX8_train).room s m args below meth c 5 D 23 a (hv_ME a cy) 0 0 (hv_MQ D 23 a (hv_ME a cy) below args s (some (.int o.1)) o.2) σ 51 [(0, .ref (a 0)), (1, .int (x1))] [.int (z0)] := by
  intro σ x1 z0 h
  unfold kX8_train_51 at h
  refine g_istore_n (pc := 51) C (lv' := [(2, .int (z0)), (0, .ref (a 0)), (1, .int (x1))]) rfl dX8_train_51 rfl (Nat.le_of_ble_eq_true rfl) rfl ?_
  refine g_iload_n (pc := 52) C 2 dX8_train_52 rfl rfl ?_
  refine g_istore_n (pc := 53) C (lv' := [(3, .int (x1)), (2, .int (z0)), (0, .ref (a 0)), (1, .int (x1))]) rfl dX8_train_53 rfl (Nat.le_of_ble_eq_true rfl) rfl ?_
  refine g_iconst (pc := 54) C (v := (0 : Int32)) dX8_train_54 (by decide) ?_
  refine g_istore (pc := 55) C (lv' := [(4, .int ((0 : Int32))), (3, .int (x1)), (2, .int (z0)), (0, .ref (a 0)), (1, .int (x1))]) rfl dX8_train_55 (Nat.le_of_ble_eq_true rfl) rfl ?_
  exact g_lv [3, 4, 2, 1, 0] rfl (bX8_train_57 C hr n σ (x1) (z0) (x1) ((0 : Int32)) h)
set_option maxHeartbeats 4000000 in
set_option maxRecDepth 20000 in
theorem vX8_train {n : Nat} {σ : hv_St} {p0 : Int32} {o : Int32 × hv_St} (h : mX8_train n σ p0 = some o) : hv_M l yX8_train wsX8_train rmX8_train D (hv_tys cy) 23 a (hv_ME a cy) [.ref (a 0), .int (p0)] σ (some (.int o.1)) o.2 := by
  refine hv_enter (own := RX8) (cc := cX8_train) (maxL := 5) (ret := (some .int)) (by decide) rfl rfl (Nat.le_of_ble_eq_true rfl) ?_
  intro p e s m args below meth c C hr
  unfold mX8_train at h
  refine g_lv [0, 1] (lv' := [(0, .ref (a 0)), (1, .int (p0))]) rfl ?_
  refine g_aload_n (pc := 0) C 0 dX8_train_0 rfl rfl ?_
  refine g_iconst (pc := 1) C (v := (0 : Int32)) dX8_train_1 (by decide) ?_
  obtain ⟨s2, es2, h⟩ := hv_let_some h
  refine gm_put_0_0 (pc := 2) C es2 iX8_train_X8 qX8_train_F77 dX8_train_2 ?_
  refine g_iload_n (pc := 5) C 1 dX8_train_5 rfl rfl ?_
  refine g_i2l (pc := 6) C dX8_train_6 ?_
  refine g_lconst (pc := 7) C (v := (1 : Int64)) dX8_train_7 (by decide) ?_
  refine g_ldc2 (pc := 8) C (v := (9999 : Int64)) qX8_train_L125 dX8_train_8 ?_
  obtain ⟨r11, s11, hc11, h⟩ := hv_b2_some h
  refine g_callS (pc := 11) (σ1 := s11) (v := (some (.int (r11)))) (As := [.long ((p0).toInt64), .long ((1 : Int64)), .long ((9999 : Int64))]) (rest := []) C (vX8_in hc11) (va_cwS 3 C.1.2.2.2.2 gX8_train_X8_in rfl rfl rfl (by decide +kernel) ⟨Nat.le_of_ble_eq_true rfl, Nat.le_of_ble_eq_true rfl⟩) rfl rfl (Nat.le_of_ble_eq_true rfl) dX8_train_11 ⟨Nat.zero_le _, Nat.zero_le _⟩ ?_
  refine g_st (st' := [.int (r11)]) rfl ?_
  refine g_if_ne (pc := 14) (tgt := 19) C dX8_train_14 (by decide) (fun c14 => ?_) (fun c14 => ?_)
  · rw [if_neg c14] at h
    refine g_iload_n (pc := 19) C 1 dX8_train_19 rfl rfl ?_
    refine g_bipush (pc := 20) C (v := (10 : Int32)) dX8_train_20 (by decide) ?_
    refine g_icmp_ge (pc := 22) (tgt := 29) C dX8_train_22 (by decide) (fun c22 => ?_) (fun c22 => ?_)
    · rw [if_pos c22] at h
      refine g_iload_n (pc := 29) C 1 dX8_train_29 rfl rfl ?_
      refine g_bipush (pc := 30) C (v := (100 : Int32)) dX8_train_30 (by decide) ?_
      refine g_icmp_ge (pc := 32) (tgt := 39) C dX8_train_32 (by decide) (fun c32 => ?_) (fun c32 => ?_)
      · rw [if_pos c32] at h
        refine g_iload_n (pc := 39) C 1 dX8_train_39 rfl rfl ?_
        refine g_sipush (pc := 40) C (v := (1000 : Int32)) dX8_train_40 (by decide) ?_
        refine g_icmp_ge (pc := 43) (tgt := 50) C dX8_train_43 (by decide) (fun c43 => ?_) (fun c43 => ?_)
        · rw [if_pos c43] at h
          refine g_iconst (pc := 50) C (v := (4 : Int32)) dX8_train_50 (by decide) ?_
          exact g_lv [0, 1] rfl (bX8_train_51 C hr s11 (p0) ((4 : Int32)) h)
        · rw [if_neg c43] at h
          refine g_iconst (pc := 46) C (v := (3 : Int32)) dX8_train_46 (by decide) ?_
          refine g_goto (pc := 47) C (tgt := 51) dX8_train_47 (by decide) ?_
          exact g_lv [0, 1] rfl (bX8_train_51 C hr s11 (p0) ((3 : Int32)) h)
      · rw [if_neg c32] at h
        refine g_iconst (pc := 35) C (v := (2 : Int32)) dX8_train_35 (by decide) ?_
        refine g_goto (pc := 36) C (tgt := 51) dX8_train_36 (by decide) ?_
        exact g_lv [0, 1] rfl (bX8_train_51 C hr s11 (p0) ((2 : Int32)) h)
    · rw [if_neg c22] at h
      refine g_iconst (pc := 25) C (v := (1 : Int32)) dX8_train_25 (by decide) ?_
      refine g_goto (pc := 26) C (tgt := 51) dX8_train_26 (by decide) ?_
      exact g_lv [0, 1] rfl (bX8_train_51 C hr s11 (p0) ((1 : Int32)) h)
  · rw [if_pos c14] at h
    refine g_iconst (pc := 17) C (v := (-1 : Int32)) dX8_train_17 (by decide) ?_
    cases h
    exact g_iret (pc := 18) C hr dX8_train_18
abbrev rmX8_laysFree : Room := { frames := 1, cells := 0, slots := 0, locals := 21 }
set_option maxRecDepth 20000 in
theorem qX8_laysFree_F130 : Cond.fieldLink RX8 130 "PinFrameModel" "free" "I" ∈ wsX8_laysFree := by decide +kernel
set_option maxRecDepth 20000 in
theorem qX8_laysFree_F16 : Cond.fieldLink RX8 16 "PinFrameModel" "held" "[I" ∈ wsX8_laysFree := by decide +kernel
set_option maxRecDepth 20000 in
theorem qX8_laysFree_F40 : Cond.fieldLink RX8 40 "PinFrameModel" "freePin" "[I" ∈ wsX8_laysFree := by decide +kernel
set_option maxRecDepth 20000 in
theorem qX8_laysFree_F43 : Cond.fieldLink RX8 43 "PinFrameModel" "freeWay" "[I" ∈ wsX8_laysFree := by decide +kernel
set_option maxRecDepth 20000 in
theorem qX8_laysFree_F81 : Cond.fieldLink RX8 81 "PinFrameModel" "pins" "I" ∈ wsX8_laysFree := by decide +kernel
set_option maxRecDepth 20000 in
theorem iX8_laysFree_X8 : ∀ w ∈ u_ws RX8 TX8 35, w ∈ wsX8_laysFree := by decide +kernel
set_option maxHeartbeats 4000000 in
set_option maxRecDepth 20000 in
theorem bX8_laysFree_65 (C : hv_C p s m args meth c cX8_laysFree 3 wsX8_laysFree RX8 D (hv_tys cy)) (hr : meth.sig.returnType = none) {n : Nat} {o : hv_St} {r7 : hv_St → Int32 → Option (hv_St)} {r17 : hv_St → Int32 → Int32 → Option (hv_St)} (hr7 : ∀ (σ : hv_St) (x1 : Int32), r7 σ x1 = some o → hv_G p l e (headSpec wsX8_laysFree rmX8_laysFree).room s m args below meth c 3 D 23 a (hv_ME a cy) 0 0 (hv_MQ D 23 a (hv_ME a cy) below args s none o) σ 7 [(0, .ref (a 0)), (1, .int (x1))] []) (hr17 : ∀ (σ : hv_St) (x1 : Int32) (x2 : Int32), r17 σ x1 x2 = some o → hv_G p l e (headSpec wsX8_laysFree rmX8_laysFree).room s m args below meth c 3 D 23 a (hv_ME a cy) 0 0 (hv_MQ D 23 a (hv_ME a cy) below args s none o) σ 17 [(0, .ref (a 0)), (1, .int (x1)), (2, .int (x2))] []) : ∀ (σ : hv_St) (x1 : Int32) (x2 : Int32), kX8_laysFree_65 n r7 r17 σ x1 x2 = some o → hv_G p l e (headSpec wsX8_laysFree rmX8_laysFree).room s m args below meth c 3 D 23 a (hv_ME a cy) 0 0 (hv_MQ D 23 a (hv_ME a cy) below args s none o) σ 65 [(0, .ref (a 0)), (1, .int (x1)), (2, .int (x2))] [] := by
  intro σ x1 x2 h
  unfold kX8_laysFree_65 at h
  refine g_iinc (pc := 65) C 2 (v := x2 + 1) (lv' := [(2, .int (x2 + 1)), (0, .ref (a 0)), (1, .int (x1))]) dX8_laysFree_65 rfl rfl (Nat.le_of_ble_eq_true rfl) rfl ?_
  refine g_goto (pc := 68) C (tgt := 17) dX8_laysFree_68 (by decide) ?_
  exact g_lv [1, 2, 0] rfl (hr17 σ (x1) (x2 + 1) h)
set_option maxHeartbeats 4000000 in
set_option maxRecDepth 20000 in
theorem bX8_laysFree_17 (C : hv_C p s m args meth c cX8_laysFree 3 wsX8_laysFree RX8 D (hv_tys cy)) (hr : meth.sig.returnType = none) {n : Nat} {o : hv_St} {r7 : hv_St → Int32 → Option (hv_St)} (hr7 : ∀ (σ : hv_St) (x1 : Int32), r7 σ x1 = some o → hv_G p l e (headSpec wsX8_laysFree rmX8_laysFree).room s m args below meth c 3 D 23 a (hv_ME a cy) 0 0 (hv_MQ D 23 a (hv_ME a cy) below args s none o) σ 7 [(0, .ref (a 0)), (1, .int (x1))] []) : ∀ (i : Nat) (σ : hv_St) (x1 : Int32) (x2 : Int32), kX8_laysFree_17 n r7 i σ x1 x2 = some o → hv_G p l e (headSpec wsX8_laysFree rmX8_laysFree).room s m args below meth c 3 D 23 a (hv_ME a cy) 0 0 (hv_MQ D 23 a (hv_ME a cy) below args s none o) σ 17 [(0, .ref (a 0)), (1, .int (x1)), (2, .int (x2))] [] := by
  intro i
  induction i with
  | zero =>
    intro σ x1 x2 h
    cases h
  | succ i ih =>
    intro σ x1 x2 h
    generalize hg : kX8_laysFree_17 n r7 i = r17 at ih
    have hr17 := ih
    replace h : kX8_laysFree_17_b n r7 r17 σ x1 x2 = some o := by rw [← hg]; exact h
    unfold kX8_laysFree_17_b at h
    refine g_iload_n (pc := 17) C 2 dX8_laysFree_17 rfl rfl ?_
    refine g_iconst (pc := 18) C (v := (2 : Int32)) dX8_laysFree_18 (by decide) ?_
    refine g_icmp_ge (pc := 19) (tgt := 71) C dX8_laysFree_19 (by decide) (fun c19 => ?_) (fun c19 => ?_)
    · rw [if_pos c19] at h
      refine g_iinc (pc := 71) C 1 (v := x1 + 1) (lv' := [(1, .int (x1 + 1)), (0, .ref (a 0)), (2, .int (x2))]) dX8_laysFree_71 rfl rfl (Nat.le_of_ble_eq_true rfl) rfl ?_
      refine g_goto (pc := 74) C (tgt := 7) dX8_laysFree_74 (by decide) ?_
      exact g_lv [1, 0] rfl (hr7 σ (x1 + 1) h)
    · rw [if_neg c19] at h
      refine g_aload_n (pc := 22) C 0 dX8_laysFree_22 rfl rfl ?_
      refine gm_get_0_4 (pc := 23) C iX8_laysFree_X8 qX8_laysFree_F16 dX8_laysFree_23 ?_
      refine g_iload_n (pc := 26) C 1 dX8_laysFree_26 rfl rfl ?_
      obtain ⟨k27, h⟩ := hv_if_some h
      refine gm_ld_3 (pc := 27) C k27 dX8_laysFree_27 ?_
      refine g_iload_n (pc := 28) C 2 dX8_laysFree_28 rfl rfl ?_
      obtain ⟨r29, s29, hc29, h⟩ := hv_b2_some h
      refine g_callS (pc := 29) (σ1 := s29) (v := (some (.int (r29)))) (As := [.int (σ.1 3 (x1).toNatClampNeg), .int (x2)]) (rest := []) C (vX8_isOn hc29) (va_cwS 2 C.1.2.2.2.2 gX8_laysFree_X8_isOn rfl rfl rfl (by decide +kernel) ⟨Nat.le_of_ble_eq_true rfl, Nat.le_of_ble_eq_true rfl⟩) rfl rfl (Nat.le_of_ble_eq_true rfl) dX8_laysFree_29 ⟨Nat.zero_le _, Nat.zero_le _⟩ ?_
      refine g_st (st' := [.int (r29)]) rfl ?_
      refine g_if_ne (pc := 32) (tgt := 65) C dX8_laysFree_32 (by decide) (fun c32 => ?_) (fun c32 => ?_)
      · rw [if_neg c32] at h
        exact g_lv [0, 1, 2] rfl (bX8_laysFree_65 C hr hr7 hr17 s29 (x1) (x2) h)
      · rw [if_pos c32] at h
        refine g_aload_n (pc := 35) C 0 dX8_laysFree_35 rfl rfl ?_
        refine gm_get_0_16 (pc := 36) C iX8_laysFree_X8 qX8_laysFree_F40 dX8_laysFree_36 ?_
        refine g_aload_n (pc := 39) C 0 dX8_laysFree_39 rfl rfl ?_
        refine gm_get_0_18 (pc := 40) C iX8_laysFree_X8 qX8_laysFree_F130 dX8_laysFree_40 ?_
        refine g_iload_n (pc := 43) C 1 dX8_laysFree_43 rfl rfl ?_
        obtain ⟨k44, h⟩ := hv_if_some h
        obtain ⟨s44, es44, h⟩ := hv_let_some h
        refine gm_st_11 (pc := 44) C es44 k44 dX8_laysFree_44 ?_
        refine g_aload_n (pc := 45) C 0 dX8_laysFree_45 rfl rfl ?_
        refine gm_get_0_17 (pc := 46) C iX8_laysFree_X8 qX8_laysFree_F43 dX8_laysFree_46 ?_
        refine g_aload_n (pc := 49) C 0 dX8_laysFree_49 rfl rfl ?_
        refine gm_get_0_18 (pc := 50) C iX8_laysFree_X8 qX8_laysFree_F130 dX8_laysFree_50 ?_
        refine g_iload_n (pc := 53) C 2 dX8_laysFree_53 rfl rfl ?_
        obtain ⟨k54, h⟩ := hv_if_some h
        obtain ⟨s54, es54, h⟩ := hv_let_some h
        refine gm_st_12 (pc := 54) C es54 k54 dX8_laysFree_54 ?_
        refine g_aload_n (pc := 55) C 0 dX8_laysFree_55 rfl rfl ?_
        refine g_dup (pc := 56) C dX8_laysFree_56 rfl ?_
        refine gm_get_0_18 (pc := 57) C iX8_laysFree_X8 qX8_laysFree_F130 dX8_laysFree_57 ?_
        refine g_iconst (pc := 60) C (v := (1 : Int32)) dX8_laysFree_60 (by decide) ?_
        refine g_iadd (pc := 61) C dX8_laysFree_61 ?_
        obtain ⟨s62, es62, h⟩ := hv_let_some h
        refine gm_put_0_18 (pc := 62) C es62 iX8_laysFree_X8 qX8_laysFree_F130 dX8_laysFree_62 ?_
        exact g_lv [0, 1, 2] rfl (bX8_laysFree_65 C hr hr7 hr17 s62 (x1) (x2) h)
set_option maxHeartbeats 4000000 in
set_option maxRecDepth 20000 in
theorem bX8_laysFree_7 (C : hv_C p s m args meth c cX8_laysFree 3 wsX8_laysFree RX8 D (hv_tys cy)) (hr : meth.sig.returnType = none) {n : Nat} {o : hv_St} : ∀ (i : Nat) (σ : hv_St) (x1 : Int32), kX8_laysFree_7 n i σ x1 = some o → hv_G p l e (headSpec wsX8_laysFree rmX8_laysFree).room s m args below meth c 3 D 23 a (hv_ME a cy) 0 0 (hv_MQ D 23 a (hv_ME a cy) below args s none o) σ 7 [(0, .ref (a 0)), (1, .int (x1))] [] := by
  intro i
  induction i with
  | zero =>
    intro σ x1 h
    cases h
  | succ i ih =>
    intro σ x1 h
    generalize hg : kX8_laysFree_7 n i = r7 at ih
    have hr7 := ih
    replace h : kX8_laysFree_7_b n r7 σ x1 = some o := by rw [← hg]; exact h
    unfold kX8_laysFree_7_b at h
    refine g_iload_n (pc := 7) C 1 dX8_laysFree_7 rfl rfl ?_
    refine g_aload_n (pc := 8) C 0 dX8_laysFree_8 rfl rfl ?_
    refine gm_get_0_1 (pc := 9) C iX8_laysFree_X8 qX8_laysFree_F81 dX8_laysFree_9 ?_
    refine g_icmp_ge (pc := 12) (tgt := 77) C dX8_laysFree_12 (by decide) (fun c12 => ?_) (fun c12 => ?_)
    · rw [if_pos c12] at h
      cases h
      exact g_vret (pc := 77) C hr dX8_laysFree_77
    · rw [if_neg c12] at h
      refine g_iconst (pc := 15) C (v := (0 : Int32)) dX8_laysFree_15 (by decide) ?_
      refine g_istore_n (pc := 16) C (lv' := [(2, .int ((0 : Int32))), (0, .ref (a 0)), (1, .int (x1))]) rfl dX8_laysFree_16 rfl (Nat.le_of_ble_eq_true rfl) rfl ?_
      exact g_lv [1, 2, 0] rfl (bX8_laysFree_17 C hr hr7 n σ (x1) ((0 : Int32)) h)
set_option maxHeartbeats 4000000 in
set_option maxRecDepth 20000 in
theorem vX8_laysFree {n : Nat} {σ : hv_St} {o : hv_St} (h : mX8_laysFree n σ = some o) : hv_M l yX8_laysFree wsX8_laysFree rmX8_laysFree D (hv_tys cy) 23 a (hv_ME a cy) [.ref (a 0)] σ none o := by
  refine hv_enter (own := RX8) (cc := cX8_laysFree) (maxL := 3) (ret := none) (by decide) rfl rfl (Nat.le_of_ble_eq_true rfl) ?_
  intro p e s m args below meth c C hr
  unfold mX8_laysFree at h
  refine g_lv [0] (lv' := [(0, .ref (a 0))]) rfl ?_
  refine g_aload_n (pc := 0) C 0 dX8_laysFree_0 rfl rfl ?_
  refine g_iconst (pc := 1) C (v := (0 : Int32)) dX8_laysFree_1 (by decide) ?_
  obtain ⟨s2, es2, h⟩ := hv_let_some h
  refine gm_put_0_18 (pc := 2) C es2 iX8_laysFree_X8 qX8_laysFree_F130 dX8_laysFree_2 ?_
  refine g_iconst (pc := 5) C (v := (0 : Int32)) dX8_laysFree_5 (by decide) ?_
  refine g_istore_n (pc := 6) C (lv' := [(1, .int ((0 : Int32))), (0, .ref (a 0))]) rfl dX8_laysFree_6 rfl (Nat.le_of_ble_eq_true rfl) rfl ?_
  exact g_lv [1, 0] rfl (bX8_laysFree_7 C hr n s2 ((0 : Int32)) h)
abbrev rmX8_brings : Room := { frames := 0, cells := 0, slots := 0, locals := 0 }
set_option maxRecDepth 20000 in
theorem qX8_brings_F13 : Cond.fieldLink RX8 13 "PinFrameModel" "y" "[I" ∈ wsX8_brings := by decide +kernel
set_option maxRecDepth 20000 in
theorem qX8_brings_F22 : Cond.fieldLink RX8 22 "PinFrameModel" "one" "[I" ∈ wsX8_brings := by decide +kernel
set_option maxRecDepth 20000 in
theorem qX8_brings_F25 : Cond.fieldLink RX8 25 "PinFrameModel" "other" "[I" ∈ wsX8_brings := by decide +kernel
set_option maxRecDepth 20000 in
theorem qX8_brings_F7 : Cond.fieldLink RX8 7 "PinFrameModel" "x" "[I" ∈ wsX8_brings := by decide +kernel
set_option maxRecDepth 20000 in
theorem iX8_brings_X8 : ∀ w ∈ u_ws RX8 TX8 35, w ∈ wsX8_brings := by decide +kernel
set_option maxHeartbeats 4000000 in
set_option maxRecDepth 20000 in
theorem bX8_brings_67 (C : hv_C p s m args meth c cX8_brings 7 wsX8_brings RX8 D (hv_tys cy)) (hr : meth.sig.returnType = (some .int)) {n : Nat} {o : Int32 × hv_St} : ∀ (σ : hv_St) (x2 : Int32) (x4 : Int32) (z0 : Int32), kX8_brings_67 n σ x2 x4 z0 = some o → hv_G p l e (headSpec wsX8_brings rmX8_brings).room s m args below meth c 7 D 23 a (hv_ME a cy) 0 0 (hv_MQ D 23 a (hv_ME a cy) below args s (some (.int o.1)) o.2) σ 67 [(2, .int (x2)), (4, .int (x4))] [.int (z0)] := by
  intro σ x2 x4 z0 h
  unfold kX8_brings_67 at h
  refine g_istore (pc := 67) C (lv' := [(6, .int (z0)), (2, .int (x2)), (4, .int (x4))]) rfl dX8_brings_67 (Nat.le_of_ble_eq_true rfl) rfl ?_
  refine g_iload_n (pc := 69) C 1 dX8_brings_69 rfl rfl ?_
  refine g_iload (pc := 70) C 2 dX8_brings_70 rfl ?_
  refine g_icmp_ne (pc := 72) (tgt := 80) C dX8_brings_72 (by decide) (fun c72 => ?_) (fun c72 => ?_)
  · rw [if_neg c72] at h
    refine g_iload (pc := 80) C 0 dX8_brings_80 rfl ?_
    refine g_ineg (pc := 82) C dX8_brings_82 ?_
    cases h
    exact g_iret (pc := 83) C hr dX8_brings_83
  · rw [if_pos c72] at h
    refine g_iload (pc := 75) C 0 dX8_brings_75 rfl ?_
    refine g_goto (pc := 77) C (tgt := 83) dX8_brings_77 (by decide) ?_
    cases h
    exact g_iret (pc := 83) C hr dX8_brings_83
set_option maxHeartbeats 4000000 in
set_option maxRecDepth 20000 in
theorem bX8_brings_30 (C : hv_C p s m args meth c cX8_brings 7 wsX8_brings RX8 D (hv_tys cy)) (hr : meth.sig.returnType = (some .int)) {n : Nat} {o : Int32 × hv_St} : ∀ (σ : hv_St) (x2 : Int32) (x3 : Int32) (x4 : Int32) (x5 : Int32), kX8_brings_30 n σ x2 x3 x4 x5 = some o → hv_G p l e (headSpec wsX8_brings rmX8_brings).room s m args below meth c 7 D 23 a (hv_ME a cy) 0 0 (hv_MQ D 23 a (hv_ME a cy) below args s (some (.int o.1)) o.2) σ 30 [(0, .ref (a 0)), (2, .int (x2)), (3, .int (x3)), (4, .int (x4)), (5, .int (x5))] [] := by
  intro σ x2 x3 x4 x5 h
  unfold kX8_brings_30 at h
  refine g_iload_n (pc := 30) C 2 dX8_brings_30 rfl rfl ?_
  refine g_if_ne (pc := 31) (tgt := 52) C dX8_brings_31 (by decide) (fun c31 => ?_) (fun c31 => ?_)
  · rw [if_neg c31] at h
    refine g_aload_n (pc := 52) C 0 dX8_brings_52 rfl rfl ?_
    refine gm_get_0_3 (pc := 53) C iX8_brings_X8 qX8_brings_F13 dX8_brings_53 ?_
    refine g_iload (pc := 56) C 4 dX8_brings_56 rfl ?_
    obtain ⟨k58, h⟩ := hv_if_some h
    refine gm_ld_2 (pc := 58) C k58 dX8_brings_58 ?_
    refine g_aload_n (pc := 59) C 0 dX8_brings_59 rfl rfl ?_
    refine gm_get_0_3 (pc := 60) C iX8_brings_X8 qX8_brings_F13 dX8_brings_60 ?_
    refine g_iload (pc := 63) C 3 dX8_brings_63 rfl ?_
    obtain ⟨k65, h⟩ := hv_if_some h
    refine gm_ld_2 (pc := 65) C k65 dX8_brings_65 ?_
    refine g_isub (pc := 66) C dX8_brings_66 ?_
    exact g_lv [1, 3] rfl (bX8_brings_67 C hr σ (x2) (x4) ((σ.1 2 (x5).toNatClampNeg) - (σ.1 2 (x4).toNatClampNeg)) h)
  · rw [if_pos c31] at h
    refine g_aload_n (pc := 34) C 0 dX8_brings_34 rfl rfl ?_
    refine gm_get_0_2 (pc := 35) C iX8_brings_X8 qX8_brings_F7 dX8_brings_35 ?_
    refine g_iload (pc := 38) C 4 dX8_brings_38 rfl ?_
    obtain ⟨k40, h⟩ := hv_if_some h
    refine gm_ld_1 (pc := 40) C k40 dX8_brings_40 ?_
    refine g_aload_n (pc := 41) C 0 dX8_brings_41 rfl rfl ?_
    refine gm_get_0_2 (pc := 42) C iX8_brings_X8 qX8_brings_F7 dX8_brings_42 ?_
    refine g_iload (pc := 45) C 3 dX8_brings_45 rfl ?_
    obtain ⟨k47, h⟩ := hv_if_some h
    refine gm_ld_1 (pc := 47) C k47 dX8_brings_47 ?_
    refine g_isub (pc := 48) C dX8_brings_48 ?_
    refine g_goto (pc := 49) C (tgt := 67) dX8_brings_49 (by decide) ?_
    exact g_lv [1, 3] rfl (bX8_brings_67 C hr σ (x2) (x4) ((σ.1 1 (x5).toNatClampNeg) - (σ.1 1 (x4).toNatClampNeg)) h)
set_option maxHeartbeats 4000000 in
set_option maxRecDepth 20000 in
theorem vX8_brings {n : Nat} {σ : hv_St} {p0 : Int32} {p1 : Int32} {p2 : Int32} {o : Int32 × hv_St} (h : mX8_brings n σ p0 p1 p2 = some o) : hv_M l yX8_brings wsX8_brings rmX8_brings D (hv_tys cy) 23 a (hv_ME a cy) [.ref (a 0), .int (p0), .int (p1), .int (p2)] σ (some (.int o.1)) o.2 := by
  refine hv_enter (own := RX8) (cc := cX8_brings) (maxL := 7) (ret := (some .int)) (by decide) rfl rfl (Nat.le_of_ble_eq_true rfl) ?_
  intro p e s m args below meth c C hr
  unfold mX8_brings at h
  refine g_lv [0, 1, 2, 3] (lv' := [(0, .ref (a 0)), (1, .int (p0)), (2, .int (p1)), (3, .int (p2))]) rfl ?_
  refine g_aload_n (pc := 0) C 0 dX8_brings_0 rfl rfl ?_
  refine gm_get_0_7 (pc := 1) C iX8_brings_X8 qX8_brings_F22 dX8_brings_1 ?_
  refine g_iload_n (pc := 4) C 1 dX8_brings_4 rfl rfl ?_
  obtain ⟨k5, h⟩ := hv_if_some h
  refine gm_ld_5 (pc := 5) C k5 dX8_brings_5 ?_
  obtain ⟨y4_6, ey4_6, h⟩ := hv_let_some h
  refine g_istore (pc := 6) C (lv' := [(4, .int (y4_6)), (0, .ref (a 0)), (1, .int (p0)), (2, .int (p1)), (3, .int (p2))]) ey4_6 dX8_brings_6 (Nat.le_of_ble_eq_true rfl) rfl ?_
  refine g_aload_n (pc := 8) C 1 dX8_brings_8 rfl rfl ?_
  refine gm_get_0_8 (pc := 9) C iX8_brings_X8 qX8_brings_F25 dX8_brings_9 ?_
  refine g_iload_n (pc := 12) C 2 dX8_brings_12 rfl rfl ?_
  obtain ⟨k13, h⟩ := hv_if_some h
  refine gm_ld_6 (pc := 13) C k13 dX8_brings_13 ?_
  obtain ⟨y5_14, ey5_14, h⟩ := hv_let_some h
  refine g_istore (pc := 14) C (lv' := [(5, .int (y5_14)), (4, .int (y4_6)), (0, .ref (a 0)), (1, .int (p0)), (2, .int (p1)), (3, .int (p2))]) ey5_14 dX8_brings_14 (Nat.le_of_ble_eq_true rfl) rfl ?_
  refine g_iload_n (pc := 16) C 4 dX8_brings_16 rfl rfl ?_
  refine g_iload (pc := 17) C 1 dX8_brings_17 rfl ?_
  refine g_icmp_eq (pc := 19) (tgt := 30) C dX8_brings_19 (by decide) (fun c19 => ?_) (fun c19 => ?_)
  · rw [if_pos c19] at h
    exact g_lv [2, 4, 5, 1, 0] rfl (bX8_brings_30 C hr σ (p1) (p2) (y4_6) (y5_14) h)
  · rw [if_neg c19] at h
    refine g_iload_n (pc := 22) C 4 dX8_brings_22 rfl rfl ?_
    refine g_iload (pc := 23) C 0 dX8_brings_23 rfl ?_
    refine g_icmp_eq (pc := 25) (tgt := 30) C dX8_brings_25 (by decide) (fun c25 => ?_) (fun c25 => ?_)
    · rw [if_pos c25] at h
      exact g_lv [2, 4, 5, 1, 0] rfl (bX8_brings_30 C hr σ (p1) (p2) (y4_6) (y5_14) h)
    · rw [if_neg c25] at h
      refine g_iconst (pc := 28) C (v := (0 : Int32)) dX8_brings_28 (by decide) ?_
      cases h
      exact g_iret (pc := 29) C hr dX8_brings_29
end
