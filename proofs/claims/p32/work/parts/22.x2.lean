/-! class, walked: X7_pin, X7_isGive, X7_bar, X7_turn, X7_isDirection, X7_hold, X7_isLoad, X7_load, X7_countOfBalance, X7_count, X7_bears, X7_isPainted, X7_painted, X7_timesOf, X7_times, X7_told, X7_toldPull, J6_numberOfTrailingZeros_0f7a4, X7_need, X7_pull, X7_state -/
section
variable {p : Program} {l : Launch} {e : Env} {s : State} {m : MethodId} {args : Array Value} {below : List Frame} {meth : Method} {c : Code} {D : va_G} {a : Nat → Nat} {cy : ClassId × ClassId × ClassId × ClassId}
abbrev rmX7_pin : Room := { frames := 2, cells := 0, slots := 0, locals := 46 }
set_option maxRecDepth 20000 in
theorem qX7_pin_F17 : Cond.fieldLink RX7 17 "PinFrame" "frame" "LPinFrame$Frame;" ∈ wsX7_pin := by decide +kernel
set_option maxRecDepth 20000 in
theorem qX7_pin_F62 : Cond.fieldLink RX7 62 "PinFrame$Frame" "pins" "I" ∈ wsX7_pin := by decide +kernel
set_option maxRecDepth 20000 in
theorem iX7_pin_X3 : ∀ w ∈ u_ws RX3 TX3 10, w ∈ wsX7_pin := by decide +kernel
set_option maxRecDepth 20000 in
theorem iX7_pin_X7 : ∀ w ∈ u_ws RX7 TX7 7, w ∈ wsX7_pin := by decide +kernel
set_option maxHeartbeats 4000000 in
set_option maxRecDepth 20000 in
theorem vX7_pin {n : Nat} {σ : hv_St} {p0 : Int32} {p1 : Int32} {o : Int32 × hv_St} (h : mX7_pin n σ p0 p1 = some o) : hv_M l yX7_pin wsX7_pin rmX7_pin D (hv_tys cy) 55 a (hv_XE a cy) [.ref (a 0), .int (p0), .int (p1)] σ (some (.int o.1)) o.2 := by
  refine hv_enter (own := RX7) (cc := cX7_pin) (maxL := 4) (ret := (some .int)) (by decide) rfl rfl (Nat.le_of_ble_eq_true rfl) ?_
  intro p e s m args below meth c C hr
  unfold mX7_pin at h
  refine g_lv [0, 1, 2] (lv' := [(0, .ref (a 0)), (1, .int (p0)), (2, .int (p1))]) rfl ?_
  refine g_aload_n (pc := 0) C 0 dX7_pin_0 rfl rfl ?_
  refine gx_get_0_0 (pc := 1) C iX7_pin_X7 qX7_pin_F17 dX7_pin_1 ?_
  refine gx_get_1_0 (pc := 4) C iX7_pin_X3 qX7_pin_F62 dX7_pin_4 ?_
  refine g_bipush (pc := 7) C (v := (6 : Int32)) dX7_pin_7 (by decide) ?_
  refine g_icmp_ge (pc := 9) (tgt := 21) C dX7_pin_9 (by decide) (fun c9 => ?_) (fun c9 => ?_)
  · rw [if_pos c9] at h
    refine g_iconst (pc := 21) C (v := (-1 : Int32)) dX7_pin_21 (by decide) ?_
    cases h
    exact g_iret (pc := 22) C hr dX7_pin_22
  · rw [if_neg c9] at h
    refine g_aload_n (pc := 12) C 0 dX7_pin_12 rfl rfl ?_
    refine g_iload_n (pc := 13) C 1 dX7_pin_13 rfl rfl ?_
    refine g_iload_n (pc := 14) C 2 dX7_pin_14 rfl rfl ?_
    obtain ⟨r15, s15, hc15, h⟩ := hv_b2_some h
    refine g_callV (pc := 15) (σ1 := s15) (v := (some (.int (r15)))) (As := [.int (p0), .int (p1)]) (rest := []) C 0 (vX7_isFreePlace hc15) (cwV 2 C.1.2.2.2.2 gX7_pin_X7_isFreePlace rfl rfl rfl (by decide +kernel) ⟨Nat.le_of_ble_eq_true rfl, Nat.le_of_ble_eq_true rfl⟩) (Nat.le_of_ble_eq_true rfl) rfl rfl rfl rfl (Nat.le_of_ble_eq_true rfl) dX7_pin_15 ⟨Nat.zero_le _, Nat.zero_le _⟩ ?_
    refine g_st (st' := [.int (r15)]) rfl ?_
    refine g_if_ne (pc := 18) (tgt := 23) C dX7_pin_18 (by decide) (fun c18 => ?_) (fun c18 => ?_)
    · rw [if_neg c18] at h
      refine g_aload_n (pc := 23) C 0 dX7_pin_23 rfl rfl ?_
      refine gx_get_0_0 (pc := 24) C iX7_pin_X7 qX7_pin_F17 dX7_pin_24 ?_
      refine gx_get_1_0 (pc := 27) C iX7_pin_X3 qX7_pin_F62 dX7_pin_27 ?_
      obtain ⟨y3_30, ey3_30, h⟩ := hv_let_some h
      refine g_istore_n (pc := 30) C (lv' := [(3, .int (y3_30)), (0, .ref (a 0)), (1, .int (p0)), (2, .int (p1))]) ey3_30 dX7_pin_30 rfl (Nat.le_of_ble_eq_true rfl) rfl ?_
      refine g_aload_n (pc := 31) C 1 dX7_pin_31 rfl rfl ?_
      refine gx_get_0_0 (pc := 32) C iX7_pin_X7 qX7_pin_F17 dX7_pin_32 ?_
      refine g_dup (pc := 35) C dX7_pin_35 rfl ?_
      refine gx_get_1_0 (pc := 36) C iX7_pin_X3 qX7_pin_F62 dX7_pin_36 ?_
      refine g_iconst (pc := 39) C (v := (1 : Int32)) dX7_pin_39 (by decide) ?_
      refine g_iadd (pc := 40) C dX7_pin_40 ?_
      obtain ⟨s41, es41, h⟩ := hv_let_some h
      refine gx_put_1_0 (pc := 41) C es41 iX7_pin_X3 qX7_pin_F62 dX7_pin_41 ?_
      refine g_aload_n (pc := 44) C 1 dX7_pin_44 rfl rfl ?_
      refine gx_get_0_0 (pc := 45) C iX7_pin_X7 qX7_pin_F17 dX7_pin_45 ?_
      refine g_iload_n (pc := 48) C 0 dX7_pin_48 rfl rfl ?_
      refine g_iload_n (pc := 49) C 2 dX7_pin_49 rfl rfl ?_
      refine g_iload_n (pc := 50) C 3 dX7_pin_50 rfl rfl ?_
      obtain ⟨s51, hc51, h⟩ := hv_bd_some h
      refine g_callV (pc := 51) (σ1 := s51) (v := none) (As := [.int (y3_30), .int (p0), .int (p1)]) (rest := []) C 1 (vX3_put hc51) (cwV 3 C.1.2.2.2.2 gX7_pin_X3_put rfl rfl rfl (by decide +kernel) ⟨Nat.le_of_ble_eq_true rfl, Nat.le_of_ble_eq_true rfl⟩) (Nat.le_of_ble_eq_true rfl) rfl rfl rfl rfl (Nat.le_of_ble_eq_true rfl) dX7_pin_51 ⟨Nat.zero_le _, Nat.zero_le _⟩ ?_
      refine g_st (st' := []) rfl ?_
      refine g_iload_n (pc := 54) C 0 dX7_pin_54 rfl rfl ?_
      cases h
      exact g_iret (pc := 55) C hr dX7_pin_55
    · rw [if_pos c18] at h
      refine g_iconst (pc := 21) C (v := (-1 : Int32)) dX7_pin_21 (by decide) ?_
      cases h
      exact g_iret (pc := 22) C hr dX7_pin_22
abbrev rmX7_isGive : Room := { frames := 0, cells := 0, slots := 0, locals := 0 }
set_option maxHeartbeats 4000000 in
set_option maxRecDepth 20000 in
theorem bX7_isGive_14 (C : hv_C p s m args meth c cX7_isGive 1 wsX7_isGive RX7 D (hv_tys cy)) (hr : meth.sig.returnType = (some .boolean)) {n : Nat} {o : Int32 × hv_St} : ∀ (σ : hv_St), kX7_isGive_14 n σ = some o → hv_G p l e (headSpec wsX7_isGive rmX7_isGive).room s m args below meth c 1 D 55 a (hv_XE a cy) 0 0 (hv_MQ D 55 a (hv_XE a cy) below args s (some (.int o.1)) o.2) σ 14 [] [] := by
  intro σ h
  unfold kX7_isGive_14 at h
  refine g_iconst (pc := 14) C (v := (0 : Int32)) dX7_isGive_14 (by decide) ?_
  cases h
  exact g_zret (pc := 15) (x := (0 : Int32)) C hr (by decide) dX7_isGive_15
set_option maxHeartbeats 4000000 in
set_option maxRecDepth 20000 in
theorem vX7_isGive {n : Nat} {σ : hv_St} {p0 : Int32} {o : Int32 × hv_St} (h : mX7_isGive n σ p0 = some o) : hv_M l yX7_isGive wsX7_isGive rmX7_isGive D (hv_tys cy) 55 a (hv_XE a cy) [.int (p0)] σ (some (.int o.1)) o.2 := by
  refine hv_enter (own := RX7) (cc := cX7_isGive) (maxL := 1) (ret := (some .boolean)) (by decide) rfl rfl (Nat.le_of_ble_eq_true rfl) ?_
  intro p e s m args below meth c C hr
  unfold mX7_isGive at h
  refine g_lv [0] (lv' := [(0, .int (p0))]) rfl ?_
  refine g_iload_n (pc := 0) C 0 dX7_isGive_0 rfl rfl ?_
  refine g_iconst (pc := 1) C (v := (1 : Int32)) dX7_isGive_1 (by decide) ?_
  refine g_icmp_lt (pc := 2) (tgt := 14) C dX7_isGive_2 (by decide) (fun c2 => ?_) (fun c2 => ?_)
  · rw [if_pos c2] at h
    exact g_lv [] rfl (bX7_isGive_14 C hr σ h)
  · rw [if_neg c2] at h
    refine g_iload_n (pc := 5) C 0 dX7_isGive_5 rfl rfl ?_
    refine g_iconst (pc := 6) C (v := (3 : Int32)) dX7_isGive_6 (by decide) ?_
    refine g_icmp_gt (pc := 7) (tgt := 14) C dX7_isGive_7 (by decide) (fun c7 => ?_) (fun c7 => ?_)
    · rw [if_pos c7] at h
      exact g_lv [] rfl (bX7_isGive_14 C hr σ h)
    · rw [if_neg c7] at h
      refine g_iconst (pc := 10) C (v := (1 : Int32)) dX7_isGive_10 (by decide) ?_
      refine g_goto (pc := 11) C (tgt := 15) dX7_isGive_11 (by decide) ?_
      cases h
      exact g_zret (pc := 15) (x := (1 : Int32)) C hr (by decide) dX7_isGive_15
abbrev rmX7_bar : Room := { frames := 1, cells := 0, slots := 0, locals := 24 }
set_option maxRecDepth 20000 in
theorem qX7_bar_F17 : Cond.fieldLink RX7 17 "PinFrame" "frame" "LPinFrame$Frame;" ∈ wsX7_bar := by decide +kernel
set_option maxRecDepth 20000 in
theorem qX7_bar_F78 : Cond.fieldLink RX7 78 "PinFrame$Frame" "bars" "I" ∈ wsX7_bar := by decide +kernel
set_option maxRecDepth 20000 in
theorem iX7_bar_X3 : ∀ w ∈ u_ws RX3 TX3 10, w ∈ wsX7_bar := by decide +kernel
set_option maxRecDepth 20000 in
theorem iX7_bar_X7 : ∀ w ∈ u_ws RX7 TX7 7, w ∈ wsX7_bar := by decide +kernel
set_option maxHeartbeats 4000000 in
set_option maxRecDepth 20000 in
theorem bX7_bar_44 (C : hv_C p s m args meth c cX7_bar 5 wsX7_bar RX7 D (hv_tys cy)) (hr : meth.sig.returnType = (some .int)) {n : Nat} {o : Int32 × hv_St} : ∀ (σ : hv_St) (x1 : Int32) (x2 : Int32) (x3 : Int32) (z0 : Int32), kX7_bar_44 n σ x1 x2 x3 z0 = some o → hv_G p l e (headSpec wsX7_bar rmX7_bar).room s m args below meth c 5 D 55 a (hv_XE a cy) 0 0 (hv_MQ D 55 a (hv_XE a cy) below args s (some (.int o.1)) o.2) σ 44 [(0, .ref (a 0)), (1, .int (x1)), (2, .int (x2)), (3, .int (x3))] [.int (z0)] := by
  intro σ x1 x2 x3 z0 h
  unfold kX7_bar_44 at h
  refine g_istore (pc := 44) C (lv' := [(4, .int (z0)), (0, .ref (a 0)), (1, .int (x1)), (2, .int (x2)), (3, .int (x3))]) rfl dX7_bar_44 (Nat.le_of_ble_eq_true rfl) rfl ?_
  refine g_iload (pc := 46) C 0 dX7_bar_46 rfl ?_
  refine g_if_eq (pc := 48) (tgt := 70) C dX7_bar_48 (by decide) (fun c48 => ?_) (fun c48 => ?_)
  · rw [if_pos c48] at h
    refine g_iconst (pc := 70) C (v := (-1 : Int32)) dX7_bar_70 (by decide) ?_
    cases h
    exact g_iret (pc := 71) C hr dX7_bar_71
  · rw [if_neg c48] at h
    refine g_iload_n (pc := 51) C 4 dX7_bar_51 rfl rfl ?_
    obtain ⟨r52, s52, hc52, h⟩ := hv_b2_some h
    refine g_callS (pc := 52) (σ1 := s52) (v := (some (.int (r52)))) (As := [.int (x3)]) (rest := []) C (vX7_isGive hc52) (va_cwS 1 C.1.2.2.2.2 gX7_bar_X7_isGive rfl rfl rfl (by decide +kernel) ⟨Nat.le_of_ble_eq_true rfl, Nat.le_of_ble_eq_true rfl⟩) rfl rfl (Nat.le_of_ble_eq_true rfl) dX7_bar_52 ⟨Nat.zero_le _, Nat.zero_le _⟩ ?_
    refine g_st (st' := [.int (r52)]) rfl ?_
    refine g_if_eq (pc := 55) (tgt := 70) C dX7_bar_55 (by decide) (fun c55 => ?_) (fun c55 => ?_)
    · rw [if_pos c55] at h
      refine g_iconst (pc := 70) C (v := (-1 : Int32)) dX7_bar_70 (by decide) ?_
      cases h
      exact g_iret (pc := 71) C hr dX7_bar_71
    · rw [if_neg c55] at h
      refine g_aload_n (pc := 58) C 1 dX7_bar_58 rfl rfl ?_
      refine gx_get_0_0 (pc := 59) C iX7_bar_X7 qX7_bar_F17 dX7_bar_59 ?_
      refine g_iload_n (pc := 62) C 2 dX7_bar_62 rfl rfl ?_
      refine g_iload_n (pc := 63) C 3 dX7_bar_63 rfl rfl ?_
      obtain ⟨r64, s64, hc64, h⟩ := hv_b2_some h
      refine g_callV (pc := 64) (σ1 := s64) (v := (some (.int (r64)))) (As := [.int (x1), .int (x2)]) (rest := []) C 1 (vX3_hasBar hc64) (cwV 2 C.1.2.2.2.2 gX7_bar_X3_hasBar rfl rfl rfl (by decide +kernel) ⟨Nat.le_of_ble_eq_true rfl, Nat.le_of_ble_eq_true rfl⟩) (Nat.le_of_ble_eq_true rfl) rfl rfl rfl rfl (Nat.le_of_ble_eq_true rfl) dX7_bar_64 ⟨Nat.zero_le _, Nat.zero_le _⟩ ?_
      refine g_st (st' := [.int (r64)]) rfl ?_
      refine g_if_eq (pc := 67) (tgt := 72) C dX7_bar_67 (by decide) (fun c67 => ?_) (fun c67 => ?_)
      · rw [if_pos c67] at h
        refine g_aload_n (pc := 72) C 1 dX7_bar_72 rfl rfl ?_
        refine gx_get_0_0 (pc := 73) C iX7_bar_X7 qX7_bar_F17 dX7_bar_73 ?_
        refine g_iload_n (pc := 76) C 2 dX7_bar_76 rfl rfl ?_
        refine g_iload_n (pc := 77) C 3 dX7_bar_77 rfl rfl ?_
        refine g_iload_n (pc := 78) C 4 dX7_bar_78 rfl rfl ?_
        obtain ⟨r79, s79, hc79, h⟩ := hv_b2_some h
        refine g_callV (pc := 79) (σ1 := s79) (v := (some (.int (r79)))) (As := [.int (x1), .int (x2), .int (x3)]) (rest := []) C 1 (vX3_addBar hc79) (cwV 3 C.1.2.2.2.2 gX7_bar_X3_addBar rfl rfl rfl (by decide +kernel) ⟨Nat.le_of_ble_eq_true rfl, Nat.le_of_ble_eq_true rfl⟩) (Nat.le_of_ble_eq_true rfl) rfl rfl rfl rfl (Nat.le_of_ble_eq_true rfl) dX7_bar_79 ⟨Nat.zero_le _, Nat.zero_le _⟩ ?_
        refine g_st (st' := [.int (r79)]) rfl ?_
        cases h
        exact g_iret (pc := 82) C hr dX7_bar_82
      · rw [if_neg c67] at h
        refine g_iconst (pc := 70) C (v := (-1 : Int32)) dX7_bar_70 (by decide) ?_
        cases h
        exact g_iret (pc := 71) C hr dX7_bar_71
set_option maxHeartbeats 4000000 in
set_option maxRecDepth 20000 in
theorem bX7_bar_43 (C : hv_C p s m args meth c cX7_bar 5 wsX7_bar RX7 D (hv_tys cy)) (hr : meth.sig.returnType = (some .int)) {n : Nat} {o : Int32 × hv_St} : ∀ (σ : hv_St) (x1 : Int32) (x2 : Int32) (x3 : Int32), kX7_bar_43 n σ x1 x2 x3 = some o → hv_G p l e (headSpec wsX7_bar rmX7_bar).room s m args below meth c 5 D 55 a (hv_XE a cy) 0 0 (hv_MQ D 55 a (hv_XE a cy) below args s (some (.int o.1)) o.2) σ 43 [(0, .ref (a 0)), (1, .int (x1)), (2, .int (x2)), (3, .int (x3))] [] := by
  intro σ x1 x2 x3 h
  unfold kX7_bar_43 at h
  refine g_iconst (pc := 43) C (v := (0 : Int32)) dX7_bar_43 (by decide) ?_
  exact g_lv [0, 1, 2, 3] rfl (bX7_bar_44 C hr σ (x1) (x2) (x3) ((0 : Int32)) h)
set_option maxHeartbeats 4000000 in
set_option maxRecDepth 20000 in
theorem vX7_bar {n : Nat} {σ : hv_St} {p0 : Int32} {p1 : Int32} {p2 : Int32} {o : Int32 × hv_St} (h : mX7_bar n σ p0 p1 p2 = some o) : hv_M l yX7_bar wsX7_bar rmX7_bar D (hv_tys cy) 55 a (hv_XE a cy) [.ref (a 0), .int (p0), .int (p1), .int (p2)] σ (some (.int o.1)) o.2 := by
  refine hv_enter (own := RX7) (cc := cX7_bar) (maxL := 5) (ret := (some .int)) (by decide) rfl rfl (Nat.le_of_ble_eq_true rfl) ?_
  intro p e s m args below meth c C hr
  unfold mX7_bar at h
  refine g_lv [0, 1, 2, 3] (lv' := [(0, .ref (a 0)), (1, .int (p0)), (2, .int (p1)), (3, .int (p2))]) rfl ?_
  refine g_aload_n (pc := 0) C 0 dX7_bar_0 rfl rfl ?_
  refine gx_get_0_0 (pc := 1) C iX7_bar_X7 qX7_bar_F17 dX7_bar_1 ?_
  refine gx_get_1_1 (pc := 4) C iX7_bar_X3 qX7_bar_F78 dX7_bar_4 ?_
  refine g_bipush (pc := 7) C (v := (11 : Int32)) dX7_bar_7 (by decide) ?_
  refine g_icmp_ge (pc := 9) (tgt := 43) C dX7_bar_9 (by decide) (fun c9 => ?_) (fun c9 => ?_)
  · rw [if_pos c9] at h
    exact g_lv [0, 1, 2, 3] rfl (bX7_bar_43 C hr σ (p0) (p1) (p2) h)
  · rw [if_neg c9] at h
    refine g_aload_n (pc := 12) C 0 dX7_bar_12 rfl rfl ?_
    refine gx_get_0_0 (pc := 13) C iX7_bar_X7 qX7_bar_F17 dX7_bar_13 ?_
    refine g_iload_n (pc := 16) C 1 dX7_bar_16 rfl rfl ?_
    obtain ⟨r17, s17, hc17, h⟩ := hv_b2_some h
    refine g_callV (pc := 17) (σ1 := s17) (v := (some (.int (r17)))) (As := [.int (p0)]) (rest := []) C 1 (vX3_isPin hc17) (cwV 1 C.1.2.2.2.2 gX7_bar_X3_isPin rfl rfl rfl (by decide +kernel) ⟨Nat.le_of_ble_eq_true rfl, Nat.le_of_ble_eq_true rfl⟩) (Nat.le_of_ble_eq_true rfl) rfl rfl rfl rfl (Nat.le_of_ble_eq_true rfl) dX7_bar_17 ⟨Nat.zero_le _, Nat.zero_le _⟩ ?_
    refine g_st (st' := [.int (r17)]) rfl ?_
    refine g_if_eq (pc := 20) (tgt := 43) C dX7_bar_20 (by decide) (fun c20 => ?_) (fun c20 => ?_)
    · rw [if_pos c20] at h
      exact g_lv [0, 1, 2, 3] rfl (bX7_bar_43 C hr s17 (p0) (p1) (p2) h)
    · rw [if_neg c20] at h
      refine g_aload_n (pc := 23) C 0 dX7_bar_23 rfl rfl ?_
      refine gx_get_0_0 (pc := 24) C iX7_bar_X7 qX7_bar_F17 dX7_bar_24 ?_
      refine g_iload_n (pc := 27) C 2 dX7_bar_27 rfl rfl ?_
      obtain ⟨r28, s28, hc28, h⟩ := hv_b2_some h
      refine g_callV (pc := 28) (σ1 := s28) (v := (some (.int (r28)))) (As := [.int (p1)]) (rest := []) C 1 (vX3_isPin hc28) (cwV 1 C.1.2.2.2.2 gX7_bar_X3_isPin rfl rfl rfl (by decide +kernel) ⟨Nat.le_of_ble_eq_true rfl, Nat.le_of_ble_eq_true rfl⟩) (Nat.le_of_ble_eq_true rfl) rfl rfl rfl rfl (Nat.le_of_ble_eq_true rfl) dX7_bar_28 ⟨Nat.zero_le _, Nat.zero_le _⟩ ?_
      refine g_st (st' := [.int (r28)]) rfl ?_
      refine g_if_eq (pc := 31) (tgt := 43) C dX7_bar_31 (by decide) (fun c31 => ?_) (fun c31 => ?_)
      · rw [if_pos c31] at h
        exact g_lv [0, 1, 2, 3] rfl (bX7_bar_43 C hr s28 (p0) (p1) (p2) h)
      · rw [if_neg c31] at h
        refine g_iload_n (pc := 34) C 1 dX7_bar_34 rfl rfl ?_
        refine g_iload_n (pc := 35) C 2 dX7_bar_35 rfl rfl ?_
        refine g_icmp_eq (pc := 36) (tgt := 43) C dX7_bar_36 (by decide) (fun c36 => ?_) (fun c36 => ?_)
        · rw [if_pos c36] at h
          exact g_lv [0, 1, 2, 3] rfl (bX7_bar_43 C hr s28 (p0) (p1) (p2) h)
        · rw [if_neg c36] at h
          refine g_iconst (pc := 39) C (v := (1 : Int32)) dX7_bar_39 (by decide) ?_
          refine g_goto (pc := 40) C (tgt := 44) dX7_bar_40 (by decide) ?_
          exact g_lv [0, 1, 2, 3] rfl (bX7_bar_44 C hr s28 (p0) (p1) (p2) ((1 : Int32)) h)
abbrev rmX7_turn : Room := { frames := 2, cells := 0, slots := 0, locals := 42 }
set_option maxRecDepth 20000 in
theorem qX7_turn_F17 : Cond.fieldLink RX7 17 "PinFrame" "frame" "LPinFrame$Frame;" ∈ wsX7_turn := by decide +kernel
set_option maxRecDepth 20000 in
theorem qX7_turn_F97 : Cond.fieldLink RX7 97 "PinFrame$Frame" "on" "I" ∈ wsX7_turn := by decide +kernel
set_option maxRecDepth 20000 in
theorem iX7_turn_X3 : ∀ w ∈ u_ws RX3 TX3 10, w ∈ wsX7_turn := by decide +kernel
set_option maxRecDepth 20000 in
theorem iX7_turn_X7 : ∀ w ∈ u_ws RX7 TX7 7, w ∈ wsX7_turn := by decide +kernel
set_option maxHeartbeats 4000000 in
set_option maxRecDepth 20000 in
theorem vX7_turn {n : Nat} {σ : hv_St} {p0 : Int32} {p1 : Int32} {o : Int32 × hv_St} (h : mX7_turn n σ p0 p1 = some o) : hv_M l yX7_turn wsX7_turn rmX7_turn D (hv_tys cy) 55 a (hv_XE a cy) [.ref (a 0), .int (p0), .int (p1)] σ (some (.int o.1)) o.2 := by
  refine hv_enter (own := RX7) (cc := cX7_turn) (maxL := 3) (ret := (some .boolean)) (by decide) rfl rfl (Nat.le_of_ble_eq_true rfl) ?_
  intro p e s m args below meth c C hr
  unfold mX7_turn at h
  refine g_lv [0, 1, 2] (lv' := [(0, .ref (a 0)), (1, .int (p0)), (2, .int (p1))]) rfl ?_
  refine g_aload_n (pc := 0) C 0 dX7_turn_0 rfl rfl ?_
  refine gx_get_0_0 (pc := 1) C iX7_turn_X7 qX7_turn_F17 dX7_turn_1 ?_
  refine g_iload_n (pc := 4) C 1 dX7_turn_4 rfl rfl ?_
  obtain ⟨r5, s5, hc5, h⟩ := hv_b2_some h
  refine g_callV (pc := 5) (σ1 := s5) (v := (some (.int (r5)))) (As := [.int (p0)]) (rest := []) C 1 (vX3_isBar hc5) (cwV 1 C.1.2.2.2.2 gX7_turn_X3_isBar rfl rfl rfl (by decide +kernel) ⟨Nat.le_of_ble_eq_true rfl, Nat.le_of_ble_eq_true rfl⟩) (Nat.le_of_ble_eq_true rfl) rfl rfl rfl rfl (Nat.le_of_ble_eq_true rfl) dX7_turn_5 ⟨Nat.zero_le _, Nat.zero_le _⟩ ?_
  refine g_st (st' := [.int (r5)]) rfl ?_
  refine g_if_eq (pc := 8) (tgt := 23) C dX7_turn_8 (by decide) (fun c8 => ?_) (fun c8 => ?_)
  · rw [if_pos c8] at h
    refine g_iconst (pc := 23) C (v := (0 : Int32)) dX7_turn_23 (by decide) ?_
    cases h
    exact g_zret (pc := 24) (x := (0 : Int32)) C hr (by decide) dX7_turn_24
  · rw [if_neg c8] at h
    refine g_aload_n (pc := 11) C 0 dX7_turn_11 rfl rfl ?_
    refine gx_get_0_0 (pc := 12) C iX7_turn_X7 qX7_turn_F17 dX7_turn_12 ?_
    refine g_iload_n (pc := 15) C 1 dX7_turn_15 rfl rfl ?_
    obtain ⟨r16, s16, hc16, h⟩ := hv_b2_some h
    refine g_callV (pc := 16) (σ1 := s16) (v := (some (.int (r16)))) (As := [.int (p0)]) (rest := []) C 1 (vX3_isOn hc16) (cwV 1 C.1.2.2.2.2 gX7_turn_X3_isOn rfl rfl rfl (by decide +kernel) ⟨Nat.le_of_ble_eq_true rfl, Nat.le_of_ble_eq_true rfl⟩) (Nat.le_of_ble_eq_true rfl) rfl rfl rfl rfl (Nat.le_of_ble_eq_true rfl) dX7_turn_16 ⟨Nat.zero_le _, Nat.zero_le _⟩ ?_
    refine g_st (st' := [.int (r16)]) rfl ?_
    refine g_iload_n (pc := 19) C 2 dX7_turn_19 rfl rfl ?_
    refine g_icmp_ne (pc := 20) (tgt := 25) C dX7_turn_20 (by decide) (fun c20 => ?_) (fun c20 => ?_)
    · rw [if_neg c20] at h
      refine g_aload_n (pc := 25) C 0 dX7_turn_25 rfl rfl ?_
      refine gx_get_0_0 (pc := 26) C iX7_turn_X7 qX7_turn_F17 dX7_turn_26 ?_
      refine g_dup (pc := 29) C dX7_turn_29 rfl ?_
      refine gx_get_1_2 (pc := 30) C iX7_turn_X3 qX7_turn_F97 dX7_turn_30 ?_
      refine g_iconst (pc := 33) C (v := (1 : Int32)) dX7_turn_33 (by decide) ?_
      refine g_iload_n (pc := 34) C 1 dX7_turn_34 rfl rfl ?_
      refine g_ishl (pc := 35) C dX7_turn_35 ?_
      refine g_ixor (pc := 36) C dX7_turn_36 ?_
      obtain ⟨s37, es37, h⟩ := hv_let_some h
      refine gx_put_1_2 (pc := 37) C es37 iX7_turn_X3 qX7_turn_F97 dX7_turn_37 ?_
      refine g_iconst (pc := 40) C (v := (1 : Int32)) dX7_turn_40 (by decide) ?_
      cases h
      exact g_zret (pc := 41) (x := (1 : Int32)) C hr (by decide) dX7_turn_41
    · rw [if_pos c20] at h
      refine g_iconst (pc := 23) C (v := (0 : Int32)) dX7_turn_23 (by decide) ?_
      cases h
      exact g_zret (pc := 24) (x := (0 : Int32)) C hr (by decide) dX7_turn_24
abbrev rmX7_isDirection : Room := { frames := 0, cells := 0, slots := 0, locals := 0 }
set_option maxHeartbeats 4000000 in
set_option maxRecDepth 20000 in
theorem bX7_isDirection_9 (C : hv_C p s m args meth c cX7_isDirection 1 wsX7_isDirection RX7 D (hv_tys cy)) (hr : meth.sig.returnType = (some .boolean)) {n : Nat} {o : Int32 × hv_St} : ∀ (σ : hv_St), kX7_isDirection_9 n σ = some o → hv_G p l e (headSpec wsX7_isDirection rmX7_isDirection).room s m args below meth c 1 D 55 a (hv_XE a cy) 0 0 (hv_MQ D 55 a (hv_XE a cy) below args s (some (.int o.1)) o.2) σ 9 [] [] := by
  intro σ h
  unfold kX7_isDirection_9 at h
  refine g_iconst (pc := 9) C (v := (1 : Int32)) dX7_isDirection_9 (by decide) ?_
  refine g_goto (pc := 10) C (tgt := 14) dX7_isDirection_10 (by decide) ?_
  cases h
  exact g_zret (pc := 14) (x := (1 : Int32)) C hr (by decide) dX7_isDirection_14
set_option maxHeartbeats 4000000 in
set_option maxRecDepth 20000 in
theorem vX7_isDirection {n : Nat} {σ : hv_St} {p0 : Int32} {o : Int32 × hv_St} (h : mX7_isDirection n σ p0 = some o) : hv_M l yX7_isDirection wsX7_isDirection rmX7_isDirection D (hv_tys cy) 55 a (hv_XE a cy) [.int (p0)] σ (some (.int o.1)) o.2 := by
  refine hv_enter (own := RX7) (cc := cX7_isDirection) (maxL := 1) (ret := (some .boolean)) (by decide) rfl rfl (Nat.le_of_ble_eq_true rfl) ?_
  intro p e s m args below meth c C hr
  unfold mX7_isDirection at h
  refine g_lv [0] (lv' := [(0, .int (p0))]) rfl ?_
  refine g_iload_n (pc := 0) C 0 dX7_isDirection_0 rfl rfl ?_
  refine g_if_eq (pc := 1) (tgt := 9) C dX7_isDirection_1 (by decide) (fun c1 => ?_) (fun c1 => ?_)
  · rw [if_pos c1] at h
    exact g_lv [] rfl (bX7_isDirection_9 C hr σ h)
  · rw [if_neg c1] at h
    refine g_iload_n (pc := 4) C 0 dX7_isDirection_4 rfl rfl ?_
    refine g_iconst (pc := 5) C (v := (1 : Int32)) dX7_isDirection_5 (by decide) ?_
    refine g_icmp_ne (pc := 6) (tgt := 13) C dX7_isDirection_6 (by decide) (fun c6 => ?_) (fun c6 => ?_)
    · rw [if_neg c6] at h
      refine g_iconst (pc := 13) C (v := (0 : Int32)) dX7_isDirection_13 (by decide) ?_
      cases h
      exact g_zret (pc := 14) (x := (0 : Int32)) C hr (by decide) dX7_isDirection_14
    · rw [if_pos c6] at h
      exact g_lv [] rfl (bX7_isDirection_9 C hr σ h)
abbrev rmX7_hold : Room := { frames := 1, cells := 0, slots := 0, locals := 21 }
set_option maxRecDepth 20000 in
theorem qX7_hold_F110 : Cond.fieldLink RX7 110 "PinFrame$Frame" "held" "[Z" ∈ wsX7_hold := by decide +kernel
set_option maxRecDepth 20000 in
theorem qX7_hold_F17 : Cond.fieldLink RX7 17 "PinFrame" "frame" "LPinFrame$Frame;" ∈ wsX7_hold := by decide +kernel
set_option maxRecDepth 20000 in
theorem iX7_hold_X3 : ∀ w ∈ u_ws RX3 TX3 10, w ∈ wsX7_hold := by decide +kernel
set_option maxRecDepth 20000 in
theorem iX7_hold_X7 : ∀ w ∈ u_ws RX7 TX7 7, w ∈ wsX7_hold := by decide +kernel
set_option maxHeartbeats 4000000 in
set_option maxRecDepth 20000 in
theorem vX7_hold {n : Nat} {σ : hv_St} {p0 : Int32} {p1 : Int32} {p2 : Int32} {o : Int32 × hv_St} (h : mX7_hold n σ p0 p1 p2 = some o) : hv_M l yX7_hold wsX7_hold rmX7_hold D (hv_tys cy) 55 a (hv_XE a cy) [.ref (a 0), .int (p0), .int (p1), .int (p2)] σ (some (.int o.1)) o.2 := by
  refine hv_enter (own := RX7) (cc := cX7_hold) (maxL := 5) (ret := (some .boolean)) (by decide) rfl rfl (Nat.le_of_ble_eq_true rfl) ?_
  intro p e s m args below meth c C hr
  unfold mX7_hold at h
  refine g_lv [0, 1, 2, 3] (lv' := [(0, .ref (a 0)), (1, .int (p0)), (2, .int (p1)), (3, .int (p2))]) rfl ?_
  refine g_aload_n (pc := 0) C 0 dX7_hold_0 rfl rfl ?_
  refine gx_get_0_0 (pc := 1) C iX7_hold_X7 qX7_hold_F17 dX7_hold_1 ?_
  refine g_iload_n (pc := 4) C 1 dX7_hold_4 rfl rfl ?_
  obtain ⟨r5, s5, hc5, h⟩ := hv_b2_some h
  refine g_callV (pc := 5) (σ1 := s5) (v := (some (.int (r5)))) (As := [.int (p0)]) (rest := []) C 1 (vX3_isPin hc5) (cwV 1 C.1.2.2.2.2 gX7_hold_X3_isPin rfl rfl rfl (by decide +kernel) ⟨Nat.le_of_ble_eq_true rfl, Nat.le_of_ble_eq_true rfl⟩) (Nat.le_of_ble_eq_true rfl) rfl rfl rfl rfl (Nat.le_of_ble_eq_true rfl) dX7_hold_5 ⟨Nat.zero_le _, Nat.zero_le _⟩ ?_
  refine g_st (st' := [.int (r5)]) rfl ?_
  refine g_if_eq (pc := 8) (tgt := 18) C dX7_hold_8 (by decide) (fun c8 => ?_) (fun c8 => ?_)
  · rw [if_pos c8] at h
    refine g_iconst (pc := 18) C (v := (0 : Int32)) dX7_hold_18 (by decide) ?_
    cases h
    exact g_zret (pc := 19) (x := (0 : Int32)) C hr (by decide) dX7_hold_19
  · rw [if_neg c8] at h
    refine g_iload_n (pc := 11) C 2 dX7_hold_11 rfl rfl ?_
    obtain ⟨r12, s12, hc12, h⟩ := hv_b2_some h
    refine g_callS (pc := 12) (σ1 := s12) (v := (some (.int (r12)))) (As := [.int (p1)]) (rest := []) C (vX7_isDirection hc12) (va_cwS 1 C.1.2.2.2.2 gX7_hold_X7_isDirection rfl rfl rfl (by decide +kernel) ⟨Nat.le_of_ble_eq_true rfl, Nat.le_of_ble_eq_true rfl⟩) rfl rfl (Nat.le_of_ble_eq_true rfl) dX7_hold_12 ⟨Nat.zero_le _, Nat.zero_le _⟩ ?_
    refine g_st (st' := [.int (r12)]) rfl ?_
    refine g_if_ne (pc := 15) (tgt := 20) C dX7_hold_15 (by decide) (fun c15 => ?_) (fun c15 => ?_)
    · rw [if_neg c15] at h
      refine g_iconst (pc := 20) C (v := (2 : Int32)) dX7_hold_20 (by decide) ?_
      refine g_iload_n (pc := 21) C 1 dX7_hold_21 rfl rfl ?_
      refine g_imul (pc := 22) C dX7_hold_22 ?_
      refine g_iload_n (pc := 23) C 2 dX7_hold_23 rfl rfl ?_
      refine g_iadd (pc := 24) C dX7_hold_24 ?_
      obtain ⟨y4_25, ey4_25, h⟩ := hv_let_some h
      refine g_istore (pc := 25) C (lv' := [(4, .int (y4_25)), (0, .ref (a 0)), (1, .int (p0)), (2, .int (p1)), (3, .int (p2))]) ey4_25 dX7_hold_25 (Nat.le_of_ble_eq_true rfl) rfl ?_
      refine g_aload_n (pc := 27) C 1 dX7_hold_27 rfl rfl ?_
      refine gx_get_0_0 (pc := 28) C iX7_hold_X7 qX7_hold_F17 dX7_hold_28 ?_
      refine gx_get_1_5 (pc := 31) C iX7_hold_X3 qX7_hold_F110 dX7_hold_31 ?_
      refine g_iload (pc := 34) C 0 dX7_hold_34 rfl ?_
      obtain ⟨k36, h⟩ := hv_if_some h
      refine gx_ld_4 (pc := 36) C k36 dX7_hold_36 ?_
      refine g_iload_n (pc := 37) C 4 dX7_hold_37 rfl rfl ?_
      refine g_icmp_ne (pc := 38) (tgt := 43) C dX7_hold_38 (by decide) (fun c38 => ?_) (fun c38 => ?_)
      · rw [if_neg c38] at h
        refine g_aload_n (pc := 43) C 1 dX7_hold_43 rfl rfl ?_
        refine gx_get_0_0 (pc := 44) C iX7_hold_X7 qX7_hold_F17 dX7_hold_44 ?_
        refine gx_get_1_5 (pc := 47) C iX7_hold_X3 qX7_hold_F110 dX7_hold_47 ?_
        refine g_iload (pc := 50) C 0 dX7_hold_50 rfl ?_
        refine g_iload_n (pc := 52) C 4 dX7_hold_52 rfl rfl ?_
        obtain ⟨k53, h⟩ := hv_if_some h
        obtain ⟨z53, h⟩ := hv_if_some h
        obtain ⟨s53, es53, h⟩ := hv_let_some h
        refine gx_st_4 (pc := 53) C es53 k53 z53 dX7_hold_53 ?_
        refine g_iconst (pc := 54) C (v := (1 : Int32)) dX7_hold_54 (by decide) ?_
        cases h
        exact g_zret (pc := 55) (x := (1 : Int32)) C hr (by decide) dX7_hold_55
      · rw [if_pos c38] at h
        refine g_iconst (pc := 41) C (v := (0 : Int32)) dX7_hold_41 (by decide) ?_
        cases h
        exact g_zret (pc := 42) (x := (0 : Int32)) C hr (by decide) dX7_hold_42
    · rw [if_pos c15] at h
      refine g_iconst (pc := 18) C (v := (0 : Int32)) dX7_hold_18 (by decide) ?_
      cases h
      exact g_zret (pc := 19) (x := (0 : Int32)) C hr (by decide) dX7_hold_19
abbrev rmX7_isLoad : Room := { frames := 0, cells := 0, slots := 0, locals := 0 }
set_option maxHeartbeats 4000000 in
set_option maxRecDepth 20000 in
theorem bX7_isLoad_16 (C : hv_C p s m args meth c cX7_isLoad 1 wsX7_isLoad RX7 D (hv_tys cy)) (hr : meth.sig.returnType = (some .boolean)) {n : Nat} {o : Int32 × hv_St} : ∀ (σ : hv_St), kX7_isLoad_16 n σ = some o → hv_G p l e (headSpec wsX7_isLoad rmX7_isLoad).room s m args below meth c 1 D 55 a (hv_XE a cy) 0 0 (hv_MQ D 55 a (hv_XE a cy) below args s (some (.int o.1)) o.2) σ 16 [] [] := by
  intro σ h
  unfold kX7_isLoad_16 at h
  refine g_iconst (pc := 16) C (v := (0 : Int32)) dX7_isLoad_16 (by decide) ?_
  cases h
  exact g_zret (pc := 17) (x := (0 : Int32)) C hr (by decide) dX7_isLoad_17
set_option maxHeartbeats 4000000 in
set_option maxRecDepth 20000 in
theorem vX7_isLoad {n : Nat} {σ : hv_St} {p0 : Int32} {o : Int32 × hv_St} (h : mX7_isLoad n σ p0 = some o) : hv_M l yX7_isLoad wsX7_isLoad rmX7_isLoad D (hv_tys cy) 55 a (hv_XE a cy) [.int (p0)] σ (some (.int o.1)) o.2 := by
  refine hv_enter (own := RX7) (cc := cX7_isLoad) (maxL := 1) (ret := (some .boolean)) (by decide) rfl rfl (Nat.le_of_ble_eq_true rfl) ?_
  intro p e s m args below meth c C hr
  unfold mX7_isLoad at h
  refine g_lv [0] (lv' := [(0, .int (p0))]) rfl ?_
  refine g_iload_n (pc := 0) C 0 dX7_isLoad_0 rfl rfl ?_
  refine g_bipush (pc := 1) C (v := (-9 : Int32)) dX7_isLoad_1 (by decide) ?_
  refine g_icmp_lt (pc := 3) (tgt := 16) C dX7_isLoad_3 (by decide) (fun c3 => ?_) (fun c3 => ?_)
  · rw [if_pos c3] at h
    exact g_lv [] rfl (bX7_isLoad_16 C hr σ h)
  · rw [if_neg c3] at h
    refine g_iload_n (pc := 6) C 0 dX7_isLoad_6 rfl rfl ?_
    refine g_bipush (pc := 7) C (v := (9 : Int32)) dX7_isLoad_7 (by decide) ?_
    refine g_icmp_gt (pc := 9) (tgt := 16) C dX7_isLoad_9 (by decide) (fun c9 => ?_) (fun c9 => ?_)
    · rw [if_pos c9] at h
      exact g_lv [] rfl (bX7_isLoad_16 C hr σ h)
    · rw [if_neg c9] at h
      refine g_iconst (pc := 12) C (v := (1 : Int32)) dX7_isLoad_12 (by decide) ?_
      refine g_goto (pc := 13) C (tgt := 17) dX7_isLoad_13 (by decide) ?_
      cases h
      exact g_zret (pc := 17) (x := (1 : Int32)) C hr (by decide) dX7_isLoad_17
abbrev rmX7_load : Room := { frames := 1, cells := 0, slots := 0, locals := 21 }
set_option maxRecDepth 20000 in
theorem qX7_load_F117 : Cond.fieldLink RX7 117 "PinFrame$Frame" "loads" "[I" ∈ wsX7_load := by decide +kernel
set_option maxRecDepth 20000 in
theorem qX7_load_F17 : Cond.fieldLink RX7 17 "PinFrame" "frame" "LPinFrame$Frame;" ∈ wsX7_load := by decide +kernel
set_option maxRecDepth 20000 in
theorem iX7_load_X3 : ∀ w ∈ u_ws RX3 TX3 10, w ∈ wsX7_load := by decide +kernel
set_option maxRecDepth 20000 in
theorem iX7_load_X7 : ∀ w ∈ u_ws RX7 TX7 7, w ∈ wsX7_load := by decide +kernel
set_option maxHeartbeats 4000000 in
set_option maxRecDepth 20000 in
theorem vX7_load {n : Nat} {σ : hv_St} {p0 : Int32} {p1 : Int32} {p2 : Int32} {o : Int32 × hv_St} (h : mX7_load n σ p0 p1 p2 = some o) : hv_M l yX7_load wsX7_load rmX7_load D (hv_tys cy) 55 a (hv_XE a cy) [.ref (a 0), .int (p0), .int (p1), .int (p2)] σ (some (.int o.1)) o.2 := by
  refine hv_enter (own := RX7) (cc := cX7_load) (maxL := 4) (ret := (some .boolean)) (by decide) rfl rfl (Nat.le_of_ble_eq_true rfl) ?_
  intro p e s m args below meth c C hr
  unfold mX7_load at h
  refine g_lv [0, 1, 2, 3] (lv' := [(0, .ref (a 0)), (1, .int (p0)), (2, .int (p1)), (3, .int (p2))]) rfl ?_
  refine g_aload_n (pc := 0) C 0 dX7_load_0 rfl rfl ?_
  refine gx_get_0_0 (pc := 1) C iX7_load_X7 qX7_load_F17 dX7_load_1 ?_
  refine g_iload_n (pc := 4) C 1 dX7_load_4 rfl rfl ?_
  obtain ⟨r5, s5, hc5, h⟩ := hv_b2_some h
  refine g_callV (pc := 5) (σ1 := s5) (v := (some (.int (r5)))) (As := [.int (p0)]) (rest := []) C 1 (vX3_isPin hc5) (cwV 1 C.1.2.2.2.2 gX7_load_X3_isPin rfl rfl rfl (by decide +kernel) ⟨Nat.le_of_ble_eq_true rfl, Nat.le_of_ble_eq_true rfl⟩) (Nat.le_of_ble_eq_true rfl) rfl rfl rfl rfl (Nat.le_of_ble_eq_true rfl) dX7_load_5 ⟨Nat.zero_le _, Nat.zero_le _⟩ ?_
  refine g_st (st' := [.int (r5)]) rfl ?_
  refine g_if_eq (pc := 8) (tgt := 25) C dX7_load_8 (by decide) (fun c8 => ?_) (fun c8 => ?_)
  · rw [if_pos c8] at h
    refine g_iconst (pc := 25) C (v := (0 : Int32)) dX7_load_25 (by decide) ?_
    cases h
    exact g_zret (pc := 26) (x := (0 : Int32)) C hr (by decide) dX7_load_26
  · rw [if_neg c8] at h
    refine g_iload_n (pc := 11) C 2 dX7_load_11 rfl rfl ?_
    obtain ⟨r12, s12, hc12, h⟩ := hv_b2_some h
    refine g_callS (pc := 12) (σ1 := s12) (v := (some (.int (r12)))) (As := [.int (p1)]) (rest := []) C (vX7_isLoad hc12) (va_cwS 1 C.1.2.2.2.2 gX7_load_X7_isLoad rfl rfl rfl (by decide +kernel) ⟨Nat.le_of_ble_eq_true rfl, Nat.le_of_ble_eq_true rfl⟩) rfl rfl (Nat.le_of_ble_eq_true rfl) dX7_load_12 ⟨Nat.zero_le _, Nat.zero_le _⟩ ?_
    refine g_st (st' := [.int (r12)]) rfl ?_
    refine g_if_eq (pc := 15) (tgt := 25) C dX7_load_15 (by decide) (fun c15 => ?_) (fun c15 => ?_)
    · rw [if_pos c15] at h
      refine g_iconst (pc := 25) C (v := (0 : Int32)) dX7_load_25 (by decide) ?_
      cases h
      exact g_zret (pc := 26) (x := (0 : Int32)) C hr (by decide) dX7_load_26
    · rw [if_neg c15] at h
      refine g_iload_n (pc := 18) C 3 dX7_load_18 rfl rfl ?_
      obtain ⟨r19, s19, hc19, h⟩ := hv_b2_some h
      refine g_callS (pc := 19) (σ1 := s19) (v := (some (.int (r19)))) (As := [.int (p2)]) (rest := []) C (vX7_isLoad hc19) (va_cwS 1 C.1.2.2.2.2 gX7_load_X7_isLoad rfl rfl rfl (by decide +kernel) ⟨Nat.le_of_ble_eq_true rfl, Nat.le_of_ble_eq_true rfl⟩) rfl rfl (Nat.le_of_ble_eq_true rfl) dX7_load_19 ⟨Nat.zero_le _, Nat.zero_le _⟩ ?_
      refine g_st (st' := [.int (r19)]) rfl ?_
      refine g_if_ne (pc := 22) (tgt := 27) C dX7_load_22 (by decide) (fun c22 => ?_) (fun c22 => ?_)
      · rw [if_neg c22] at h
        refine g_aload_n (pc := 27) C 0 dX7_load_27 rfl rfl ?_
        refine gx_get_0_0 (pc := 28) C iX7_load_X7 qX7_load_F17 dX7_load_28 ?_
        refine gx_get_1_4 (pc := 31) C iX7_load_X3 qX7_load_F117 dX7_load_31 ?_
        refine g_iconst (pc := 34) C (v := (2 : Int32)) dX7_load_34 (by decide) ?_
        refine g_iload_n (pc := 35) C 1 dX7_load_35 rfl rfl ?_
        refine g_imul (pc := 36) C dX7_load_36 ?_
        refine g_iload_n (pc := 37) C 2 dX7_load_37 rfl rfl ?_
        obtain ⟨k38, h⟩ := hv_if_some h
        obtain ⟨s38, es38, h⟩ := hv_let_some h
        refine gx_st_3 (pc := 38) C es38 k38 dX7_load_38 ?_
        refine g_aload_n (pc := 39) C 0 dX7_load_39 rfl rfl ?_
        refine gx_get_0_0 (pc := 40) C iX7_load_X7 qX7_load_F17 dX7_load_40 ?_
        refine gx_get_1_4 (pc := 43) C iX7_load_X3 qX7_load_F117 dX7_load_43 ?_
        refine g_iconst (pc := 46) C (v := (2 : Int32)) dX7_load_46 (by decide) ?_
        refine g_iload_n (pc := 47) C 1 dX7_load_47 rfl rfl ?_
        refine g_imul (pc := 48) C dX7_load_48 ?_
        refine g_iconst (pc := 49) C (v := (1 : Int32)) dX7_load_49 (by decide) ?_
        refine g_iadd (pc := 50) C dX7_load_50 ?_
        refine g_iload_n (pc := 51) C 3 dX7_load_51 rfl rfl ?_
        obtain ⟨k52, h⟩ := hv_if_some h
        obtain ⟨s52, es52, h⟩ := hv_let_some h
        refine gx_st_3 (pc := 52) C es52 k52 dX7_load_52 ?_
        refine g_iconst (pc := 53) C (v := (1 : Int32)) dX7_load_53 (by decide) ?_
        cases h
        exact g_zret (pc := 54) (x := (1 : Int32)) C hr (by decide) dX7_load_54
      · rw [if_pos c22] at h
        refine g_iconst (pc := 25) C (v := (0 : Int32)) dX7_load_25 (by decide) ?_
        cases h
        exact g_zret (pc := 26) (x := (0 : Int32)) C hr (by decide) dX7_load_26
abbrev rmX7_countOfBalance : Room := { frames := 5, cells := 0, slots := 0, locals := 119 }
set_option maxRecDepth 20000 in
theorem qX7_countOfBalance_F17 : Cond.fieldLink RX7 17 "PinFrame" "frame" "LPinFrame$Frame;" ∈ wsX7_countOfBalance := by decide +kernel
set_option maxRecDepth 20000 in
theorem qX7_countOfBalance_F21 : Cond.fieldLink RX7 21 "PinFrame" "balance" "LPinFrame$Balance;" ∈ wsX7_countOfBalance := by decide +kernel
set_option maxRecDepth 20000 in
theorem qX7_countOfBalance_F263 : Cond.fieldLink RX7 263 "PinFrame$Balance" "base" "I" ∈ wsX7_countOfBalance := by decide +kernel
set_option maxRecDepth 20000 in
theorem qX7_countOfBalance_F274 : Cond.fieldLink RX7 274 "PinFrame$Balance" "free" "I" ∈ wsX7_countOfBalance := by decide +kernel
set_option maxRecDepth 20000 in
theorem qX7_countOfBalance_F277 : Cond.fieldLink RX7 277 "PinFrame$Balance" "spare" "I" ∈ wsX7_countOfBalance := by decide +kernel
set_option maxRecDepth 20000 in
theorem qX7_countOfBalance_F280 : Cond.fieldLink RX7 280 "PinFrame$Balance" "rank" "I" ∈ wsX7_countOfBalance := by decide +kernel
set_option maxRecDepth 20000 in
theorem qX7_countOfBalance_F97 : Cond.fieldLink RX7 97 "PinFrame$Frame" "on" "I" ∈ wsX7_countOfBalance := by decide +kernel
set_option maxRecDepth 20000 in
theorem iX7_countOfBalance_X0 : ∀ w ∈ u_ws RX0 TX0 9, w ∈ wsX7_countOfBalance := by decide +kernel
set_option maxRecDepth 20000 in
theorem iX7_countOfBalance_X3 : ∀ w ∈ u_ws RX3 TX3 10, w ∈ wsX7_countOfBalance := by decide +kernel
set_option maxRecDepth 20000 in
theorem iX7_countOfBalance_X7 : ∀ w ∈ u_ws RX7 TX7 7, w ∈ wsX7_countOfBalance := by decide +kernel
set_option maxHeartbeats 4000000 in
set_option maxRecDepth 20000 in
theorem vX7_countOfBalance {n : Nat} {σ : hv_St} {p0 : Int32} {o : Int32 × hv_St} (h : mX7_countOfBalance n σ p0 = some o) : hv_M l yX7_countOfBalance wsX7_countOfBalance rmX7_countOfBalance D (hv_tys cy) 55 a (hv_XE a cy) [.ref (a 0), .int (p0)] σ (some (.int o.1)) o.2 := by
  refine hv_enter (own := RX7) (cc := cX7_countOfBalance) (maxL := 2) (ret := (some .int)) (by decide) rfl rfl (Nat.le_of_ble_eq_true rfl) ?_
  intro p e s m args below meth c C hr
  unfold mX7_countOfBalance at h
  refine g_lv [0, 1] (lv' := [(0, .ref (a 0)), (1, .int (p0))]) rfl ?_
  refine g_aload_n (pc := 0) C 0 dX7_countOfBalance_0 rfl rfl ?_
  refine gx_get_0_1 (pc := 1) C iX7_countOfBalance_X7 qX7_countOfBalance_F21 dX7_countOfBalance_1 ?_
  refine g_aload_n (pc := 4) C 0 dX7_countOfBalance_4 rfl rfl ?_
  refine gx_get_0_0 (pc := 5) C iX7_countOfBalance_X7 qX7_countOfBalance_F17 dX7_countOfBalance_5 ?_
  refine gx_get_1_2 (pc := 8) C iX7_countOfBalance_X3 qX7_countOfBalance_F97 dX7_countOfBalance_8 ?_
  obtain ⟨s11, hc11, h⟩ := hv_bd_some h
  refine g_callV (pc := 11) (σ1 := s11) (v := none) (As := [.int (σ.1 1 2)]) (rest := []) C 9 (vX0_settle hc11) (cwV 1 C.1.2.2.2.2 gX7_countOfBalance_X0_settle rfl rfl rfl (by decide +kernel) ⟨Nat.le_of_ble_eq_true rfl, Nat.le_of_ble_eq_true rfl⟩) (Nat.le_of_ble_eq_true rfl) rfl rfl rfl rfl (Nat.le_of_ble_eq_true rfl) dX7_countOfBalance_11 ⟨Nat.zero_le _, Nat.zero_le _⟩ ?_
  refine g_st (st' := []) rfl ?_
  refine g_iload_n (pc := 14) C 1 dX7_countOfBalance_14 rfl rfl ?_
  by_cases c15_3 : p0 = (3 : Int32)
  · rw [if_pos c15_3] at h
    refine g_tableIn (pc := 15) (tgt := 48) C dX7_countOfBalance_15 (by rw [c15_3] <;> decide) (by rw [c15_3] <;> decide) (by rw [c15_3] <;> rfl) (by decide) ?_
    refine g_aload_n (pc := 48) C 0 dX7_countOfBalance_48 rfl rfl ?_
    refine gx_get_0_1 (pc := 49) C iX7_countOfBalance_X7 qX7_countOfBalance_F21 dX7_countOfBalance_49 ?_
    refine gx_get_9_4 (pc := 52) C iX7_countOfBalance_X0 qX7_countOfBalance_F274 dX7_countOfBalance_52 ?_
    cases h
    exact g_iret (pc := 55) C hr dX7_countOfBalance_55
  · rw [if_neg c15_3] at h
    by_cases c15_4 : p0 = (4 : Int32)
    · rw [if_pos c15_4] at h
      refine g_tableIn (pc := 15) (tgt := 56) C dX7_countOfBalance_15 (by rw [c15_4] <;> decide) (by rw [c15_4] <;> decide) (by rw [c15_4] <;> rfl) (by decide) ?_
      refine g_aload_n (pc := 56) C 0 dX7_countOfBalance_56 rfl rfl ?_
      refine gx_get_0_1 (pc := 57) C iX7_countOfBalance_X7 qX7_countOfBalance_F21 dX7_countOfBalance_57 ?_
      obtain ⟨r60, s60, hc60, h⟩ := hv_b2_some h
      refine g_callV (pc := 60) (σ1 := s60) (v := (some (.int (r60)))) (As := []) (rest := []) C 9 (vX0_kindNumber hc60) (cwV 0 C.1.2.2.2.2 gX7_countOfBalance_X0_kindNumber rfl rfl rfl (by decide +kernel) ⟨Nat.le_of_ble_eq_true rfl, Nat.le_of_ble_eq_true rfl⟩) (Nat.le_of_ble_eq_true rfl) rfl rfl rfl rfl (Nat.le_of_ble_eq_true rfl) dX7_countOfBalance_60 ⟨Nat.zero_le _, Nat.zero_le _⟩ ?_
      refine g_st (st' := [.int (r60)]) rfl ?_
      cases h
      exact g_iret (pc := 63) C hr dX7_countOfBalance_63
    · rw [if_neg c15_4] at h
      by_cases c15_5 : p0 = (5 : Int32)
      · rw [if_pos c15_5] at h
        refine g_tableIn (pc := 15) (tgt := 64) C dX7_countOfBalance_15 (by rw [c15_5] <;> decide) (by rw [c15_5] <;> decide) (by rw [c15_5] <;> rfl) (by decide) ?_
        refine g_aload_n (pc := 64) C 0 dX7_countOfBalance_64 rfl rfl ?_
        refine gx_get_0_1 (pc := 65) C iX7_countOfBalance_X7 qX7_countOfBalance_F21 dX7_countOfBalance_65 ?_
        refine gx_get_9_6 (pc := 68) C iX7_countOfBalance_X0 qX7_countOfBalance_F263 dX7_countOfBalance_68 ?_
        cases h
        exact g_iret (pc := 71) C hr dX7_countOfBalance_71
      · rw [if_neg c15_5] at h
        by_cases c15_6 : p0 = (6 : Int32)
        · rw [if_pos c15_6] at h
          refine g_tableIn (pc := 15) (tgt := 72) C dX7_countOfBalance_15 (by rw [c15_6] <;> decide) (by rw [c15_6] <;> decide) (by rw [c15_6] <;> rfl) (by decide) ?_
          refine g_aload_n (pc := 72) C 0 dX7_countOfBalance_72 rfl rfl ?_
          refine gx_get_0_1 (pc := 73) C iX7_countOfBalance_X7 qX7_countOfBalance_F21 dX7_countOfBalance_73 ?_
          refine gx_get_9_7 (pc := 76) C iX7_countOfBalance_X0 qX7_countOfBalance_F277 dX7_countOfBalance_76 ?_
          cases h
          exact g_iret (pc := 79) C hr dX7_countOfBalance_79
        · rw [if_neg c15_6] at h
          by_cases c15_7 : p0 = (7 : Int32)
          · rw [if_pos c15_7] at h
            refine g_tableIn (pc := 15) (tgt := 80) C dX7_countOfBalance_15 (by rw [c15_7] <;> decide) (by rw [c15_7] <;> decide) (by rw [c15_7] <;> rfl) (by decide) ?_
            refine g_aload_n (pc := 80) C 0 dX7_countOfBalance_80 rfl rfl ?_
            refine gx_get_0_1 (pc := 81) C iX7_countOfBalance_X7 qX7_countOfBalance_F21 dX7_countOfBalance_81 ?_
            refine gx_get_9_4 (pc := 84) C iX7_countOfBalance_X0 qX7_countOfBalance_F274 dX7_countOfBalance_84 ?_
            refine g_aload_n (pc := 87) C 0 dX7_countOfBalance_87 rfl rfl ?_
            refine gx_get_0_1 (pc := 88) C iX7_countOfBalance_X7 qX7_countOfBalance_F21 dX7_countOfBalance_88 ?_
            refine gx_get_9_5 (pc := 91) C iX7_countOfBalance_X0 qX7_countOfBalance_F280 dX7_countOfBalance_91 ?_
            refine g_isub (pc := 94) C dX7_countOfBalance_94 ?_
            cases h
            exact g_iret (pc := 95) C hr dX7_countOfBalance_95
          · rw [if_neg c15_7] at h
            have nc15_3 := lv_neT c15_3 (a := 3) (by decide)
            have nc15_4 := lv_neT c15_4 (a := 4) (by decide)
            have nc15_5 := lv_neT c15_5 (a := 5) (by decide)
            have nc15_6 := lv_neT c15_6 (a := 6) (by decide)
            have nc15_7 := lv_neT c15_7 (a := 7) (by decide)
            refine g_tableOut (pc := 15) (tgt := 96) C dX7_countOfBalance_15 (by omega) (by decide) ?_
            refine g_iconst (pc := 96) C (v := (-1 : Int32)) dX7_countOfBalance_96 (by decide) ?_
            cases h
            exact g_iret (pc := 97) C hr dX7_countOfBalance_97
abbrev rmX7_count : Room := { frames := 6, cells := 0, slots := 0, locals := 144 }
set_option maxRecDepth 20000 in
theorem qX7_count_F124 : Cond.fieldLink RX7 124 "PinFrame$Ride" "pins" "I" ∈ wsX7_count := by decide +kernel
set_option maxRecDepth 20000 in
theorem qX7_count_F128 : Cond.fieldLink RX7 128 "PinFrame$Ride" "weights" "I" ∈ wsX7_count := by decide +kernel
set_option maxRecDepth 20000 in
theorem qX7_count_F134 : Cond.fieldLink RX7 134 "PinFrame$Joints" "known" "I" ∈ wsX7_count := by decide +kernel
set_option maxRecDepth 20000 in
theorem qX7_count_F17 : Cond.fieldLink RX7 17 "PinFrame" "frame" "LPinFrame$Frame;" ∈ wsX7_count := by decide +kernel
set_option maxRecDepth 20000 in
theorem qX7_count_F37 : Cond.fieldLink RX7 37 "PinFrame" "joints" "LPinFrame$Joints;" ∈ wsX7_count := by decide +kernel
set_option maxRecDepth 20000 in
theorem qX7_count_F51 : Cond.fieldLink RX7 51 "PinFrame" "ride" "LPinFrame$Ride;" ∈ wsX7_count := by decide +kernel
set_option maxRecDepth 20000 in
theorem qX7_count_F62 : Cond.fieldLink RX7 62 "PinFrame$Frame" "pins" "I" ∈ wsX7_count := by decide +kernel
set_option maxRecDepth 20000 in
theorem qX7_count_F78 : Cond.fieldLink RX7 78 "PinFrame$Frame" "bars" "I" ∈ wsX7_count := by decide +kernel
set_option maxRecDepth 20000 in
theorem qX7_count_F97 : Cond.fieldLink RX7 97 "PinFrame$Frame" "on" "I" ∈ wsX7_count := by decide +kernel
set_option maxRecDepth 20000 in
theorem iX7_count_X3 : ∀ w ∈ u_ws RX3 TX3 10, w ∈ wsX7_count := by decide +kernel
set_option maxRecDepth 20000 in
theorem iX7_count_X4 : ∀ w ∈ u_ws RX4 TX4 4, w ∈ wsX7_count := by decide +kernel
set_option maxRecDepth 20000 in
theorem iX7_count_X6 : ∀ w ∈ u_ws RX6 TX6 5, w ∈ wsX7_count := by decide +kernel
set_option maxRecDepth 20000 in
theorem iX7_count_X7 : ∀ w ∈ u_ws RX7 TX7 7, w ∈ wsX7_count := by decide +kernel
set_option maxHeartbeats 4000000 in
set_option maxRecDepth 20000 in
theorem bX7_count_115 (C : hv_C p s m args meth c cX7_count 2 wsX7_count RX7 D (hv_tys cy)) (hr : meth.sig.returnType = (some .int)) {n : Nat} {o : Int32 × hv_St} : ∀ (σ : hv_St) (x1 : Int32), kX7_count_115 n σ x1 = some o → hv_G p l e (headSpec wsX7_count rmX7_count).room s m args below meth c 2 D 55 a (hv_XE a cy) 0 0 (hv_MQ D 55 a (hv_XE a cy) below args s (some (.int o.1)) o.2) σ 115 [(0, .ref (a 0)), (1, .int (x1))] [] := by
  intro σ x1 h
  unfold kX7_count_115 at h
  refine g_aload_n (pc := 115) C 0 dX7_count_115 rfl rfl ?_
  refine g_iload_n (pc := 116) C 1 dX7_count_116 rfl rfl ?_
  obtain ⟨r117, s117, hc117, h⟩ := hv_b2_some h
  refine g_callV (pc := 117) (σ1 := s117) (v := (some (.int (r117)))) (As := [.int (x1)]) (rest := []) C 0 (vX7_countOfBalance hc117) (cwV 1 C.1.2.2.2.2 gX7_count_X7_countOfBalance rfl rfl rfl (by decide +kernel) ⟨Nat.le_of_ble_eq_true rfl, Nat.le_of_ble_eq_true rfl⟩) (Nat.le_of_ble_eq_true rfl) rfl rfl rfl rfl (Nat.le_of_ble_eq_true rfl) dX7_count_117 ⟨Nat.zero_le _, Nat.zero_le _⟩ ?_
  refine g_st (st' := [.int (r117)]) rfl ?_
  cases h
  exact g_iret (pc := 120) C hr dX7_count_120
set_option maxHeartbeats 4000000 in
set_option maxRecDepth 20000 in
theorem vX7_count {n : Nat} {σ : hv_St} {p0 : Int32} {o : Int32 × hv_St} (h : mX7_count n σ p0 = some o) : hv_M l yX7_count wsX7_count rmX7_count D (hv_tys cy) 55 a (hv_XE a cy) [.ref (a 0), .int (p0)] σ (some (.int o.1)) o.2 := by
  refine hv_enter (own := RX7) (cc := cX7_count) (maxL := 2) (ret := (some .int)) (by decide) rfl rfl (Nat.le_of_ble_eq_true rfl) ?_
  intro p e s m args below meth c C hr
  unfold mX7_count at h
  refine g_lv [0, 1] (lv' := [(0, .ref (a 0)), (1, .int (p0))]) rfl ?_
  refine g_iload_n (pc := 0) C 1 dX7_count_0 rfl rfl ?_
  by_cases c1_0 : p0 = (0 : Int32)
  · rw [if_pos c1_0] at h
    refine g_tableIn (pc := 1) (tgt := 60) C dX7_count_1 (by rw [c1_0] <;> decide) (by rw [c1_0] <;> decide) (by rw [c1_0] <;> rfl) (by decide) ?_
    refine g_aload_n (pc := 60) C 0 dX7_count_60 rfl rfl ?_
    refine gx_get_0_0 (pc := 61) C iX7_count_X7 qX7_count_F17 dX7_count_61 ?_
    refine gx_get_1_0 (pc := 64) C iX7_count_X3 qX7_count_F62 dX7_count_64 ?_
    cases h
    exact g_iret (pc := 67) C hr dX7_count_67
  · rw [if_neg c1_0] at h
    by_cases c1_1 : p0 = (1 : Int32)
    · rw [if_pos c1_1] at h
      refine g_tableIn (pc := 1) (tgt := 68) C dX7_count_1 (by rw [c1_1] <;> decide) (by rw [c1_1] <;> decide) (by rw [c1_1] <;> rfl) (by decide) ?_
      refine g_aload_n (pc := 68) C 0 dX7_count_68 rfl rfl ?_
      refine gx_get_0_0 (pc := 69) C iX7_count_X7 qX7_count_F17 dX7_count_69 ?_
      refine gx_get_1_1 (pc := 72) C iX7_count_X3 qX7_count_F78 dX7_count_72 ?_
      cases h
      exact g_iret (pc := 75) C hr dX7_count_75
    · rw [if_neg c1_1] at h
      by_cases c1_2 : p0 = (2 : Int32)
      · rw [if_pos c1_2] at h
        refine g_tableIn (pc := 1) (tgt := 76) C dX7_count_1 (by rw [c1_2] <;> decide) (by rw [c1_2] <;> decide) (by rw [c1_2] <;> rfl) (by decide) ?_
        refine g_aload_n (pc := 76) C 0 dX7_count_76 rfl rfl ?_
        refine gx_get_0_0 (pc := 77) C iX7_count_X7 qX7_count_F17 dX7_count_77 ?_
        refine gx_get_1_2 (pc := 80) C iX7_count_X3 qX7_count_F97 dX7_count_80 ?_
        cases h
        exact g_iret (pc := 83) C hr dX7_count_83
      · rw [if_neg c1_2] at h
        by_cases c1_3 : p0 = (3 : Int32)
        · rw [if_pos c1_3] at h
          refine g_tableIn (pc := 1) (tgt := 115) C dX7_count_1 (by rw [c1_3] <;> decide) (by rw [c1_3] <;> decide) (by rw [c1_3] <;> rfl) (by decide) ?_
          exact g_lv [0, 1] rfl (bX7_count_115 C hr σ (p0) h)
        · rw [if_neg c1_3] at h
          by_cases c1_4 : p0 = (4 : Int32)
          · rw [if_pos c1_4] at h
            refine g_tableIn (pc := 1) (tgt := 115) C dX7_count_1 (by rw [c1_4] <;> decide) (by rw [c1_4] <;> decide) (by rw [c1_4] <;> rfl) (by decide) ?_
            exact g_lv [0, 1] rfl (bX7_count_115 C hr σ (p0) h)
          · rw [if_neg c1_4] at h
            by_cases c1_5 : p0 = (5 : Int32)
            · rw [if_pos c1_5] at h
              refine g_tableIn (pc := 1) (tgt := 115) C dX7_count_1 (by rw [c1_5] <;> decide) (by rw [c1_5] <;> decide) (by rw [c1_5] <;> rfl) (by decide) ?_
              exact g_lv [0, 1] rfl (bX7_count_115 C hr σ (p0) h)
            · rw [if_neg c1_5] at h
              by_cases c1_6 : p0 = (6 : Int32)
              · rw [if_pos c1_6] at h
                refine g_tableIn (pc := 1) (tgt := 115) C dX7_count_1 (by rw [c1_6] <;> decide) (by rw [c1_6] <;> decide) (by rw [c1_6] <;> rfl) (by decide) ?_
                exact g_lv [0, 1] rfl (bX7_count_115 C hr σ (p0) h)
              · rw [if_neg c1_6] at h
                by_cases c1_7 : p0 = (7 : Int32)
                · rw [if_pos c1_7] at h
                  refine g_tableIn (pc := 1) (tgt := 115) C dX7_count_1 (by rw [c1_7] <;> decide) (by rw [c1_7] <;> decide) (by rw [c1_7] <;> rfl) (by decide) ?_
                  exact g_lv [0, 1] rfl (bX7_count_115 C hr σ (p0) h)
                · rw [if_neg c1_7] at h
                  by_cases c1_8 : p0 = (8 : Int32)
                  · rw [if_pos c1_8] at h
                    refine g_tableIn (pc := 1) (tgt := 84) C dX7_count_1 (by rw [c1_8] <;> decide) (by rw [c1_8] <;> decide) (by rw [c1_8] <;> rfl) (by decide) ?_
                    refine g_aload_n (pc := 84) C 0 dX7_count_84 rfl rfl ?_
                    refine gx_get_0_5 (pc := 85) C iX7_count_X7 qX7_count_F51 dX7_count_85 ?_
                    refine gx_get_22_0 (pc := 88) C iX7_count_X6 qX7_count_F124 dX7_count_88 ?_
                    cases h
                    exact g_iret (pc := 91) C hr dX7_count_91
                  · rw [if_neg c1_8] at h
                    by_cases c1_9 : p0 = (9 : Int32)
                    · rw [if_pos c1_9] at h
                      refine g_tableIn (pc := 1) (tgt := 92) C dX7_count_1 (by rw [c1_9] <;> decide) (by rw [c1_9] <;> decide) (by rw [c1_9] <;> rfl) (by decide) ?_
                      refine g_aload_n (pc := 92) C 0 dX7_count_92 rfl rfl ?_
                      refine gx_get_0_5 (pc := 93) C iX7_count_X7 qX7_count_F51 dX7_count_93 ?_
                      refine gx_get_22_1 (pc := 96) C iX7_count_X6 qX7_count_F128 dX7_count_96 ?_
                      cases h
                      exact g_iret (pc := 99) C hr dX7_count_99
                    · rw [if_neg c1_9] at h
                      by_cases c1_10 : p0 = (10 : Int32)
                      · rw [if_pos c1_10] at h
                        refine g_tableIn (pc := 1) (tgt := 100) C dX7_count_1 (by rw [c1_10] <;> decide) (by rw [c1_10] <;> decide) (by rw [c1_10] <;> rfl) (by decide) ?_
                        refine g_aload_n (pc := 100) C 0 dX7_count_100 rfl rfl ?_
                        refine gx_get_0_3 (pc := 101) C iX7_count_X7 qX7_count_F37 dX7_count_101 ?_
                        obtain ⟨s104, hc104, h⟩ := hv_bd_some h
                        refine g_callV (pc := 104) (σ1 := s104) (v := none) (As := []) (rest := []) C 17 (vX4_follow hc104) (cwV 0 C.1.2.2.2.2 gX7_count_X4_follow rfl rfl rfl (by decide +kernel) ⟨Nat.le_of_ble_eq_true rfl, Nat.le_of_ble_eq_true rfl⟩) (Nat.le_of_ble_eq_true rfl) rfl rfl rfl rfl (Nat.le_of_ble_eq_true rfl) dX7_count_104 ⟨Nat.zero_le _, Nat.zero_le _⟩ ?_
                        refine g_st (st' := []) rfl ?_
                        refine g_aload_n (pc := 107) C 0 dX7_count_107 rfl rfl ?_
                        refine gx_get_0_3 (pc := 108) C iX7_count_X7 qX7_count_F37 dX7_count_108 ?_
                        refine gx_get_17_3 (pc := 111) C iX7_count_X4 qX7_count_F134 dX7_count_111 ?_
                        cases h
                        exact g_iret (pc := 114) C hr dX7_count_114
                      · rw [if_neg c1_10] at h
                        have nc1_0 := lv_neT c1_0 (a := 0) (by decide)
                        have nc1_1 := lv_neT c1_1 (a := 1) (by decide)
                        have nc1_2 := lv_neT c1_2 (a := 2) (by decide)
                        have nc1_3 := lv_neT c1_3 (a := 3) (by decide)
                        have nc1_4 := lv_neT c1_4 (a := 4) (by decide)
                        have nc1_5 := lv_neT c1_5 (a := 5) (by decide)
                        have nc1_6 := lv_neT c1_6 (a := 6) (by decide)
                        have nc1_7 := lv_neT c1_7 (a := 7) (by decide)
                        have nc1_8 := lv_neT c1_8 (a := 8) (by decide)
                        have nc1_9 := lv_neT c1_9 (a := 9) (by decide)
                        have nc1_10 := lv_neT c1_10 (a := 10) (by decide)
                        refine g_tableOut (pc := 1) (tgt := 115) C dX7_count_1 (by omega) (by decide) ?_
                        exact g_lv [0, 1] rfl (bX7_count_115 C hr σ (p0) h)
abbrev rmX7_bears : Room := { frames := 5, cells := 0, slots := 0, locals := 119 }
set_option maxRecDepth 20000 in
theorem qX7_bears_F21 : Cond.fieldLink RX7 21 "PinFrame" "balance" "LPinFrame$Balance;" ∈ wsX7_bears := by decide +kernel
set_option maxRecDepth 20000 in
theorem qX7_bears_F30 : Cond.fieldLink RX7 30 "PinFrame" "pulls" "LPinFrame$Pulls;" ∈ wsX7_bears := by decide +kernel
set_option maxRecDepth 20000 in
theorem iX7_bears_X7 : ∀ w ∈ u_ws RX7 TX7 7, w ∈ wsX7_bears := by decide +kernel
set_option maxHeartbeats 4000000 in
set_option maxRecDepth 20000 in
theorem vX7_bears {q : Nat} (hq : q = 3 ∨ q = 25) {n : Nat} {σ : hv_St} {p0 : Int32} {o : Int32 × hv_St} (h : mX7_bears n σ p0 q = some o) : hv_M l yX7_bears wsX7_bears rmX7_bears D (hv_tys cy) 55 a (hv_XE a cy) [.ref (a 0), .int (p0), .ref (a q)] σ (some (.int o.1)) o.2 := by
  refine hv_enter (own := RX7) (cc := cX7_bears) (maxL := 4) (ret := (some .boolean)) (by decide) rfl rfl (Nat.le_of_ble_eq_true rfl) ?_
  intro p e s m args below meth c C hr
  unfold mX7_bears at h
  refine g_lv [0, 1, 2] (lv' := [(0, .ref (a 0)), (1, .int (p0)), (2, .ref (a q))]) rfl ?_
  refine g_aload_n (pc := 0) C 0 dX7_bears_0 rfl rfl ?_
  refine gx_get_0_1 (pc := 1) C iX7_bears_X7 qX7_bears_F21 dX7_bears_1 ?_
  refine g_iload_n (pc := 4) C 1 dX7_bears_4 rfl rfl ?_
  obtain ⟨s5, hc5, h⟩ := hv_bd_some h
  refine g_callV (pc := 5) (σ1 := s5) (v := none) (As := [.int (p0)]) (rest := []) C 9 (vX0_settle hc5) (cwV 1 C.1.2.2.2.2 gX7_bears_X0_settle rfl rfl rfl (by decide +kernel) ⟨Nat.le_of_ble_eq_true rfl, Nat.le_of_ble_eq_true rfl⟩) (Nat.le_of_ble_eq_true rfl) rfl rfl rfl rfl (Nat.le_of_ble_eq_true rfl) dX7_bears_5 ⟨Nat.zero_le _, Nat.zero_le _⟩ ?_
  refine g_st (st' := []) rfl ?_
  refine g_aload_n (pc := 8) C 0 dX7_bears_8 rfl rfl ?_
  refine gx_get_0_1 (pc := 9) C iX7_bears_X7 qX7_bears_F21 dX7_bears_9 ?_
  obtain ⟨r12, s12, hc12, h⟩ := hv_b2_some h
  refine g_callV (pc := 12) (σ1 := s12) (v := (some (.int (r12)))) (As := []) (rest := []) C 9 (vX0_kindNumber hc12) (cwV 0 C.1.2.2.2.2 gX7_bears_X0_kindNumber rfl rfl rfl (by decide +kernel) ⟨Nat.le_of_ble_eq_true rfl, Nat.le_of_ble_eq_true rfl⟩) (Nat.le_of_ble_eq_true rfl) rfl rfl rfl rfl (Nat.le_of_ble_eq_true rfl) dX7_bears_12 ⟨Nat.zero_le _, Nat.zero_le _⟩ ?_
  refine g_st (st' := [.int (r12)]) rfl ?_
  refine g_istore_n (pc := 15) C (lv' := [(3, .int (r12)), (0, .ref (a 0)), (1, .int (p0)), (2, .ref (a q))]) rfl dX7_bears_15 rfl (Nat.le_of_ble_eq_true rfl) rfl ?_
  refine g_iload_n (pc := 16) C 0 dX7_bears_16 rfl rfl ?_
  refine g_if_eq (pc := 17) (tgt := 25) C dX7_bears_17 (by decide) (fun c17 => ?_) (fun c17 => ?_)
  · rw [if_pos c17] at h
    refine g_iconst (pc := 25) C (v := (0 : Int32)) dX7_bears_25 (by decide) ?_
    cases h
    exact g_zret (pc := 26) (x := (0 : Int32)) C hr (by decide) dX7_bears_26
  · rw [if_neg c17] at h
    refine g_iload_n (pc := 20) C 0 dX7_bears_20 rfl rfl ?_
    refine g_iconst (pc := 21) C (v := (4 : Int32)) dX7_bears_21 (by decide) ?_
    refine g_icmp_ne (pc := 22) (tgt := 27) C dX7_bears_22 (by decide) (fun c22 => ?_) (fun c22 => ?_)
    · rw [if_neg c22] at h
      refine g_aload_n (pc := 27) C 1 dX7_bears_27 rfl rfl ?_
      refine gx_get_0_2 (pc := 28) C iX7_bears_X7 qX7_bears_F30 dX7_bears_28 ?_
      obtain ⟨s31, hc31, h⟩ := hv_bd_some h
      refine g_callV (pc := 31) (σ1 := s31) (v := none) (As := []) (rest := []) C 13 (vX5_prepare hc31) (cwV 0 C.1.2.2.2.2 gX7_bears_X5_prepare rfl rfl rfl (by decide +kernel) ⟨Nat.le_of_ble_eq_true rfl, Nat.le_of_ble_eq_true rfl⟩) (Nat.le_of_ble_eq_true rfl) rfl rfl rfl rfl (Nat.le_of_ble_eq_true rfl) dX7_bears_31 ⟨Nat.zero_le _, Nat.zero_le _⟩ ?_
      refine g_st (st' := []) rfl ?_
      refine g_aload_n (pc := 34) C 1 dX7_bears_34 rfl rfl ?_
      refine gx_get_0_2 (pc := 35) C iX7_bears_X7 qX7_bears_F30 dX7_bears_35 ?_
      refine g_aload_n (pc := 38) C 3 dX7_bears_38 rfl rfl ?_
      obtain ⟨s39, hc39, h⟩ := hv_bd_some h
      refine g_callV (pc := 39) (σ1 := s39) (v := none) (As := [.ref (a q)]) (rest := []) C 13 (vX5_bear hq hc39) (cwV 1 C.1.2.2.2.2 gX7_bears_X5_bear rfl rfl rfl (by decide +kernel) ⟨Nat.le_of_ble_eq_true rfl, Nat.le_of_ble_eq_true rfl⟩) (Nat.le_of_ble_eq_true rfl) rfl rfl rfl rfl (Nat.le_of_ble_eq_true rfl) dX7_bears_39 ⟨Nat.zero_le _, Nat.zero_le _⟩ ?_
      refine g_st (st' := []) rfl ?_
      refine g_iconst (pc := 42) C (v := (1 : Int32)) dX7_bears_42 (by decide) ?_
      cases h
      exact g_zret (pc := 43) (x := (1 : Int32)) C hr (by decide) dX7_bears_43
    · rw [if_pos c22] at h
      refine g_iconst (pc := 25) C (v := (0 : Int32)) dX7_bears_25 (by decide) ?_
      cases h
      exact g_zret (pc := 26) (x := (0 : Int32)) C hr (by decide) dX7_bears_26
abbrev rmX7_isPainted : Room := { frames := 3, cells := 0, slots := 0, locals := 73 }
set_option maxRecDepth 20000 in
theorem qX7_isPainted_F100 : Cond.fieldLink RX7 100 "PinFrame$Frame" "strength" "[I" ∈ wsX7_isPainted := by decide +kernel
set_option maxRecDepth 20000 in
theorem qX7_isPainted_F17 : Cond.fieldLink RX7 17 "PinFrame" "frame" "LPinFrame$Frame;" ∈ wsX7_isPainted := by decide +kernel
set_option maxRecDepth 20000 in
theorem qX7_isPainted_F192 : Cond.fieldLink RX7 192 "PinFrame$Pulls" "whole" "J" ∈ wsX7_isPainted := by decide +kernel
set_option maxRecDepth 20000 in
theorem qX7_isPainted_F290 : Cond.fieldLink RX7 290 "PinFrame$Fraction" "under" "J" ∈ wsX7_isPainted := by decide +kernel
set_option maxRecDepth 20000 in
theorem qX7_isPainted_F291 : Cond.fieldLink RX7 291 "PinFrame$Fraction" "over" "J" ∈ wsX7_isPainted := by decide +kernel
set_option maxRecDepth 20000 in
theorem qX7_isPainted_F30 : Cond.fieldLink RX7 30 "PinFrame" "pulls" "LPinFrame$Pulls;" ∈ wsX7_isPainted := by decide +kernel
set_option maxRecDepth 20000 in
theorem qX7_isPainted_F58 : Cond.fieldLink RX7 58 "PinFrame" "fraction" "LPinFrame$Fraction;" ∈ wsX7_isPainted := by decide +kernel
set_option maxRecDepth 20000 in
theorem qX7_isPainted_MC249 : Cond.code Lib.MathLoose.abs_long.x Lib.MathLoose.abs_long.code 2 (some .long) ∈ wsX7_isPainted := by decide +kernel
set_option maxRecDepth 20000 in
theorem qX7_isPainted_MI249 : Cond.initialized "java/lang/Math" ∈ wsX7_isPainted := by decide +kernel
set_option maxRecDepth 20000 in
theorem qX7_isPainted_ML249 : Cond.methodLink RX7 249 Lib.MathLoose.abs_long.x ∈ wsX7_isPainted := by decide +kernel
set_option maxRecDepth 20000 in
theorem qX7_isPainted_MS249 : Cond.static Lib.MathLoose.abs_long.x ∈ wsX7_isPainted := by decide +kernel
set_option maxRecDepth 20000 in
theorem iX7_isPainted_X2 : ∀ w ∈ u_ws RX2 TX2 2, w ∈ wsX7_isPainted := by decide +kernel
set_option maxRecDepth 20000 in
theorem iX7_isPainted_X3 : ∀ w ∈ u_ws RX3 TX3 10, w ∈ wsX7_isPainted := by decide +kernel
set_option maxRecDepth 20000 in
theorem iX7_isPainted_X5 : ∀ w ∈ u_ws RX5 TX5 7, w ∈ wsX7_isPainted := by decide +kernel
set_option maxRecDepth 20000 in
theorem iX7_isPainted_X7 : ∀ w ∈ u_ws RX7 TX7 7, w ∈ wsX7_isPainted := by decide +kernel
set_option maxHeartbeats 4000000 in
set_option maxRecDepth 20000 in
theorem vX7_isPainted {n : Nat} {σ : hv_St} {p0 : Int32} {p1 : Int32} {o : Int32 × hv_St} (h : mX7_isPainted n σ p0 p1 = some o) : hv_M l yX7_isPainted wsX7_isPainted rmX7_isPainted D (hv_tys cy) 55 a (hv_XE a cy) [.ref (a 0), .int (p0), .int (p1)] σ (some (.int o.1)) o.2 := by
  refine hv_enter (own := RX7) (cc := cX7_isPainted) (maxL := 3) (ret := (some .boolean)) (by decide) rfl rfl (Nat.le_of_ble_eq_true rfl) ?_
  intro p e s m args below meth c C hr
  unfold mX7_isPainted at h
  refine g_lv [0, 1, 2] (lv' := [(0, .ref (a 0)), (1, .int (p0)), (2, .int (p1))]) rfl ?_
  refine g_aload_n (pc := 0) C 0 dX7_isPainted_0 rfl rfl ?_
  refine gx_get_0_6 (pc := 1) C iX7_isPainted_X7 qX7_isPainted_F58 dX7_isPainted_1 ?_
  refine g_aload_n (pc := 4) C 0 dX7_isPainted_4 rfl rfl ?_
  refine gx_get_0_2 (pc := 5) C iX7_isPainted_X7 qX7_isPainted_F30 dX7_isPainted_5 ?_
  refine g_iload_n (pc := 8) C 1 dX7_isPainted_8 rfl rfl ?_
  obtain ⟨r9, s9, hc9, h⟩ := hv_b2_some h
  refine g_callV (pc := 9) (σ1 := s9) (v := (some (.long (r9)))) (As := [.int (p0)]) (rest := [.ref (a 26)]) C 13 (vX5_overOf hc9) (cwV 1 C.1.2.2.2.2 gX7_isPainted_X5_overOf rfl rfl rfl (by decide +kernel) ⟨Nat.le_of_ble_eq_true rfl, Nat.le_of_ble_eq_true rfl⟩) (Nat.le_of_ble_eq_true rfl) rfl rfl rfl rfl (Nat.le_of_ble_eq_true rfl) dX7_isPainted_9 ⟨Nat.zero_le _, Nat.zero_le _⟩ ?_
  refine g_st (st' := [.long (r9), .ref (a 26)]) rfl ?_
  refine g_aload_n (pc := 12) C 0 dX7_isPainted_12 rfl rfl ?_
  refine gx_get_0_2 (pc := 13) C iX7_isPainted_X7 qX7_isPainted_F30 dX7_isPainted_13 ?_
  refine gx_get_13_6 (pc := 16) C iX7_isPainted_X5 qX7_isPainted_F192 dX7_isPainted_16 ?_
  obtain ⟨s19, hc19, h⟩ := hv_bd_some h
  refine g_callV (pc := 19) (σ1 := s19) (v := none) (As := [.long (r9), .long (s9.2 13 6)]) (rest := []) C 26 (vX2_reduce hc19) (cwV 2 C.1.2.2.2.2 gX7_isPainted_X2_reduce rfl rfl rfl (by decide +kernel) ⟨Nat.le_of_ble_eq_true rfl, Nat.le_of_ble_eq_true rfl⟩) (Nat.le_of_ble_eq_true rfl) rfl rfl rfl rfl (Nat.le_of_ble_eq_true rfl) dX7_isPainted_19 ⟨Nat.zero_le _, Nat.zero_le _⟩ ?_
  refine g_st (st' := []) rfl ?_
  refine g_iload_n (pc := 22) C 2 dX7_isPainted_22 rfl rfl ?_
  by_cases c23_m1 : p1 = (-1 : Int32)
  · rw [if_pos c23_m1] at h
    refine g_tableIn (pc := 23) (tgt := 66) C dX7_isPainted_23 (by rw [c23_m1] <;> decide) (by rw [c23_m1] <;> decide) (by rw [c23_m1] <;> rfl) (by decide) ?_
    refine g_aload_n (pc := 66) C 0 dX7_isPainted_66 rfl rfl ?_
    refine gx_get_0_6 (pc := 67) C iX7_isPainted_X7 qX7_isPainted_F58 dX7_isPainted_67 ?_
    refine gx_get_26_0 (pc := 70) C iX7_isPainted_X2 qX7_isPainted_F291 dX7_isPainted_70 ?_
    refine g_lconst (pc := 73) C (v := (0 : Int64)) dX7_isPainted_73 (by decide) ?_
    refine g_lcmp (pc := 74) C dX7_isPainted_74 ?_
    refine g_if_ge (pc := 75) (tgt := 82) C dX7_isPainted_75 (by decide) (fun c75 => ?_) (fun c75 => ?_)
    · rw [if_pos c75] at h
      refine g_iconst (pc := 82) C (v := (0 : Int32)) dX7_isPainted_82 (by decide) ?_
      cases h
      exact g_zret (pc := 83) (x := (0 : Int32)) C hr (by decide) dX7_isPainted_83
    · rw [if_neg c75] at h
      refine g_iconst (pc := 78) C (v := (1 : Int32)) dX7_isPainted_78 (by decide) ?_
      refine g_goto (pc := 79) C (tgt := 83) dX7_isPainted_79 (by decide) ?_
      cases h
      exact g_zret (pc := 83) (x := (1 : Int32)) C hr (by decide) dX7_isPainted_83
  · rw [if_neg c23_m1] at h
    by_cases c23_0 : p1 = (0 : Int32)
    · rw [if_pos c23_0] at h
      refine g_tableIn (pc := 23) (tgt := 84) C dX7_isPainted_23 (by rw [c23_0] <;> decide) (by rw [c23_0] <;> decide) (by rw [c23_0] <;> rfl) (by decide) ?_
      refine g_aload_n (pc := 84) C 0 dX7_isPainted_84 rfl rfl ?_
      refine gx_get_0_6 (pc := 85) C iX7_isPainted_X7 qX7_isPainted_F58 dX7_isPainted_85 ?_
      refine gx_get_26_0 (pc := 88) C iX7_isPainted_X2 qX7_isPainted_F291 dX7_isPainted_88 ?_
      refine g_lconst (pc := 91) C (v := (0 : Int64)) dX7_isPainted_91 (by decide) ?_
      refine g_lcmp (pc := 92) C dX7_isPainted_92 ?_
      refine g_if_ne (pc := 93) (tgt := 100) C dX7_isPainted_93 (by decide) (fun c93 => ?_) (fun c93 => ?_)
      · rw [if_neg c93] at h
        refine g_iconst (pc := 100) C (v := (0 : Int32)) dX7_isPainted_100 (by decide) ?_
        cases h
        exact g_zret (pc := 101) (x := (0 : Int32)) C hr (by decide) dX7_isPainted_101
      · rw [if_pos c93] at h
        refine g_iconst (pc := 96) C (v := (1 : Int32)) dX7_isPainted_96 (by decide) ?_
        refine g_goto (pc := 97) C (tgt := 101) dX7_isPainted_97 (by decide) ?_
        cases h
        exact g_zret (pc := 101) (x := (1 : Int32)) C hr (by decide) dX7_isPainted_101
    · rw [if_neg c23_0] at h
      by_cases c23_1 : p1 = (1 : Int32)
      · rw [if_pos c23_1] at h
        refine g_tableIn (pc := 23) (tgt := 48) C dX7_isPainted_23 (by rw [c23_1] <;> decide) (by rw [c23_1] <;> decide) (by rw [c23_1] <;> rfl) (by decide) ?_
        refine g_aload_n (pc := 48) C 0 dX7_isPainted_48 rfl rfl ?_
        refine gx_get_0_6 (pc := 49) C iX7_isPainted_X7 qX7_isPainted_F58 dX7_isPainted_49 ?_
        refine gx_get_26_0 (pc := 52) C iX7_isPainted_X2 qX7_isPainted_F291 dX7_isPainted_52 ?_
        refine g_lconst (pc := 55) C (v := (0 : Int64)) dX7_isPainted_55 (by decide) ?_
        refine g_lcmp (pc := 56) C dX7_isPainted_56 ?_
        refine g_if_le (pc := 57) (tgt := 64) C dX7_isPainted_57 (by decide) (fun c57 => ?_) (fun c57 => ?_)
        · rw [if_pos c57] at h
          refine g_iconst (pc := 64) C (v := (0 : Int32)) dX7_isPainted_64 (by decide) ?_
          cases h
          exact g_zret (pc := 65) (x := (0 : Int32)) C hr (by decide) dX7_isPainted_65
        · rw [if_neg c57] at h
          refine g_iconst (pc := 60) C (v := (1 : Int32)) dX7_isPainted_60 (by decide) ?_
          refine g_goto (pc := 61) C (tgt := 65) dX7_isPainted_61 (by decide) ?_
          cases h
          exact g_zret (pc := 65) (x := (1 : Int32)) C hr (by decide) dX7_isPainted_65
      · rw [if_neg c23_1] at h
        have nc23_m1 := lv_neT c23_m1 (a := -1) (by decide)
        have nc23_0 := lv_neT c23_0 (a := 0) (by decide)
        have nc23_1 := lv_neT c23_1 (a := 1) (by decide)
        refine g_tableOut (pc := 23) (tgt := 102) C dX7_isPainted_23 (by omega) (by decide) ?_
        refine g_aload_n (pc := 102) C 0 dX7_isPainted_102 rfl rfl ?_
        refine gx_get_0_6 (pc := 103) C iX7_isPainted_X7 qX7_isPainted_F58 dX7_isPainted_103 ?_
        refine gx_get_26_0 (pc := 106) C iX7_isPainted_X2 qX7_isPainted_F291 dX7_isPainted_106 ?_
        refine g_mabsL (pc := 109) C qX7_isPainted_ML249 qX7_isPainted_MS249 qX7_isPainted_MI249 qX7_isPainted_MC249 (Nat.le_of_ble_eq_true rfl) (Nat.le_of_ble_eq_true rfl) ⟨Nat.zero_le _, Nat.zero_le _⟩ dX7_isPainted_109 ?_
        obtain ⟨y_109, ey_109, h⟩ := hv_let_some h
        rw [← ey_109]
        refine g_aload_n (pc := 112) C 0 dX7_isPainted_112 rfl rfl ?_
        refine gx_get_0_0 (pc := 113) C iX7_isPainted_X7 qX7_isPainted_F17 dX7_isPainted_113 ?_
        refine gx_get_1_9 (pc := 116) C iX7_isPainted_X3 qX7_isPainted_F100 dX7_isPainted_116 ?_
        refine g_iload_n (pc := 119) C 1 dX7_isPainted_119 rfl rfl ?_
        obtain ⟨k120, h⟩ := hv_if_some h
        refine gx_ld_8 (pc := 120) C k120 dX7_isPainted_120 ?_
        refine g_i2l (pc := 121) C dX7_isPainted_121 ?_
        refine g_aload_n (pc := 122) C 0 dX7_isPainted_122 rfl rfl ?_
        refine gx_get_0_6 (pc := 123) C iX7_isPainted_X7 qX7_isPainted_F58 dX7_isPainted_123 ?_
        refine gx_get_26_1 (pc := 126) C iX7_isPainted_X2 qX7_isPainted_F290 dX7_isPainted_126 ?_
        refine g_lmul (pc := 129) C dX7_isPainted_129 ?_
        refine g_lcmp (pc := 130) C dX7_isPainted_130 ?_
        refine g_if_le (pc := 131) (tgt := 138) C dX7_isPainted_131 (by decide) (fun c131 => ?_) (fun c131 => ?_)
        · rw [if_pos c131] at h
          refine g_iconst (pc := 138) C (v := (0 : Int32)) dX7_isPainted_138 (by decide) ?_
          cases h
          exact g_zret (pc := 139) (x := (0 : Int32)) C hr (by decide) dX7_isPainted_139
        · rw [if_neg c131] at h
          refine g_iconst (pc := 134) C (v := (1 : Int32)) dX7_isPainted_134 (by decide) ?_
          refine g_goto (pc := 135) C (tgt := 139) dX7_isPainted_135 (by decide) ?_
          cases h
          exact g_zret (pc := 139) (x := (1 : Int32)) C hr (by decide) dX7_isPainted_139
abbrev rmX7_painted : Room := { frames := 6, cells := 0, slots := 0, locals := 142 }
set_option maxRecDepth 20000 in
theorem qX7_painted_F117 : Cond.fieldLink RX7 117 "PinFrame$Frame" "loads" "[I" ∈ wsX7_painted := by decide +kernel
set_option maxRecDepth 20000 in
theorem qX7_painted_F17 : Cond.fieldLink RX7 17 "PinFrame" "frame" "LPinFrame$Frame;" ∈ wsX7_painted := by decide +kernel
set_option maxRecDepth 20000 in
theorem qX7_painted_F78 : Cond.fieldLink RX7 78 "PinFrame$Frame" "bars" "I" ∈ wsX7_painted := by decide +kernel
set_option maxRecDepth 20000 in
theorem qX7_painted_F97 : Cond.fieldLink RX7 97 "PinFrame$Frame" "on" "I" ∈ wsX7_painted := by decide +kernel
set_option maxRecDepth 20000 in
theorem iX7_painted_X3 : ∀ w ∈ u_ws RX3 TX3 10, w ∈ wsX7_painted := by decide +kernel
set_option maxRecDepth 20000 in
theorem iX7_painted_X7 : ∀ w ∈ u_ws RX7 TX7 7, w ∈ wsX7_painted := by decide +kernel
set_option maxHeartbeats 4000000 in
set_option maxRecDepth 20000 in
theorem bX7_painted_74 (C : hv_C p s m args meth c cX7_painted 4 wsX7_painted RX7 D (hv_tys cy)) (hr : meth.sig.returnType = (some .int)) {n : Nat} {o : Int32 × hv_St} {r37 : hv_St → Int32 → Int32 → Int32 → Option (Int32 × hv_St)} (hr37 : ∀ (σ : hv_St) (x1 : Int32) (x2 : Int32) (x3 : Int32), r37 σ x1 x2 x3 = some o → hv_G p l e (headSpec wsX7_painted rmX7_painted).room s m args below meth c 4 D 55 a (hv_XE a cy) 0 0 (hv_MQ D 55 a (hv_XE a cy) below args s (some (.int o.1)) o.2) σ 37 [(0, .ref (a 0)), (1, .int (x1)), (2, .int (x2)), (3, .int (x3))] []) : ∀ (σ : hv_St) (x1 : Int32) (x2 : Int32) (x3 : Int32), kX7_painted_74 n r37 σ x1 x2 x3 = some o → hv_G p l e (headSpec wsX7_painted rmX7_painted).room s m args below meth c 4 D 55 a (hv_XE a cy) 0 0 (hv_MQ D 55 a (hv_XE a cy) below args s (some (.int o.1)) o.2) σ 74 [(0, .ref (a 0)), (1, .int (x1)), (2, .int (x2)), (3, .int (x3))] [] := by
  intro σ x1 x2 x3 h
  unfold kX7_painted_74 at h
  refine g_iinc (pc := 74) C 3 (v := x3 + 1) (lv' := [(3, .int (x3 + 1)), (0, .ref (a 0)), (1, .int (x1)), (2, .int (x2))]) dX7_painted_74 rfl rfl (Nat.le_of_ble_eq_true rfl) rfl ?_
  refine g_goto (pc := 77) C (tgt := 37) dX7_painted_77 (by decide) ?_
  exact g_lv [1, 2, 3, 0] rfl (hr37 σ (x1) (x2) (x3 + 1) h)
set_option maxHeartbeats 4000000 in
set_option maxRecDepth 20000 in
theorem bX7_painted_37 (C : hv_C p s m args meth c cX7_painted 4 wsX7_painted RX7 D (hv_tys cy)) (hr : meth.sig.returnType = (some .int)) {n : Nat} {o : Int32 × hv_St} : ∀ (i : Nat) (σ : hv_St) (x1 : Int32) (x2 : Int32) (x3 : Int32), kX7_painted_37 n i σ x1 x2 x3 = some o → hv_G p l e (headSpec wsX7_painted rmX7_painted).room s m args below meth c 4 D 55 a (hv_XE a cy) 0 0 (hv_MQ D 55 a (hv_XE a cy) below args s (some (.int o.1)) o.2) σ 37 [(0, .ref (a 0)), (1, .int (x1)), (2, .int (x2)), (3, .int (x3))] [] := by
  intro i
  induction i with
  | zero =>
    intro σ x1 x2 x3 h
    cases h
  | succ i ih =>
    intro σ x1 x2 x3 h
    generalize hg : kX7_painted_37 n i = r37 at ih
    have hr37 := ih
    replace h : kX7_painted_37_b n r37 σ x1 x2 x3 = some o := by rw [← hg]; exact h
    unfold kX7_painted_37_b at h
    refine g_iload_n (pc := 37) C 3 dX7_painted_37 rfl rfl ?_
    refine g_aload_n (pc := 38) C 0 dX7_painted_38 rfl rfl ?_
    refine gx_get_0_0 (pc := 39) C iX7_painted_X7 qX7_painted_F17 dX7_painted_39 ?_
    refine gx_get_1_1 (pc := 42) C iX7_painted_X3 qX7_painted_F78 dX7_painted_42 ?_
    refine g_icmp_ge (pc := 45) (tgt := 80) C dX7_painted_45 (by decide) (fun c45 => ?_) (fun c45 => ?_)
    · rw [if_pos c45] at h
      refine g_iload_n (pc := 80) C 2 dX7_painted_80 rfl rfl ?_
      cases h
      exact g_iret (pc := 81) C hr dX7_painted_81
    · rw [if_neg c45] at h
      refine g_aload_n (pc := 48) C 0 dX7_painted_48 rfl rfl ?_
      refine gx_get_0_0 (pc := 49) C iX7_painted_X7 qX7_painted_F17 dX7_painted_49 ?_
      refine g_iload_n (pc := 52) C 3 dX7_painted_52 rfl rfl ?_
      obtain ⟨r53, s53, hc53, h⟩ := hv_b2_some h
      refine g_callV (pc := 53) (σ1 := s53) (v := (some (.int (r53)))) (As := [.int (x3)]) (rest := []) C 1 (vX3_isOn hc53) (cwV 1 C.1.2.2.2.2 gX7_painted_X3_isOn rfl rfl rfl (by decide +kernel) ⟨Nat.le_of_ble_eq_true rfl, Nat.le_of_ble_eq_true rfl⟩) (Nat.le_of_ble_eq_true rfl) rfl rfl rfl rfl (Nat.le_of_ble_eq_true rfl) dX7_painted_53 ⟨Nat.zero_le _, Nat.zero_le _⟩ ?_
      refine g_st (st' := [.int (r53)]) rfl ?_
      refine g_if_eq (pc := 56) (tgt := 74) C dX7_painted_56 (by decide) (fun c56 => ?_) (fun c56 => ?_)
      · rw [if_pos c56] at h
        exact g_lv [0, 1, 2, 3] rfl (bX7_painted_74 C hr hr37 s53 (x1) (x2) (x3) h)
      · rw [if_neg c56] at h
        refine g_aload_n (pc := 59) C 0 dX7_painted_59 rfl rfl ?_
        refine g_iload_n (pc := 60) C 3 dX7_painted_60 rfl rfl ?_
        refine g_iload_n (pc := 61) C 1 dX7_painted_61 rfl rfl ?_
        obtain ⟨r62, s62, hc62, h⟩ := hv_b2_some h
        refine g_callV (pc := 62) (σ1 := s62) (v := (some (.int (r62)))) (As := [.int (x3), .int (x1)]) (rest := []) C 0 (vX7_isPainted hc62) (cwV 2 C.1.2.2.2.2 gX7_painted_X7_isPainted rfl rfl rfl (by decide +kernel) ⟨Nat.le_of_ble_eq_true rfl, Nat.le_of_ble_eq_true rfl⟩) (Nat.le_of_ble_eq_true rfl) rfl rfl rfl rfl (Nat.le_of_ble_eq_true rfl) dX7_painted_62 ⟨Nat.zero_le _, Nat.zero_le _⟩ ?_
        refine g_st (st' := [.int (r62)]) rfl ?_
        refine g_if_eq (pc := 65) (tgt := 74) C dX7_painted_65 (by decide) (fun c65 => ?_) (fun c65 => ?_)
        · rw [if_pos c65] at h
          exact g_lv [0, 1, 2, 3] rfl (bX7_painted_74 C hr hr37 s62 (x1) (x2) (x3) h)
        · rw [if_neg c65] at h
          refine g_iload_n (pc := 68) C 2 dX7_painted_68 rfl rfl ?_
          refine g_iconst (pc := 69) C (v := (1 : Int32)) dX7_painted_69 (by decide) ?_
          refine g_iload_n (pc := 70) C 3 dX7_painted_70 rfl rfl ?_
          refine g_ishl (pc := 71) C dX7_painted_71 ?_
          refine g_ior (pc := 72) C dX7_painted_72 ?_
          obtain ⟨y2_73, ey2_73, h⟩ := hv_let_some h
          refine g_istore_n (pc := 73) C (lv' := [(2, .int (y2_73)), (0, .ref (a 0)), (1, .int (x1)), (3, .int (x3))]) ey2_73 dX7_painted_73 rfl (Nat.le_of_ble_eq_true rfl) rfl ?_
          exact g_lv [1, 2, 0, 3] rfl (bX7_painted_74 C hr hr37 s62 (x1) (y2_73) (x3) h)
set_option maxHeartbeats 4000000 in
set_option maxRecDepth 20000 in
theorem vX7_painted {n : Nat} {σ : hv_St} {p0 : Int32} {o : Int32 × hv_St} (h : mX7_painted n σ p0 = some o) : hv_M l yX7_painted wsX7_painted rmX7_painted D (hv_tys cy) 55 a (hv_XE a cy) [.ref (a 0), .int (p0)] σ (some (.int o.1)) o.2 := by
  refine hv_enter (own := RX7) (cc := cX7_painted) (maxL := 4) (ret := (some .int)) (by decide) rfl rfl (Nat.le_of_ble_eq_true rfl) ?_
  intro p e s m args below meth c C hr
  unfold mX7_painted at h
  refine g_lv [0, 1] (lv' := [(0, .ref (a 0)), (1, .int (p0))]) rfl ?_
  refine g_iload_n (pc := 0) C 1 dX7_painted_0 rfl rfl ?_
  refine g_iconst (pc := 1) C (v := (-1 : Int32)) dX7_painted_1 (by decide) ?_
  refine g_icmp_lt (pc := 2) (tgt := 31) C dX7_painted_2 (by decide) (fun c2 => ?_) (fun c2 => ?_)
  · rw [if_pos c2] at h
    refine g_iconst (pc := 31) C (v := (-1 : Int32)) dX7_painted_31 (by decide) ?_
    cases h
    exact g_iret (pc := 32) C hr dX7_painted_32
  · rw [if_neg c2] at h
    refine g_iload_n (pc := 5) C 1 dX7_painted_5 rfl rfl ?_
    refine g_iconst (pc := 6) C (v := (2 : Int32)) dX7_painted_6 (by decide) ?_
    refine g_icmp_gt (pc := 7) (tgt := 31) C dX7_painted_7 (by decide) (fun c7 => ?_) (fun c7 => ?_)
    · rw [if_pos c7] at h
      refine g_iconst (pc := 31) C (v := (-1 : Int32)) dX7_painted_31 (by decide) ?_
      cases h
      exact g_iret (pc := 32) C hr dX7_painted_32
    · rw [if_neg c7] at h
      refine g_aload_n (pc := 10) C 0 dX7_painted_10 rfl rfl ?_
      refine g_aload_n (pc := 11) C 0 dX7_painted_11 rfl rfl ?_
      refine gx_get_0_0 (pc := 12) C iX7_painted_X7 qX7_painted_F17 dX7_painted_12 ?_
      refine gx_get_1_2 (pc := 15) C iX7_painted_X3 qX7_painted_F97 dX7_painted_15 ?_
      refine g_aload_n (pc := 18) C 0 dX7_painted_18 rfl rfl ?_
      refine gx_get_0_0 (pc := 19) C iX7_painted_X7 qX7_painted_F17 dX7_painted_19 ?_
      refine gx_get_1_4 (pc := 22) C iX7_painted_X3 qX7_painted_F117 dX7_painted_22 ?_
      obtain ⟨r25, s25, hc25, h⟩ := hv_b2_some h
      refine g_callV (pc := 25) (σ1 := s25) (v := (some (.int (r25)))) (As := [.int (σ.1 1 2), .ref (a 3)]) (rest := []) C 0 (vX7_bears (Or.inl rfl) hc25) (cwV 2 C.1.2.2.2.2 gX7_painted_X7_bears rfl rfl rfl (by decide +kernel) ⟨Nat.le_of_ble_eq_true rfl, Nat.le_of_ble_eq_true rfl⟩) (Nat.le_of_ble_eq_true rfl) rfl rfl rfl rfl (Nat.le_of_ble_eq_true rfl) dX7_painted_25 ⟨Nat.zero_le _, Nat.zero_le _⟩ ?_
      refine g_st (st' := [.int (r25)]) rfl ?_
      refine g_if_ne (pc := 28) (tgt := 33) C dX7_painted_28 (by decide) (fun c28 => ?_) (fun c28 => ?_)
      · rw [if_neg c28] at h
        refine g_iconst (pc := 33) C (v := (0 : Int32)) dX7_painted_33 (by decide) ?_
        refine g_istore_n (pc := 34) C (lv' := [(2, .int ((0 : Int32))), (0, .ref (a 0)), (1, .int (p0))]) rfl dX7_painted_34 rfl (Nat.le_of_ble_eq_true rfl) rfl ?_
        refine g_iconst (pc := 35) C (v := (0 : Int32)) dX7_painted_35 (by decide) ?_
        refine g_istore_n (pc := 36) C (lv' := [(3, .int ((0 : Int32))), (2, .int ((0 : Int32))), (0, .ref (a 0)), (1, .int (p0))]) rfl dX7_painted_36 rfl (Nat.le_of_ble_eq_true rfl) rfl ?_
        exact g_lv [2, 3, 1, 0] rfl (bX7_painted_37 C hr n s25 (p0) ((0 : Int32)) ((0 : Int32)) h)
      · rw [if_pos c28] at h
        refine g_iconst (pc := 31) C (v := (-1 : Int32)) dX7_painted_31 (by decide) ?_
        cases h
        exact g_iret (pc := 32) C hr dX7_painted_32
abbrev rmX7_timesOf : Room := { frames := 3, cells := 0, slots := 0, locals := 73 }
set_option maxRecDepth 20000 in
theorem qX7_timesOf_F100 : Cond.fieldLink RX7 100 "PinFrame$Frame" "strength" "[I" ∈ wsX7_timesOf := by decide +kernel
set_option maxRecDepth 20000 in
theorem qX7_timesOf_F17 : Cond.fieldLink RX7 17 "PinFrame" "frame" "LPinFrame$Frame;" ∈ wsX7_timesOf := by decide +kernel
set_option maxRecDepth 20000 in
theorem qX7_timesOf_F192 : Cond.fieldLink RX7 192 "PinFrame$Pulls" "whole" "J" ∈ wsX7_timesOf := by decide +kernel
set_option maxRecDepth 20000 in
theorem qX7_timesOf_F290 : Cond.fieldLink RX7 290 "PinFrame$Fraction" "under" "J" ∈ wsX7_timesOf := by decide +kernel
set_option maxRecDepth 20000 in
theorem qX7_timesOf_F291 : Cond.fieldLink RX7 291 "PinFrame$Fraction" "over" "J" ∈ wsX7_timesOf := by decide +kernel
set_option maxRecDepth 20000 in
theorem qX7_timesOf_F30 : Cond.fieldLink RX7 30 "PinFrame" "pulls" "LPinFrame$Pulls;" ∈ wsX7_timesOf := by decide +kernel
set_option maxRecDepth 20000 in
theorem qX7_timesOf_F58 : Cond.fieldLink RX7 58 "PinFrame" "fraction" "LPinFrame$Fraction;" ∈ wsX7_timesOf := by decide +kernel
set_option maxRecDepth 20000 in
theorem qX7_timesOf_L226 : Cond.constantLong RX7 226 (999) ∈ wsX7_timesOf := by decide +kernel
set_option maxRecDepth 20000 in
theorem qX7_timesOf_MC249 : Cond.code Lib.MathLoose.abs_long.x Lib.MathLoose.abs_long.code 2 (some .long) ∈ wsX7_timesOf := by decide +kernel
set_option maxRecDepth 20000 in
theorem qX7_timesOf_MI249 : Cond.initialized "java/lang/Math" ∈ wsX7_timesOf := by decide +kernel
set_option maxRecDepth 20000 in
theorem qX7_timesOf_ML249 : Cond.methodLink RX7 249 Lib.MathLoose.abs_long.x ∈ wsX7_timesOf := by decide +kernel
set_option maxRecDepth 20000 in
theorem qX7_timesOf_MS249 : Cond.static Lib.MathLoose.abs_long.x ∈ wsX7_timesOf := by decide +kernel
set_option maxRecDepth 20000 in
theorem iX7_timesOf_X2 : ∀ w ∈ u_ws RX2 TX2 2, w ∈ wsX7_timesOf := by decide +kernel
set_option maxRecDepth 20000 in
theorem iX7_timesOf_X3 : ∀ w ∈ u_ws RX3 TX3 10, w ∈ wsX7_timesOf := by decide +kernel
set_option maxRecDepth 20000 in
theorem iX7_timesOf_X5 : ∀ w ∈ u_ws RX5 TX5 7, w ∈ wsX7_timesOf := by decide +kernel
set_option maxRecDepth 20000 in
theorem iX7_timesOf_X7 : ∀ w ∈ u_ws RX7 TX7 7, w ∈ wsX7_timesOf := by decide +kernel
set_option maxHeartbeats 4000000 in
set_option maxRecDepth 20000 in
theorem vX7_timesOf {n : Nat} {σ : hv_St} {p0 : Int32} {o : Int64 × hv_St} (h : mX7_timesOf n σ p0 = some o) : hv_M l yX7_timesOf wsX7_timesOf rmX7_timesOf D (hv_tys cy) 55 a (hv_XE a cy) [.ref (a 0), .int (p0)] σ (some (.long o.1)) o.2 := by
  refine hv_enter (own := RX7) (cc := cX7_timesOf) (maxL := 4) (ret := (some .long)) (by decide) rfl rfl (Nat.le_of_ble_eq_true rfl) ?_
  intro p e s m args below meth c C hr
  unfold mX7_timesOf at h
  refine g_lv [0, 1] (lv' := [(0, .ref (a 0)), (1, .int (p0))]) rfl ?_
  refine g_aload_n (pc := 0) C 0 dX7_timesOf_0 rfl rfl ?_
  refine gx_get_0_6 (pc := 1) C iX7_timesOf_X7 qX7_timesOf_F58 dX7_timesOf_1 ?_
  refine g_aload_n (pc := 4) C 0 dX7_timesOf_4 rfl rfl ?_
  refine gx_get_0_2 (pc := 5) C iX7_timesOf_X7 qX7_timesOf_F30 dX7_timesOf_5 ?_
  refine g_iload_n (pc := 8) C 1 dX7_timesOf_8 rfl rfl ?_
  obtain ⟨r9, s9, hc9, h⟩ := hv_b2_some h
  refine g_callV (pc := 9) (σ1 := s9) (v := (some (.long (r9)))) (As := [.int (p0)]) (rest := [.ref (a 26)]) C 13 (vX5_overOf hc9) (cwV 1 C.1.2.2.2.2 gX7_timesOf_X5_overOf rfl rfl rfl (by decide +kernel) ⟨Nat.le_of_ble_eq_true rfl, Nat.le_of_ble_eq_true rfl⟩) (Nat.le_of_ble_eq_true rfl) rfl rfl rfl rfl (Nat.le_of_ble_eq_true rfl) dX7_timesOf_9 ⟨Nat.zero_le _, Nat.zero_le _⟩ ?_
  refine g_st (st' := [.long (r9), .ref (a 26)]) rfl ?_
  refine g_aload_n (pc := 12) C 0 dX7_timesOf_12 rfl rfl ?_
  refine gx_get_0_2 (pc := 13) C iX7_timesOf_X7 qX7_timesOf_F30 dX7_timesOf_13 ?_
  refine gx_get_13_6 (pc := 16) C iX7_timesOf_X5 qX7_timesOf_F192 dX7_timesOf_16 ?_
  obtain ⟨s19, hc19, h⟩ := hv_bd_some h
  refine g_callV (pc := 19) (σ1 := s19) (v := none) (As := [.long (r9), .long (s9.2 13 6)]) (rest := []) C 26 (vX2_reduce hc19) (cwV 2 C.1.2.2.2.2 gX7_timesOf_X2_reduce rfl rfl rfl (by decide +kernel) ⟨Nat.le_of_ble_eq_true rfl, Nat.le_of_ble_eq_true rfl⟩) (Nat.le_of_ble_eq_true rfl) rfl rfl rfl rfl (Nat.le_of_ble_eq_true rfl) dX7_timesOf_19 ⟨Nat.zero_le _, Nat.zero_le _⟩ ?_
  refine g_st (st' := []) rfl ?_
  refine g_aload_n (pc := 22) C 0 dX7_timesOf_22 rfl rfl ?_
  refine gx_get_0_6 (pc := 23) C iX7_timesOf_X7 qX7_timesOf_F58 dX7_timesOf_23 ?_
  refine gx_get_26_0 (pc := 26) C iX7_timesOf_X2 qX7_timesOf_F291 dX7_timesOf_26 ?_
  refine g_mabsL (pc := 29) C qX7_timesOf_ML249 qX7_timesOf_MS249 qX7_timesOf_MI249 qX7_timesOf_MC249 (Nat.le_of_ble_eq_true rfl) (Nat.le_of_ble_eq_true rfl) ⟨Nat.zero_le _, Nat.zero_le _⟩ dX7_timesOf_29 ?_
  obtain ⟨y_29, ey_29, h⟩ := hv_let_some h
  rw [← ey_29]
  refine g_aload_n (pc := 32) C 0 dX7_timesOf_32 rfl rfl ?_
  refine gx_get_0_6 (pc := 33) C iX7_timesOf_X7 qX7_timesOf_F58 dX7_timesOf_33 ?_
  refine gx_get_26_1 (pc := 36) C iX7_timesOf_X2 qX7_timesOf_F290 dX7_timesOf_36 ?_
  refine g_ladd (pc := 39) C dX7_timesOf_39 ?_
  refine g_lconst (pc := 40) C (v := (1 : Int64)) dX7_timesOf_40 (by decide) ?_
  refine g_lsub (pc := 41) C dX7_timesOf_41 ?_
  refine g_aload_n (pc := 42) C 0 dX7_timesOf_42 rfl rfl ?_
  refine gx_get_0_6 (pc := 43) C iX7_timesOf_X7 qX7_timesOf_F58 dX7_timesOf_43 ?_
  refine gx_get_26_1 (pc := 46) C iX7_timesOf_X2 qX7_timesOf_F290 dX7_timesOf_46 ?_
  obtain ⟨r49, s49, hc49, h⟩ := hv_b2_some h
  refine g_callS (pc := 49) (σ1 := s49) (v := (some (.long (r49)))) (As := [.long (((y_29) + (s19.2 26 1)) - ((1 : Int64))), .long (s19.2 26 1)]) (rest := []) C (vX7_quotient hc49) (va_cwS 2 C.1.2.2.2.2 gX7_timesOf_X7_quotient rfl rfl rfl (by decide +kernel) ⟨Nat.le_of_ble_eq_true rfl, Nat.le_of_ble_eq_true rfl⟩) rfl rfl (Nat.le_of_ble_eq_true rfl) dX7_timesOf_49 ⟨Nat.zero_le _, Nat.zero_le _⟩ ?_
  refine g_st (st' := [.long (r49)]) rfl ?_
  refine g_lstore_n (pc := 52) C (lv' := [(2, .long (r49)), (0, .ref (a 0)), (1, .int (p0))]) rfl dX7_timesOf_52 rfl (Nat.le_of_ble_eq_true rfl) rfl ?_
  refine g_lload_n (pc := 53) C 0 dX7_timesOf_53 rfl rfl ?_
  refine g_lconst (pc := 54) C (v := (0 : Int64)) dX7_timesOf_54 (by decide) ?_
  refine g_lcmp (pc := 55) C dX7_timesOf_55 ?_
  refine g_if_ne (pc := 56) (tgt := 65) C dX7_timesOf_56 (by decide) (fun c56 => ?_) (fun c56 => ?_)
  · rw [if_neg c56] at h
    refine g_aload_n (pc := 65) C 1 dX7_timesOf_65 rfl rfl ?_
    refine gx_get_0_0 (pc := 66) C iX7_timesOf_X7 qX7_timesOf_F17 dX7_timesOf_66 ?_
    refine gx_get_1_9 (pc := 69) C iX7_timesOf_X3 qX7_timesOf_F100 dX7_timesOf_69 ?_
    refine g_iload_n (pc := 72) C 2 dX7_timesOf_72 rfl rfl ?_
    obtain ⟨k73, h⟩ := hv_if_some h
    refine gx_ld_8 (pc := 73) C k73 dX7_timesOf_73 ?_
    refine g_i2l (pc := 74) C dX7_timesOf_74 ?_
    refine g_lload_n (pc := 75) C 0 dX7_timesOf_75 rfl rfl ?_
    obtain ⟨r76, s76, hc76, h⟩ := hv_b2_some h
    refine g_callS (pc := 76) (σ1 := s76) (v := (some (.long (r76)))) (As := [.long ((s49.1 8 (p0).toNatClampNeg).toInt64), .long (r49)]) (rest := []) C (vX7_quotient hc76) (va_cwS 2 C.1.2.2.2.2 gX7_timesOf_X7_quotient rfl rfl rfl (by decide +kernel) ⟨Nat.le_of_ble_eq_true rfl, Nat.le_of_ble_eq_true rfl⟩) rfl rfl (Nat.le_of_ble_eq_true rfl) dX7_timesOf_76 ⟨Nat.zero_le _, Nat.zero_le _⟩ ?_
    refine g_st (st' := [.long (r76)]) rfl ?_
    cases h
    exact g_lret (pc := 79) C hr dX7_timesOf_79
  · rw [if_pos c56] at h
    refine g_ldc2 (pc := 59) C (v := (999 : Int64)) qX7_timesOf_L226 dX7_timesOf_59 ?_
    refine g_goto (pc := 62) C (tgt := 79) dX7_timesOf_62 (by decide) ?_
    cases h
    exact g_lret (pc := 79) C hr dX7_timesOf_79
abbrev rmX7_times : Room := { frames := 6, cells := 0, slots := 0, locals := 142 }
set_option maxRecDepth 20000 in
theorem qX7_times_F117 : Cond.fieldLink RX7 117 "PinFrame$Frame" "loads" "[I" ∈ wsX7_times := by decide +kernel
set_option maxRecDepth 20000 in
theorem qX7_times_F17 : Cond.fieldLink RX7 17 "PinFrame" "frame" "LPinFrame$Frame;" ∈ wsX7_times := by decide +kernel
set_option maxRecDepth 20000 in
theorem qX7_times_F78 : Cond.fieldLink RX7 78 "PinFrame$Frame" "bars" "I" ∈ wsX7_times := by decide +kernel
set_option maxRecDepth 20000 in
theorem qX7_times_F97 : Cond.fieldLink RX7 97 "PinFrame$Frame" "on" "I" ∈ wsX7_times := by decide +kernel
set_option maxRecDepth 20000 in
theorem qX7_times_L226 : Cond.constantLong RX7 226 (999) ∈ wsX7_times := by decide +kernel
set_option maxRecDepth 20000 in
theorem qX7_times_MC231 : Cond.code Lib.MathLoose.min_long.x Lib.MathLoose.min_long.code 4 (some .long) ∈ wsX7_times := by decide +kernel
set_option maxRecDepth 20000 in
theorem qX7_times_MI231 : Cond.initialized "java/lang/Math" ∈ wsX7_times := by decide +kernel
set_option maxRecDepth 20000 in
theorem qX7_times_ML231 : Cond.methodLink RX7 231 Lib.MathLoose.min_long.x ∈ wsX7_times := by decide +kernel
set_option maxRecDepth 20000 in
theorem qX7_times_MS231 : Cond.static Lib.MathLoose.min_long.x ∈ wsX7_times := by decide +kernel
set_option maxRecDepth 20000 in
theorem iX7_times_X3 : ∀ w ∈ u_ws RX3 TX3 10, w ∈ wsX7_times := by decide +kernel
set_option maxRecDepth 20000 in
theorem iX7_times_X7 : ∀ w ∈ u_ws RX7 TX7 7, w ∈ wsX7_times := by decide +kernel
set_option maxHeartbeats 4000000 in
set_option maxRecDepth 20000 in
theorem bX7_times_61 (C : hv_C p s m args meth c cX7_times 4 wsX7_times RX7 D (hv_tys cy)) (hr : meth.sig.returnType = (some .int)) {n : Nat} {o : Int32 × hv_St} {r29 : hv_St → Int64 → Int32 → Option (Int32 × hv_St)} (hr29 : ∀ (σ : hv_St) (x1 : Int64) (x3 : Int32), r29 σ x1 x3 = some o → hv_G p l e (headSpec wsX7_times rmX7_times).room s m args below meth c 4 D 55 a (hv_XE a cy) 0 0 (hv_MQ D 55 a (hv_XE a cy) below args s (some (.int o.1)) o.2) σ 29 [(0, .ref (a 0)), (1, .long (x1)), (3, .int (x3))] []) : ∀ (σ : hv_St) (x1 : Int64) (x3 : Int32), kX7_times_61 n r29 σ x1 x3 = some o → hv_G p l e (headSpec wsX7_times rmX7_times).room s m args below meth c 4 D 55 a (hv_XE a cy) 0 0 (hv_MQ D 55 a (hv_XE a cy) below args s (some (.int o.1)) o.2) σ 61 [(0, .ref (a 0)), (1, .long (x1)), (3, .int (x3))] [] := by
  intro σ x1 x3 h
  unfold kX7_times_61 at h
  refine g_iinc (pc := 61) C 2 (v := x3 + 1) (lv' := [(3, .int (x3 + 1)), (0, .ref (a 0)), (1, .long (x1))]) dX7_times_61 rfl rfl (Nat.le_of_ble_eq_true rfl) rfl ?_
  refine g_goto (pc := 64) C (tgt := 29) dX7_times_64 (by decide) ?_
  exact g_lv [1, 2, 0] rfl (hr29 σ (x1) (x3 + 1) h)
set_option maxHeartbeats 4000000 in
set_option maxRecDepth 20000 in
theorem bX7_times_29 (C : hv_C p s m args meth c cX7_times 4 wsX7_times RX7 D (hv_tys cy)) (hr : meth.sig.returnType = (some .int)) {n : Nat} {o : Int32 × hv_St} : ∀ (i : Nat) (σ : hv_St) (x1 : Int64) (x3 : Int32), kX7_times_29 n i σ x1 x3 = some o → hv_G p l e (headSpec wsX7_times rmX7_times).room s m args below meth c 4 D 55 a (hv_XE a cy) 0 0 (hv_MQ D 55 a (hv_XE a cy) below args s (some (.int o.1)) o.2) σ 29 [(0, .ref (a 0)), (1, .long (x1)), (3, .int (x3))] [] := by
  intro i
  induction i with
  | zero =>
    intro σ x1 x3 h
    cases h
  | succ i ih =>
    intro σ x1 x3 h
    generalize hg : kX7_times_29 n i = r29 at ih
    have hr29 := ih
    replace h : kX7_times_29_b n r29 σ x1 x3 = some o := by rw [← hg]; exact h
    unfold kX7_times_29_b at h
    refine g_iload_n (pc := 29) C 2 dX7_times_29 rfl rfl ?_
    refine g_aload_n (pc := 30) C 0 dX7_times_30 rfl rfl ?_
    refine gx_get_0_0 (pc := 31) C iX7_times_X7 qX7_times_F17 dX7_times_31 ?_
    refine gx_get_1_1 (pc := 34) C iX7_times_X3 qX7_times_F78 dX7_times_34 ?_
    refine g_icmp_ge (pc := 37) (tgt := 67) C dX7_times_37 (by decide) (fun c37 => ?_) (fun c37 => ?_)
    · rw [if_pos c37] at h
      refine g_lload_n (pc := 67) C 1 dX7_times_67 rfl rfl ?_
      refine g_l2i (pc := 68) C dX7_times_68 ?_
      cases h
      exact g_iret (pc := 69) C hr dX7_times_69
    · rw [if_neg c37] at h
      refine g_aload_n (pc := 40) C 0 dX7_times_40 rfl rfl ?_
      refine gx_get_0_0 (pc := 41) C iX7_times_X7 qX7_times_F17 dX7_times_41 ?_
      refine g_iload_n (pc := 44) C 2 dX7_times_44 rfl rfl ?_
      obtain ⟨r45, s45, hc45, h⟩ := hv_b2_some h
      refine g_callV (pc := 45) (σ1 := s45) (v := (some (.int (r45)))) (As := [.int (x3)]) (rest := []) C 1 (vX3_isOn hc45) (cwV 1 C.1.2.2.2.2 gX7_times_X3_isOn rfl rfl rfl (by decide +kernel) ⟨Nat.le_of_ble_eq_true rfl, Nat.le_of_ble_eq_true rfl⟩) (Nat.le_of_ble_eq_true rfl) rfl rfl rfl rfl (Nat.le_of_ble_eq_true rfl) dX7_times_45 ⟨Nat.zero_le _, Nat.zero_le _⟩ ?_
      refine g_st (st' := [.int (r45)]) rfl ?_
      refine g_if_eq (pc := 48) (tgt := 61) C dX7_times_48 (by decide) (fun c48 => ?_) (fun c48 => ?_)
      · rw [if_pos c48] at h
        exact g_lv [0, 1, 2] rfl (bX7_times_61 C hr hr29 s45 (x1) (x3) h)
      · rw [if_neg c48] at h
        refine g_lload_n (pc := 51) C 1 dX7_times_51 rfl rfl ?_
        refine g_aload_n (pc := 52) C 0 dX7_times_52 rfl rfl ?_
        refine g_iload_n (pc := 53) C 2 dX7_times_53 rfl rfl ?_
        obtain ⟨r54, s54, hc54, h⟩ := hv_b2_some h
        refine g_callV (pc := 54) (σ1 := s54) (v := (some (.long (r54)))) (As := [.int (x3)]) (rest := [.long (x1)]) C 0 (vX7_timesOf hc54) (cwV 1 C.1.2.2.2.2 gX7_times_X7_timesOf rfl rfl rfl (by decide +kernel) ⟨Nat.le_of_ble_eq_true rfl, Nat.le_of_ble_eq_true rfl⟩) (Nat.le_of_ble_eq_true rfl) rfl rfl rfl rfl (Nat.le_of_ble_eq_true rfl) dX7_times_54 ⟨Nat.zero_le _, Nat.zero_le _⟩ ?_
        refine g_st (st' := [.long (r54), .long (x1)]) rfl ?_
        refine g_mminL (pc := 57) C qX7_times_ML231 qX7_times_MS231 qX7_times_MI231 qX7_times_MC231 (Nat.le_of_ble_eq_true rfl) (Nat.le_of_ble_eq_true rfl) ⟨Nat.zero_le _, Nat.zero_le _⟩ dX7_times_57 ?_
        obtain ⟨y_57, ey_57, h⟩ := hv_let_some h
        rw [← ey_57]
        refine g_lstore_n (pc := 60) C (lv' := [(1, .long (y_57)), (0, .ref (a 0)), (3, .int (x3))]) rfl dX7_times_60 rfl (Nat.le_of_ble_eq_true rfl) rfl ?_
        exact g_lv [1, 0, 2] rfl (bX7_times_61 C hr hr29 s54 (y_57) (x3) h)
set_option maxHeartbeats 4000000 in
set_option maxRecDepth 20000 in
theorem vX7_times {n : Nat} {σ : hv_St} {o : Int32 × hv_St} (h : mX7_times n σ = some o) : hv_M l yX7_times wsX7_times rmX7_times D (hv_tys cy) 55 a (hv_XE a cy) [.ref (a 0)] σ (some (.int o.1)) o.2 := by
  refine hv_enter (own := RX7) (cc := cX7_times) (maxL := 4) (ret := (some .int)) (by decide) rfl rfl (Nat.le_of_ble_eq_true rfl) ?_
  intro p e s m args below meth c C hr
  unfold mX7_times at h
  refine g_lv [0] (lv' := [(0, .ref (a 0))]) rfl ?_
  refine g_aload_n (pc := 0) C 0 dX7_times_0 rfl rfl ?_
  refine g_aload_n (pc := 1) C 0 dX7_times_1 rfl rfl ?_
  refine gx_get_0_0 (pc := 2) C iX7_times_X7 qX7_times_F17 dX7_times_2 ?_
  refine gx_get_1_2 (pc := 5) C iX7_times_X3 qX7_times_F97 dX7_times_5 ?_
  refine g_aload_n (pc := 8) C 0 dX7_times_8 rfl rfl ?_
  refine gx_get_0_0 (pc := 9) C iX7_times_X7 qX7_times_F17 dX7_times_9 ?_
  refine gx_get_1_4 (pc := 12) C iX7_times_X3 qX7_times_F117 dX7_times_12 ?_
  obtain ⟨r15, s15, hc15, h⟩ := hv_b2_some h
  refine g_callV (pc := 15) (σ1 := s15) (v := (some (.int (r15)))) (As := [.int (σ.1 1 2), .ref (a 3)]) (rest := []) C 0 (vX7_bears (Or.inl rfl) hc15) (cwV 2 C.1.2.2.2.2 gX7_times_X7_bears rfl rfl rfl (by decide +kernel) ⟨Nat.le_of_ble_eq_true rfl, Nat.le_of_ble_eq_true rfl⟩) (Nat.le_of_ble_eq_true rfl) rfl rfl rfl rfl (Nat.le_of_ble_eq_true rfl) dX7_times_15 ⟨Nat.zero_le _, Nat.zero_le _⟩ ?_
  refine g_st (st' := [.int (r15)]) rfl ?_
  refine g_if_ne (pc := 18) (tgt := 23) C dX7_times_18 (by decide) (fun c18 => ?_) (fun c18 => ?_)
  · rw [if_neg c18] at h
    refine g_ldc2 (pc := 23) C (v := (999 : Int64)) qX7_times_L226 dX7_times_23 ?_
    refine g_lstore_n (pc := 26) C (lv' := [(1, .long ((999 : Int64))), (0, .ref (a 0))]) rfl dX7_times_26 rfl (Nat.le_of_ble_eq_true rfl) rfl ?_
    refine g_iconst (pc := 27) C (v := (0 : Int32)) dX7_times_27 (by decide) ?_
    refine g_istore_n (pc := 28) C (lv' := [(3, .int ((0 : Int32))), (1, .long ((999 : Int64))), (0, .ref (a 0))]) rfl dX7_times_28 rfl (Nat.le_of_ble_eq_true rfl) rfl ?_
    exact g_lv [2, 1, 0] rfl (bX7_times_29 C hr n s15 ((999 : Int64)) ((0 : Int32)) h)
  · rw [if_pos c18] at h
    refine g_iconst (pc := 21) C (v := (-1 : Int32)) dX7_times_21 (by decide) ?_
    cases h
    exact g_iret (pc := 22) C hr dX7_times_22
abbrev rmX7_told : Room := { frames := 2, cells := 0, slots := 0, locals := 58 }
set_option maxRecDepth 20000 in
theorem qX7_told_F290 : Cond.fieldLink RX7 290 "PinFrame$Fraction" "under" "J" ∈ wsX7_told := by decide +kernel
set_option maxRecDepth 20000 in
theorem qX7_told_F291 : Cond.fieldLink RX7 291 "PinFrame$Fraction" "over" "J" ∈ wsX7_told := by decide +kernel
set_option maxRecDepth 20000 in
theorem qX7_told_F58 : Cond.fieldLink RX7 58 "PinFrame" "fraction" "LPinFrame$Fraction;" ∈ wsX7_told := by decide +kernel
set_option maxRecDepth 20000 in
theorem iX7_told_X2 : ∀ w ∈ u_ws RX2 TX2 2, w ∈ wsX7_told := by decide +kernel
set_option maxRecDepth 20000 in
theorem iX7_told_X7 : ∀ w ∈ u_ws RX7 TX7 7, w ∈ wsX7_told := by decide +kernel
set_option maxHeartbeats 4000000 in
set_option maxRecDepth 20000 in
theorem vX7_told {n : Nat} {σ : hv_St} {p0 : Int64} {p1 : Int64} {p2 : Int32} {o : Int64 × hv_St} (h : mX7_told n σ p0 p1 p2 = some o) : hv_M l yX7_told wsX7_told rmX7_told D (hv_tys cy) 55 a (hv_XE a cy) [.ref (a 0), .long (p0), .long (p1), .int (p2)] σ (some (.long o.1)) o.2 := by
  refine hv_enter (own := RX7) (cc := cX7_told) (maxL := 6) (ret := (some .long)) (by decide) rfl rfl (Nat.le_of_ble_eq_true rfl) ?_
  intro p e s m args below meth c C hr
  unfold mX7_told at h
  refine g_lv [0, 1, 2, 3] (lv' := [(0, .ref (a 0)), (1, .long (p0)), (3, .long (p1)), (5, .int (p2))]) rfl ?_
  refine g_aload_n (pc := 0) C 0 dX7_told_0 rfl rfl ?_
  refine gx_get_0_6 (pc := 1) C iX7_told_X7 qX7_told_F58 dX7_told_1 ?_
  refine g_lload_n (pc := 4) C 1 dX7_told_4 rfl rfl ?_
  refine g_lload_n (pc := 5) C 2 dX7_told_5 rfl rfl ?_
  obtain ⟨s6, hc6, h⟩ := hv_bd_some h
  refine g_callV (pc := 6) (σ1 := s6) (v := none) (As := [.long (p0), .long (p1)]) (rest := []) C 26 (vX2_reduce hc6) (cwV 2 C.1.2.2.2.2 gX7_told_X2_reduce rfl rfl rfl (by decide +kernel) ⟨Nat.le_of_ble_eq_true rfl, Nat.le_of_ble_eq_true rfl⟩) (Nat.le_of_ble_eq_true rfl) rfl rfl rfl rfl (Nat.le_of_ble_eq_true rfl) dX7_told_6 ⟨Nat.zero_le _, Nat.zero_le _⟩ ?_
  refine g_st (st' := []) rfl ?_
  refine g_iload (pc := 9) C 3 dX7_told_9 rfl ?_
  refine g_if_eq (pc := 11) (tgt := 24) C dX7_told_11 (by decide) (fun c11 => ?_) (fun c11 => ?_)
  · rw [if_pos c11] at h
    refine g_aload_n (pc := 24) C 0 dX7_told_24 rfl rfl ?_
    refine gx_get_0_6 (pc := 25) C iX7_told_X7 qX7_told_F58 dX7_told_25 ?_
    refine gx_get_26_0 (pc := 28) C iX7_told_X2 qX7_told_F291 dX7_told_28 ?_
    cases h
    exact g_lret (pc := 31) C hr dX7_told_31
  · rw [if_neg c11] at h
    refine g_aload_n (pc := 14) C 0 dX7_told_14 rfl rfl ?_
    refine gx_get_0_6 (pc := 15) C iX7_told_X7 qX7_told_F58 dX7_told_15 ?_
    refine gx_get_26_1 (pc := 18) C iX7_told_X2 qX7_told_F290 dX7_told_18 ?_
    refine g_goto (pc := 21) C (tgt := 31) dX7_told_21 (by decide) ?_
    cases h
    exact g_lret (pc := 31) C hr dX7_told_31
abbrev rmX7_toldPull : Room := { frames := 3, cells := 0, slots := 0, locals := 83 }
set_option maxRecDepth 20000 in
theorem qX7_toldPull_F192 : Cond.fieldLink RX7 192 "PinFrame$Pulls" "whole" "J" ∈ wsX7_toldPull := by decide +kernel
set_option maxRecDepth 20000 in
theorem qX7_toldPull_F30 : Cond.fieldLink RX7 30 "PinFrame" "pulls" "LPinFrame$Pulls;" ∈ wsX7_toldPull := by decide +kernel
set_option maxRecDepth 20000 in
theorem iX7_toldPull_X5 : ∀ w ∈ u_ws RX5 TX5 7, w ∈ wsX7_toldPull := by decide +kernel
set_option maxRecDepth 20000 in
theorem iX7_toldPull_X7 : ∀ w ∈ u_ws RX7 TX7 7, w ∈ wsX7_toldPull := by decide +kernel
set_option maxHeartbeats 4000000 in
set_option maxRecDepth 20000 in
theorem vX7_toldPull {n : Nat} {σ : hv_St} {p0 : Int32} {p1 : Int32} {o : Int64 × hv_St} (h : mX7_toldPull n σ p0 p1 = some o) : hv_M l yX7_toldPull wsX7_toldPull rmX7_toldPull D (hv_tys cy) 55 a (hv_XE a cy) [.ref (a 0), .int (p0), .int (p1)] σ (some (.long o.1)) o.2 := by
  refine hv_enter (own := RX7) (cc := cX7_toldPull) (maxL := 3) (ret := (some .long)) (by decide) rfl rfl (Nat.le_of_ble_eq_true rfl) ?_
  intro p e s m args below meth c C hr
  unfold mX7_toldPull at h
  refine g_lv [0, 1, 2] (lv' := [(0, .ref (a 0)), (1, .int (p0)), (2, .int (p1))]) rfl ?_
  refine g_aload_n (pc := 0) C 0 dX7_toldPull_0 rfl rfl ?_
  refine g_aload_n (pc := 1) C 0 dX7_toldPull_1 rfl rfl ?_
  refine gx_get_0_2 (pc := 2) C iX7_toldPull_X7 qX7_toldPull_F30 dX7_toldPull_2 ?_
  refine g_iload_n (pc := 5) C 1 dX7_toldPull_5 rfl rfl ?_
  obtain ⟨r6, s6, hc6, h⟩ := hv_b2_some h
  refine g_callV (pc := 6) (σ1 := s6) (v := (some (.long (r6)))) (As := [.int (p0)]) (rest := [.ref (a 0)]) C 13 (vX5_overOf hc6) (cwV 1 C.1.2.2.2.2 gX7_toldPull_X5_overOf rfl rfl rfl (by decide +kernel) ⟨Nat.le_of_ble_eq_true rfl, Nat.le_of_ble_eq_true rfl⟩) (Nat.le_of_ble_eq_true rfl) rfl rfl rfl rfl (Nat.le_of_ble_eq_true rfl) dX7_toldPull_6 ⟨Nat.zero_le _, Nat.zero_le _⟩ ?_
  refine g_st (st' := [.long (r6), .ref (a 0)]) rfl ?_
  refine g_aload_n (pc := 9) C 0 dX7_toldPull_9 rfl rfl ?_
  refine gx_get_0_2 (pc := 10) C iX7_toldPull_X7 qX7_toldPull_F30 dX7_toldPull_10 ?_
  refine gx_get_13_6 (pc := 13) C iX7_toldPull_X5 qX7_toldPull_F192 dX7_toldPull_13 ?_
  refine g_iload_n (pc := 16) C 2 dX7_toldPull_16 rfl rfl ?_
  obtain ⟨r17, s17, hc17, h⟩ := hv_b2_some h
  refine g_callV (pc := 17) (σ1 := s17) (v := (some (.long (r17)))) (As := [.long (r6), .long (s6.2 13 6), .int (p1)]) (rest := []) C 0 (vX7_told hc17) (cwV 3 C.1.2.2.2.2 gX7_toldPull_X7_told rfl rfl rfl (by decide +kernel) ⟨Nat.le_of_ble_eq_true rfl, Nat.le_of_ble_eq_true rfl⟩) (Nat.le_of_ble_eq_true rfl) rfl rfl rfl rfl (Nat.le_of_ble_eq_true rfl) dX7_toldPull_17 ⟨Nat.zero_le _, Nat.zero_le _⟩ ?_
  refine g_st (st' := [.long (r17)]) rfl ?_
  cases h
  exact g_lret (pc := 20) C hr dX7_toldPull_20
abbrev rmJ6_numberOfTrailingZeros_0f7a4 : Room := { frames := 0, cells := 0, slots := 0, locals := 0 }
def kJ6_numberOfTrailingZeros_0f7a4_74 (n : Nat) (σ : hv_St) (x0 : Int32) (x1 : Int32) : Option (Int32 × hv_St) := some ((x1) + (((x0).toUInt32 >>> (((1 : Int32)).toUInt32 &&& Int32.toUInt32 31)).toInt32), σ)
def kJ6_numberOfTrailingZeros_0f7a4_62 (n : Nat) (σ : hv_St) (x0 : Int32) (x1 : Int32) : Option (Int32 × hv_St) := if x0 ≤ (4 : Int32) then (kJ6_numberOfTrailingZeros_0f7a4_74 n σ (x0) (x1)) else (hv_let (((x0).toUInt32 >>> (((2 : Int32)).toUInt32 &&& Int32.toUInt32 31)).toInt32) fun y0_73 => kJ6_numberOfTrailingZeros_0f7a4_74 n σ (y0_73) (x1 + 2))
def kJ6_numberOfTrailingZeros_0f7a4_49 (n : Nat) (σ : hv_St) (x0 : Int32) (x1 : Int32) : Option (Int32 × hv_St) := if x0 ≤ (16 : Int32) then (kJ6_numberOfTrailingZeros_0f7a4_62 n σ (x0) (x1)) else (hv_let (((x0).toUInt32 >>> (((4 : Int32)).toUInt32 &&& Int32.toUInt32 31)).toInt32) fun y0_61 => kJ6_numberOfTrailingZeros_0f7a4_62 n σ (y0_61) (x1 + 4))
def kJ6_numberOfTrailingZeros_0f7a4_34 (n : Nat) (σ : hv_St) (x0 : Int32) (x1 : Int32) : Option (Int32 × hv_St) := if x0 ≤ (256 : Int32) then (kJ6_numberOfTrailingZeros_0f7a4_49 n σ (x0) (x1)) else (hv_let (((x0).toUInt32 >>> (((8 : Int32)).toUInt32 &&& Int32.toUInt32 31)).toInt32) fun y0_48 => kJ6_numberOfTrailingZeros_0f7a4_49 n σ (y0_48) (x1 + 8))
def mJ6_numberOfTrailingZeros_0f7a4 (n : Nat) (σ : hv_St) (p0 : Int32) : Option (Int32 × hv_St) := hv_let (((p0) ^^^ ((-1 : Int32))) &&& ((p0) - ((1 : Int32)))) fun y0_7 => if 0 < y0_7 then (if y0_7 ≤ (65536 : Int32) then (kJ6_numberOfTrailingZeros_0f7a4_34 n σ (y0_7) ((1 : Int32))) else (hv_let (((y0_7).toUInt32 >>> (((16 : Int32)).toUInt32 &&& Int32.toUInt32 31)).toInt32) fun y0_33 => kJ6_numberOfTrailingZeros_0f7a4_34 n σ (y0_33) (((1 : Int32)) + 16))) else (some ((y0_7) &&& ((32 : Int32)), σ))
set_option maxRecDepth 20000 in
theorem qJ6_numberOfTrailingZeros_0f7a4_I264 : Cond.constant RJ6 264 (65536) ∈ wsJ6_numberOfTrailingZeros_0f7a4 := by decide +kernel
set_option maxHeartbeats 4000000 in
set_option maxRecDepth 20000 in
theorem bJ6_numberOfTrailingZeros_0f7a4_74 (C : hv_C p s m args meth c cJ6_numberOfTrailingZeros_0f7a4 2 wsJ6_numberOfTrailingZeros_0f7a4 RJ6 D (hv_tys cy)) (hr : meth.sig.returnType = (some .int)) {n : Nat} {o : Int32 × hv_St} : ∀ (σ : hv_St) (x0 : Int32) (x1 : Int32), kJ6_numberOfTrailingZeros_0f7a4_74 n σ x0 x1 = some o → hv_G p l e (headSpec wsJ6_numberOfTrailingZeros_0f7a4 rmJ6_numberOfTrailingZeros_0f7a4).room s m args below meth c 2 D 55 a (hv_XE a cy) 0 0 (hv_MQ D 55 a (hv_XE a cy) below args s (some (.int o.1)) o.2) σ 74 [(0, .int (x0)), (1, .int (x1))] [] := by
  intro σ x0 x1 h
  unfold kJ6_numberOfTrailingZeros_0f7a4_74 at h
  refine g_iload_n (pc := 74) C 1 dJ6_numberOfTrailingZeros_0f7a4_74 rfl rfl ?_
  refine g_iload_n (pc := 75) C 0 dJ6_numberOfTrailingZeros_0f7a4_75 rfl rfl ?_
  refine g_iconst (pc := 76) C (v := (1 : Int32)) dJ6_numberOfTrailingZeros_0f7a4_76 (by decide) ?_
  refine g_iushr (pc := 77) C dJ6_numberOfTrailingZeros_0f7a4_77 ?_
  refine g_iadd (pc := 78) C dJ6_numberOfTrailingZeros_0f7a4_78 ?_
  cases h
  exact g_iret (pc := 79) C hr dJ6_numberOfTrailingZeros_0f7a4_79
set_option maxHeartbeats 4000000 in
set_option maxRecDepth 20000 in
theorem bJ6_numberOfTrailingZeros_0f7a4_62 (C : hv_C p s m args meth c cJ6_numberOfTrailingZeros_0f7a4 2 wsJ6_numberOfTrailingZeros_0f7a4 RJ6 D (hv_tys cy)) (hr : meth.sig.returnType = (some .int)) {n : Nat} {o : Int32 × hv_St} : ∀ (σ : hv_St) (x0 : Int32) (x1 : Int32), kJ6_numberOfTrailingZeros_0f7a4_62 n σ x0 x1 = some o → hv_G p l e (headSpec wsJ6_numberOfTrailingZeros_0f7a4 rmJ6_numberOfTrailingZeros_0f7a4).room s m args below meth c 2 D 55 a (hv_XE a cy) 0 0 (hv_MQ D 55 a (hv_XE a cy) below args s (some (.int o.1)) o.2) σ 62 [(0, .int (x0)), (1, .int (x1))] [] := by
  intro σ x0 x1 h
  unfold kJ6_numberOfTrailingZeros_0f7a4_62 at h
  refine g_iload_n (pc := 62) C 0 dJ6_numberOfTrailingZeros_0f7a4_62 rfl rfl ?_
  refine g_iconst (pc := 63) C (v := (4 : Int32)) dJ6_numberOfTrailingZeros_0f7a4_63 (by decide) ?_
  refine g_icmp_le (pc := 64) (tgt := 74) C dJ6_numberOfTrailingZeros_0f7a4_64 (by decide) (fun c64 => ?_) (fun c64 => ?_)
  · rw [if_pos c64] at h
    exact g_lv [0, 1] rfl (bJ6_numberOfTrailingZeros_0f7a4_74 C hr σ (x0) (x1) h)
  · rw [if_neg c64] at h
    refine g_iinc (pc := 67) C 1 (v := x1 + 2) (lv' := [(1, .int (x1 + 2)), (0, .int (x0))]) dJ6_numberOfTrailingZeros_0f7a4_67 rfl rfl (Nat.le_of_ble_eq_true rfl) rfl ?_
    refine g_iload_n (pc := 70) C 1 dJ6_numberOfTrailingZeros_0f7a4_70 rfl rfl ?_
    refine g_iconst (pc := 71) C (v := (2 : Int32)) dJ6_numberOfTrailingZeros_0f7a4_71 (by decide) ?_
    refine g_iushr (pc := 72) C dJ6_numberOfTrailingZeros_0f7a4_72 ?_
    obtain ⟨y0_73, ey0_73, h⟩ := hv_let_some h
    refine g_istore_n (pc := 73) C (lv' := [(0, .int (y0_73)), (1, .int (x1 + 2))]) ey0_73 dJ6_numberOfTrailingZeros_0f7a4_73 rfl (Nat.le_of_ble_eq_true rfl) rfl ?_
    exact g_lv [0, 1] rfl (bJ6_numberOfTrailingZeros_0f7a4_74 C hr σ (y0_73) (x1 + 2) h)
set_option maxHeartbeats 4000000 in
set_option maxRecDepth 20000 in
theorem bJ6_numberOfTrailingZeros_0f7a4_49 (C : hv_C p s m args meth c cJ6_numberOfTrailingZeros_0f7a4 2 wsJ6_numberOfTrailingZeros_0f7a4 RJ6 D (hv_tys cy)) (hr : meth.sig.returnType = (some .int)) {n : Nat} {o : Int32 × hv_St} : ∀ (σ : hv_St) (x0 : Int32) (x1 : Int32), kJ6_numberOfTrailingZeros_0f7a4_49 n σ x0 x1 = some o → hv_G p l e (headSpec wsJ6_numberOfTrailingZeros_0f7a4 rmJ6_numberOfTrailingZeros_0f7a4).room s m args below meth c 2 D 55 a (hv_XE a cy) 0 0 (hv_MQ D 55 a (hv_XE a cy) below args s (some (.int o.1)) o.2) σ 49 [(0, .int (x0)), (1, .int (x1))] [] := by
  intro σ x0 x1 h
  unfold kJ6_numberOfTrailingZeros_0f7a4_49 at h
  refine g_iload_n (pc := 49) C 0 dJ6_numberOfTrailingZeros_0f7a4_49 rfl rfl ?_
  refine g_bipush (pc := 50) C (v := (16 : Int32)) dJ6_numberOfTrailingZeros_0f7a4_50 (by decide) ?_
  refine g_icmp_le (pc := 52) (tgt := 62) C dJ6_numberOfTrailingZeros_0f7a4_52 (by decide) (fun c52 => ?_) (fun c52 => ?_)
  · rw [if_pos c52] at h
    exact g_lv [0, 1] rfl (bJ6_numberOfTrailingZeros_0f7a4_62 C hr σ (x0) (x1) h)
  · rw [if_neg c52] at h
    refine g_iinc (pc := 55) C 1 (v := x1 + 4) (lv' := [(1, .int (x1 + 4)), (0, .int (x0))]) dJ6_numberOfTrailingZeros_0f7a4_55 rfl rfl (Nat.le_of_ble_eq_true rfl) rfl ?_
    refine g_iload_n (pc := 58) C 1 dJ6_numberOfTrailingZeros_0f7a4_58 rfl rfl ?_
    refine g_iconst (pc := 59) C (v := (4 : Int32)) dJ6_numberOfTrailingZeros_0f7a4_59 (by decide) ?_
    refine g_iushr (pc := 60) C dJ6_numberOfTrailingZeros_0f7a4_60 ?_
    obtain ⟨y0_61, ey0_61, h⟩ := hv_let_some h
    refine g_istore_n (pc := 61) C (lv' := [(0, .int (y0_61)), (1, .int (x1 + 4))]) ey0_61 dJ6_numberOfTrailingZeros_0f7a4_61 rfl (Nat.le_of_ble_eq_true rfl) rfl ?_
    exact g_lv [0, 1] rfl (bJ6_numberOfTrailingZeros_0f7a4_62 C hr σ (y0_61) (x1 + 4) h)
set_option maxHeartbeats 4000000 in
set_option maxRecDepth 20000 in
theorem bJ6_numberOfTrailingZeros_0f7a4_34 (C : hv_C p s m args meth c cJ6_numberOfTrailingZeros_0f7a4 2 wsJ6_numberOfTrailingZeros_0f7a4 RJ6 D (hv_tys cy)) (hr : meth.sig.returnType = (some .int)) {n : Nat} {o : Int32 × hv_St} : ∀ (σ : hv_St) (x0 : Int32) (x1 : Int32), kJ6_numberOfTrailingZeros_0f7a4_34 n σ x0 x1 = some o → hv_G p l e (headSpec wsJ6_numberOfTrailingZeros_0f7a4 rmJ6_numberOfTrailingZeros_0f7a4).room s m args below meth c 2 D 55 a (hv_XE a cy) 0 0 (hv_MQ D 55 a (hv_XE a cy) below args s (some (.int o.1)) o.2) σ 34 [(0, .int (x0)), (1, .int (x1))] [] := by
  intro σ x0 x1 h
  unfold kJ6_numberOfTrailingZeros_0f7a4_34 at h
  refine g_iload_n (pc := 34) C 0 dJ6_numberOfTrailingZeros_0f7a4_34 rfl rfl ?_
  refine g_sipush (pc := 35) C (v := (256 : Int32)) dJ6_numberOfTrailingZeros_0f7a4_35 (by decide) ?_
  refine g_icmp_le (pc := 38) (tgt := 49) C dJ6_numberOfTrailingZeros_0f7a4_38 (by decide) (fun c38 => ?_) (fun c38 => ?_)
  · rw [if_pos c38] at h
    exact g_lv [0, 1] rfl (bJ6_numberOfTrailingZeros_0f7a4_49 C hr σ (x0) (x1) h)
  · rw [if_neg c38] at h
    refine g_iinc (pc := 41) C 1 (v := x1 + 8) (lv' := [(1, .int (x1 + 8)), (0, .int (x0))]) dJ6_numberOfTrailingZeros_0f7a4_41 rfl rfl (Nat.le_of_ble_eq_true rfl) rfl ?_
    refine g_iload_n (pc := 44) C 1 dJ6_numberOfTrailingZeros_0f7a4_44 rfl rfl ?_
    refine g_bipush (pc := 45) C (v := (8 : Int32)) dJ6_numberOfTrailingZeros_0f7a4_45 (by decide) ?_
    refine g_iushr (pc := 47) C dJ6_numberOfTrailingZeros_0f7a4_47 ?_
    obtain ⟨y0_48, ey0_48, h⟩ := hv_let_some h
    refine g_istore_n (pc := 48) C (lv' := [(0, .int (y0_48)), (1, .int (x1 + 8))]) ey0_48 dJ6_numberOfTrailingZeros_0f7a4_48 rfl (Nat.le_of_ble_eq_true rfl) rfl ?_
    exact g_lv [0, 1] rfl (bJ6_numberOfTrailingZeros_0f7a4_49 C hr σ (y0_48) (x1 + 8) h)
set_option maxHeartbeats 4000000 in
set_option maxRecDepth 20000 in
theorem vJ6_numberOfTrailingZeros_0f7a4 {n : Nat} {σ : hv_St} {p0 : Int32} {o : Int32 × hv_St} (h : mJ6_numberOfTrailingZeros_0f7a4 n σ p0 = some o) : hv_M l yJ6_numberOfTrailingZeros_0f7a4 wsJ6_numberOfTrailingZeros_0f7a4 rmJ6_numberOfTrailingZeros_0f7a4 D (hv_tys cy) 55 a (hv_XE a cy) [.int (p0)] σ (some (.int o.1)) o.2 := by
  refine hv_enter (own := RJ6) (cc := cJ6_numberOfTrailingZeros_0f7a4) (maxL := 2) (ret := (some .int)) (by decide) rfl rfl (Nat.le_of_ble_eq_true rfl) ?_
  intro p e s m args below meth c C hr
  unfold mJ6_numberOfTrailingZeros_0f7a4 at h
  refine g_lv [0] (lv' := [(0, .int (p0))]) rfl ?_
  refine g_iload_n (pc := 0) C 0 dJ6_numberOfTrailingZeros_0f7a4_0 rfl rfl ?_
  refine g_iconst (pc := 1) C (v := (-1 : Int32)) dJ6_numberOfTrailingZeros_0f7a4_1 (by decide) ?_
  refine g_ixor (pc := 2) C dJ6_numberOfTrailingZeros_0f7a4_2 ?_
  refine g_iload_n (pc := 3) C 0 dJ6_numberOfTrailingZeros_0f7a4_3 rfl rfl ?_
  refine g_iconst (pc := 4) C (v := (1 : Int32)) dJ6_numberOfTrailingZeros_0f7a4_4 (by decide) ?_
  refine g_isub (pc := 5) C dJ6_numberOfTrailingZeros_0f7a4_5 ?_
  refine g_iand (pc := 6) C dJ6_numberOfTrailingZeros_0f7a4_6 ?_
  obtain ⟨y0_7, ey0_7, h⟩ := hv_let_some h
  refine g_istore_n (pc := 7) C (lv' := [(0, .int (y0_7))]) ey0_7 dJ6_numberOfTrailingZeros_0f7a4_7 rfl (Nat.le_of_ble_eq_true rfl) rfl ?_
  refine g_iload_n (pc := 8) C 0 dJ6_numberOfTrailingZeros_0f7a4_8 rfl rfl ?_
  refine g_if_gt (pc := 9) (tgt := 17) C dJ6_numberOfTrailingZeros_0f7a4_9 (by decide) (fun c9 => ?_) (fun c9 => ?_)
  · rw [if_pos c9] at h
    refine g_iconst (pc := 17) C (v := (1 : Int32)) dJ6_numberOfTrailingZeros_0f7a4_17 (by decide) ?_
    refine g_istore_n (pc := 18) C (lv' := [(1, .int ((1 : Int32))), (0, .int (y0_7))]) rfl dJ6_numberOfTrailingZeros_0f7a4_18 rfl (Nat.le_of_ble_eq_true rfl) rfl ?_
    refine g_iload_n (pc := 19) C 1 dJ6_numberOfTrailingZeros_0f7a4_19 rfl rfl ?_
    refine g_ldcw (pc := 20) C (v := (65536 : Int32)) qJ6_numberOfTrailingZeros_0f7a4_I264 dJ6_numberOfTrailingZeros_0f7a4_20 ?_
    refine g_icmp_le (pc := 23) (tgt := 34) C dJ6_numberOfTrailingZeros_0f7a4_23 (by decide) (fun c23 => ?_) (fun c23 => ?_)
    · rw [if_pos c23] at h
      exact g_lv [1, 0] rfl (bJ6_numberOfTrailingZeros_0f7a4_34 C hr σ (y0_7) ((1 : Int32)) h)
    · rw [if_neg c23] at h
      refine g_iinc (pc := 26) C 0 (v := ((1 : Int32)) + 16) (lv' := [(1, .int (((1 : Int32)) + 16)), (0, .int (y0_7))]) dJ6_numberOfTrailingZeros_0f7a4_26 rfl rfl (Nat.le_of_ble_eq_true rfl) rfl ?_
      refine g_iload_n (pc := 29) C 1 dJ6_numberOfTrailingZeros_0f7a4_29 rfl rfl ?_
      refine g_bipush (pc := 30) C (v := (16 : Int32)) dJ6_numberOfTrailingZeros_0f7a4_30 (by decide) ?_
      refine g_iushr (pc := 32) C dJ6_numberOfTrailingZeros_0f7a4_32 ?_
      obtain ⟨y0_33, ey0_33, h⟩ := hv_let_some h
      refine g_istore_n (pc := 33) C (lv' := [(0, .int (y0_33)), (1, .int (((1 : Int32)) + 16))]) ey0_33 dJ6_numberOfTrailingZeros_0f7a4_33 rfl (Nat.le_of_ble_eq_true rfl) rfl ?_
      exact g_lv [0, 1] rfl (bJ6_numberOfTrailingZeros_0f7a4_34 C hr σ (y0_33) (((1 : Int32)) + 16) h)
  · rw [if_neg c9] at h
    refine g_iload_n (pc := 12) C 0 dJ6_numberOfTrailingZeros_0f7a4_12 rfl rfl ?_
    refine g_bipush (pc := 13) C (v := (32 : Int32)) dJ6_numberOfTrailingZeros_0f7a4_13 (by decide) ?_
    refine g_iand (pc := 15) C dJ6_numberOfTrailingZeros_0f7a4_15 ?_
    cases h
    exact g_iret (pc := 16) C hr dJ6_numberOfTrailingZeros_0f7a4_16
abbrev rmX7_need : Room := { frames := 6, cells := 1, slots := 6, locals := 89 }
set_option maxRecDepth 20000 in
theorem qX7_need_TK : Cond.classLink RX7 150 hv_nse ∈ wsX7_need := by decide +kernel
set_option maxRecDepth 20000 in
theorem qX7_need_TI : Cond.initialized hv_nse ∈ wsX7_need := by decide +kernel
set_option maxRecDepth 20000 in
theorem qX7_need_TA : ∀ w ∈ hv_at.filter goodWord, w ∈ wsX7_need := by decide +kernel
set_option maxHeartbeats 4000000 in
set_option maxRecDepth 20000 in
theorem vX7_need (hflag : l.stackTraces = false) {n : Nat} {σ : hv_St} {p0 : Int32} {o : Option Unit × hv_St} (h : mX7_need n σ p0 = some o) : hv_XM l yX7_need wsX7_need rmX7_need D (hv_tys cy) 55 a (hv_XE a cy) 1 6 [.int (p0)] σ (o.1.map (fun _ => none)) o.2 := by
  refine hv_xenter (own := RX7) (cc := cX7_need) (maxL := 1) (ret := none) (by decide) rfl rfl (Nat.le_of_ble_eq_true rfl) ?_
  intro p e s m args below meth c CT hr
  have C := CT.1
  unfold mX7_need at h
  refine g_lv [0] (lv' := [(0, .int (p0))]) rfl ?_
  refine g_iload_n (pc := 0) C 0 dX7_need_0 rfl rfl ?_
  refine g_if_ne (pc := 1) (tgt := 12) C dX7_need_1 (by decide) (fun c1 => ?_) (fun c1 => ?_)
  · rw [if_neg c1] at h
    cases h
    exact g_xvret (pc := 12) CT hr dX7_need_12 (Nat.le_of_ble_eq_true rfl) (Nat.le_of_ble_eq_true rfl)
  · rw [if_pos c1] at h
    cases h
    exact g_throw (pc := 4) CT hflag qX7_need_TK qX7_need_TI qX7_need_TA dX7_need_4 dX7_need_7 dX7_need_8 dX7_need_11 (Nat.le_of_ble_eq_true rfl) (Nat.le_of_ble_eq_true rfl) (Nat.le_of_ble_eq_true rfl) (Nat.le_of_ble_eq_true rfl) (Nat.le_of_ble_eq_true rfl) (Nat.le_of_ble_eq_true rfl)
abbrev rmX7_pull : Room := { frames := 7, cells := 1, slots := 6, locals := 142 }
set_option maxRecDepth 20000 in
theorem qX7_pull_F117 : Cond.fieldLink RX7 117 "PinFrame$Frame" "loads" "[I" ∈ wsX7_pull := by decide +kernel
set_option maxRecDepth 20000 in
theorem qX7_pull_F17 : Cond.fieldLink RX7 17 "PinFrame" "frame" "LPinFrame$Frame;" ∈ wsX7_pull := by decide +kernel
set_option maxRecDepth 20000 in
theorem qX7_pull_F97 : Cond.fieldLink RX7 97 "PinFrame$Frame" "on" "I" ∈ wsX7_pull := by decide +kernel
set_option maxRecDepth 20000 in
theorem iX7_pull_X3 : ∀ w ∈ u_ws RX3 TX3 10, w ∈ wsX7_pull := by decide +kernel
set_option maxRecDepth 20000 in
theorem iX7_pull_X7 : ∀ w ∈ u_ws RX7 TX7 7, w ∈ wsX7_pull := by decide +kernel
set_option maxHeartbeats 4000000 in
set_option maxRecDepth 20000 in
theorem bX7_pull_37 (hflag : l.stackTraces = false) (CT : hv_CT p s m args meth c cX7_pull 3 wsX7_pull RX7 D (hv_tys cy) 55 a) (hr : meth.sig.returnType = (some .long)) {n : Nat} {o : Option Int64 × hv_St} : ∀ (σ : hv_St) (x1 : Int32) (x2 : Int32) (z0 : Int32), kX7_pull_37 n σ x1 x2 z0 = some o → hv_G p l e (headSpec wsX7_pull rmX7_pull).room s m args below meth c 3 D 55 a (hv_XE a cy) 0 0 (hv_XQ D 55 a (hv_XE a cy) below args s (o.1.map (fun x => some (.long x))) o.2 1 6) σ 37 [(0, .ref (a 0)), (1, .int (x1)), (2, .int (x2))] [.int (z0)] := by
  intro σ x1 x2 z0 h
  unfold kX7_pull_37 at h
  have C := CT.1
  rcases hv_bx_some h with ⟨s37, hc37, rfl⟩ | ⟨y37, s37, hc37, h⟩
  · exact g_xcallS0 (pc := 37) (σ1 := s37) (As := [.int (z0)]) (rest := []) CT (vX7_need hflag hc37) (va_cwS 1 C.1.2.2.2.2 gX7_pull_X7_need rfl rfl rfl (by decide +kernel) ⟨Nat.le_of_ble_eq_true rfl, Nat.le_of_ble_eq_true rfl⟩) rfl rfl (Nat.le_of_ble_eq_true rfl) dX7_pull_37 ⟨Nat.le_of_ble_eq_true rfl, Nat.le_of_ble_eq_true rfl⟩ (Nat.le_of_ble_eq_true rfl) (Nat.le_of_ble_eq_true rfl)
  refine g_xcallS (pc := 37) (σ1 := s37) (v := none) (As := [.int (z0)]) (rest := []) CT (vX7_need hflag hc37) (va_cwS 1 C.1.2.2.2.2 gX7_pull_X7_need rfl rfl rfl (by decide +kernel) ⟨Nat.le_of_ble_eq_true rfl, Nat.le_of_ble_eq_true rfl⟩) rfl rfl (Nat.le_of_ble_eq_true rfl) dX7_pull_37 ⟨Nat.le_of_ble_eq_true rfl, Nat.le_of_ble_eq_true rfl⟩ ?_
  refine g_st (st' := []) rfl ?_
  refine g_aload_n (pc := 40) C 0 dX7_pull_40 rfl rfl ?_
  refine g_iload_n (pc := 41) C 1 dX7_pull_41 rfl rfl ?_
  refine g_iload_n (pc := 42) C 2 dX7_pull_42 rfl rfl ?_
  obtain ⟨r43, s43, hc43, h⟩ := hv_b2_some h
  refine g_callV (pc := 43) (σ1 := s43) (v := (some (.long (r43)))) (As := [.int (x1), .int (x2)]) (rest := []) C 0 (vX7_toldPull hc43) (cwV 2 C.1.2.2.2.2 gX7_pull_X7_toldPull rfl rfl rfl (by decide +kernel) ⟨Nat.le_of_ble_eq_true rfl, Nat.le_of_ble_eq_true rfl⟩) (Nat.le_of_ble_eq_true rfl) rfl rfl rfl rfl (Nat.le_of_ble_eq_true rfl) dX7_pull_43 ⟨Nat.le_of_ble_eq_true rfl, Nat.le_of_ble_eq_true rfl⟩ ?_
  refine g_st (st' := [.long (r43)]) rfl ?_
  cases h
  exact g_xlret (pc := 46) CT hr dX7_pull_46 (Nat.le_of_ble_eq_true rfl) (Nat.le_of_ble_eq_true rfl)
set_option maxHeartbeats 4000000 in
set_option maxRecDepth 20000 in
theorem bX7_pull_36 (hflag : l.stackTraces = false) (CT : hv_CT p s m args meth c cX7_pull 3 wsX7_pull RX7 D (hv_tys cy) 55 a) (hr : meth.sig.returnType = (some .long)) {n : Nat} {o : Option Int64 × hv_St} : ∀ (σ : hv_St) (x1 : Int32) (x2 : Int32), kX7_pull_36 n σ x1 x2 = some o → hv_G p l e (headSpec wsX7_pull rmX7_pull).room s m args below meth c 3 D 55 a (hv_XE a cy) 0 0 (hv_XQ D 55 a (hv_XE a cy) below args s (o.1.map (fun x => some (.long x))) o.2 1 6) σ 36 [(0, .ref (a 0)), (1, .int (x1)), (2, .int (x2))] [] := by
  intro σ x1 x2 h
  unfold kX7_pull_36 at h
  have C := CT.1
  refine g_iconst (pc := 36) C (v := (0 : Int32)) dX7_pull_36 (by decide) ?_
  exact g_lv [0, 1, 2] rfl (bX7_pull_37 hflag CT hr σ (x1) (x2) ((0 : Int32)) h)
set_option maxHeartbeats 4000000 in
set_option maxRecDepth 20000 in
theorem vX7_pull (hflag : l.stackTraces = false) {n : Nat} {σ : hv_St} {p0 : Int32} {p1 : Int32} {o : Option Int64 × hv_St} (h : mX7_pull n σ p0 p1 = some o) : hv_XM l yX7_pull wsX7_pull rmX7_pull D (hv_tys cy) 55 a (hv_XE a cy) 1 6 [.ref (a 0), .int (p0), .int (p1)] σ (o.1.map (fun x => some (.long x))) o.2 := by
  refine hv_xenter (own := RX7) (cc := cX7_pull) (maxL := 3) (ret := (some .long)) (by decide) rfl rfl (Nat.le_of_ble_eq_true rfl) ?_
  intro p e s m args below meth c CT hr
  have C := CT.1
  unfold mX7_pull at h
  refine g_lv [0, 1, 2] (lv' := [(0, .ref (a 0)), (1, .int (p0)), (2, .int (p1))]) rfl ?_
  refine g_aload_n (pc := 0) C 0 dX7_pull_0 rfl rfl ?_
  refine gx_get_0_0 (pc := 1) C iX7_pull_X7 qX7_pull_F17 dX7_pull_1 ?_
  refine g_iload_n (pc := 4) C 1 dX7_pull_4 rfl rfl ?_
  obtain ⟨r5, s5, hc5, h⟩ := hv_b2_some h
  refine g_callV (pc := 5) (σ1 := s5) (v := (some (.int (r5)))) (As := [.int (p0)]) (rest := []) C 1 (vX3_isOn hc5) (cwV 1 C.1.2.2.2.2 gX7_pull_X3_isOn rfl rfl rfl (by decide +kernel) ⟨Nat.le_of_ble_eq_true rfl, Nat.le_of_ble_eq_true rfl⟩) (Nat.le_of_ble_eq_true rfl) rfl rfl rfl rfl (Nat.le_of_ble_eq_true rfl) dX7_pull_5 ⟨Nat.le_of_ble_eq_true rfl, Nat.le_of_ble_eq_true rfl⟩ ?_
  refine g_st (st' := [.int (r5)]) rfl ?_
  refine g_if_eq (pc := 8) (tgt := 36) C dX7_pull_8 (by decide) (fun c8 => ?_) (fun c8 => ?_)
  · rw [if_pos c8] at h
    exact g_lv [0, 1, 2] rfl (bX7_pull_36 hflag CT hr s5 (p0) (p1) h)
  · rw [if_neg c8] at h
    refine g_aload_n (pc := 11) C 0 dX7_pull_11 rfl rfl ?_
    refine g_aload_n (pc := 12) C 0 dX7_pull_12 rfl rfl ?_
    refine gx_get_0_0 (pc := 13) C iX7_pull_X7 qX7_pull_F17 dX7_pull_13 ?_
    refine gx_get_1_2 (pc := 16) C iX7_pull_X3 qX7_pull_F97 dX7_pull_16 ?_
    refine g_aload_n (pc := 19) C 0 dX7_pull_19 rfl rfl ?_
    refine gx_get_0_0 (pc := 20) C iX7_pull_X7 qX7_pull_F17 dX7_pull_20 ?_
    refine gx_get_1_4 (pc := 23) C iX7_pull_X3 qX7_pull_F117 dX7_pull_23 ?_
    obtain ⟨r26, s26, hc26, h⟩ := hv_b2_some h
    refine g_callV (pc := 26) (σ1 := s26) (v := (some (.int (r26)))) (As := [.int (s5.1 1 2), .ref (a 3)]) (rest := []) C 0 (vX7_bears (Or.inl rfl) hc26) (cwV 2 C.1.2.2.2.2 gX7_pull_X7_bears rfl rfl rfl (by decide +kernel) ⟨Nat.le_of_ble_eq_true rfl, Nat.le_of_ble_eq_true rfl⟩) (Nat.le_of_ble_eq_true rfl) rfl rfl rfl rfl (Nat.le_of_ble_eq_true rfl) dX7_pull_26 ⟨Nat.le_of_ble_eq_true rfl, Nat.le_of_ble_eq_true rfl⟩ ?_
    refine g_st (st' := [.int (r26)]) rfl ?_
    refine g_if_eq (pc := 29) (tgt := 36) C dX7_pull_29 (by decide) (fun c29 => ?_) (fun c29 => ?_)
    · rw [if_pos c29] at h
      exact g_lv [0, 1, 2] rfl (bX7_pull_36 hflag CT hr s26 (p0) (p1) h)
    · rw [if_neg c29] at h
      refine g_iconst (pc := 32) C (v := (1 : Int32)) dX7_pull_32 (by decide) ?_
      refine g_goto (pc := 33) C (tgt := 37) dX7_pull_33 (by decide) ?_
      exact g_lv [0, 1, 2] rfl (bX7_pull_37 hflag CT hr s26 (p0) (p1) ((1 : Int32)) h)
abbrev rmX7_state : Room := { frames := 7, cells := 1, slots := 6, locals := 142 }
set_option maxRecDepth 20000 in
theorem qX7_state_F117 : Cond.fieldLink RX7 117 "PinFrame$Frame" "loads" "[I" ∈ wsX7_state := by decide +kernel
set_option maxRecDepth 20000 in
theorem qX7_state_F17 : Cond.fieldLink RX7 17 "PinFrame" "frame" "LPinFrame$Frame;" ∈ wsX7_state := by decide +kernel
set_option maxRecDepth 20000 in
theorem qX7_state_F181 : Cond.fieldLink RX7 181 "PinFrame$Balance" "scale" "J" ∈ wsX7_state := by decide +kernel
set_option maxRecDepth 20000 in
theorem qX7_state_F21 : Cond.fieldLink RX7 21 "PinFrame" "balance" "LPinFrame$Balance;" ∈ wsX7_state := by decide +kernel
set_option maxRecDepth 20000 in
theorem qX7_state_F30 : Cond.fieldLink RX7 30 "PinFrame" "pulls" "LPinFrame$Pulls;" ∈ wsX7_state := by decide +kernel
set_option maxRecDepth 20000 in
theorem qX7_state_F97 : Cond.fieldLink RX7 97 "PinFrame$Frame" "on" "I" ∈ wsX7_state := by decide +kernel
set_option maxRecDepth 20000 in
theorem iX7_state_X0 : ∀ w ∈ u_ws RX0 TX0 9, w ∈ wsX7_state := by decide +kernel
set_option maxRecDepth 20000 in
theorem iX7_state_X3 : ∀ w ∈ u_ws RX3 TX3 10, w ∈ wsX7_state := by decide +kernel
set_option maxRecDepth 20000 in
theorem iX7_state_X7 : ∀ w ∈ u_ws RX7 TX7 7, w ∈ wsX7_state := by decide +kernel
set_option maxHeartbeats 4000000 in
set_option maxRecDepth 20000 in
theorem bX7_state_53 (hflag : l.stackTraces = false) (CT : hv_CT p s m args meth c cX7_state 4 wsX7_state RX7 D (hv_tys cy) 55 a) (hr : meth.sig.returnType = (some .long)) {n : Nat} {o : Option Int64 × hv_St} : ∀ (σ : hv_St) (x1 : Int32) (x2 : Int32) (x3 : Int32) (z0 : Int32), kX7_state_53 n σ x1 x2 x3 z0 = some o → hv_G p l e (headSpec wsX7_state rmX7_state).room s m args below meth c 4 D 55 a (hv_XE a cy) 0 0 (hv_XQ D 55 a (hv_XE a cy) below args s (o.1.map (fun x => some (.long x))) o.2 1 6) σ 53 [(0, .ref (a 0)), (1, .int (x1)), (2, .int (x2)), (3, .int (x3))] [.int (z0)] := by
  intro σ x1 x2 x3 z0 h
  unfold kX7_state_53 at h
  have C := CT.1
  rcases hv_bx_some h with ⟨s53, hc53, rfl⟩ | ⟨y53, s53, hc53, h⟩
  · exact g_xcallS0 (pc := 53) (σ1 := s53) (As := [.int (z0)]) (rest := []) CT (vX7_need hflag hc53) (va_cwS 1 C.1.2.2.2.2 gX7_state_X7_need rfl rfl rfl (by decide +kernel) ⟨Nat.le_of_ble_eq_true rfl, Nat.le_of_ble_eq_true rfl⟩) rfl rfl (Nat.le_of_ble_eq_true rfl) dX7_state_53 ⟨Nat.le_of_ble_eq_true rfl, Nat.le_of_ble_eq_true rfl⟩ (Nat.le_of_ble_eq_true rfl) (Nat.le_of_ble_eq_true rfl)
  refine g_xcallS (pc := 53) (σ1 := s53) (v := none) (As := [.int (z0)]) (rest := []) CT (vX7_need hflag hc53) (va_cwS 1 C.1.2.2.2.2 gX7_state_X7_need rfl rfl rfl (by decide +kernel) ⟨Nat.le_of_ble_eq_true rfl, Nat.le_of_ble_eq_true rfl⟩) rfl rfl (Nat.le_of_ble_eq_true rfl) dX7_state_53 ⟨Nat.le_of_ble_eq_true rfl, Nat.le_of_ble_eq_true rfl⟩ ?_
  refine g_st (st' := []) rfl ?_
  refine g_aload_n (pc := 56) C 0 dX7_state_56 rfl rfl ?_
  refine g_aload_n (pc := 57) C 0 dX7_state_57 rfl rfl ?_
  refine gx_get_0_2 (pc := 58) C iX7_state_X7 qX7_state_F30 dX7_state_58 ?_
  refine g_iload_n (pc := 61) C 1 dX7_state_61 rfl rfl ?_
  refine g_iload_n (pc := 62) C 2 dX7_state_62 rfl rfl ?_
  obtain ⟨r63, s63, hc63, h⟩ := hv_b2_some h
  refine g_callV (pc := 63) (σ1 := s63) (v := (some (.long (r63)))) (As := [.int (x1), .int (x2)]) (rest := [.ref (a 0)]) C 13 (vX5_stateOf hc63) (cwV 2 C.1.2.2.2.2 gX7_state_X5_stateOf rfl rfl rfl (by decide +kernel) ⟨Nat.le_of_ble_eq_true rfl, Nat.le_of_ble_eq_true rfl⟩) (Nat.le_of_ble_eq_true rfl) rfl rfl rfl rfl (Nat.le_of_ble_eq_true rfl) dX7_state_63 ⟨Nat.le_of_ble_eq_true rfl, Nat.le_of_ble_eq_true rfl⟩ ?_
  refine g_st (st' := [.long (r63), .ref (a 0)]) rfl ?_
  refine g_aload_n (pc := 66) C 0 dX7_state_66 rfl rfl ?_
  refine gx_get_0_1 (pc := 67) C iX7_state_X7 qX7_state_F21 dX7_state_67 ?_
  refine gx_get_9_8 (pc := 70) C iX7_state_X0 qX7_state_F181 dX7_state_70 ?_
  refine g_iload_n (pc := 73) C 3 dX7_state_73 rfl rfl ?_
  obtain ⟨r74, s74, hc74, h⟩ := hv_b2_some h
  refine g_callV (pc := 74) (σ1 := s74) (v := (some (.long (r74)))) (As := [.long (r63), .long (s63.2 9 8), .int (x3)]) (rest := []) C 0 (vX7_told hc74) (cwV 3 C.1.2.2.2.2 gX7_state_X7_told rfl rfl rfl (by decide +kernel) ⟨Nat.le_of_ble_eq_true rfl, Nat.le_of_ble_eq_true rfl⟩) (Nat.le_of_ble_eq_true rfl) rfl rfl rfl rfl (Nat.le_of_ble_eq_true rfl) dX7_state_74 ⟨Nat.le_of_ble_eq_true rfl, Nat.le_of_ble_eq_true rfl⟩ ?_
  refine g_st (st' := [.long (r74)]) rfl ?_
  cases h
  exact g_xlret (pc := 77) CT hr dX7_state_77 (Nat.le_of_ble_eq_true rfl) (Nat.le_of_ble_eq_true rfl)
set_option maxHeartbeats 4000000 in
set_option maxRecDepth 20000 in
theorem bX7_state_48 (hflag : l.stackTraces = false) (CT : hv_CT p s m args meth c cX7_state 4 wsX7_state RX7 D (hv_tys cy) 55 a) (hr : meth.sig.returnType = (some .long)) {n : Nat} {o : Option Int64 × hv_St} : ∀ (σ : hv_St) (x1 : Int32) (x2 : Int32) (x3 : Int32), kX7_state_48 n σ x1 x2 x3 = some o → hv_G p l e (headSpec wsX7_state rmX7_state).room s m args below meth c 4 D 55 a (hv_XE a cy) 0 0 (hv_XQ D 55 a (hv_XE a cy) below args s (o.1.map (fun x => some (.long x))) o.2 1 6) σ 48 [(0, .ref (a 0)), (1, .int (x1)), (2, .int (x2)), (3, .int (x3))] [] := by
  intro σ x1 x2 x3 h
  unfold kX7_state_48 at h
  have C := CT.1
  refine g_iconst (pc := 48) C (v := (1 : Int32)) dX7_state_48 (by decide) ?_
  refine g_goto (pc := 49) C (tgt := 53) dX7_state_49 (by decide) ?_
  exact g_lv [0, 1, 2, 3] rfl (bX7_state_53 hflag CT hr σ (x1) (x2) (x3) ((1 : Int32)) h)
set_option maxHeartbeats 4000000 in
set_option maxRecDepth 20000 in
theorem bX7_state_52 (hflag : l.stackTraces = false) (CT : hv_CT p s m args meth c cX7_state 4 wsX7_state RX7 D (hv_tys cy) 55 a) (hr : meth.sig.returnType = (some .long)) {n : Nat} {o : Option Int64 × hv_St} : ∀ (σ : hv_St) (x1 : Int32) (x2 : Int32) (x3 : Int32), kX7_state_52 n σ x1 x2 x3 = some o → hv_G p l e (headSpec wsX7_state rmX7_state).room s m args below meth c 4 D 55 a (hv_XE a cy) 0 0 (hv_XQ D 55 a (hv_XE a cy) below args s (o.1.map (fun x => some (.long x))) o.2 1 6) σ 52 [(0, .ref (a 0)), (1, .int (x1)), (2, .int (x2)), (3, .int (x3))] [] := by
  intro σ x1 x2 x3 h
  unfold kX7_state_52 at h
  have C := CT.1
  refine g_iconst (pc := 52) C (v := (0 : Int32)) dX7_state_52 (by decide) ?_
  exact g_lv [0, 1, 2, 3] rfl (bX7_state_53 hflag CT hr σ (x1) (x2) (x3) ((0 : Int32)) h)
set_option maxHeartbeats 4000000 in
set_option maxRecDepth 20000 in
theorem vX7_state (hflag : l.stackTraces = false) {n : Nat} {σ : hv_St} {p0 : Int32} {p1 : Int32} {p2 : Int32} {o : Option Int64 × hv_St} (h : mX7_state n σ p0 p1 p2 = some o) : hv_XM l yX7_state wsX7_state rmX7_state D (hv_tys cy) 55 a (hv_XE a cy) 1 6 [.ref (a 0), .int (p0), .int (p1), .int (p2)] σ (o.1.map (fun x => some (.long x))) o.2 := by
  refine hv_xenter (own := RX7) (cc := cX7_state) (maxL := 4) (ret := (some .long)) (by decide) rfl rfl (Nat.le_of_ble_eq_true rfl) ?_
  intro p e s m args below meth c CT hr
  have C := CT.1
  unfold mX7_state at h
  refine g_lv [0, 1, 2, 3] (lv' := [(0, .ref (a 0)), (1, .int (p0)), (2, .int (p1)), (3, .int (p2))]) rfl ?_
  refine g_aload_n (pc := 0) C 0 dX7_state_0 rfl rfl ?_
  refine gx_get_0_0 (pc := 1) C iX7_state_X7 qX7_state_F17 dX7_state_1 ?_
  refine g_iload_n (pc := 4) C 2 dX7_state_4 rfl rfl ?_
  obtain ⟨r5, s5, hc5, h⟩ := hv_b2_some h
  refine g_callV (pc := 5) (σ1 := s5) (v := (some (.int (r5)))) (As := [.int (p1)]) (rest := []) C 1 (vX3_isOn hc5) (cwV 1 C.1.2.2.2.2 gX7_state_X3_isOn rfl rfl rfl (by decide +kernel) ⟨Nat.le_of_ble_eq_true rfl, Nat.le_of_ble_eq_true rfl⟩) (Nat.le_of_ble_eq_true rfl) rfl rfl rfl rfl (Nat.le_of_ble_eq_true rfl) dX7_state_5 ⟨Nat.le_of_ble_eq_true rfl, Nat.le_of_ble_eq_true rfl⟩ ?_
  refine g_st (st' := [.int (r5)]) rfl ?_
  refine g_if_eq (pc := 8) (tgt := 52) C dX7_state_8 (by decide) (fun c8 => ?_) (fun c8 => ?_)
  · rw [if_pos c8] at h
    exact g_lv [0, 1, 2, 3] rfl (bX7_state_52 hflag CT hr s5 (p0) (p1) (p2) h)
  · rw [if_neg c8] at h
    refine g_aload_n (pc := 11) C 0 dX7_state_11 rfl rfl ?_
    refine g_aload_n (pc := 12) C 0 dX7_state_12 rfl rfl ?_
    refine gx_get_0_0 (pc := 13) C iX7_state_X7 qX7_state_F17 dX7_state_13 ?_
    refine gx_get_1_2 (pc := 16) C iX7_state_X3 qX7_state_F97 dX7_state_16 ?_
    refine g_aload_n (pc := 19) C 0 dX7_state_19 rfl rfl ?_
    refine gx_get_0_0 (pc := 20) C iX7_state_X7 qX7_state_F17 dX7_state_20 ?_
    refine gx_get_1_4 (pc := 23) C iX7_state_X3 qX7_state_F117 dX7_state_23 ?_
    obtain ⟨r26, s26, hc26, h⟩ := hv_b2_some h
    refine g_callV (pc := 26) (σ1 := s26) (v := (some (.int (r26)))) (As := [.int (s5.1 1 2), .ref (a 3)]) (rest := []) C 0 (vX7_bears (Or.inl rfl) hc26) (cwV 2 C.1.2.2.2.2 gX7_state_X7_bears rfl rfl rfl (by decide +kernel) ⟨Nat.le_of_ble_eq_true rfl, Nat.le_of_ble_eq_true rfl⟩) (Nat.le_of_ble_eq_true rfl) rfl rfl rfl rfl (Nat.le_of_ble_eq_true rfl) dX7_state_26 ⟨Nat.le_of_ble_eq_true rfl, Nat.le_of_ble_eq_true rfl⟩ ?_
    refine g_st (st' := [.int (r26)]) rfl ?_
    refine g_if_eq (pc := 29) (tgt := 52) C dX7_state_29 (by decide) (fun c29 => ?_) (fun c29 => ?_)
    · rw [if_pos c29] at h
      exact g_lv [0, 1, 2, 3] rfl (bX7_state_52 hflag CT hr s26 (p0) (p1) (p2) h)
    · rw [if_neg c29] at h
      refine g_iload_n (pc := 32) C 1 dX7_state_32 rfl rfl ?_
      refine g_iconst (pc := 33) C (v := (-1 : Int32)) dX7_state_33 (by decide) ?_
      refine g_icmp_eq (pc := 34) (tgt := 48) C dX7_state_34 (by decide) (fun c34 => ?_) (fun c34 => ?_)
      · rw [if_pos c34] at h
        exact g_lv [0, 1, 2, 3] rfl (bX7_state_48 hflag CT hr s26 (p0) (p1) (p2) h)
      · rw [if_neg c34] at h
        refine g_aload_n (pc := 37) C 0 dX7_state_37 rfl rfl ?_
        refine gx_get_0_2 (pc := 38) C iX7_state_X7 qX7_state_F30 dX7_state_38 ?_
        refine g_iload_n (pc := 41) C 1 dX7_state_41 rfl rfl ?_
        obtain ⟨r42, s42, hc42, h⟩ := hv_b2_some h
        refine g_callV (pc := 42) (σ1 := s42) (v := (some (.int (r42)))) (As := [.int (p0)]) (rest := []) C 13 (vX5_isSpare hc42) (cwV 1 C.1.2.2.2.2 gX7_state_X5_isSpare rfl rfl rfl (by decide +kernel) ⟨Nat.le_of_ble_eq_true rfl, Nat.le_of_ble_eq_true rfl⟩) (Nat.le_of_ble_eq_true rfl) rfl rfl rfl rfl (Nat.le_of_ble_eq_true rfl) dX7_state_42 ⟨Nat.le_of_ble_eq_true rfl, Nat.le_of_ble_eq_true rfl⟩ ?_
        refine g_st (st' := [.int (r42)]) rfl ?_
        refine g_if_eq (pc := 45) (tgt := 52) C dX7_state_45 (by decide) (fun c45 => ?_) (fun c45 => ?_)
        · rw [if_pos c45] at h
          exact g_lv [0, 1, 2, 3] rfl (bX7_state_52 hflag CT hr s42 (p0) (p1) (p2) h)
        · rw [if_neg c45] at h
          exact g_lv [0, 1, 2, 3] rfl (bX7_state_48 hflag CT hr s42 (p0) (p1) (p2) h)
end
