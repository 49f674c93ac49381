/-! class, walked: X7_without, X7_keys, X7_mend, X7_told, X7_toldPull, X7_need, X7_of, X7_at, X7_pull, X7_state, X7_flex, X7_force, X7_influence, X7_cut, X7_riding, X7_left -/
section
variable {p : Program} {l : Launch} {e : Env} {s : State} {m : MethodId} {args : Array Value} {below : List Frame} {meth : Method} {c : Code} {D : va_G} {a : Nat → Nat} {cy : ClassId × ClassId × ClassId × ClassId}
abbrev rmX7_without : Room := { frames := 5, cells := 0, slots := 0, locals := 119 }
set_option maxRecDepth 20000 in
theorem qX7_without_F17 : Cond.fieldLink RX7 17 "PinFrame" "frame" "LPinFrame$Frame;" ∈ wsX7_without := by decide +kernel
set_option maxRecDepth 20000 in
theorem qX7_without_F21 : Cond.fieldLink RX7 21 "PinFrame" "balance" "LPinFrame$Balance;" ∈ wsX7_without := by decide +kernel
set_option maxRecDepth 20000 in
theorem qX7_without_F97 : Cond.fieldLink RX7 97 "PinFrame$Frame" "on" "I" ∈ wsX7_without := by decide +kernel
set_option maxRecDepth 20000 in
theorem iX7_without_X3 : ∀ w ∈ u_ws RX3 TX3 10, w ∈ wsX7_without := by decide +kernel
set_option maxRecDepth 20000 in
theorem iX7_without_X7 : ∀ w ∈ u_ws RX7 TX7 7, w ∈ wsX7_without := by decide +kernel
set_option maxHeartbeats 4000000 in
set_option maxRecDepth 20000 in
theorem vX7_without {n : Nat} {σ : hv_St} {p0 : Int32} {o : Int32 × hv_St} (h : mX7_without n σ p0 = some o) : hv_M l yX7_without wsX7_without rmX7_without D (hv_tys cy) 55 a (hv_XE a cy) [.ref (a 0), .int (p0)] σ (some (.int o.1)) o.2 := by
  refine hv_enter (own := RX7) (cc := cX7_without) (maxL := 2) (ret := (some .int)) (by decide) rfl rfl (Nat.le_of_ble_eq_true rfl) ?_
  intro p e s m args below meth c C hr
  unfold mX7_without at h
  refine g_lv [0, 1] (lv' := [(0, .ref (a 0)), (1, .int (p0))]) rfl ?_
  refine g_aload_n (pc := 0) C 0 dX7_without_0 rfl rfl ?_
  refine gx_get_0_0 (pc := 1) C iX7_without_X7 qX7_without_F17 dX7_without_1 ?_
  refine g_iload_n (pc := 4) C 1 dX7_without_4 rfl rfl ?_
  obtain ⟨r5, s5, hc5, h⟩ := hv_b2_some h
  refine g_callV (pc := 5) (σ1 := s5) (v := (some (.int (r5)))) (As := [.int (p0)]) (rest := []) C 1 (vX3_isOn hc5) (cwV 1 C.1.2.2.2.2 gX7_without_X3_isOn rfl rfl rfl (by decide +kernel) ⟨Nat.le_of_ble_eq_true rfl, Nat.le_of_ble_eq_true rfl⟩) (Nat.le_of_ble_eq_true rfl) rfl rfl rfl rfl (Nat.le_of_ble_eq_true rfl) dX7_without_5 ⟨Nat.zero_le _, Nat.zero_le _⟩ ?_
  refine g_st (st' := [.int (r5)]) rfl ?_
  refine g_if_ne (pc := 8) (tgt := 13) C dX7_without_8 (by decide) (fun c8 => ?_) (fun c8 => ?_)
  · rw [if_neg c8] at h
    refine g_aload_n (pc := 13) C 0 dX7_without_13 rfl rfl ?_
    refine gx_get_0_1 (pc := 14) C iX7_without_X7 qX7_without_F21 dX7_without_14 ?_
    refine g_aload_n (pc := 17) C 0 dX7_without_17 rfl rfl ?_
    refine gx_get_0_0 (pc := 18) C iX7_without_X7 qX7_without_F17 dX7_without_18 ?_
    refine gx_get_1_2 (pc := 21) C iX7_without_X3 qX7_without_F97 dX7_without_21 ?_
    refine g_iconst (pc := 24) C (v := (1 : Int32)) dX7_without_24 (by decide) ?_
    refine g_iload_n (pc := 25) C 1 dX7_without_25 rfl rfl ?_
    refine g_ishl (pc := 26) C dX7_without_26 ?_
    refine g_iconst (pc := 27) C (v := (-1 : Int32)) dX7_without_27 (by decide) ?_
    refine g_ixor (pc := 28) C dX7_without_28 ?_
    refine g_iand (pc := 29) C dX7_without_29 ?_
    obtain ⟨s30, hc30, h⟩ := hv_bd_some h
    refine g_callV (pc := 30) (σ1 := s30) (v := none) (As := [.int ((s5.1 1 2) &&& ((((1 : Int32)) <<< ((p0) &&& 31)) ^^^ ((-1 : Int32))))]) (rest := []) C 9 (vX0_settle hc30) (cwV 1 C.1.2.2.2.2 gX7_without_X0_settle rfl rfl rfl (by decide +kernel) ⟨Nat.le_of_ble_eq_true rfl, Nat.le_of_ble_eq_true rfl⟩) (Nat.le_of_ble_eq_true rfl) rfl rfl rfl rfl (Nat.le_of_ble_eq_true rfl) dX7_without_30 ⟨Nat.zero_le _, Nat.zero_le _⟩ ?_
    refine g_st (st' := []) rfl ?_
    refine g_aload_n (pc := 33) C 0 dX7_without_33 rfl rfl ?_
    refine gx_get_0_1 (pc := 34) C iX7_without_X7 qX7_without_F21 dX7_without_34 ?_
    obtain ⟨r37, s37, hc37, h⟩ := hv_b2_some h
    refine g_callV (pc := 37) (σ1 := s37) (v := (some (.int (r37)))) (As := []) (rest := []) C 9 (vX0_kindNumber hc37) (cwV 0 C.1.2.2.2.2 gX7_without_X0_kindNumber rfl rfl rfl (by decide +kernel) ⟨Nat.le_of_ble_eq_true rfl, Nat.le_of_ble_eq_true rfl⟩) (Nat.le_of_ble_eq_true rfl) rfl rfl rfl rfl (Nat.le_of_ble_eq_true rfl) dX7_without_37 ⟨Nat.zero_le _, Nat.zero_le _⟩ ?_
    refine g_st (st' := [.int (r37)]) rfl ?_
    cases h
    exact g_iret (pc := 40) C hr dX7_without_40
  · rw [if_pos c8] at h
    refine g_iconst (pc := 11) C (v := (-1 : Int32)) dX7_without_11 (by decide) ?_
    cases h
    exact g_iret (pc := 12) C hr dX7_without_12
abbrev rmX7_keys : Room := { frames := 5, cells := 0, slots := 0, locals := 119 }
set_option maxRecDepth 20000 in
theorem qX7_keys_F17 : Cond.fieldLink RX7 17 "PinFrame" "frame" "LPinFrame$Frame;" ∈ wsX7_keys := by decide +kernel
set_option maxRecDepth 20000 in
theorem qX7_keys_F21 : Cond.fieldLink RX7 21 "PinFrame" "balance" "LPinFrame$Balance;" ∈ wsX7_keys := by decide +kernel
set_option maxRecDepth 20000 in
theorem qX7_keys_F97 : Cond.fieldLink RX7 97 "PinFrame$Frame" "on" "I" ∈ wsX7_keys := by decide +kernel
set_option maxRecDepth 20000 in
theorem iX7_keys_X3 : ∀ w ∈ u_ws RX3 TX3 10, w ∈ wsX7_keys := by decide +kernel
set_option maxRecDepth 20000 in
theorem iX7_keys_X7 : ∀ w ∈ u_ws RX7 TX7 7, w ∈ wsX7_keys := by decide +kernel
set_option maxHeartbeats 4000000 in
set_option maxRecDepth 20000 in
theorem vX7_keys {n : Nat} {σ : hv_St} {o : Int32 × hv_St} (h : mX7_keys n σ = some o) : hv_M l yX7_keys wsX7_keys rmX7_keys D (hv_tys cy) 55 a (hv_XE a cy) [.ref (a 0)] σ (some (.int o.1)) o.2 := by
  refine hv_enter (own := RX7) (cc := cX7_keys) (maxL := 1) (ret := (some .int)) (by decide) rfl rfl (Nat.le_of_ble_eq_true rfl) ?_
  intro p e s m args below meth c C hr
  unfold mX7_keys at h
  refine g_lv [0] (lv' := [(0, .ref (a 0))]) rfl ?_
  refine g_aload_n (pc := 0) C 0 dX7_keys_0 rfl rfl ?_
  refine gx_get_0_1 (pc := 1) C iX7_keys_X7 qX7_keys_F21 dX7_keys_1 ?_
  refine g_aload_n (pc := 4) C 0 dX7_keys_4 rfl rfl ?_
  refine gx_get_0_0 (pc := 5) C iX7_keys_X7 qX7_keys_F17 dX7_keys_5 ?_
  refine gx_get_1_2 (pc := 8) C iX7_keys_X3 qX7_keys_F97 dX7_keys_8 ?_
  obtain ⟨s11, hc11, h⟩ := hv_bd_some h
  refine g_callV (pc := 11) (σ1 := s11) (v := none) (As := [.int (σ.1 1 2)]) (rest := []) C 9 (vX0_settle hc11) (cwV 1 C.1.2.2.2.2 gX7_keys_X0_settle rfl rfl rfl (by decide +kernel) ⟨Nat.le_of_ble_eq_true rfl, Nat.le_of_ble_eq_true rfl⟩) (Nat.le_of_ble_eq_true rfl) rfl rfl rfl rfl (Nat.le_of_ble_eq_true rfl) dX7_keys_11 ⟨Nat.zero_le _, Nat.zero_le _⟩ ?_
  refine g_st (st' := []) rfl ?_
  refine g_aload_n (pc := 14) C 0 dX7_keys_14 rfl rfl ?_
  refine gx_get_0_1 (pc := 15) C iX7_keys_X7 qX7_keys_F21 dX7_keys_15 ?_
  obtain ⟨r18, s18, hc18, h⟩ := hv_b2_some h
  refine g_callV (pc := 18) (σ1 := s18) (v := (some (.int (r18)))) (As := []) (rest := []) C 9 (vX0_neededBars hc18) (cwV 0 C.1.2.2.2.2 gX7_keys_X0_neededBars rfl rfl rfl (by decide +kernel) ⟨Nat.le_of_ble_eq_true rfl, Nat.le_of_ble_eq_true rfl⟩) (Nat.le_of_ble_eq_true rfl) rfl rfl rfl rfl (Nat.le_of_ble_eq_true rfl) dX7_keys_18 ⟨Nat.zero_le _, Nat.zero_le _⟩ ?_
  refine g_st (st' := [.int (r18)]) rfl ?_
  cases h
  exact g_iret (pc := 21) C hr dX7_keys_21
abbrev rmX7_mend : Room := { frames := 5, cells := 0, slots := 0, locals := 119 }
set_option maxRecDepth 20000 in
theorem qX7_mend_F17 : Cond.fieldLink RX7 17 "PinFrame" "frame" "LPinFrame$Frame;" ∈ wsX7_mend := by decide +kernel
set_option maxRecDepth 20000 in
theorem qX7_mend_F21 : Cond.fieldLink RX7 21 "PinFrame" "balance" "LPinFrame$Balance;" ∈ wsX7_mend := by decide +kernel
set_option maxRecDepth 20000 in
theorem qX7_mend_F263 : Cond.fieldLink RX7 263 "PinFrame$Balance" "base" "I" ∈ wsX7_mend := by decide +kernel
set_option maxRecDepth 20000 in
theorem qX7_mend_F78 : Cond.fieldLink RX7 78 "PinFrame$Frame" "bars" "I" ∈ wsX7_mend := by decide +kernel
set_option maxRecDepth 20000 in
theorem qX7_mend_F97 : Cond.fieldLink RX7 97 "PinFrame$Frame" "on" "I" ∈ wsX7_mend := by decide +kernel
set_option maxRecDepth 20000 in
theorem iX7_mend_X0 : ∀ w ∈ u_ws RX0 TX0 9, w ∈ wsX7_mend := by decide +kernel
set_option maxRecDepth 20000 in
theorem iX7_mend_X3 : ∀ w ∈ u_ws RX3 TX3 10, w ∈ wsX7_mend := by decide +kernel
set_option maxRecDepth 20000 in
theorem iX7_mend_X7 : ∀ w ∈ u_ws RX7 TX7 7, w ∈ wsX7_mend := by decide +kernel
set_option maxHeartbeats 4000000 in
set_option maxRecDepth 20000 in
theorem vX7_mend {n : Nat} {σ : hv_St} {p0 : Int32} {o : Int32 × hv_St} (h : mX7_mend n σ p0 = some o) : hv_M l yX7_mend wsX7_mend rmX7_mend D (hv_tys cy) 55 a (hv_XE a cy) [.ref (a 0), .int (p0)] σ (some (.int o.1)) o.2 := by
  refine hv_enter (own := RX7) (cc := cX7_mend) (maxL := 3) (ret := (some .int)) (by decide) rfl rfl (Nat.le_of_ble_eq_true rfl) ?_
  intro p e s m args below meth c C hr
  unfold mX7_mend at h
  refine g_lv [0, 1] (lv' := [(0, .ref (a 0)), (1, .int (p0))]) rfl ?_
  refine g_aload_n (pc := 0) C 0 dX7_mend_0 rfl rfl ?_
  refine gx_get_0_1 (pc := 1) C iX7_mend_X7 qX7_mend_F21 dX7_mend_1 ?_
  refine g_aload_n (pc := 4) C 0 dX7_mend_4 rfl rfl ?_
  refine gx_get_0_0 (pc := 5) C iX7_mend_X7 qX7_mend_F17 dX7_mend_5 ?_
  refine gx_get_1_2 (pc := 8) C iX7_mend_X3 qX7_mend_F97 dX7_mend_8 ?_
  obtain ⟨s11, hc11, h⟩ := hv_bd_some h
  refine g_callV (pc := 11) (σ1 := s11) (v := none) (As := [.int (σ.1 1 2)]) (rest := []) C 9 (vX0_settle hc11) (cwV 1 C.1.2.2.2.2 gX7_mend_X0_settle rfl rfl rfl (by decide +kernel) ⟨Nat.le_of_ble_eq_true rfl, Nat.le_of_ble_eq_true rfl⟩) (Nat.le_of_ble_eq_true rfl) rfl rfl rfl rfl (Nat.le_of_ble_eq_true rfl) dX7_mend_11 ⟨Nat.zero_le _, Nat.zero_le _⟩ ?_
  refine g_st (st' := []) rfl ?_
  refine g_aload_n (pc := 14) C 0 dX7_mend_14 rfl rfl ?_
  refine gx_get_0_1 (pc := 15) C iX7_mend_X7 qX7_mend_F21 dX7_mend_15 ?_
  refine g_iconst (pc := 18) C (v := (1 : Int32)) dX7_mend_18 (by decide) ?_
  refine g_aload_n (pc := 19) C 0 dX7_mend_19 rfl rfl ?_
  refine gx_get_0_0 (pc := 20) C iX7_mend_X7 qX7_mend_F17 dX7_mend_20 ?_
  refine gx_get_1_1 (pc := 23) C iX7_mend_X3 qX7_mend_F78 dX7_mend_23 ?_
  refine g_ishl (pc := 26) C dX7_mend_26 ?_
  refine g_iconst (pc := 27) C (v := (1 : Int32)) dX7_mend_27 (by decide) ?_
  refine g_isub (pc := 28) C dX7_mend_28 ?_
  refine g_aload_n (pc := 29) C 0 dX7_mend_29 rfl rfl ?_
  refine gx_get_0_0 (pc := 30) C iX7_mend_X7 qX7_mend_F17 dX7_mend_30 ?_
  refine gx_get_1_2 (pc := 33) C iX7_mend_X3 qX7_mend_F97 dX7_mend_33 ?_
  refine g_iconst (pc := 36) C (v := (-1 : Int32)) dX7_mend_36 (by decide) ?_
  refine g_ixor (pc := 37) C dX7_mend_37 ?_
  refine g_iand (pc := 38) C dX7_mend_38 ?_
  obtain ⟨s39, hc39, h⟩ := hv_bd_some h
  refine g_callV (pc := 39) (σ1 := s39) (v := none) (As := [.int (((((1 : Int32)) <<< ((s11.1 1 1) &&& 31)) - ((1 : Int32))) &&& ((s11.1 1 2) ^^^ ((-1 : Int32))))]) (rest := []) C 9 (vX0_extend hc39) (cwV 1 C.1.2.2.2.2 gX7_mend_X0_extend rfl rfl rfl (by decide +kernel) ⟨Nat.le_of_ble_eq_true rfl, Nat.le_of_ble_eq_true rfl⟩) (Nat.le_of_ble_eq_true rfl) rfl rfl rfl rfl (Nat.le_of_ble_eq_true rfl) dX7_mend_39 ⟨Nat.zero_le _, Nat.zero_le _⟩ ?_
  refine g_st (st' := []) rfl ?_
  refine g_aload_n (pc := 42) C 0 dX7_mend_42 rfl rfl ?_
  refine gx_get_0_1 (pc := 43) C iX7_mend_X7 qX7_mend_F21 dX7_mend_43 ?_
  obtain ⟨r46, s46, hc46, h⟩ := hv_b2_some h
  refine g_callV (pc := 46) (σ1 := s46) (v := (some (.int (r46)))) (As := []) (rest := []) C 9 (vX0_kindNumber hc46) (cwV 0 C.1.2.2.2.2 gX7_mend_X0_kindNumber rfl rfl rfl (by decide +kernel) ⟨Nat.le_of_ble_eq_true rfl, Nat.le_of_ble_eq_true rfl⟩) (Nat.le_of_ble_eq_true rfl) rfl rfl rfl rfl (Nat.le_of_ble_eq_true rfl) dX7_mend_46 ⟨Nat.zero_le _, Nat.zero_le _⟩ ?_
  refine g_st (st' := [.int (r46)]) rfl ?_
  refine g_if_ne (pc := 49) (tgt := 54) C dX7_mend_49 (by decide) (fun c49 => ?_) (fun c49 => ?_)
  · rw [if_neg c49] at h
    refine g_aload_n (pc := 54) C 0 dX7_mend_54 rfl rfl ?_
    refine gx_get_0_1 (pc := 55) C iX7_mend_X7 qX7_mend_F21 dX7_mend_55 ?_
    refine gx_get_9_6 (pc := 58) C iX7_mend_X0 qX7_mend_F263 dX7_mend_58 ?_
    refine g_aload_n (pc := 61) C 0 dX7_mend_61 rfl rfl ?_
    refine gx_get_0_0 (pc := 62) C iX7_mend_X7 qX7_mend_F17 dX7_mend_62 ?_
    refine gx_get_1_2 (pc := 65) C iX7_mend_X3 qX7_mend_F97 dX7_mend_65 ?_
    refine g_iconst (pc := 68) C (v := (-1 : Int32)) dX7_mend_68 (by decide) ?_
    refine g_ixor (pc := 69) C dX7_mend_69 ?_
    refine g_iand (pc := 70) C dX7_mend_70 ?_
    obtain ⟨y2_71, ey2_71, h⟩ := hv_let_some h
    refine g_istore_n (pc := 71) C (lv' := [(2, .int (y2_71)), (0, .ref (a 0)), (1, .int (p0))]) ey2_71 dX7_mend_71 rfl (Nat.le_of_ble_eq_true rfl) rfl ?_
    refine g_iload_n (pc := 72) C 2 dX7_mend_72 rfl rfl ?_
    refine g_if_eq (pc := 73) (tgt := 80) C dX7_mend_73 (by decide) (fun c73 => ?_) (fun c73 => ?_)
    · rw [if_pos c73] at h
      refine g_iload_n (pc := 80) C 0 dX7_mend_80 rfl rfl ?_
      obtain ⟨r81, s81, hc81, h⟩ := hv_b2_some h
      refine g_callS (pc := 81) (σ1 := s81) (v := (some (.int (r81)))) (As := [.int (y2_71)]) (rest := []) C (vJ6_bitCount_0f7a4 hc81) (va_cwS 1 C.1.2.2.2.2 gX7_mend_J6_bitCount_0f7a4 rfl rfl rfl (by decide +kernel) ⟨Nat.le_of_ble_eq_true rfl, Nat.le_of_ble_eq_true rfl⟩) rfl rfl (Nat.le_of_ble_eq_true rfl) dX7_mend_81 ⟨Nat.zero_le _, Nat.zero_le _⟩ ?_
      refine g_st (st' := [.int (r81)]) rfl ?_
      cases h
      exact g_iret (pc := 84) C hr dX7_mend_84
    · rw [if_neg c73] at h
      refine g_iload_n (pc := 76) C 0 dX7_mend_76 rfl rfl ?_
      refine g_goto (pc := 77) C (tgt := 84) dX7_mend_77 (by decide) ?_
      cases h
      exact g_iret (pc := 84) C hr dX7_mend_84
  · rw [if_pos c49] at h
    refine g_iconst (pc := 52) C (v := (-1 : Int32)) dX7_mend_52 (by decide) ?_
    cases h
    exact g_iret (pc := 53) C hr dX7_mend_53
abbrev rmX7_told : Room := { frames := 2, cells := 0, slots := 0, locals := 58 }
set_option maxRecDepth 20000 in
theorem qX7_told_F290 : Cond.fieldLink RX7 290 "PinFrame$Fraction" "under" "J" ∈ wsX7_told := by decide +kernel
set_option maxRecDepth 20000 in
theorem qX7_told_F291 : Cond.fieldLink RX7 291 "PinFrame$Fraction" "over" "J" ∈ wsX7_told := by decide +kernel
set_option maxRecDepth 20000 in
theorem qX7_told_F58 : Cond.fieldLink RX7 58 "PinFrame" "fraction" "LPinFrame$Fraction;" ∈ wsX7_told := by decide +kernel
set_option maxRecDepth 20000 in
theorem iX7_told_X2 : ∀ w ∈ u_ws RX2 TX2 2, w ∈ wsX7_told := by decide +kernel
set_option maxRecDepth 20000 in
theorem iX7_told_X7 : ∀ w ∈ u_ws RX7 TX7 7, w ∈ wsX7_told := by decide +kernel
set_option maxHeartbeats 4000000 in
set_option maxRecDepth 20000 in
theorem vX7_told {n : Nat} {σ : hv_St} {p0 : Int64} {p1 : Int64} {p2 : Int32} {o : Int64 × hv_St} (h : mX7_told n σ p0 p1 p2 = some o) : hv_M l yX7_told wsX7_told rmX7_told D (hv_tys cy) 55 a (hv_XE a cy) [.ref (a 0), .long (p0), .long (p1), .int (p2)] σ (some (.long o.1)) o.2 := by
  refine hv_enter (own := RX7) (cc := cX7_told) (maxL := 6) (ret := (some .long)) (by decide) rfl rfl (Nat.le_of_ble_eq_true rfl) ?_
  intro p e s m args below meth c C hr
  unfold mX7_told at h
  refine g_lv [0, 1, 2, 3] (lv' := [(0, .ref (a 0)), (1, .long (p0)), (3, .long (p1)), (5, .int (p2))]) rfl ?_
  refine g_aload_n (pc := 0) C 0 dX7_told_0 rfl rfl ?_
  refine gx_get_0_6 (pc := 1) C iX7_told_X7 qX7_told_F58 dX7_told_1 ?_
  refine g_lload_n (pc := 4) C 1 dX7_told_4 rfl rfl ?_
  refine g_lload_n (pc := 5) C 2 dX7_told_5 rfl rfl ?_
  obtain ⟨s6, hc6, h⟩ := hv_bd_some h
  refine g_callV (pc := 6) (σ1 := s6) (v := none) (As := [.long (p0), .long (p1)]) (rest := []) C 26 (vX2_reduce hc6) (cwV 2 C.1.2.2.2.2 gX7_told_X2_reduce rfl rfl rfl (by decide +kernel) ⟨Nat.le_of_ble_eq_true rfl, Nat.le_of_ble_eq_true rfl⟩) (Nat.le_of_ble_eq_true rfl) rfl rfl rfl rfl (Nat.le_of_ble_eq_true rfl) dX7_told_6 ⟨Nat.zero_le _, Nat.zero_le _⟩ ?_
  refine g_st (st' := []) rfl ?_
  refine g_iload (pc := 9) C 3 dX7_told_9 rfl ?_
  refine g_if_eq (pc := 11) (tgt := 24) C dX7_told_11 (by decide) (fun c11 => ?_) (fun c11 => ?_)
  · rw [if_pos c11] at h
    refine g_aload_n (pc := 24) C 0 dX7_told_24 rfl rfl ?_
    refine gx_get_0_6 (pc := 25) C iX7_told_X7 qX7_told_F58 dX7_told_25 ?_
    refine gx_get_26_0 (pc := 28) C iX7_told_X2 qX7_told_F291 dX7_told_28 ?_
    cases h
    exact g_lret (pc := 31) C hr dX7_told_31
  · rw [if_neg c11] at h
    refine g_aload_n (pc := 14) C 0 dX7_told_14 rfl rfl ?_
    refine gx_get_0_6 (pc := 15) C iX7_told_X7 qX7_told_F58 dX7_told_15 ?_
    refine gx_get_26_1 (pc := 18) C iX7_told_X2 qX7_told_F290 dX7_told_18 ?_
    refine g_goto (pc := 21) C (tgt := 31) dX7_told_21 (by decide) ?_
    cases h
    exact g_lret (pc := 31) C hr dX7_told_31
abbrev rmX7_toldPull : Room := { frames := 3, cells := 0, slots := 0, locals := 83 }
set_option maxRecDepth 20000 in
theorem qX7_toldPull_F192 : Cond.fieldLink RX7 192 "PinFrame$Pulls" "whole" "J" ∈ wsX7_toldPull := by decide +kernel
set_option maxRecDepth 20000 in
theorem qX7_toldPull_F30 : Cond.fieldLink RX7 30 "PinFrame" "pulls" "LPinFrame$Pulls;" ∈ wsX7_toldPull := by decide +kernel
set_option maxRecDepth 20000 in
theorem iX7_toldPull_X5 : ∀ w ∈ u_ws RX5 TX5 7, w ∈ wsX7_toldPull := by decide +kernel
set_option maxRecDepth 20000 in
theorem iX7_toldPull_X7 : ∀ w ∈ u_ws RX7 TX7 7, w ∈ wsX7_toldPull := by decide +kernel
set_option maxHeartbeats 4000000 in
set_option maxRecDepth 20000 in
theorem vX7_toldPull {n : Nat} {σ : hv_St} {p0 : Int32} {p1 : Int32} {o : Int64 × hv_St} (h : mX7_toldPull n σ p0 p1 = some o) : hv_M l yX7_toldPull wsX7_toldPull rmX7_toldPull D (hv_tys cy) 55 a (hv_XE a cy) [.ref (a 0), .int (p0), .int (p1)] σ (some (.long o.1)) o.2 := by
  refine hv_enter (own := RX7) (cc := cX7_toldPull) (maxL := 3) (ret := (some .long)) (by decide) rfl rfl (Nat.le_of_ble_eq_true rfl) ?_
  intro p e s m args below meth c C hr
  unfold mX7_toldPull at h
  refine g_lv [0, 1, 2] (lv' := [(0, .ref (a 0)), (1, .int (p0)), (2, .int (p1))]) rfl ?_
  refine g_aload_n (pc := 0) C 0 dX7_toldPull_0 rfl rfl ?_
  refine g_aload_n (pc := 1) C 0 dX7_toldPull_1 rfl rfl ?_
  refine gx_get_0_2 (pc := 2) C iX7_toldPull_X7 qX7_toldPull_F30 dX7_toldPull_2 ?_
  refine g_iload_n (pc := 5) C 1 dX7_toldPull_5 rfl rfl ?_
  obtain ⟨r6, s6, hc6, h⟩ := hv_b2_some h
  refine g_callV (pc := 6) (σ1 := s6) (v := (some (.long (r6)))) (As := [.int (p0)]) (rest := [.ref (a 0)]) C 13 (vX5_overOf hc6) (cwV 1 C.1.2.2.2.2 gX7_toldPull_X5_overOf rfl rfl rfl (by decide +kernel) ⟨Nat.le_of_ble_eq_true rfl, Nat.le_of_ble_eq_true rfl⟩) (Nat.le_of_ble_eq_true rfl) rfl rfl rfl rfl (Nat.le_of_ble_eq_true rfl) dX7_toldPull_6 ⟨Nat.zero_le _, Nat.zero_le _⟩ ?_
  refine g_st (st' := [.long (r6), .ref (a 0)]) rfl ?_
  refine g_aload_n (pc := 9) C 0 dX7_toldPull_9 rfl rfl ?_
  refine gx_get_0_2 (pc := 10) C iX7_toldPull_X7 qX7_toldPull_F30 dX7_toldPull_10 ?_
  refine gx_get_13_6 (pc := 13) C iX7_toldPull_X5 qX7_toldPull_F192 dX7_toldPull_13 ?_
  refine g_iload_n (pc := 16) C 2 dX7_toldPull_16 rfl rfl ?_
  obtain ⟨r17, s17, hc17, h⟩ := hv_b2_some h
  refine g_callV (pc := 17) (σ1 := s17) (v := (some (.long (r17)))) (As := [.long (r6), .long (s6.2 13 6), .int (p1)]) (rest := []) C 0 (vX7_told hc17) (cwV 3 C.1.2.2.2.2 gX7_toldPull_X7_told rfl rfl rfl (by decide +kernel) ⟨Nat.le_of_ble_eq_true rfl, Nat.le_of_ble_eq_true rfl⟩) (Nat.le_of_ble_eq_true rfl) rfl rfl rfl rfl (Nat.le_of_ble_eq_true rfl) dX7_toldPull_17 ⟨Nat.zero_le _, Nat.zero_le _⟩ ?_
  refine g_st (st' := [.long (r17)]) rfl ?_
  cases h
  exact g_lret (pc := 20) C hr dX7_toldPull_20
abbrev rmX7_need : Room := { frames := 6, cells := 1, slots := 6, locals := 89 }
set_option maxRecDepth 20000 in
theorem qX7_need_TK : Cond.classLink RX7 150 hv_nse ∈ wsX7_need := by decide +kernel
set_option maxRecDepth 20000 in
theorem qX7_need_TI : Cond.initialized hv_nse ∈ wsX7_need := by decide +kernel
set_option maxRecDepth 20000 in
theorem qX7_need_TA : ∀ w ∈ hv_at.filter goodWord, w ∈ wsX7_need := by decide +kernel
set_option maxHeartbeats 4000000 in
set_option maxRecDepth 20000 in
theorem vX7_need (hflag : l.stackTraces = false) {n : Nat} {σ : hv_St} {p0 : Int32} {o : Option Unit × hv_St} (h : mX7_need n σ p0 = some o) : hv_XM l yX7_need wsX7_need rmX7_need D (hv_tys cy) 55 a (hv_XE a cy) 1 6 [.int (p0)] σ (o.1.map (fun _ => none)) o.2 := by
  refine hv_xenter (own := RX7) (cc := cX7_need) (maxL := 1) (ret := none) (by decide) rfl rfl (Nat.le_of_ble_eq_true rfl) ?_
  intro p e s m args below meth c CT hr
  have C := CT.1
  unfold mX7_need at h
  refine g_lv [0] (lv' := [(0, .int (p0))]) rfl ?_
  refine g_iload_n (pc := 0) C 0 dX7_need_0 rfl rfl ?_
  refine g_if_ne (pc := 1) (tgt := 12) C dX7_need_1 (by decide) (fun c1 => ?_) (fun c1 => ?_)
  · rw [if_neg c1] at h
    cases h
    exact g_xvret (pc := 12) CT hr dX7_need_12 (Nat.le_of_ble_eq_true rfl) (Nat.le_of_ble_eq_true rfl)
  · rw [if_pos c1] at h
    cases h
    exact g_throw (pc := 4) CT hflag qX7_need_TK qX7_need_TI qX7_need_TA dX7_need_4 dX7_need_7 dX7_need_8 dX7_need_11 (Nat.le_of_ble_eq_true rfl) (Nat.le_of_ble_eq_true rfl) (Nat.le_of_ble_eq_true rfl) (Nat.le_of_ble_eq_true rfl) (Nat.le_of_ble_eq_true rfl) (Nat.le_of_ble_eq_true rfl)
abbrev rmX7_of : Room := { frames := 7, cells := 2, slots := 12, locals := 109 }
set_option maxRecDepth 20000 in
theorem qX7_of_F110 : Cond.fieldLink RX7 110 "PinFrame$Frame" "held" "[Z" ∈ wsX7_of := by decide +kernel
set_option maxRecDepth 20000 in
theorem qX7_of_F117 : Cond.fieldLink RX7 117 "PinFrame$Frame" "loads" "[I" ∈ wsX7_of := by decide +kernel
set_option maxRecDepth 20000 in
theorem qX7_of_F144 : Cond.fieldLink RX7 144 "PinFrame$Frame" "spot" "[I" ∈ wsX7_of := by decide +kernel
set_option maxRecDepth 20000 in
theorem qX7_of_F17 : Cond.fieldLink RX7 17 "PinFrame" "frame" "LPinFrame$Frame;" ∈ wsX7_of := by decide +kernel
set_option maxRecDepth 20000 in
theorem qX7_of_TK : Cond.classLink RX7 150 hv_nse ∈ wsX7_of := by decide +kernel
set_option maxRecDepth 20000 in
theorem qX7_of_TI : Cond.initialized hv_nse ∈ wsX7_of := by decide +kernel
set_option maxRecDepth 20000 in
theorem qX7_of_TA : ∀ w ∈ hv_at.filter goodWord, w ∈ wsX7_of := by decide +kernel
set_option maxRecDepth 20000 in
theorem iX7_of_X3 : ∀ w ∈ u_ws RX3 TX3 10, w ∈ wsX7_of := by decide +kernel
set_option maxRecDepth 20000 in
theorem iX7_of_X7 : ∀ w ∈ u_ws RX7 TX7 7, w ∈ wsX7_of := by decide +kernel
set_option maxHeartbeats 4000000 in
set_option maxRecDepth 20000 in
theorem bX7_of_123 (hflag : l.stackTraces = false) (CT : hv_CT p s m args meth c cX7_of 3 wsX7_of RX7 D (hv_tys cy) 55 a) (hr : meth.sig.returnType = (some .int)) {n : Nat} {o : Option Int32 × hv_St} : ∀ (σ : hv_St) (x1 : Int32) (z0 : Int32), kX7_of_123 n σ x1 z0 = some o → hv_G p l e (headSpec wsX7_of rmX7_of).room s m args below meth c 3 D 55 a (hv_XE a cy) 1 6 (hv_XQ D 55 a (hv_XE a cy) below args s (o.1.map (fun x => some (.int x))) o.2 2 12) σ 123 [(0, .ref (a 0)), (1, .int (x1))] [.int (z0)] := by
  intro σ x1 z0 h
  unfold kX7_of_123 at h
  have C := CT.1
  refine g_aload_n (pc := 123) C 0 dX7_of_123 rfl rfl ?_
  refine gx_get_0_0 (pc := 124) C iX7_of_X7 qX7_of_F17 dX7_of_124 ?_
  refine gx_get_1_5 (pc := 127) C iX7_of_X3 qX7_of_F110 dX7_of_127 ?_
  refine g_iconst (pc := 130) C (v := (2 : Int32)) dX7_of_130 (by decide) ?_
  refine g_iload_n (pc := 131) C 1 dX7_of_131 rfl rfl ?_
  refine g_imul (pc := 132) C dX7_of_132 ?_
  refine g_iconst (pc := 133) C (v := (1 : Int32)) dX7_of_133 (by decide) ?_
  refine g_iadd (pc := 134) C dX7_of_134 ?_
  obtain ⟨k135, h⟩ := hv_if_some h
  refine gx_ld_4 (pc := 135) C k135 dX7_of_135 ?_
  refine g_if_eq (pc := 136) (tgt := 143) C dX7_of_136 (by decide) (fun c136 => ?_) (fun c136 => ?_)
  · rw [if_pos c136] at h
    refine g_iconst (pc := 143) C (v := (0 : Int32)) dX7_of_143 (by decide) ?_
    refine g_iadd (pc := 144) C dX7_of_144 ?_
    cases h
    exact g_xiret (pc := 145) CT hr dX7_of_145 (Nat.le_of_ble_eq_true rfl) (Nat.le_of_ble_eq_true rfl)
  · rw [if_neg c136] at h
    refine g_iconst (pc := 139) C (v := (2 : Int32)) dX7_of_139 (by decide) ?_
    refine g_goto (pc := 140) C (tgt := 144) dX7_of_140 (by decide) ?_
    refine g_iadd (pc := 144) C dX7_of_144 ?_
    cases h
    exact g_xiret (pc := 145) CT hr dX7_of_145 (Nat.le_of_ble_eq_true rfl) (Nat.le_of_ble_eq_true rfl)
set_option maxHeartbeats 4000000 in
set_option maxRecDepth 20000 in
theorem vX7_of (hflag : l.stackTraces = false) {n : Nat} {σ : hv_St} {p0 : Int32} {p1 : Int32} {o : Option Int32 × hv_St} (h : mX7_of n σ p0 p1 = some o) : hv_XM l yX7_of wsX7_of rmX7_of D (hv_tys cy) 55 a (hv_XE a cy) 2 12 [.ref (a 0), .int (p0), .int (p1)] σ (o.1.map (fun x => some (.int x))) o.2 := by
  refine hv_xenter (own := RX7) (cc := cX7_of) (maxL := 3) (ret := (some .int)) (by decide) rfl rfl (Nat.le_of_ble_eq_true rfl) ?_
  intro p e s m args below meth c CT hr
  have C := CT.1
  unfold mX7_of at h
  refine g_lv [0, 1, 2] (lv' := [(0, .ref (a 0)), (1, .int (p0)), (2, .int (p1))]) rfl ?_
  refine g_aload_n (pc := 0) C 0 dX7_of_0 rfl rfl ?_
  refine gx_get_0_0 (pc := 1) C iX7_of_X7 qX7_of_F17 dX7_of_1 ?_
  refine g_iload_n (pc := 4) C 1 dX7_of_4 rfl rfl ?_
  obtain ⟨r5, s5, hc5, h⟩ := hv_b2_some h
  refine g_callV (pc := 5) (σ1 := s5) (v := (some (.int (r5)))) (As := [.int (p0)]) (rest := []) C 1 (vX3_isPin hc5) (cwV 1 C.1.2.2.2.2 gX7_of_X3_isPin rfl rfl rfl (by decide +kernel) ⟨Nat.le_of_ble_eq_true rfl, Nat.le_of_ble_eq_true rfl⟩) (Nat.le_of_ble_eq_true rfl) rfl rfl rfl rfl (Nat.le_of_ble_eq_true rfl) dX7_of_5 ⟨Nat.le_of_ble_eq_true rfl, Nat.le_of_ble_eq_true rfl⟩ ?_
  refine g_st (st' := [.int (r5)]) rfl ?_
  rcases hv_bx_some h with ⟨s8, hc8, rfl⟩ | ⟨y8, s8, hc8, h⟩
  · exact g_xcallS0 (pc := 8) (σ1 := s8) (As := [.int (r5)]) (rest := []) CT (vX7_need hflag hc8) (va_cwS 1 C.1.2.2.2.2 gX7_of_X7_need rfl rfl rfl (by decide +kernel) ⟨Nat.le_of_ble_eq_true rfl, Nat.le_of_ble_eq_true rfl⟩) rfl rfl (Nat.le_of_ble_eq_true rfl) dX7_of_8 ⟨Nat.le_of_ble_eq_true rfl, Nat.le_of_ble_eq_true rfl⟩ (Nat.le_of_ble_eq_true rfl) (Nat.le_of_ble_eq_true rfl)
  refine g_xcallS (pc := 8) (σ1 := s8) (v := none) (As := [.int (r5)]) (rest := []) CT (vX7_need hflag hc8) (va_cwS 1 C.1.2.2.2.2 gX7_of_X7_need rfl rfl rfl (by decide +kernel) ⟨Nat.le_of_ble_eq_true rfl, Nat.le_of_ble_eq_true rfl⟩) rfl rfl (Nat.le_of_ble_eq_true rfl) dX7_of_8 ⟨Nat.le_of_ble_eq_true rfl, Nat.le_of_ble_eq_true rfl⟩ ?_
  refine g_st (st' := []) rfl ?_
  refine g_iload_n (pc := 11) C 2 dX7_of_11 rfl rfl ?_
  by_cases c12_0 : p1 = (0 : Int32)
  · rw [if_pos c12_0] at h
    refine g_tableIn (pc := 12) (tgt := 52) C dX7_of_12 (by rw [c12_0] <;> decide) (by rw [c12_0] <;> decide) (by rw [c12_0] <;> rfl) (by decide) ?_
    refine g_aload_n (pc := 52) C 0 dX7_of_52 rfl rfl ?_
    refine gx_get_0_0 (pc := 53) C iX7_of_X7 qX7_of_F17 dX7_of_53 ?_
    refine gx_get_1_3 (pc := 56) C iX7_of_X3 qX7_of_F144 dX7_of_56 ?_
    refine g_iconst (pc := 59) C (v := (2 : Int32)) dX7_of_59 (by decide) ?_
    refine g_iload_n (pc := 60) C 1 dX7_of_60 rfl rfl ?_
    refine g_imul (pc := 61) C dX7_of_61 ?_
    obtain ⟨k62, h⟩ := hv_if_some h
    refine gx_ld_2 (pc := 62) C k62 dX7_of_62 ?_
    cases h
    exact g_xiret (pc := 63) CT hr dX7_of_63 (Nat.le_of_ble_eq_true rfl) (Nat.le_of_ble_eq_true rfl)
  · rw [if_neg c12_0] at h
    by_cases c12_1 : p1 = (1 : Int32)
    · rw [if_pos c12_1] at h
      refine g_tableIn (pc := 12) (tgt := 64) C dX7_of_12 (by rw [c12_1] <;> decide) (by rw [c12_1] <;> decide) (by rw [c12_1] <;> rfl) (by decide) ?_
      refine g_aload_n (pc := 64) C 0 dX7_of_64 rfl rfl ?_
      refine gx_get_0_0 (pc := 65) C iX7_of_X7 qX7_of_F17 dX7_of_65 ?_
      refine gx_get_1_3 (pc := 68) C iX7_of_X3 qX7_of_F144 dX7_of_68 ?_
      refine g_iconst (pc := 71) C (v := (2 : Int32)) dX7_of_71 (by decide) ?_
      refine g_iload_n (pc := 72) C 1 dX7_of_72 rfl rfl ?_
      refine g_imul (pc := 73) C dX7_of_73 ?_
      refine g_iconst (pc := 74) C (v := (1 : Int32)) dX7_of_74 (by decide) ?_
      refine g_iadd (pc := 75) C dX7_of_75 ?_
      obtain ⟨k76, h⟩ := hv_if_some h
      refine gx_ld_2 (pc := 76) C k76 dX7_of_76 ?_
      cases h
      exact g_xiret (pc := 77) CT hr dX7_of_77 (Nat.le_of_ble_eq_true rfl) (Nat.le_of_ble_eq_true rfl)
    · rw [if_neg c12_1] at h
      by_cases c12_2 : p1 = (2 : Int32)
      · rw [if_pos c12_2] at h
        refine g_tableIn (pc := 12) (tgt := 78) C dX7_of_12 (by rw [c12_2] <;> decide) (by rw [c12_2] <;> decide) (by rw [c12_2] <;> rfl) (by decide) ?_
        refine g_aload_n (pc := 78) C 0 dX7_of_78 rfl rfl ?_
        refine gx_get_0_0 (pc := 79) C iX7_of_X7 qX7_of_F17 dX7_of_79 ?_
        refine gx_get_1_4 (pc := 82) C iX7_of_X3 qX7_of_F117 dX7_of_82 ?_
        refine g_iconst (pc := 85) C (v := (2 : Int32)) dX7_of_85 (by decide) ?_
        refine g_iload_n (pc := 86) C 1 dX7_of_86 rfl rfl ?_
        refine g_imul (pc := 87) C dX7_of_87 ?_
        obtain ⟨k88, h⟩ := hv_if_some h
        refine gx_ld_3 (pc := 88) C k88 dX7_of_88 ?_
        cases h
        exact g_xiret (pc := 89) CT hr dX7_of_89 (Nat.le_of_ble_eq_true rfl) (Nat.le_of_ble_eq_true rfl)
      · rw [if_neg c12_2] at h
        by_cases c12_3 : p1 = (3 : Int32)
        · rw [if_pos c12_3] at h
          refine g_tableIn (pc := 12) (tgt := 90) C dX7_of_12 (by rw [c12_3] <;> decide) (by rw [c12_3] <;> decide) (by rw [c12_3] <;> rfl) (by decide) ?_
          refine g_aload_n (pc := 90) C 0 dX7_of_90 rfl rfl ?_
          refine gx_get_0_0 (pc := 91) C iX7_of_X7 qX7_of_F17 dX7_of_91 ?_
          refine gx_get_1_4 (pc := 94) C iX7_of_X3 qX7_of_F117 dX7_of_94 ?_
          refine g_iconst (pc := 97) C (v := (2 : Int32)) dX7_of_97 (by decide) ?_
          refine g_iload_n (pc := 98) C 1 dX7_of_98 rfl rfl ?_
          refine g_imul (pc := 99) C dX7_of_99 ?_
          refine g_iconst (pc := 100) C (v := (1 : Int32)) dX7_of_100 (by decide) ?_
          refine g_iadd (pc := 101) C dX7_of_101 ?_
          obtain ⟨k102, h⟩ := hv_if_some h
          refine gx_ld_3 (pc := 102) C k102 dX7_of_102 ?_
          cases h
          exact g_xiret (pc := 103) CT hr dX7_of_103 (Nat.le_of_ble_eq_true rfl) (Nat.le_of_ble_eq_true rfl)
        · rw [if_neg c12_3] at h
          by_cases c12_4 : p1 = (4 : Int32)
          · rw [if_pos c12_4] at h
            refine g_tableIn (pc := 12) (tgt := 104) C dX7_of_12 (by rw [c12_4] <;> decide) (by rw [c12_4] <;> decide) (by rw [c12_4] <;> rfl) (by decide) ?_
            refine g_aload_n (pc := 104) C 0 dX7_of_104 rfl rfl ?_
            refine gx_get_0_0 (pc := 105) C iX7_of_X7 qX7_of_F17 dX7_of_105 ?_
            refine gx_get_1_5 (pc := 108) C iX7_of_X3 qX7_of_F110 dX7_of_108 ?_
            refine g_iconst (pc := 111) C (v := (2 : Int32)) dX7_of_111 (by decide) ?_
            refine g_iload_n (pc := 112) C 1 dX7_of_112 rfl rfl ?_
            refine g_imul (pc := 113) C dX7_of_113 ?_
            obtain ⟨k114, h⟩ := hv_if_some h
            refine gx_ld_4 (pc := 114) C k114 dX7_of_114 ?_
            refine g_if_eq (pc := 115) (tgt := 122) C dX7_of_115 (by decide) (fun c115 => ?_) (fun c115 => ?_)
            · rw [if_pos c115] at h
              refine g_iconst (pc := 122) C (v := (0 : Int32)) dX7_of_122 (by decide) ?_
              exact g_lv [0, 1] rfl (bX7_of_123 hflag CT hr s8 (p0) ((0 : Int32)) h)
            · rw [if_neg c115] at h
              refine g_iconst (pc := 118) C (v := (1 : Int32)) dX7_of_118 (by decide) ?_
              refine g_goto (pc := 119) C (tgt := 123) dX7_of_119 (by decide) ?_
              exact g_lv [0, 1] rfl (bX7_of_123 hflag CT hr s8 (p0) ((1 : Int32)) h)
          · rw [if_neg c12_4] at h
            by_cases c12_5 : p1 = (5 : Int32)
            · rw [if_pos c12_5] at h
              refine g_tableIn (pc := 12) (tgt := 146) C dX7_of_12 (by rw [c12_5] <;> decide) (by rw [c12_5] <;> decide) (by rw [c12_5] <;> rfl) (by decide) ?_
              refine g_aload_n (pc := 146) C 0 dX7_of_146 rfl rfl ?_
              refine gx_get_0_0 (pc := 147) C iX7_of_X7 qX7_of_F17 dX7_of_147 ?_
              refine g_iload_n (pc := 150) C 1 dX7_of_150 rfl rfl ?_
              obtain ⟨r151, s151, hc151, h⟩ := hv_b2_some h
              refine g_callV (pc := 151) (σ1 := s151) (v := (some (.int (r151)))) (As := [.int (p0)]) (rest := []) C 1 (vX3_barsAt hc151) (cwV 1 C.1.2.2.2.2 gX7_of_X3_barsAt rfl rfl rfl (by decide +kernel) ⟨Nat.le_of_ble_eq_true rfl, Nat.le_of_ble_eq_true rfl⟩) (Nat.le_of_ble_eq_true rfl) rfl rfl rfl rfl (Nat.le_of_ble_eq_true rfl) dX7_of_151 ⟨Nat.le_of_ble_eq_true rfl, Nat.le_of_ble_eq_true rfl⟩ ?_
              refine g_st (st' := [.int (r151)]) rfl ?_
              cases h
              exact g_xiret (pc := 154) CT hr dX7_of_154 (Nat.le_of_ble_eq_true rfl) (Nat.le_of_ble_eq_true rfl)
            · rw [if_neg c12_5] at h
              have nc12_0 := lv_neT c12_0 (a := 0) (by decide)
              have nc12_1 := lv_neT c12_1 (a := 1) (by decide)
              have nc12_2 := lv_neT c12_2 (a := 2) (by decide)
              have nc12_3 := lv_neT c12_3 (a := 3) (by decide)
              have nc12_4 := lv_neT c12_4 (a := 4) (by decide)
              have nc12_5 := lv_neT c12_5 (a := 5) (by decide)
              refine g_tableOut (pc := 12) (tgt := 155) C dX7_of_12 (by omega) (by decide) ?_
              cases h
              exact g_throw (pc := 155) CT hflag qX7_of_TK qX7_of_TI qX7_of_TA dX7_of_155 dX7_of_158 dX7_of_159 dX7_of_162 (Nat.le_of_ble_eq_true rfl) (Nat.le_of_ble_eq_true rfl) (Nat.le_of_ble_eq_true rfl) (Nat.le_of_ble_eq_true rfl) (Nat.le_of_ble_eq_true rfl) (Nat.le_of_ble_eq_true rfl)
abbrev rmX7_at : Room := { frames := 7, cells := 2, slots := 12, locals := 119 }
set_option maxRecDepth 20000 in
theorem qX7_at_F100 : Cond.fieldLink RX7 100 "PinFrame$Frame" "strength" "[I" ∈ wsX7_at := by decide +kernel
set_option maxRecDepth 20000 in
theorem qX7_at_F104 : Cond.fieldLink RX7 104 "PinFrame$Frame" "give" "[I" ∈ wsX7_at := by decide +kernel
set_option maxRecDepth 20000 in
theorem qX7_at_F153 : Cond.fieldLink RX7 153 "PinFrame$Frame" "one" "[I" ∈ wsX7_at := by decide +kernel
set_option maxRecDepth 20000 in
theorem qX7_at_F156 : Cond.fieldLink RX7 156 "PinFrame$Frame" "other" "[I" ∈ wsX7_at := by decide +kernel
set_option maxRecDepth 20000 in
theorem qX7_at_F17 : Cond.fieldLink RX7 17 "PinFrame" "frame" "LPinFrame$Frame;" ∈ wsX7_at := by decide +kernel
set_option maxRecDepth 20000 in
theorem qX7_at_F21 : Cond.fieldLink RX7 21 "PinFrame" "balance" "LPinFrame$Balance;" ∈ wsX7_at := by decide +kernel
set_option maxRecDepth 20000 in
theorem qX7_at_F97 : Cond.fieldLink RX7 97 "PinFrame$Frame" "on" "I" ∈ wsX7_at := by decide +kernel
set_option maxRecDepth 20000 in
theorem qX7_at_TK : Cond.classLink RX7 150 hv_nse ∈ wsX7_at := by decide +kernel
set_option maxRecDepth 20000 in
theorem qX7_at_TI : Cond.initialized hv_nse ∈ wsX7_at := by decide +kernel
set_option maxRecDepth 20000 in
theorem qX7_at_TA : ∀ w ∈ hv_at.filter goodWord, w ∈ wsX7_at := by decide +kernel
set_option maxRecDepth 20000 in
theorem iX7_at_X3 : ∀ w ∈ u_ws RX3 TX3 10, w ∈ wsX7_at := by decide +kernel
set_option maxRecDepth 20000 in
theorem iX7_at_X7 : ∀ w ∈ u_ws RX7 TX7 7, w ∈ wsX7_at := by decide +kernel
set_option maxHeartbeats 4000000 in
set_option maxRecDepth 20000 in
theorem vX7_at (hflag : l.stackTraces = false) {n : Nat} {σ : hv_St} {p0 : Int32} {p1 : Int32} {o : Option Int32 × hv_St} (h : mX7_at n σ p0 p1 = some o) : hv_XM l yX7_at wsX7_at rmX7_at D (hv_tys cy) 55 a (hv_XE a cy) 2 12 [.ref (a 0), .int (p0), .int (p1)] σ (o.1.map (fun x => some (.int x))) o.2 := by
  refine hv_xenter (own := RX7) (cc := cX7_at) (maxL := 3) (ret := (some .int)) (by decide) rfl rfl (Nat.le_of_ble_eq_true rfl) ?_
  intro p e s m args below meth c CT hr
  have C := CT.1
  unfold mX7_at at h
  refine g_lv [0, 1, 2] (lv' := [(0, .ref (a 0)), (1, .int (p0)), (2, .int (p1))]) rfl ?_
  refine g_aload_n (pc := 0) C 0 dX7_at_0 rfl rfl ?_
  refine gx_get_0_0 (pc := 1) C iX7_at_X7 qX7_at_F17 dX7_at_1 ?_
  refine g_iload_n (pc := 4) C 1 dX7_at_4 rfl rfl ?_
  obtain ⟨r5, s5, hc5, h⟩ := hv_b2_some h
  refine g_callV (pc := 5) (σ1 := s5) (v := (some (.int (r5)))) (As := [.int (p0)]) (rest := []) C 1 (vX3_isBar hc5) (cwV 1 C.1.2.2.2.2 gX7_at_X3_isBar rfl rfl rfl (by decide +kernel) ⟨Nat.le_of_ble_eq_true rfl, Nat.le_of_ble_eq_true rfl⟩) (Nat.le_of_ble_eq_true rfl) rfl rfl rfl rfl (Nat.le_of_ble_eq_true rfl) dX7_at_5 ⟨Nat.le_of_ble_eq_true rfl, Nat.le_of_ble_eq_true rfl⟩ ?_
  refine g_st (st' := [.int (r5)]) rfl ?_
  rcases hv_bx_some h with ⟨s8, hc8, rfl⟩ | ⟨y8, s8, hc8, h⟩
  · exact g_xcallS0 (pc := 8) (σ1 := s8) (As := [.int (r5)]) (rest := []) CT (vX7_need hflag hc8) (va_cwS 1 C.1.2.2.2.2 gX7_at_X7_need rfl rfl rfl (by decide +kernel) ⟨Nat.le_of_ble_eq_true rfl, Nat.le_of_ble_eq_true rfl⟩) rfl rfl (Nat.le_of_ble_eq_true rfl) dX7_at_8 ⟨Nat.le_of_ble_eq_true rfl, Nat.le_of_ble_eq_true rfl⟩ (Nat.le_of_ble_eq_true rfl) (Nat.le_of_ble_eq_true rfl)
  refine g_xcallS (pc := 8) (σ1 := s8) (v := none) (As := [.int (r5)]) (rest := []) CT (vX7_need hflag hc8) (va_cwS 1 C.1.2.2.2.2 gX7_at_X7_need rfl rfl rfl (by decide +kernel) ⟨Nat.le_of_ble_eq_true rfl, Nat.le_of_ble_eq_true rfl⟩) rfl rfl (Nat.le_of_ble_eq_true rfl) dX7_at_8 ⟨Nat.le_of_ble_eq_true rfl, Nat.le_of_ble_eq_true rfl⟩ ?_
  refine g_st (st' := []) rfl ?_
  refine g_iload_n (pc := 11) C 2 dX7_at_11 rfl rfl ?_
  by_cases c12_0 : p1 = (0 : Int32)
  · rw [if_pos c12_0] at h
    refine g_tableIn (pc := 12) (tgt := 52) C dX7_at_12 (by rw [c12_0] <;> decide) (by rw [c12_0] <;> decide) (by rw [c12_0] <;> rfl) (by decide) ?_
    refine g_aload_n (pc := 52) C 0 dX7_at_52 rfl rfl ?_
    refine gx_get_0_0 (pc := 53) C iX7_at_X7 qX7_at_F17 dX7_at_53 ?_
    refine gx_get_1_6 (pc := 56) C iX7_at_X3 qX7_at_F153 dX7_at_56 ?_
    refine g_iload_n (pc := 59) C 1 dX7_at_59 rfl rfl ?_
    obtain ⟨k60, h⟩ := hv_if_some h
    refine gx_ld_5 (pc := 60) C k60 dX7_at_60 ?_
    cases h
    exact g_xiret (pc := 61) CT hr dX7_at_61 (Nat.le_of_ble_eq_true rfl) (Nat.le_of_ble_eq_true rfl)
  · rw [if_neg c12_0] at h
    by_cases c12_1 : p1 = (1 : Int32)
    · rw [if_pos c12_1] at h
      refine g_tableIn (pc := 12) (tgt := 62) C dX7_at_12 (by rw [c12_1] <;> decide) (by rw [c12_1] <;> decide) (by rw [c12_1] <;> rfl) (by decide) ?_
      refine g_aload_n (pc := 62) C 0 dX7_at_62 rfl rfl ?_
      refine gx_get_0_0 (pc := 63) C iX7_at_X7 qX7_at_F17 dX7_at_63 ?_
      refine gx_get_1_7 (pc := 66) C iX7_at_X3 qX7_at_F156 dX7_at_66 ?_
      refine g_iload_n (pc := 69) C 1 dX7_at_69 rfl rfl ?_
      obtain ⟨k70, h⟩ := hv_if_some h
      refine gx_ld_6 (pc := 70) C k70 dX7_at_70 ?_
      cases h
      exact g_xiret (pc := 71) CT hr dX7_at_71 (Nat.le_of_ble_eq_true rfl) (Nat.le_of_ble_eq_true rfl)
    · rw [if_neg c12_1] at h
      by_cases c12_2 : p1 = (2 : Int32)
      · rw [if_pos c12_2] at h
        refine g_tableIn (pc := 12) (tgt := 72) C dX7_at_12 (by rw [c12_2] <;> decide) (by rw [c12_2] <;> decide) (by rw [c12_2] <;> rfl) (by decide) ?_
        refine g_aload_n (pc := 72) C 0 dX7_at_72 rfl rfl ?_
        refine gx_get_0_0 (pc := 73) C iX7_at_X7 qX7_at_F17 dX7_at_73 ?_
        refine gx_get_1_8 (pc := 76) C iX7_at_X3 qX7_at_F104 dX7_at_76 ?_
        refine g_iload_n (pc := 79) C 1 dX7_at_79 rfl rfl ?_
        obtain ⟨k80, h⟩ := hv_if_some h
        refine gx_ld_7 (pc := 80) C k80 dX7_at_80 ?_
        cases h
        exact g_xiret (pc := 81) CT hr dX7_at_81 (Nat.le_of_ble_eq_true rfl) (Nat.le_of_ble_eq_true rfl)
      · rw [if_neg c12_2] at h
        by_cases c12_3 : p1 = (3 : Int32)
        · rw [if_pos c12_3] at h
          refine g_tableIn (pc := 12) (tgt := 82) C dX7_at_12 (by rw [c12_3] <;> decide) (by rw [c12_3] <;> decide) (by rw [c12_3] <;> rfl) (by decide) ?_
          refine g_aload_n (pc := 82) C 0 dX7_at_82 rfl rfl ?_
          refine gx_get_0_0 (pc := 83) C iX7_at_X7 qX7_at_F17 dX7_at_83 ?_
          refine gx_get_1_9 (pc := 86) C iX7_at_X3 qX7_at_F100 dX7_at_86 ?_
          refine g_iload_n (pc := 89) C 1 dX7_at_89 rfl rfl ?_
          obtain ⟨k90, h⟩ := hv_if_some h
          refine gx_ld_8 (pc := 90) C k90 dX7_at_90 ?_
          cases h
          exact g_xiret (pc := 91) CT hr dX7_at_91 (Nat.le_of_ble_eq_true rfl) (Nat.le_of_ble_eq_true rfl)
        · rw [if_neg c12_3] at h
          by_cases c12_4 : p1 = (4 : Int32)
          · rw [if_pos c12_4] at h
            refine g_tableIn (pc := 12) (tgt := 92) C dX7_at_12 (by rw [c12_4] <;> decide) (by rw [c12_4] <;> decide) (by rw [c12_4] <;> rfl) (by decide) ?_
            refine g_aload_n (pc := 92) C 0 dX7_at_92 rfl rfl ?_
            refine gx_get_0_0 (pc := 93) C iX7_at_X7 qX7_at_F17 dX7_at_93 ?_
            refine g_iload_n (pc := 96) C 1 dX7_at_96 rfl rfl ?_
            obtain ⟨r97, s97, hc97, h⟩ := hv_b2_some h
            refine g_callV (pc := 97) (σ1 := s97) (v := (some (.int (r97)))) (As := [.int (p0)]) (rest := []) C 1 (vX3_isOn hc97) (cwV 1 C.1.2.2.2.2 gX7_at_X3_isOn rfl rfl rfl (by decide +kernel) ⟨Nat.le_of_ble_eq_true rfl, Nat.le_of_ble_eq_true rfl⟩) (Nat.le_of_ble_eq_true rfl) rfl rfl rfl rfl (Nat.le_of_ble_eq_true rfl) dX7_at_97 ⟨Nat.le_of_ble_eq_true rfl, Nat.le_of_ble_eq_true rfl⟩ ?_
            refine g_st (st' := [.int (r97)]) rfl ?_
            refine g_if_eq (pc := 100) (tgt := 107) C dX7_at_100 (by decide) (fun c100 => ?_) (fun c100 => ?_)
            · rw [if_pos c100] at h
              refine g_iconst (pc := 107) C (v := (0 : Int32)) dX7_at_107 (by decide) ?_
              cases h
              exact g_xiret (pc := 108) CT hr dX7_at_108 (Nat.le_of_ble_eq_true rfl) (Nat.le_of_ble_eq_true rfl)
            · rw [if_neg c100] at h
              refine g_iconst (pc := 103) C (v := (1 : Int32)) dX7_at_103 (by decide) ?_
              refine g_goto (pc := 104) C (tgt := 108) dX7_at_104 (by decide) ?_
              cases h
              exact g_xiret (pc := 108) CT hr dX7_at_108 (Nat.le_of_ble_eq_true rfl) (Nat.le_of_ble_eq_true rfl)
          · rw [if_neg c12_4] at h
            by_cases c12_5 : p1 = (5 : Int32)
            · rw [if_pos c12_5] at h
              refine g_tableIn (pc := 12) (tgt := 109) C dX7_at_12 (by rw [c12_5] <;> decide) (by rw [c12_5] <;> decide) (by rw [c12_5] <;> rfl) (by decide) ?_
              refine g_aload_n (pc := 109) C 0 dX7_at_109 rfl rfl ?_
              refine gx_get_0_1 (pc := 110) C iX7_at_X7 qX7_at_F21 dX7_at_110 ?_
              refine g_aload_n (pc := 113) C 0 dX7_at_113 rfl rfl ?_
              refine gx_get_0_0 (pc := 114) C iX7_at_X7 qX7_at_F17 dX7_at_114 ?_
              refine gx_get_1_2 (pc := 117) C iX7_at_X3 qX7_at_F97 dX7_at_117 ?_
              obtain ⟨s120, hc120, h⟩ := hv_bd_some h
              refine g_callV (pc := 120) (σ1 := s120) (v := none) (As := [.int (s8.1 1 2)]) (rest := []) C 9 (vX0_settle hc120) (cwV 1 C.1.2.2.2.2 gX7_at_X0_settle rfl rfl rfl (by decide +kernel) ⟨Nat.le_of_ble_eq_true rfl, Nat.le_of_ble_eq_true rfl⟩) (Nat.le_of_ble_eq_true rfl) rfl rfl rfl rfl (Nat.le_of_ble_eq_true rfl) dX7_at_120 ⟨Nat.le_of_ble_eq_true rfl, Nat.le_of_ble_eq_true rfl⟩ ?_
              refine g_st (st' := []) rfl ?_
              refine g_aload_n (pc := 123) C 0 dX7_at_123 rfl rfl ?_
              refine gx_get_0_1 (pc := 124) C iX7_at_X7 qX7_at_F21 dX7_at_124 ?_
              refine g_iload_n (pc := 127) C 1 dX7_at_127 rfl rfl ?_
              obtain ⟨r128, s128, hc128, h⟩ := hv_b2_some h
              refine g_callV (pc := 128) (σ1 := s128) (v := (some (.int (r128)))) (As := [.int (p0)]) (rest := []) C 9 (vX0_spareNumber hc128) (cwV 1 C.1.2.2.2.2 gX7_at_X0_spareNumber rfl rfl rfl (by decide +kernel) ⟨Nat.le_of_ble_eq_true rfl, Nat.le_of_ble_eq_true rfl⟩) (Nat.le_of_ble_eq_true rfl) rfl rfl rfl rfl (Nat.le_of_ble_eq_true rfl) dX7_at_128 ⟨Nat.le_of_ble_eq_true rfl, Nat.le_of_ble_eq_true rfl⟩ ?_
              refine g_st (st' := [.int (r128)]) rfl ?_
              cases h
              exact g_xiret (pc := 131) CT hr dX7_at_131 (Nat.le_of_ble_eq_true rfl) (Nat.le_of_ble_eq_true rfl)
            · rw [if_neg c12_5] at h
              have nc12_0 := lv_neT c12_0 (a := 0) (by decide)
              have nc12_1 := lv_neT c12_1 (a := 1) (by decide)
              have nc12_2 := lv_neT c12_2 (a := 2) (by decide)
              have nc12_3 := lv_neT c12_3 (a := 3) (by decide)
              have nc12_4 := lv_neT c12_4 (a := 4) (by decide)
              have nc12_5 := lv_neT c12_5 (a := 5) (by decide)
              refine g_tableOut (pc := 12) (tgt := 132) C dX7_at_12 (by omega) (by decide) ?_
              cases h
              exact g_throw (pc := 132) CT hflag qX7_at_TK qX7_at_TI qX7_at_TA dX7_at_132 dX7_at_135 dX7_at_136 dX7_at_139 (Nat.le_of_ble_eq_true rfl) (Nat.le_of_ble_eq_true rfl) (Nat.le_of_ble_eq_true rfl) (Nat.le_of_ble_eq_true rfl) (Nat.le_of_ble_eq_true rfl) (Nat.le_of_ble_eq_true rfl)
abbrev rmX7_pull : Room := { frames := 7, cells := 1, slots := 6, locals := 142 }
set_option maxRecDepth 20000 in
theorem qX7_pull_F117 : Cond.fieldLink RX7 117 "PinFrame$Frame" "loads" "[I" ∈ wsX7_pull := by decide +kernel
set_option maxRecDepth 20000 in
theorem qX7_pull_F17 : Cond.fieldLink RX7 17 "PinFrame" "frame" "LPinFrame$Frame;" ∈ wsX7_pull := by decide +kernel
set_option maxRecDepth 20000 in
theorem qX7_pull_F97 : Cond.fieldLink RX7 97 "PinFrame$Frame" "on" "I" ∈ wsX7_pull := by decide +kernel
set_option maxRecDepth 20000 in
theorem iX7_pull_X3 : ∀ w ∈ u_ws RX3 TX3 10, w ∈ wsX7_pull := by decide +kernel
set_option maxRecDepth 20000 in
theorem iX7_pull_X7 : ∀ w ∈ u_ws RX7 TX7 7, w ∈ wsX7_pull := by decide +kernel
set_option maxHeartbeats 4000000 in
set_option maxRecDepth 20000 in
theorem bX7_pull_37 (hflag : l.stackTraces = false) (CT : hv_CT p s m args meth c cX7_pull 3 wsX7_pull RX7 D (hv_tys cy) 55 a) (hr : meth.sig.returnType = (some .long)) {n : Nat} {o : Option Int64 × hv_St} : ∀ (σ : hv_St) (x1 : Int32) (x2 : Int32) (z0 : Int32), kX7_pull_37 n σ x1 x2 z0 = some o → hv_G p l e (headSpec wsX7_pull rmX7_pull).room s m args below meth c 3 D 55 a (hv_XE a cy) 0 0 (hv_XQ D 55 a (hv_XE a cy) below args s (o.1.map (fun x => some (.long x))) o.2 1 6) σ 37 [(0, .ref (a 0)), (1, .int (x1)), (2, .int (x2))] [.int (z0)] := by
  intro σ x1 x2 z0 h
  unfold kX7_pull_37 at h
  have C := CT.1
  rcases hv_bx_some h with ⟨s37, hc37, rfl⟩ | ⟨y37, s37, hc37, h⟩
  · exact g_xcallS0 (pc := 37) (σ1 := s37) (As := [.int (z0)]) (rest := []) CT (vX7_need hflag hc37) (va_cwS 1 C.1.2.2.2.2 gX7_pull_X7_need rfl rfl rfl (by decide +kernel) ⟨Nat.le_of_ble_eq_true rfl, Nat.le_of_ble_eq_true rfl⟩) rfl rfl (Nat.le_of_ble_eq_true rfl) dX7_pull_37 ⟨Nat.le_of_ble_eq_true rfl, Nat.le_of_ble_eq_true rfl⟩ (Nat.le_of_ble_eq_true rfl) (Nat.le_of_ble_eq_true rfl)
  refine g_xcallS (pc := 37) (σ1 := s37) (v := none) (As := [.int (z0)]) (rest := []) CT (vX7_need hflag hc37) (va_cwS 1 C.1.2.2.2.2 gX7_pull_X7_need rfl rfl rfl (by decide +kernel) ⟨Nat.le_of_ble_eq_true rfl, Nat.le_of_ble_eq_true rfl⟩) rfl rfl (Nat.le_of_ble_eq_true rfl) dX7_pull_37 ⟨Nat.le_of_ble_eq_true rfl, Nat.le_of_ble_eq_true rfl⟩ ?_
  refine g_st (st' := []) rfl ?_
  refine g_aload_n (pc := 40) C 0 dX7_pull_40 rfl rfl ?_
  refine g_iload_n (pc := 41) C 1 dX7_pull_41 rfl rfl ?_
  refine g_iload_n (pc := 42) C 2 dX7_pull_42 rfl rfl ?_
  obtain ⟨r43, s43, hc43, h⟩ := hv_b2_some h
  refine g_callV (pc := 43) (σ1 := s43) (v := (some (.long (r43)))) (As := [.int (x1), .int (x2)]) (rest := []) C 0 (vX7_toldPull hc43) (cwV 2 C.1.2.2.2.2 gX7_pull_X7_toldPull rfl rfl rfl (by decide +kernel) ⟨Nat.le_of_ble_eq_true rfl, Nat.le_of_ble_eq_true rfl⟩) (Nat.le_of_ble_eq_true rfl) rfl rfl rfl rfl (Nat.le_of_ble_eq_true rfl) dX7_pull_43 ⟨Nat.le_of_ble_eq_true rfl, Nat.le_of_ble_eq_true rfl⟩ ?_
  refine g_st (st' := [.long (r43)]) rfl ?_
  cases h
  exact g_xlret (pc := 46) CT hr dX7_pull_46 (Nat.le_of_ble_eq_true rfl) (Nat.le_of_ble_eq_true rfl)
set_option maxHeartbeats 4000000 in
set_option maxRecDepth 20000 in
theorem bX7_pull_36 (hflag : l.stackTraces = false) (CT : hv_CT p s m args meth c cX7_pull 3 wsX7_pull RX7 D (hv_tys cy) 55 a) (hr : meth.sig.returnType = (some .long)) {n : Nat} {o : Option Int64 × hv_St} : ∀ (σ : hv_St) (x1 : Int32) (x2 : Int32), kX7_pull_36 n σ x1 x2 = some o → hv_G p l e (headSpec wsX7_pull rmX7_pull).room s m args below meth c 3 D 55 a (hv_XE a cy) 0 0 (hv_XQ D 55 a (hv_XE a cy) below args s (o.1.map (fun x => some (.long x))) o.2 1 6) σ 36 [(0, .ref (a 0)), (1, .int (x1)), (2, .int (x2))] [] := by
  intro σ x1 x2 h
  unfold kX7_pull_36 at h
  have C := CT.1
  refine g_iconst (pc := 36) C (v := (0 : Int32)) dX7_pull_36 (by decide) ?_
  exact g_lv [0, 1, 2] rfl (bX7_pull_37 hflag CT hr σ (x1) (x2) ((0 : Int32)) h)
set_option maxHeartbeats 4000000 in
set_option maxRecDepth 20000 in
theorem vX7_pull (hflag : l.stackTraces = false) {n : Nat} {σ : hv_St} {p0 : Int32} {p1 : Int32} {o : Option Int64 × hv_St} (h : mX7_pull n σ p0 p1 = some o) : hv_XM l yX7_pull wsX7_pull rmX7_pull D (hv_tys cy) 55 a (hv_XE a cy) 1 6 [.ref (a 0), .int (p0), .int (p1)] σ (o.1.map (fun x => some (.long x))) o.2 := by
  refine hv_xenter (own := RX7) (cc := cX7_pull) (maxL := 3) (ret := (some .long)) (by decide) rfl rfl (Nat.le_of_ble_eq_true rfl) ?_
  intro p e s m args below meth c CT hr
  have C := CT.1
  unfold mX7_pull at h
  refine g_lv [0, 1, 2] (lv' := [(0, .ref (a 0)), (1, .int (p0)), (2, .int (p1))]) rfl ?_
  refine g_aload_n (pc := 0) C 0 dX7_pull_0 rfl rfl ?_
  refine gx_get_0_0 (pc := 1) C iX7_pull_X7 qX7_pull_F17 dX7_pull_1 ?_
  refine g_iload_n (pc := 4) C 1 dX7_pull_4 rfl rfl ?_
  obtain ⟨r5, s5, hc5, h⟩ := hv_b2_some h
  refine g_callV (pc := 5) (σ1 := s5) (v := (some (.int (r5)))) (As := [.int (p0)]) (rest := []) C 1 (vX3_isOn hc5) (cwV 1 C.1.2.2.2.2 gX7_pull_X3_isOn rfl rfl rfl (by decide +kernel) ⟨Nat.le_of_ble_eq_true rfl, Nat.le_of_ble_eq_true rfl⟩) (Nat.le_of_ble_eq_true rfl) rfl rfl rfl rfl (Nat.le_of_ble_eq_true rfl) dX7_pull_5 ⟨Nat.le_of_ble_eq_true rfl, Nat.le_of_ble_eq_true rfl⟩ ?_
  refine g_st (st' := [.int (r5)]) rfl ?_
  refine g_if_eq (pc := 8) (tgt := 36) C dX7_pull_8 (by decide) (fun c8 => ?_) (fun c8 => ?_)
  · rw [if_pos c8] at h
    exact g_lv [0, 1, 2] rfl (bX7_pull_36 hflag CT hr s5 (p0) (p1) h)
  · rw [if_neg c8] at h
    refine g_aload_n (pc := 11) C 0 dX7_pull_11 rfl rfl ?_
    refine g_aload_n (pc := 12) C 0 dX7_pull_12 rfl rfl ?_
    refine gx_get_0_0 (pc := 13) C iX7_pull_X7 qX7_pull_F17 dX7_pull_13 ?_
    refine gx_get_1_2 (pc := 16) C iX7_pull_X3 qX7_pull_F97 dX7_pull_16 ?_
    refine g_aload_n (pc := 19) C 0 dX7_pull_19 rfl rfl ?_
    refine gx_get_0_0 (pc := 20) C iX7_pull_X7 qX7_pull_F17 dX7_pull_20 ?_
    refine gx_get_1_4 (pc := 23) C iX7_pull_X3 qX7_pull_F117 dX7_pull_23 ?_
    obtain ⟨r26, s26, hc26, h⟩ := hv_b2_some h
    refine g_callV (pc := 26) (σ1 := s26) (v := (some (.int (r26)))) (As := [.int (s5.1 1 2), .ref (a 3)]) (rest := []) C 0 (vX7_bears (Or.inl rfl) hc26) (cwV 2 C.1.2.2.2.2 gX7_pull_X7_bears rfl rfl rfl (by decide +kernel) ⟨Nat.le_of_ble_eq_true rfl, Nat.le_of_ble_eq_true rfl⟩) (Nat.le_of_ble_eq_true rfl) rfl rfl rfl rfl (Nat.le_of_ble_eq_true rfl) dX7_pull_26 ⟨Nat.le_of_ble_eq_true rfl, Nat.le_of_ble_eq_true rfl⟩ ?_
    refine g_st (st' := [.int (r26)]) rfl ?_
    refine g_if_eq (pc := 29) (tgt := 36) C dX7_pull_29 (by decide) (fun c29 => ?_) (fun c29 => ?_)
    · rw [if_pos c29] at h
      exact g_lv [0, 1, 2] rfl (bX7_pull_36 hflag CT hr s26 (p0) (p1) h)
    · rw [if_neg c29] at h
      refine g_iconst (pc := 32) C (v := (1 : Int32)) dX7_pull_32 (by decide) ?_
      refine g_goto (pc := 33) C (tgt := 37) dX7_pull_33 (by decide) ?_
      exact g_lv [0, 1, 2] rfl (bX7_pull_37 hflag CT hr s26 (p0) (p1) ((1 : Int32)) h)
abbrev rmX7_state : Room := { frames := 7, cells := 1, slots := 6, locals := 142 }
set_option maxRecDepth 20000 in
theorem qX7_state_F117 : Cond.fieldLink RX7 117 "PinFrame$Frame" "loads" "[I" ∈ wsX7_state := by decide +kernel
set_option maxRecDepth 20000 in
theorem qX7_state_F17 : Cond.fieldLink RX7 17 "PinFrame" "frame" "LPinFrame$Frame;" ∈ wsX7_state := by decide +kernel
set_option maxRecDepth 20000 in
theorem qX7_state_F181 : Cond.fieldLink RX7 181 "PinFrame$Balance" "scale" "J" ∈ wsX7_state := by decide +kernel
set_option maxRecDepth 20000 in
theorem qX7_state_F21 : Cond.fieldLink RX7 21 "PinFrame" "balance" "LPinFrame$Balance;" ∈ wsX7_state := by decide +kernel
set_option maxRecDepth 20000 in
theorem qX7_state_F30 : Cond.fieldLink RX7 30 "PinFrame" "pulls" "LPinFrame$Pulls;" ∈ wsX7_state := by decide +kernel
set_option maxRecDepth 20000 in
theorem qX7_state_F97 : Cond.fieldLink RX7 97 "PinFrame$Frame" "on" "I" ∈ wsX7_state := by decide +kernel
set_option maxRecDepth 20000 in
theorem iX7_state_X0 : ∀ w ∈ u_ws RX0 TX0 9, w ∈ wsX7_state := by decide +kernel
set_option maxRecDepth 20000 in
theorem iX7_state_X3 : ∀ w ∈ u_ws RX3 TX3 10, w ∈ wsX7_state := by decide +kernel
set_option maxRecDepth 20000 in
theorem iX7_state_X7 : ∀ w ∈ u_ws RX7 TX7 7, w ∈ wsX7_state := by decide +kernel
set_option maxHeartbeats 4000000 in
set_option maxRecDepth 20000 in
theorem bX7_state_53 (hflag : l.stackTraces = false) (CT : hv_CT p s m args meth c cX7_state 4 wsX7_state RX7 D (hv_tys cy) 55 a) (hr : meth.sig.returnType = (some .long)) {n : Nat} {o : Option Int64 × hv_St} : ∀ (σ : hv_St) (x1 : Int32) (x2 : Int32) (x3 : Int32) (z0 : Int32), kX7_state_53 n σ x1 x2 x3 z0 = some o → hv_G p l e (headSpec wsX7_state rmX7_state).room s m args below meth c 4 D 55 a (hv_XE a cy) 0 0 (hv_XQ D 55 a (hv_XE a cy) below args s (o.1.map (fun x => some (.long x))) o.2 1 6) σ 53 [(0, .ref (a 0)), (1, .int (x1)), (2, .int (x2)), (3, .int (x3))] [.int (z0)] := by
  intro σ x1 x2 x3 z0 h
  unfold kX7_state_53 at h
  have C := CT.1
  rcases hv_bx_some h with ⟨s53, hc53, rfl⟩ | ⟨y53, s53, hc53, h⟩
  · exact g_xcallS0 (pc := 53) (σ1 := s53) (As := [.int (z0)]) (rest := []) CT (vX7_need hflag hc53) (va_cwS 1 C.1.2.2.2.2 gX7_state_X7_need rfl rfl rfl (by decide +kernel) ⟨Nat.le_of_ble_eq_true rfl, Nat.le_of_ble_eq_true rfl⟩) rfl rfl (Nat.le_of_ble_eq_true rfl) dX7_state_53 ⟨Nat.le_of_ble_eq_true rfl, Nat.le_of_ble_eq_true rfl⟩ (Nat.le_of_ble_eq_true rfl) (Nat.le_of_ble_eq_true rfl)
  refine g_xcallS (pc := 53) (σ1 := s53) (v := none) (As := [.int (z0)]) (rest := []) CT (vX7_need hflag hc53) (va_cwS 1 C.1.2.2.2.2 gX7_state_X7_need rfl rfl rfl (by decide +kernel) ⟨Nat.le_of_ble_eq_true rfl, Nat.le_of_ble_eq_true rfl⟩) rfl rfl (Nat.le_of_ble_eq_true rfl) dX7_state_53 ⟨Nat.le_of_ble_eq_true rfl, Nat.le_of_ble_eq_true rfl⟩ ?_
  refine g_st (st' := []) rfl ?_
  refine g_aload_n (pc := 56) C 0 dX7_state_56 rfl rfl ?_
  refine g_aload_n (pc := 57) C 0 dX7_state_57 rfl rfl ?_
  refine gx_get_0_2 (pc := 58) C iX7_state_X7 qX7_state_F30 dX7_state_58 ?_
  refine g_iload_n (pc := 61) C 1 dX7_state_61 rfl rfl ?_
  refine g_iload_n (pc := 62) C 2 dX7_state_62 rfl rfl ?_
  obtain ⟨r63, s63, hc63, h⟩ := hv_b2_some h
  refine g_callV (pc := 63) (σ1 := s63) (v := (some (.long (r63)))) (As := [.int (x1), .int (x2)]) (rest := [.ref (a 0)]) C 13 (vX5_stateOf hc63) (cwV 2 C.1.2.2.2.2 gX7_state_X5_stateOf rfl rfl rfl (by decide +kernel) ⟨Nat.le_of_ble_eq_true rfl, Nat.le_of_ble_eq_true rfl⟩) (Nat.le_of_ble_eq_true rfl) rfl rfl rfl rfl (Nat.le_of_ble_eq_true rfl) dX7_state_63 ⟨Nat.le_of_ble_eq_true rfl, Nat.le_of_ble_eq_true rfl⟩ ?_
  refine g_st (st' := [.long (r63), .ref (a 0)]) rfl ?_
  refine g_aload_n (pc := 66) C 0 dX7_state_66 rfl rfl ?_
  refine gx_get_0_1 (pc := 67) C iX7_state_X7 qX7_state_F21 dX7_state_67 ?_
  refine gx_get_9_8 (pc := 70) C iX7_state_X0 qX7_state_F181 dX7_state_70 ?_
  refine g_iload_n (pc := 73) C 3 dX7_state_73 rfl rfl ?_
  obtain ⟨r74, s74, hc74, h⟩ := hv_b2_some h
  refine g_callV (pc := 74) (σ1 := s74) (v := (some (.long (r74)))) (As := [.long (r63), .long (s63.2 9 8), .int (x3)]) (rest := []) C 0 (vX7_told hc74) (cwV 3 C.1.2.2.2.2 gX7_state_X7_told rfl rfl rfl (by decide +kernel) ⟨Nat.le_of_ble_eq_true rfl, Nat.le_of_ble_eq_true rfl⟩) (Nat.le_of_ble_eq_true rfl) rfl rfl rfl rfl (Nat.le_of_ble_eq_true rfl) dX7_state_74 ⟨Nat.le_of_ble_eq_true rfl, Nat.le_of_ble_eq_true rfl⟩ ?_
  refine g_st (st' := [.long (r74)]) rfl ?_
  cases h
  exact g_xlret (pc := 77) CT hr dX7_state_77 (Nat.le_of_ble_eq_true rfl) (Nat.le_of_ble_eq_true rfl)
set_option maxHeartbeats 4000000 in
set_option maxRecDepth 20000 in
theorem bX7_state_48 (hflag : l.stackTraces = false) (CT : hv_CT p s m args meth c cX7_state 4 wsX7_state RX7 D (hv_tys cy) 55 a) (hr : meth.sig.returnType = (some .long)) {n : Nat} {o : Option Int64 × hv_St} : ∀ (σ : hv_St) (x1 : Int32) (x2 : Int32) (x3 : Int32), kX7_state_48 n σ x1 x2 x3 = some o → hv_G p l e (headSpec wsX7_state rmX7_state).room s m args below meth c 4 D 55 a (hv_XE a cy) 0 0 (hv_XQ D 55 a (hv_XE a cy) below args s (o.1.map (fun x => some (.long x))) o.2 1 6) σ 48 [(0, .ref (a 0)), (1, .int (x1)), (2, .int (x2)), (3, .int (x3))] [] := by
  intro σ x1 x2 x3 h
  unfold kX7_state_48 at h
  have C := CT.1
  refine g_iconst (pc := 48) C (v := (1 : Int32)) dX7_state_48 (by decide) ?_
  refine g_goto (pc := 49) C (tgt := 53) dX7_state_49 (by decide) ?_
  exact g_lv [0, 1, 2, 3] rfl (bX7_state_53 hflag CT hr σ (x1) (x2) (x3) ((1 : Int32)) h)
set_option maxHeartbeats 4000000 in
set_option maxRecDepth 20000 in
theorem bX7_state_52 (hflag : l.stackTraces = false) (CT : hv_CT p s m args meth c cX7_state 4 wsX7_state RX7 D (hv_tys cy) 55 a) (hr : meth.sig.returnType = (some .long)) {n : Nat} {o : Option Int64 × hv_St} : ∀ (σ : hv_St) (x1 : Int32) (x2 : Int32) (x3 : Int32), kX7_state_52 n σ x1 x2 x3 = some o → hv_G p l e (headSpec wsX7_state rmX7_state).room s m args below meth c 4 D 55 a (hv_XE a cy) 0 0 (hv_XQ D 55 a (hv_XE a cy) below args s (o.1.map (fun x => some (.long x))) o.2 1 6) σ 52 [(0, .ref (a 0)), (1, .int (x1)), (2, .int (x2)), (3, .int (x3))] [] := by
  intro σ x1 x2 x3 h
  unfold kX7_state_52 at h
  have C := CT.1
  refine g_iconst (pc := 52) C (v := (0 : Int32)) dX7_state_52 (by decide) ?_
  exact g_lv [0, 1, 2, 3] rfl (bX7_state_53 hflag CT hr σ (x1) (x2) (x3) ((0 : Int32)) h)
set_option maxHeartbeats 4000000 in
set_option maxRecDepth 20000 in
theorem vX7_state (hflag : l.stackTraces = false) {n : Nat} {σ : hv_St} {p0 : Int32} {p1 : Int32} {p2 : Int32} {o : Option Int64 × hv_St} (h : mX7_state n σ p0 p1 p2 = some o) : hv_XM l yX7_state wsX7_state rmX7_state D (hv_tys cy) 55 a (hv_XE a cy) 1 6 [.ref (a 0), .int (p0), .int (p1), .int (p2)] σ (o.1.map (fun x => some (.long x))) o.2 := by
  refine hv_xenter (own := RX7) (cc := cX7_state) (maxL := 4) (ret := (some .long)) (by decide) rfl rfl (Nat.le_of_ble_eq_true rfl) ?_
  intro p e s m args below meth c CT hr
  have C := CT.1
  unfold mX7_state at h
  refine g_lv [0, 1, 2, 3] (lv' := [(0, .ref (a 0)), (1, .int (p0)), (2, .int (p1)), (3, .int (p2))]) rfl ?_
  refine g_aload_n (pc := 0) C 0 dX7_state_0 rfl rfl ?_
  refine gx_get_0_0 (pc := 1) C iX7_state_X7 qX7_state_F17 dX7_state_1 ?_
  refine g_iload_n (pc := 4) C 2 dX7_state_4 rfl rfl ?_
  obtain ⟨r5, s5, hc5, h⟩ := hv_b2_some h
  refine g_callV (pc := 5) (σ1 := s5) (v := (some (.int (r5)))) (As := [.int (p1)]) (rest := []) C 1 (vX3_isOn hc5) (cwV 1 C.1.2.2.2.2 gX7_state_X3_isOn rfl rfl rfl (by decide +kernel) ⟨Nat.le_of_ble_eq_true rfl, Nat.le_of_ble_eq_true rfl⟩) (Nat.le_of_ble_eq_true rfl) rfl rfl rfl rfl (Nat.le_of_ble_eq_true rfl) dX7_state_5 ⟨Nat.le_of_ble_eq_true rfl, Nat.le_of_ble_eq_true rfl⟩ ?_
  refine g_st (st' := [.int (r5)]) rfl ?_
  refine g_if_eq (pc := 8) (tgt := 52) C dX7_state_8 (by decide) (fun c8 => ?_) (fun c8 => ?_)
  · rw [if_pos c8] at h
    exact g_lv [0, 1, 2, 3] rfl (bX7_state_52 hflag CT hr s5 (p0) (p1) (p2) h)
  · rw [if_neg c8] at h
    refine g_aload_n (pc := 11) C 0 dX7_state_11 rfl rfl ?_
    refine g_aload_n (pc := 12) C 0 dX7_state_12 rfl rfl ?_
    refine gx_get_0_0 (pc := 13) C iX7_state_X7 qX7_state_F17 dX7_state_13 ?_
    refine gx_get_1_2 (pc := 16) C iX7_state_X3 qX7_state_F97 dX7_state_16 ?_
    refine g_aload_n (pc := 19) C 0 dX7_state_19 rfl rfl ?_
    refine gx_get_0_0 (pc := 20) C iX7_state_X7 qX7_state_F17 dX7_state_20 ?_
    refine gx_get_1_4 (pc := 23) C iX7_state_X3 qX7_state_F117 dX7_state_23 ?_
    obtain ⟨r26, s26, hc26, h⟩ := hv_b2_some h
    refine g_callV (pc := 26) (σ1 := s26) (v := (some (.int (r26)))) (As := [.int (s5.1 1 2), .ref (a 3)]) (rest := []) C 0 (vX7_bears (Or.inl rfl) hc26) (cwV 2 C.1.2.2.2.2 gX7_state_X7_bears rfl rfl rfl (by decide +kernel) ⟨Nat.le_of_ble_eq_true rfl, Nat.le_of_ble_eq_true rfl⟩) (Nat.le_of_ble_eq_true rfl) rfl rfl rfl rfl (Nat.le_of_ble_eq_true rfl) dX7_state_26 ⟨Nat.le_of_ble_eq_true rfl, Nat.le_of_ble_eq_true rfl⟩ ?_
    refine g_st (st' := [.int (r26)]) rfl ?_
    refine g_if_eq (pc := 29) (tgt := 52) C dX7_state_29 (by decide) (fun c29 => ?_) (fun c29 => ?_)
    · rw [if_pos c29] at h
      exact g_lv [0, 1, 2, 3] rfl (bX7_state_52 hflag CT hr s26 (p0) (p1) (p2) h)
    · rw [if_neg c29] at h
      refine g_iload_n (pc := 32) C 1 dX7_state_32 rfl rfl ?_
      refine g_iconst (pc := 33) C (v := (-1 : Int32)) dX7_state_33 (by decide) ?_
      refine g_icmp_eq (pc := 34) (tgt := 48) C dX7_state_34 (by decide) (fun c34 => ?_) (fun c34 => ?_)
      · rw [if_pos c34] at h
        exact g_lv [0, 1, 2, 3] rfl (bX7_state_48 hflag CT hr s26 (p0) (p1) (p2) h)
      · rw [if_neg c34] at h
        refine g_aload_n (pc := 37) C 0 dX7_state_37 rfl rfl ?_
        refine gx_get_0_2 (pc := 38) C iX7_state_X7 qX7_state_F30 dX7_state_38 ?_
        refine g_iload_n (pc := 41) C 1 dX7_state_41 rfl rfl ?_
        obtain ⟨r42, s42, hc42, h⟩ := hv_b2_some h
        refine g_callV (pc := 42) (σ1 := s42) (v := (some (.int (r42)))) (As := [.int (p0)]) (rest := []) C 13 (vX5_isSpare hc42) (cwV 1 C.1.2.2.2.2 gX7_state_X5_isSpare rfl rfl rfl (by decide +kernel) ⟨Nat.le_of_ble_eq_true rfl, Nat.le_of_ble_eq_true rfl⟩) (Nat.le_of_ble_eq_true rfl) rfl rfl rfl rfl (Nat.le_of_ble_eq_true rfl) dX7_state_42 ⟨Nat.le_of_ble_eq_true rfl, Nat.le_of_ble_eq_true rfl⟩ ?_
        refine g_st (st' := [.int (r42)]) rfl ?_
        refine g_if_eq (pc := 45) (tgt := 52) C dX7_state_45 (by decide) (fun c45 => ?_) (fun c45 => ?_)
        · rw [if_pos c45] at h
          exact g_lv [0, 1, 2, 3] rfl (bX7_state_52 hflag CT hr s42 (p0) (p1) (p2) h)
        · rw [if_neg c45] at h
          exact g_lv [0, 1, 2, 3] rfl (bX7_state_48 hflag CT hr s42 (p0) (p1) (p2) h)
abbrev rmX7_flex : Room := { frames := 7, cells := 1, slots := 6, locals := 142 }
set_option maxRecDepth 20000 in
theorem qX7_flex_F117 : Cond.fieldLink RX7 117 "PinFrame$Frame" "loads" "[I" ∈ wsX7_flex := by decide +kernel
set_option maxRecDepth 20000 in
theorem qX7_flex_F17 : Cond.fieldLink RX7 17 "PinFrame" "frame" "LPinFrame$Frame;" ∈ wsX7_flex := by decide +kernel
set_option maxRecDepth 20000 in
theorem qX7_flex_F181 : Cond.fieldLink RX7 181 "PinFrame$Balance" "scale" "J" ∈ wsX7_flex := by decide +kernel
set_option maxRecDepth 20000 in
theorem qX7_flex_F21 : Cond.fieldLink RX7 21 "PinFrame" "balance" "LPinFrame$Balance;" ∈ wsX7_flex := by decide +kernel
set_option maxRecDepth 20000 in
theorem qX7_flex_F30 : Cond.fieldLink RX7 30 "PinFrame" "pulls" "LPinFrame$Pulls;" ∈ wsX7_flex := by decide +kernel
set_option maxRecDepth 20000 in
theorem qX7_flex_F97 : Cond.fieldLink RX7 97 "PinFrame$Frame" "on" "I" ∈ wsX7_flex := by decide +kernel
set_option maxRecDepth 20000 in
theorem iX7_flex_X0 : ∀ w ∈ u_ws RX0 TX0 9, w ∈ wsX7_flex := by decide +kernel
set_option maxRecDepth 20000 in
theorem iX7_flex_X3 : ∀ w ∈ u_ws RX3 TX3 10, w ∈ wsX7_flex := by decide +kernel
set_option maxRecDepth 20000 in
theorem iX7_flex_X7 : ∀ w ∈ u_ws RX7 TX7 7, w ∈ wsX7_flex := by decide +kernel
set_option maxHeartbeats 4000000 in
set_option maxRecDepth 20000 in
theorem bX7_flex_53 (hflag : l.stackTraces = false) (CT : hv_CT p s m args meth c cX7_flex 4 wsX7_flex RX7 D (hv_tys cy) 55 a) (hr : meth.sig.returnType = (some .long)) {n : Nat} {o : Option Int64 × hv_St} : ∀ (σ : hv_St) (x1 : Int32) (x2 : Int32) (x3 : Int32) (z0 : Int32), kX7_flex_53 n σ x1 x2 x3 z0 = some o → hv_G p l e (headSpec wsX7_flex rmX7_flex).room s m args below meth c 4 D 55 a (hv_XE a cy) 0 0 (hv_XQ D 55 a (hv_XE a cy) below args s (o.1.map (fun x => some (.long x))) o.2 1 6) σ 53 [(0, .ref (a 0)), (1, .int (x1)), (2, .int (x2)), (3, .int (x3))] [.int (z0)] := by
  intro σ x1 x2 x3 z0 h
  unfold kX7_flex_53 at h
  have C := CT.1
  rcases hv_bx_some h with ⟨s53, hc53, rfl⟩ | ⟨y53, s53, hc53, h⟩
  · exact g_xcallS0 (pc := 53) (σ1 := s53) (As := [.int (z0)]) (rest := []) CT (vX7_need hflag hc53) (va_cwS 1 C.1.2.2.2.2 gX7_flex_X7_need rfl rfl rfl (by decide +kernel) ⟨Nat.le_of_ble_eq_true rfl, Nat.le_of_ble_eq_true rfl⟩) rfl rfl (Nat.le_of_ble_eq_true rfl) dX7_flex_53 ⟨Nat.le_of_ble_eq_true rfl, Nat.le_of_ble_eq_true rfl⟩ (Nat.le_of_ble_eq_true rfl) (Nat.le_of_ble_eq_true rfl)
  refine g_xcallS (pc := 53) (σ1 := s53) (v := none) (As := [.int (z0)]) (rest := []) CT (vX7_need hflag hc53) (va_cwS 1 C.1.2.2.2.2 gX7_flex_X7_need rfl rfl rfl (by decide +kernel) ⟨Nat.le_of_ble_eq_true rfl, Nat.le_of_ble_eq_true rfl⟩) rfl rfl (Nat.le_of_ble_eq_true rfl) dX7_flex_53 ⟨Nat.le_of_ble_eq_true rfl, Nat.le_of_ble_eq_true rfl⟩ ?_
  refine g_st (st' := []) rfl ?_
  refine g_aload_n (pc := 56) C 0 dX7_flex_56 rfl rfl ?_
  refine g_aload_n (pc := 57) C 0 dX7_flex_57 rfl rfl ?_
  refine gx_get_0_2 (pc := 58) C iX7_flex_X7 qX7_flex_F30 dX7_flex_58 ?_
  refine g_iload_n (pc := 61) C 1 dX7_flex_61 rfl rfl ?_
  refine g_iload_n (pc := 62) C 2 dX7_flex_62 rfl rfl ?_
  obtain ⟨r63, s63, hc63, h⟩ := hv_b2_some h
  refine g_callV (pc := 63) (σ1 := s63) (v := (some (.long (r63)))) (As := [.int (x1), .int (x2)]) (rest := [.ref (a 0)]) C 13 (vX5_giving hc63) (cwV 2 C.1.2.2.2.2 gX7_flex_X5_giving rfl rfl rfl (by decide +kernel) ⟨Nat.le_of_ble_eq_true rfl, Nat.le_of_ble_eq_true rfl⟩) (Nat.le_of_ble_eq_true rfl) rfl rfl rfl rfl (Nat.le_of_ble_eq_true rfl) dX7_flex_63 ⟨Nat.le_of_ble_eq_true rfl, Nat.le_of_ble_eq_true rfl⟩ ?_
  refine g_st (st' := [.long (r63), .ref (a 0)]) rfl ?_
  refine g_aload_n (pc := 66) C 0 dX7_flex_66 rfl rfl ?_
  refine gx_get_0_1 (pc := 67) C iX7_flex_X7 qX7_flex_F21 dX7_flex_67 ?_
  refine gx_get_9_8 (pc := 70) C iX7_flex_X0 qX7_flex_F181 dX7_flex_70 ?_
  refine g_aload_n (pc := 73) C 0 dX7_flex_73 rfl rfl ?_
  refine gx_get_0_1 (pc := 74) C iX7_flex_X7 qX7_flex_F21 dX7_flex_74 ?_
  refine gx_get_9_8 (pc := 77) C iX7_flex_X0 qX7_flex_F181 dX7_flex_77 ?_
  refine g_lmul (pc := 80) C dX7_flex_80 ?_
  refine g_iload_n (pc := 81) C 3 dX7_flex_81 rfl rfl ?_
  obtain ⟨r82, s82, hc82, h⟩ := hv_b2_some h
  refine g_callV (pc := 82) (σ1 := s82) (v := (some (.long (r82)))) (As := [.long (r63), .long ((s63.2 9 8) * (s63.2 9 8)), .int (x3)]) (rest := []) C 0 (vX7_told hc82) (cwV 3 C.1.2.2.2.2 gX7_flex_X7_told rfl rfl rfl (by decide +kernel) ⟨Nat.le_of_ble_eq_true rfl, Nat.le_of_ble_eq_true rfl⟩) (Nat.le_of_ble_eq_true rfl) rfl rfl rfl rfl (Nat.le_of_ble_eq_true rfl) dX7_flex_82 ⟨Nat.le_of_ble_eq_true rfl, Nat.le_of_ble_eq_true rfl⟩ ?_
  refine g_st (st' := [.long (r82)]) rfl ?_
  cases h
  exact g_xlret (pc := 85) CT hr dX7_flex_85 (Nat.le_of_ble_eq_true rfl) (Nat.le_of_ble_eq_true rfl)
set_option maxHeartbeats 4000000 in
set_option maxRecDepth 20000 in
theorem bX7_flex_48 (hflag : l.stackTraces = false) (CT : hv_CT p s m args meth c cX7_flex 4 wsX7_flex RX7 D (hv_tys cy) 55 a) (hr : meth.sig.returnType = (some .long)) {n : Nat} {o : Option Int64 × hv_St} : ∀ (σ : hv_St) (x1 : Int32) (x2 : Int32) (x3 : Int32), kX7_flex_48 n σ x1 x2 x3 = some o → hv_G p l e (headSpec wsX7_flex rmX7_flex).room s m args below meth c 4 D 55 a (hv_XE a cy) 0 0 (hv_XQ D 55 a (hv_XE a cy) below args s (o.1.map (fun x => some (.long x))) o.2 1 6) σ 48 [(0, .ref (a 0)), (1, .int (x1)), (2, .int (x2)), (3, .int (x3))] [] := by
  intro σ x1 x2 x3 h
  unfold kX7_flex_48 at h
  have C := CT.1
  refine g_iconst (pc := 48) C (v := (1 : Int32)) dX7_flex_48 (by decide) ?_
  refine g_goto (pc := 49) C (tgt := 53) dX7_flex_49 (by decide) ?_
  exact g_lv [0, 1, 2, 3] rfl (bX7_flex_53 hflag CT hr σ (x1) (x2) (x3) ((1 : Int32)) h)
set_option maxHeartbeats 4000000 in
set_option maxRecDepth 20000 in
theorem bX7_flex_52 (hflag : l.stackTraces = false) (CT : hv_CT p s m args meth c cX7_flex 4 wsX7_flex RX7 D (hv_tys cy) 55 a) (hr : meth.sig.returnType = (some .long)) {n : Nat} {o : Option Int64 × hv_St} : ∀ (σ : hv_St) (x1 : Int32) (x2 : Int32) (x3 : Int32), kX7_flex_52 n σ x1 x2 x3 = some o → hv_G p l e (headSpec wsX7_flex rmX7_flex).room s m args below meth c 4 D 55 a (hv_XE a cy) 0 0 (hv_XQ D 55 a (hv_XE a cy) below args s (o.1.map (fun x => some (.long x))) o.2 1 6) σ 52 [(0, .ref (a 0)), (1, .int (x1)), (2, .int (x2)), (3, .int (x3))] [] := by
  intro σ x1 x2 x3 h
  unfold kX7_flex_52 at h
  have C := CT.1
  refine g_iconst (pc := 52) C (v := (0 : Int32)) dX7_flex_52 (by decide) ?_
  exact g_lv [0, 1, 2, 3] rfl (bX7_flex_53 hflag CT hr σ (x1) (x2) (x3) ((0 : Int32)) h)
set_option maxHeartbeats 4000000 in
set_option maxRecDepth 20000 in
theorem vX7_flex (hflag : l.stackTraces = false) {n : Nat} {σ : hv_St} {p0 : Int32} {p1 : Int32} {p2 : Int32} {o : Option Int64 × hv_St} (h : mX7_flex n σ p0 p1 p2 = some o) : hv_XM l yX7_flex wsX7_flex rmX7_flex D (hv_tys cy) 55 a (hv_XE a cy) 1 6 [.ref (a 0), .int (p0), .int (p1), .int (p2)] σ (o.1.map (fun x => some (.long x))) o.2 := by
  refine hv_xenter (own := RX7) (cc := cX7_flex) (maxL := 4) (ret := (some .long)) (by decide) rfl rfl (Nat.le_of_ble_eq_true rfl) ?_
  intro p e s m args below meth c CT hr
  have C := CT.1
  unfold mX7_flex at h
  refine g_lv [0, 1, 2, 3] (lv' := [(0, .ref (a 0)), (1, .int (p0)), (2, .int (p1)), (3, .int (p2))]) rfl ?_
  refine g_aload_n (pc := 0) C 0 dX7_flex_0 rfl rfl ?_
  refine g_aload_n (pc := 1) C 0 dX7_flex_1 rfl rfl ?_
  refine gx_get_0_0 (pc := 2) C iX7_flex_X7 qX7_flex_F17 dX7_flex_2 ?_
  refine gx_get_1_2 (pc := 5) C iX7_flex_X3 qX7_flex_F97 dX7_flex_5 ?_
  refine g_aload_n (pc := 8) C 0 dX7_flex_8 rfl rfl ?_
  refine gx_get_0_0 (pc := 9) C iX7_flex_X7 qX7_flex_F17 dX7_flex_9 ?_
  refine gx_get_1_4 (pc := 12) C iX7_flex_X3 qX7_flex_F117 dX7_flex_12 ?_
  obtain ⟨r15, s15, hc15, h⟩ := hv_b2_some h
  refine g_callV (pc := 15) (σ1 := s15) (v := (some (.int (r15)))) (As := [.int (σ.1 1 2), .ref (a 3)]) (rest := []) C 0 (vX7_bears (Or.inl rfl) hc15) (cwV 2 C.1.2.2.2.2 gX7_flex_X7_bears rfl rfl rfl (by decide +kernel) ⟨Nat.le_of_ble_eq_true rfl, Nat.le_of_ble_eq_true rfl⟩) (Nat.le_of_ble_eq_true rfl) rfl rfl rfl rfl (Nat.le_of_ble_eq_true rfl) dX7_flex_15 ⟨Nat.le_of_ble_eq_true rfl, Nat.le_of_ble_eq_true rfl⟩ ?_
  refine g_st (st' := [.int (r15)]) rfl ?_
  refine g_if_eq (pc := 18) (tgt := 52) C dX7_flex_18 (by decide) (fun c18 => ?_) (fun c18 => ?_)
  · rw [if_pos c18] at h
    exact g_lv [0, 1, 2, 3] rfl (bX7_flex_52 hflag CT hr s15 (p0) (p1) (p2) h)
  · rw [if_neg c18] at h
    refine g_aload_n (pc := 21) C 0 dX7_flex_21 rfl rfl ?_
    refine gx_get_0_2 (pc := 22) C iX7_flex_X7 qX7_flex_F30 dX7_flex_22 ?_
    refine g_iload_n (pc := 25) C 1 dX7_flex_25 rfl rfl ?_
    obtain ⟨r26, s26, hc26, h⟩ := hv_b2_some h
    refine g_callV (pc := 26) (σ1 := s26) (v := (some (.int (r26)))) (As := [.int (p0)]) (rest := []) C 13 (vX5_isSpare hc26) (cwV 1 C.1.2.2.2.2 gX7_flex_X5_isSpare rfl rfl rfl (by decide +kernel) ⟨Nat.le_of_ble_eq_true rfl, Nat.le_of_ble_eq_true rfl⟩) (Nat.le_of_ble_eq_true rfl) rfl rfl rfl rfl (Nat.le_of_ble_eq_true rfl) dX7_flex_26 ⟨Nat.le_of_ble_eq_true rfl, Nat.le_of_ble_eq_true rfl⟩ ?_
    refine g_st (st' := [.int (r26)]) rfl ?_
    refine g_if_eq (pc := 29) (tgt := 52) C dX7_flex_29 (by decide) (fun c29 => ?_) (fun c29 => ?_)
    · rw [if_pos c29] at h
      exact g_lv [0, 1, 2, 3] rfl (bX7_flex_52 hflag CT hr s26 (p0) (p1) (p2) h)
    · rw [if_neg c29] at h
      refine g_iload_n (pc := 32) C 2 dX7_flex_32 rfl rfl ?_
      refine g_iconst (pc := 33) C (v := (-1 : Int32)) dX7_flex_33 (by decide) ?_
      refine g_icmp_eq (pc := 34) (tgt := 48) C dX7_flex_34 (by decide) (fun c34 => ?_) (fun c34 => ?_)
      · rw [if_pos c34] at h
        exact g_lv [0, 1, 2, 3] rfl (bX7_flex_48 hflag CT hr s26 (p0) (p1) (p2) h)
      · rw [if_neg c34] at h
        refine g_aload_n (pc := 37) C 0 dX7_flex_37 rfl rfl ?_
        refine gx_get_0_2 (pc := 38) C iX7_flex_X7 qX7_flex_F30 dX7_flex_38 ?_
        refine g_iload_n (pc := 41) C 2 dX7_flex_41 rfl rfl ?_
        obtain ⟨r42, s42, hc42, h⟩ := hv_b2_some h
        refine g_callV (pc := 42) (σ1 := s42) (v := (some (.int (r42)))) (As := [.int (p1)]) (rest := []) C 13 (vX5_isSpare hc42) (cwV 1 C.1.2.2.2.2 gX7_flex_X5_isSpare rfl rfl rfl (by decide +kernel) ⟨Nat.le_of_ble_eq_true rfl, Nat.le_of_ble_eq_true rfl⟩) (Nat.le_of_ble_eq_true rfl) rfl rfl rfl rfl (Nat.le_of_ble_eq_true rfl) dX7_flex_42 ⟨Nat.le_of_ble_eq_true rfl, Nat.le_of_ble_eq_true rfl⟩ ?_
        refine g_st (st' := [.int (r42)]) rfl ?_
        refine g_if_eq (pc := 45) (tgt := 52) C dX7_flex_45 (by decide) (fun c45 => ?_) (fun c45 => ?_)
        · rw [if_pos c45] at h
          exact g_lv [0, 1, 2, 3] rfl (bX7_flex_52 hflag CT hr s42 (p0) (p1) (p2) h)
        · rw [if_neg c45] at h
          exact g_lv [0, 1, 2, 3] rfl (bX7_flex_48 hflag CT hr s42 (p0) (p1) (p2) h)
abbrev rmX7_force : Room := { frames := 7, cells := 2, slots := 12, locals := 142 }
set_option maxRecDepth 20000 in
theorem qX7_force_F110 : Cond.fieldLink RX7 110 "PinFrame$Frame" "held" "[Z" ∈ wsX7_force := by decide +kernel
set_option maxRecDepth 20000 in
theorem qX7_force_F117 : Cond.fieldLink RX7 117 "PinFrame$Frame" "loads" "[I" ∈ wsX7_force := by decide +kernel
set_option maxRecDepth 20000 in
theorem qX7_force_F17 : Cond.fieldLink RX7 17 "PinFrame" "frame" "LPinFrame$Frame;" ∈ wsX7_force := by decide +kernel
set_option maxRecDepth 20000 in
theorem qX7_force_F192 : Cond.fieldLink RX7 192 "PinFrame$Pulls" "whole" "J" ∈ wsX7_force := by decide +kernel
set_option maxRecDepth 20000 in
theorem qX7_force_F30 : Cond.fieldLink RX7 30 "PinFrame" "pulls" "LPinFrame$Pulls;" ∈ wsX7_force := by decide +kernel
set_option maxRecDepth 20000 in
theorem qX7_force_F78 : Cond.fieldLink RX7 78 "PinFrame$Frame" "bars" "I" ∈ wsX7_force := by decide +kernel
set_option maxRecDepth 20000 in
theorem qX7_force_F97 : Cond.fieldLink RX7 97 "PinFrame$Frame" "on" "I" ∈ wsX7_force := by decide +kernel
set_option maxRecDepth 20000 in
theorem iX7_force_X3 : ∀ w ∈ u_ws RX3 TX3 10, w ∈ wsX7_force := by decide +kernel
set_option maxRecDepth 20000 in
theorem iX7_force_X5 : ∀ w ∈ u_ws RX5 TX5 7, w ∈ wsX7_force := by decide +kernel
set_option maxRecDepth 20000 in
theorem iX7_force_X7 : ∀ w ∈ u_ws RX7 TX7 7, w ∈ wsX7_force := by decide +kernel
set_option maxHeartbeats 4000000 in
set_option maxRecDepth 20000 in
theorem bX7_force_164 (hflag : l.stackTraces = false) (CT : hv_CT p s m args meth c cX7_force 8 wsX7_force RX7 D (hv_tys cy) 55 a) (hr : meth.sig.returnType = (some .long)) {n : Nat} {o : Option Int64 × hv_St} {r99 : hv_St → Int32 → Int32 → Int64 → Int32 → Option (Option Int64 × hv_St)} (hr99 : ∀ (σ : hv_St) (x3 : Int32) (x4 : Int32) (x5 : Int64) (x7 : Int32), r99 σ x3 x4 x5 x7 = some o → hv_G p l e (headSpec wsX7_force rmX7_force).room s m args below meth c 8 D 55 a (hv_XE a cy) 2 12 (hv_XQ D 55 a (hv_XE a cy) below args s (o.1.map (fun x => some (.long x))) o.2 2 12) σ 99 [(0, .ref (a 0)), (3, .int (x3)), (4, .int (x4)), (5, .long (x5)), (7, .int (x7))] []) : ∀ (σ : hv_St) (x3 : Int32) (x4 : Int32) (x5 : Int64) (x7 : Int32), kX7_force_164 n r99 σ x3 x4 x5 x7 = some o → hv_G p l e (headSpec wsX7_force rmX7_force).room s m args below meth c 8 D 55 a (hv_XE a cy) 2 12 (hv_XQ D 55 a (hv_XE a cy) below args s (o.1.map (fun x => some (.long x))) o.2 2 12) σ 164 [(0, .ref (a 0)), (3, .int (x3)), (4, .int (x4)), (5, .long (x5)), (7, .int (x7))] [] := by
  intro σ x3 x4 x5 x7 h
  unfold kX7_force_164 at h
  have C := CT.1
  refine g_iinc (pc := 164) C 4 (v := x7 + 1) (lv' := [(7, .int (x7 + 1)), (0, .ref (a 0)), (3, .int (x3)), (4, .int (x4)), (5, .long (x5))]) dX7_force_164 rfl rfl (Nat.le_of_ble_eq_true rfl) rfl ?_
  refine g_goto (pc := 167) C (tgt := 99) dX7_force_167 (by decide) ?_
  exact g_lv [1, 2, 3, 4, 0] rfl (hr99 σ (x3) (x4) (x5) (x7 + 1) h)
set_option maxHeartbeats 4000000 in
set_option maxRecDepth 20000 in
theorem bX7_force_99 (hflag : l.stackTraces = false) (CT : hv_CT p s m args meth c cX7_force 8 wsX7_force RX7 D (hv_tys cy) 55 a) (hr : meth.sig.returnType = (some .long)) {n : Nat} {o : Option Int64 × hv_St} : ∀ (i : Nat) (σ : hv_St) (x3 : Int32) (x4 : Int32) (x5 : Int64) (x7 : Int32), kX7_force_99 n i σ x3 x4 x5 x7 = some o → hv_G p l e (headSpec wsX7_force rmX7_force).room s m args below meth c 8 D 55 a (hv_XE a cy) 2 12 (hv_XQ D 55 a (hv_XE a cy) below args s (o.1.map (fun x => some (.long x))) o.2 2 12) σ 99 [(0, .ref (a 0)), (3, .int (x3)), (4, .int (x4)), (5, .long (x5)), (7, .int (x7))] [] := by
  intro i
  induction i with
  | zero =>
    intro σ x3 x4 x5 x7 h
    cases h
  | succ i ih =>
    intro σ x3 x4 x5 x7 h
    generalize hg : kX7_force_99 n i = r99 at ih
    have hr99 := ih
    replace h : kX7_force_99_b n r99 σ x3 x4 x5 x7 = some o := by rw [← hg]; exact h
    unfold kX7_force_99_b at h
    have C := CT.1
    refine g_iload (pc := 99) C 4 dX7_force_99 rfl ?_
    refine g_aload_n (pc := 101) C 0 dX7_force_101 rfl rfl ?_
    refine gx_get_0_0 (pc := 102) C iX7_force_X7 qX7_force_F17 dX7_force_102 ?_
    refine gx_get_1_1 (pc := 105) C iX7_force_X3 qX7_force_F78 dX7_force_105 ?_
    refine g_icmp_ge (pc := 108) (tgt := 170) C dX7_force_108 (by decide) (fun c108 => ?_) (fun c108 => ?_)
    · rw [if_pos c108] at h
      refine g_aload_n (pc := 170) C 0 dX7_force_170 rfl rfl ?_
      refine g_lload (pc := 171) C 3 dX7_force_171 rfl ?_
      refine g_lneg (pc := 173) C dX7_force_173 ?_
      refine g_aload_n (pc := 174) C 0 dX7_force_174 rfl rfl ?_
      refine gx_get_0_2 (pc := 175) C iX7_force_X7 qX7_force_F30 dX7_force_175 ?_
      refine gx_get_13_6 (pc := 178) C iX7_force_X5 qX7_force_F192 dX7_force_178 ?_
      refine g_iload_n (pc := 181) C 1 dX7_force_181 rfl rfl ?_
      obtain ⟨r182, s182, hc182, h⟩ := hv_b2_some h
      refine g_callV (pc := 182) (σ1 := s182) (v := (some (.long (r182)))) (As := [.long (-(x5)), .long (σ.2 13 6), .int (x3)]) (rest := []) C 0 (vX7_told hc182) (cwV 3 C.1.2.2.2.2 gX7_force_X7_told rfl rfl rfl (by decide +kernel) ⟨Nat.le_of_ble_eq_true rfl, Nat.le_of_ble_eq_true rfl⟩) (Nat.le_of_ble_eq_true rfl) rfl rfl rfl rfl (Nat.le_of_ble_eq_true rfl) dX7_force_182 ⟨Nat.le_of_ble_eq_true rfl, Nat.le_of_ble_eq_true rfl⟩ ?_
      refine g_st (st' := [.long (r182)]) rfl ?_
      cases h
      exact g_xlret (pc := 185) CT hr dX7_force_185 (Nat.le_of_ble_eq_true rfl) (Nat.le_of_ble_eq_true rfl)
    · rw [if_neg c108] at h
      refine g_aload_n (pc := 111) C 0 dX7_force_111 rfl rfl ?_
      refine gx_get_0_0 (pc := 112) C iX7_force_X7 qX7_force_F17 dX7_force_112 ?_
      refine g_iload (pc := 115) C 4 dX7_force_115 rfl ?_
      obtain ⟨r117, s117, hc117, h⟩ := hv_b2_some h
      refine g_callV (pc := 117) (σ1 := s117) (v := (some (.int (r117)))) (As := [.int (x7)]) (rest := []) C 1 (vX3_isOn hc117) (cwV 1 C.1.2.2.2.2 gX7_force_X3_isOn rfl rfl rfl (by decide +kernel) ⟨Nat.le_of_ble_eq_true rfl, Nat.le_of_ble_eq_true rfl⟩) (Nat.le_of_ble_eq_true rfl) rfl rfl rfl rfl (Nat.le_of_ble_eq_true rfl) dX7_force_117 ⟨Nat.le_of_ble_eq_true rfl, Nat.le_of_ble_eq_true rfl⟩ ?_
      refine g_st (st' := [.int (r117)]) rfl ?_
      refine g_if_eq (pc := 120) (tgt := 164) C dX7_force_120 (by decide) (fun c120 => ?_) (fun c120 => ?_)
      · rw [if_pos c120] at h
        exact g_lv [0, 1, 2, 3, 4] rfl (bX7_force_164 hflag CT hr hr99 s117 (x3) (x4) (x5) (x7) h)
      · rw [if_neg c120] at h
        refine g_aload_n (pc := 123) C 0 dX7_force_123 rfl rfl ?_
        refine gx_get_0_0 (pc := 124) C iX7_force_X7 qX7_force_F17 dX7_force_124 ?_
        refine g_iload (pc := 127) C 4 dX7_force_127 rfl ?_
        refine g_iload (pc := 129) C 2 dX7_force_129 rfl ?_
        obtain ⟨r131, s131, hc131, h⟩ := hv_b2_some h
        refine g_callV (pc := 131) (σ1 := s131) (v := (some (.int (r131)))) (As := [.int (x7), .int (x4)]) (rest := []) C 1 (vX3_brings hc131) (cwV 2 C.1.2.2.2.2 gX7_force_X3_brings rfl rfl rfl (by decide +kernel) ⟨Nat.le_of_ble_eq_true rfl, Nat.le_of_ble_eq_true rfl⟩) (Nat.le_of_ble_eq_true rfl) rfl rfl rfl rfl (Nat.le_of_ble_eq_true rfl) dX7_force_131 ⟨Nat.le_of_ble_eq_true rfl, Nat.le_of_ble_eq_true rfl⟩ ?_
        refine g_st (st' := [.int (r131)]) rfl ?_
        refine g_if_eq (pc := 134) (tgt := 164) C dX7_force_134 (by decide) (fun c134 => ?_) (fun c134 => ?_)
        · rw [if_pos c134] at h
          exact g_lv [0, 1, 2, 3, 4] rfl (bX7_force_164 hflag CT hr hr99 s131 (x3) (x4) (x5) (x7) h)
        · rw [if_neg c134] at h
          refine g_lload (pc := 137) C 3 dX7_force_137 rfl ?_
          refine g_aload_n (pc := 139) C 0 dX7_force_139 rfl rfl ?_
          refine gx_get_0_0 (pc := 140) C iX7_force_X7 qX7_force_F17 dX7_force_140 ?_
          refine g_iload (pc := 143) C 4 dX7_force_143 rfl ?_
          refine g_iload (pc := 145) C 2 dX7_force_145 rfl ?_
          obtain ⟨r147, s147, hc147, h⟩ := hv_b2_some h
          refine g_callV (pc := 147) (σ1 := s147) (v := (some (.int (r147)))) (As := [.int (x7), .int (x4)]) (rest := [.long (x5)]) C 1 (vX3_brings hc147) (cwV 2 C.1.2.2.2.2 gX7_force_X3_brings rfl rfl rfl (by decide +kernel) ⟨Nat.le_of_ble_eq_true rfl, Nat.le_of_ble_eq_true rfl⟩) (Nat.le_of_ble_eq_true rfl) rfl rfl rfl rfl (Nat.le_of_ble_eq_true rfl) dX7_force_147 ⟨Nat.le_of_ble_eq_true rfl, Nat.le_of_ble_eq_true rfl⟩ ?_
          refine g_st (st' := [.int (r147), .long (x5)]) rfl ?_
          refine g_i2l (pc := 150) C dX7_force_150 ?_
          refine g_aload_n (pc := 151) C 0 dX7_force_151 rfl rfl ?_
          refine gx_get_0_2 (pc := 152) C iX7_force_X7 qX7_force_F30 dX7_force_152 ?_
          refine g_iload (pc := 155) C 4 dX7_force_155 rfl ?_
          obtain ⟨r157, s157, hc157, h⟩ := hv_b2_some h
          refine g_callV (pc := 157) (σ1 := s157) (v := (some (.long (r157)))) (As := [.int (x7)]) (rest := [.long ((r147).toInt64), .long (x5)]) C 13 (vX5_overOf hc157) (cwV 1 C.1.2.2.2.2 gX7_force_X5_overOf rfl rfl rfl (by decide +kernel) ⟨Nat.le_of_ble_eq_true rfl, Nat.le_of_ble_eq_true rfl⟩) (Nat.le_of_ble_eq_true rfl) rfl rfl rfl rfl (Nat.le_of_ble_eq_true rfl) dX7_force_157 ⟨Nat.le_of_ble_eq_true rfl, Nat.le_of_ble_eq_true rfl⟩ ?_
          refine g_st (st' := [.long (r157), .long ((r147).toInt64), .long (x5)]) rfl ?_
          refine g_lmul (pc := 160) C dX7_force_160 ?_
          refine g_ladd (pc := 161) C dX7_force_161 ?_
          obtain ⟨y5_162, ey5_162, h⟩ := hv_let_some h
          refine g_lstore (pc := 162) C (lv' := [(5, .long (y5_162)), (0, .ref (a 0)), (3, .int (x3)), (4, .int (x4)), (7, .int (x7))]) ey5_162 dX7_force_162 (Nat.le_of_ble_eq_true rfl) rfl ?_
          exact g_lv [1, 2, 3, 0, 4] rfl (bX7_force_164 hflag CT hr hr99 s157 (x3) (x4) (y5_162) (x7) h)
set_option maxHeartbeats 4000000 in
set_option maxRecDepth 20000 in
theorem bX7_force_72 (hflag : l.stackTraces = false) (CT : hv_CT p s m args meth c cX7_force 8 wsX7_force RX7 D (hv_tys cy) 55 a) (hr : meth.sig.returnType = (some .long)) {n : Nat} {o : Option Int64 × hv_St} : ∀ (σ : hv_St) (x3 : Int32) (x4 : Int32) (z0 : Int32), kX7_force_72 n σ x3 x4 z0 = some o → hv_G p l e (headSpec wsX7_force rmX7_force).room s m args below meth c 8 D 55 a (hv_XE a cy) 1 6 (hv_XQ D 55 a (hv_XE a cy) below args s (o.1.map (fun x => some (.long x))) o.2 2 12) σ 72 [(0, .ref (a 0)), (3, .int (x3)), (4, .int (x4))] [.int (z0)] := by
  intro σ x3 x4 z0 h
  unfold kX7_force_72 at h
  have C := CT.1
  rcases hv_bx_some h with ⟨s72, hc72, rfl⟩ | ⟨y72, s72, hc72, h⟩
  · exact g_xcallS0 (pc := 72) (σ1 := s72) (As := [.int (z0)]) (rest := []) CT (vX7_need hflag hc72) (va_cwS 1 C.1.2.2.2.2 gX7_force_X7_need rfl rfl rfl (by decide +kernel) ⟨Nat.le_of_ble_eq_true rfl, Nat.le_of_ble_eq_true rfl⟩) rfl rfl (Nat.le_of_ble_eq_true rfl) dX7_force_72 ⟨Nat.le_of_ble_eq_true rfl, Nat.le_of_ble_eq_true rfl⟩ (Nat.le_of_ble_eq_true rfl) (Nat.le_of_ble_eq_true rfl)
  refine g_xcallS (pc := 72) (σ1 := s72) (v := none) (As := [.int (z0)]) (rest := []) CT (vX7_need hflag hc72) (va_cwS 1 C.1.2.2.2.2 gX7_force_X7_need rfl rfl rfl (by decide +kernel) ⟨Nat.le_of_ble_eq_true rfl, Nat.le_of_ble_eq_true rfl⟩) rfl rfl (Nat.le_of_ble_eq_true rfl) dX7_force_72 ⟨Nat.le_of_ble_eq_true rfl, Nat.le_of_ble_eq_true rfl⟩ ?_
  refine g_st (st' := []) rfl ?_
  refine g_aload_n (pc := 75) C 0 dX7_force_75 rfl rfl ?_
  refine gx_get_0_0 (pc := 76) C iX7_force_X7 qX7_force_F17 dX7_force_76 ?_
  refine gx_get_1_4 (pc := 79) C iX7_force_X3 qX7_force_F117 dX7_force_79 ?_
  refine g_iload (pc := 82) C 2 dX7_force_82 rfl ?_
  obtain ⟨k84, h⟩ := hv_if_some h
  refine gx_ld_3 (pc := 84) C k84 dX7_force_84 ?_
  refine g_i2l (pc := 85) C dX7_force_85 ?_
  refine g_aload_n (pc := 86) C 0 dX7_force_86 rfl rfl ?_
  refine gx_get_0_2 (pc := 87) C iX7_force_X7 qX7_force_F30 dX7_force_87 ?_
  refine gx_get_13_6 (pc := 90) C iX7_force_X5 qX7_force_F192 dX7_force_90 ?_
  refine g_lmul (pc := 93) C dX7_force_93 ?_
  obtain ⟨y5_94, ey5_94, h⟩ := hv_let_some h
  refine g_lstore (pc := 94) C (lv' := [(5, .long (y5_94)), (0, .ref (a 0)), (3, .int (x3)), (4, .int (x4))]) ey5_94 dX7_force_94 (Nat.le_of_ble_eq_true rfl) rfl ?_
  refine g_iconst (pc := 96) C (v := (0 : Int32)) dX7_force_96 (by decide) ?_
  refine g_istore (pc := 97) C (lv' := [(7, .int ((0 : Int32))), (5, .long (y5_94)), (0, .ref (a 0)), (3, .int (x3)), (4, .int (x4))]) rfl dX7_force_97 (Nat.le_of_ble_eq_true rfl) rfl ?_
  exact g_lv [2, 3, 4, 1, 0] rfl (bX7_force_99 hflag CT hr n s72 (x3) (x4) (y5_94) ((0 : Int32)) h)
set_option maxHeartbeats 4000000 in
set_option maxRecDepth 20000 in
theorem bX7_force_71 (hflag : l.stackTraces = false) (CT : hv_CT p s m args meth c cX7_force 8 wsX7_force RX7 D (hv_tys cy) 55 a) (hr : meth.sig.returnType = (some .long)) {n : Nat} {o : Option Int64 × hv_St} : ∀ (σ : hv_St) (x3 : Int32) (x4 : Int32), kX7_force_71 n σ x3 x4 = some o → hv_G p l e (headSpec wsX7_force rmX7_force).room s m args below meth c 8 D 55 a (hv_XE a cy) 1 6 (hv_XQ D 55 a (hv_XE a cy) below args s (o.1.map (fun x => some (.long x))) o.2 2 12) σ 71 [(0, .ref (a 0)), (3, .int (x3)), (4, .int (x4))] [] := by
  intro σ x3 x4 h
  unfold kX7_force_71 at h
  have C := CT.1
  refine g_iconst (pc := 71) C (v := (0 : Int32)) dX7_force_71 (by decide) ?_
  exact g_lv [0, 1, 2] rfl (bX7_force_72 hflag CT hr σ (x3) (x4) ((0 : Int32)) h)
set_option maxHeartbeats 4000000 in
set_option maxRecDepth 20000 in
theorem bX7_force_23 (hflag : l.stackTraces = false) (CT : hv_CT p s m args meth c cX7_force 8 wsX7_force RX7 D (hv_tys cy) 55 a) (hr : meth.sig.returnType = (some .long)) {n : Nat} {o : Option Int64 × hv_St} : ∀ (σ : hv_St) (x1 : Int32) (x2 : Int32) (x3 : Int32) (z0 : Int32), kX7_force_23 n σ x1 x2 x3 z0 = some o → hv_G p l e (headSpec wsX7_force rmX7_force).room s m args below meth c 8 D 55 a (hv_XE a cy) 0 0 (hv_XQ D 55 a (hv_XE a cy) below args s (o.1.map (fun x => some (.long x))) o.2 2 12) σ 23 [(0, .ref (a 0)), (1, .int (x1)), (2, .int (x2)), (3, .int (x3))] [.int (z0)] := by
  intro σ x1 x2 x3 z0 h
  unfold kX7_force_23 at h
  have C := CT.1
  rcases hv_bx_some h with ⟨s23, hc23, rfl⟩ | ⟨y23, s23, hc23, h⟩
  · exact g_xcallS0 (pc := 23) (σ1 := s23) (As := [.int (z0)]) (rest := []) CT (vX7_need hflag hc23) (va_cwS 1 C.1.2.2.2.2 gX7_force_X7_need rfl rfl rfl (by decide +kernel) ⟨Nat.le_of_ble_eq_true rfl, Nat.le_of_ble_eq_true rfl⟩) rfl rfl (Nat.le_of_ble_eq_true rfl) dX7_force_23 ⟨Nat.le_of_ble_eq_true rfl, Nat.le_of_ble_eq_true rfl⟩ (Nat.le_of_ble_eq_true rfl) (Nat.le_of_ble_eq_true rfl)
  refine g_xcallS (pc := 23) (σ1 := s23) (v := none) (As := [.int (z0)]) (rest := []) CT (vX7_need hflag hc23) (va_cwS 1 C.1.2.2.2.2 gX7_force_X7_need rfl rfl rfl (by decide +kernel) ⟨Nat.le_of_ble_eq_true rfl, Nat.le_of_ble_eq_true rfl⟩) rfl rfl (Nat.le_of_ble_eq_true rfl) dX7_force_23 ⟨Nat.le_of_ble_eq_true rfl, Nat.le_of_ble_eq_true rfl⟩ ?_
  refine g_st (st' := []) rfl ?_
  refine g_iconst (pc := 26) C (v := (2 : Int32)) dX7_force_26 (by decide) ?_
  refine g_iload_n (pc := 27) C 1 dX7_force_27 rfl rfl ?_
  refine g_imul (pc := 28) C dX7_force_28 ?_
  refine g_iload_n (pc := 29) C 2 dX7_force_29 rfl rfl ?_
  refine g_iadd (pc := 30) C dX7_force_30 ?_
  obtain ⟨y4_31, ey4_31, h⟩ := hv_let_some h
  refine g_istore (pc := 31) C (lv' := [(4, .int (y4_31)), (0, .ref (a 0)), (1, .int (x1)), (2, .int (x2)), (3, .int (x3))]) ey4_31 dX7_force_31 (Nat.le_of_ble_eq_true rfl) rfl ?_
  refine g_aload_n (pc := 33) C 1 dX7_force_33 rfl rfl ?_
  refine gx_get_0_0 (pc := 34) C iX7_force_X7 qX7_force_F17 dX7_force_34 ?_
  refine gx_get_1_5 (pc := 37) C iX7_force_X3 qX7_force_F110 dX7_force_37 ?_
  refine g_iload (pc := 40) C 0 dX7_force_40 rfl ?_
  obtain ⟨k42, h⟩ := hv_if_some h
  refine gx_ld_4 (pc := 42) C k42 dX7_force_42 ?_
  refine g_if_eq (pc := 43) (tgt := 71) C dX7_force_43 (by decide) (fun c43 => ?_) (fun c43 => ?_)
  · rw [if_pos c43] at h
    exact g_lv [1, 4, 0] rfl (bX7_force_71 hflag CT hr s23 (x3) (y4_31) h)
  · rw [if_neg c43] at h
    refine g_aload_n (pc := 46) C 1 dX7_force_46 rfl rfl ?_
    refine g_aload_n (pc := 47) C 1 dX7_force_47 rfl rfl ?_
    refine gx_get_0_0 (pc := 48) C iX7_force_X7 qX7_force_F17 dX7_force_48 ?_
    refine gx_get_1_2 (pc := 51) C iX7_force_X3 qX7_force_F97 dX7_force_51 ?_
    refine g_aload_n (pc := 54) C 1 dX7_force_54 rfl rfl ?_
    refine gx_get_0_0 (pc := 55) C iX7_force_X7 qX7_force_F17 dX7_force_55 ?_
    refine gx_get_1_4 (pc := 58) C iX7_force_X3 qX7_force_F117 dX7_force_58 ?_
    obtain ⟨r61, s61, hc61, h⟩ := hv_b2_some h
    refine g_callV (pc := 61) (σ1 := s61) (v := (some (.int (r61)))) (As := [.int (s23.1 1 2), .ref (a 3)]) (rest := []) C 0 (vX7_bears (Or.inl rfl) hc61) (cwV 2 C.1.2.2.2.2 gX7_force_X7_bears rfl rfl rfl (by decide +kernel) ⟨Nat.le_of_ble_eq_true rfl, Nat.le_of_ble_eq_true rfl⟩) (Nat.le_of_ble_eq_true rfl) rfl rfl rfl rfl (Nat.le_of_ble_eq_true rfl) dX7_force_61 ⟨Nat.le_of_ble_eq_true rfl, Nat.le_of_ble_eq_true rfl⟩ ?_
    refine g_st (st' := [.int (r61)]) rfl ?_
    refine g_if_eq (pc := 64) (tgt := 71) C dX7_force_64 (by decide) (fun c64 => ?_) (fun c64 => ?_)
    · rw [if_pos c64] at h
      exact g_lv [1, 4, 0] rfl (bX7_force_71 hflag CT hr s61 (x3) (y4_31) h)
    · rw [if_neg c64] at h
      refine g_iconst (pc := 67) C (v := (1 : Int32)) dX7_force_67 (by decide) ?_
      refine g_goto (pc := 68) C (tgt := 72) dX7_force_68 (by decide) ?_
      exact g_lv [1, 4, 0] rfl (bX7_force_72 hflag CT hr s61 (x3) (y4_31) ((1 : Int32)) h)
set_option maxHeartbeats 4000000 in
set_option maxRecDepth 20000 in
theorem bX7_force_22 (hflag : l.stackTraces = false) (CT : hv_CT p s m args meth c cX7_force 8 wsX7_force RX7 D (hv_tys cy) 55 a) (hr : meth.sig.returnType = (some .long)) {n : Nat} {o : Option Int64 × hv_St} : ∀ (σ : hv_St) (x1 : Int32) (x2 : Int32) (x3 : Int32), kX7_force_22 n σ x1 x2 x3 = some o → hv_G p l e (headSpec wsX7_force rmX7_force).room s m args below meth c 8 D 55 a (hv_XE a cy) 0 0 (hv_XQ D 55 a (hv_XE a cy) below args s (o.1.map (fun x => some (.long x))) o.2 2 12) σ 22 [(0, .ref (a 0)), (1, .int (x1)), (2, .int (x2)), (3, .int (x3))] [] := by
  intro σ x1 x2 x3 h
  unfold kX7_force_22 at h
  have C := CT.1
  refine g_iconst (pc := 22) C (v := (0 : Int32)) dX7_force_22 (by decide) ?_
  exact g_lv [0, 1, 2, 3] rfl (bX7_force_23 hflag CT hr σ (x1) (x2) (x3) ((0 : Int32)) h)
set_option maxHeartbeats 4000000 in
set_option maxRecDepth 20000 in
theorem vX7_force (hflag : l.stackTraces = false) {n : Nat} {σ : hv_St} {p0 : Int32} {p1 : Int32} {p2 : Int32} {o : Option Int64 × hv_St} (h : mX7_force n σ p0 p1 p2 = some o) : hv_XM l yX7_force wsX7_force rmX7_force D (hv_tys cy) 55 a (hv_XE a cy) 2 12 [.ref (a 0), .int (p0), .int (p1), .int (p2)] σ (o.1.map (fun x => some (.long x))) o.2 := by
  refine hv_xenter (own := RX7) (cc := cX7_force) (maxL := 8) (ret := (some .long)) (by decide) rfl rfl (Nat.le_of_ble_eq_true rfl) ?_
  intro p e s m args below meth c CT hr
  have C := CT.1
  unfold mX7_force at h
  refine g_lv [0, 1, 2, 3] (lv' := [(0, .ref (a 0)), (1, .int (p0)), (2, .int (p1)), (3, .int (p2))]) rfl ?_
  refine g_aload_n (pc := 0) C 0 dX7_force_0 rfl rfl ?_
  refine gx_get_0_0 (pc := 1) C iX7_force_X7 qX7_force_F17 dX7_force_1 ?_
  refine g_iload_n (pc := 4) C 1 dX7_force_4 rfl rfl ?_
  obtain ⟨r5, s5, hc5, h⟩ := hv_b2_some h
  refine g_callV (pc := 5) (σ1 := s5) (v := (some (.int (r5)))) (As := [.int (p0)]) (rest := []) C 1 (vX3_isPin hc5) (cwV 1 C.1.2.2.2.2 gX7_force_X3_isPin rfl rfl rfl (by decide +kernel) ⟨Nat.le_of_ble_eq_true rfl, Nat.le_of_ble_eq_true rfl⟩) (Nat.le_of_ble_eq_true rfl) rfl rfl rfl rfl (Nat.le_of_ble_eq_true rfl) dX7_force_5 ⟨Nat.le_of_ble_eq_true rfl, Nat.le_of_ble_eq_true rfl⟩ ?_
  refine g_st (st' := [.int (r5)]) rfl ?_
  refine g_if_eq (pc := 8) (tgt := 22) C dX7_force_8 (by decide) (fun c8 => ?_) (fun c8 => ?_)
  · rw [if_pos c8] at h
    exact g_lv [0, 1, 2, 3] rfl (bX7_force_22 hflag CT hr s5 (p0) (p1) (p2) h)
  · rw [if_neg c8] at h
    refine g_iload_n (pc := 11) C 2 dX7_force_11 rfl rfl ?_
    obtain ⟨r12, s12, hc12, h⟩ := hv_b2_some h
    refine g_callS (pc := 12) (σ1 := s12) (v := (some (.int (r12)))) (As := [.int (p1)]) (rest := []) C (vX7_isDirection hc12) (va_cwS 1 C.1.2.2.2.2 gX7_force_X7_isDirection rfl rfl rfl (by decide +kernel) ⟨Nat.le_of_ble_eq_true rfl, Nat.le_of_ble_eq_true rfl⟩) rfl rfl (Nat.le_of_ble_eq_true rfl) dX7_force_12 ⟨Nat.le_of_ble_eq_true rfl, Nat.le_of_ble_eq_true rfl⟩ ?_
    refine g_st (st' := [.int (r12)]) rfl ?_
    refine g_if_eq (pc := 15) (tgt := 22) C dX7_force_15 (by decide) (fun c15 => ?_) (fun c15 => ?_)
    · rw [if_pos c15] at h
      exact g_lv [0, 1, 2, 3] rfl (bX7_force_22 hflag CT hr s12 (p0) (p1) (p2) h)
    · rw [if_neg c15] at h
      refine g_iconst (pc := 18) C (v := (1 : Int32)) dX7_force_18 (by decide) ?_
      refine g_goto (pc := 19) C (tgt := 23) dX7_force_19 (by decide) ?_
      exact g_lv [0, 1, 2, 3] rfl (bX7_force_23 hflag CT hr s12 (p0) (p1) (p2) ((1 : Int32)) h)
abbrev rmX7_influence : Room := { frames := 7, cells := 2, slots := 12, locals := 142 }
set_option maxRecDepth 20000 in
theorem qX7_influence_F17 : Cond.fieldLink RX7 17 "PinFrame" "frame" "LPinFrame$Frame;" ∈ wsX7_influence := by decide +kernel
set_option maxRecDepth 20000 in
theorem qX7_influence_F51 : Cond.fieldLink RX7 51 "PinFrame" "ride" "LPinFrame$Ride;" ∈ wsX7_influence := by decide +kernel
set_option maxRecDepth 20000 in
theorem qX7_influence_F97 : Cond.fieldLink RX7 97 "PinFrame$Frame" "on" "I" ∈ wsX7_influence := by decide +kernel
set_option maxRecDepth 20000 in
theorem iX7_influence_X3 : ∀ w ∈ u_ws RX3 TX3 10, w ∈ wsX7_influence := by decide +kernel
set_option maxRecDepth 20000 in
theorem iX7_influence_X7 : ∀ w ∈ u_ws RX7 TX7 7, w ∈ wsX7_influence := by decide +kernel
set_option maxHeartbeats 4000000 in
set_option maxRecDepth 20000 in
theorem bX7_influence_34 (hflag : l.stackTraces = false) (CT : hv_CT p s m args meth c cX7_influence 5 wsX7_influence RX7 D (hv_tys cy) 55 a) (hr : meth.sig.returnType = (some .long)) {n : Nat} {o : Option Int64 × hv_St} : ∀ (σ : hv_St) (x1 : Int32) (x2 : Int32) (x3 : Int32) (x4 : Int32) (z0 : Int32), kX7_influence_34 n σ x1 x2 x3 x4 z0 = some o → hv_G p l e (headSpec wsX7_influence rmX7_influence).room s m args below meth c 5 D 55 a (hv_XE a cy) 0 0 (hv_XQ D 55 a (hv_XE a cy) below args s (o.1.map (fun x => some (.long x))) o.2 2 12) σ 34 [(0, .ref (a 0)), (1, .int (x1)), (2, .int (x2)), (3, .int (x3)), (4, .int (x4))] [.int (z0)] := by
  intro σ x1 x2 x3 x4 z0 h
  unfold kX7_influence_34 at h
  have C := CT.1
  rcases hv_bx_some h with ⟨s34, hc34, rfl⟩ | ⟨y34, s34, hc34, h⟩
  · exact g_xcallS0 (pc := 34) (σ1 := s34) (As := [.int (z0)]) (rest := []) CT (vX7_need hflag hc34) (va_cwS 1 C.1.2.2.2.2 gX7_influence_X7_need rfl rfl rfl (by decide +kernel) ⟨Nat.le_of_ble_eq_true rfl, Nat.le_of_ble_eq_true rfl⟩) rfl rfl (Nat.le_of_ble_eq_true rfl) dX7_influence_34 ⟨Nat.le_of_ble_eq_true rfl, Nat.le_of_ble_eq_true rfl⟩ (Nat.le_of_ble_eq_true rfl) (Nat.le_of_ble_eq_true rfl)
  refine g_xcallS (pc := 34) (σ1 := s34) (v := none) (As := [.int (z0)]) (rest := []) CT (vX7_need hflag hc34) (va_cwS 1 C.1.2.2.2.2 gX7_influence_X7_need rfl rfl rfl (by decide +kernel) ⟨Nat.le_of_ble_eq_true rfl, Nat.le_of_ble_eq_true rfl⟩) rfl rfl (Nat.le_of_ble_eq_true rfl) dX7_influence_34 ⟨Nat.le_of_ble_eq_true rfl, Nat.le_of_ble_eq_true rfl⟩ ?_
  refine g_st (st' := []) rfl ?_
  refine g_aload_n (pc := 37) C 0 dX7_influence_37 rfl rfl ?_
  refine g_aload_n (pc := 38) C 0 dX7_influence_38 rfl rfl ?_
  refine gx_get_0_0 (pc := 39) C iX7_influence_X7 qX7_influence_F17 dX7_influence_39 ?_
  refine gx_get_1_2 (pc := 42) C iX7_influence_X3 qX7_influence_F97 dX7_influence_42 ?_
  refine g_aload_n (pc := 45) C 0 dX7_influence_45 rfl rfl ?_
  refine gx_get_0_5 (pc := 46) C iX7_influence_X7 qX7_influence_F51 dX7_influence_46 ?_
  refine g_iconst (pc := 49) C (v := (2 : Int32)) dX7_influence_49 (by decide) ?_
  refine g_iload_n (pc := 50) C 2 dX7_influence_50 rfl rfl ?_
  refine g_imul (pc := 51) C dX7_influence_51 ?_
  refine g_iload_n (pc := 52) C 3 dX7_influence_52 rfl rfl ?_
  refine g_iadd (pc := 53) C dX7_influence_53 ?_
  obtain ⟨s54, hc54, h⟩ := hv_bd_some h
  refine g_callV (pc := 54) (σ1 := s54) (v := (some (.ref (a 25)))) (As := [.int ((((2 : Int32)) * (x2)) + (x3))]) (rest := [.int (s34.1 1 2), .ref (a 0)]) C 22 (vX6_oneLoad hc54) (cwV 1 C.1.2.2.2.2 gX7_influence_X6_oneLoad rfl rfl rfl (by decide +kernel) ⟨Nat.le_of_ble_eq_true rfl, Nat.le_of_ble_eq_true rfl⟩) (Nat.le_of_ble_eq_true rfl) rfl rfl rfl rfl (Nat.le_of_ble_eq_true rfl) dX7_influence_54 ⟨Nat.le_of_ble_eq_true rfl, Nat.le_of_ble_eq_true rfl⟩ ?_
  refine g_st (st' := [.ref (a 25), .int (s34.1 1 2), .ref (a 0)]) rfl ?_
  obtain ⟨r57, s57, hc57, h⟩ := hv_b2_some h
  refine g_callV (pc := 57) (σ1 := s57) (v := (some (.int (r57)))) (As := [.int (s34.1 1 2), .ref (a 25)]) (rest := []) C 0 (vX7_bears (Or.inr (rfl)) hc57) (cwV 2 C.1.2.2.2.2 gX7_influence_X7_bears rfl rfl rfl (by decide +kernel) ⟨Nat.le_of_ble_eq_true rfl, Nat.le_of_ble_eq_true rfl⟩) (Nat.le_of_ble_eq_true rfl) rfl rfl rfl rfl (Nat.le_of_ble_eq_true rfl) dX7_influence_57 ⟨Nat.le_of_ble_eq_true rfl, Nat.le_of_ble_eq_true rfl⟩ ?_
  refine g_st (st' := [.int (r57)]) rfl ?_
  rcases hv_bx_some h with ⟨s60, hc60, rfl⟩ | ⟨y60, s60, hc60, h⟩
  · exact g_xcallS0 (pc := 60) (σ1 := s60) (As := [.int (r57)]) (rest := []) CT (vX7_need hflag hc60) (va_cwS 1 C.1.2.2.2.2 gX7_influence_X7_need rfl rfl rfl (by decide +kernel) ⟨Nat.le_of_ble_eq_true rfl, Nat.le_of_ble_eq_true rfl⟩) rfl rfl (Nat.le_of_ble_eq_true rfl) dX7_influence_60 ⟨Nat.le_of_ble_eq_true rfl, Nat.le_of_ble_eq_true rfl⟩ (Nat.le_of_ble_eq_true rfl) (Nat.le_of_ble_eq_true rfl)
  refine g_xcallS (pc := 60) (σ1 := s60) (v := none) (As := [.int (r57)]) (rest := []) CT (vX7_need hflag hc60) (va_cwS 1 C.1.2.2.2.2 gX7_influence_X7_need rfl rfl rfl (by decide +kernel) ⟨Nat.le_of_ble_eq_true rfl, Nat.le_of_ble_eq_true rfl⟩) rfl rfl (Nat.le_of_ble_eq_true rfl) dX7_influence_60 ⟨Nat.le_of_ble_eq_true rfl, Nat.le_of_ble_eq_true rfl⟩ ?_
  refine g_st (st' := []) rfl ?_
  refine g_aload_n (pc := 63) C 0 dX7_influence_63 rfl rfl ?_
  refine g_iload_n (pc := 64) C 1 dX7_influence_64 rfl rfl ?_
  refine g_iload (pc := 65) C 4 dX7_influence_65 rfl ?_
  obtain ⟨r67, s67, hc67, h⟩ := hv_b2_some h
  refine g_callV (pc := 67) (σ1 := s67) (v := (some (.long (r67)))) (As := [.int (x1), .int (x4)]) (rest := []) C 0 (vX7_toldPull hc67) (cwV 2 C.1.2.2.2.2 gX7_influence_X7_toldPull rfl rfl rfl (by decide +kernel) ⟨Nat.le_of_ble_eq_true rfl, Nat.le_of_ble_eq_true rfl⟩) (Nat.le_of_ble_eq_true rfl) rfl rfl rfl rfl (Nat.le_of_ble_eq_true rfl) dX7_influence_67 ⟨Nat.le_of_ble_eq_true rfl, Nat.le_of_ble_eq_true rfl⟩ ?_
  refine g_st (st' := [.long (r67)]) rfl ?_
  cases h
  exact g_xlret (pc := 70) CT hr dX7_influence_70 (Nat.le_of_ble_eq_true rfl) (Nat.le_of_ble_eq_true rfl)
set_option maxHeartbeats 4000000 in
set_option maxRecDepth 20000 in
theorem bX7_influence_33 (hflag : l.stackTraces = false) (CT : hv_CT p s m args meth c cX7_influence 5 wsX7_influence RX7 D (hv_tys cy) 55 a) (hr : meth.sig.returnType = (some .long)) {n : Nat} {o : Option Int64 × hv_St} : ∀ (σ : hv_St) (x1 : Int32) (x2 : Int32) (x3 : Int32) (x4 : Int32), kX7_influence_33 n σ x1 x2 x3 x4 = some o → hv_G p l e (headSpec wsX7_influence rmX7_influence).room s m args below meth c 5 D 55 a (hv_XE a cy) 0 0 (hv_XQ D 55 a (hv_XE a cy) below args s (o.1.map (fun x => some (.long x))) o.2 2 12) σ 33 [(0, .ref (a 0)), (1, .int (x1)), (2, .int (x2)), (3, .int (x3)), (4, .int (x4))] [] := by
  intro σ x1 x2 x3 x4 h
  unfold kX7_influence_33 at h
  have C := CT.1
  refine g_iconst (pc := 33) C (v := (0 : Int32)) dX7_influence_33 (by decide) ?_
  exact g_lv [0, 1, 2, 3, 4] rfl (bX7_influence_34 hflag CT hr σ (x1) (x2) (x3) (x4) ((0 : Int32)) h)
set_option maxHeartbeats 4000000 in
set_option maxRecDepth 20000 in
theorem vX7_influence (hflag : l.stackTraces = false) {n : Nat} {σ : hv_St} {p0 : Int32} {p1 : Int32} {p2 : Int32} {p3 : Int32} {o : Option Int64 × hv_St} (h : mX7_influence n σ p0 p1 p2 p3 = some o) : hv_XM l yX7_influence wsX7_influence rmX7_influence D (hv_tys cy) 55 a (hv_XE a cy) 2 12 [.ref (a 0), .int (p0), .int (p1), .int (p2), .int (p3)] σ (o.1.map (fun x => some (.long x))) o.2 := by
  refine hv_xenter (own := RX7) (cc := cX7_influence) (maxL := 5) (ret := (some .long)) (by decide) rfl rfl (Nat.le_of_ble_eq_true rfl) ?_
  intro p e s m args below meth c CT hr
  have C := CT.1
  unfold mX7_influence at h
  refine g_lv [0, 1, 2, 3, 4] (lv' := [(0, .ref (a 0)), (1, .int (p0)), (2, .int (p1)), (3, .int (p2)), (4, .int (p3))]) rfl ?_
  refine g_aload_n (pc := 0) C 0 dX7_influence_0 rfl rfl ?_
  refine gx_get_0_0 (pc := 1) C iX7_influence_X7 qX7_influence_F17 dX7_influence_1 ?_
  refine g_iload_n (pc := 4) C 1 dX7_influence_4 rfl rfl ?_
  obtain ⟨r5, s5, hc5, h⟩ := hv_b2_some h
  refine g_callV (pc := 5) (σ1 := s5) (v := (some (.int (r5)))) (As := [.int (p0)]) (rest := []) C 1 (vX3_isOn hc5) (cwV 1 C.1.2.2.2.2 gX7_influence_X3_isOn rfl rfl rfl (by decide +kernel) ⟨Nat.le_of_ble_eq_true rfl, Nat.le_of_ble_eq_true rfl⟩) (Nat.le_of_ble_eq_true rfl) rfl rfl rfl rfl (Nat.le_of_ble_eq_true rfl) dX7_influence_5 ⟨Nat.le_of_ble_eq_true rfl, Nat.le_of_ble_eq_true rfl⟩ ?_
  refine g_st (st' := [.int (r5)]) rfl ?_
  refine g_if_eq (pc := 8) (tgt := 33) C dX7_influence_8 (by decide) (fun c8 => ?_) (fun c8 => ?_)
  · rw [if_pos c8] at h
    exact g_lv [0, 1, 2, 3, 4] rfl (bX7_influence_33 hflag CT hr s5 (p0) (p1) (p2) (p3) h)
  · rw [if_neg c8] at h
    refine g_aload_n (pc := 11) C 0 dX7_influence_11 rfl rfl ?_
    refine gx_get_0_0 (pc := 12) C iX7_influence_X7 qX7_influence_F17 dX7_influence_12 ?_
    refine g_iload_n (pc := 15) C 2 dX7_influence_15 rfl rfl ?_
    obtain ⟨r16, s16, hc16, h⟩ := hv_b2_some h
    refine g_callV (pc := 16) (σ1 := s16) (v := (some (.int (r16)))) (As := [.int (p1)]) (rest := []) C 1 (vX3_isPin hc16) (cwV 1 C.1.2.2.2.2 gX7_influence_X3_isPin rfl rfl rfl (by decide +kernel) ⟨Nat.le_of_ble_eq_true rfl, Nat.le_of_ble_eq_true rfl⟩) (Nat.le_of_ble_eq_true rfl) rfl rfl rfl rfl (Nat.le_of_ble_eq_true rfl) dX7_influence_16 ⟨Nat.le_of_ble_eq_true rfl, Nat.le_of_ble_eq_true rfl⟩ ?_
    refine g_st (st' := [.int (r16)]) rfl ?_
    refine g_if_eq (pc := 19) (tgt := 33) C dX7_influence_19 (by decide) (fun c19 => ?_) (fun c19 => ?_)
    · rw [if_pos c19] at h
      exact g_lv [0, 1, 2, 3, 4] rfl (bX7_influence_33 hflag CT hr s16 (p0) (p1) (p2) (p3) h)
    · rw [if_neg c19] at h
      refine g_iload_n (pc := 22) C 3 dX7_influence_22 rfl rfl ?_
      obtain ⟨r23, s23, hc23, h⟩ := hv_b2_some h
      refine g_callS (pc := 23) (σ1 := s23) (v := (some (.int (r23)))) (As := [.int (p2)]) (rest := []) C (vX7_isDirection hc23) (va_cwS 1 C.1.2.2.2.2 gX7_influence_X7_isDirection rfl rfl rfl (by decide +kernel) ⟨Nat.le_of_ble_eq_true rfl, Nat.le_of_ble_eq_true rfl⟩) rfl rfl (Nat.le_of_ble_eq_true rfl) dX7_influence_23 ⟨Nat.le_of_ble_eq_true rfl, Nat.le_of_ble_eq_true rfl⟩ ?_
      refine g_st (st' := [.int (r23)]) rfl ?_
      refine g_if_eq (pc := 26) (tgt := 33) C dX7_influence_26 (by decide) (fun c26 => ?_) (fun c26 => ?_)
      · rw [if_pos c26] at h
        exact g_lv [0, 1, 2, 3, 4] rfl (bX7_influence_33 hflag CT hr s23 (p0) (p1) (p2) (p3) h)
      · rw [if_neg c26] at h
        refine g_iconst (pc := 29) C (v := (1 : Int32)) dX7_influence_29 (by decide) ?_
        refine g_goto (pc := 30) C (tgt := 34) dX7_influence_30 (by decide) ?_
        exact g_lv [0, 1, 2, 3, 4] rfl (bX7_influence_34 hflag CT hr s23 (p0) (p1) (p2) (p3) ((1 : Int32)) h)
abbrev rmX7_cut : Room := { frames := 7, cells := 2, slots := 12, locals := 109 }
set_option maxRecDepth 20000 in
theorem qX7_cut_F214 : Cond.fieldLink RX7 214 "PinFrame$Cut" "under" "J" ∈ wsX7_cut := by decide +kernel
set_option maxRecDepth 20000 in
theorem qX7_cut_F44 : Cond.fieldLink RX7 44 "PinFrame" "section" "LPinFrame$Cut;" ∈ wsX7_cut := by decide +kernel
set_option maxRecDepth 20000 in
theorem iX7_cut_X1 : ∀ w ∈ u_ws RX1 TX1 5, w ∈ wsX7_cut := by decide +kernel
set_option maxRecDepth 20000 in
theorem iX7_cut_X7 : ∀ w ∈ u_ws RX7 TX7 7, w ∈ wsX7_cut := by decide +kernel
set_option maxHeartbeats 4000000 in
set_option maxRecDepth 20000 in
theorem bX7_cut_32 (hflag : l.stackTraces = false) (CT : hv_CT p s m args meth c cX7_cut 5 wsX7_cut RX7 D (hv_tys cy) 55 a) (hr : meth.sig.returnType = (some .long)) {n : Nat} {o : Option Int64 × hv_St} : ∀ (σ : hv_St) (x3 : Int32) (x4 : Int32) (z0 : Int32), kX7_cut_32 n σ x3 x4 z0 = some o → hv_G p l e (headSpec wsX7_cut rmX7_cut).room s m args below meth c 5 D 55 a (hv_XE a cy) 1 6 (hv_XQ D 55 a (hv_XE a cy) below args s (o.1.map (fun x => some (.long x))) o.2 2 12) σ 32 [(0, .ref (a 0)), (3, .int (x3)), (4, .int (x4))] [.int (z0)] := by
  intro σ x3 x4 z0 h
  unfold kX7_cut_32 at h
  have C := CT.1
  rcases hv_bx_some h with ⟨s32, hc32, rfl⟩ | ⟨y32, s32, hc32, h⟩
  · exact g_xcallS0 (pc := 32) (σ1 := s32) (As := [.int (z0)]) (rest := []) CT (vX7_need hflag hc32) (va_cwS 1 C.1.2.2.2.2 gX7_cut_X7_need rfl rfl rfl (by decide +kernel) ⟨Nat.le_of_ble_eq_true rfl, Nat.le_of_ble_eq_true rfl⟩) rfl rfl (Nat.le_of_ble_eq_true rfl) dX7_cut_32 ⟨Nat.le_of_ble_eq_true rfl, Nat.le_of_ble_eq_true rfl⟩ (Nat.le_of_ble_eq_true rfl) (Nat.le_of_ble_eq_true rfl)
  refine g_xcallS (pc := 32) (σ1 := s32) (v := none) (As := [.int (z0)]) (rest := []) CT (vX7_need hflag hc32) (va_cwS 1 C.1.2.2.2.2 gX7_cut_X7_need rfl rfl rfl (by decide +kernel) ⟨Nat.le_of_ble_eq_true rfl, Nat.le_of_ble_eq_true rfl⟩) rfl rfl (Nat.le_of_ble_eq_true rfl) dX7_cut_32 ⟨Nat.le_of_ble_eq_true rfl, Nat.le_of_ble_eq_true rfl⟩ ?_
  refine g_st (st' := []) rfl ?_
  refine g_aload_n (pc := 35) C 0 dX7_cut_35 rfl rfl ?_
  refine g_aload_n (pc := 36) C 0 dX7_cut_36 rfl rfl ?_
  refine gx_get_0_4 (pc := 37) C iX7_cut_X7 qX7_cut_F44 dX7_cut_37 ?_
  refine g_iload (pc := 40) C 2 dX7_cut_40 rfl ?_
  obtain ⟨r42, s42, hc42, h⟩ := hv_b2_some h
  refine g_callV (pc := 42) (σ1 := s42) (v := (some (.long (r42)))) (As := [.int (x4)]) (rest := [.ref (a 0)]) C 19 (vX1_overOf hc42) (cwV 1 C.1.2.2.2.2 gX7_cut_X1_overOf rfl rfl rfl (by decide +kernel) ⟨Nat.le_of_ble_eq_true rfl, Nat.le_of_ble_eq_true rfl⟩) (Nat.le_of_ble_eq_true rfl) rfl rfl rfl rfl (Nat.le_of_ble_eq_true rfl) dX7_cut_42 ⟨Nat.le_of_ble_eq_true rfl, Nat.le_of_ble_eq_true rfl⟩ ?_
  refine g_st (st' := [.long (r42), .ref (a 0)]) rfl ?_
  refine g_aload_n (pc := 45) C 0 dX7_cut_45 rfl rfl ?_
  refine gx_get_0_4 (pc := 46) C iX7_cut_X7 qX7_cut_F44 dX7_cut_46 ?_
  refine gx_get_19_4 (pc := 49) C iX7_cut_X1 qX7_cut_F214 dX7_cut_49 ?_
  refine g_iload_n (pc := 52) C 1 dX7_cut_52 rfl rfl ?_
  obtain ⟨r53, s53, hc53, h⟩ := hv_b2_some h
  refine g_callV (pc := 53) (σ1 := s53) (v := (some (.long (r53)))) (As := [.long (r42), .long (s42.2 19 4), .int (x3)]) (rest := []) C 0 (vX7_told hc53) (cwV 3 C.1.2.2.2.2 gX7_cut_X7_told rfl rfl rfl (by decide +kernel) ⟨Nat.le_of_ble_eq_true rfl, Nat.le_of_ble_eq_true rfl⟩) (Nat.le_of_ble_eq_true rfl) rfl rfl rfl rfl (Nat.le_of_ble_eq_true rfl) dX7_cut_53 ⟨Nat.le_of_ble_eq_true rfl, Nat.le_of_ble_eq_true rfl⟩ ?_
  refine g_st (st' := [.long (r53)]) rfl ?_
  cases h
  exact g_xlret (pc := 56) CT hr dX7_cut_56 (Nat.le_of_ble_eq_true rfl) (Nat.le_of_ble_eq_true rfl)
set_option maxHeartbeats 4000000 in
set_option maxRecDepth 20000 in
theorem vX7_cut (hflag : l.stackTraces = false) {n : Nat} {σ : hv_St} {p0 : Int32} {p1 : Int32} {p2 : Int32} {o : Option Int64 × hv_St} (h : mX7_cut n σ p0 p1 p2 = some o) : hv_XM l yX7_cut wsX7_cut rmX7_cut D (hv_tys cy) 55 a (hv_XE a cy) 2 12 [.ref (a 0), .int (p0), .int (p1), .int (p2)] σ (o.1.map (fun x => some (.long x))) o.2 := by
  refine hv_xenter (own := RX7) (cc := cX7_cut) (maxL := 5) (ret := (some .long)) (by decide) rfl rfl (Nat.le_of_ble_eq_true rfl) ?_
  intro p e s m args below meth c CT hr
  have C := CT.1
  unfold mX7_cut at h
  refine g_lv [0, 1, 2, 3] (lv' := [(0, .ref (a 0)), (1, .int (p0)), (2, .int (p1)), (3, .int (p2))]) rfl ?_
  refine g_aload_n (pc := 0) C 0 dX7_cut_0 rfl rfl ?_
  refine gx_get_0_4 (pc := 1) C iX7_cut_X7 qX7_cut_F44 dX7_cut_1 ?_
  refine g_iload_n (pc := 4) C 1 dX7_cut_4 rfl rfl ?_
  obtain ⟨r5, s5, hc5, h⟩ := hv_b2_some h
  refine g_callV (pc := 5) (σ1 := s5) (v := (some (.int (r5)))) (As := [.int (p0)]) (rest := []) C 19 (vX1_divides hc5) (cwV 1 C.1.2.2.2.2 gX7_cut_X1_divides rfl rfl rfl (by decide +kernel) ⟨Nat.le_of_ble_eq_true rfl, Nat.le_of_ble_eq_true rfl⟩) (Nat.le_of_ble_eq_true rfl) rfl rfl rfl rfl (Nat.le_of_ble_eq_true rfl) dX7_cut_5 ⟨Nat.le_of_ble_eq_true rfl, Nat.le_of_ble_eq_true rfl⟩ ?_
  refine g_st (st' := [.int (r5)]) rfl ?_
  rcases hv_bx_some h with ⟨s8, hc8, rfl⟩ | ⟨y8, s8, hc8, h⟩
  · exact g_xcallS0 (pc := 8) (σ1 := s8) (As := [.int (r5)]) (rest := []) CT (vX7_need hflag hc8) (va_cwS 1 C.1.2.2.2.2 gX7_cut_X7_need rfl rfl rfl (by decide +kernel) ⟨Nat.le_of_ble_eq_true rfl, Nat.le_of_ble_eq_true rfl⟩) rfl rfl (Nat.le_of_ble_eq_true rfl) dX7_cut_8 ⟨Nat.le_of_ble_eq_true rfl, Nat.le_of_ble_eq_true rfl⟩ (Nat.le_of_ble_eq_true rfl) (Nat.le_of_ble_eq_true rfl)
  refine g_xcallS (pc := 8) (σ1 := s8) (v := none) (As := [.int (r5)]) (rest := []) CT (vX7_need hflag hc8) (va_cwS 1 C.1.2.2.2.2 gX7_cut_X7_need rfl rfl rfl (by decide +kernel) ⟨Nat.le_of_ble_eq_true rfl, Nat.le_of_ble_eq_true rfl⟩) rfl rfl (Nat.le_of_ble_eq_true rfl) dX7_cut_8 ⟨Nat.le_of_ble_eq_true rfl, Nat.le_of_ble_eq_true rfl⟩ ?_
  refine g_st (st' := []) rfl ?_
  refine g_aload_n (pc := 11) C 0 dX7_cut_11 rfl rfl ?_
  refine gx_get_0_4 (pc := 12) C iX7_cut_X7 qX7_cut_F44 dX7_cut_12 ?_
  refine g_iload_n (pc := 15) C 2 dX7_cut_15 rfl rfl ?_
  obtain ⟨r16, s16, hc16, h⟩ := hv_b2_some h
  refine g_callV (pc := 16) (σ1 := s16) (v := (some (.int (r16)))) (As := [.int (p1)]) (rest := []) C 19 (vX1_indexOf hc16) (cwV 1 C.1.2.2.2.2 gX7_cut_X1_indexOf rfl rfl rfl (by decide +kernel) ⟨Nat.le_of_ble_eq_true rfl, Nat.le_of_ble_eq_true rfl⟩) (Nat.le_of_ble_eq_true rfl) rfl rfl rfl rfl (Nat.le_of_ble_eq_true rfl) dX7_cut_16 ⟨Nat.le_of_ble_eq_true rfl, Nat.le_of_ble_eq_true rfl⟩ ?_
  refine g_st (st' := [.int (r16)]) rfl ?_
  refine g_istore (pc := 19) C (lv' := [(4, .int (r16)), (0, .ref (a 0)), (1, .int (p0)), (2, .int (p1)), (3, .int (p2))]) rfl dX7_cut_19 (Nat.le_of_ble_eq_true rfl) rfl ?_
  refine g_iload (pc := 21) C 0 dX7_cut_21 rfl ?_
  refine g_iconst (pc := 23) C (v := (-1 : Int32)) dX7_cut_23 (by decide) ?_
  refine g_icmp_eq (pc := 24) (tgt := 31) C dX7_cut_24 (by decide) (fun c24 => ?_) (fun c24 => ?_)
  · rw [if_pos c24] at h
    refine g_iconst (pc := 31) C (v := (0 : Int32)) dX7_cut_31 (by decide) ?_
    exact g_lv [1, 4, 0] rfl (bX7_cut_32 hflag CT hr s16 (p2) (r16) ((0 : Int32)) h)
  · rw [if_neg c24] at h
    refine g_iconst (pc := 27) C (v := (1 : Int32)) dX7_cut_27 (by decide) ?_
    refine g_goto (pc := 28) C (tgt := 32) dX7_cut_28 (by decide) ?_
    exact g_lv [1, 4, 0] rfl (bX7_cut_32 hflag CT hr s16 (p2) (r16) ((1 : Int32)) h)
abbrev rmX7_riding : Room := { frames := 7, cells := 2, slots := 12, locals := 142 }
set_option maxRecDepth 20000 in
theorem qX7_riding_F17 : Cond.fieldLink RX7 17 "PinFrame" "frame" "LPinFrame$Frame;" ∈ wsX7_riding := by decide +kernel
set_option maxRecDepth 20000 in
theorem qX7_riding_F51 : Cond.fieldLink RX7 51 "PinFrame" "ride" "LPinFrame$Ride;" ∈ wsX7_riding := by decide +kernel
set_option maxRecDepth 20000 in
theorem qX7_riding_F97 : Cond.fieldLink RX7 97 "PinFrame$Frame" "on" "I" ∈ wsX7_riding := by decide +kernel
set_option maxRecDepth 20000 in
theorem iX7_riding_X3 : ∀ w ∈ u_ws RX3 TX3 10, w ∈ wsX7_riding := by decide +kernel
set_option maxRecDepth 20000 in
theorem iX7_riding_X7 : ∀ w ∈ u_ws RX7 TX7 7, w ∈ wsX7_riding := by decide +kernel
set_option maxHeartbeats 4000000 in
set_option maxRecDepth 20000 in
theorem bX7_riding_27 (hflag : l.stackTraces = false) (CT : hv_CT p s m args meth c cX7_riding 4 wsX7_riding RX7 D (hv_tys cy) 55 a) (hr : meth.sig.returnType = (some .long)) {n : Nat} {o : Option Int64 × hv_St} : ∀ (σ : hv_St) (x1 : Int32) (x2 : Int32) (x3 : Int32) (z0 : Int32), kX7_riding_27 n σ x1 x2 x3 z0 = some o → hv_G p l e (headSpec wsX7_riding rmX7_riding).room s m args below meth c 4 D 55 a (hv_XE a cy) 0 0 (hv_XQ D 55 a (hv_XE a cy) below args s (o.1.map (fun x => some (.long x))) o.2 2 12) σ 27 [(0, .ref (a 0)), (1, .int (x1)), (2, .int (x2)), (3, .int (x3))] [.int (z0)] := by
  intro σ x1 x2 x3 z0 h
  unfold kX7_riding_27 at h
  have C := CT.1
  rcases hv_bx_some h with ⟨s27, hc27, rfl⟩ | ⟨y27, s27, hc27, h⟩
  · exact g_xcallS0 (pc := 27) (σ1 := s27) (As := [.int (z0)]) (rest := []) CT (vX7_need hflag hc27) (va_cwS 1 C.1.2.2.2.2 gX7_riding_X7_need rfl rfl rfl (by decide +kernel) ⟨Nat.le_of_ble_eq_true rfl, Nat.le_of_ble_eq_true rfl⟩) rfl rfl (Nat.le_of_ble_eq_true rfl) dX7_riding_27 ⟨Nat.le_of_ble_eq_true rfl, Nat.le_of_ble_eq_true rfl⟩ (Nat.le_of_ble_eq_true rfl) (Nat.le_of_ble_eq_true rfl)
  refine g_xcallS (pc := 27) (σ1 := s27) (v := none) (As := [.int (z0)]) (rest := []) CT (vX7_need hflag hc27) (va_cwS 1 C.1.2.2.2.2 gX7_riding_X7_need rfl rfl rfl (by decide +kernel) ⟨Nat.le_of_ble_eq_true rfl, Nat.le_of_ble_eq_true rfl⟩) rfl rfl (Nat.le_of_ble_eq_true rfl) dX7_riding_27 ⟨Nat.le_of_ble_eq_true rfl, Nat.le_of_ble_eq_true rfl⟩ ?_
  refine g_st (st' := []) rfl ?_
  refine g_aload_n (pc := 30) C 0 dX7_riding_30 rfl rfl ?_
  refine g_aload_n (pc := 31) C 0 dX7_riding_31 rfl rfl ?_
  refine gx_get_0_0 (pc := 32) C iX7_riding_X7 qX7_riding_F17 dX7_riding_32 ?_
  refine gx_get_1_2 (pc := 35) C iX7_riding_X3 qX7_riding_F97 dX7_riding_35 ?_
  refine g_aload_n (pc := 38) C 0 dX7_riding_38 rfl rfl ?_
  refine gx_get_0_5 (pc := 39) C iX7_riding_X7 qX7_riding_F51 dX7_riding_39 ?_
  refine g_iload_n (pc := 42) C 2 dX7_riding_42 rfl rfl ?_
  obtain ⟨s43, hc43, h⟩ := hv_bd_some h
  refine g_callV (pc := 43) (σ1 := s43) (v := (some (.ref (a 25)))) (As := [.int (x2)]) (rest := [.int (s27.1 1 2), .ref (a 0)]) C 22 (vX6_loadsAt hc43) (cwV 1 C.1.2.2.2.2 gX7_riding_X6_loadsAt rfl rfl rfl (by decide +kernel) ⟨Nat.le_of_ble_eq_true rfl, Nat.le_of_ble_eq_true rfl⟩) (Nat.le_of_ble_eq_true rfl) rfl rfl rfl rfl (Nat.le_of_ble_eq_true rfl) dX7_riding_43 ⟨Nat.le_of_ble_eq_true rfl, Nat.le_of_ble_eq_true rfl⟩ ?_
  refine g_st (st' := [.ref (a 25), .int (s27.1 1 2), .ref (a 0)]) rfl ?_
  obtain ⟨r46, s46, hc46, h⟩ := hv_b2_some h
  refine g_callV (pc := 46) (σ1 := s46) (v := (some (.int (r46)))) (As := [.int (s27.1 1 2), .ref (a 25)]) (rest := []) C 0 (vX7_bears (Or.inr (rfl)) hc46) (cwV 2 C.1.2.2.2.2 gX7_riding_X7_bears rfl rfl rfl (by decide +kernel) ⟨Nat.le_of_ble_eq_true rfl, Nat.le_of_ble_eq_true rfl⟩) (Nat.le_of_ble_eq_true rfl) rfl rfl rfl rfl (Nat.le_of_ble_eq_true rfl) dX7_riding_46 ⟨Nat.le_of_ble_eq_true rfl, Nat.le_of_ble_eq_true rfl⟩ ?_
  refine g_st (st' := [.int (r46)]) rfl ?_
  rcases hv_bx_some h with ⟨s49, hc49, rfl⟩ | ⟨y49, s49, hc49, h⟩
  · exact g_xcallS0 (pc := 49) (σ1 := s49) (As := [.int (r46)]) (rest := []) CT (vX7_need hflag hc49) (va_cwS 1 C.1.2.2.2.2 gX7_riding_X7_need rfl rfl rfl (by decide +kernel) ⟨Nat.le_of_ble_eq_true rfl, Nat.le_of_ble_eq_true rfl⟩) rfl rfl (Nat.le_of_ble_eq_true rfl) dX7_riding_49 ⟨Nat.le_of_ble_eq_true rfl, Nat.le_of_ble_eq_true rfl⟩ (Nat.le_of_ble_eq_true rfl) (Nat.le_of_ble_eq_true rfl)
  refine g_xcallS (pc := 49) (σ1 := s49) (v := none) (As := [.int (r46)]) (rest := []) CT (vX7_need hflag hc49) (va_cwS 1 C.1.2.2.2.2 gX7_riding_X7_need rfl rfl rfl (by decide +kernel) ⟨Nat.le_of_ble_eq_true rfl, Nat.le_of_ble_eq_true rfl⟩) rfl rfl (Nat.le_of_ble_eq_true rfl) dX7_riding_49 ⟨Nat.le_of_ble_eq_true rfl, Nat.le_of_ble_eq_true rfl⟩ ?_
  refine g_st (st' := []) rfl ?_
  refine g_aload_n (pc := 52) C 0 dX7_riding_52 rfl rfl ?_
  refine g_iload_n (pc := 53) C 1 dX7_riding_53 rfl rfl ?_
  refine g_iload_n (pc := 54) C 3 dX7_riding_54 rfl rfl ?_
  obtain ⟨r55, s55, hc55, h⟩ := hv_b2_some h
  refine g_callV (pc := 55) (σ1 := s55) (v := (some (.long (r55)))) (As := [.int (x1), .int (x3)]) (rest := []) C 0 (vX7_toldPull hc55) (cwV 2 C.1.2.2.2.2 gX7_riding_X7_toldPull rfl rfl rfl (by decide +kernel) ⟨Nat.le_of_ble_eq_true rfl, Nat.le_of_ble_eq_true rfl⟩) (Nat.le_of_ble_eq_true rfl) rfl rfl rfl rfl (Nat.le_of_ble_eq_true rfl) dX7_riding_55 ⟨Nat.le_of_ble_eq_true rfl, Nat.le_of_ble_eq_true rfl⟩ ?_
  refine g_st (st' := [.long (r55)]) rfl ?_
  cases h
  exact g_xlret (pc := 58) CT hr dX7_riding_58 (Nat.le_of_ble_eq_true rfl) (Nat.le_of_ble_eq_true rfl)
set_option maxHeartbeats 4000000 in
set_option maxRecDepth 20000 in
theorem bX7_riding_26 (hflag : l.stackTraces = false) (CT : hv_CT p s m args meth c cX7_riding 4 wsX7_riding RX7 D (hv_tys cy) 55 a) (hr : meth.sig.returnType = (some .long)) {n : Nat} {o : Option Int64 × hv_St} : ∀ (σ : hv_St) (x1 : Int32) (x2 : Int32) (x3 : Int32), kX7_riding_26 n σ x1 x2 x3 = some o → hv_G p l e (headSpec wsX7_riding rmX7_riding).room s m args below meth c 4 D 55 a (hv_XE a cy) 0 0 (hv_XQ D 55 a (hv_XE a cy) below args s (o.1.map (fun x => some (.long x))) o.2 2 12) σ 26 [(0, .ref (a 0)), (1, .int (x1)), (2, .int (x2)), (3, .int (x3))] [] := by
  intro σ x1 x2 x3 h
  unfold kX7_riding_26 at h
  have C := CT.1
  refine g_iconst (pc := 26) C (v := (0 : Int32)) dX7_riding_26 (by decide) ?_
  exact g_lv [0, 1, 2, 3] rfl (bX7_riding_27 hflag CT hr σ (x1) (x2) (x3) ((0 : Int32)) h)
set_option maxHeartbeats 4000000 in
set_option maxRecDepth 20000 in
theorem vX7_riding (hflag : l.stackTraces = false) {n : Nat} {σ : hv_St} {p0 : Int32} {p1 : Int32} {p2 : Int32} {o : Option Int64 × hv_St} (h : mX7_riding n σ p0 p1 p2 = some o) : hv_XM l yX7_riding wsX7_riding rmX7_riding D (hv_tys cy) 55 a (hv_XE a cy) 2 12 [.ref (a 0), .int (p0), .int (p1), .int (p2)] σ (o.1.map (fun x => some (.long x))) o.2 := by
  refine hv_xenter (own := RX7) (cc := cX7_riding) (maxL := 4) (ret := (some .long)) (by decide) rfl rfl (Nat.le_of_ble_eq_true rfl) ?_
  intro p e s m args below meth c CT hr
  have C := CT.1
  unfold mX7_riding at h
  refine g_lv [0, 1, 2, 3] (lv' := [(0, .ref (a 0)), (1, .int (p0)), (2, .int (p1)), (3, .int (p2))]) rfl ?_
  refine g_aload_n (pc := 0) C 0 dX7_riding_0 rfl rfl ?_
  refine gx_get_0_0 (pc := 1) C iX7_riding_X7 qX7_riding_F17 dX7_riding_1 ?_
  refine g_iload_n (pc := 4) C 1 dX7_riding_4 rfl rfl ?_
  obtain ⟨r5, s5, hc5, h⟩ := hv_b2_some h
  refine g_callV (pc := 5) (σ1 := s5) (v := (some (.int (r5)))) (As := [.int (p0)]) (rest := []) C 1 (vX3_isOn hc5) (cwV 1 C.1.2.2.2.2 gX7_riding_X3_isOn rfl rfl rfl (by decide +kernel) ⟨Nat.le_of_ble_eq_true rfl, Nat.le_of_ble_eq_true rfl⟩) (Nat.le_of_ble_eq_true rfl) rfl rfl rfl rfl (Nat.le_of_ble_eq_true rfl) dX7_riding_5 ⟨Nat.le_of_ble_eq_true rfl, Nat.le_of_ble_eq_true rfl⟩ ?_
  refine g_st (st' := [.int (r5)]) rfl ?_
  refine g_if_eq (pc := 8) (tgt := 26) C dX7_riding_8 (by decide) (fun c8 => ?_) (fun c8 => ?_)
  · rw [if_pos c8] at h
    exact g_lv [0, 1, 2, 3] rfl (bX7_riding_26 hflag CT hr s5 (p0) (p1) (p2) h)
  · rw [if_neg c8] at h
    refine g_aload_n (pc := 11) C 0 dX7_riding_11 rfl rfl ?_
    refine gx_get_0_5 (pc := 12) C iX7_riding_X7 qX7_riding_F51 dX7_riding_12 ?_
    refine g_iload_n (pc := 15) C 2 dX7_riding_15 rfl rfl ?_
    obtain ⟨r16, s16, hc16, h⟩ := hv_b2_some h
    refine g_callV (pc := 16) (σ1 := s16) (v := (some (.int (r16)))) (As := [.int (p1)]) (rest := []) C 22 (vX6_stands hc16) (cwV 1 C.1.2.2.2.2 gX7_riding_X6_stands rfl rfl rfl (by decide +kernel) ⟨Nat.le_of_ble_eq_true rfl, Nat.le_of_ble_eq_true rfl⟩) (Nat.le_of_ble_eq_true rfl) rfl rfl rfl rfl (Nat.le_of_ble_eq_true rfl) dX7_riding_16 ⟨Nat.le_of_ble_eq_true rfl, Nat.le_of_ble_eq_true rfl⟩ ?_
    refine g_st (st' := [.int (r16)]) rfl ?_
    refine g_if_eq (pc := 19) (tgt := 26) C dX7_riding_19 (by decide) (fun c19 => ?_) (fun c19 => ?_)
    · rw [if_pos c19] at h
      exact g_lv [0, 1, 2, 3] rfl (bX7_riding_26 hflag CT hr s16 (p0) (p1) (p2) h)
    · rw [if_neg c19] at h
      refine g_iconst (pc := 22) C (v := (1 : Int32)) dX7_riding_22 (by decide) ?_
      refine g_goto (pc := 23) C (tgt := 27) dX7_riding_23 (by decide) ?_
      exact g_lv [0, 1, 2, 3] rfl (bX7_riding_27 hflag CT hr s16 (p0) (p1) (p2) ((1 : Int32)) h)
abbrev rmX7_left : Room := { frames := 7, cells := 2, slots := 12, locals := 142 }
set_option maxRecDepth 20000 in
theorem qX7_left_F117 : Cond.fieldLink RX7 117 "PinFrame$Frame" "loads" "[I" ∈ wsX7_left := by decide +kernel
set_option maxRecDepth 20000 in
theorem qX7_left_F17 : Cond.fieldLink RX7 17 "PinFrame" "frame" "LPinFrame$Frame;" ∈ wsX7_left := by decide +kernel
set_option maxRecDepth 20000 in
theorem qX7_left_F97 : Cond.fieldLink RX7 97 "PinFrame$Frame" "on" "I" ∈ wsX7_left := by decide +kernel
set_option maxRecDepth 20000 in
theorem iX7_left_X3 : ∀ w ∈ u_ws RX3 TX3 10, w ∈ wsX7_left := by decide +kernel
set_option maxRecDepth 20000 in
theorem iX7_left_X7 : ∀ w ∈ u_ws RX7 TX7 7, w ∈ wsX7_left := by decide +kernel
set_option maxHeartbeats 4000000 in
set_option maxRecDepth 20000 in
theorem bX7_left_32 (hflag : l.stackTraces = false) (CT : hv_CT p s m args meth c cX7_left 4 wsX7_left RX7 D (hv_tys cy) 55 a) (hr : meth.sig.returnType = (some .long)) {n : Nat} {o : Option Int64 × hv_St} : ∀ (σ : hv_St) (x1 : Int32) (x2 : Int32) (x3 : Int32) (z0 : Int32), kX7_left_32 n σ x1 x2 x3 z0 = some o → hv_G p l e (headSpec wsX7_left rmX7_left).room s m args below meth c 4 D 55 a (hv_XE a cy) 0 0 (hv_XQ D 55 a (hv_XE a cy) below args s (o.1.map (fun x => some (.long x))) o.2 2 12) σ 32 [(0, .ref (a 0)), (1, .int (x1)), (2, .int (x2)), (3, .int (x3))] [.int (z0)] := by
  intro σ x1 x2 x3 z0 h
  unfold kX7_left_32 at h
  have C := CT.1
  rcases hv_bx_some h with ⟨s32, hc32, rfl⟩ | ⟨y32, s32, hc32, h⟩
  · exact g_xcallS0 (pc := 32) (σ1 := s32) (As := [.int (z0)]) (rest := []) CT (vX7_need hflag hc32) (va_cwS 1 C.1.2.2.2.2 gX7_left_X7_need rfl rfl rfl (by decide +kernel) ⟨Nat.le_of_ble_eq_true rfl, Nat.le_of_ble_eq_true rfl⟩) rfl rfl (Nat.le_of_ble_eq_true rfl) dX7_left_32 ⟨Nat.le_of_ble_eq_true rfl, Nat.le_of_ble_eq_true rfl⟩ (Nat.le_of_ble_eq_true rfl) (Nat.le_of_ble_eq_true rfl)
  refine g_xcallS (pc := 32) (σ1 := s32) (v := none) (As := [.int (z0)]) (rest := []) CT (vX7_need hflag hc32) (va_cwS 1 C.1.2.2.2.2 gX7_left_X7_need rfl rfl rfl (by decide +kernel) ⟨Nat.le_of_ble_eq_true rfl, Nat.le_of_ble_eq_true rfl⟩) rfl rfl (Nat.le_of_ble_eq_true rfl) dX7_left_32 ⟨Nat.le_of_ble_eq_true rfl, Nat.le_of_ble_eq_true rfl⟩ ?_
  refine g_st (st' := []) rfl ?_
  refine g_aload_n (pc := 35) C 0 dX7_left_35 rfl rfl ?_
  refine g_aload_n (pc := 36) C 0 dX7_left_36 rfl rfl ?_
  refine gx_get_0_0 (pc := 37) C iX7_left_X7 qX7_left_F17 dX7_left_37 ?_
  refine gx_get_1_2 (pc := 40) C iX7_left_X3 qX7_left_F97 dX7_left_40 ?_
  refine g_iconst (pc := 43) C (v := (1 : Int32)) dX7_left_43 (by decide) ?_
  refine g_iload_n (pc := 44) C 1 dX7_left_44 rfl rfl ?_
  refine g_ishl (pc := 45) C dX7_left_45 ?_
  refine g_iconst (pc := 46) C (v := (-1 : Int32)) dX7_left_46 (by decide) ?_
  refine g_ixor (pc := 47) C dX7_left_47 ?_
  refine g_iand (pc := 48) C dX7_left_48 ?_
  refine g_aload_n (pc := 49) C 0 dX7_left_49 rfl rfl ?_
  refine gx_get_0_0 (pc := 50) C iX7_left_X7 qX7_left_F17 dX7_left_50 ?_
  refine gx_get_1_4 (pc := 53) C iX7_left_X3 qX7_left_F117 dX7_left_53 ?_
  obtain ⟨r56, s56, hc56, h⟩ := hv_b2_some h
  refine g_callV (pc := 56) (σ1 := s56) (v := (some (.int (r56)))) (As := [.int ((s32.1 1 2) &&& ((((1 : Int32)) <<< ((x1) &&& 31)) ^^^ ((-1 : Int32)))), .ref (a 3)]) (rest := []) C 0 (vX7_bears (Or.inl rfl) hc56) (cwV 2 C.1.2.2.2.2 gX7_left_X7_bears rfl rfl rfl (by decide +kernel) ⟨Nat.le_of_ble_eq_true rfl, Nat.le_of_ble_eq_true rfl⟩) (Nat.le_of_ble_eq_true rfl) rfl rfl rfl rfl (Nat.le_of_ble_eq_true rfl) dX7_left_56 ⟨Nat.le_of_ble_eq_true rfl, Nat.le_of_ble_eq_true rfl⟩ ?_
  refine g_st (st' := [.int (r56)]) rfl ?_
  rcases hv_bx_some h with ⟨s59, hc59, rfl⟩ | ⟨y59, s59, hc59, h⟩
  · exact g_xcallS0 (pc := 59) (σ1 := s59) (As := [.int (r56)]) (rest := []) CT (vX7_need hflag hc59) (va_cwS 1 C.1.2.2.2.2 gX7_left_X7_need rfl rfl rfl (by decide +kernel) ⟨Nat.le_of_ble_eq_true rfl, Nat.le_of_ble_eq_true rfl⟩) rfl rfl (Nat.le_of_ble_eq_true rfl) dX7_left_59 ⟨Nat.le_of_ble_eq_true rfl, Nat.le_of_ble_eq_true rfl⟩ (Nat.le_of_ble_eq_true rfl) (Nat.le_of_ble_eq_true rfl)
  refine g_xcallS (pc := 59) (σ1 := s59) (v := none) (As := [.int (r56)]) (rest := []) CT (vX7_need hflag hc59) (va_cwS 1 C.1.2.2.2.2 gX7_left_X7_need rfl rfl rfl (by decide +kernel) ⟨Nat.le_of_ble_eq_true rfl, Nat.le_of_ble_eq_true rfl⟩) rfl rfl (Nat.le_of_ble_eq_true rfl) dX7_left_59 ⟨Nat.le_of_ble_eq_true rfl, Nat.le_of_ble_eq_true rfl⟩ ?_
  refine g_st (st' := []) rfl ?_
  refine g_aload_n (pc := 62) C 0 dX7_left_62 rfl rfl ?_
  refine g_iload_n (pc := 63) C 2 dX7_left_63 rfl rfl ?_
  refine g_iload_n (pc := 64) C 3 dX7_left_64 rfl rfl ?_
  obtain ⟨r65, s65, hc65, h⟩ := hv_b2_some h
  refine g_callV (pc := 65) (σ1 := s65) (v := (some (.long (r65)))) (As := [.int (x2), .int (x3)]) (rest := []) C 0 (vX7_toldPull hc65) (cwV 2 C.1.2.2.2.2 gX7_left_X7_toldPull rfl rfl rfl (by decide +kernel) ⟨Nat.le_of_ble_eq_true rfl, Nat.le_of_ble_eq_true rfl⟩) (Nat.le_of_ble_eq_true rfl) rfl rfl rfl rfl (Nat.le_of_ble_eq_true rfl) dX7_left_65 ⟨Nat.le_of_ble_eq_true rfl, Nat.le_of_ble_eq_true rfl⟩ ?_
  refine g_st (st' := [.long (r65)]) rfl ?_
  cases h
  exact g_xlret (pc := 68) CT hr dX7_left_68 (Nat.le_of_ble_eq_true rfl) (Nat.le_of_ble_eq_true rfl)
set_option maxHeartbeats 4000000 in
set_option maxRecDepth 20000 in
theorem bX7_left_31 (hflag : l.stackTraces = false) (CT : hv_CT p s m args meth c cX7_left 4 wsX7_left RX7 D (hv_tys cy) 55 a) (hr : meth.sig.returnType = (some .long)) {n : Nat} {o : Option Int64 × hv_St} : ∀ (σ : hv_St) (x1 : Int32) (x2 : Int32) (x3 : Int32), kX7_left_31 n σ x1 x2 x3 = some o → hv_G p l e (headSpec wsX7_left rmX7_left).room s m args below meth c 4 D 55 a (hv_XE a cy) 0 0 (hv_XQ D 55 a (hv_XE a cy) below args s (o.1.map (fun x => some (.long x))) o.2 2 12) σ 31 [(0, .ref (a 0)), (1, .int (x1)), (2, .int (x2)), (3, .int (x3))] [] := by
  intro σ x1 x2 x3 h
  unfold kX7_left_31 at h
  have C := CT.1
  refine g_iconst (pc := 31) C (v := (0 : Int32)) dX7_left_31 (by decide) ?_
  exact g_lv [0, 1, 2, 3] rfl (bX7_left_32 hflag CT hr σ (x1) (x2) (x3) ((0 : Int32)) h)
set_option maxHeartbeats 4000000 in
set_option maxRecDepth 20000 in
theorem vX7_left (hflag : l.stackTraces = false) {n : Nat} {σ : hv_St} {p0 : Int32} {p1 : Int32} {p2 : Int32} {o : Option Int64 × hv_St} (h : mX7_left n σ p0 p1 p2 = some o) : hv_XM l yX7_left wsX7_left rmX7_left D (hv_tys cy) 55 a (hv_XE a cy) 2 12 [.ref (a 0), .int (p0), .int (p1), .int (p2)] σ (o.1.map (fun x => some (.long x))) o.2 := by
  refine hv_xenter (own := RX7) (cc := cX7_left) (maxL := 4) (ret := (some .long)) (by decide) rfl rfl (Nat.le_of_ble_eq_true rfl) ?_
  intro p e s m args below meth c CT hr
  have C := CT.1
  unfold mX7_left at h
  refine g_lv [0, 1, 2, 3] (lv' := [(0, .ref (a 0)), (1, .int (p0)), (2, .int (p1)), (3, .int (p2))]) rfl ?_
  refine g_aload_n (pc := 0) C 0 dX7_left_0 rfl rfl ?_
  refine gx_get_0_0 (pc := 1) C iX7_left_X7 qX7_left_F17 dX7_left_1 ?_
  refine g_iload_n (pc := 4) C 1 dX7_left_4 rfl rfl ?_
  obtain ⟨r5, s5, hc5, h⟩ := hv_b2_some h
  refine g_callV (pc := 5) (σ1 := s5) (v := (some (.int (r5)))) (As := [.int (p0)]) (rest := []) C 1 (vX3_isOn hc5) (cwV 1 C.1.2.2.2.2 gX7_left_X3_isOn rfl rfl rfl (by decide +kernel) ⟨Nat.le_of_ble_eq_true rfl, Nat.le_of_ble_eq_true rfl⟩) (Nat.le_of_ble_eq_true rfl) rfl rfl rfl rfl (Nat.le_of_ble_eq_true rfl) dX7_left_5 ⟨Nat.le_of_ble_eq_true rfl, Nat.le_of_ble_eq_true rfl⟩ ?_
  refine g_st (st' := [.int (r5)]) rfl ?_
  refine g_if_eq (pc := 8) (tgt := 31) C dX7_left_8 (by decide) (fun c8 => ?_) (fun c8 => ?_)
  · rw [if_pos c8] at h
    exact g_lv [0, 1, 2, 3] rfl (bX7_left_31 hflag CT hr s5 (p0) (p1) (p2) h)
  · rw [if_neg c8] at h
    refine g_aload_n (pc := 11) C 0 dX7_left_11 rfl rfl ?_
    refine gx_get_0_0 (pc := 12) C iX7_left_X7 qX7_left_F17 dX7_left_12 ?_
    refine g_iload_n (pc := 15) C 2 dX7_left_15 rfl rfl ?_
    obtain ⟨r16, s16, hc16, h⟩ := hv_b2_some h
    refine g_callV (pc := 16) (σ1 := s16) (v := (some (.int (r16)))) (As := [.int (p1)]) (rest := []) C 1 (vX3_isOn hc16) (cwV 1 C.1.2.2.2.2 gX7_left_X3_isOn rfl rfl rfl (by decide +kernel) ⟨Nat.le_of_ble_eq_true rfl, Nat.le_of_ble_eq_true rfl⟩) (Nat.le_of_ble_eq_true rfl) rfl rfl rfl rfl (Nat.le_of_ble_eq_true rfl) dX7_left_16 ⟨Nat.le_of_ble_eq_true rfl, Nat.le_of_ble_eq_true rfl⟩ ?_
    refine g_st (st' := [.int (r16)]) rfl ?_
    refine g_if_eq (pc := 19) (tgt := 31) C dX7_left_19 (by decide) (fun c19 => ?_) (fun c19 => ?_)
    · rw [if_pos c19] at h
      exact g_lv [0, 1, 2, 3] rfl (bX7_left_31 hflag CT hr s16 (p0) (p1) (p2) h)
    · rw [if_neg c19] at h
      refine g_iload_n (pc := 22) C 1 dX7_left_22 rfl rfl ?_
      refine g_iload_n (pc := 23) C 2 dX7_left_23 rfl rfl ?_
      refine g_icmp_eq (pc := 24) (tgt := 31) C dX7_left_24 (by decide) (fun c24 => ?_) (fun c24 => ?_)
      · rw [if_pos c24] at h
        exact g_lv [0, 1, 2, 3] rfl (bX7_left_31 hflag CT hr s16 (p0) (p1) (p2) h)
      · rw [if_neg c24] at h
        refine g_iconst (pc := 27) C (v := (1 : Int32)) dX7_left_27 (by decide) ?_
        refine g_goto (pc := 28) C (tgt := 32) dX7_left_28 (by decide) ?_
        exact g_lv [0, 1, 2, 3] rfl (bX7_left_32 hflag CT hr s16 (p0) (p1) (p2) ((1 : Int32)) h)
end
