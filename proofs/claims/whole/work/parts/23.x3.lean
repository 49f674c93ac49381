/-! class, walked: X6_oneLoad, X7_isFreePlace, X7_pin, X7_place, X7_isGive, X7_bar, X7_turn, X7_alter, X7_isDirection, X7_hold, X7_isLoad, X7_load, X7_unload, X7_deck, X7_strip, X7_train, X7_countOfBalance, X7_count, X7_joint, X7_bears, X7_isPainted, X7_painted, X7_timesOf, X7_times, X7_worst -/
section
variable {p : Program} {l : Launch} {e : Env} {s : State} {m : MethodId} {args : Array Value} {below : List Frame} {meth : Method} {c : Code} {D : va_G} {a : Nat → Nat} {cy : ClassId × ClassId × ClassId × ClassId}
abbrev rmX6_oneLoad : Room := { frames := 1, cells := 0, slots := 0, locals := 21 }
set_option maxRecDepth 20000 in
theorem qX6_oneLoad_F18 : Cond.fieldLink RX6 18 "PinFrame$Ride" "loads" "[I" ∈ wsX6_oneLoad := by decide +kernel
set_option maxRecDepth 20000 in
theorem iX6_oneLoad_X6 : ∀ w ∈ u_ws RX6 TX6 5, w ∈ wsX6_oneLoad := by decide +kernel
set_option maxHeartbeats 4000000 in
set_option maxRecDepth 20000 in
theorem vX6_oneLoad {n : Nat} {σ : hv_St} {p0 : Int32} {o : hv_St} (h : mX6_oneLoad n σ p0 = some o) : hv_M l yX6_oneLoad wsX6_oneLoad rmX6_oneLoad D (hv_tys cy) 55 a (hv_XE a cy) [.ref (a 22), .int (p0)] σ (some (.ref (a 25))) o := by
  refine hv_enter (own := RX6) (cc := cX6_oneLoad) (maxL := 2) (ret := (some (.array .int))) (by decide) rfl rfl (Nat.le_of_ble_eq_true rfl) ?_
  intro p e s m args below meth c C hr
  unfold mX6_oneLoad at h
  refine g_lv [0, 1] (lv' := [(0, .ref (a 22)), (1, .int (p0))]) rfl ?_
  refine g_aload_n (pc := 0) C 0 dX6_oneLoad_0 rfl rfl ?_
  obtain ⟨s1, hc1, h⟩ := hv_bd_some h
  refine g_callV (pc := 1) (σ1 := s1) (v := none) (As := []) (rest := []) C 22 (vX6_clearLoads hc1) (cwV 0 C.1.2.2.2.2 gX6_oneLoad_X6_clearLoads rfl rfl rfl (by decide +kernel) ⟨Nat.le_of_ble_eq_true rfl, Nat.le_of_ble_eq_true rfl⟩) (Nat.le_of_ble_eq_true rfl) rfl rfl rfl rfl (Nat.le_of_ble_eq_true rfl) dX6_oneLoad_1 ⟨Nat.zero_le _, Nat.zero_le _⟩ ?_
  refine g_st (st' := []) rfl ?_
  refine g_aload_n (pc := 4) C 0 dX6_oneLoad_4 rfl rfl ?_
  refine gx_get_22_4 (pc := 5) C iX6_oneLoad_X6 qX6_oneLoad_F18 dX6_oneLoad_5 ?_
  refine g_iload_n (pc := 8) C 1 dX6_oneLoad_8 rfl rfl ?_
  refine g_iconst (pc := 9) C (v := (1 : Int32)) dX6_oneLoad_9 (by decide) ?_
  obtain ⟨k10, h⟩ := hv_if_some h
  obtain ⟨s10, es10, h⟩ := hv_let_some h
  refine gx_st_25 (pc := 10) C es10 k10 dX6_oneLoad_10 ?_
  refine g_aload_n (pc := 11) C 0 dX6_oneLoad_11 rfl rfl ?_
  refine gx_get_22_4 (pc := 12) C iX6_oneLoad_X6 qX6_oneLoad_F18 dX6_oneLoad_12 ?_
  cases h
  exact g_aret (pc := 15) C hr dX6_oneLoad_15
abbrev rmX7_isFreePlace : Room := { frames := 1, cells := 0, slots := 0, locals := 23 }
set_option maxRecDepth 20000 in
theorem qX7_isFreePlace_F17 : Cond.fieldLink RX7 17 "PinFrame" "frame" "LPinFrame$Frame;" ∈ wsX7_isFreePlace := by decide +kernel
set_option maxRecDepth 20000 in
theorem iX7_isFreePlace_X7 : ∀ w ∈ u_ws RX7 TX7 7, w ∈ wsX7_isFreePlace := by decide +kernel
set_option maxHeartbeats 4000000 in
set_option maxRecDepth 20000 in
theorem bX7_isFreePlace_44 (C : hv_C p s m args meth c cX7_isFreePlace 4 wsX7_isFreePlace RX7 D (hv_tys cy)) (hr : meth.sig.returnType = (some .boolean)) {n : Nat} {o : Int32 × hv_St} : ∀ (σ : hv_St), kX7_isFreePlace_44 n σ = some o → hv_G p l e (headSpec wsX7_isFreePlace rmX7_isFreePlace).room s m args below meth c 4 D 55 a (hv_XE a cy) 0 0 (hv_MQ D 55 a (hv_XE a cy) below args s (some (.int o.1)) o.2) σ 44 [] [] := by
  intro σ h
  unfold kX7_isFreePlace_44 at h
  refine g_iconst (pc := 44) C (v := (0 : Int32)) dX7_isFreePlace_44 (by decide) ?_
  cases h
  exact g_zret (pc := 45) (x := (0 : Int32)) C hr (by decide) dX7_isFreePlace_45
set_option maxHeartbeats 4000000 in
set_option maxRecDepth 20000 in
theorem bX7_isFreePlace_23 (C : hv_C p s m args meth c cX7_isFreePlace 4 wsX7_isFreePlace RX7 D (hv_tys cy)) (hr : meth.sig.returnType = (some .boolean)) {n : Nat} {o : Int32 × hv_St} : ∀ (σ : hv_St) (x1 : Int32) (x2 : Int32) (z0 : Int32), kX7_isFreePlace_23 n σ x1 x2 z0 = some o → hv_G p l e (headSpec wsX7_isFreePlace rmX7_isFreePlace).room s m args below meth c 4 D 55 a (hv_XE a cy) 0 0 (hv_MQ D 55 a (hv_XE a cy) below args s (some (.int o.1)) o.2) σ 23 [(0, .ref (a 0)), (1, .int (x1)), (2, .int (x2))] [.int (z0)] := by
  intro σ x1 x2 z0 h
  unfold kX7_isFreePlace_23 at h
  refine g_istore_n (pc := 23) C (lv' := [(3, .int (z0)), (0, .ref (a 0)), (1, .int (x1)), (2, .int (x2))]) rfl dX7_isFreePlace_23 rfl (Nat.le_of_ble_eq_true rfl) rfl ?_
  refine g_iload_n (pc := 24) C 0 dX7_isFreePlace_24 rfl rfl ?_
  refine g_if_eq (pc := 25) (tgt := 44) C dX7_isFreePlace_25 (by decide) (fun c25 => ?_) (fun c25 => ?_)
  · rw [if_pos c25] at h
    exact g_lv [] rfl (bX7_isFreePlace_44 C hr σ h)
  · rw [if_neg c25] at h
    refine g_aload_n (pc := 28) C 1 dX7_isFreePlace_28 rfl rfl ?_
    refine gx_get_0_0 (pc := 29) C iX7_isFreePlace_X7 qX7_isFreePlace_F17 dX7_isFreePlace_29 ?_
    refine g_iload_n (pc := 32) C 2 dX7_isFreePlace_32 rfl rfl ?_
    refine g_iload_n (pc := 33) C 3 dX7_isFreePlace_33 rfl rfl ?_
    obtain ⟨r34, s34, hc34, h⟩ := hv_b2_some h
    refine g_callV (pc := 34) (σ1 := s34) (v := (some (.int (r34)))) (As := [.int (x1), .int (x2)]) (rest := []) C 1 (vX3_hasPinAt hc34) (cwV 2 C.1.2.2.2.2 gX7_isFreePlace_X3_hasPinAt rfl rfl rfl (by decide +kernel) ⟨Nat.le_of_ble_eq_true rfl, Nat.le_of_ble_eq_true rfl⟩) (Nat.le_of_ble_eq_true rfl) rfl rfl rfl rfl (Nat.le_of_ble_eq_true rfl) dX7_isFreePlace_34 ⟨Nat.zero_le _, Nat.zero_le _⟩ ?_
    refine g_st (st' := [.int (r34)]) rfl ?_
    refine g_if_ne (pc := 37) (tgt := 44) C dX7_isFreePlace_37 (by decide) (fun c37 => ?_) (fun c37 => ?_)
    · rw [if_neg c37] at h
      exact g_lv [] rfl (bX7_isFreePlace_44 C hr s34 h)
    · rw [if_pos c37] at h
      refine g_iconst (pc := 40) C (v := (1 : Int32)) dX7_isFreePlace_40 (by decide) ?_
      refine g_goto (pc := 41) C (tgt := 45) dX7_isFreePlace_41 (by decide) ?_
      cases h
      exact g_zret (pc := 45) (x := (1 : Int32)) C hr (by decide) dX7_isFreePlace_45
set_option maxHeartbeats 4000000 in
set_option maxRecDepth 20000 in
theorem bX7_isFreePlace_22 (C : hv_C p s m args meth c cX7_isFreePlace 4 wsX7_isFreePlace RX7 D (hv_tys cy)) (hr : meth.sig.returnType = (some .boolean)) {n : Nat} {o : Int32 × hv_St} : ∀ (σ : hv_St) (x1 : Int32) (x2 : Int32), kX7_isFreePlace_22 n σ x1 x2 = some o → hv_G p l e (headSpec wsX7_isFreePlace rmX7_isFreePlace).room s m args below meth c 4 D 55 a (hv_XE a cy) 0 0 (hv_MQ D 55 a (hv_XE a cy) below args s (some (.int o.1)) o.2) σ 22 [(0, .ref (a 0)), (1, .int (x1)), (2, .int (x2))] [] := by
  intro σ x1 x2 h
  unfold kX7_isFreePlace_22 at h
  refine g_iconst (pc := 22) C (v := (0 : Int32)) dX7_isFreePlace_22 (by decide) ?_
  exact g_lv [0, 1, 2] rfl (bX7_isFreePlace_23 C hr σ (x1) (x2) ((0 : Int32)) h)
set_option maxHeartbeats 4000000 in
set_option maxRecDepth 20000 in
theorem vX7_isFreePlace {n : Nat} {σ : hv_St} {p0 : Int32} {p1 : Int32} {o : Int32 × hv_St} (h : mX7_isFreePlace n σ p0 p1 = some o) : hv_M l yX7_isFreePlace wsX7_isFreePlace rmX7_isFreePlace D (hv_tys cy) 55 a (hv_XE a cy) [.ref (a 0), .int (p0), .int (p1)] σ (some (.int o.1)) o.2 := by
  refine hv_enter (own := RX7) (cc := cX7_isFreePlace) (maxL := 4) (ret := (some .boolean)) (by decide) rfl rfl (Nat.le_of_ble_eq_true rfl) ?_
  intro p e s m args below meth c C hr
  unfold mX7_isFreePlace at h
  refine g_lv [0, 1, 2] (lv' := [(0, .ref (a 0)), (1, .int (p0)), (2, .int (p1))]) rfl ?_
  refine g_iload_n (pc := 0) C 1 dX7_isFreePlace_0 rfl rfl ?_
  refine g_if_lt (pc := 1) (tgt := 22) C dX7_isFreePlace_1 (by decide) (fun c1 => ?_) (fun c1 => ?_)
  · rw [if_pos c1] at h
    exact g_lv [0, 1, 2] rfl (bX7_isFreePlace_22 C hr σ (p0) (p1) h)
  · rw [if_neg c1] at h
    refine g_iload_n (pc := 4) C 1 dX7_isFreePlace_4 rfl rfl ?_
    refine g_iconst (pc := 5) C (v := (4 : Int32)) dX7_isFreePlace_5 (by decide) ?_
    refine g_icmp_ge (pc := 6) (tgt := 22) C dX7_isFreePlace_6 (by decide) (fun c6 => ?_) (fun c6 => ?_)
    · rw [if_pos c6] at h
      exact g_lv [0, 1, 2] rfl (bX7_isFreePlace_22 C hr σ (p0) (p1) h)
    · rw [if_neg c6] at h
      refine g_iload_n (pc := 9) C 2 dX7_isFreePlace_9 rfl rfl ?_
      refine g_if_lt (pc := 10) (tgt := 22) C dX7_isFreePlace_10 (by decide) (fun c10 => ?_) (fun c10 => ?_)
      · rw [if_pos c10] at h
        exact g_lv [0, 1, 2] rfl (bX7_isFreePlace_22 C hr σ (p0) (p1) h)
      · rw [if_neg c10] at h
        refine g_iload_n (pc := 13) C 2 dX7_isFreePlace_13 rfl rfl ?_
        refine g_iconst (pc := 14) C (v := (3 : Int32)) dX7_isFreePlace_14 (by decide) ?_
        refine g_icmp_ge (pc := 15) (tgt := 22) C dX7_isFreePlace_15 (by decide) (fun c15 => ?_) (fun c15 => ?_)
        · rw [if_pos c15] at h
          exact g_lv [0, 1, 2] rfl (bX7_isFreePlace_22 C hr σ (p0) (p1) h)
        · rw [if_neg c15] at h
          refine g_iconst (pc := 18) C (v := (1 : Int32)) dX7_isFreePlace_18 (by decide) ?_
          refine g_goto (pc := 19) C (tgt := 23) dX7_isFreePlace_19 (by decide) ?_
          exact g_lv [0, 1, 2] rfl (bX7_isFreePlace_23 C hr σ (p0) (p1) ((1 : Int32)) h)
abbrev rmX7_pin : Room := { frames := 2, cells := 0, slots := 0, locals := 46 }
set_option maxRecDepth 20000 in
theorem qX7_pin_F17 : Cond.fieldLink RX7 17 "PinFrame" "frame" "LPinFrame$Frame;" ∈ wsX7_pin := by decide +kernel
set_option maxRecDepth 20000 in
theorem qX7_pin_F62 : Cond.fieldLink RX7 62 "PinFrame$Frame" "pins" "I" ∈ wsX7_pin := by decide +kernel
set_option maxRecDepth 20000 in
theorem iX7_pin_X3 : ∀ w ∈ u_ws RX3 TX3 10, w ∈ wsX7_pin := by decide +kernel
set_option maxRecDepth 20000 in
theorem iX7_pin_X7 : ∀ w ∈ u_ws RX7 TX7 7, w ∈ wsX7_pin := by decide +kernel
set_option maxHeartbeats 4000000 in
set_option maxRecDepth 20000 in
theorem vX7_pin {n : Nat} {σ : hv_St} {p0 : Int32} {p1 : Int32} {o : Int32 × hv_St} (h : mX7_pin n σ p0 p1 = some o) : hv_M l yX7_pin wsX7_pin rmX7_pin D (hv_tys cy) 55 a (hv_XE a cy) [.ref (a 0), .int (p0), .int (p1)] σ (some (.int o.1)) o.2 := by
  refine hv_enter (own := RX7) (cc := cX7_pin) (maxL := 4) (ret := (some .int)) (by decide) rfl rfl (Nat.le_of_ble_eq_true rfl) ?_
  intro p e s m args below meth c C hr
  unfold mX7_pin at h
  refine g_lv [0, 1, 2] (lv' := [(0, .ref (a 0)), (1, .int (p0)), (2, .int (p1))]) rfl ?_
  refine g_aload_n (pc := 0) C 0 dX7_pin_0 rfl rfl ?_
  refine gx_get_0_0 (pc := 1) C iX7_pin_X7 qX7_pin_F17 dX7_pin_1 ?_
  refine gx_get_1_0 (pc := 4) C iX7_pin_X3 qX7_pin_F62 dX7_pin_4 ?_
  refine g_bipush (pc := 7) C (v := (6 : Int32)) dX7_pin_7 (by decide) ?_
  refine g_icmp_ge (pc := 9) (tgt := 21) C dX7_pin_9 (by decide) (fun c9 => ?_) (fun c9 => ?_)
  · rw [if_pos c9] at h
    refine g_iconst (pc := 21) C (v := (-1 : Int32)) dX7_pin_21 (by decide) ?_
    cases h
    exact g_iret (pc := 22) C hr dX7_pin_22
  · rw [if_neg c9] at h
    refine g_aload_n (pc := 12) C 0 dX7_pin_12 rfl rfl ?_
    refine g_iload_n (pc := 13) C 1 dX7_pin_13 rfl rfl ?_
    refine g_iload_n (pc := 14) C 2 dX7_pin_14 rfl rfl ?_
    obtain ⟨r15, s15, hc15, h⟩ := hv_b2_some h
    refine g_callV (pc := 15) (σ1 := s15) (v := (some (.int (r15)))) (As := [.int (p0), .int (p1)]) (rest := []) C 0 (vX7_isFreePlace hc15) (cwV 2 C.1.2.2.2.2 gX7_pin_X7_isFreePlace rfl rfl rfl (by decide +kernel) ⟨Nat.le_of_ble_eq_true rfl, Nat.le_of_ble_eq_true rfl⟩) (Nat.le_of_ble_eq_true rfl) rfl rfl rfl rfl (Nat.le_of_ble_eq_true rfl) dX7_pin_15 ⟨Nat.zero_le _, Nat.zero_le _⟩ ?_
    refine g_st (st' := [.int (r15)]) rfl ?_
    refine g_if_ne (pc := 18) (tgt := 23) C dX7_pin_18 (by decide) (fun c18 => ?_) (fun c18 => ?_)
    · rw [if_neg c18] at h
      refine g_aload_n (pc := 23) C 0 dX7_pin_23 rfl rfl ?_
      refine gx_get_0_0 (pc := 24) C iX7_pin_X7 qX7_pin_F17 dX7_pin_24 ?_
      refine gx_get_1_0 (pc := 27) C iX7_pin_X3 qX7_pin_F62 dX7_pin_27 ?_
      obtain ⟨y3_30, ey3_30, h⟩ := hv_let_some h
      refine g_istore_n (pc := 30) C (lv' := [(3, .int (y3_30)), (0, .ref (a 0)), (1, .int (p0)), (2, .int (p1))]) ey3_30 dX7_pin_30 rfl (Nat.le_of_ble_eq_true rfl) rfl ?_
      refine g_aload_n (pc := 31) C 1 dX7_pin_31 rfl rfl ?_
      refine gx_get_0_0 (pc := 32) C iX7_pin_X7 qX7_pin_F17 dX7_pin_32 ?_
      refine g_dup (pc := 35) C dX7_pin_35 rfl ?_
      refine gx_get_1_0 (pc := 36) C iX7_pin_X3 qX7_pin_F62 dX7_pin_36 ?_
      refine g_iconst (pc := 39) C (v := (1 : Int32)) dX7_pin_39 (by decide) ?_
      refine g_iadd (pc := 40) C dX7_pin_40 ?_
      obtain ⟨s41, es41, h⟩ := hv_let_some h
      refine gx_put_1_0 (pc := 41) C es41 iX7_pin_X3 qX7_pin_F62 dX7_pin_41 ?_
      refine g_aload_n (pc := 44) C 1 dX7_pin_44 rfl rfl ?_
      refine gx_get_0_0 (pc := 45) C iX7_pin_X7 qX7_pin_F17 dX7_pin_45 ?_
      refine g_iload_n (pc := 48) C 0 dX7_pin_48 rfl rfl ?_
      refine g_iload_n (pc := 49) C 2 dX7_pin_49 rfl rfl ?_
      refine g_iload_n (pc := 50) C 3 dX7_pin_50 rfl rfl ?_
      obtain ⟨s51, hc51, h⟩ := hv_bd_some h
      refine g_callV (pc := 51) (σ1 := s51) (v := none) (As := [.int (y3_30), .int (p0), .int (p1)]) (rest := []) C 1 (vX3_put hc51) (cwV 3 C.1.2.2.2.2 gX7_pin_X3_put rfl rfl rfl (by decide +kernel) ⟨Nat.le_of_ble_eq_true rfl, Nat.le_of_ble_eq_true rfl⟩) (Nat.le_of_ble_eq_true rfl) rfl rfl rfl rfl (Nat.le_of_ble_eq_true rfl) dX7_pin_51 ⟨Nat.zero_le _, Nat.zero_le _⟩ ?_
      refine g_st (st' := []) rfl ?_
      refine g_iload_n (pc := 54) C 0 dX7_pin_54 rfl rfl ?_
      cases h
      exact g_iret (pc := 55) C hr dX7_pin_55
    · rw [if_pos c18] at h
      refine g_iconst (pc := 21) C (v := (-1 : Int32)) dX7_pin_21 (by decide) ?_
      cases h
      exact g_iret (pc := 22) C hr dX7_pin_22
abbrev rmX7_place : Room := { frames := 2, cells := 0, slots := 0, locals := 46 }
set_option maxRecDepth 20000 in
theorem qX7_place_F17 : Cond.fieldLink RX7 17 "PinFrame" "frame" "LPinFrame$Frame;" ∈ wsX7_place := by decide +kernel
set_option maxRecDepth 20000 in
theorem iX7_place_X7 : ∀ w ∈ u_ws RX7 TX7 7, w ∈ wsX7_place := by decide +kernel
set_option maxHeartbeats 4000000 in
set_option maxRecDepth 20000 in
theorem vX7_place {n : Nat} {σ : hv_St} {p0 : Int32} {p1 : Int32} {p2 : Int32} {o : Int32 × hv_St} (h : mX7_place n σ p0 p1 p2 = some o) : hv_M l yX7_place wsX7_place rmX7_place D (hv_tys cy) 55 a (hv_XE a cy) [.ref (a 0), .int (p0), .int (p1), .int (p2)] σ (some (.int o.1)) o.2 := by
  refine hv_enter (own := RX7) (cc := cX7_place) (maxL := 4) (ret := (some .boolean)) (by decide) rfl rfl (Nat.le_of_ble_eq_true rfl) ?_
  intro p e s m args below meth c C hr
  unfold mX7_place at h
  refine g_lv [0, 1, 2, 3] (lv' := [(0, .ref (a 0)), (1, .int (p0)), (2, .int (p1)), (3, .int (p2))]) rfl ?_
  refine g_aload_n (pc := 0) C 0 dX7_place_0 rfl rfl ?_
  refine gx_get_0_0 (pc := 1) C iX7_place_X7 qX7_place_F17 dX7_place_1 ?_
  refine g_iload_n (pc := 4) C 1 dX7_place_4 rfl rfl ?_
  obtain ⟨r5, s5, hc5, h⟩ := hv_b2_some h
  refine g_callV (pc := 5) (σ1 := s5) (v := (some (.int (r5)))) (As := [.int (p0)]) (rest := []) C 1 (vX3_isPin hc5) (cwV 1 C.1.2.2.2.2 gX7_place_X3_isPin rfl rfl rfl (by decide +kernel) ⟨Nat.le_of_ble_eq_true rfl, Nat.le_of_ble_eq_true rfl⟩) (Nat.le_of_ble_eq_true rfl) rfl rfl rfl rfl (Nat.le_of_ble_eq_true rfl) dX7_place_5 ⟨Nat.zero_le _, Nat.zero_le _⟩ ?_
  refine g_st (st' := [.int (r5)]) rfl ?_
  refine g_if_eq (pc := 8) (tgt := 20) C dX7_place_8 (by decide) (fun c8 => ?_) (fun c8 => ?_)
  · rw [if_pos c8] at h
    refine g_iconst (pc := 20) C (v := (0 : Int32)) dX7_place_20 (by decide) ?_
    cases h
    exact g_zret (pc := 21) (x := (0 : Int32)) C hr (by decide) dX7_place_21
  · rw [if_neg c8] at h
    refine g_aload_n (pc := 11) C 0 dX7_place_11 rfl rfl ?_
    refine g_iload_n (pc := 12) C 2 dX7_place_12 rfl rfl ?_
    refine g_iload_n (pc := 13) C 3 dX7_place_13 rfl rfl ?_
    obtain ⟨r14, s14, hc14, h⟩ := hv_b2_some h
    refine g_callV (pc := 14) (σ1 := s14) (v := (some (.int (r14)))) (As := [.int (p1), .int (p2)]) (rest := []) C 0 (vX7_isFreePlace hc14) (cwV 2 C.1.2.2.2.2 gX7_place_X7_isFreePlace rfl rfl rfl (by decide +kernel) ⟨Nat.le_of_ble_eq_true rfl, Nat.le_of_ble_eq_true rfl⟩) (Nat.le_of_ble_eq_true rfl) rfl rfl rfl rfl (Nat.le_of_ble_eq_true rfl) dX7_place_14 ⟨Nat.zero_le _, Nat.zero_le _⟩ ?_
    refine g_st (st' := [.int (r14)]) rfl ?_
    refine g_if_ne (pc := 17) (tgt := 22) C dX7_place_17 (by decide) (fun c17 => ?_) (fun c17 => ?_)
    · rw [if_neg c17] at h
      refine g_aload_n (pc := 22) C 0 dX7_place_22 rfl rfl ?_
      refine gx_get_0_0 (pc := 23) C iX7_place_X7 qX7_place_F17 dX7_place_23 ?_
      refine g_iload_n (pc := 26) C 1 dX7_place_26 rfl rfl ?_
      refine g_iload_n (pc := 27) C 2 dX7_place_27 rfl rfl ?_
      refine g_iload_n (pc := 28) C 3 dX7_place_28 rfl rfl ?_
      obtain ⟨s29, hc29, h⟩ := hv_bd_some h
      refine g_callV (pc := 29) (σ1 := s29) (v := none) (As := [.int (p0), .int (p1), .int (p2)]) (rest := []) C 1 (vX3_put hc29) (cwV 3 C.1.2.2.2.2 gX7_place_X3_put rfl rfl rfl (by decide +kernel) ⟨Nat.le_of_ble_eq_true rfl, Nat.le_of_ble_eq_true rfl⟩) (Nat.le_of_ble_eq_true rfl) rfl rfl rfl rfl (Nat.le_of_ble_eq_true rfl) dX7_place_29 ⟨Nat.zero_le _, Nat.zero_le _⟩ ?_
      refine g_st (st' := []) rfl ?_
      refine g_iconst (pc := 32) C (v := (1 : Int32)) dX7_place_32 (by decide) ?_
      cases h
      exact g_zret (pc := 33) (x := (1 : Int32)) C hr (by decide) dX7_place_33
    · rw [if_pos c17] at h
      refine g_iconst (pc := 20) C (v := (0 : Int32)) dX7_place_20 (by decide) ?_
      cases h
      exact g_zret (pc := 21) (x := (0 : Int32)) C hr (by decide) dX7_place_21
abbrev rmX7_isGive : Room := { frames := 0, cells := 0, slots := 0, locals := 0 }
set_option maxHeartbeats 4000000 in
set_option maxRecDepth 20000 in
theorem bX7_isGive_14 (C : hv_C p s m args meth c cX7_isGive 1 wsX7_isGive RX7 D (hv_tys cy)) (hr : meth.sig.returnType = (some .boolean)) {n : Nat} {o : Int32 × hv_St} : ∀ (σ : hv_St), kX7_isGive_14 n σ = some o → hv_G p l e (headSpec wsX7_isGive rmX7_isGive).room s m args below meth c 1 D 55 a (hv_XE a cy) 0 0 (hv_MQ D 55 a (hv_XE a cy) below args s (some (.int o.1)) o.2) σ 14 [] [] := by
  intro σ h
  unfold kX7_isGive_14 at h
  refine g_iconst (pc := 14) C (v := (0 : Int32)) dX7_isGive_14 (by decide) ?_
  cases h
  exact g_zret (pc := 15) (x := (0 : Int32)) C hr (by decide) dX7_isGive_15
set_option maxHeartbeats 4000000 in
set_option maxRecDepth 20000 in
theorem vX7_isGive {n : Nat} {σ : hv_St} {p0 : Int32} {o : Int32 × hv_St} (h : mX7_isGive n σ p0 = some o) : hv_M l yX7_isGive wsX7_isGive rmX7_isGive D (hv_tys cy) 55 a (hv_XE a cy) [.int (p0)] σ (some (.int o.1)) o.2 := by
  refine hv_enter (own := RX7) (cc := cX7_isGive) (maxL := 1) (ret := (some .boolean)) (by decide) rfl rfl (Nat.le_of_ble_eq_true rfl) ?_
  intro p e s m args below meth c C hr
  unfold mX7_isGive at h
  refine g_lv [0] (lv' := [(0, .int (p0))]) rfl ?_
  refine g_iload_n (pc := 0) C 0 dX7_isGive_0 rfl rfl ?_
  refine g_iconst (pc := 1) C (v := (1 : Int32)) dX7_isGive_1 (by decide) ?_
  refine g_icmp_lt (pc := 2) (tgt := 14) C dX7_isGive_2 (by decide) (fun c2 => ?_) (fun c2 => ?_)
  · rw [if_pos c2] at h
    exact g_lv [] rfl (bX7_isGive_14 C hr σ h)
  · rw [if_neg c2] at h
    refine g_iload_n (pc := 5) C 0 dX7_isGive_5 rfl rfl ?_
    refine g_iconst (pc := 6) C (v := (3 : Int32)) dX7_isGive_6 (by decide) ?_
    refine g_icmp_gt (pc := 7) (tgt := 14) C dX7_isGive_7 (by decide) (fun c7 => ?_) (fun c7 => ?_)
    · rw [if_pos c7] at h
      exact g_lv [] rfl (bX7_isGive_14 C hr σ h)
    · rw [if_neg c7] at h
      refine g_iconst (pc := 10) C (v := (1 : Int32)) dX7_isGive_10 (by decide) ?_
      refine g_goto (pc := 11) C (tgt := 15) dX7_isGive_11 (by decide) ?_
      cases h
      exact g_zret (pc := 15) (x := (1 : Int32)) C hr (by decide) dX7_isGive_15
abbrev rmX7_bar : Room := { frames := 1, cells := 0, slots := 0, locals := 24 }
set_option maxRecDepth 20000 in
theorem qX7_bar_F17 : Cond.fieldLink RX7 17 "PinFrame" "frame" "LPinFrame$Frame;" ∈ wsX7_bar := by decide +kernel
set_option maxRecDepth 20000 in
theorem qX7_bar_F78 : Cond.fieldLink RX7 78 "PinFrame$Frame" "bars" "I" ∈ wsX7_bar := by decide +kernel
set_option maxRecDepth 20000 in
theorem iX7_bar_X3 : ∀ w ∈ u_ws RX3 TX3 10, w ∈ wsX7_bar := by decide +kernel
set_option maxRecDepth 20000 in
theorem iX7_bar_X7 : ∀ w ∈ u_ws RX7 TX7 7, w ∈ wsX7_bar := by decide +kernel
set_option maxHeartbeats 4000000 in
set_option maxRecDepth 20000 in
theorem bX7_bar_44 (C : hv_C p s m args meth c cX7_bar 5 wsX7_bar RX7 D (hv_tys cy)) (hr : meth.sig.returnType = (some .int)) {n : Nat} {o : Int32 × hv_St} : ∀ (σ : hv_St) (x1 : Int32) (x2 : Int32) (x3 : Int32) (z0 : Int32), kX7_bar_44 n σ x1 x2 x3 z0 = some o → hv_G p l e (headSpec wsX7_bar rmX7_bar).room s m args below meth c 5 D 55 a (hv_XE a cy) 0 0 (hv_MQ D 55 a (hv_XE a cy) below args s (some (.int o.1)) o.2) σ 44 [(0, .ref (a 0)), (1, .int (x1)), (2, .int (x2)), (3, .int (x3))] [.int (z0)] := by
  intro σ x1 x2 x3 z0 h
  unfold kX7_bar_44 at h
  refine g_istore (pc := 44) C (lv' := [(4, .int (z0)), (0, .ref (a 0)), (1, .int (x1)), (2, .int (x2)), (3, .int (x3))]) rfl dX7_bar_44 (Nat.le_of_ble_eq_true rfl) rfl ?_
  refine g_iload (pc := 46) C 0 dX7_bar_46 rfl ?_
  refine g_if_eq (pc := 48) (tgt := 70) C dX7_bar_48 (by decide) (fun c48 => ?_) (fun c48 => ?_)
  · rw [if_pos c48] at h
    refine g_iconst (pc := 70) C (v := (-1 : Int32)) dX7_bar_70 (by decide) ?_
    cases h
    exact g_iret (pc := 71) C hr dX7_bar_71
  · rw [if_neg c48] at h
    refine g_iload_n (pc := 51) C 4 dX7_bar_51 rfl rfl ?_
    obtain ⟨r52, s52, hc52, h⟩ := hv_b2_some h
    refine g_callS (pc := 52) (σ1 := s52) (v := (some (.int (r52)))) (As := [.int (x3)]) (rest := []) C (vX7_isGive hc52) (va_cwS 1 C.1.2.2.2.2 gX7_bar_X7_isGive rfl rfl rfl (by decide +kernel) ⟨Nat.le_of_ble_eq_true rfl, Nat.le_of_ble_eq_true rfl⟩) rfl rfl (Nat.le_of_ble_eq_true rfl) dX7_bar_52 ⟨Nat.zero_le _, Nat.zero_le _⟩ ?_
    refine g_st (st' := [.int (r52)]) rfl ?_
    refine g_if_eq (pc := 55) (tgt := 70) C dX7_bar_55 (by decide) (fun c55 => ?_) (fun c55 => ?_)
    · rw [if_pos c55] at h
      refine g_iconst (pc := 70) C (v := (-1 : Int32)) dX7_bar_70 (by decide) ?_
      cases h
      exact g_iret (pc := 71) C hr dX7_bar_71
    · rw [if_neg c55] at h
      refine g_aload_n (pc := 58) C 1 dX7_bar_58 rfl rfl ?_
      refine gx_get_0_0 (pc := 59) C iX7_bar_X7 qX7_bar_F17 dX7_bar_59 ?_
      refine g_iload_n (pc := 62) C 2 dX7_bar_62 rfl rfl ?_
      refine g_iload_n (pc := 63) C 3 dX7_bar_63 rfl rfl ?_
      obtain ⟨r64, s64, hc64, h⟩ := hv_b2_some h
      refine g_callV (pc := 64) (σ1 := s64) (v := (some (.int (r64)))) (As := [.int (x1), .int (x2)]) (rest := []) C 1 (vX3_hasBar hc64) (cwV 2 C.1.2.2.2.2 gX7_bar_X3_hasBar rfl rfl rfl (by decide +kernel) ⟨Nat.le_of_ble_eq_true rfl, Nat.le_of_ble_eq_true rfl⟩) (Nat.le_of_ble_eq_true rfl) rfl rfl rfl rfl (Nat.le_of_ble_eq_true rfl) dX7_bar_64 ⟨Nat.zero_le _, Nat.zero_le _⟩ ?_
      refine g_st (st' := [.int (r64)]) rfl ?_
      refine g_if_eq (pc := 67) (tgt := 72) C dX7_bar_67 (by decide) (fun c67 => ?_) (fun c67 => ?_)
      · rw [if_pos c67] at h
        refine g_aload_n (pc := 72) C 1 dX7_bar_72 rfl rfl ?_
        refine gx_get_0_0 (pc := 73) C iX7_bar_X7 qX7_bar_F17 dX7_bar_73 ?_
        refine g_iload_n (pc := 76) C 2 dX7_bar_76 rfl rfl ?_
        refine g_iload_n (pc := 77) C 3 dX7_bar_77 rfl rfl ?_
        refine g_iload_n (pc := 78) C 4 dX7_bar_78 rfl rfl ?_
        obtain ⟨r79, s79, hc79, h⟩ := hv_b2_some h
        refine g_callV (pc := 79) (σ1 := s79) (v := (some (.int (r79)))) (As := [.int (x1), .int (x2), .int (x3)]) (rest := []) C 1 (vX3_addBar hc79) (cwV 3 C.1.2.2.2.2 gX7_bar_X3_addBar rfl rfl rfl (by decide +kernel) ⟨Nat.le_of_ble_eq_true rfl, Nat.le_of_ble_eq_true rfl⟩) (Nat.le_of_ble_eq_true rfl) rfl rfl rfl rfl (Nat.le_of_ble_eq_true rfl) dX7_bar_79 ⟨Nat.zero_le _, Nat.zero_le _⟩ ?_
        refine g_st (st' := [.int (r79)]) rfl ?_
        cases h
        exact g_iret (pc := 82) C hr dX7_bar_82
      · rw [if_neg c67] at h
        refine g_iconst (pc := 70) C (v := (-1 : Int32)) dX7_bar_70 (by decide) ?_
        cases h
        exact g_iret (pc := 71) C hr dX7_bar_71
set_option maxHeartbeats 4000000 in
set_option maxRecDepth 20000 in
theorem bX7_bar_43 (C : hv_C p s m args meth c cX7_bar 5 wsX7_bar RX7 D (hv_tys cy)) (hr : meth.sig.returnType = (some .int)) {n : Nat} {o : Int32 × hv_St} : ∀ (σ : hv_St) (x1 : Int32) (x2 : Int32) (x3 : Int32), kX7_bar_43 n σ x1 x2 x3 = some o → hv_G p l e (headSpec wsX7_bar rmX7_bar).room s m args below meth c 5 D 55 a (hv_XE a cy) 0 0 (hv_MQ D 55 a (hv_XE a cy) below args s (some (.int o.1)) o.2) σ 43 [(0, .ref (a 0)), (1, .int (x1)), (2, .int (x2)), (3, .int (x3))] [] := by
  intro σ x1 x2 x3 h
  unfold kX7_bar_43 at h
  refine g_iconst (pc := 43) C (v := (0 : Int32)) dX7_bar_43 (by decide) ?_
  exact g_lv [0, 1, 2, 3] rfl (bX7_bar_44 C hr σ (x1) (x2) (x3) ((0 : Int32)) h)
set_option maxHeartbeats 4000000 in
set_option maxRecDepth 20000 in
theorem vX7_bar {n : Nat} {σ : hv_St} {p0 : Int32} {p1 : Int32} {p2 : Int32} {o : Int32 × hv_St} (h : mX7_bar n σ p0 p1 p2 = some o) : hv_M l yX7_bar wsX7_bar rmX7_bar D (hv_tys cy) 55 a (hv_XE a cy) [.ref (a 0), .int (p0), .int (p1), .int (p2)] σ (some (.int o.1)) o.2 := by
  refine hv_enter (own := RX7) (cc := cX7_bar) (maxL := 5) (ret := (some .int)) (by decide) rfl rfl (Nat.le_of_ble_eq_true rfl) ?_
  intro p e s m args below meth c C hr
  unfold mX7_bar at h
  refine g_lv [0, 1, 2, 3] (lv' := [(0, .ref (a 0)), (1, .int (p0)), (2, .int (p1)), (3, .int (p2))]) rfl ?_
  refine g_aload_n (pc := 0) C 0 dX7_bar_0 rfl rfl ?_
  refine gx_get_0_0 (pc := 1) C iX7_bar_X7 qX7_bar_F17 dX7_bar_1 ?_
  refine gx_get_1_1 (pc := 4) C iX7_bar_X3 qX7_bar_F78 dX7_bar_4 ?_
  refine g_bipush (pc := 7) C (v := (11 : Int32)) dX7_bar_7 (by decide) ?_
  refine g_icmp_ge (pc := 9) (tgt := 43) C dX7_bar_9 (by decide) (fun c9 => ?_) (fun c9 => ?_)
  · rw [if_pos c9] at h
    exact g_lv [0, 1, 2, 3] rfl (bX7_bar_43 C hr σ (p0) (p1) (p2) h)
  · rw [if_neg c9] at h
    refine g_aload_n (pc := 12) C 0 dX7_bar_12 rfl rfl ?_
    refine gx_get_0_0 (pc := 13) C iX7_bar_X7 qX7_bar_F17 dX7_bar_13 ?_
    refine g_iload_n (pc := 16) C 1 dX7_bar_16 rfl rfl ?_
    obtain ⟨r17, s17, hc17, h⟩ := hv_b2_some h
    refine g_callV (pc := 17) (σ1 := s17) (v := (some (.int (r17)))) (As := [.int (p0)]) (rest := []) C 1 (vX3_isPin hc17) (cwV 1 C.1.2.2.2.2 gX7_bar_X3_isPin rfl rfl rfl (by decide +kernel) ⟨Nat.le_of_ble_eq_true rfl, Nat.le_of_ble_eq_true rfl⟩) (Nat.le_of_ble_eq_true rfl) rfl rfl rfl rfl (Nat.le_of_ble_eq_true rfl) dX7_bar_17 ⟨Nat.zero_le _, Nat.zero_le _⟩ ?_
    refine g_st (st' := [.int (r17)]) rfl ?_
    refine g_if_eq (pc := 20) (tgt := 43) C dX7_bar_20 (by decide) (fun c20 => ?_) (fun c20 => ?_)
    · rw [if_pos c20] at h
      exact g_lv [0, 1, 2, 3] rfl (bX7_bar_43 C hr s17 (p0) (p1) (p2) h)
    · rw [if_neg c20] at h
      refine g_aload_n (pc := 23) C 0 dX7_bar_23 rfl rfl ?_
      refine gx_get_0_0 (pc := 24) C iX7_bar_X7 qX7_bar_F17 dX7_bar_24 ?_
      refine g_iload_n (pc := 27) C 2 dX7_bar_27 rfl rfl ?_
      obtain ⟨r28, s28, hc28, h⟩ := hv_b2_some h
      refine g_callV (pc := 28) (σ1 := s28) (v := (some (.int (r28)))) (As := [.int (p1)]) (rest := []) C 1 (vX3_isPin hc28) (cwV 1 C.1.2.2.2.2 gX7_bar_X3_isPin rfl rfl rfl (by decide +kernel) ⟨Nat.le_of_ble_eq_true rfl, Nat.le_of_ble_eq_true rfl⟩) (Nat.le_of_ble_eq_true rfl) rfl rfl rfl rfl (Nat.le_of_ble_eq_true rfl) dX7_bar_28 ⟨Nat.zero_le _, Nat.zero_le _⟩ ?_
      refine g_st (st' := [.int (r28)]) rfl ?_
      refine g_if_eq (pc := 31) (tgt := 43) C dX7_bar_31 (by decide) (fun c31 => ?_) (fun c31 => ?_)
      · rw [if_pos c31] at h
        exact g_lv [0, 1, 2, 3] rfl (bX7_bar_43 C hr s28 (p0) (p1) (p2) h)
      · rw [if_neg c31] at h
        refine g_iload_n (pc := 34) C 1 dX7_bar_34 rfl rfl ?_
        refine g_iload_n (pc := 35) C 2 dX7_bar_35 rfl rfl ?_
        refine g_icmp_eq (pc := 36) (tgt := 43) C dX7_bar_36 (by decide) (fun c36 => ?_) (fun c36 => ?_)
        · rw [if_pos c36] at h
          exact g_lv [0, 1, 2, 3] rfl (bX7_bar_43 C hr s28 (p0) (p1) (p2) h)
        · rw [if_neg c36] at h
          refine g_iconst (pc := 39) C (v := (1 : Int32)) dX7_bar_39 (by decide) ?_
          refine g_goto (pc := 40) C (tgt := 44) dX7_bar_40 (by decide) ?_
          exact g_lv [0, 1, 2, 3] rfl (bX7_bar_44 C hr s28 (p0) (p1) (p2) ((1 : Int32)) h)
abbrev rmX7_turn : Room := { frames := 2, cells := 0, slots := 0, locals := 42 }
set_option maxRecDepth 20000 in
theorem qX7_turn_F17 : Cond.fieldLink RX7 17 "PinFrame" "frame" "LPinFrame$Frame;" ∈ wsX7_turn := by decide +kernel
set_option maxRecDepth 20000 in
theorem qX7_turn_F97 : Cond.fieldLink RX7 97 "PinFrame$Frame" "on" "I" ∈ wsX7_turn := by decide +kernel
set_option maxRecDepth 20000 in
theorem iX7_turn_X3 : ∀ w ∈ u_ws RX3 TX3 10, w ∈ wsX7_turn := by decide +kernel
set_option maxRecDepth 20000 in
theorem iX7_turn_X7 : ∀ w ∈ u_ws RX7 TX7 7, w ∈ wsX7_turn := by decide +kernel
set_option maxHeartbeats 4000000 in
set_option maxRecDepth 20000 in
theorem vX7_turn {n : Nat} {σ : hv_St} {p0 : Int32} {p1 : Int32} {o : Int32 × hv_St} (h : mX7_turn n σ p0 p1 = some o) : hv_M l yX7_turn wsX7_turn rmX7_turn D (hv_tys cy) 55 a (hv_XE a cy) [.ref (a 0), .int (p0), .int (p1)] σ (some (.int o.1)) o.2 := by
  refine hv_enter (own := RX7) (cc := cX7_turn) (maxL := 3) (ret := (some .boolean)) (by decide) rfl rfl (Nat.le_of_ble_eq_true rfl) ?_
  intro p e s m args below meth c C hr
  unfold mX7_turn at h
  refine g_lv [0, 1, 2] (lv' := [(0, .ref (a 0)), (1, .int (p0)), (2, .int (p1))]) rfl ?_
  refine g_aload_n (pc := 0) C 0 dX7_turn_0 rfl rfl ?_
  refine gx_get_0_0 (pc := 1) C iX7_turn_X7 qX7_turn_F17 dX7_turn_1 ?_
  refine g_iload_n (pc := 4) C 1 dX7_turn_4 rfl rfl ?_
  obtain ⟨r5, s5, hc5, h⟩ := hv_b2_some h
  refine g_callV (pc := 5) (σ1 := s5) (v := (some (.int (r5)))) (As := [.int (p0)]) (rest := []) C 1 (vX3_isBar hc5) (cwV 1 C.1.2.2.2.2 gX7_turn_X3_isBar rfl rfl rfl (by decide +kernel) ⟨Nat.le_of_ble_eq_true rfl, Nat.le_of_ble_eq_true rfl⟩) (Nat.le_of_ble_eq_true rfl) rfl rfl rfl rfl (Nat.le_of_ble_eq_true rfl) dX7_turn_5 ⟨Nat.zero_le _, Nat.zero_le _⟩ ?_
  refine g_st (st' := [.int (r5)]) rfl ?_
  refine g_if_eq (pc := 8) (tgt := 23) C dX7_turn_8 (by decide) (fun c8 => ?_) (fun c8 => ?_)
  · rw [if_pos c8] at h
    refine g_iconst (pc := 23) C (v := (0 : Int32)) dX7_turn_23 (by decide) ?_
    cases h
    exact g_zret (pc := 24) (x := (0 : Int32)) C hr (by decide) dX7_turn_24
  · rw [if_neg c8] at h
    refine g_aload_n (pc := 11) C 0 dX7_turn_11 rfl rfl ?_
    refine gx_get_0_0 (pc := 12) C iX7_turn_X7 qX7_turn_F17 dX7_turn_12 ?_
    refine g_iload_n (pc := 15) C 1 dX7_turn_15 rfl rfl ?_
    obtain ⟨r16, s16, hc16, h⟩ := hv_b2_some h
    refine g_callV (pc := 16) (σ1 := s16) (v := (some (.int (r16)))) (As := [.int (p0)]) (rest := []) C 1 (vX3_isOn hc16) (cwV 1 C.1.2.2.2.2 gX7_turn_X3_isOn rfl rfl rfl (by decide +kernel) ⟨Nat.le_of_ble_eq_true rfl, Nat.le_of_ble_eq_true rfl⟩) (Nat.le_of_ble_eq_true rfl) rfl rfl rfl rfl (Nat.le_of_ble_eq_true rfl) dX7_turn_16 ⟨Nat.zero_le _, Nat.zero_le _⟩ ?_
    refine g_st (st' := [.int (r16)]) rfl ?_
    refine g_iload_n (pc := 19) C 2 dX7_turn_19 rfl rfl ?_
    refine g_icmp_ne (pc := 20) (tgt := 25) C dX7_turn_20 (by decide) (fun c20 => ?_) (fun c20 => ?_)
    · rw [if_neg c20] at h
      refine g_aload_n (pc := 25) C 0 dX7_turn_25 rfl rfl ?_
      refine gx_get_0_0 (pc := 26) C iX7_turn_X7 qX7_turn_F17 dX7_turn_26 ?_
      refine g_dup (pc := 29) C dX7_turn_29 rfl ?_
      refine gx_get_1_2 (pc := 30) C iX7_turn_X3 qX7_turn_F97 dX7_turn_30 ?_
      refine g_iconst (pc := 33) C (v := (1 : Int32)) dX7_turn_33 (by decide) ?_
      refine g_iload_n (pc := 34) C 1 dX7_turn_34 rfl rfl ?_
      refine g_ishl (pc := 35) C dX7_turn_35 ?_
      refine g_ixor (pc := 36) C dX7_turn_36 ?_
      obtain ⟨s37, es37, h⟩ := hv_let_some h
      refine gx_put_1_2 (pc := 37) C es37 iX7_turn_X3 qX7_turn_F97 dX7_turn_37 ?_
      refine g_iconst (pc := 40) C (v := (1 : Int32)) dX7_turn_40 (by decide) ?_
      cases h
      exact g_zret (pc := 41) (x := (1 : Int32)) C hr (by decide) dX7_turn_41
    · rw [if_pos c20] at h
      refine g_iconst (pc := 23) C (v := (0 : Int32)) dX7_turn_23 (by decide) ?_
      cases h
      exact g_zret (pc := 24) (x := (0 : Int32)) C hr (by decide) dX7_turn_24
abbrev rmX7_alter : Room := { frames := 1, cells := 0, slots := 0, locals := 21 }
set_option maxRecDepth 20000 in
theorem qX7_alter_F100 : Cond.fieldLink RX7 100 "PinFrame$Frame" "strength" "[I" ∈ wsX7_alter := by decide +kernel
set_option maxRecDepth 20000 in
theorem qX7_alter_F104 : Cond.fieldLink RX7 104 "PinFrame$Frame" "give" "[I" ∈ wsX7_alter := by decide +kernel
set_option maxRecDepth 20000 in
theorem qX7_alter_F17 : Cond.fieldLink RX7 17 "PinFrame" "frame" "LPinFrame$Frame;" ∈ wsX7_alter := by decide +kernel
set_option maxRecDepth 20000 in
theorem iX7_alter_X3 : ∀ w ∈ u_ws RX3 TX3 10, w ∈ wsX7_alter := by decide +kernel
set_option maxRecDepth 20000 in
theorem iX7_alter_X7 : ∀ w ∈ u_ws RX7 TX7 7, w ∈ wsX7_alter := by decide +kernel
set_option maxHeartbeats 4000000 in
set_option maxRecDepth 20000 in
theorem vX7_alter {n : Nat} {σ : hv_St} {p0 : Int32} {p1 : Int32} {p2 : Int32} {o : Int32 × hv_St} (h : mX7_alter n σ p0 p1 p2 = some o) : hv_M l yX7_alter wsX7_alter rmX7_alter D (hv_tys cy) 55 a (hv_XE a cy) [.ref (a 0), .int (p0), .int (p1), .int (p2)] σ (some (.int o.1)) o.2 := by
  refine hv_enter (own := RX7) (cc := cX7_alter) (maxL := 6) (ret := (some .boolean)) (by decide) rfl rfl (Nat.le_of_ble_eq_true rfl) ?_
  intro p e s m args below meth c C hr
  unfold mX7_alter at h
  refine g_lv [0, 1, 2, 3] (lv' := [(0, .ref (a 0)), (1, .int (p0)), (2, .int (p1)), (3, .int (p2))]) rfl ?_
  refine g_aload_n (pc := 0) C 0 dX7_alter_0 rfl rfl ?_
  refine gx_get_0_0 (pc := 1) C iX7_alter_X7 qX7_alter_F17 dX7_alter_1 ?_
  refine g_iload_n (pc := 4) C 1 dX7_alter_4 rfl rfl ?_
  obtain ⟨r5, s5, hc5, h⟩ := hv_b2_some h
  refine g_callV (pc := 5) (σ1 := s5) (v := (some (.int (r5)))) (As := [.int (p0)]) (rest := []) C 1 (vX3_isBar hc5) (cwV 1 C.1.2.2.2.2 gX7_alter_X3_isBar rfl rfl rfl (by decide +kernel) ⟨Nat.le_of_ble_eq_true rfl, Nat.le_of_ble_eq_true rfl⟩) (Nat.le_of_ble_eq_true rfl) rfl rfl rfl rfl (Nat.le_of_ble_eq_true rfl) dX7_alter_5 ⟨Nat.zero_le _, Nat.zero_le _⟩ ?_
  refine g_st (st' := [.int (r5)]) rfl ?_
  refine g_if_ne (pc := 8) (tgt := 13) C dX7_alter_8 (by decide) (fun c8 => ?_) (fun c8 => ?_)
  · rw [if_neg c8] at h
    refine g_iload_n (pc := 13) C 2 dX7_alter_13 rfl rfl ?_
    refine g_if_eq (pc := 14) (tgt := 27) C dX7_alter_14 (by decide) (fun c14 => ?_) (fun c14 => ?_)
    · rw [if_pos c14] at h
      refine g_aload_n (pc := 27) C 0 dX7_alter_27 rfl rfl ?_
      refine gx_get_0_0 (pc := 28) C iX7_alter_X7 qX7_alter_F17 dX7_alter_28 ?_
      refine gx_get_1_8 (pc := 31) C iX7_alter_X3 qX7_alter_F104 dX7_alter_31 ?_
      refine g_astore (pc := 34) C (lv' := [(4, .ref (a 7)), (0, .ref (a 0)), (1, .int (p0)), (2, .int (p1)), (3, .int (p2))]) rfl dX7_alter_34 (Nat.le_of_ble_eq_true rfl) rfl ?_
      refine g_iload_n (pc := 36) C 3 dX7_alter_36 rfl rfl ?_
      refine g_if_eq (pc := 37) (tgt := 60) C dX7_alter_37 (by decide) (fun c37 => ?_) (fun c37 => ?_)
      · rw [if_pos c37] at h
        refine g_iload_n (pc := 60) C 4 dX7_alter_60 rfl rfl ?_
        obtain ⟨r61, s61, hc61, h⟩ := hv_b2_some h
        refine g_callS (pc := 61) (σ1 := s61) (v := (some (.int (r61)))) (As := [.int (p2)]) (rest := []) C (vX7_isGive hc61) (va_cwS 1 C.1.2.2.2.2 gX7_alter_X7_isGive rfl rfl rfl (by decide +kernel) ⟨Nat.le_of_ble_eq_true rfl, Nat.le_of_ble_eq_true rfl⟩) rfl rfl (Nat.le_of_ble_eq_true rfl) dX7_alter_61 ⟨Nat.zero_le _, Nat.zero_le _⟩ ?_
        refine g_st (st' := [.int (r61)]) rfl ?_
        refine g_istore (pc := 64) C (lv' := [(5, .int (r61)), (4, .ref (a 7)), (0, .ref (a 0)), (1, .int (p0)), (2, .int (p1)), (3, .int (p2))]) rfl dX7_alter_64 (Nat.le_of_ble_eq_true rfl) rfl ?_
        refine g_iload (pc := 66) C 0 dX7_alter_66 rfl ?_
        refine g_if_eq (pc := 68) (tgt := 79) C dX7_alter_68 (by decide) (fun c68 => ?_) (fun c68 => ?_)
        · rw [if_pos c68] at h
          refine g_iconst (pc := 79) C (v := (0 : Int32)) dX7_alter_79 (by decide) ?_
          cases h
          exact g_zret (pc := 80) (x := (0 : Int32)) C hr (by decide) dX7_alter_80
        · rw [if_neg c68] at h
          refine g_aload (pc := 71) C 1 dX7_alter_71 rfl ?_
          refine g_iload_n (pc := 73) C 3 dX7_alter_73 rfl rfl ?_
          obtain ⟨k74, h⟩ := hv_if_some h
          refine gx_ld_7 (pc := 74) C k74 dX7_alter_74 ?_
          refine g_iload_n (pc := 75) C 5 dX7_alter_75 rfl rfl ?_
          refine g_icmp_ne (pc := 76) (tgt := 81) C dX7_alter_76 (by decide) (fun c76 => ?_) (fun c76 => ?_)
          · rw [if_neg c76] at h
            refine g_aload (pc := 81) C 1 dX7_alter_81 rfl ?_
            refine g_iload_n (pc := 83) C 3 dX7_alter_83 rfl rfl ?_
            refine g_iload_n (pc := 84) C 5 dX7_alter_84 rfl rfl ?_
            obtain ⟨k85, h⟩ := hv_if_some h
            obtain ⟨s85, es85, h⟩ := hv_let_some h
            refine gx_st_7 (pc := 85) C es85 k85 dX7_alter_85 ?_
            refine g_iconst (pc := 86) C (v := (1 : Int32)) dX7_alter_86 (by decide) ?_
            cases h
            exact g_zret (pc := 87) (x := (1 : Int32)) C hr (by decide) dX7_alter_87
          · rw [if_pos c76] at h
            refine g_iconst (pc := 79) C (v := (0 : Int32)) dX7_alter_79 (by decide) ?_
            cases h
            exact g_zret (pc := 80) (x := (0 : Int32)) C hr (by decide) dX7_alter_80
      · rw [if_neg c37] at h
        refine g_iload_n (pc := 40) C 4 dX7_alter_40 rfl rfl ?_
        refine g_iconst (pc := 41) C (v := (1 : Int32)) dX7_alter_41 (by decide) ?_
        refine g_icmp_lt (pc := 42) (tgt := 56) C dX7_alter_42 (by decide) (fun c42 => ?_) (fun c42 => ?_)
        · rw [if_pos c42] at h
          refine g_iconst (pc := 56) C (v := (0 : Int32)) dX7_alter_56 (by decide) ?_
          refine g_goto (pc := 57) C (tgt := 64) dX7_alter_57 (by decide) ?_
          refine g_istore (pc := 64) C (lv' := [(5, .int ((0 : Int32))), (4, .ref (a 7)), (0, .ref (a 0)), (1, .int (p0)), (2, .int (p1)), (3, .int (p2))]) rfl dX7_alter_64 (Nat.le_of_ble_eq_true rfl) rfl ?_
          refine g_iload (pc := 66) C 0 dX7_alter_66 rfl ?_
          refine g_if_eq (pc := 68) (tgt := 79) C dX7_alter_68 (by decide) (fun k => ?_) (fun k => ?_)
          · clear k
            refine g_iconst (pc := 79) C (v := (0 : Int32)) dX7_alter_79 (by decide) ?_
            cases h
            exact g_zret (pc := 80) (x := (0 : Int32)) C hr (by decide) dX7_alter_80
          · exact absurd k (by decide)
        · rw [if_neg c42] at h
          refine g_iload_n (pc := 45) C 4 dX7_alter_45 rfl rfl ?_
          refine g_sipush (pc := 46) C (v := (999 : Int32)) dX7_alter_46 (by decide) ?_
          refine g_icmp_gt (pc := 49) (tgt := 56) C dX7_alter_49 (by decide) (fun c49 => ?_) (fun c49 => ?_)
          · rw [if_pos c49] at h
            refine g_iconst (pc := 56) C (v := (0 : Int32)) dX7_alter_56 (by decide) ?_
            refine g_goto (pc := 57) C (tgt := 64) dX7_alter_57 (by decide) ?_
            refine g_istore (pc := 64) C (lv' := [(5, .int ((0 : Int32))), (4, .ref (a 7)), (0, .ref (a 0)), (1, .int (p0)), (2, .int (p1)), (3, .int (p2))]) rfl dX7_alter_64 (Nat.le_of_ble_eq_true rfl) rfl ?_
            refine g_iload (pc := 66) C 0 dX7_alter_66 rfl ?_
            refine g_if_eq (pc := 68) (tgt := 79) C dX7_alter_68 (by decide) (fun k => ?_) (fun k => ?_)
            · clear k
              refine g_iconst (pc := 79) C (v := (0 : Int32)) dX7_alter_79 (by decide) ?_
              cases h
              exact g_zret (pc := 80) (x := (0 : Int32)) C hr (by decide) dX7_alter_80
            · exact absurd k (by decide)
          · rw [if_neg c49] at h
            refine g_iconst (pc := 52) C (v := (1 : Int32)) dX7_alter_52 (by decide) ?_
            refine g_goto (pc := 53) C (tgt := 64) dX7_alter_53 (by decide) ?_
            refine g_istore (pc := 64) C (lv' := [(5, .int ((1 : Int32))), (4, .ref (a 7)), (0, .ref (a 0)), (1, .int (p0)), (2, .int (p1)), (3, .int (p2))]) rfl dX7_alter_64 (Nat.le_of_ble_eq_true rfl) rfl ?_
            refine g_iload (pc := 66) C 0 dX7_alter_66 rfl ?_
            refine g_if_eq (pc := 68) (tgt := 79) C dX7_alter_68 (by decide) (fun k => ?_) (fun k => ?_)
            · exact absurd k (by decide)
            · clear k
              refine g_aload (pc := 71) C 1 dX7_alter_71 rfl ?_
              refine g_iload_n (pc := 73) C 3 dX7_alter_73 rfl rfl ?_
              obtain ⟨k74, h⟩ := hv_if_some h
              refine gx_ld_7 (pc := 74) C k74 dX7_alter_74 ?_
              refine g_iload_n (pc := 75) C 5 dX7_alter_75 rfl rfl ?_
              refine g_icmp_ne (pc := 76) (tgt := 81) C dX7_alter_76 (by decide) (fun c76 => ?_) (fun c76 => ?_)
              · rw [if_neg c76] at h
                refine g_aload (pc := 81) C 1 dX7_alter_81 rfl ?_
                refine g_iload_n (pc := 83) C 3 dX7_alter_83 rfl rfl ?_
                refine g_iload_n (pc := 84) C 5 dX7_alter_84 rfl rfl ?_
                obtain ⟨k85, h⟩ := hv_if_some h
                obtain ⟨s85, es85, h⟩ := hv_let_some h
                refine gx_st_7 (pc := 85) C es85 k85 dX7_alter_85 ?_
                refine g_iconst (pc := 86) C (v := (1 : Int32)) dX7_alter_86 (by decide) ?_
                cases h
                exact g_zret (pc := 87) (x := (1 : Int32)) C hr (by decide) dX7_alter_87
              · rw [if_pos c76] at h
                refine g_iconst (pc := 79) C (v := (0 : Int32)) dX7_alter_79 (by decide) ?_
                cases h
                exact g_zret (pc := 80) (x := (0 : Int32)) C hr (by decide) dX7_alter_80
    · rw [if_neg c14] at h
      refine g_aload_n (pc := 17) C 0 dX7_alter_17 rfl rfl ?_
      refine gx_get_0_0 (pc := 18) C iX7_alter_X7 qX7_alter_F17 dX7_alter_18 ?_
      refine gx_get_1_9 (pc := 21) C iX7_alter_X3 qX7_alter_F100 dX7_alter_21 ?_
      refine g_goto (pc := 24) C (tgt := 34) dX7_alter_24 (by decide) ?_
      refine g_astore (pc := 34) C (lv' := [(4, .ref (a 8)), (0, .ref (a 0)), (1, .int (p0)), (2, .int (p1)), (3, .int (p2))]) rfl dX7_alter_34 (Nat.le_of_ble_eq_true rfl) rfl ?_
      refine g_iload_n (pc := 36) C 3 dX7_alter_36 rfl rfl ?_
      refine g_if_eq (pc := 37) (tgt := 60) C dX7_alter_37 (by decide) (fun c37 => ?_) (fun c37 => ?_)
      · rw [if_pos c37] at h
        refine g_iload_n (pc := 60) C 4 dX7_alter_60 rfl rfl ?_
        obtain ⟨r61, s61, hc61, h⟩ := hv_b2_some h
        refine g_callS (pc := 61) (σ1 := s61) (v := (some (.int (r61)))) (As := [.int (p2)]) (rest := []) C (vX7_isGive hc61) (va_cwS 1 C.1.2.2.2.2 gX7_alter_X7_isGive rfl rfl rfl (by decide +kernel) ⟨Nat.le_of_ble_eq_true rfl, Nat.le_of_ble_eq_true rfl⟩) rfl rfl (Nat.le_of_ble_eq_true rfl) dX7_alter_61 ⟨Nat.zero_le _, Nat.zero_le _⟩ ?_
        refine g_st (st' := [.int (r61)]) rfl ?_
        refine g_istore (pc := 64) C (lv' := [(5, .int (r61)), (4, .ref (a 8)), (0, .ref (a 0)), (1, .int (p0)), (2, .int (p1)), (3, .int (p2))]) rfl dX7_alter_64 (Nat.le_of_ble_eq_true rfl) rfl ?_
        refine g_iload (pc := 66) C 0 dX7_alter_66 rfl ?_
        refine g_if_eq (pc := 68) (tgt := 79) C dX7_alter_68 (by decide) (fun c68 => ?_) (fun c68 => ?_)
        · rw [if_pos c68] at h
          refine g_iconst (pc := 79) C (v := (0 : Int32)) dX7_alter_79 (by decide) ?_
          cases h
          exact g_zret (pc := 80) (x := (0 : Int32)) C hr (by decide) dX7_alter_80
        · rw [if_neg c68] at h
          refine g_aload (pc := 71) C 1 dX7_alter_71 rfl ?_
          refine g_iload_n (pc := 73) C 3 dX7_alter_73 rfl rfl ?_
          obtain ⟨k74, h⟩ := hv_if_some h
          refine gx_ld_8 (pc := 74) C k74 dX7_alter_74 ?_
          refine g_iload_n (pc := 75) C 5 dX7_alter_75 rfl rfl ?_
          refine g_icmp_ne (pc := 76) (tgt := 81) C dX7_alter_76 (by decide) (fun c76 => ?_) (fun c76 => ?_)
          · rw [if_neg c76] at h
            refine g_aload (pc := 81) C 1 dX7_alter_81 rfl ?_
            refine g_iload_n (pc := 83) C 3 dX7_alter_83 rfl rfl ?_
            refine g_iload_n (pc := 84) C 5 dX7_alter_84 rfl rfl ?_
            obtain ⟨k85, h⟩ := hv_if_some h
            obtain ⟨s85, es85, h⟩ := hv_let_some h
            refine gx_st_8 (pc := 85) C es85 k85 dX7_alter_85 ?_
            refine g_iconst (pc := 86) C (v := (1 : Int32)) dX7_alter_86 (by decide) ?_
            cases h
            exact g_zret (pc := 87) (x := (1 : Int32)) C hr (by decide) dX7_alter_87
          · rw [if_pos c76] at h
            refine g_iconst (pc := 79) C (v := (0 : Int32)) dX7_alter_79 (by decide) ?_
            cases h
            exact g_zret (pc := 80) (x := (0 : Int32)) C hr (by decide) dX7_alter_80
      · rw [if_neg c37] at h
        refine g_iload_n (pc := 40) C 4 dX7_alter_40 rfl rfl ?_
        refine g_iconst (pc := 41) C (v := (1 : Int32)) dX7_alter_41 (by decide) ?_
        refine g_icmp_lt (pc := 42) (tgt := 56) C dX7_alter_42 (by decide) (fun c42 => ?_) (fun c42 => ?_)
        · rw [if_pos c42] at h
          refine g_iconst (pc := 56) C (v := (0 : Int32)) dX7_alter_56 (by decide) ?_
          refine g_goto (pc := 57) C (tgt := 64) dX7_alter_57 (by decide) ?_
          refine g_istore (pc := 64) C (lv' := [(5, .int ((0 : Int32))), (4, .ref (a 8)), (0, .ref (a 0)), (1, .int (p0)), (2, .int (p1)), (3, .int (p2))]) rfl dX7_alter_64 (Nat.le_of_ble_eq_true rfl) rfl ?_
          refine g_iload (pc := 66) C 0 dX7_alter_66 rfl ?_
          refine g_if_eq (pc := 68) (tgt := 79) C dX7_alter_68 (by decide) (fun k => ?_) (fun k => ?_)
          · clear k
            refine g_iconst (pc := 79) C (v := (0 : Int32)) dX7_alter_79 (by decide) ?_
            cases h
            exact g_zret (pc := 80) (x := (0 : Int32)) C hr (by decide) dX7_alter_80
          · exact absurd k (by decide)
        · rw [if_neg c42] at h
          refine g_iload_n (pc := 45) C 4 dX7_alter_45 rfl rfl ?_
          refine g_sipush (pc := 46) C (v := (999 : Int32)) dX7_alter_46 (by decide) ?_
          refine g_icmp_gt (pc := 49) (tgt := 56) C dX7_alter_49 (by decide) (fun c49 => ?_) (fun c49 => ?_)
          · rw [if_pos c49] at h
            refine g_iconst (pc := 56) C (v := (0 : Int32)) dX7_alter_56 (by decide) ?_
            refine g_goto (pc := 57) C (tgt := 64) dX7_alter_57 (by decide) ?_
            refine g_istore (pc := 64) C (lv' := [(5, .int ((0 : Int32))), (4, .ref (a 8)), (0, .ref (a 0)), (1, .int (p0)), (2, .int (p1)), (3, .int (p2))]) rfl dX7_alter_64 (Nat.le_of_ble_eq_true rfl) rfl ?_
            refine g_iload (pc := 66) C 0 dX7_alter_66 rfl ?_
            refine g_if_eq (pc := 68) (tgt := 79) C dX7_alter_68 (by decide) (fun k => ?_) (fun k => ?_)
            · clear k
              refine g_iconst (pc := 79) C (v := (0 : Int32)) dX7_alter_79 (by decide) ?_
              cases h
              exact g_zret (pc := 80) (x := (0 : Int32)) C hr (by decide) dX7_alter_80
            · exact absurd k (by decide)
          · rw [if_neg c49] at h
            refine g_iconst (pc := 52) C (v := (1 : Int32)) dX7_alter_52 (by decide) ?_
            refine g_goto (pc := 53) C (tgt := 64) dX7_alter_53 (by decide) ?_
            refine g_istore (pc := 64) C (lv' := [(5, .int ((1 : Int32))), (4, .ref (a 8)), (0, .ref (a 0)), (1, .int (p0)), (2, .int (p1)), (3, .int (p2))]) rfl dX7_alter_64 (Nat.le_of_ble_eq_true rfl) rfl ?_
            refine g_iload (pc := 66) C 0 dX7_alter_66 rfl ?_
            refine g_if_eq (pc := 68) (tgt := 79) C dX7_alter_68 (by decide) (fun k => ?_) (fun k => ?_)
            · exact absurd k (by decide)
            · clear k
              refine g_aload (pc := 71) C 1 dX7_alter_71 rfl ?_
              refine g_iload_n (pc := 73) C 3 dX7_alter_73 rfl rfl ?_
              obtain ⟨k74, h⟩ := hv_if_some h
              refine gx_ld_8 (pc := 74) C k74 dX7_alter_74 ?_
              refine g_iload_n (pc := 75) C 5 dX7_alter_75 rfl rfl ?_
              refine g_icmp_ne (pc := 76) (tgt := 81) C dX7_alter_76 (by decide) (fun c76 => ?_) (fun c76 => ?_)
              · rw [if_neg c76] at h
                refine g_aload (pc := 81) C 1 dX7_alter_81 rfl ?_
                refine g_iload_n (pc := 83) C 3 dX7_alter_83 rfl rfl ?_
                refine g_iload_n (pc := 84) C 5 dX7_alter_84 rfl rfl ?_
                obtain ⟨k85, h⟩ := hv_if_some h
                obtain ⟨s85, es85, h⟩ := hv_let_some h
                refine gx_st_8 (pc := 85) C es85 k85 dX7_alter_85 ?_
                refine g_iconst (pc := 86) C (v := (1 : Int32)) dX7_alter_86 (by decide) ?_
                cases h
                exact g_zret (pc := 87) (x := (1 : Int32)) C hr (by decide) dX7_alter_87
              · rw [if_pos c76] at h
                refine g_iconst (pc := 79) C (v := (0 : Int32)) dX7_alter_79 (by decide) ?_
                cases h
                exact g_zret (pc := 80) (x := (0 : Int32)) C hr (by decide) dX7_alter_80
  · rw [if_pos c8] at h
    refine g_iconst (pc := 11) C (v := (0 : Int32)) dX7_alter_11 (by decide) ?_
    cases h
    exact g_zret (pc := 12) (x := (0 : Int32)) C hr (by decide) dX7_alter_12
abbrev rmX7_isDirection : Room := { frames := 0, cells := 0, slots := 0, locals := 0 }
set_option maxHeartbeats 4000000 in
set_option maxRecDepth 20000 in
theorem bX7_isDirection_9 (C : hv_C p s m args meth c cX7_isDirection 1 wsX7_isDirection RX7 D (hv_tys cy)) (hr : meth.sig.returnType = (some .boolean)) {n : Nat} {o : Int32 × hv_St} : ∀ (σ : hv_St), kX7_isDirection_9 n σ = some o → hv_G p l e (headSpec wsX7_isDirection rmX7_isDirection).room s m args below meth c 1 D 55 a (hv_XE a cy) 0 0 (hv_MQ D 55 a (hv_XE a cy) below args s (some (.int o.1)) o.2) σ 9 [] [] := by
  intro σ h
  unfold kX7_isDirection_9 at h
  refine g_iconst (pc := 9) C (v := (1 : Int32)) dX7_isDirection_9 (by decide) ?_
  refine g_goto (pc := 10) C (tgt := 14) dX7_isDirection_10 (by decide) ?_
  cases h
  exact g_zret (pc := 14) (x := (1 : Int32)) C hr (by decide) dX7_isDirection_14
set_option maxHeartbeats 4000000 in
set_option maxRecDepth 20000 in
theorem vX7_isDirection {n : Nat} {σ : hv_St} {p0 : Int32} {o : Int32 × hv_St} (h : mX7_isDirection n σ p0 = some o) : hv_M l yX7_isDirection wsX7_isDirection rmX7_isDirection D (hv_tys cy) 55 a (hv_XE a cy) [.int (p0)] σ (some (.int o.1)) o.2 := by
  refine hv_enter (own := RX7) (cc := cX7_isDirection) (maxL := 1) (ret := (some .boolean)) (by decide) rfl rfl (Nat.le_of_ble_eq_true rfl) ?_
  intro p e s m args below meth c C hr
  unfold mX7_isDirection at h
  refine g_lv [0] (lv' := [(0, .int (p0))]) rfl ?_
  refine g_iload_n (pc := 0) C 0 dX7_isDirection_0 rfl rfl ?_
  refine g_if_eq (pc := 1) (tgt := 9) C dX7_isDirection_1 (by decide) (fun c1 => ?_) (fun c1 => ?_)
  · rw [if_pos c1] at h
    exact g_lv [] rfl (bX7_isDirection_9 C hr σ h)
  · rw [if_neg c1] at h
    refine g_iload_n (pc := 4) C 0 dX7_isDirection_4 rfl rfl ?_
    refine g_iconst (pc := 5) C (v := (1 : Int32)) dX7_isDirection_5 (by decide) ?_
    refine g_icmp_ne (pc := 6) (tgt := 13) C dX7_isDirection_6 (by decide) (fun c6 => ?_) (fun c6 => ?_)
    · rw [if_neg c6] at h
      refine g_iconst (pc := 13) C (v := (0 : Int32)) dX7_isDirection_13 (by decide) ?_
      cases h
      exact g_zret (pc := 14) (x := (0 : Int32)) C hr (by decide) dX7_isDirection_14
    · rw [if_pos c6] at h
      exact g_lv [] rfl (bX7_isDirection_9 C hr σ h)
abbrev rmX7_hold : Room := { frames := 1, cells := 0, slots := 0, locals := 21 }
set_option maxRecDepth 20000 in
theorem qX7_hold_F110 : Cond.fieldLink RX7 110 "PinFrame$Frame" "held" "[Z" ∈ wsX7_hold := by decide +kernel
set_option maxRecDepth 20000 in
theorem qX7_hold_F17 : Cond.fieldLink RX7 17 "PinFrame" "frame" "LPinFrame$Frame;" ∈ wsX7_hold := by decide +kernel
set_option maxRecDepth 20000 in
theorem iX7_hold_X3 : ∀ w ∈ u_ws RX3 TX3 10, w ∈ wsX7_hold := by decide +kernel
set_option maxRecDepth 20000 in
theorem iX7_hold_X7 : ∀ w ∈ u_ws RX7 TX7 7, w ∈ wsX7_hold := by decide +kernel
set_option maxHeartbeats 4000000 in
set_option maxRecDepth 20000 in
theorem vX7_hold {n : Nat} {σ : hv_St} {p0 : Int32} {p1 : Int32} {p2 : Int32} {o : Int32 × hv_St} (h : mX7_hold n σ p0 p1 p2 = some o) : hv_M l yX7_hold wsX7_hold rmX7_hold D (hv_tys cy) 55 a (hv_XE a cy) [.ref (a 0), .int (p0), .int (p1), .int (p2)] σ (some (.int o.1)) o.2 := by
  refine hv_enter (own := RX7) (cc := cX7_hold) (maxL := 5) (ret := (some .boolean)) (by decide) rfl rfl (Nat.le_of_ble_eq_true rfl) ?_
  intro p e s m args below meth c C hr
  unfold mX7_hold at h
  refine g_lv [0, 1, 2, 3] (lv' := [(0, .ref (a 0)), (1, .int (p0)), (2, .int (p1)), (3, .int (p2))]) rfl ?_
  refine g_aload_n (pc := 0) C 0 dX7_hold_0 rfl rfl ?_
  refine gx_get_0_0 (pc := 1) C iX7_hold_X7 qX7_hold_F17 dX7_hold_1 ?_
  refine g_iload_n (pc := 4) C 1 dX7_hold_4 rfl rfl ?_
  obtain ⟨r5, s5, hc5, h⟩ := hv_b2_some h
  refine g_callV (pc := 5) (σ1 := s5) (v := (some (.int (r5)))) (As := [.int (p0)]) (rest := []) C 1 (vX3_isPin hc5) (cwV 1 C.1.2.2.2.2 gX7_hold_X3_isPin rfl rfl rfl (by decide +kernel) ⟨Nat.le_of_ble_eq_true rfl, Nat.le_of_ble_eq_true rfl⟩) (Nat.le_of_ble_eq_true rfl) rfl rfl rfl rfl (Nat.le_of_ble_eq_true rfl) dX7_hold_5 ⟨Nat.zero_le _, Nat.zero_le _⟩ ?_
  refine g_st (st' := [.int (r5)]) rfl ?_
  refine g_if_eq (pc := 8) (tgt := 18) C dX7_hold_8 (by decide) (fun c8 => ?_) (fun c8 => ?_)
  · rw [if_pos c8] at h
    refine g_iconst (pc := 18) C (v := (0 : Int32)) dX7_hold_18 (by decide) ?_
    cases h
    exact g_zret (pc := 19) (x := (0 : Int32)) C hr (by decide) dX7_hold_19
  · rw [if_neg c8] at h
    refine g_iload_n (pc := 11) C 2 dX7_hold_11 rfl rfl ?_
    obtain ⟨r12, s12, hc12, h⟩ := hv_b2_some h
    refine g_callS (pc := 12) (σ1 := s12) (v := (some (.int (r12)))) (As := [.int (p1)]) (rest := []) C (vX7_isDirection hc12) (va_cwS 1 C.1.2.2.2.2 gX7_hold_X7_isDirection rfl rfl rfl (by decide +kernel) ⟨Nat.le_of_ble_eq_true rfl, Nat.le_of_ble_eq_true rfl⟩) rfl rfl (Nat.le_of_ble_eq_true rfl) dX7_hold_12 ⟨Nat.zero_le _, Nat.zero_le _⟩ ?_
    refine g_st (st' := [.int (r12)]) rfl ?_
    refine g_if_ne (pc := 15) (tgt := 20) C dX7_hold_15 (by decide) (fun c15 => ?_) (fun c15 => ?_)
    · rw [if_neg c15] at h
      refine g_iconst (pc := 20) C (v := (2 : Int32)) dX7_hold_20 (by decide) ?_
      refine g_iload_n (pc := 21) C 1 dX7_hold_21 rfl rfl ?_
      refine g_imul (pc := 22) C dX7_hold_22 ?_
      refine g_iload_n (pc := 23) C 2 dX7_hold_23 rfl rfl ?_
      refine g_iadd (pc := 24) C dX7_hold_24 ?_
      obtain ⟨y4_25, ey4_25, h⟩ := hv_let_some h
      refine g_istore (pc := 25) C (lv' := [(4, .int (y4_25)), (0, .ref (a 0)), (1, .int (p0)), (2, .int (p1)), (3, .int (p2))]) ey4_25 dX7_hold_25 (Nat.le_of_ble_eq_true rfl) rfl ?_
      refine g_aload_n (pc := 27) C 1 dX7_hold_27 rfl rfl ?_
      refine gx_get_0_0 (pc := 28) C iX7_hold_X7 qX7_hold_F17 dX7_hold_28 ?_
      refine gx_get_1_5 (pc := 31) C iX7_hold_X3 qX7_hold_F110 dX7_hold_31 ?_
      refine g_iload (pc := 34) C 0 dX7_hold_34 rfl ?_
      obtain ⟨k36, h⟩ := hv_if_some h
      refine gx_ld_4 (pc := 36) C k36 dX7_hold_36 ?_
      refine g_iload_n (pc := 37) C 4 dX7_hold_37 rfl rfl ?_
      refine g_icmp_ne (pc := 38) (tgt := 43) C dX7_hold_38 (by decide) (fun c38 => ?_) (fun c38 => ?_)
      · rw [if_neg c38] at h
        refine g_aload_n (pc := 43) C 1 dX7_hold_43 rfl rfl ?_
        refine gx_get_0_0 (pc := 44) C iX7_hold_X7 qX7_hold_F17 dX7_hold_44 ?_
        refine gx_get_1_5 (pc := 47) C iX7_hold_X3 qX7_hold_F110 dX7_hold_47 ?_
        refine g_iload (pc := 50) C 0 dX7_hold_50 rfl ?_
        refine g_iload_n (pc := 52) C 4 dX7_hold_52 rfl rfl ?_
        obtain ⟨k53, h⟩ := hv_if_some h
        obtain ⟨z53, h⟩ := hv_if_some h
        obtain ⟨s53, es53, h⟩ := hv_let_some h
        refine gx_st_4 (pc := 53) C es53 k53 z53 dX7_hold_53 ?_
        refine g_iconst (pc := 54) C (v := (1 : Int32)) dX7_hold_54 (by decide) ?_
        cases h
        exact g_zret (pc := 55) (x := (1 : Int32)) C hr (by decide) dX7_hold_55
      · rw [if_pos c38] at h
        refine g_iconst (pc := 41) C (v := (0 : Int32)) dX7_hold_41 (by decide) ?_
        cases h
        exact g_zret (pc := 42) (x := (0 : Int32)) C hr (by decide) dX7_hold_42
    · rw [if_pos c15] at h
      refine g_iconst (pc := 18) C (v := (0 : Int32)) dX7_hold_18 (by decide) ?_
      cases h
      exact g_zret (pc := 19) (x := (0 : Int32)) C hr (by decide) dX7_hold_19
abbrev rmX7_isLoad : Room := { frames := 0, cells := 0, slots := 0, locals := 0 }
set_option maxHeartbeats 4000000 in
set_option maxRecDepth 20000 in
theorem bX7_isLoad_16 (C : hv_C p s m args meth c cX7_isLoad 1 wsX7_isLoad RX7 D (hv_tys cy)) (hr : meth.sig.returnType = (some .boolean)) {n : Nat} {o : Int32 × hv_St} : ∀ (σ : hv_St), kX7_isLoad_16 n σ = some o → hv_G p l e (headSpec wsX7_isLoad rmX7_isLoad).room s m args below meth c 1 D 55 a (hv_XE a cy) 0 0 (hv_MQ D 55 a (hv_XE a cy) below args s (some (.int o.1)) o.2) σ 16 [] [] := by
  intro σ h
  unfold kX7_isLoad_16 at h
  refine g_iconst (pc := 16) C (v := (0 : Int32)) dX7_isLoad_16 (by decide) ?_
  cases h
  exact g_zret (pc := 17) (x := (0 : Int32)) C hr (by decide) dX7_isLoad_17
set_option maxHeartbeats 4000000 in
set_option maxRecDepth 20000 in
theorem vX7_isLoad {n : Nat} {σ : hv_St} {p0 : Int32} {o : Int32 × hv_St} (h : mX7_isLoad n σ p0 = some o) : hv_M l yX7_isLoad wsX7_isLoad rmX7_isLoad D (hv_tys cy) 55 a (hv_XE a cy) [.int (p0)] σ (some (.int o.1)) o.2 := by
  refine hv_enter (own := RX7) (cc := cX7_isLoad) (maxL := 1) (ret := (some .boolean)) (by decide) rfl rfl (Nat.le_of_ble_eq_true rfl) ?_
  intro p e s m args below meth c C hr
  unfold mX7_isLoad at h
  refine g_lv [0] (lv' := [(0, .int (p0))]) rfl ?_
  refine g_iload_n (pc := 0) C 0 dX7_isLoad_0 rfl rfl ?_
  refine g_bipush (pc := 1) C (v := (-9 : Int32)) dX7_isLoad_1 (by decide) ?_
  refine g_icmp_lt (pc := 3) (tgt := 16) C dX7_isLoad_3 (by decide) (fun c3 => ?_) (fun c3 => ?_)
  · rw [if_pos c3] at h
    exact g_lv [] rfl (bX7_isLoad_16 C hr σ h)
  · rw [if_neg c3] at h
    refine g_iload_n (pc := 6) C 0 dX7_isLoad_6 rfl rfl ?_
    refine g_bipush (pc := 7) C (v := (9 : Int32)) dX7_isLoad_7 (by decide) ?_
    refine g_icmp_gt (pc := 9) (tgt := 16) C dX7_isLoad_9 (by decide) (fun c9 => ?_) (fun c9 => ?_)
    · rw [if_pos c9] at h
      exact g_lv [] rfl (bX7_isLoad_16 C hr σ h)
    · rw [if_neg c9] at h
      refine g_iconst (pc := 12) C (v := (1 : Int32)) dX7_isLoad_12 (by decide) ?_
      refine g_goto (pc := 13) C (tgt := 17) dX7_isLoad_13 (by decide) ?_
      cases h
      exact g_zret (pc := 17) (x := (1 : Int32)) C hr (by decide) dX7_isLoad_17
abbrev rmX7_load : Room := { frames := 1, cells := 0, slots := 0, locals := 21 }
set_option maxRecDepth 20000 in
theorem qX7_load_F117 : Cond.fieldLink RX7 117 "PinFrame$Frame" "loads" "[I" ∈ wsX7_load := by decide +kernel
set_option maxRecDepth 20000 in
theorem qX7_load_F17 : Cond.fieldLink RX7 17 "PinFrame" "frame" "LPinFrame$Frame;" ∈ wsX7_load := by decide +kernel
set_option maxRecDepth 20000 in
theorem iX7_load_X3 : ∀ w ∈ u_ws RX3 TX3 10, w ∈ wsX7_load := by decide +kernel
set_option maxRecDepth 20000 in
theorem iX7_load_X7 : ∀ w ∈ u_ws RX7 TX7 7, w ∈ wsX7_load := by decide +kernel
set_option maxHeartbeats 4000000 in
set_option maxRecDepth 20000 in
theorem vX7_load {n : Nat} {σ : hv_St} {p0 : Int32} {p1 : Int32} {p2 : Int32} {o : Int32 × hv_St} (h : mX7_load n σ p0 p1 p2 = some o) : hv_M l yX7_load wsX7_load rmX7_load D (hv_tys cy) 55 a (hv_XE a cy) [.ref (a 0), .int (p0), .int (p1), .int (p2)] σ (some (.int o.1)) o.2 := by
  refine hv_enter (own := RX7) (cc := cX7_load) (maxL := 4) (ret := (some .boolean)) (by decide) rfl rfl (Nat.le_of_ble_eq_true rfl) ?_
  intro p e s m args below meth c C hr
  unfold mX7_load at h
  refine g_lv [0, 1, 2, 3] (lv' := [(0, .ref (a 0)), (1, .int (p0)), (2, .int (p1)), (3, .int (p2))]) rfl ?_
  refine g_aload_n (pc := 0) C 0 dX7_load_0 rfl rfl ?_
  refine gx_get_0_0 (pc := 1) C iX7_load_X7 qX7_load_F17 dX7_load_1 ?_
  refine g_iload_n (pc := 4) C 1 dX7_load_4 rfl rfl ?_
  obtain ⟨r5, s5, hc5, h⟩ := hv_b2_some h
  refine g_callV (pc := 5) (σ1 := s5) (v := (some (.int (r5)))) (As := [.int (p0)]) (rest := []) C 1 (vX3_isPin hc5) (cwV 1 C.1.2.2.2.2 gX7_load_X3_isPin rfl rfl rfl (by decide +kernel) ⟨Nat.le_of_ble_eq_true rfl, Nat.le_of_ble_eq_true rfl⟩) (Nat.le_of_ble_eq_true rfl) rfl rfl rfl rfl (Nat.le_of_ble_eq_true rfl) dX7_load_5 ⟨Nat.zero_le _, Nat.zero_le _⟩ ?_
  refine g_st (st' := [.int (r5)]) rfl ?_
  refine g_if_eq (pc := 8) (tgt := 25) C dX7_load_8 (by decide) (fun c8 => ?_) (fun c8 => ?_)
  · rw [if_pos c8] at h
    refine g_iconst (pc := 25) C (v := (0 : Int32)) dX7_load_25 (by decide) ?_
    cases h
    exact g_zret (pc := 26) (x := (0 : Int32)) C hr (by decide) dX7_load_26
  · rw [if_neg c8] at h
    refine g_iload_n (pc := 11) C 2 dX7_load_11 rfl rfl ?_
    obtain ⟨r12, s12, hc12, h⟩ := hv_b2_some h
    refine g_callS (pc := 12) (σ1 := s12) (v := (some (.int (r12)))) (As := [.int (p1)]) (rest := []) C (vX7_isLoad hc12) (va_cwS 1 C.1.2.2.2.2 gX7_load_X7_isLoad rfl rfl rfl (by decide +kernel) ⟨Nat.le_of_ble_eq_true rfl, Nat.le_of_ble_eq_true rfl⟩) rfl rfl (Nat.le_of_ble_eq_true rfl) dX7_load_12 ⟨Nat.zero_le _, Nat.zero_le _⟩ ?_
    refine g_st (st' := [.int (r12)]) rfl ?_
    refine g_if_eq (pc := 15) (tgt := 25) C dX7_load_15 (by decide) (fun c15 => ?_) (fun c15 => ?_)
    · rw [if_pos c15] at h
      refine g_iconst (pc := 25) C (v := (0 : Int32)) dX7_load_25 (by decide) ?_
      cases h
      exact g_zret (pc := 26) (x := (0 : Int32)) C hr (by decide) dX7_load_26
    · rw [if_neg c15] at h
      refine g_iload_n (pc := 18) C 3 dX7_load_18 rfl rfl ?_
      obtain ⟨r19, s19, hc19, h⟩ := hv_b2_some h
      refine g_callS (pc := 19) (σ1 := s19) (v := (some (.int (r19)))) (As := [.int (p2)]) (rest := []) C (vX7_isLoad hc19) (va_cwS 1 C.1.2.2.2.2 gX7_load_X7_isLoad rfl rfl rfl (by decide +kernel) ⟨Nat.le_of_ble_eq_true rfl, Nat.le_of_ble_eq_true rfl⟩) rfl rfl (Nat.le_of_ble_eq_true rfl) dX7_load_19 ⟨Nat.zero_le _, Nat.zero_le _⟩ ?_
      refine g_st (st' := [.int (r19)]) rfl ?_
      refine g_if_ne (pc := 22) (tgt := 27) C dX7_load_22 (by decide) (fun c22 => ?_) (fun c22 => ?_)
      · rw [if_neg c22] at h
        refine g_aload_n (pc := 27) C 0 dX7_load_27 rfl rfl ?_
        refine gx_get_0_0 (pc := 28) C iX7_load_X7 qX7_load_F17 dX7_load_28 ?_
        refine gx_get_1_4 (pc := 31) C iX7_load_X3 qX7_load_F117 dX7_load_31 ?_
        refine g_iconst (pc := 34) C (v := (2 : Int32)) dX7_load_34 (by decide) ?_
        refine g_iload_n (pc := 35) C 1 dX7_load_35 rfl rfl ?_
        refine g_imul (pc := 36) C dX7_load_36 ?_
        refine g_iload_n (pc := 37) C 2 dX7_load_37 rfl rfl ?_
        obtain ⟨k38, h⟩ := hv_if_some h
        obtain ⟨s38, es38, h⟩ := hv_let_some h
        refine gx_st_3 (pc := 38) C es38 k38 dX7_load_38 ?_
        refine g_aload_n (pc := 39) C 0 dX7_load_39 rfl rfl ?_
        refine gx_get_0_0 (pc := 40) C iX7_load_X7 qX7_load_F17 dX7_load_40 ?_
        refine gx_get_1_4 (pc := 43) C iX7_load_X3 qX7_load_F117 dX7_load_43 ?_
        refine g_iconst (pc := 46) C (v := (2 : Int32)) dX7_load_46 (by decide) ?_
        refine g_iload_n (pc := 47) C 1 dX7_load_47 rfl rfl ?_
        refine g_imul (pc := 48) C dX7_load_48 ?_
        refine g_iconst (pc := 49) C (v := (1 : Int32)) dX7_load_49 (by decide) ?_
        refine g_iadd (pc := 50) C dX7_load_50 ?_
        refine g_iload_n (pc := 51) C 3 dX7_load_51 rfl rfl ?_
        obtain ⟨k52, h⟩ := hv_if_some h
        obtain ⟨s52, es52, h⟩ := hv_let_some h
        refine gx_st_3 (pc := 52) C es52 k52 dX7_load_52 ?_
        refine g_iconst (pc := 53) C (v := (1 : Int32)) dX7_load_53 (by decide) ?_
        cases h
        exact g_zret (pc := 54) (x := (1 : Int32)) C hr (by decide) dX7_load_54
      · rw [if_pos c22] at h
        refine g_iconst (pc := 25) C (v := (0 : Int32)) dX7_load_25 (by decide) ?_
        cases h
        exact g_zret (pc := 26) (x := (0 : Int32)) C hr (by decide) dX7_load_26
abbrev rmX7_unload : Room := { frames := 0, cells := 0, slots := 0, locals := 0 }
set_option maxRecDepth 20000 in
theorem qX7_unload_F117 : Cond.fieldLink RX7 117 "PinFrame$Frame" "loads" "[I" ∈ wsX7_unload := by decide +kernel
set_option maxRecDepth 20000 in
theorem qX7_unload_F17 : Cond.fieldLink RX7 17 "PinFrame" "frame" "LPinFrame$Frame;" ∈ wsX7_unload := by decide +kernel
set_option maxRecDepth 20000 in
theorem iX7_unload_X3 : ∀ w ∈ u_ws RX3 TX3 10, w ∈ wsX7_unload := by decide +kernel
set_option maxRecDepth 20000 in
theorem iX7_unload_X7 : ∀ w ∈ u_ws RX7 TX7 7, w ∈ wsX7_unload := by decide +kernel
set_option maxHeartbeats 4000000 in
set_option maxRecDepth 20000 in
theorem bX7_unload_35 (C : hv_C p s m args meth c cX7_unload 3 wsX7_unload RX7 D (hv_tys cy)) (hr : meth.sig.returnType = (some .int)) {n : Nat} {o : Int32 × hv_St} {r4 : hv_St → Int32 → Int32 → Option (Int32 × hv_St)} (hr4 : ∀ (σ : hv_St) (x1 : Int32) (x2 : Int32), r4 σ x1 x2 = some o → hv_G p l e (headSpec wsX7_unload rmX7_unload).room s m args below meth c 3 D 55 a (hv_XE a cy) 0 0 (hv_MQ D 55 a (hv_XE a cy) below args s (some (.int o.1)) o.2) σ 4 [(0, .ref (a 0)), (1, .int (x1)), (2, .int (x2))] []) : ∀ (σ : hv_St) (x1 : Int32) (x2 : Int32), kX7_unload_35 n r4 σ x1 x2 = some o → hv_G p l e (headSpec wsX7_unload rmX7_unload).room s m args below meth c 3 D 55 a (hv_XE a cy) 0 0 (hv_MQ D 55 a (hv_XE a cy) below args s (some (.int o.1)) o.2) σ 35 [(0, .ref (a 0)), (1, .int (x1)), (2, .int (x2))] [] := by
  intro σ x1 x2 h
  unfold kX7_unload_35 at h
  refine g_iinc (pc := 35) C 2 (v := x2 + 1) (lv' := [(2, .int (x2 + 1)), (0, .ref (a 0)), (1, .int (x1))]) dX7_unload_35 rfl rfl (Nat.le_of_ble_eq_true rfl) rfl ?_
  refine g_goto (pc := 38) C (tgt := 4) dX7_unload_38 (by decide) ?_
  exact g_lv [1, 2, 0] rfl (hr4 σ (x1) (x2 + 1) h)
set_option maxHeartbeats 4000000 in
set_option maxRecDepth 20000 in
theorem bX7_unload_4 (C : hv_C p s m args meth c cX7_unload 3 wsX7_unload RX7 D (hv_tys cy)) (hr : meth.sig.returnType = (some .int)) {n : Nat} {o : Int32 × hv_St} : ∀ (i : Nat) (σ : hv_St) (x1 : Int32) (x2 : Int32), kX7_unload_4 n i σ x1 x2 = some o → hv_G p l e (headSpec wsX7_unload rmX7_unload).room s m args below meth c 3 D 55 a (hv_XE a cy) 0 0 (hv_MQ D 55 a (hv_XE a cy) below args s (some (.int o.1)) o.2) σ 4 [(0, .ref (a 0)), (1, .int (x1)), (2, .int (x2))] [] := by
  intro i
  induction i with
  | zero =>
    intro σ x1 x2 h
    cases h
  | succ i ih =>
    intro σ x1 x2 h
    generalize hg : kX7_unload_4 n i = r4 at ih
    have hr4 := ih
    replace h : kX7_unload_4_b n r4 σ x1 x2 = some o := by rw [← hg]; exact h
    unfold kX7_unload_4_b at h
    refine g_iload_n (pc := 4) C 2 dX7_unload_4 rfl rfl ?_
    refine g_bipush (pc := 5) C (v := (12 : Int32)) dX7_unload_5 (by decide) ?_
    refine g_icmp_ge (pc := 7) (tgt := 41) C dX7_unload_7 (by decide) (fun c7 => ?_) (fun c7 => ?_)
    · rw [if_pos c7] at h
      refine g_iload_n (pc := 41) C 1 dX7_unload_41 rfl rfl ?_
      cases h
      exact g_iret (pc := 42) C hr dX7_unload_42
    · rw [if_neg c7] at h
      refine g_aload_n (pc := 10) C 0 dX7_unload_10 rfl rfl ?_
      refine gx_get_0_0 (pc := 11) C iX7_unload_X7 qX7_unload_F17 dX7_unload_11 ?_
      refine gx_get_1_4 (pc := 14) C iX7_unload_X3 qX7_unload_F117 dX7_unload_14 ?_
      refine g_iload_n (pc := 17) C 2 dX7_unload_17 rfl rfl ?_
      obtain ⟨k18, h⟩ := hv_if_some h
      refine gx_ld_3 (pc := 18) C k18 dX7_unload_18 ?_
      refine g_if_eq (pc := 19) (tgt := 35) C dX7_unload_19 (by decide) (fun c19 => ?_) (fun c19 => ?_)
      · rw [if_pos c19] at h
        exact g_lv [0, 1, 2] rfl (bX7_unload_35 C hr hr4 σ (x1) (x2) h)
      · rw [if_neg c19] at h
        refine g_aload_n (pc := 22) C 0 dX7_unload_22 rfl rfl ?_
        refine gx_get_0_0 (pc := 23) C iX7_unload_X7 qX7_unload_F17 dX7_unload_23 ?_
        refine gx_get_1_4 (pc := 26) C iX7_unload_X3 qX7_unload_F117 dX7_unload_26 ?_
        refine g_iload_n (pc := 29) C 2 dX7_unload_29 rfl rfl ?_
        refine g_iconst (pc := 30) C (v := (0 : Int32)) dX7_unload_30 (by decide) ?_
        obtain ⟨k31, h⟩ := hv_if_some h
        obtain ⟨s31, es31, h⟩ := hv_let_some h
        refine gx_st_3 (pc := 31) C es31 k31 dX7_unload_31 ?_
        refine g_iinc (pc := 32) C 1 (v := x1 + 1) (lv' := [(1, .int (x1 + 1)), (0, .ref (a 0)), (2, .int (x2))]) dX7_unload_32 rfl rfl (Nat.le_of_ble_eq_true rfl) rfl ?_
        exact g_lv [1, 0, 2] rfl (bX7_unload_35 C hr hr4 s31 (x1 + 1) (x2) h)
set_option maxHeartbeats 4000000 in
set_option maxRecDepth 20000 in
theorem vX7_unload {n : Nat} {σ : hv_St} {o : Int32 × hv_St} (h : mX7_unload n σ = some o) : hv_M l yX7_unload wsX7_unload rmX7_unload D (hv_tys cy) 55 a (hv_XE a cy) [.ref (a 0)] σ (some (.int o.1)) o.2 := by
  refine hv_enter (own := RX7) (cc := cX7_unload) (maxL := 3) (ret := (some .int)) (by decide) rfl rfl (Nat.le_of_ble_eq_true rfl) ?_
  intro p e s m args below meth c C hr
  unfold mX7_unload at h
  refine g_lv [0] (lv' := [(0, .ref (a 0))]) rfl ?_
  refine g_iconst (pc := 0) C (v := (0 : Int32)) dX7_unload_0 (by decide) ?_
  refine g_istore_n (pc := 1) C (lv' := [(1, .int ((0 : Int32))), (0, .ref (a 0))]) rfl dX7_unload_1 rfl (Nat.le_of_ble_eq_true rfl) rfl ?_
  refine g_iconst (pc := 2) C (v := (0 : Int32)) dX7_unload_2 (by decide) ?_
  refine g_istore_n (pc := 3) C (lv' := [(2, .int ((0 : Int32))), (1, .int ((0 : Int32))), (0, .ref (a 0))]) rfl dX7_unload_3 rfl (Nat.le_of_ble_eq_true rfl) rfl ?_
  exact g_lv [2, 1, 0] rfl (bX7_unload_4 C hr n σ ((0 : Int32)) ((0 : Int32)) h)
abbrev rmX7_deck : Room := { frames := 1, cells := 0, slots := 0, locals := 22 }
set_option maxRecDepth 20000 in
theorem qX7_deck_F17 : Cond.fieldLink RX7 17 "PinFrame" "frame" "LPinFrame$Frame;" ∈ wsX7_deck := by decide +kernel
set_option maxRecDepth 20000 in
theorem qX7_deck_F51 : Cond.fieldLink RX7 51 "PinFrame" "ride" "LPinFrame$Ride;" ∈ wsX7_deck := by decide +kernel
set_option maxRecDepth 20000 in
theorem iX7_deck_X7 : ∀ w ∈ u_ws RX7 TX7 7, w ∈ wsX7_deck := by decide +kernel
set_option maxHeartbeats 4000000 in
set_option maxRecDepth 20000 in
theorem vX7_deck {n : Nat} {σ : hv_St} {p0 : Int32} {o : Int32 × hv_St} (h : mX7_deck n σ p0 = some o) : hv_M l yX7_deck wsX7_deck rmX7_deck D (hv_tys cy) 55 a (hv_XE a cy) [.ref (a 0), .int (p0)] σ (some (.int o.1)) o.2 := by
  refine hv_enter (own := RX7) (cc := cX7_deck) (maxL := 2) (ret := (some .int)) (by decide) rfl rfl (Nat.le_of_ble_eq_true rfl) ?_
  intro p e s m args below meth c C hr
  unfold mX7_deck at h
  refine g_lv [0, 1] (lv' := [(0, .ref (a 0)), (1, .int (p0))]) rfl ?_
  refine g_aload_n (pc := 0) C 0 dX7_deck_0 rfl rfl ?_
  refine gx_get_0_0 (pc := 1) C iX7_deck_X7 qX7_deck_F17 dX7_deck_1 ?_
  refine g_iload_n (pc := 4) C 1 dX7_deck_4 rfl rfl ?_
  obtain ⟨r5, s5, hc5, h⟩ := hv_b2_some h
  refine g_callV (pc := 5) (σ1 := s5) (v := (some (.int (r5)))) (As := [.int (p0)]) (rest := []) C 1 (vX3_isPin hc5) (cwV 1 C.1.2.2.2.2 gX7_deck_X3_isPin rfl rfl rfl (by decide +kernel) ⟨Nat.le_of_ble_eq_true rfl, Nat.le_of_ble_eq_true rfl⟩) (Nat.le_of_ble_eq_true rfl) rfl rfl rfl rfl (Nat.le_of_ble_eq_true rfl) dX7_deck_5 ⟨Nat.zero_le _, Nat.zero_le _⟩ ?_
  refine g_st (st' := [.int (r5)]) rfl ?_
  refine g_if_eq (pc := 8) (tgt := 22) C dX7_deck_8 (by decide) (fun c8 => ?_) (fun c8 => ?_)
  · rw [if_pos c8] at h
    refine g_iconst (pc := 22) C (v := (-1 : Int32)) dX7_deck_22 (by decide) ?_
    cases h
    exact g_iret (pc := 23) C hr dX7_deck_23
  · rw [if_neg c8] at h
    refine g_aload_n (pc := 11) C 0 dX7_deck_11 rfl rfl ?_
    refine gx_get_0_5 (pc := 12) C iX7_deck_X7 qX7_deck_F51 dX7_deck_12 ?_
    refine g_iload_n (pc := 15) C 1 dX7_deck_15 rfl rfl ?_
    obtain ⟨r16, s16, hc16, h⟩ := hv_b2_some h
    refine g_callV (pc := 16) (σ1 := s16) (v := (some (.int (r16)))) (As := [.int (p0)]) (rest := []) C 22 (vX6_addPin hc16) (cwV 1 C.1.2.2.2.2 gX7_deck_X6_addPin rfl rfl rfl (by decide +kernel) ⟨Nat.le_of_ble_eq_true rfl, Nat.le_of_ble_eq_true rfl⟩) (Nat.le_of_ble_eq_true rfl) rfl rfl rfl rfl (Nat.le_of_ble_eq_true rfl) dX7_deck_16 ⟨Nat.zero_le _, Nat.zero_le _⟩ ?_
    refine g_st (st' := [.int (r16)]) rfl ?_
    refine g_goto (pc := 19) C (tgt := 23) dX7_deck_19 (by decide) ?_
    cases h
    exact g_iret (pc := 23) C hr dX7_deck_23
abbrev rmX7_strip : Room := { frames := 0, cells := 0, slots := 0, locals := 0 }
set_option maxRecDepth 20000 in
theorem qX7_strip_F124 : Cond.fieldLink RX7 124 "PinFrame$Ride" "pins" "I" ∈ wsX7_strip := by decide +kernel
set_option maxRecDepth 20000 in
theorem qX7_strip_F51 : Cond.fieldLink RX7 51 "PinFrame" "ride" "LPinFrame$Ride;" ∈ wsX7_strip := by decide +kernel
set_option maxRecDepth 20000 in
theorem iX7_strip_X6 : ∀ w ∈ u_ws RX6 TX6 5, w ∈ wsX7_strip := by decide +kernel
set_option maxRecDepth 20000 in
theorem iX7_strip_X7 : ∀ w ∈ u_ws RX7 TX7 7, w ∈ wsX7_strip := by decide +kernel
set_option maxHeartbeats 4000000 in
set_option maxRecDepth 20000 in
theorem vX7_strip {n : Nat} {σ : hv_St} {o : Int32 × hv_St} (h : mX7_strip n σ = some o) : hv_M l yX7_strip wsX7_strip rmX7_strip D (hv_tys cy) 55 a (hv_XE a cy) [.ref (a 0)] σ (some (.int o.1)) o.2 := by
  refine hv_enter (own := RX7) (cc := cX7_strip) (maxL := 2) (ret := (some .int)) (by decide) rfl rfl (Nat.le_of_ble_eq_true rfl) ?_
  intro p e s m args below meth c C hr
  unfold mX7_strip at h
  refine g_lv [0] (lv' := [(0, .ref (a 0))]) rfl ?_
  refine g_aload_n (pc := 0) C 0 dX7_strip_0 rfl rfl ?_
  refine gx_get_0_5 (pc := 1) C iX7_strip_X7 qX7_strip_F51 dX7_strip_1 ?_
  refine gx_get_22_0 (pc := 4) C iX7_strip_X6 qX7_strip_F124 dX7_strip_4 ?_
  obtain ⟨y1_7, ey1_7, h⟩ := hv_let_some h
  refine g_istore_n (pc := 7) C (lv' := [(1, .int (y1_7)), (0, .ref (a 0))]) ey1_7 dX7_strip_7 rfl (Nat.le_of_ble_eq_true rfl) rfl ?_
  refine g_aload_n (pc := 8) C 1 dX7_strip_8 rfl rfl ?_
  refine gx_get_0_5 (pc := 9) C iX7_strip_X7 qX7_strip_F51 dX7_strip_9 ?_
  refine g_iconst (pc := 12) C (v := (0 : Int32)) dX7_strip_12 (by decide) ?_
  obtain ⟨s13, es13, h⟩ := hv_let_some h
  refine gx_put_22_0 (pc := 13) C es13 iX7_strip_X6 qX7_strip_F124 dX7_strip_13 ?_
  refine g_iload_n (pc := 16) C 0 dX7_strip_16 rfl rfl ?_
  cases h
  exact g_iret (pc := 17) C hr dX7_strip_17
abbrev rmX7_train : Room := { frames := 2, cells := 0, slots := 0, locals := 47 }
set_option maxRecDepth 20000 in
theorem qX7_train_F51 : Cond.fieldLink RX7 51 "PinFrame" "ride" "LPinFrame$Ride;" ∈ wsX7_train := by decide +kernel
set_option maxRecDepth 20000 in
theorem iX7_train_X7 : ∀ w ∈ u_ws RX7 TX7 7, w ∈ wsX7_train := by decide +kernel
set_option maxHeartbeats 4000000 in
set_option maxRecDepth 20000 in
theorem vX7_train {n : Nat} {σ : hv_St} {p0 : Int32} {o : Int32 × hv_St} (h : mX7_train n σ p0 = some o) : hv_M l yX7_train wsX7_train rmX7_train D (hv_tys cy) 55 a (hv_XE a cy) [.ref (a 0), .int (p0)] σ (some (.int o.1)) o.2 := by
  refine hv_enter (own := RX7) (cc := cX7_train) (maxL := 2) (ret := (some .int)) (by decide) rfl rfl (Nat.le_of_ble_eq_true rfl) ?_
  intro p e s m args below meth c C hr
  unfold mX7_train at h
  refine g_lv [0, 1] (lv' := [(0, .ref (a 0)), (1, .int (p0))]) rfl ?_
  refine g_aload_n (pc := 0) C 0 dX7_train_0 rfl rfl ?_
  refine gx_get_0_5 (pc := 1) C iX7_train_X7 qX7_train_F51 dX7_train_1 ?_
  refine g_iload_n (pc := 4) C 1 dX7_train_4 rfl rfl ?_
  obtain ⟨r5, s5, hc5, h⟩ := hv_b2_some h
  refine g_callV (pc := 5) (σ1 := s5) (v := (some (.int (r5)))) (As := [.int (p0)]) (rest := []) C 22 (vX6_takeWeights hc5) (cwV 1 C.1.2.2.2.2 gX7_train_X6_takeWeights rfl rfl rfl (by decide +kernel) ⟨Nat.le_of_ble_eq_true rfl, Nat.le_of_ble_eq_true rfl⟩) (Nat.le_of_ble_eq_true rfl) rfl rfl rfl rfl (Nat.le_of_ble_eq_true rfl) dX7_train_5 ⟨Nat.zero_le _, Nat.zero_le _⟩ ?_
  refine g_st (st' := [.int (r5)]) rfl ?_
  cases h
  exact g_iret (pc := 8) C hr dX7_train_8
abbrev rmX7_countOfBalance : Room := { frames := 5, cells := 0, slots := 0, locals := 119 }
set_option maxRecDepth 20000 in
theorem qX7_countOfBalance_F17 : Cond.fieldLink RX7 17 "PinFrame" "frame" "LPinFrame$Frame;" ∈ wsX7_countOfBalance := by decide +kernel
set_option maxRecDepth 20000 in
theorem qX7_countOfBalance_F21 : Cond.fieldLink RX7 21 "PinFrame" "balance" "LPinFrame$Balance;" ∈ wsX7_countOfBalance := by decide +kernel
set_option maxRecDepth 20000 in
theorem qX7_countOfBalance_F263 : Cond.fieldLink RX7 263 "PinFrame$Balance" "base" "I" ∈ wsX7_countOfBalance := by decide +kernel
set_option maxRecDepth 20000 in
theorem qX7_countOfBalance_F274 : Cond.fieldLink RX7 274 "PinFrame$Balance" "free" "I" ∈ wsX7_countOfBalance := by decide +kernel
set_option maxRecDepth 20000 in
theorem qX7_countOfBalance_F277 : Cond.fieldLink RX7 277 "PinFrame$Balance" "spare" "I" ∈ wsX7_countOfBalance := by decide +kernel
set_option maxRecDepth 20000 in
theorem qX7_countOfBalance_F280 : Cond.fieldLink RX7 280 "PinFrame$Balance" "rank" "I" ∈ wsX7_countOfBalance := by decide +kernel
set_option maxRecDepth 20000 in
theorem qX7_countOfBalance_F97 : Cond.fieldLink RX7 97 "PinFrame$Frame" "on" "I" ∈ wsX7_countOfBalance := by decide +kernel
set_option maxRecDepth 20000 in
theorem iX7_countOfBalance_X0 : ∀ w ∈ u_ws RX0 TX0 9, w ∈ wsX7_countOfBalance := by decide +kernel
set_option maxRecDepth 20000 in
theorem iX7_countOfBalance_X3 : ∀ w ∈ u_ws RX3 TX3 10, w ∈ wsX7_countOfBalance := by decide +kernel
set_option maxRecDepth 20000 in
theorem iX7_countOfBalance_X7 : ∀ w ∈ u_ws RX7 TX7 7, w ∈ wsX7_countOfBalance := by decide +kernel
set_option maxHeartbeats 4000000 in
set_option maxRecDepth 20000 in
theorem vX7_countOfBalance {n : Nat} {σ : hv_St} {p0 : Int32} {o : Int32 × hv_St} (h : mX7_countOfBalance n σ p0 = some o) : hv_M l yX7_countOfBalance wsX7_countOfBalance rmX7_countOfBalance D (hv_tys cy) 55 a (hv_XE a cy) [.ref (a 0), .int (p0)] σ (some (.int o.1)) o.2 := by
  refine hv_enter (own := RX7) (cc := cX7_countOfBalance) (maxL := 2) (ret := (some .int)) (by decide) rfl rfl (Nat.le_of_ble_eq_true rfl) ?_
  intro p e s m args below meth c C hr
  unfold mX7_countOfBalance at h
  refine g_lv [0, 1] (lv' := [(0, .ref (a 0)), (1, .int (p0))]) rfl ?_
  refine g_aload_n (pc := 0) C 0 dX7_countOfBalance_0 rfl rfl ?_
  refine gx_get_0_1 (pc := 1) C iX7_countOfBalance_X7 qX7_countOfBalance_F21 dX7_countOfBalance_1 ?_
  refine g_aload_n (pc := 4) C 0 dX7_countOfBalance_4 rfl rfl ?_
  refine gx_get_0_0 (pc := 5) C iX7_countOfBalance_X7 qX7_countOfBalance_F17 dX7_countOfBalance_5 ?_
  refine gx_get_1_2 (pc := 8) C iX7_countOfBalance_X3 qX7_countOfBalance_F97 dX7_countOfBalance_8 ?_
  obtain ⟨s11, hc11, h⟩ := hv_bd_some h
  refine g_callV (pc := 11) (σ1 := s11) (v := none) (As := [.int (σ.1 1 2)]) (rest := []) C 9 (vX0_settle hc11) (cwV 1 C.1.2.2.2.2 gX7_countOfBalance_X0_settle rfl rfl rfl (by decide +kernel) ⟨Nat.le_of_ble_eq_true rfl, Nat.le_of_ble_eq_true rfl⟩) (Nat.le_of_ble_eq_true rfl) rfl rfl rfl rfl (Nat.le_of_ble_eq_true rfl) dX7_countOfBalance_11 ⟨Nat.zero_le _, Nat.zero_le _⟩ ?_
  refine g_st (st' := []) rfl ?_
  refine g_iload_n (pc := 14) C 1 dX7_countOfBalance_14 rfl rfl ?_
  by_cases c15_3 : p0 = (3 : Int32)
  · rw [if_pos c15_3] at h
    refine g_tableIn (pc := 15) (tgt := 48) C dX7_countOfBalance_15 (by rw [c15_3] <;> decide) (by rw [c15_3] <;> decide) (by rw [c15_3] <;> rfl) (by decide) ?_
    refine g_aload_n (pc := 48) C 0 dX7_countOfBalance_48 rfl rfl ?_
    refine gx_get_0_1 (pc := 49) C iX7_countOfBalance_X7 qX7_countOfBalance_F21 dX7_countOfBalance_49 ?_
    refine gx_get_9_4 (pc := 52) C iX7_countOfBalance_X0 qX7_countOfBalance_F274 dX7_countOfBalance_52 ?_
    cases h
    exact g_iret (pc := 55) C hr dX7_countOfBalance_55
  · rw [if_neg c15_3] at h
    by_cases c15_4 : p0 = (4 : Int32)
    · rw [if_pos c15_4] at h
      refine g_tableIn (pc := 15) (tgt := 56) C dX7_countOfBalance_15 (by rw [c15_4] <;> decide) (by rw [c15_4] <;> decide) (by rw [c15_4] <;> rfl) (by decide) ?_
      refine g_aload_n (pc := 56) C 0 dX7_countOfBalance_56 rfl rfl ?_
      refine gx_get_0_1 (pc := 57) C iX7_countOfBalance_X7 qX7_countOfBalance_F21 dX7_countOfBalance_57 ?_
      obtain ⟨r60, s60, hc60, h⟩ := hv_b2_some h
      refine g_callV (pc := 60) (σ1 := s60) (v := (some (.int (r60)))) (As := []) (rest := []) C 9 (vX0_kindNumber hc60) (cwV 0 C.1.2.2.2.2 gX7_countOfBalance_X0_kindNumber rfl rfl rfl (by decide +kernel) ⟨Nat.le_of_ble_eq_true rfl, Nat.le_of_ble_eq_true rfl⟩) (Nat.le_of_ble_eq_true rfl) rfl rfl rfl rfl (Nat.le_of_ble_eq_true rfl) dX7_countOfBalance_60 ⟨Nat.zero_le _, Nat.zero_le _⟩ ?_
      refine g_st (st' := [.int (r60)]) rfl ?_
      cases h
      exact g_iret (pc := 63) C hr dX7_countOfBalance_63
    · rw [if_neg c15_4] at h
      by_cases c15_5 : p0 = (5 : Int32)
      · rw [if_pos c15_5] at h
        refine g_tableIn (pc := 15) (tgt := 64) C dX7_countOfBalance_15 (by rw [c15_5] <;> decide) (by rw [c15_5] <;> decide) (by rw [c15_5] <;> rfl) (by decide) ?_
        refine g_aload_n (pc := 64) C 0 dX7_countOfBalance_64 rfl rfl ?_
        refine gx_get_0_1 (pc := 65) C iX7_countOfBalance_X7 qX7_countOfBalance_F21 dX7_countOfBalance_65 ?_
        refine gx_get_9_6 (pc := 68) C iX7_countOfBalance_X0 qX7_countOfBalance_F263 dX7_countOfBalance_68 ?_
        cases h
        exact g_iret (pc := 71) C hr dX7_countOfBalance_71
      · rw [if_neg c15_5] at h
        by_cases c15_6 : p0 = (6 : Int32)
        · rw [if_pos c15_6] at h
          refine g_tableIn (pc := 15) (tgt := 72) C dX7_countOfBalance_15 (by rw [c15_6] <;> decide) (by rw [c15_6] <;> decide) (by rw [c15_6] <;> rfl) (by decide) ?_
          refine g_aload_n (pc := 72) C 0 dX7_countOfBalance_72 rfl rfl ?_
          refine gx_get_0_1 (pc := 73) C iX7_countOfBalance_X7 qX7_countOfBalance_F21 dX7_countOfBalance_73 ?_
          refine gx_get_9_7 (pc := 76) C iX7_countOfBalance_X0 qX7_countOfBalance_F277 dX7_countOfBalance_76 ?_
          cases h
          exact g_iret (pc := 79) C hr dX7_countOfBalance_79
        · rw [if_neg c15_6] at h
          by_cases c15_7 : p0 = (7 : Int32)
          · rw [if_pos c15_7] at h
            refine g_tableIn (pc := 15) (tgt := 80) C dX7_countOfBalance_15 (by rw [c15_7] <;> decide) (by rw [c15_7] <;> decide) (by rw [c15_7] <;> rfl) (by decide) ?_
            refine g_aload_n (pc := 80) C 0 dX7_countOfBalance_80 rfl rfl ?_
            refine gx_get_0_1 (pc := 81) C iX7_countOfBalance_X7 qX7_countOfBalance_F21 dX7_countOfBalance_81 ?_
            refine gx_get_9_4 (pc := 84) C iX7_countOfBalance_X0 qX7_countOfBalance_F274 dX7_countOfBalance_84 ?_
            refine g_aload_n (pc := 87) C 0 dX7_countOfBalance_87 rfl rfl ?_
            refine gx_get_0_1 (pc := 88) C iX7_countOfBalance_X7 qX7_countOfBalance_F21 dX7_countOfBalance_88 ?_
            refine gx_get_9_5 (pc := 91) C iX7_countOfBalance_X0 qX7_countOfBalance_F280 dX7_countOfBalance_91 ?_
            refine g_isub (pc := 94) C dX7_countOfBalance_94 ?_
            cases h
            exact g_iret (pc := 95) C hr dX7_countOfBalance_95
          · rw [if_neg c15_7] at h
            have nc15_3 := lv_neT c15_3 (a := 3) (by decide)
            have nc15_4 := lv_neT c15_4 (a := 4) (by decide)
            have nc15_5 := lv_neT c15_5 (a := 5) (by decide)
            have nc15_6 := lv_neT c15_6 (a := 6) (by decide)
            have nc15_7 := lv_neT c15_7 (a := 7) (by decide)
            refine g_tableOut (pc := 15) (tgt := 96) C dX7_countOfBalance_15 (by omega) (by decide) ?_
            refine g_iconst (pc := 96) C (v := (-1 : Int32)) dX7_countOfBalance_96 (by decide) ?_
            cases h
            exact g_iret (pc := 97) C hr dX7_countOfBalance_97
abbrev rmX7_count : Room := { frames := 6, cells := 0, slots := 0, locals := 144 }
set_option maxRecDepth 20000 in
theorem qX7_count_F124 : Cond.fieldLink RX7 124 "PinFrame$Ride" "pins" "I" ∈ wsX7_count := by decide +kernel
set_option maxRecDepth 20000 in
theorem qX7_count_F128 : Cond.fieldLink RX7 128 "PinFrame$Ride" "weights" "I" ∈ wsX7_count := by decide +kernel
set_option maxRecDepth 20000 in
theorem qX7_count_F134 : Cond.fieldLink RX7 134 "PinFrame$Joints" "known" "I" ∈ wsX7_count := by decide +kernel
set_option maxRecDepth 20000 in
theorem qX7_count_F17 : Cond.fieldLink RX7 17 "PinFrame" "frame" "LPinFrame$Frame;" ∈ wsX7_count := by decide +kernel
set_option maxRecDepth 20000 in
theorem qX7_count_F37 : Cond.fieldLink RX7 37 "PinFrame" "joints" "LPinFrame$Joints;" ∈ wsX7_count := by decide +kernel
set_option maxRecDepth 20000 in
theorem qX7_count_F51 : Cond.fieldLink RX7 51 "PinFrame" "ride" "LPinFrame$Ride;" ∈ wsX7_count := by decide +kernel
set_option maxRecDepth 20000 in
theorem qX7_count_F62 : Cond.fieldLink RX7 62 "PinFrame$Frame" "pins" "I" ∈ wsX7_count := by decide +kernel
set_option maxRecDepth 20000 in
theorem qX7_count_F78 : Cond.fieldLink RX7 78 "PinFrame$Frame" "bars" "I" ∈ wsX7_count := by decide +kernel
set_option maxRecDepth 20000 in
theorem qX7_count_F97 : Cond.fieldLink RX7 97 "PinFrame$Frame" "on" "I" ∈ wsX7_count := by decide +kernel
set_option maxRecDepth 20000 in
theorem iX7_count_X3 : ∀ w ∈ u_ws RX3 TX3 10, w ∈ wsX7_count := by decide +kernel
set_option maxRecDepth 20000 in
theorem iX7_count_X4 : ∀ w ∈ u_ws RX4 TX4 4, w ∈ wsX7_count := by decide +kernel
set_option maxRecDepth 20000 in
theorem iX7_count_X6 : ∀ w ∈ u_ws RX6 TX6 5, w ∈ wsX7_count := by decide +kernel
set_option maxRecDepth 20000 in
theorem iX7_count_X7 : ∀ w ∈ u_ws RX7 TX7 7, w ∈ wsX7_count := by decide +kernel
set_option maxHeartbeats 4000000 in
set_option maxRecDepth 20000 in
theorem bX7_count_115 (C : hv_C p s m args meth c cX7_count 2 wsX7_count RX7 D (hv_tys cy)) (hr : meth.sig.returnType = (some .int)) {n : Nat} {o : Int32 × hv_St} : ∀ (σ : hv_St) (x1 : Int32), kX7_count_115 n σ x1 = some o → hv_G p l e (headSpec wsX7_count rmX7_count).room s m args below meth c 2 D 55 a (hv_XE a cy) 0 0 (hv_MQ D 55 a (hv_XE a cy) below args s (some (.int o.1)) o.2) σ 115 [(0, .ref (a 0)), (1, .int (x1))] [] := by
  intro σ x1 h
  unfold kX7_count_115 at h
  refine g_aload_n (pc := 115) C 0 dX7_count_115 rfl rfl ?_
  refine g_iload_n (pc := 116) C 1 dX7_count_116 rfl rfl ?_
  obtain ⟨r117, s117, hc117, h⟩ := hv_b2_some h
  refine g_callV (pc := 117) (σ1 := s117) (v := (some (.int (r117)))) (As := [.int (x1)]) (rest := []) C 0 (vX7_countOfBalance hc117) (cwV 1 C.1.2.2.2.2 gX7_count_X7_countOfBalance rfl rfl rfl (by decide +kernel) ⟨Nat.le_of_ble_eq_true rfl, Nat.le_of_ble_eq_true rfl⟩) (Nat.le_of_ble_eq_true rfl) rfl rfl rfl rfl (Nat.le_of_ble_eq_true rfl) dX7_count_117 ⟨Nat.zero_le _, Nat.zero_le _⟩ ?_
  refine g_st (st' := [.int (r117)]) rfl ?_
  cases h
  exact g_iret (pc := 120) C hr dX7_count_120
set_option maxHeartbeats 4000000 in
set_option maxRecDepth 20000 in
theorem vX7_count {n : Nat} {σ : hv_St} {p0 : Int32} {o : Int32 × hv_St} (h : mX7_count n σ p0 = some o) : hv_M l yX7_count wsX7_count rmX7_count D (hv_tys cy) 55 a (hv_XE a cy) [.ref (a 0), .int (p0)] σ (some (.int o.1)) o.2 := by
  refine hv_enter (own := RX7) (cc := cX7_count) (maxL := 2) (ret := (some .int)) (by decide) rfl rfl (Nat.le_of_ble_eq_true rfl) ?_
  intro p e s m args below meth c C hr
  unfold mX7_count at h
  refine g_lv [0, 1] (lv' := [(0, .ref (a 0)), (1, .int (p0))]) rfl ?_
  refine g_iload_n (pc := 0) C 1 dX7_count_0 rfl rfl ?_
  by_cases c1_0 : p0 = (0 : Int32)
  · rw [if_pos c1_0] at h
    refine g_tableIn (pc := 1) (tgt := 60) C dX7_count_1 (by rw [c1_0] <;> decide) (by rw [c1_0] <;> decide) (by rw [c1_0] <;> rfl) (by decide) ?_
    refine g_aload_n (pc := 60) C 0 dX7_count_60 rfl rfl ?_
    refine gx_get_0_0 (pc := 61) C iX7_count_X7 qX7_count_F17 dX7_count_61 ?_
    refine gx_get_1_0 (pc := 64) C iX7_count_X3 qX7_count_F62 dX7_count_64 ?_
    cases h
    exact g_iret (pc := 67) C hr dX7_count_67
  · rw [if_neg c1_0] at h
    by_cases c1_1 : p0 = (1 : Int32)
    · rw [if_pos c1_1] at h
      refine g_tableIn (pc := 1) (tgt := 68) C dX7_count_1 (by rw [c1_1] <;> decide) (by rw [c1_1] <;> decide) (by rw [c1_1] <;> rfl) (by decide) ?_
      refine g_aload_n (pc := 68) C 0 dX7_count_68 rfl rfl ?_
      refine gx_get_0_0 (pc := 69) C iX7_count_X7 qX7_count_F17 dX7_count_69 ?_
      refine gx_get_1_1 (pc := 72) C iX7_count_X3 qX7_count_F78 dX7_count_72 ?_
      cases h
      exact g_iret (pc := 75) C hr dX7_count_75
    · rw [if_neg c1_1] at h
      by_cases c1_2 : p0 = (2 : Int32)
      · rw [if_pos c1_2] at h
        refine g_tableIn (pc := 1) (tgt := 76) C dX7_count_1 (by rw [c1_2] <;> decide) (by rw [c1_2] <;> decide) (by rw [c1_2] <;> rfl) (by decide) ?_
        refine g_aload_n (pc := 76) C 0 dX7_count_76 rfl rfl ?_
        refine gx_get_0_0 (pc := 77) C iX7_count_X7 qX7_count_F17 dX7_count_77 ?_
        refine gx_get_1_2 (pc := 80) C iX7_count_X3 qX7_count_F97 dX7_count_80 ?_
        cases h
        exact g_iret (pc := 83) C hr dX7_count_83
      · rw [if_neg c1_2] at h
        by_cases c1_3 : p0 = (3 : Int32)
        · rw [if_pos c1_3] at h
          refine g_tableIn (pc := 1) (tgt := 115) C dX7_count_1 (by rw [c1_3] <;> decide) (by rw [c1_3] <;> decide) (by rw [c1_3] <;> rfl) (by decide) ?_
          exact g_lv [0, 1] rfl (bX7_count_115 C hr σ (p0) h)
        · rw [if_neg c1_3] at h
          by_cases c1_4 : p0 = (4 : Int32)
          · rw [if_pos c1_4] at h
            refine g_tableIn (pc := 1) (tgt := 115) C dX7_count_1 (by rw [c1_4] <;> decide) (by rw [c1_4] <;> decide) (by rw [c1_4] <;> rfl) (by decide) ?_
            exact g_lv [0, 1] rfl (bX7_count_115 C hr σ (p0) h)
          · rw [if_neg c1_4] at h
            by_cases c1_5 : p0 = (5 : Int32)
            · rw [if_pos c1_5] at h
              refine g_tableIn (pc := 1) (tgt := 115) C dX7_count_1 (by rw [c1_5] <;> decide) (by rw [c1_5] <;> decide) (by rw [c1_5] <;> rfl) (by decide) ?_
              exact g_lv [0, 1] rfl (bX7_count_115 C hr σ (p0) h)
            · rw [if_neg c1_5] at h
              by_cases c1_6 : p0 = (6 : Int32)
              · rw [if_pos c1_6] at h
                refine g_tableIn (pc := 1) (tgt := 115) C dX7_count_1 (by rw [c1_6] <;> decide) (by rw [c1_6] <;> decide) (by rw [c1_6] <;> rfl) (by decide) ?_
                exact g_lv [0, 1] rfl (bX7_count_115 C hr σ (p0) h)
              · rw [if_neg c1_6] at h
                by_cases c1_7 : p0 = (7 : Int32)
                · rw [if_pos c1_7] at h
                  refine g_tableIn (pc := 1) (tgt := 115) C dX7_count_1 (by rw [c1_7] <;> decide) (by rw [c1_7] <;> decide) (by rw [c1_7] <;> rfl) (by decide) ?_
                  exact g_lv [0, 1] rfl (bX7_count_115 C hr σ (p0) h)
                · rw [if_neg c1_7] at h
                  by_cases c1_8 : p0 = (8 : Int32)
                  · rw [if_pos c1_8] at h
                    refine g_tableIn (pc := 1) (tgt := 84) C dX7_count_1 (by rw [c1_8] <;> decide) (by rw [c1_8] <;> decide) (by rw [c1_8] <;> rfl) (by decide) ?_
                    refine g_aload_n (pc := 84) C 0 dX7_count_84 rfl rfl ?_
                    refine gx_get_0_5 (pc := 85) C iX7_count_X7 qX7_count_F51 dX7_count_85 ?_
                    refine gx_get_22_0 (pc := 88) C iX7_count_X6 qX7_count_F124 dX7_count_88 ?_
                    cases h
                    exact g_iret (pc := 91) C hr dX7_count_91
                  · rw [if_neg c1_8] at h
                    by_cases c1_9 : p0 = (9 : Int32)
                    · rw [if_pos c1_9] at h
                      refine g_tableIn (pc := 1) (tgt := 92) C dX7_count_1 (by rw [c1_9] <;> decide) (by rw [c1_9] <;> decide) (by rw [c1_9] <;> rfl) (by decide) ?_
                      refine g_aload_n (pc := 92) C 0 dX7_count_92 rfl rfl ?_
                      refine gx_get_0_5 (pc := 93) C iX7_count_X7 qX7_count_F51 dX7_count_93 ?_
                      refine gx_get_22_1 (pc := 96) C iX7_count_X6 qX7_count_F128 dX7_count_96 ?_
                      cases h
                      exact g_iret (pc := 99) C hr dX7_count_99
                    · rw [if_neg c1_9] at h
                      by_cases c1_10 : p0 = (10 : Int32)
                      · rw [if_pos c1_10] at h
                        refine g_tableIn (pc := 1) (tgt := 100) C dX7_count_1 (by rw [c1_10] <;> decide) (by rw [c1_10] <;> decide) (by rw [c1_10] <;> rfl) (by decide) ?_
                        refine g_aload_n (pc := 100) C 0 dX7_count_100 rfl rfl ?_
                        refine gx_get_0_3 (pc := 101) C iX7_count_X7 qX7_count_F37 dX7_count_101 ?_
                        obtain ⟨s104, hc104, h⟩ := hv_bd_some h
                        refine g_callV (pc := 104) (σ1 := s104) (v := none) (As := []) (rest := []) C 17 (vX4_follow hc104) (cwV 0 C.1.2.2.2.2 gX7_count_X4_follow rfl rfl rfl (by decide +kernel) ⟨Nat.le_of_ble_eq_true rfl, Nat.le_of_ble_eq_true rfl⟩) (Nat.le_of_ble_eq_true rfl) rfl rfl rfl rfl (Nat.le_of_ble_eq_true rfl) dX7_count_104 ⟨Nat.zero_le _, Nat.zero_le _⟩ ?_
                        refine g_st (st' := []) rfl ?_
                        refine g_aload_n (pc := 107) C 0 dX7_count_107 rfl rfl ?_
                        refine gx_get_0_3 (pc := 108) C iX7_count_X7 qX7_count_F37 dX7_count_108 ?_
                        refine gx_get_17_3 (pc := 111) C iX7_count_X4 qX7_count_F134 dX7_count_111 ?_
                        cases h
                        exact g_iret (pc := 114) C hr dX7_count_114
                      · rw [if_neg c1_10] at h
                        have nc1_0 := lv_neT c1_0 (a := 0) (by decide)
                        have nc1_1 := lv_neT c1_1 (a := 1) (by decide)
                        have nc1_2 := lv_neT c1_2 (a := 2) (by decide)
                        have nc1_3 := lv_neT c1_3 (a := 3) (by decide)
                        have nc1_4 := lv_neT c1_4 (a := 4) (by decide)
                        have nc1_5 := lv_neT c1_5 (a := 5) (by decide)
                        have nc1_6 := lv_neT c1_6 (a := 6) (by decide)
                        have nc1_7 := lv_neT c1_7 (a := 7) (by decide)
                        have nc1_8 := lv_neT c1_8 (a := 8) (by decide)
                        have nc1_9 := lv_neT c1_9 (a := 9) (by decide)
                        have nc1_10 := lv_neT c1_10 (a := 10) (by decide)
                        refine g_tableOut (pc := 1) (tgt := 115) C dX7_count_1 (by omega) (by decide) ?_
                        exact g_lv [0, 1] rfl (bX7_count_115 C hr σ (p0) h)
abbrev rmX7_joint : Room := { frames := 6, cells := 0, slots := 0, locals := 144 }
set_option maxRecDepth 20000 in
theorem qX7_joint_F217 : Cond.fieldLink RX7 217 "PinFrame$Joints" "done" "I" ∈ wsX7_joint := by decide +kernel
set_option maxRecDepth 20000 in
theorem qX7_joint_F220 : Cond.fieldLink RX7 220 "PinFrame$Joints" "order" "[I" ∈ wsX7_joint := by decide +kernel
set_option maxRecDepth 20000 in
theorem qX7_joint_F37 : Cond.fieldLink RX7 37 "PinFrame" "joints" "LPinFrame$Joints;" ∈ wsX7_joint := by decide +kernel
set_option maxRecDepth 20000 in
theorem iX7_joint_X4 : ∀ w ∈ u_ws RX4 TX4 4, w ∈ wsX7_joint := by decide +kernel
set_option maxRecDepth 20000 in
theorem iX7_joint_X7 : ∀ w ∈ u_ws RX7 TX7 7, w ∈ wsX7_joint := by decide +kernel
set_option maxHeartbeats 4000000 in
set_option maxRecDepth 20000 in
theorem bX7_joint_34 (C : hv_C p s m args meth c cX7_joint 2 wsX7_joint RX7 D (hv_tys cy)) (hr : meth.sig.returnType = (some .int)) {n : Nat} {o : Int32 × hv_St} : ∀ (σ : hv_St), kX7_joint_34 n σ = some o → hv_G p l e (headSpec wsX7_joint rmX7_joint).room s m args below meth c 2 D 55 a (hv_XE a cy) 0 0 (hv_MQ D 55 a (hv_XE a cy) below args s (some (.int o.1)) o.2) σ 34 [] [] := by
  intro σ h
  unfold kX7_joint_34 at h
  refine g_iconst (pc := 34) C (v := (-1 : Int32)) dX7_joint_34 (by decide) ?_
  cases h
  exact g_iret (pc := 35) C hr dX7_joint_35
set_option maxHeartbeats 4000000 in
set_option maxRecDepth 20000 in
theorem vX7_joint {n : Nat} {σ : hv_St} {p0 : Int32} {o : Int32 × hv_St} (h : mX7_joint n σ p0 = some o) : hv_M l yX7_joint wsX7_joint rmX7_joint D (hv_tys cy) 55 a (hv_XE a cy) [.ref (a 0), .int (p0)] σ (some (.int o.1)) o.2 := by
  refine hv_enter (own := RX7) (cc := cX7_joint) (maxL := 2) (ret := (some .int)) (by decide) rfl rfl (Nat.le_of_ble_eq_true rfl) ?_
  intro p e s m args below meth c C hr
  unfold mX7_joint at h
  refine g_lv [0, 1] (lv' := [(0, .ref (a 0)), (1, .int (p0))]) rfl ?_
  refine g_aload_n (pc := 0) C 0 dX7_joint_0 rfl rfl ?_
  refine gx_get_0_3 (pc := 1) C iX7_joint_X7 qX7_joint_F37 dX7_joint_1 ?_
  obtain ⟨s4, hc4, h⟩ := hv_bd_some h
  refine g_callV (pc := 4) (σ1 := s4) (v := none) (As := []) (rest := []) C 17 (vX4_follow hc4) (cwV 0 C.1.2.2.2.2 gX7_joint_X4_follow rfl rfl rfl (by decide +kernel) ⟨Nat.le_of_ble_eq_true rfl, Nat.le_of_ble_eq_true rfl⟩) (Nat.le_of_ble_eq_true rfl) rfl rfl rfl rfl (Nat.le_of_ble_eq_true rfl) dX7_joint_4 ⟨Nat.zero_le _, Nat.zero_le _⟩ ?_
  refine g_st (st' := []) rfl ?_
  refine g_iload_n (pc := 7) C 1 dX7_joint_7 rfl rfl ?_
  refine g_if_lt (pc := 8) (tgt := 34) C dX7_joint_8 (by decide) (fun c8 => ?_) (fun c8 => ?_)
  · rw [if_pos c8] at h
    exact g_lv [] rfl (bX7_joint_34 C hr s4 h)
  · rw [if_neg c8] at h
    refine g_iload_n (pc := 11) C 1 dX7_joint_11 rfl rfl ?_
    refine g_aload_n (pc := 12) C 0 dX7_joint_12 rfl rfl ?_
    refine gx_get_0_3 (pc := 13) C iX7_joint_X7 qX7_joint_F37 dX7_joint_13 ?_
    refine gx_get_17_2 (pc := 16) C iX7_joint_X4 qX7_joint_F217 dX7_joint_16 ?_
    refine g_icmp_ge (pc := 19) (tgt := 34) C dX7_joint_19 (by decide) (fun c19 => ?_) (fun c19 => ?_)
    · rw [if_pos c19] at h
      exact g_lv [] rfl (bX7_joint_34 C hr s4 h)
    · rw [if_neg c19] at h
      refine g_aload_n (pc := 22) C 0 dX7_joint_22 rfl rfl ?_
      refine gx_get_0_3 (pc := 23) C iX7_joint_X7 qX7_joint_F37 dX7_joint_23 ?_
      refine gx_get_17_1 (pc := 26) C iX7_joint_X4 qX7_joint_F220 dX7_joint_26 ?_
      refine g_iload_n (pc := 29) C 1 dX7_joint_29 rfl rfl ?_
      obtain ⟨k30, h⟩ := hv_if_some h
      refine gx_ld_18 (pc := 30) C k30 dX7_joint_30 ?_
      refine g_goto (pc := 31) C (tgt := 35) dX7_joint_31 (by decide) ?_
      cases h
      exact g_iret (pc := 35) C hr dX7_joint_35
abbrev rmX7_bears : Room := { frames := 5, cells := 0, slots := 0, locals := 119 }
set_option maxRecDepth 20000 in
theorem qX7_bears_F21 : Cond.fieldLink RX7 21 "PinFrame" "balance" "LPinFrame$Balance;" ∈ wsX7_bears := by decide +kernel
set_option maxRecDepth 20000 in
theorem qX7_bears_F30 : Cond.fieldLink RX7 30 "PinFrame" "pulls" "LPinFrame$Pulls;" ∈ wsX7_bears := by decide +kernel
set_option maxRecDepth 20000 in
theorem iX7_bears_X7 : ∀ w ∈ u_ws RX7 TX7 7, w ∈ wsX7_bears := by decide +kernel
set_option maxHeartbeats 4000000 in
set_option maxRecDepth 20000 in
theorem vX7_bears {q : Nat} (hq : q = 3 ∨ q = 25) {n : Nat} {σ : hv_St} {p0 : Int32} {o : Int32 × hv_St} (h : mX7_bears n σ p0 q = some o) : hv_M l yX7_bears wsX7_bears rmX7_bears D (hv_tys cy) 55 a (hv_XE a cy) [.ref (a 0), .int (p0), .ref (a q)] σ (some (.int o.1)) o.2 := by
  refine hv_enter (own := RX7) (cc := cX7_bears) (maxL := 4) (ret := (some .boolean)) (by decide) rfl rfl (Nat.le_of_ble_eq_true rfl) ?_
  intro p e s m args below meth c C hr
  unfold mX7_bears at h
  refine g_lv [0, 1, 2] (lv' := [(0, .ref (a 0)), (1, .int (p0)), (2, .ref (a q))]) rfl ?_
  refine g_aload_n (pc := 0) C 0 dX7_bears_0 rfl rfl ?_
  refine gx_get_0_1 (pc := 1) C iX7_bears_X7 qX7_bears_F21 dX7_bears_1 ?_
  refine g_iload_n (pc := 4) C 1 dX7_bears_4 rfl rfl ?_
  obtain ⟨s5, hc5, h⟩ := hv_bd_some h
  refine g_callV (pc := 5) (σ1 := s5) (v := none) (As := [.int (p0)]) (rest := []) C 9 (vX0_settle hc5) (cwV 1 C.1.2.2.2.2 gX7_bears_X0_settle rfl rfl rfl (by decide +kernel) ⟨Nat.le_of_ble_eq_true rfl, Nat.le_of_ble_eq_true rfl⟩) (Nat.le_of_ble_eq_true rfl) rfl rfl rfl rfl (Nat.le_of_ble_eq_true rfl) dX7_bears_5 ⟨Nat.zero_le _, Nat.zero_le _⟩ ?_
  refine g_st (st' := []) rfl ?_
  refine g_aload_n (pc := 8) C 0 dX7_bears_8 rfl rfl ?_
  refine gx_get_0_1 (pc := 9) C iX7_bears_X7 qX7_bears_F21 dX7_bears_9 ?_
  obtain ⟨r12, s12, hc12, h⟩ := hv_b2_some h
  refine g_callV (pc := 12) (σ1 := s12) (v := (some (.int (r12)))) (As := []) (rest := []) C 9 (vX0_kindNumber hc12) (cwV 0 C.1.2.2.2.2 gX7_bears_X0_kindNumber rfl rfl rfl (by decide +kernel) ⟨Nat.le_of_ble_eq_true rfl, Nat.le_of_ble_eq_true rfl⟩) (Nat.le_of_ble_eq_true rfl) rfl rfl rfl rfl (Nat.le_of_ble_eq_true rfl) dX7_bears_12 ⟨Nat.zero_le _, Nat.zero_le _⟩ ?_
  refine g_st (st' := [.int (r12)]) rfl ?_
  refine g_istore_n (pc := 15) C (lv' := [(3, .int (r12)), (0, .ref (a 0)), (1, .int (p0)), (2, .ref (a q))]) rfl dX7_bears_15 rfl (Nat.le_of_ble_eq_true rfl) rfl ?_
  refine g_iload_n (pc := 16) C 0 dX7_bears_16 rfl rfl ?_
  refine g_if_eq (pc := 17) (tgt := 25) C dX7_bears_17 (by decide) (fun c17 => ?_) (fun c17 => ?_)
  · rw [if_pos c17] at h
    refine g_iconst (pc := 25) C (v := (0 : Int32)) dX7_bears_25 (by decide) ?_
    cases h
    exact g_zret (pc := 26) (x := (0 : Int32)) C hr (by decide) dX7_bears_26
  · rw [if_neg c17] at h
    refine g_iload_n (pc := 20) C 0 dX7_bears_20 rfl rfl ?_
    refine g_iconst (pc := 21) C (v := (4 : Int32)) dX7_bears_21 (by decide) ?_
    refine g_icmp_ne (pc := 22) (tgt := 27) C dX7_bears_22 (by decide) (fun c22 => ?_) (fun c22 => ?_)
    · rw [if_neg c22] at h
      refine g_aload_n (pc := 27) C 1 dX7_bears_27 rfl rfl ?_
      refine gx_get_0_2 (pc := 28) C iX7_bears_X7 qX7_bears_F30 dX7_bears_28 ?_
      obtain ⟨s31, hc31, h⟩ := hv_bd_some h
      refine g_callV (pc := 31) (σ1 := s31) (v := none) (As := []) (rest := []) C 13 (vX5_prepare hc31) (cwV 0 C.1.2.2.2.2 gX7_bears_X5_prepare rfl rfl rfl (by decide +kernel) ⟨Nat.le_of_ble_eq_true rfl, Nat.le_of_ble_eq_true rfl⟩) (Nat.le_of_ble_eq_true rfl) rfl rfl rfl rfl (Nat.le_of_ble_eq_true rfl) dX7_bears_31 ⟨Nat.zero_le _, Nat.zero_le _⟩ ?_
      refine g_st (st' := []) rfl ?_
      refine g_aload_n (pc := 34) C 1 dX7_bears_34 rfl rfl ?_
      refine gx_get_0_2 (pc := 35) C iX7_bears_X7 qX7_bears_F30 dX7_bears_35 ?_
      refine g_aload_n (pc := 38) C 3 dX7_bears_38 rfl rfl ?_
      obtain ⟨s39, hc39, h⟩ := hv_bd_some h
      refine g_callV (pc := 39) (σ1 := s39) (v := none) (As := [.ref (a q)]) (rest := []) C 13 (vX5_bear hq hc39) (cwV 1 C.1.2.2.2.2 gX7_bears_X5_bear rfl rfl rfl (by decide +kernel) ⟨Nat.le_of_ble_eq_true rfl, Nat.le_of_ble_eq_true rfl⟩) (Nat.le_of_ble_eq_true rfl) rfl rfl rfl rfl (Nat.le_of_ble_eq_true rfl) dX7_bears_39 ⟨Nat.zero_le _, Nat.zero_le _⟩ ?_
      refine g_st (st' := []) rfl ?_
      refine g_iconst (pc := 42) C (v := (1 : Int32)) dX7_bears_42 (by decide) ?_
      cases h
      exact g_zret (pc := 43) (x := (1 : Int32)) C hr (by decide) dX7_bears_43
    · rw [if_pos c22] at h
      refine g_iconst (pc := 25) C (v := (0 : Int32)) dX7_bears_25 (by decide) ?_
      cases h
      exact g_zret (pc := 26) (x := (0 : Int32)) C hr (by decide) dX7_bears_26
abbrev rmX7_isPainted : Room := { frames := 3, cells := 0, slots := 0, locals := 73 }
set_option maxRecDepth 20000 in
theorem qX7_isPainted_F100 : Cond.fieldLink RX7 100 "PinFrame$Frame" "strength" "[I" ∈ wsX7_isPainted := by decide +kernel
set_option maxRecDepth 20000 in
theorem qX7_isPainted_F17 : Cond.fieldLink RX7 17 "PinFrame" "frame" "LPinFrame$Frame;" ∈ wsX7_isPainted := by decide +kernel
set_option maxRecDepth 20000 in
theorem qX7_isPainted_F192 : Cond.fieldLink RX7 192 "PinFrame$Pulls" "whole" "J" ∈ wsX7_isPainted := by decide +kernel
set_option maxRecDepth 20000 in
theorem qX7_isPainted_F290 : Cond.fieldLink RX7 290 "PinFrame$Fraction" "under" "J" ∈ wsX7_isPainted := by decide +kernel
set_option maxRecDepth 20000 in
theorem qX7_isPainted_F291 : Cond.fieldLink RX7 291 "PinFrame$Fraction" "over" "J" ∈ wsX7_isPainted := by decide +kernel
set_option maxRecDepth 20000 in
theorem qX7_isPainted_F30 : Cond.fieldLink RX7 30 "PinFrame" "pulls" "LPinFrame$Pulls;" ∈ wsX7_isPainted := by decide +kernel
set_option maxRecDepth 20000 in
theorem qX7_isPainted_F58 : Cond.fieldLink RX7 58 "PinFrame" "fraction" "LPinFrame$Fraction;" ∈ wsX7_isPainted := by decide +kernel
set_option maxRecDepth 20000 in
theorem qX7_isPainted_MC249 : Cond.code Lib.MathLoose.abs_long.x Lib.MathLoose.abs_long.code 2 (some .long) ∈ wsX7_isPainted := by decide +kernel
set_option maxRecDepth 20000 in
theorem qX7_isPainted_MI249 : Cond.initialized "java/lang/Math" ∈ wsX7_isPainted := by decide +kernel
set_option maxRecDepth 20000 in
theorem qX7_isPainted_ML249 : Cond.methodLink RX7 249 Lib.MathLoose.abs_long.x ∈ wsX7_isPainted := by decide +kernel
set_option maxRecDepth 20000 in
theorem qX7_isPainted_MS249 : Cond.static Lib.MathLoose.abs_long.x ∈ wsX7_isPainted := by decide +kernel
set_option maxRecDepth 20000 in
theorem iX7_isPainted_X2 : ∀ w ∈ u_ws RX2 TX2 2, w ∈ wsX7_isPainted := by decide +kernel
set_option maxRecDepth 20000 in
theorem iX7_isPainted_X3 : ∀ w ∈ u_ws RX3 TX3 10, w ∈ wsX7_isPainted := by decide +kernel
set_option maxRecDepth 20000 in
theorem iX7_isPainted_X5 : ∀ w ∈ u_ws RX5 TX5 7, w ∈ wsX7_isPainted := by decide +kernel
set_option maxRecDepth 20000 in
theorem iX7_isPainted_X7 : ∀ w ∈ u_ws RX7 TX7 7, w ∈ wsX7_isPainted := by decide +kernel
set_option maxHeartbeats 4000000 in
set_option maxRecDepth 20000 in
theorem vX7_isPainted {n : Nat} {σ : hv_St} {p0 : Int32} {p1 : Int32} {o : Int32 × hv_St} (h : mX7_isPainted n σ p0 p1 = some o) : hv_M l yX7_isPainted wsX7_isPainted rmX7_isPainted D (hv_tys cy) 55 a (hv_XE a cy) [.ref (a 0), .int (p0), .int (p1)] σ (some (.int o.1)) o.2 := by
  refine hv_enter (own := RX7) (cc := cX7_isPainted) (maxL := 3) (ret := (some .boolean)) (by decide) rfl rfl (Nat.le_of_ble_eq_true rfl) ?_
  intro p e s m args below meth c C hr
  unfold mX7_isPainted at h
  refine g_lv [0, 1, 2] (lv' := [(0, .ref (a 0)), (1, .int (p0)), (2, .int (p1))]) rfl ?_
  refine g_aload_n (pc := 0) C 0 dX7_isPainted_0 rfl rfl ?_
  refine gx_get_0_6 (pc := 1) C iX7_isPainted_X7 qX7_isPainted_F58 dX7_isPainted_1 ?_
  refine g_aload_n (pc := 4) C 0 dX7_isPainted_4 rfl rfl ?_
  refine gx_get_0_2 (pc := 5) C iX7_isPainted_X7 qX7_isPainted_F30 dX7_isPainted_5 ?_
  refine g_iload_n (pc := 8) C 1 dX7_isPainted_8 rfl rfl ?_
  obtain ⟨r9, s9, hc9, h⟩ := hv_b2_some h
  refine g_callV (pc := 9) (σ1 := s9) (v := (some (.long (r9)))) (As := [.int (p0)]) (rest := [.ref (a 26)]) C 13 (vX5_overOf hc9) (cwV 1 C.1.2.2.2.2 gX7_isPainted_X5_overOf rfl rfl rfl (by decide +kernel) ⟨Nat.le_of_ble_eq_true rfl, Nat.le_of_ble_eq_true rfl⟩) (Nat.le_of_ble_eq_true rfl) rfl rfl rfl rfl (Nat.le_of_ble_eq_true rfl) dX7_isPainted_9 ⟨Nat.zero_le _, Nat.zero_le _⟩ ?_
  refine g_st (st' := [.long (r9), .ref (a 26)]) rfl ?_
  refine g_aload_n (pc := 12) C 0 dX7_isPainted_12 rfl rfl ?_
  refine gx_get_0_2 (pc := 13) C iX7_isPainted_X7 qX7_isPainted_F30 dX7_isPainted_13 ?_
  refine gx_get_13_6 (pc := 16) C iX7_isPainted_X5 qX7_isPainted_F192 dX7_isPainted_16 ?_
  obtain ⟨s19, hc19, h⟩ := hv_bd_some h
  refine g_callV (pc := 19) (σ1 := s19) (v := none) (As := [.long (r9), .long (s9.2 13 6)]) (rest := []) C 26 (vX2_reduce hc19) (cwV 2 C.1.2.2.2.2 gX7_isPainted_X2_reduce rfl rfl rfl (by decide +kernel) ⟨Nat.le_of_ble_eq_true rfl, Nat.le_of_ble_eq_true rfl⟩) (Nat.le_of_ble_eq_true rfl) rfl rfl rfl rfl (Nat.le_of_ble_eq_true rfl) dX7_isPainted_19 ⟨Nat.zero_le _, Nat.zero_le _⟩ ?_
  refine g_st (st' := []) rfl ?_
  refine g_iload_n (pc := 22) C 2 dX7_isPainted_22 rfl rfl ?_
  by_cases c23_m1 : p1 = (-1 : Int32)
  · rw [if_pos c23_m1] at h
    refine g_tableIn (pc := 23) (tgt := 66) C dX7_isPainted_23 (by rw [c23_m1] <;> decide) (by rw [c23_m1] <;> decide) (by rw [c23_m1] <;> rfl) (by decide) ?_
    refine g_aload_n (pc := 66) C 0 dX7_isPainted_66 rfl rfl ?_
    refine gx_get_0_6 (pc := 67) C iX7_isPainted_X7 qX7_isPainted_F58 dX7_isPainted_67 ?_
    refine gx_get_26_0 (pc := 70) C iX7_isPainted_X2 qX7_isPainted_F291 dX7_isPainted_70 ?_
    refine g_lconst (pc := 73) C (v := (0 : Int64)) dX7_isPainted_73 (by decide) ?_
    refine g_lcmp (pc := 74) C dX7_isPainted_74 ?_
    refine g_if_ge (pc := 75) (tgt := 82) C dX7_isPainted_75 (by decide) (fun c75 => ?_) (fun c75 => ?_)
    · rw [if_pos c75] at h
      refine g_iconst (pc := 82) C (v := (0 : Int32)) dX7_isPainted_82 (by decide) ?_
      cases h
      exact g_zret (pc := 83) (x := (0 : Int32)) C hr (by decide) dX7_isPainted_83
    · rw [if_neg c75] at h
      refine g_iconst (pc := 78) C (v := (1 : Int32)) dX7_isPainted_78 (by decide) ?_
      refine g_goto (pc := 79) C (tgt := 83) dX7_isPainted_79 (by decide) ?_
      cases h
      exact g_zret (pc := 83) (x := (1 : Int32)) C hr (by decide) dX7_isPainted_83
  · rw [if_neg c23_m1] at h
    by_cases c23_0 : p1 = (0 : Int32)
    · rw [if_pos c23_0] at h
      refine g_tableIn (pc := 23) (tgt := 84) C dX7_isPainted_23 (by rw [c23_0] <;> decide) (by rw [c23_0] <;> decide) (by rw [c23_0] <;> rfl) (by decide) ?_
      refine g_aload_n (pc := 84) C 0 dX7_isPainted_84 rfl rfl ?_
      refine gx_get_0_6 (pc := 85) C iX7_isPainted_X7 qX7_isPainted_F58 dX7_isPainted_85 ?_
      refine gx_get_26_0 (pc := 88) C iX7_isPainted_X2 qX7_isPainted_F291 dX7_isPainted_88 ?_
      refine g_lconst (pc := 91) C (v := (0 : Int64)) dX7_isPainted_91 (by decide) ?_
      refine g_lcmp (pc := 92) C dX7_isPainted_92 ?_
      refine g_if_ne (pc := 93) (tgt := 100) C dX7_isPainted_93 (by decide) (fun c93 => ?_) (fun c93 => ?_)
      · rw [if_neg c93] at h
        refine g_iconst (pc := 100) C (v := (0 : Int32)) dX7_isPainted_100 (by decide) ?_
        cases h
        exact g_zret (pc := 101) (x := (0 : Int32)) C hr (by decide) dX7_isPainted_101
      · rw [if_pos c93] at h
        refine g_iconst (pc := 96) C (v := (1 : Int32)) dX7_isPainted_96 (by decide) ?_
        refine g_goto (pc := 97) C (tgt := 101) dX7_isPainted_97 (by decide) ?_
        cases h
        exact g_zret (pc := 101) (x := (1 : Int32)) C hr (by decide) dX7_isPainted_101
    · rw [if_neg c23_0] at h
      by_cases c23_1 : p1 = (1 : Int32)
      · rw [if_pos c23_1] at h
        refine g_tableIn (pc := 23) (tgt := 48) C dX7_isPainted_23 (by rw [c23_1] <;> decide) (by rw [c23_1] <;> decide) (by rw [c23_1] <;> rfl) (by decide) ?_
        refine g_aload_n (pc := 48) C 0 dX7_isPainted_48 rfl rfl ?_
        refine gx_get_0_6 (pc := 49) C iX7_isPainted_X7 qX7_isPainted_F58 dX7_isPainted_49 ?_
        refine gx_get_26_0 (pc := 52) C iX7_isPainted_X2 qX7_isPainted_F291 dX7_isPainted_52 ?_
        refine g_lconst (pc := 55) C (v := (0 : Int64)) dX7_isPainted_55 (by decide) ?_
        refine g_lcmp (pc := 56) C dX7_isPainted_56 ?_
        refine g_if_le (pc := 57) (tgt := 64) C dX7_isPainted_57 (by decide) (fun c57 => ?_) (fun c57 => ?_)
        · rw [if_pos c57] at h
          refine g_iconst (pc := 64) C (v := (0 : Int32)) dX7_isPainted_64 (by decide) ?_
          cases h
          exact g_zret (pc := 65) (x := (0 : Int32)) C hr (by decide) dX7_isPainted_65
        · rw [if_neg c57] at h
          refine g_iconst (pc := 60) C (v := (1 : Int32)) dX7_isPainted_60 (by decide) ?_
          refine g_goto (pc := 61) C (tgt := 65) dX7_isPainted_61 (by decide) ?_
          cases h
          exact g_zret (pc := 65) (x := (1 : Int32)) C hr (by decide) dX7_isPainted_65
      · rw [if_neg c23_1] at h
        have nc23_m1 := lv_neT c23_m1 (a := -1) (by decide)
        have nc23_0 := lv_neT c23_0 (a := 0) (by decide)
        have nc23_1 := lv_neT c23_1 (a := 1) (by decide)
        refine g_tableOut (pc := 23) (tgt := 102) C dX7_isPainted_23 (by omega) (by decide) ?_
        refine g_aload_n (pc := 102) C 0 dX7_isPainted_102 rfl rfl ?_
        refine gx_get_0_6 (pc := 103) C iX7_isPainted_X7 qX7_isPainted_F58 dX7_isPainted_103 ?_
        refine gx_get_26_0 (pc := 106) C iX7_isPainted_X2 qX7_isPainted_F291 dX7_isPainted_106 ?_
        refine g_mabsL (pc := 109) C qX7_isPainted_ML249 qX7_isPainted_MS249 qX7_isPainted_MI249 qX7_isPainted_MC249 (Nat.le_of_ble_eq_true rfl) (Nat.le_of_ble_eq_true rfl) ⟨Nat.zero_le _, Nat.zero_le _⟩ dX7_isPainted_109 ?_
        obtain ⟨y_109, ey_109, h⟩ := hv_let_some h
        rw [← ey_109]
        refine g_aload_n (pc := 112) C 0 dX7_isPainted_112 rfl rfl ?_
        refine gx_get_0_0 (pc := 113) C iX7_isPainted_X7 qX7_isPainted_F17 dX7_isPainted_113 ?_
        refine gx_get_1_9 (pc := 116) C iX7_isPainted_X3 qX7_isPainted_F100 dX7_isPainted_116 ?_
        refine g_iload_n (pc := 119) C 1 dX7_isPainted_119 rfl rfl ?_
        obtain ⟨k120, h⟩ := hv_if_some h
        refine gx_ld_8 (pc := 120) C k120 dX7_isPainted_120 ?_
        refine g_i2l (pc := 121) C dX7_isPainted_121 ?_
        refine g_aload_n (pc := 122) C 0 dX7_isPainted_122 rfl rfl ?_
        refine gx_get_0_6 (pc := 123) C iX7_isPainted_X7 qX7_isPainted_F58 dX7_isPainted_123 ?_
        refine gx_get_26_1 (pc := 126) C iX7_isPainted_X2 qX7_isPainted_F290 dX7_isPainted_126 ?_
        refine g_lmul (pc := 129) C dX7_isPainted_129 ?_
        refine g_lcmp (pc := 130) C dX7_isPainted_130 ?_
        refine g_if_le (pc := 131) (tgt := 138) C dX7_isPainted_131 (by decide) (fun c131 => ?_) (fun c131 => ?_)
        · rw [if_pos c131] at h
          refine g_iconst (pc := 138) C (v := (0 : Int32)) dX7_isPainted_138 (by decide) ?_
          cases h
          exact g_zret (pc := 139) (x := (0 : Int32)) C hr (by decide) dX7_isPainted_139
        · rw [if_neg c131] at h
          refine g_iconst (pc := 134) C (v := (1 : Int32)) dX7_isPainted_134 (by decide) ?_
          refine g_goto (pc := 135) C (tgt := 139) dX7_isPainted_135 (by decide) ?_
          cases h
          exact g_zret (pc := 139) (x := (1 : Int32)) C hr (by decide) dX7_isPainted_139
abbrev rmX7_painted : Room := { frames := 6, cells := 0, slots := 0, locals := 142 }
set_option maxRecDepth 20000 in
theorem qX7_painted_F117 : Cond.fieldLink RX7 117 "PinFrame$Frame" "loads" "[I" ∈ wsX7_painted := by decide +kernel
set_option maxRecDepth 20000 in
theorem qX7_painted_F17 : Cond.fieldLink RX7 17 "PinFrame" "frame" "LPinFrame$Frame;" ∈ wsX7_painted := by decide +kernel
set_option maxRecDepth 20000 in
theorem qX7_painted_F78 : Cond.fieldLink RX7 78 "PinFrame$Frame" "bars" "I" ∈ wsX7_painted := by decide +kernel
set_option maxRecDepth 20000 in
theorem qX7_painted_F97 : Cond.fieldLink RX7 97 "PinFrame$Frame" "on" "I" ∈ wsX7_painted := by decide +kernel
set_option maxRecDepth 20000 in
theorem iX7_painted_X3 : ∀ w ∈ u_ws RX3 TX3 10, w ∈ wsX7_painted := by decide +kernel
set_option maxRecDepth 20000 in
theorem iX7_painted_X7 : ∀ w ∈ u_ws RX7 TX7 7, w ∈ wsX7_painted := by decide +kernel
set_option maxHeartbeats 4000000 in
set_option maxRecDepth 20000 in
theorem bX7_painted_74 (C : hv_C p s m args meth c cX7_painted 4 wsX7_painted RX7 D (hv_tys cy)) (hr : meth.sig.returnType = (some .int)) {n : Nat} {o : Int32 × hv_St} {r37 : hv_St → Int32 → Int32 → Int32 → Option (Int32 × hv_St)} (hr37 : ∀ (σ : hv_St) (x1 : Int32) (x2 : Int32) (x3 : Int32), r37 σ x1 x2 x3 = some o → hv_G p l e (headSpec wsX7_painted rmX7_painted).room s m args below meth c 4 D 55 a (hv_XE a cy) 0 0 (hv_MQ D 55 a (hv_XE a cy) below args s (some (.int o.1)) o.2) σ 37 [(0, .ref (a 0)), (1, .int (x1)), (2, .int (x2)), (3, .int (x3))] []) : ∀ (σ : hv_St) (x1 : Int32) (x2 : Int32) (x3 : Int32), kX7_painted_74 n r37 σ x1 x2 x3 = some o → hv_G p l e (headSpec wsX7_painted rmX7_painted).room s m args below meth c 4 D 55 a (hv_XE a cy) 0 0 (hv_MQ D 55 a (hv_XE a cy) below args s (some (.int o.1)) o.2) σ 74 [(0, .ref (a 0)), (1, .int (x1)), (2, .int (x2)), (3, .int (x3))] [] := by
  intro σ x1 x2 x3 h
  unfold kX7_painted_74 at h
  refine g_iinc (pc := 74) C 3 (v := x3 + 1) (lv' := [(3, .int (x3 + 1)), (0, .ref (a 0)), (1, .int (x1)), (2, .int (x2))]) dX7_painted_74 rfl rfl (Nat.le_of_ble_eq_true rfl) rfl ?_
  refine g_goto (pc := 77) C (tgt := 37) dX7_painted_77 (by decide) ?_
  exact g_lv [1, 2, 3, 0] rfl (hr37 σ (x1) (x2) (x3 + 1) h)
set_option maxHeartbeats 4000000 in
set_option maxRecDepth 20000 in
theorem bX7_painted_37 (C : hv_C p s m args meth c cX7_painted 4 wsX7_painted RX7 D (hv_tys cy)) (hr : meth.sig.returnType = (some .int)) {n : Nat} {o : Int32 × hv_St} : ∀ (i : Nat) (σ : hv_St) (x1 : Int32) (x2 : Int32) (x3 : Int32), kX7_painted_37 n i σ x1 x2 x3 = some o → hv_G p l e (headSpec wsX7_painted rmX7_painted).room s m args below meth c 4 D 55 a (hv_XE a cy) 0 0 (hv_MQ D 55 a (hv_XE a cy) below args s (some (.int o.1)) o.2) σ 37 [(0, .ref (a 0)), (1, .int (x1)), (2, .int (x2)), (3, .int (x3))] [] := by
  intro i
  induction i with
  | zero =>
    intro σ x1 x2 x3 h
    cases h
  | succ i ih =>
    intro σ x1 x2 x3 h
    generalize hg : kX7_painted_37 n i = r37 at ih
    have hr37 := ih
    replace h : kX7_painted_37_b n r37 σ x1 x2 x3 = some o := by rw [← hg]; exact h
    unfold kX7_painted_37_b at h
    refine g_iload_n (pc := 37) C 3 dX7_painted_37 rfl rfl ?_
    refine g_aload_n (pc := 38) C 0 dX7_painted_38 rfl rfl ?_
    refine gx_get_0_0 (pc := 39) C iX7_painted_X7 qX7_painted_F17 dX7_painted_39 ?_
    refine gx_get_1_1 (pc := 42) C iX7_painted_X3 qX7_painted_F78 dX7_painted_42 ?_
    refine g_icmp_ge (pc := 45) (tgt := 80) C dX7_painted_45 (by decide) (fun c45 => ?_) (fun c45 => ?_)
    · rw [if_pos c45] at h
      refine g_iload_n (pc := 80) C 2 dX7_painted_80 rfl rfl ?_
      cases h
      exact g_iret (pc := 81) C hr dX7_painted_81
    · rw [if_neg c45] at h
      refine g_aload_n (pc := 48) C 0 dX7_painted_48 rfl rfl ?_
      refine gx_get_0_0 (pc := 49) C iX7_painted_X7 qX7_painted_F17 dX7_painted_49 ?_
      refine g_iload_n (pc := 52) C 3 dX7_painted_52 rfl rfl ?_
      obtain ⟨r53, s53, hc53, h⟩ := hv_b2_some h
      refine g_callV (pc := 53) (σ1 := s53) (v := (some (.int (r53)))) (As := [.int (x3)]) (rest := []) C 1 (vX3_isOn hc53) (cwV 1 C.1.2.2.2.2 gX7_painted_X3_isOn rfl rfl rfl (by decide +kernel) ⟨Nat.le_of_ble_eq_true rfl, Nat.le_of_ble_eq_true rfl⟩) (Nat.le_of_ble_eq_true rfl) rfl rfl rfl rfl (Nat.le_of_ble_eq_true rfl) dX7_painted_53 ⟨Nat.zero_le _, Nat.zero_le _⟩ ?_
      refine g_st (st' := [.int (r53)]) rfl ?_
      refine g_if_eq (pc := 56) (tgt := 74) C dX7_painted_56 (by decide) (fun c56 => ?_) (fun c56 => ?_)
      · rw [if_pos c56] at h
        exact g_lv [0, 1, 2, 3] rfl (bX7_painted_74 C hr hr37 s53 (x1) (x2) (x3) h)
      · rw [if_neg c56] at h
        refine g_aload_n (pc := 59) C 0 dX7_painted_59 rfl rfl ?_
        refine g_iload_n (pc := 60) C 3 dX7_painted_60 rfl rfl ?_
        refine g_iload_n (pc := 61) C 1 dX7_painted_61 rfl rfl ?_
        obtain ⟨r62, s62, hc62, h⟩ := hv_b2_some h
        refine g_callV (pc := 62) (σ1 := s62) (v := (some (.int (r62)))) (As := [.int (x3), .int (x1)]) (rest := []) C 0 (vX7_isPainted hc62) (cwV 2 C.1.2.2.2.2 gX7_painted_X7_isPainted rfl rfl rfl (by decide +kernel) ⟨Nat.le_of_ble_eq_true rfl, Nat.le_of_ble_eq_true rfl⟩) (Nat.le_of_ble_eq_true rfl) rfl rfl rfl rfl (Nat.le_of_ble_eq_true rfl) dX7_painted_62 ⟨Nat.zero_le _, Nat.zero_le _⟩ ?_
        refine g_st (st' := [.int (r62)]) rfl ?_
        refine g_if_eq (pc := 65) (tgt := 74) C dX7_painted_65 (by decide) (fun c65 => ?_) (fun c65 => ?_)
        · rw [if_pos c65] at h
          exact g_lv [0, 1, 2, 3] rfl (bX7_painted_74 C hr hr37 s62 (x1) (x2) (x3) h)
        · rw [if_neg c65] at h
          refine g_iload_n (pc := 68) C 2 dX7_painted_68 rfl rfl ?_
          refine g_iconst (pc := 69) C (v := (1 : Int32)) dX7_painted_69 (by decide) ?_
          refine g_iload_n (pc := 70) C 3 dX7_painted_70 rfl rfl ?_
          refine g_ishl (pc := 71) C dX7_painted_71 ?_
          refine g_ior (pc := 72) C dX7_painted_72 ?_
          obtain ⟨y2_73, ey2_73, h⟩ := hv_let_some h
          refine g_istore_n (pc := 73) C (lv' := [(2, .int (y2_73)), (0, .ref (a 0)), (1, .int (x1)), (3, .int (x3))]) ey2_73 dX7_painted_73 rfl (Nat.le_of_ble_eq_true rfl) rfl ?_
          exact g_lv [1, 2, 0, 3] rfl (bX7_painted_74 C hr hr37 s62 (x1) (y2_73) (x3) h)
set_option maxHeartbeats 4000000 in
set_option maxRecDepth 20000 in
theorem vX7_painted {n : Nat} {σ : hv_St} {p0 : Int32} {o : Int32 × hv_St} (h : mX7_painted n σ p0 = some o) : hv_M l yX7_painted wsX7_painted rmX7_painted D (hv_tys cy) 55 a (hv_XE a cy) [.ref (a 0), .int (p0)] σ (some (.int o.1)) o.2 := by
  refine hv_enter (own := RX7) (cc := cX7_painted) (maxL := 4) (ret := (some .int)) (by decide) rfl rfl (Nat.le_of_ble_eq_true rfl) ?_
  intro p e s m args below meth c C hr
  unfold mX7_painted at h
  refine g_lv [0, 1] (lv' := [(0, .ref (a 0)), (1, .int (p0))]) rfl ?_
  refine g_iload_n (pc := 0) C 1 dX7_painted_0 rfl rfl ?_
  refine g_iconst (pc := 1) C (v := (-1 : Int32)) dX7_painted_1 (by decide) ?_
  refine g_icmp_lt (pc := 2) (tgt := 31) C dX7_painted_2 (by decide) (fun c2 => ?_) (fun c2 => ?_)
  · rw [if_pos c2] at h
    refine g_iconst (pc := 31) C (v := (-1 : Int32)) dX7_painted_31 (by decide) ?_
    cases h
    exact g_iret (pc := 32) C hr dX7_painted_32
  · rw [if_neg c2] at h
    refine g_iload_n (pc := 5) C 1 dX7_painted_5 rfl rfl ?_
    refine g_iconst (pc := 6) C (v := (2 : Int32)) dX7_painted_6 (by decide) ?_
    refine g_icmp_gt (pc := 7) (tgt := 31) C dX7_painted_7 (by decide) (fun c7 => ?_) (fun c7 => ?_)
    · rw [if_pos c7] at h
      refine g_iconst (pc := 31) C (v := (-1 : Int32)) dX7_painted_31 (by decide) ?_
      cases h
      exact g_iret (pc := 32) C hr dX7_painted_32
    · rw [if_neg c7] at h
      refine g_aload_n (pc := 10) C 0 dX7_painted_10 rfl rfl ?_
      refine g_aload_n (pc := 11) C 0 dX7_painted_11 rfl rfl ?_
      refine gx_get_0_0 (pc := 12) C iX7_painted_X7 qX7_painted_F17 dX7_painted_12 ?_
      refine gx_get_1_2 (pc := 15) C iX7_painted_X3 qX7_painted_F97 dX7_painted_15 ?_
      refine g_aload_n (pc := 18) C 0 dX7_painted_18 rfl rfl ?_
      refine gx_get_0_0 (pc := 19) C iX7_painted_X7 qX7_painted_F17 dX7_painted_19 ?_
      refine gx_get_1_4 (pc := 22) C iX7_painted_X3 qX7_painted_F117 dX7_painted_22 ?_
      obtain ⟨r25, s25, hc25, h⟩ := hv_b2_some h
      refine g_callV (pc := 25) (σ1 := s25) (v := (some (.int (r25)))) (As := [.int (σ.1 1 2), .ref (a 3)]) (rest := []) C 0 (vX7_bears (Or.inl rfl) hc25) (cwV 2 C.1.2.2.2.2 gX7_painted_X7_bears rfl rfl rfl (by decide +kernel) ⟨Nat.le_of_ble_eq_true rfl, Nat.le_of_ble_eq_true rfl⟩) (Nat.le_of_ble_eq_true rfl) rfl rfl rfl rfl (Nat.le_of_ble_eq_true rfl) dX7_painted_25 ⟨Nat.zero_le _, Nat.zero_le _⟩ ?_
      refine g_st (st' := [.int (r25)]) rfl ?_
      refine g_if_ne (pc := 28) (tgt := 33) C dX7_painted_28 (by decide) (fun c28 => ?_) (fun c28 => ?_)
      · rw [if_neg c28] at h
        refine g_iconst (pc := 33) C (v := (0 : Int32)) dX7_painted_33 (by decide) ?_
        refine g_istore_n (pc := 34) C (lv' := [(2, .int ((0 : Int32))), (0, .ref (a 0)), (1, .int (p0))]) rfl dX7_painted_34 rfl (Nat.le_of_ble_eq_true rfl) rfl ?_
        refine g_iconst (pc := 35) C (v := (0 : Int32)) dX7_painted_35 (by decide) ?_
        refine g_istore_n (pc := 36) C (lv' := [(3, .int ((0 : Int32))), (2, .int ((0 : Int32))), (0, .ref (a 0)), (1, .int (p0))]) rfl dX7_painted_36 rfl (Nat.le_of_ble_eq_true rfl) rfl ?_
        exact g_lv [2, 3, 1, 0] rfl (bX7_painted_37 C hr n s25 (p0) ((0 : Int32)) ((0 : Int32)) h)
      · rw [if_pos c28] at h
        refine g_iconst (pc := 31) C (v := (-1 : Int32)) dX7_painted_31 (by decide) ?_
        cases h
        exact g_iret (pc := 32) C hr dX7_painted_32
abbrev rmX7_timesOf : Room := { frames := 3, cells := 0, slots := 0, locals := 73 }
set_option maxRecDepth 20000 in
theorem qX7_timesOf_F100 : Cond.fieldLink RX7 100 "PinFrame$Frame" "strength" "[I" ∈ wsX7_timesOf := by decide +kernel
set_option maxRecDepth 20000 in
theorem qX7_timesOf_F17 : Cond.fieldLink RX7 17 "PinFrame" "frame" "LPinFrame$Frame;" ∈ wsX7_timesOf := by decide +kernel
set_option maxRecDepth 20000 in
theorem qX7_timesOf_F192 : Cond.fieldLink RX7 192 "PinFrame$Pulls" "whole" "J" ∈ wsX7_timesOf := by decide +kernel
set_option maxRecDepth 20000 in
theorem qX7_timesOf_F290 : Cond.fieldLink RX7 290 "PinFrame$Fraction" "under" "J" ∈ wsX7_timesOf := by decide +kernel
set_option maxRecDepth 20000 in
theorem qX7_timesOf_F291 : Cond.fieldLink RX7 291 "PinFrame$Fraction" "over" "J" ∈ wsX7_timesOf := by decide +kernel
set_option maxRecDepth 20000 in
theorem qX7_timesOf_F30 : Cond.fieldLink RX7 30 "PinFrame" "pulls" "LPinFrame$Pulls;" ∈ wsX7_timesOf := by decide +kernel
set_option maxRecDepth 20000 in
theorem qX7_timesOf_F58 : Cond.fieldLink RX7 58 "PinFrame" "fraction" "LPinFrame$Fraction;" ∈ wsX7_timesOf := by decide +kernel
set_option maxRecDepth 20000 in
theorem qX7_timesOf_L226 : Cond.constantLong RX7 226 (999) ∈ wsX7_timesOf := by decide +kernel
set_option maxRecDepth 20000 in
theorem qX7_timesOf_MC249 : Cond.code Lib.MathLoose.abs_long.x Lib.MathLoose.abs_long.code 2 (some .long) ∈ wsX7_timesOf := by decide +kernel
set_option maxRecDepth 20000 in
theorem qX7_timesOf_MI249 : Cond.initialized "java/lang/Math" ∈ wsX7_timesOf := by decide +kernel
set_option maxRecDepth 20000 in
theorem qX7_timesOf_ML249 : Cond.methodLink RX7 249 Lib.MathLoose.abs_long.x ∈ wsX7_timesOf := by decide +kernel
set_option maxRecDepth 20000 in
theorem qX7_timesOf_MS249 : Cond.static Lib.MathLoose.abs_long.x ∈ wsX7_timesOf := by decide +kernel
set_option maxRecDepth 20000 in
theorem iX7_timesOf_X2 : ∀ w ∈ u_ws RX2 TX2 2, w ∈ wsX7_timesOf := by decide +kernel
set_option maxRecDepth 20000 in
theorem iX7_timesOf_X3 : ∀ w ∈ u_ws RX3 TX3 10, w ∈ wsX7_timesOf := by decide +kernel
set_option maxRecDepth 20000 in
theorem iX7_timesOf_X5 : ∀ w ∈ u_ws RX5 TX5 7, w ∈ wsX7_timesOf := by decide +kernel
set_option maxRecDepth 20000 in
theorem iX7_timesOf_X7 : ∀ w ∈ u_ws RX7 TX7 7, w ∈ wsX7_timesOf := by decide +kernel
set_option maxHeartbeats 4000000 in
set_option maxRecDepth 20000 in
theorem vX7_timesOf {n : Nat} {σ : hv_St} {p0 : Int32} {o : Int64 × hv_St} (h : mX7_timesOf n σ p0 = some o) : hv_M l yX7_timesOf wsX7_timesOf rmX7_timesOf D (hv_tys cy) 55 a (hv_XE a cy) [.ref (a 0), .int (p0)] σ (some (.long o.1)) o.2 := by
  refine hv_enter (own := RX7) (cc := cX7_timesOf) (maxL := 4) (ret := (some .long)) (by decide) rfl rfl (Nat.le_of_ble_eq_true rfl) ?_
  intro p e s m args below meth c C hr
  unfold mX7_timesOf at h
  refine g_lv [0, 1] (lv' := [(0, .ref (a 0)), (1, .int (p0))]) rfl ?_
  refine g_aload_n (pc := 0) C 0 dX7_timesOf_0 rfl rfl ?_
  refine gx_get_0_6 (pc := 1) C iX7_timesOf_X7 qX7_timesOf_F58 dX7_timesOf_1 ?_
  refine g_aload_n (pc := 4) C 0 dX7_timesOf_4 rfl rfl ?_
  refine gx_get_0_2 (pc := 5) C iX7_timesOf_X7 qX7_timesOf_F30 dX7_timesOf_5 ?_
  refine g_iload_n (pc := 8) C 1 dX7_timesOf_8 rfl rfl ?_
  obtain ⟨r9, s9, hc9, h⟩ := hv_b2_some h
  refine g_callV (pc := 9) (σ1 := s9) (v := (some (.long (r9)))) (As := [.int (p0)]) (rest := [.ref (a 26)]) C 13 (vX5_overOf hc9) (cwV 1 C.1.2.2.2.2 gX7_timesOf_X5_overOf rfl rfl rfl (by decide +kernel) ⟨Nat.le_of_ble_eq_true rfl, Nat.le_of_ble_eq_true rfl⟩) (Nat.le_of_ble_eq_true rfl) rfl rfl rfl rfl (Nat.le_of_ble_eq_true rfl) dX7_timesOf_9 ⟨Nat.zero_le _, Nat.zero_le _⟩ ?_
  refine g_st (st' := [.long (r9), .ref (a 26)]) rfl ?_
  refine g_aload_n (pc := 12) C 0 dX7_timesOf_12 rfl rfl ?_
  refine gx_get_0_2 (pc := 13) C iX7_timesOf_X7 qX7_timesOf_F30 dX7_timesOf_13 ?_
  refine gx_get_13_6 (pc := 16) C iX7_timesOf_X5 qX7_timesOf_F192 dX7_timesOf_16 ?_
  obtain ⟨s19, hc19, h⟩ := hv_bd_some h
  refine g_callV (pc := 19) (σ1 := s19) (v := none) (As := [.long (r9), .long (s9.2 13 6)]) (rest := []) C 26 (vX2_reduce hc19) (cwV 2 C.1.2.2.2.2 gX7_timesOf_X2_reduce rfl rfl rfl (by decide +kernel) ⟨Nat.le_of_ble_eq_true rfl, Nat.le_of_ble_eq_true rfl⟩) (Nat.le_of_ble_eq_true rfl) rfl rfl rfl rfl (Nat.le_of_ble_eq_true rfl) dX7_timesOf_19 ⟨Nat.zero_le _, Nat.zero_le _⟩ ?_
  refine g_st (st' := []) rfl ?_
  refine g_aload_n (pc := 22) C 0 dX7_timesOf_22 rfl rfl ?_
  refine gx_get_0_6 (pc := 23) C iX7_timesOf_X7 qX7_timesOf_F58 dX7_timesOf_23 ?_
  refine gx_get_26_0 (pc := 26) C iX7_timesOf_X2 qX7_timesOf_F291 dX7_timesOf_26 ?_
  refine g_mabsL (pc := 29) C qX7_timesOf_ML249 qX7_timesOf_MS249 qX7_timesOf_MI249 qX7_timesOf_MC249 (Nat.le_of_ble_eq_true rfl) (Nat.le_of_ble_eq_true rfl) ⟨Nat.zero_le _, Nat.zero_le _⟩ dX7_timesOf_29 ?_
  obtain ⟨y_29, ey_29, h⟩ := hv_let_some h
  rw [← ey_29]
  refine g_aload_n (pc := 32) C 0 dX7_timesOf_32 rfl rfl ?_
  refine gx_get_0_6 (pc := 33) C iX7_timesOf_X7 qX7_timesOf_F58 dX7_timesOf_33 ?_
  refine gx_get_26_1 (pc := 36) C iX7_timesOf_X2 qX7_timesOf_F290 dX7_timesOf_36 ?_
  refine g_ladd (pc := 39) C dX7_timesOf_39 ?_
  refine g_lconst (pc := 40) C (v := (1 : Int64)) dX7_timesOf_40 (by decide) ?_
  refine g_lsub (pc := 41) C dX7_timesOf_41 ?_
  refine g_aload_n (pc := 42) C 0 dX7_timesOf_42 rfl rfl ?_
  refine gx_get_0_6 (pc := 43) C iX7_timesOf_X7 qX7_timesOf_F58 dX7_timesOf_43 ?_
  refine gx_get_26_1 (pc := 46) C iX7_timesOf_X2 qX7_timesOf_F290 dX7_timesOf_46 ?_
  obtain ⟨r49, s49, hc49, h⟩ := hv_b2_some h
  refine g_callS (pc := 49) (σ1 := s49) (v := (some (.long (r49)))) (As := [.long (((y_29) + (s19.2 26 1)) - ((1 : Int64))), .long (s19.2 26 1)]) (rest := []) C (vX7_quotient hc49) (va_cwS 2 C.1.2.2.2.2 gX7_timesOf_X7_quotient rfl rfl rfl (by decide +kernel) ⟨Nat.le_of_ble_eq_true rfl, Nat.le_of_ble_eq_true rfl⟩) rfl rfl (Nat.le_of_ble_eq_true rfl) dX7_timesOf_49 ⟨Nat.zero_le _, Nat.zero_le _⟩ ?_
  refine g_st (st' := [.long (r49)]) rfl ?_
  refine g_lstore_n (pc := 52) C (lv' := [(2, .long (r49)), (0, .ref (a 0)), (1, .int (p0))]) rfl dX7_timesOf_52 rfl (Nat.le_of_ble_eq_true rfl) rfl ?_
  refine g_lload_n (pc := 53) C 0 dX7_timesOf_53 rfl rfl ?_
  refine g_lconst (pc := 54) C (v := (0 : Int64)) dX7_timesOf_54 (by decide) ?_
  refine g_lcmp (pc := 55) C dX7_timesOf_55 ?_
  refine g_if_ne (pc := 56) (tgt := 65) C dX7_timesOf_56 (by decide) (fun c56 => ?_) (fun c56 => ?_)
  · rw [if_neg c56] at h
    refine g_aload_n (pc := 65) C 1 dX7_timesOf_65 rfl rfl ?_
    refine gx_get_0_0 (pc := 66) C iX7_timesOf_X7 qX7_timesOf_F17 dX7_timesOf_66 ?_
    refine gx_get_1_9 (pc := 69) C iX7_timesOf_X3 qX7_timesOf_F100 dX7_timesOf_69 ?_
    refine g_iload_n (pc := 72) C 2 dX7_timesOf_72 rfl rfl ?_
    obtain ⟨k73, h⟩ := hv_if_some h
    refine gx_ld_8 (pc := 73) C k73 dX7_timesOf_73 ?_
    refine g_i2l (pc := 74) C dX7_timesOf_74 ?_
    refine g_lload_n (pc := 75) C 0 dX7_timesOf_75 rfl rfl ?_
    obtain ⟨r76, s76, hc76, h⟩ := hv_b2_some h
    refine g_callS (pc := 76) (σ1 := s76) (v := (some (.long (r76)))) (As := [.long ((s49.1 8 (p0).toNatClampNeg).toInt64), .long (r49)]) (rest := []) C (vX7_quotient hc76) (va_cwS 2 C.1.2.2.2.2 gX7_timesOf_X7_quotient rfl rfl rfl (by decide +kernel) ⟨Nat.le_of_ble_eq_true rfl, Nat.le_of_ble_eq_true rfl⟩) rfl rfl (Nat.le_of_ble_eq_true rfl) dX7_timesOf_76 ⟨Nat.zero_le _, Nat.zero_le _⟩ ?_
    refine g_st (st' := [.long (r76)]) rfl ?_
    cases h
    exact g_lret (pc := 79) C hr dX7_timesOf_79
  · rw [if_pos c56] at h
    refine g_ldc2 (pc := 59) C (v := (999 : Int64)) qX7_timesOf_L226 dX7_timesOf_59 ?_
    refine g_goto (pc := 62) C (tgt := 79) dX7_timesOf_62 (by decide) ?_
    cases h
    exact g_lret (pc := 79) C hr dX7_timesOf_79
abbrev rmX7_times : Room := { frames := 6, cells := 0, slots := 0, locals := 142 }
set_option maxRecDepth 20000 in
theorem qX7_times_F117 : Cond.fieldLink RX7 117 "PinFrame$Frame" "loads" "[I" ∈ wsX7_times := by decide +kernel
set_option maxRecDepth 20000 in
theorem qX7_times_F17 : Cond.fieldLink RX7 17 "PinFrame" "frame" "LPinFrame$Frame;" ∈ wsX7_times := by decide +kernel
set_option maxRecDepth 20000 in
theorem qX7_times_F78 : Cond.fieldLink RX7 78 "PinFrame$Frame" "bars" "I" ∈ wsX7_times := by decide +kernel
set_option maxRecDepth 20000 in
theorem qX7_times_F97 : Cond.fieldLink RX7 97 "PinFrame$Frame" "on" "I" ∈ wsX7_times := by decide +kernel
set_option maxRecDepth 20000 in
theorem qX7_times_L226 : Cond.constantLong RX7 226 (999) ∈ wsX7_times := by decide +kernel
set_option maxRecDepth 20000 in
theorem qX7_times_MC231 : Cond.code Lib.MathLoose.min_long.x Lib.MathLoose.min_long.code 4 (some .long) ∈ wsX7_times := by decide +kernel
set_option maxRecDepth 20000 in
theorem qX7_times_MI231 : Cond.initialized "java/lang/Math" ∈ wsX7_times := by decide +kernel
set_option maxRecDepth 20000 in
theorem qX7_times_ML231 : Cond.methodLink RX7 231 Lib.MathLoose.min_long.x ∈ wsX7_times := by decide +kernel
set_option maxRecDepth 20000 in
theorem qX7_times_MS231 : Cond.static Lib.MathLoose.min_long.x ∈ wsX7_times := by decide +kernel
set_option maxRecDepth 20000 in
theorem iX7_times_X3 : ∀ w ∈ u_ws RX3 TX3 10, w ∈ wsX7_times := by decide +kernel
set_option maxRecDepth 20000 in
theorem iX7_times_X7 : ∀ w ∈ u_ws RX7 TX7 7, w ∈ wsX7_times := by decide +kernel
set_option maxHeartbeats 4000000 in
set_option maxRecDepth 20000 in
theorem bX7_times_61 (C : hv_C p s m args meth c cX7_times 4 wsX7_times RX7 D (hv_tys cy)) (hr : meth.sig.returnType = (some .int)) {n : Nat} {o : Int32 × hv_St} {r29 : hv_St → Int64 → Int32 → Option (Int32 × hv_St)} (hr29 : ∀ (σ : hv_St) (x1 : Int64) (x3 : Int32), r29 σ x1 x3 = some o → hv_G p l e (headSpec wsX7_times rmX7_times).room s m args below meth c 4 D 55 a (hv_XE a cy) 0 0 (hv_MQ D 55 a (hv_XE a cy) below args s (some (.int o.1)) o.2) σ 29 [(0, .ref (a 0)), (1, .long (x1)), (3, .int (x3))] []) : ∀ (σ : hv_St) (x1 : Int64) (x3 : Int32), kX7_times_61 n r29 σ x1 x3 = some o → hv_G p l e (headSpec wsX7_times rmX7_times).room s m args below meth c 4 D 55 a (hv_XE a cy) 0 0 (hv_MQ D 55 a (hv_XE a cy) below args s (some (.int o.1)) o.2) σ 61 [(0, .ref (a 0)), (1, .long (x1)), (3, .int (x3))] [] := by
  intro σ x1 x3 h
  unfold kX7_times_61 at h
  refine g_iinc (pc := 61) C 2 (v := x3 + 1) (lv' := [(3, .int (x3 + 1)), (0, .ref (a 0)), (1, .long (x1))]) dX7_times_61 rfl rfl (Nat.le_of_ble_eq_true rfl) rfl ?_
  refine g_goto (pc := 64) C (tgt := 29) dX7_times_64 (by decide) ?_
  exact g_lv [1, 2, 0] rfl (hr29 σ (x1) (x3 + 1) h)
set_option maxHeartbeats 4000000 in
set_option maxRecDepth 20000 in
theorem bX7_times_29 (C : hv_C p s m args meth c cX7_times 4 wsX7_times RX7 D (hv_tys cy)) (hr : meth.sig.returnType = (some .int)) {n : Nat} {o : Int32 × hv_St} : ∀ (i : Nat) (σ : hv_St) (x1 : Int64) (x3 : Int32), kX7_times_29 n i σ x1 x3 = some o → hv_G p l e (headSpec wsX7_times rmX7_times).room s m args below meth c 4 D 55 a (hv_XE a cy) 0 0 (hv_MQ D 55 a (hv_XE a cy) below args s (some (.int o.1)) o.2) σ 29 [(0, .ref (a 0)), (1, .long (x1)), (3, .int (x3))] [] := by
  intro i
  induction i with
  | zero =>
    intro σ x1 x3 h
    cases h
  | succ i ih =>
    intro σ x1 x3 h
    generalize hg : kX7_times_29 n i = r29 at ih
    have hr29 := ih
    replace h : kX7_times_29_b n r29 σ x1 x3 = some o := by rw [← hg]; exact h
    unfold kX7_times_29_b at h
    refine g_iload_n (pc := 29) C 2 dX7_times_29 rfl rfl ?_
    refine g_aload_n (pc := 30) C 0 dX7_times_30 rfl rfl ?_
    refine gx_get_0_0 (pc := 31) C iX7_times_X7 qX7_times_F17 dX7_times_31 ?_
    refine gx_get_1_1 (pc := 34) C iX7_times_X3 qX7_times_F78 dX7_times_34 ?_
    refine g_icmp_ge (pc := 37) (tgt := 67) C dX7_times_37 (by decide) (fun c37 => ?_) (fun c37 => ?_)
    · rw [if_pos c37] at h
      refine g_lload_n (pc := 67) C 1 dX7_times_67 rfl rfl ?_
      refine g_l2i (pc := 68) C dX7_times_68 ?_
      cases h
      exact g_iret (pc := 69) C hr dX7_times_69
    · rw [if_neg c37] at h
      refine g_aload_n (pc := 40) C 0 dX7_times_40 rfl rfl ?_
      refine gx_get_0_0 (pc := 41) C iX7_times_X7 qX7_times_F17 dX7_times_41 ?_
      refine g_iload_n (pc := 44) C 2 dX7_times_44 rfl rfl ?_
      obtain ⟨r45, s45, hc45, h⟩ := hv_b2_some h
      refine g_callV (pc := 45) (σ1 := s45) (v := (some (.int (r45)))) (As := [.int (x3)]) (rest := []) C 1 (vX3_isOn hc45) (cwV 1 C.1.2.2.2.2 gX7_times_X3_isOn rfl rfl rfl (by decide +kernel) ⟨Nat.le_of_ble_eq_true rfl, Nat.le_of_ble_eq_true rfl⟩) (Nat.le_of_ble_eq_true rfl) rfl rfl rfl rfl (Nat.le_of_ble_eq_true rfl) dX7_times_45 ⟨Nat.zero_le _, Nat.zero_le _⟩ ?_
      refine g_st (st' := [.int (r45)]) rfl ?_
      refine g_if_eq (pc := 48) (tgt := 61) C dX7_times_48 (by decide) (fun c48 => ?_) (fun c48 => ?_)
      · rw [if_pos c48] at h
        exact g_lv [0, 1, 2] rfl (bX7_times_61 C hr hr29 s45 (x1) (x3) h)
      · rw [if_neg c48] at h
        refine g_lload_n (pc := 51) C 1 dX7_times_51 rfl rfl ?_
        refine g_aload_n (pc := 52) C 0 dX7_times_52 rfl rfl ?_
        refine g_iload_n (pc := 53) C 2 dX7_times_53 rfl rfl ?_
        obtain ⟨r54, s54, hc54, h⟩ := hv_b2_some h
        refine g_callV (pc := 54) (σ1 := s54) (v := (some (.long (r54)))) (As := [.int (x3)]) (rest := [.long (x1)]) C 0 (vX7_timesOf hc54) (cwV 1 C.1.2.2.2.2 gX7_times_X7_timesOf rfl rfl rfl (by decide +kernel) ⟨Nat.le_of_ble_eq_true rfl, Nat.le_of_ble_eq_true rfl⟩) (Nat.le_of_ble_eq_true rfl) rfl rfl rfl rfl (Nat.le_of_ble_eq_true rfl) dX7_times_54 ⟨Nat.zero_le _, Nat.zero_le _⟩ ?_
        refine g_st (st' := [.long (r54), .long (x1)]) rfl ?_
        refine g_mminL (pc := 57) C qX7_times_ML231 qX7_times_MS231 qX7_times_MI231 qX7_times_MC231 (Nat.le_of_ble_eq_true rfl) (Nat.le_of_ble_eq_true rfl) ⟨Nat.zero_le _, Nat.zero_le _⟩ dX7_times_57 ?_
        obtain ⟨y_57, ey_57, h⟩ := hv_let_some h
        rw [← ey_57]
        refine g_lstore_n (pc := 60) C (lv' := [(1, .long (y_57)), (0, .ref (a 0)), (3, .int (x3))]) rfl dX7_times_60 rfl (Nat.le_of_ble_eq_true rfl) rfl ?_
        exact g_lv [1, 0, 2] rfl (bX7_times_61 C hr hr29 s54 (y_57) (x3) h)
set_option maxHeartbeats 4000000 in
set_option maxRecDepth 20000 in
theorem vX7_times {n : Nat} {σ : hv_St} {o : Int32 × hv_St} (h : mX7_times n σ = some o) : hv_M l yX7_times wsX7_times rmX7_times D (hv_tys cy) 55 a (hv_XE a cy) [.ref (a 0)] σ (some (.int o.1)) o.2 := by
  refine hv_enter (own := RX7) (cc := cX7_times) (maxL := 4) (ret := (some .int)) (by decide) rfl rfl (Nat.le_of_ble_eq_true rfl) ?_
  intro p e s m args below meth c C hr
  unfold mX7_times at h
  refine g_lv [0] (lv' := [(0, .ref (a 0))]) rfl ?_
  refine g_aload_n (pc := 0) C 0 dX7_times_0 rfl rfl ?_
  refine g_aload_n (pc := 1) C 0 dX7_times_1 rfl rfl ?_
  refine gx_get_0_0 (pc := 2) C iX7_times_X7 qX7_times_F17 dX7_times_2 ?_
  refine gx_get_1_2 (pc := 5) C iX7_times_X3 qX7_times_F97 dX7_times_5 ?_
  refine g_aload_n (pc := 8) C 0 dX7_times_8 rfl rfl ?_
  refine gx_get_0_0 (pc := 9) C iX7_times_X7 qX7_times_F17 dX7_times_9 ?_
  refine gx_get_1_4 (pc := 12) C iX7_times_X3 qX7_times_F117 dX7_times_12 ?_
  obtain ⟨r15, s15, hc15, h⟩ := hv_b2_some h
  refine g_callV (pc := 15) (σ1 := s15) (v := (some (.int (r15)))) (As := [.int (σ.1 1 2), .ref (a 3)]) (rest := []) C 0 (vX7_bears (Or.inl rfl) hc15) (cwV 2 C.1.2.2.2.2 gX7_times_X7_bears rfl rfl rfl (by decide +kernel) ⟨Nat.le_of_ble_eq_true rfl, Nat.le_of_ble_eq_true rfl⟩) (Nat.le_of_ble_eq_true rfl) rfl rfl rfl rfl (Nat.le_of_ble_eq_true rfl) dX7_times_15 ⟨Nat.zero_le _, Nat.zero_le _⟩ ?_
  refine g_st (st' := [.int (r15)]) rfl ?_
  refine g_if_ne (pc := 18) (tgt := 23) C dX7_times_18 (by decide) (fun c18 => ?_) (fun c18 => ?_)
  · rw [if_neg c18] at h
    refine g_ldc2 (pc := 23) C (v := (999 : Int64)) qX7_times_L226 dX7_times_23 ?_
    refine g_lstore_n (pc := 26) C (lv' := [(1, .long ((999 : Int64))), (0, .ref (a 0))]) rfl dX7_times_26 rfl (Nat.le_of_ble_eq_true rfl) rfl ?_
    refine g_iconst (pc := 27) C (v := (0 : Int32)) dX7_times_27 (by decide) ?_
    refine g_istore_n (pc := 28) C (lv' := [(3, .int ((0 : Int32))), (1, .long ((999 : Int64))), (0, .ref (a 0))]) rfl dX7_times_28 rfl (Nat.le_of_ble_eq_true rfl) rfl ?_
    exact g_lv [2, 1, 0] rfl (bX7_times_29 C hr n s15 ((999 : Int64)) ((0 : Int32)) h)
  · rw [if_pos c18] at h
    refine g_iconst (pc := 21) C (v := (-1 : Int32)) dX7_times_21 (by decide) ?_
    cases h
    exact g_iret (pc := 22) C hr dX7_times_22
abbrev rmX7_worst : Room := { frames := 6, cells := 0, slots := 0, locals := 142 }
set_option maxRecDepth 20000 in
theorem qX7_worst_F17 : Cond.fieldLink RX7 17 "PinFrame" "frame" "LPinFrame$Frame;" ∈ wsX7_worst := by decide +kernel
set_option maxRecDepth 20000 in
theorem qX7_worst_F30 : Cond.fieldLink RX7 30 "PinFrame" "pulls" "LPinFrame$Pulls;" ∈ wsX7_worst := by decide +kernel
set_option maxRecDepth 20000 in
theorem qX7_worst_F51 : Cond.fieldLink RX7 51 "PinFrame" "ride" "LPinFrame$Ride;" ∈ wsX7_worst := by decide +kernel
set_option maxRecDepth 20000 in
theorem qX7_worst_F97 : Cond.fieldLink RX7 97 "PinFrame$Frame" "on" "I" ∈ wsX7_worst := by decide +kernel
set_option maxRecDepth 20000 in
theorem qX7_worst_L243 : Cond.constantLong RX7 243 (-1) ∈ wsX7_worst := by decide +kernel
set_option maxRecDepth 20000 in
theorem qX7_worst_MC249 : Cond.code Lib.MathLoose.abs_long.x Lib.MathLoose.abs_long.code 2 (some .long) ∈ wsX7_worst := by decide +kernel
set_option maxRecDepth 20000 in
theorem qX7_worst_MI249 : Cond.initialized "java/lang/Math" ∈ wsX7_worst := by decide +kernel
set_option maxRecDepth 20000 in
theorem qX7_worst_ML249 : Cond.methodLink RX7 249 Lib.MathLoose.abs_long.x ∈ wsX7_worst := by decide +kernel
set_option maxRecDepth 20000 in
theorem qX7_worst_MS249 : Cond.static Lib.MathLoose.abs_long.x ∈ wsX7_worst := by decide +kernel
set_option maxRecDepth 20000 in
theorem iX7_worst_X3 : ∀ w ∈ u_ws RX3 TX3 10, w ∈ wsX7_worst := by decide +kernel
set_option maxRecDepth 20000 in
theorem iX7_worst_X7 : ∀ w ∈ u_ws RX7 TX7 7, w ∈ wsX7_worst := by decide +kernel
set_option maxHeartbeats 4000000 in
set_option maxRecDepth 20000 in
theorem bX7_worst_116 (C : hv_C p s m args meth c cX7_worst 8 wsX7_worst RX7 D (hv_tys cy)) (hr : meth.sig.returnType = (some .int)) {n : Nat} {o : Int32 × hv_St} {r55 : hv_St → Int32 → Int32 → Int64 → Int32 → Option (Int32 × hv_St)} (hr55 : ∀ (σ : hv_St) (x1 : Int32) (x2 : Int32) (x3 : Int64) (x5 : Int32), r55 σ x1 x2 x3 x5 = some o → hv_G p l e (headSpec wsX7_worst rmX7_worst).room s m args below meth c 8 D 55 a (hv_XE a cy) 0 0 (hv_MQ D 55 a (hv_XE a cy) below args s (some (.int o.1)) o.2) σ 55 [(0, .ref (a 0)), (1, .int (x1)), (2, .int (x2)), (3, .long (x3)), (5, .int (x5))] []) : ∀ (σ : hv_St) (x1 : Int32) (x2 : Int32) (x3 : Int64) (x5 : Int32), kX7_worst_116 n r55 σ x1 x2 x3 x5 = some o → hv_G p l e (headSpec wsX7_worst rmX7_worst).room s m args below meth c 8 D 55 a (hv_XE a cy) 0 0 (hv_MQ D 55 a (hv_XE a cy) below args s (some (.int o.1)) o.2) σ 116 [(0, .ref (a 0)), (1, .int (x1)), (2, .int (x2)), (3, .long (x3)), (5, .int (x5))] [] := by
  intro σ x1 x2 x3 x5 h
  unfold kX7_worst_116 at h
  refine g_iinc (pc := 116) C 4 (v := x5 + 1) (lv' := [(5, .int (x5 + 1)), (0, .ref (a 0)), (1, .int (x1)), (2, .int (x2)), (3, .long (x3))]) dX7_worst_116 rfl rfl (Nat.le_of_ble_eq_true rfl) rfl ?_
  refine g_goto (pc := 119) C (tgt := 55) dX7_worst_119 (by decide) ?_
  exact g_lv [1, 2, 3, 4, 0] rfl (hr55 σ (x1) (x2) (x3) (x5 + 1) h)
set_option maxHeartbeats 4000000 in
set_option maxRecDepth 20000 in
theorem bX7_worst_55 (C : hv_C p s m args meth c cX7_worst 8 wsX7_worst RX7 D (hv_tys cy)) (hr : meth.sig.returnType = (some .int)) {n : Nat} {o : Int32 × hv_St} : ∀ (i : Nat) (σ : hv_St) (x1 : Int32) (x2 : Int32) (x3 : Int64) (x5 : Int32), kX7_worst_55 n i σ x1 x2 x3 x5 = some o → hv_G p l e (headSpec wsX7_worst rmX7_worst).room s m args below meth c 8 D 55 a (hv_XE a cy) 0 0 (hv_MQ D 55 a (hv_XE a cy) below args s (some (.int o.1)) o.2) σ 55 [(0, .ref (a 0)), (1, .int (x1)), (2, .int (x2)), (3, .long (x3)), (5, .int (x5))] [] := by
  intro i
  induction i with
  | zero =>
    intro σ x1 x2 x3 x5 h
    cases h
  | succ i ih =>
    intro σ x1 x2 x3 x5 h
    generalize hg : kX7_worst_55 n i = r55 at ih
    have hr55 := ih
    replace h : kX7_worst_55_b n r55 σ x1 x2 x3 x5 = some o := by rw [← hg]; exact h
    unfold kX7_worst_55_b at h
    refine g_iload (pc := 55) C 4 dX7_worst_55 rfl ?_
    refine g_bipush (pc := 57) C (v := (10 : Int32)) dX7_worst_57 (by decide) ?_
    refine g_icmp_ge (pc := 59) (tgt := 122) C dX7_worst_59 (by decide) (fun c59 => ?_) (fun c59 => ?_)
    · rw [if_pos c59] at h
      refine g_iload_n (pc := 122) C 2 dX7_worst_122 rfl rfl ?_
      cases h
      exact g_iret (pc := 123) C hr dX7_worst_123
    · rw [if_neg c59] at h
      refine g_aload_n (pc := 62) C 0 dX7_worst_62 rfl rfl ?_
      refine gx_get_0_5 (pc := 63) C iX7_worst_X7 qX7_worst_F51 dX7_worst_63 ?_
      refine g_iload (pc := 66) C 4 dX7_worst_66 rfl ?_
      obtain ⟨r68, s68, hc68, h⟩ := hv_b2_some h
      refine g_callV (pc := 68) (σ1 := s68) (v := (some (.int (r68)))) (As := [.int (x5)]) (rest := []) C 22 (vX6_stands hc68) (cwV 1 C.1.2.2.2.2 gX7_worst_X6_stands rfl rfl rfl (by decide +kernel) ⟨Nat.le_of_ble_eq_true rfl, Nat.le_of_ble_eq_true rfl⟩) (Nat.le_of_ble_eq_true rfl) rfl rfl rfl rfl (Nat.le_of_ble_eq_true rfl) dX7_worst_68 ⟨Nat.zero_le _, Nat.zero_le _⟩ ?_
      refine g_st (st' := [.int (r68)]) rfl ?_
      refine g_if_eq (pc := 71) (tgt := 122) C dX7_worst_71 (by decide) (fun c71 => ?_) (fun c71 => ?_)
      · rw [if_pos c71] at h
        refine g_iload_n (pc := 122) C 2 dX7_worst_122 rfl rfl ?_
        cases h
        exact g_iret (pc := 123) C hr dX7_worst_123
      · rw [if_neg c71] at h
        refine g_aload_n (pc := 74) C 0 dX7_worst_74 rfl rfl ?_
        refine gx_get_0_2 (pc := 75) C iX7_worst_X7 qX7_worst_F30 dX7_worst_75 ?_
        refine g_aload_n (pc := 78) C 0 dX7_worst_78 rfl rfl ?_
        refine gx_get_0_5 (pc := 79) C iX7_worst_X7 qX7_worst_F51 dX7_worst_79 ?_
        refine g_iload (pc := 82) C 4 dX7_worst_82 rfl ?_
        obtain ⟨s84, hc84, h⟩ := hv_bd_some h
        refine g_callV (pc := 84) (σ1 := s84) (v := (some (.ref (a 25)))) (As := [.int (x5)]) (rest := [.ref (a 13)]) C 22 (vX6_loadsAt hc84) (cwV 1 C.1.2.2.2.2 gX7_worst_X6_loadsAt rfl rfl rfl (by decide +kernel) ⟨Nat.le_of_ble_eq_true rfl, Nat.le_of_ble_eq_true rfl⟩) (Nat.le_of_ble_eq_true rfl) rfl rfl rfl rfl (Nat.le_of_ble_eq_true rfl) dX7_worst_84 ⟨Nat.zero_le _, Nat.zero_le _⟩ ?_
        refine g_st (st' := [.ref (a 25), .ref (a 13)]) rfl ?_
        obtain ⟨s87, hc87, h⟩ := hv_bd_some h
        refine g_callV (pc := 87) (σ1 := s87) (v := none) (As := [.ref (a 25)]) (rest := []) C 13 (vX5_bear (Or.inr (rfl)) hc87) (cwV 1 C.1.2.2.2.2 gX7_worst_X5_bear rfl rfl rfl (by decide +kernel) ⟨Nat.le_of_ble_eq_true rfl, Nat.le_of_ble_eq_true rfl⟩) (Nat.le_of_ble_eq_true rfl) rfl rfl rfl rfl (Nat.le_of_ble_eq_true rfl) dX7_worst_87 ⟨Nat.zero_le _, Nat.zero_le _⟩ ?_
        refine g_st (st' := []) rfl ?_
        refine g_aload_n (pc := 90) C 0 dX7_worst_90 rfl rfl ?_
        refine gx_get_0_2 (pc := 91) C iX7_worst_X7 qX7_worst_F30 dX7_worst_91 ?_
        refine g_iload_n (pc := 94) C 1 dX7_worst_94 rfl rfl ?_
        obtain ⟨r95, s95, hc95, h⟩ := hv_b2_some h
        refine g_callV (pc := 95) (σ1 := s95) (v := (some (.long (r95)))) (As := [.int (x1)]) (rest := []) C 13 (vX5_overOf hc95) (cwV 1 C.1.2.2.2.2 gX7_worst_X5_overOf rfl rfl rfl (by decide +kernel) ⟨Nat.le_of_ble_eq_true rfl, Nat.le_of_ble_eq_true rfl⟩) (Nat.le_of_ble_eq_true rfl) rfl rfl rfl rfl (Nat.le_of_ble_eq_true rfl) dX7_worst_95 ⟨Nat.zero_le _, Nat.zero_le _⟩ ?_
        refine g_st (st' := [.long (r95)]) rfl ?_
        refine g_mabsL (pc := 98) C qX7_worst_ML249 qX7_worst_MS249 qX7_worst_MI249 qX7_worst_MC249 (Nat.le_of_ble_eq_true rfl) (Nat.le_of_ble_eq_true rfl) ⟨Nat.zero_le _, Nat.zero_le _⟩ dX7_worst_98 ?_
        obtain ⟨y_98, ey_98, h⟩ := hv_let_some h
        rw [← ey_98]
        refine g_lstore (pc := 101) C (lv' := [(6, .long (y_98)), (0, .ref (a 0)), (1, .int (x1)), (2, .int (x2)), (3, .long (x3)), (5, .int (x5))]) rfl dX7_worst_101 (Nat.le_of_ble_eq_true rfl) rfl ?_
        refine g_lload (pc := 103) C 0 dX7_worst_103 rfl ?_
        refine g_lload_n (pc := 105) C 4 dX7_worst_105 rfl rfl ?_
        refine g_lcmp (pc := 106) C dX7_worst_106 ?_
        refine g_if_le (pc := 107) (tgt := 116) C dX7_worst_107 (by decide) (fun c107 => ?_) (fun c107 => ?_)
        · rw [if_pos c107] at h
          exact g_lv [1, 2, 3, 4, 5] rfl (bX7_worst_116 C hr hr55 s95 (x1) (x2) (x3) (x5) h)
        · rw [if_neg c107] at h
          refine g_lload (pc := 110) C 0 dX7_worst_110 rfl ?_
          refine g_lstore_n (pc := 112) C (lv' := [(3, .long (y_98)), (6, .long (y_98)), (0, .ref (a 0)), (1, .int (x1)), (2, .int (x2)), (5, .int (x5))]) rfl dX7_worst_112 rfl (Nat.le_of_ble_eq_true rfl) rfl ?_
          refine g_iload (pc := 113) C 5 dX7_worst_113 rfl ?_
          refine g_istore_n (pc := 115) C (lv' := [(2, .int (x5)), (3, .long (y_98)), (6, .long (y_98)), (0, .ref (a 0)), (1, .int (x1)), (5, .int (x5))]) rfl dX7_worst_115 rfl (Nat.le_of_ble_eq_true rfl) rfl ?_
          exact g_lv [3, 4, 0, 1, 5] rfl (bX7_worst_116 C hr hr55 s95 (x1) (x5) (y_98) (x5) h)
set_option maxHeartbeats 4000000 in
set_option maxRecDepth 20000 in
theorem vX7_worst {n : Nat} {σ : hv_St} {p0 : Int32} {o : Int32 × hv_St} (h : mX7_worst n σ p0 = some o) : hv_M l yX7_worst wsX7_worst rmX7_worst D (hv_tys cy) 55 a (hv_XE a cy) [.ref (a 0), .int (p0)] σ (some (.int o.1)) o.2 := by
  refine hv_enter (own := RX7) (cc := cX7_worst) (maxL := 8) (ret := (some .int)) (by decide) rfl rfl (Nat.le_of_ble_eq_true rfl) ?_
  intro p e s m args below meth c C hr
  unfold mX7_worst at h
  refine g_lv [0, 1] (lv' := [(0, .ref (a 0)), (1, .int (p0))]) rfl ?_
  refine g_aload_n (pc := 0) C 0 dX7_worst_0 rfl rfl ?_
  refine gx_get_0_0 (pc := 1) C iX7_worst_X7 qX7_worst_F17 dX7_worst_1 ?_
  refine g_iload_n (pc := 4) C 1 dX7_worst_4 rfl rfl ?_
  obtain ⟨r5, s5, hc5, h⟩ := hv_b2_some h
  refine g_callV (pc := 5) (σ1 := s5) (v := (some (.int (r5)))) (As := [.int (p0)]) (rest := []) C 1 (vX3_isOn hc5) (cwV 1 C.1.2.2.2.2 gX7_worst_X3_isOn rfl rfl rfl (by decide +kernel) ⟨Nat.le_of_ble_eq_true rfl, Nat.le_of_ble_eq_true rfl⟩) (Nat.le_of_ble_eq_true rfl) rfl rfl rfl rfl (Nat.le_of_ble_eq_true rfl) dX7_worst_5 ⟨Nat.zero_le _, Nat.zero_le _⟩ ?_
  refine g_st (st' := [.int (r5)]) rfl ?_
  refine g_if_eq (pc := 8) (tgt := 44) C dX7_worst_8 (by decide) (fun c8 => ?_) (fun c8 => ?_)
  · rw [if_pos c8] at h
    refine g_iconst (pc := 44) C (v := (-1 : Int32)) dX7_worst_44 (by decide) ?_
    cases h
    exact g_iret (pc := 45) C hr dX7_worst_45
  · rw [if_neg c8] at h
    refine g_aload_n (pc := 11) C 0 dX7_worst_11 rfl rfl ?_
    refine gx_get_0_5 (pc := 12) C iX7_worst_X7 qX7_worst_F51 dX7_worst_12 ?_
    refine g_iconst (pc := 15) C (v := (0 : Int32)) dX7_worst_15 (by decide) ?_
    obtain ⟨r16, s16, hc16, h⟩ := hv_b2_some h
    refine g_callV (pc := 16) (σ1 := s16) (v := (some (.int (r16)))) (As := [.int ((0 : Int32))]) (rest := []) C 22 (vX6_stands hc16) (cwV 1 C.1.2.2.2.2 gX7_worst_X6_stands rfl rfl rfl (by decide +kernel) ⟨Nat.le_of_ble_eq_true rfl, Nat.le_of_ble_eq_true rfl⟩) (Nat.le_of_ble_eq_true rfl) rfl rfl rfl rfl (Nat.le_of_ble_eq_true rfl) dX7_worst_16 ⟨Nat.zero_le _, Nat.zero_le _⟩ ?_
    refine g_st (st' := [.int (r16)]) rfl ?_
    refine g_if_eq (pc := 19) (tgt := 44) C dX7_worst_19 (by decide) (fun c19 => ?_) (fun c19 => ?_)
    · rw [if_pos c19] at h
      refine g_iconst (pc := 44) C (v := (-1 : Int32)) dX7_worst_44 (by decide) ?_
      cases h
      exact g_iret (pc := 45) C hr dX7_worst_45
    · rw [if_neg c19] at h
      refine g_aload_n (pc := 22) C 0 dX7_worst_22 rfl rfl ?_
      refine g_aload_n (pc := 23) C 0 dX7_worst_23 rfl rfl ?_
      refine gx_get_0_0 (pc := 24) C iX7_worst_X7 qX7_worst_F17 dX7_worst_24 ?_
      refine gx_get_1_2 (pc := 27) C iX7_worst_X3 qX7_worst_F97 dX7_worst_27 ?_
      refine g_aload_n (pc := 30) C 0 dX7_worst_30 rfl rfl ?_
      refine gx_get_0_5 (pc := 31) C iX7_worst_X7 qX7_worst_F51 dX7_worst_31 ?_
      refine g_iconst (pc := 34) C (v := (0 : Int32)) dX7_worst_34 (by decide) ?_
      obtain ⟨s35, hc35, h⟩ := hv_bd_some h
      refine g_callV (pc := 35) (σ1 := s35) (v := (some (.ref (a 25)))) (As := [.int ((0 : Int32))]) (rest := [.int (s16.1 1 2), .ref (a 0)]) C 22 (vX6_loadsAt hc35) (cwV 1 C.1.2.2.2.2 gX7_worst_X6_loadsAt rfl rfl rfl (by decide +kernel) ⟨Nat.le_of_ble_eq_true rfl, Nat.le_of_ble_eq_true rfl⟩) (Nat.le_of_ble_eq_true rfl) rfl rfl rfl rfl (Nat.le_of_ble_eq_true rfl) dX7_worst_35 ⟨Nat.zero_le _, Nat.zero_le _⟩ ?_
      refine g_st (st' := [.ref (a 25), .int (s16.1 1 2), .ref (a 0)]) rfl ?_
      obtain ⟨r38, s38, hc38, h⟩ := hv_b2_some h
      refine g_callV (pc := 38) (σ1 := s38) (v := (some (.int (r38)))) (As := [.int (s16.1 1 2), .ref (a 25)]) (rest := []) C 0 (vX7_bears (Or.inr (rfl)) hc38) (cwV 2 C.1.2.2.2.2 gX7_worst_X7_bears rfl rfl rfl (by decide +kernel) ⟨Nat.le_of_ble_eq_true rfl, Nat.le_of_ble_eq_true rfl⟩) (Nat.le_of_ble_eq_true rfl) rfl rfl rfl rfl (Nat.le_of_ble_eq_true rfl) dX7_worst_38 ⟨Nat.zero_le _, Nat.zero_le _⟩ ?_
      refine g_st (st' := [.int (r38)]) rfl ?_
      refine g_if_ne (pc := 41) (tgt := 46) C dX7_worst_41 (by decide) (fun c41 => ?_) (fun c41 => ?_)
      · rw [if_neg c41] at h
        refine g_iconst (pc := 46) C (v := (-1 : Int32)) dX7_worst_46 (by decide) ?_
        refine g_istore_n (pc := 47) C (lv' := [(2, .int ((-1 : Int32))), (0, .ref (a 0)), (1, .int (p0))]) rfl dX7_worst_47 rfl (Nat.le_of_ble_eq_true rfl) rfl ?_
        refine g_ldc2 (pc := 48) C (v := (-1 : Int64)) qX7_worst_L243 dX7_worst_48 ?_
        refine g_lstore_n (pc := 51) C (lv' := [(3, .long ((-1 : Int64))), (2, .int ((-1 : Int32))), (0, .ref (a 0)), (1, .int (p0))]) rfl dX7_worst_51 rfl (Nat.le_of_ble_eq_true rfl) rfl ?_
        refine g_iconst (pc := 52) C (v := (0 : Int32)) dX7_worst_52 (by decide) ?_
        refine g_istore (pc := 53) C (lv' := [(5, .int ((0 : Int32))), (3, .long ((-1 : Int64))), (2, .int ((-1 : Int32))), (0, .ref (a 0)), (1, .int (p0))]) rfl dX7_worst_53 (Nat.le_of_ble_eq_true rfl) rfl ?_
        exact g_lv [3, 4, 2, 1, 0] rfl (bX7_worst_55 C hr n s38 (p0) ((-1 : Int32)) ((-1 : Int64)) ((0 : Int32)) h)
      · rw [if_pos c41] at h
        refine g_iconst (pc := 44) C (v := (-1 : Int32)) dX7_worst_44 (by decide) ?_
        cases h
        exact g_iret (pc := 45) C hr dX7_worst_45
end
