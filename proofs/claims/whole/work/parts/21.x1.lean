/-! class, walked: X1_addLoads, X1_determinant, X1_divides, X1_indexOf, X1_overOf, X2_greatestDivisor, X2_reduce, X3_isPin, X3_hasPinAt, X3_hasBar, X3_put, X3_addBar, X3_barsAt, X4_across, X4_turns, X4_determines, X4_doNext -/
section
variable {p : Program} {l : Launch} {e : Env} {s : State} {m : MethodId} {args : Array Value} {below : List Frame} {meth : Method} {c : Code} {D : va_G} {a : Nat → Nat} {cy : ClassId × ClassId × ClassId × ClassId}
abbrev rmX1_addLoads : Room := { frames := 1, cells := 0, slots := 0, locals := 24 }
set_option maxRecDepth 20000 in
theorem qX1_addLoads_F20 : Cond.fieldLink RX1 20 "PinFrame$Cut" "frame" "LPinFrame$Frame;" ∈ wsX1_addLoads := by decide +kernel
set_option maxRecDepth 20000 in
theorem qX1_addLoads_F24 : Cond.fieldLink RX1 24 "PinFrame$Frame" "pins" "I" ∈ wsX1_addLoads := by decide +kernel
set_option maxRecDepth 20000 in
theorem qX1_addLoads_F82 : Cond.fieldLink RX1 82 "PinFrame$Frame" "loads" "[I" ∈ wsX1_addLoads := by decide +kernel
set_option maxRecDepth 20000 in
theorem qX1_addLoads_NI_X7_has : Cond.initialized RX7 ∈ wsX1_addLoads := by decide +kernel
set_option maxRecDepth 20000 in
theorem qX1_addLoads_NS_X7_has : Cond.static yX7_has ∈ wsX1_addLoads := by decide +kernel
set_option maxRecDepth 20000 in
theorem iX1_addLoads_X1 : ∀ w ∈ u_ws RX1 TX1 5, w ∈ wsX1_addLoads := by decide +kernel
set_option maxRecDepth 20000 in
theorem iX1_addLoads_X3 : ∀ w ∈ u_ws RX3 TX3 10, w ∈ wsX1_addLoads := by decide +kernel
set_option maxHeartbeats 4000000 in
set_option maxRecDepth 20000 in
theorem bX1_addLoads_56 (C : hv_C p s m args meth c cX1_addLoads 3 wsX1_addLoads RX1 D (hv_tys cy)) (hr : meth.sig.returnType = none) {n : Nat} {o : hv_St} {r7 : hv_St → Int32 → Int32 → Option (hv_St)} (hr7 : ∀ (σ : hv_St) (x1 : Int32) (x2 : Int32), r7 σ x1 x2 = some o → hv_G p l e (headSpec wsX1_addLoads rmX1_addLoads).room s m args below meth c 3 D 55 a (hv_XE a cy) 0 0 (hv_MQ D 55 a (hv_XE a cy) below args s none o) σ 7 [(0, .ref (a 19)), (1, .int (x1)), (2, .int (x2))] []) : ∀ (σ : hv_St) (x1 : Int32) (x2 : Int32), kX1_addLoads_56 n r7 σ x1 x2 = some o → hv_G p l e (headSpec wsX1_addLoads rmX1_addLoads).room s m args below meth c 3 D 55 a (hv_XE a cy) 0 0 (hv_MQ D 55 a (hv_XE a cy) below args s none o) σ 56 [(0, .ref (a 19)), (1, .int (x1)), (2, .int (x2))] [] := by
  intro σ x1 x2 h
  unfold kX1_addLoads_56 at h
  refine g_iinc (pc := 56) C 2 (v := x2 + 1) (lv' := [(2, .int (x2 + 1)), (0, .ref (a 19)), (1, .int (x1))]) dX1_addLoads_56 rfl rfl (Nat.le_of_ble_eq_true rfl) rfl ?_
  refine g_goto (pc := 59) C (tgt := 7) dX1_addLoads_59 (by decide) ?_
  exact g_lv [1, 2, 0] rfl (hr7 σ (x1) (x2 + 1) h)
set_option maxHeartbeats 4000000 in
set_option maxRecDepth 20000 in
theorem bX1_addLoads_7 (C : hv_C p s m args meth c cX1_addLoads 3 wsX1_addLoads RX1 D (hv_tys cy)) (hr : meth.sig.returnType = none) {n : Nat} {o : hv_St} : ∀ (i : Nat) (σ : hv_St) (x1 : Int32) (x2 : Int32), kX1_addLoads_7 n i σ x1 x2 = some o → hv_G p l e (headSpec wsX1_addLoads rmX1_addLoads).room s m args below meth c 3 D 55 a (hv_XE a cy) 0 0 (hv_MQ D 55 a (hv_XE a cy) below args s none o) σ 7 [(0, .ref (a 19)), (1, .int (x1)), (2, .int (x2))] [] := by
  intro i
  induction i with
  | zero =>
    intro σ x1 x2 h
    cases h
  | succ i ih =>
    intro σ x1 x2 h
    generalize hg : kX1_addLoads_7 n i = r7 at ih
    have hr7 := ih
    replace h : kX1_addLoads_7_b n r7 σ x1 x2 = some o := by rw [← hg]; exact h
    unfold kX1_addLoads_7_b at h
    refine g_iload_n (pc := 7) C 2 dX1_addLoads_7 rfl rfl ?_
    refine g_aload_n (pc := 8) C 0 dX1_addLoads_8 rfl rfl ?_
    refine gx_get_19_0 (pc := 9) C iX1_addLoads_X1 qX1_addLoads_F20 dX1_addLoads_9 ?_
    refine gx_get_1_0 (pc := 12) C iX1_addLoads_X3 qX1_addLoads_F24 dX1_addLoads_12 ?_
    refine g_icmp_ge (pc := 15) (tgt := 62) C dX1_addLoads_15 (by decide) (fun c15 => ?_) (fun c15 => ?_)
    · rw [if_pos c15] at h
      cases h
      exact g_vret (pc := 62) C hr dX1_addLoads_62
    · rw [if_neg c15] at h
      refine g_iload_n (pc := 18) C 1 dX1_addLoads_18 rfl rfl ?_
      refine g_iload_n (pc := 19) C 2 dX1_addLoads_19 rfl rfl ?_
      obtain ⟨r20, s20, hc20, h⟩ := hv_b2_some h
      refine g_callSN (pc := 20) (σ1 := s20) (v := (some (.int (r20)))) (As := [.int (x1), .int (x2)]) (rest := []) C (vX7_has hc20) (va_cnB 2 C.1.2.2.2.2 gX1_addLoads_X7_has_n44 rfl rfl rfl (C.2.1.2 _ (List.mem_of_getElem? (i := 10) rfl)) (C.1.2.2.2.2 _ qX1_addLoads_NI_X7_has) (by decide +kernel) ⟨Nat.le_of_ble_eq_true rfl, Nat.le_of_ble_eq_true rfl⟩) qX1_addLoads_NS_X7_has rfl rfl (Nat.le_of_ble_eq_true rfl) dX1_addLoads_20 ⟨Nat.zero_le _, Nat.zero_le _⟩ ?_
      refine g_st (st' := [.int (r20)]) rfl ?_
      refine g_if_eq (pc := 23) (tgt := 56) C dX1_addLoads_23 (by decide) (fun c23 => ?_) (fun c23 => ?_)
      · rw [if_pos c23] at h
        exact g_lv [0, 1, 2] rfl (bX1_addLoads_56 C hr hr7 s20 (x1) (x2) h)
      · rw [if_neg c23] at h
        refine g_aload_n (pc := 26) C 0 dX1_addLoads_26 rfl rfl ?_
        refine g_iconst (pc := 27) C (v := (3 : Int32)) dX1_addLoads_27 (by decide) ?_
        refine g_iload_n (pc := 28) C 2 dX1_addLoads_28 rfl rfl ?_
        refine g_aload_n (pc := 29) C 0 dX1_addLoads_29 rfl rfl ?_
        refine gx_get_19_0 (pc := 30) C iX1_addLoads_X1 qX1_addLoads_F20 dX1_addLoads_30 ?_
        refine gx_get_1_4 (pc := 33) C iX1_addLoads_X3 qX1_addLoads_F82 dX1_addLoads_33 ?_
        refine g_iconst (pc := 36) C (v := (2 : Int32)) dX1_addLoads_36 (by decide) ?_
        refine g_iload_n (pc := 37) C 2 dX1_addLoads_37 rfl rfl ?_
        refine g_imul (pc := 38) C dX1_addLoads_38 ?_
        obtain ⟨k39, h⟩ := hv_if_some h
        refine gx_ld_3 (pc := 39) C k39 dX1_addLoads_39 ?_
        refine g_aload_n (pc := 40) C 0 dX1_addLoads_40 rfl rfl ?_
        refine gx_get_19_0 (pc := 41) C iX1_addLoads_X1 qX1_addLoads_F20 dX1_addLoads_41 ?_
        refine gx_get_1_4 (pc := 44) C iX1_addLoads_X3 qX1_addLoads_F82 dX1_addLoads_44 ?_
        refine g_iconst (pc := 47) C (v := (2 : Int32)) dX1_addLoads_47 (by decide) ?_
        refine g_iload_n (pc := 48) C 2 dX1_addLoads_48 rfl rfl ?_
        refine g_imul (pc := 49) C dX1_addLoads_49 ?_
        refine g_iconst (pc := 50) C (v := (1 : Int32)) dX1_addLoads_50 (by decide) ?_
        refine g_iadd (pc := 51) C dX1_addLoads_51 ?_
        obtain ⟨k52, h⟩ := hv_if_some h
        refine gx_ld_3 (pc := 52) C k52 dX1_addLoads_52 ?_
        obtain ⟨s53, hc53, h⟩ := hv_bd_some h
        refine g_callV (pc := 53) (σ1 := s53) (v := none) (As := [.int ((3 : Int32)), .int (x2), .int (s20.1 3 (((2 : Int32)) * (x2)).toNatClampNeg), .int (s20.1 3 ((((2 : Int32)) * (x2)) + ((1 : Int32))).toNatClampNeg)]) (rest := []) C 19 (vX1_add hc53) (cwV 4 C.1.2.2.2.2 gX1_addLoads_X1_add rfl rfl rfl (by decide +kernel) ⟨Nat.le_of_ble_eq_true rfl, Nat.le_of_ble_eq_true rfl⟩) (Nat.le_of_ble_eq_true rfl) rfl rfl rfl rfl (Nat.le_of_ble_eq_true rfl) dX1_addLoads_53 ⟨Nat.zero_le _, Nat.zero_le _⟩ ?_
        refine g_st (st' := []) rfl ?_
        exact g_lv [0, 1, 2] rfl (bX1_addLoads_56 C hr hr7 s53 (x1) (x2) h)
set_option maxHeartbeats 4000000 in
set_option maxRecDepth 20000 in
theorem vX1_addLoads {n : Nat} {σ : hv_St} {p0 : Int32} {o : hv_St} (h : mX1_addLoads n σ p0 = some o) : hv_M l yX1_addLoads wsX1_addLoads rmX1_addLoads D (hv_tys cy) 55 a (hv_XE a cy) [.ref (a 19), .int (p0)] σ none o := by
  refine hv_enter (own := RX1) (cc := cX1_addLoads) (maxL := 3) (ret := none) (by decide) rfl rfl (Nat.le_of_ble_eq_true rfl) ?_
  intro p e s m args below meth c C hr
  unfold mX1_addLoads at h
  refine g_lv [0, 1] (lv' := [(0, .ref (a 19)), (1, .int (p0))]) rfl ?_
  refine g_aload_n (pc := 0) C 0 dX1_addLoads_0 rfl rfl ?_
  refine g_iconst (pc := 1) C (v := (3 : Int32)) dX1_addLoads_1 (by decide) ?_
  obtain ⟨s2, hc2, h⟩ := hv_bd_some h
  refine g_callV (pc := 2) (σ1 := s2) (v := none) (As := [.int ((3 : Int32))]) (rest := []) C 19 (vX1_clear hc2) (cwV 1 C.1.2.2.2.2 gX1_addLoads_X1_clear rfl rfl rfl (by decide +kernel) ⟨Nat.le_of_ble_eq_true rfl, Nat.le_of_ble_eq_true rfl⟩) (Nat.le_of_ble_eq_true rfl) rfl rfl rfl rfl (Nat.le_of_ble_eq_true rfl) dX1_addLoads_2 ⟨Nat.zero_le _, Nat.zero_le _⟩ ?_
  refine g_st (st' := []) rfl ?_
  refine g_iconst (pc := 5) C (v := (0 : Int32)) dX1_addLoads_5 (by decide) ?_
  refine g_istore_n (pc := 6) C (lv' := [(2, .int ((0 : Int32))), (0, .ref (a 19)), (1, .int (p0))]) rfl dX1_addLoads_6 rfl (Nat.le_of_ble_eq_true rfl) rfl ?_
  exact g_lv [1, 2, 0] rfl (bX1_addLoads_7 C hr n s2 (p0) ((0 : Int32)) h)
abbrev rmX1_determinant : Room := { frames := 0, cells := 0, slots := 0, locals := 0 }
set_option maxRecDepth 20000 in
theorem qX1_determinant_F17 : Cond.fieldLink RX1 17 "PinFrame$Cut" "sums" "[[J" ∈ wsX1_determinant := by decide +kernel
set_option maxRecDepth 20000 in
theorem iX1_determinant_X1 : ∀ w ∈ u_ws RX1 TX1 5, w ∈ wsX1_determinant := by decide +kernel
set_option maxHeartbeats 4000000 in
set_option maxRecDepth 20000 in
theorem vX1_determinant {n : Nat} {σ : hv_St} {p0 : Int32} {p1 : Int32} {p2 : Int32} {o : Int64 × hv_St} (h : mX1_determinant n σ p0 p1 p2 = some o) : hv_M l yX1_determinant wsX1_determinant rmX1_determinant D (hv_tys cy) 55 a (hv_XE a cy) [.ref (a 19), .int (p0), .int (p1), .int (p2)] σ (some (.long o.1)) o.2 := by
  refine hv_enter (own := RX1) (cc := cX1_determinant) (maxL := 10) (ret := (some .long)) (by decide) rfl rfl (Nat.le_of_ble_eq_true rfl) ?_
  intro p e s m args below meth c C hr
  unfold mX1_determinant at h
  refine g_lv [0, 1, 2, 3] (lv' := [(0, .ref (a 19)), (1, .int (p0)), (2, .int (p1)), (3, .int (p2))]) rfl ?_
  refine g_aload_n (pc := 0) C 0 dX1_determinant_0 rfl rfl ?_
  refine gx_get_19_3 (pc := 1) C iX1_determinant_X1 qX1_determinant_F17 dX1_determinant_1 ?_
  refine g_iconst (pc := 4) C (v := (0 : Int32)) dX1_determinant_4 (by decide) ?_
  obtain ⟨k5, h⟩ := hv_if_some h
  refine gx_ld_21 (pc := 5) C k5 dX1_determinant_5 ?_
  refine g_iload_n (pc := 6) C 1 dX1_determinant_6 rfl rfl ?_
  obtain ⟨k7, h⟩ := hv_if_some h
  refine gx_ldr_52 (pc := 7) C k5 k7 dX1_determinant_7 ?_
  refine g_aload_n (pc := 8) C 0 dX1_determinant_8 rfl rfl ?_
  refine gx_get_19_3 (pc := 9) C iX1_determinant_X1 qX1_determinant_F17 dX1_determinant_9 ?_
  refine g_iconst (pc := 12) C (v := (1 : Int32)) dX1_determinant_12 (by decide) ?_
  obtain ⟨k13, h⟩ := hv_if_some h
  refine gx_ld_21 (pc := 13) C k13 dX1_determinant_13 ?_
  refine g_iload_n (pc := 14) C 2 dX1_determinant_14 rfl rfl ?_
  obtain ⟨k15, h⟩ := hv_if_some h
  refine gx_ldr_52 (pc := 15) C k13 k15 dX1_determinant_15 ?_
  refine g_aload_n (pc := 16) C 0 dX1_determinant_16 rfl rfl ?_
  refine gx_get_19_3 (pc := 17) C iX1_determinant_X1 qX1_determinant_F17 dX1_determinant_17 ?_
  refine g_iconst (pc := 20) C (v := (2 : Int32)) dX1_determinant_20 (by decide) ?_
  obtain ⟨k21, h⟩ := hv_if_some h
  refine gx_ld_21 (pc := 21) C k21 dX1_determinant_21 ?_
  refine g_iload_n (pc := 22) C 3 dX1_determinant_22 rfl rfl ?_
  obtain ⟨k23, h⟩ := hv_if_some h
  refine gx_ldr_52 (pc := 23) C k21 k23 dX1_determinant_23 ?_
  refine g_lmul (pc := 24) C dX1_determinant_24 ?_
  refine g_aload_n (pc := 25) C 0 dX1_determinant_25 rfl rfl ?_
  refine gx_get_19_3 (pc := 26) C iX1_determinant_X1 qX1_determinant_F17 dX1_determinant_26 ?_
  refine g_iconst (pc := 29) C (v := (1 : Int32)) dX1_determinant_29 (by decide) ?_
  obtain ⟨k30, h⟩ := hv_if_some h
  refine gx_ld_21 (pc := 30) C k30 dX1_determinant_30 ?_
  refine g_iload_n (pc := 31) C 3 dX1_determinant_31 rfl rfl ?_
  obtain ⟨k32, h⟩ := hv_if_some h
  refine gx_ldr_52 (pc := 32) C k30 k32 dX1_determinant_32 ?_
  refine g_aload_n (pc := 33) C 0 dX1_determinant_33 rfl rfl ?_
  refine gx_get_19_3 (pc := 34) C iX1_determinant_X1 qX1_determinant_F17 dX1_determinant_34 ?_
  refine g_iconst (pc := 37) C (v := (2 : Int32)) dX1_determinant_37 (by decide) ?_
  obtain ⟨k38, h⟩ := hv_if_some h
  refine gx_ld_21 (pc := 38) C k38 dX1_determinant_38 ?_
  refine g_iload_n (pc := 39) C 2 dX1_determinant_39 rfl rfl ?_
  obtain ⟨k40, h⟩ := hv_if_some h
  refine gx_ldr_52 (pc := 40) C k38 k40 dX1_determinant_40 ?_
  refine g_lmul (pc := 41) C dX1_determinant_41 ?_
  refine g_lsub (pc := 42) C dX1_determinant_42 ?_
  refine g_lmul (pc := 43) C dX1_determinant_43 ?_
  obtain ⟨y4_44, ey4_44, h⟩ := hv_let_some h
  refine g_lstore (pc := 44) C (lv' := [(4, .long (y4_44)), (0, .ref (a 19)), (1, .int (p0)), (2, .int (p1)), (3, .int (p2))]) ey4_44 dX1_determinant_44 (Nat.le_of_ble_eq_true rfl) rfl ?_
  refine g_aload_n (pc := 46) C 1 dX1_determinant_46 rfl rfl ?_
  refine gx_get_19_3 (pc := 47) C iX1_determinant_X1 qX1_determinant_F17 dX1_determinant_47 ?_
  refine g_iconst (pc := 50) C (v := (0 : Int32)) dX1_determinant_50 (by decide) ?_
  obtain ⟨k51, h⟩ := hv_if_some h
  refine gx_ld_21 (pc := 51) C k51 dX1_determinant_51 ?_
  refine g_iload_n (pc := 52) C 3 dX1_determinant_52 rfl rfl ?_
  obtain ⟨k53, h⟩ := hv_if_some h
  refine gx_ldr_52 (pc := 53) C k51 k53 dX1_determinant_53 ?_
  refine g_aload_n (pc := 54) C 1 dX1_determinant_54 rfl rfl ?_
  refine gx_get_19_3 (pc := 55) C iX1_determinant_X1 qX1_determinant_F17 dX1_determinant_55 ?_
  refine g_iconst (pc := 58) C (v := (1 : Int32)) dX1_determinant_58 (by decide) ?_
  obtain ⟨k59, h⟩ := hv_if_some h
  refine gx_ld_21 (pc := 59) C k59 dX1_determinant_59 ?_
  refine g_iload_n (pc := 60) C 4 dX1_determinant_60 rfl rfl ?_
  obtain ⟨k61, h⟩ := hv_if_some h
  refine gx_ldr_52 (pc := 61) C k59 k61 dX1_determinant_61 ?_
  refine g_aload_n (pc := 62) C 1 dX1_determinant_62 rfl rfl ?_
  refine gx_get_19_3 (pc := 63) C iX1_determinant_X1 qX1_determinant_F17 dX1_determinant_63 ?_
  refine g_iconst (pc := 66) C (v := (2 : Int32)) dX1_determinant_66 (by decide) ?_
  obtain ⟨k67, h⟩ := hv_if_some h
  refine gx_ld_21 (pc := 67) C k67 dX1_determinant_67 ?_
  refine g_iload_n (pc := 68) C 2 dX1_determinant_68 rfl rfl ?_
  obtain ⟨k69, h⟩ := hv_if_some h
  refine gx_ldr_52 (pc := 69) C k67 k69 dX1_determinant_69 ?_
  refine g_lmul (pc := 70) C dX1_determinant_70 ?_
  refine g_aload_n (pc := 71) C 1 dX1_determinant_71 rfl rfl ?_
  refine gx_get_19_3 (pc := 72) C iX1_determinant_X1 qX1_determinant_F17 dX1_determinant_72 ?_
  refine g_iconst (pc := 75) C (v := (1 : Int32)) dX1_determinant_75 (by decide) ?_
  obtain ⟨k76, h⟩ := hv_if_some h
  refine gx_ld_21 (pc := 76) C k76 dX1_determinant_76 ?_
  refine g_iload_n (pc := 77) C 2 dX1_determinant_77 rfl rfl ?_
  obtain ⟨k78, h⟩ := hv_if_some h
  refine gx_ldr_52 (pc := 78) C k76 k78 dX1_determinant_78 ?_
  refine g_aload_n (pc := 79) C 1 dX1_determinant_79 rfl rfl ?_
  refine gx_get_19_3 (pc := 80) C iX1_determinant_X1 qX1_determinant_F17 dX1_determinant_80 ?_
  refine g_iconst (pc := 83) C (v := (2 : Int32)) dX1_determinant_83 (by decide) ?_
  obtain ⟨k84, h⟩ := hv_if_some h
  refine gx_ld_21 (pc := 84) C k84 dX1_determinant_84 ?_
  refine g_iload_n (pc := 85) C 4 dX1_determinant_85 rfl rfl ?_
  obtain ⟨k86, h⟩ := hv_if_some h
  refine gx_ldr_52 (pc := 86) C k84 k86 dX1_determinant_86 ?_
  refine g_lmul (pc := 87) C dX1_determinant_87 ?_
  refine g_lsub (pc := 88) C dX1_determinant_88 ?_
  refine g_lmul (pc := 89) C dX1_determinant_89 ?_
  obtain ⟨y6_90, ey6_90, h⟩ := hv_let_some h
  refine g_lstore (pc := 90) C (lv' := [(6, .long (y6_90)), (4, .long (y4_44)), (0, .ref (a 19)), (1, .int (p0)), (2, .int (p1)), (3, .int (p2))]) ey6_90 dX1_determinant_90 (Nat.le_of_ble_eq_true rfl) rfl ?_
  refine g_aload_n (pc := 92) C 2 dX1_determinant_92 rfl rfl ?_
  refine gx_get_19_3 (pc := 93) C iX1_determinant_X1 qX1_determinant_F17 dX1_determinant_93 ?_
  refine g_iconst (pc := 96) C (v := (0 : Int32)) dX1_determinant_96 (by decide) ?_
  obtain ⟨k97, h⟩ := hv_if_some h
  refine gx_ld_21 (pc := 97) C k97 dX1_determinant_97 ?_
  refine g_iload_n (pc := 98) C 5 dX1_determinant_98 rfl rfl ?_
  obtain ⟨k99, h⟩ := hv_if_some h
  refine gx_ldr_52 (pc := 99) C k97 k99 dX1_determinant_99 ?_
  refine g_aload_n (pc := 100) C 2 dX1_determinant_100 rfl rfl ?_
  refine gx_get_19_3 (pc := 101) C iX1_determinant_X1 qX1_determinant_F17 dX1_determinant_101 ?_
  refine g_iconst (pc := 104) C (v := (1 : Int32)) dX1_determinant_104 (by decide) ?_
  obtain ⟨k105, h⟩ := hv_if_some h
  refine gx_ld_21 (pc := 105) C k105 dX1_determinant_105 ?_
  refine g_iload_n (pc := 106) C 3 dX1_determinant_106 rfl rfl ?_
  obtain ⟨k107, h⟩ := hv_if_some h
  refine gx_ldr_52 (pc := 107) C k105 k107 dX1_determinant_107 ?_
  refine g_aload_n (pc := 108) C 2 dX1_determinant_108 rfl rfl ?_
  refine gx_get_19_3 (pc := 109) C iX1_determinant_X1 qX1_determinant_F17 dX1_determinant_109 ?_
  refine g_iconst (pc := 112) C (v := (2 : Int32)) dX1_determinant_112 (by decide) ?_
  obtain ⟨k113, h⟩ := hv_if_some h
  refine gx_ld_21 (pc := 113) C k113 dX1_determinant_113 ?_
  refine g_iload_n (pc := 114) C 4 dX1_determinant_114 rfl rfl ?_
  obtain ⟨k115, h⟩ := hv_if_some h
  refine gx_ldr_52 (pc := 115) C k113 k115 dX1_determinant_115 ?_
  refine g_lmul (pc := 116) C dX1_determinant_116 ?_
  refine g_aload_n (pc := 117) C 2 dX1_determinant_117 rfl rfl ?_
  refine gx_get_19_3 (pc := 118) C iX1_determinant_X1 qX1_determinant_F17 dX1_determinant_118 ?_
  refine g_iconst (pc := 121) C (v := (1 : Int32)) dX1_determinant_121 (by decide) ?_
  obtain ⟨k122, h⟩ := hv_if_some h
  refine gx_ld_21 (pc := 122) C k122 dX1_determinant_122 ?_
  refine g_iload_n (pc := 123) C 4 dX1_determinant_123 rfl rfl ?_
  obtain ⟨k124, h⟩ := hv_if_some h
  refine gx_ldr_52 (pc := 124) C k122 k124 dX1_determinant_124 ?_
  refine g_aload_n (pc := 125) C 2 dX1_determinant_125 rfl rfl ?_
  refine gx_get_19_3 (pc := 126) C iX1_determinant_X1 qX1_determinant_F17 dX1_determinant_126 ?_
  refine g_iconst (pc := 129) C (v := (2 : Int32)) dX1_determinant_129 (by decide) ?_
  obtain ⟨k130, h⟩ := hv_if_some h
  refine gx_ld_21 (pc := 130) C k130 dX1_determinant_130 ?_
  refine g_iload_n (pc := 131) C 3 dX1_determinant_131 rfl rfl ?_
  obtain ⟨k132, h⟩ := hv_if_some h
  refine gx_ldr_52 (pc := 132) C k130 k132 dX1_determinant_132 ?_
  refine g_lmul (pc := 133) C dX1_determinant_133 ?_
  refine g_lsub (pc := 134) C dX1_determinant_134 ?_
  refine g_lmul (pc := 135) C dX1_determinant_135 ?_
  obtain ⟨y8_136, ey8_136, h⟩ := hv_let_some h
  refine g_lstore (pc := 136) C (lv' := [(8, .long (y8_136)), (6, .long (y6_90)), (4, .long (y4_44)), (0, .ref (a 19)), (1, .int (p0)), (2, .int (p1)), (3, .int (p2))]) ey8_136 dX1_determinant_136 (Nat.le_of_ble_eq_true rfl) rfl ?_
  refine g_lload (pc := 138) C 2 dX1_determinant_138 rfl ?_
  refine g_lload (pc := 140) C 1 dX1_determinant_140 rfl ?_
  refine g_ladd (pc := 142) C dX1_determinant_142 ?_
  refine g_lload (pc := 143) C 0 dX1_determinant_143 rfl ?_
  refine g_ladd (pc := 145) C dX1_determinant_145 ?_
  cases h
  exact g_lret (pc := 146) C hr dX1_determinant_146
abbrev rmX1_divides : Room := { frames := 3, cells := 0, slots := 0, locals := 64 }
set_option maxRecDepth 20000 in
theorem qX1_divides_F20 : Cond.fieldLink RX1 20 "PinFrame$Cut" "frame" "LPinFrame$Frame;" ∈ wsX1_divides := by decide +kernel
set_option maxRecDepth 20000 in
theorem qX1_divides_F24 : Cond.fieldLink RX1 24 "PinFrame$Frame" "pins" "I" ∈ wsX1_divides := by decide +kernel
set_option maxRecDepth 20000 in
theorem qX1_divides_F38 : Cond.fieldLink RX1 38 "PinFrame$Cut" "many" "I" ∈ wsX1_divides := by decide +kernel
set_option maxRecDepth 20000 in
theorem qX1_divides_F41 : Cond.fieldLink RX1 41 "PinFrame$Frame" "one" "[I" ∈ wsX1_divides := by decide +kernel
set_option maxRecDepth 20000 in
theorem qX1_divides_F48 : Cond.fieldLink RX1 48 "PinFrame$Frame" "other" "[I" ∈ wsX1_divides := by decide +kernel
set_option maxRecDepth 20000 in
theorem qX1_divides_F69 : Cond.fieldLink RX1 69 "PinFrame$Cut" "under" "J" ∈ wsX1_divides := by decide +kernel
set_option maxRecDepth 20000 in
theorem qX1_divides_F9 : Cond.fieldLink RX1 9 "PinFrame$Cut" "bars" "[I" ∈ wsX1_divides := by decide +kernel
set_option maxRecDepth 20000 in
theorem qX1_divides_NI_X7_has : Cond.initialized RX7 ∈ wsX1_divides := by decide +kernel
set_option maxRecDepth 20000 in
theorem qX1_divides_NS_X7_has : Cond.static yX7_has ∈ wsX1_divides := by decide +kernel
set_option maxRecDepth 20000 in
theorem iX1_divides_X1 : ∀ w ∈ u_ws RX1 TX1 5, w ∈ wsX1_divides := by decide +kernel
set_option maxRecDepth 20000 in
theorem iX1_divides_X3 : ∀ w ∈ u_ws RX3 TX3 10, w ∈ wsX1_divides := by decide +kernel
set_option maxHeartbeats 4000000 in
set_option maxRecDepth 20000 in
theorem bX1_divides_90 (C : hv_C p s m args meth c cX1_divides 5 wsX1_divides RX1 D (hv_tys cy)) (hr : meth.sig.returnType = (some .boolean)) {n : Nat} {o : Int32 × hv_St} {r44 : hv_St → Int32 → Int32 → Option (Int32 × hv_St)} (hr44 : ∀ (σ : hv_St) (x1 : Int32) (x2 : Int32), r44 σ x1 x2 = some o → hv_G p l e (headSpec wsX1_divides rmX1_divides).room s m args below meth c 5 D 55 a (hv_XE a cy) 0 0 (hv_MQ D 55 a (hv_XE a cy) below args s (some (.int o.1)) o.2) σ 44 [(0, .ref (a 19)), (1, .int (x1)), (2, .int (x2))] []) : ∀ (σ : hv_St) (x1 : Int32) (x2 : Int32) (z0 : Int32), kX1_divides_90 n r44 σ x1 x2 z0 = some o → hv_G p l e (headSpec wsX1_divides rmX1_divides).room s m args below meth c 5 D 55 a (hv_XE a cy) 0 0 (hv_MQ D 55 a (hv_XE a cy) below args s (some (.int o.1)) o.2) σ 90 [(0, .ref (a 19)), (1, .int (x1)), (2, .int (x2))] [.int (z0)] := by
  intro σ x1 x2 z0 h
  unfold kX1_divides_90 at h
  refine g_istore (pc := 90) C (lv' := [(4, .int (z0)), (0, .ref (a 19)), (1, .int (x1)), (2, .int (x2))]) rfl dX1_divides_90 (Nat.le_of_ble_eq_true rfl) rfl ?_
  refine g_aload_n (pc := 92) C 1 dX1_divides_92 rfl rfl ?_
  refine g_iload_n (pc := 93) C 3 dX1_divides_93 rfl rfl ?_
  obtain ⟨s94, hc94, h⟩ := hv_bd_some h
  refine g_callV (pc := 94) (σ1 := s94) (v := none) (As := [.int (x2)]) (rest := []) C 19 (vX1_clear hc94) (cwV 1 C.1.2.2.2.2 gX1_divides_X1_clear rfl rfl rfl (by decide +kernel) ⟨Nat.le_of_ble_eq_true rfl, Nat.le_of_ble_eq_true rfl⟩) (Nat.le_of_ble_eq_true rfl) rfl rfl rfl rfl (Nat.le_of_ble_eq_true rfl) dX1_divides_94 ⟨Nat.zero_le _, Nat.zero_le _⟩ ?_
  refine g_st (st' := []) rfl ?_
  refine g_aload_n (pc := 97) C 1 dX1_divides_97 rfl rfl ?_
  refine g_iload_n (pc := 98) C 3 dX1_divides_98 rfl rfl ?_
  refine g_iload (pc := 99) C 0 dX1_divides_99 rfl ?_
  refine g_aload_n (pc := 101) C 1 dX1_divides_101 rfl rfl ?_
  refine gx_get_19_0 (pc := 102) C iX1_divides_X1 qX1_divides_F20 dX1_divides_102 ?_
  refine g_aload_n (pc := 105) C 1 dX1_divides_105 rfl rfl ?_
  refine gx_get_19_1 (pc := 106) C iX1_divides_X1 qX1_divides_F9 dX1_divides_106 ?_
  refine g_iload_n (pc := 109) C 3 dX1_divides_109 rfl rfl ?_
  obtain ⟨k110, h⟩ := hv_if_some h
  refine gx_ld_20 (pc := 110) C k110 dX1_divides_110 ?_
  refine g_iconst (pc := 111) C (v := (2 : Int32)) dX1_divides_111 (by decide) ?_
  refine g_iload (pc := 112) C 0 dX1_divides_112 rfl ?_
  refine g_imul (pc := 114) C dX1_divides_114 ?_
  obtain ⟨r115, s115, hc115, h⟩ := hv_b2_some h
  refine g_callV (pc := 115) (σ1 := s115) (v := (some (.int (r115)))) (As := [.int (s94.1 20 (x2).toNatClampNeg), .int (((2 : Int32)) * (z0))]) (rest := [.int (z0), .int (x2), .ref (a 19)]) C 1 (vX3_brings hc115) (cwV 2 C.1.2.2.2.2 gX1_divides_X3_brings rfl rfl rfl (by decide +kernel) ⟨Nat.le_of_ble_eq_true rfl, Nat.le_of_ble_eq_true rfl⟩) (Nat.le_of_ble_eq_true rfl) rfl rfl rfl rfl (Nat.le_of_ble_eq_true rfl) dX1_divides_115 ⟨Nat.zero_le _, Nat.zero_le _⟩ ?_
  refine g_st (st' := [.int (r115), .int (z0), .int (x2), .ref (a 19)]) rfl ?_
  refine g_aload_n (pc := 118) C 1 dX1_divides_118 rfl rfl ?_
  refine gx_get_19_0 (pc := 119) C iX1_divides_X1 qX1_divides_F20 dX1_divides_119 ?_
  refine g_aload_n (pc := 122) C 1 dX1_divides_122 rfl rfl ?_
  refine gx_get_19_1 (pc := 123) C iX1_divides_X1 qX1_divides_F9 dX1_divides_123 ?_
  refine g_iload_n (pc := 126) C 3 dX1_divides_126 rfl rfl ?_
  obtain ⟨k127, h⟩ := hv_if_some h
  refine gx_ld_20 (pc := 127) C k127 dX1_divides_127 ?_
  refine g_iconst (pc := 128) C (v := (2 : Int32)) dX1_divides_128 (by decide) ?_
  refine g_iload (pc := 129) C 0 dX1_divides_129 rfl ?_
  refine g_imul (pc := 131) C dX1_divides_131 ?_
  refine g_iconst (pc := 132) C (v := (1 : Int32)) dX1_divides_132 (by decide) ?_
  refine g_iadd (pc := 133) C dX1_divides_133 ?_
  obtain ⟨r134, s134, hc134, h⟩ := hv_b2_some h
  refine g_callV (pc := 134) (σ1 := s134) (v := (some (.int (r134)))) (As := [.int (s115.1 20 (x2).toNatClampNeg), .int ((((2 : Int32)) * (z0)) + ((1 : Int32)))]) (rest := [.int (r115), .int (z0), .int (x2), .ref (a 19)]) C 1 (vX3_brings hc134) (cwV 2 C.1.2.2.2.2 gX1_divides_X3_brings rfl rfl rfl (by decide +kernel) ⟨Nat.le_of_ble_eq_true rfl, Nat.le_of_ble_eq_true rfl⟩) (Nat.le_of_ble_eq_true rfl) rfl rfl rfl rfl (Nat.le_of_ble_eq_true rfl) dX1_divides_134 ⟨Nat.zero_le _, Nat.zero_le _⟩ ?_
  refine g_st (st' := [.int (r134), .int (r115), .int (z0), .int (x2), .ref (a 19)]) rfl ?_
  obtain ⟨s137, hc137, h⟩ := hv_bd_some h
  refine g_callV (pc := 137) (σ1 := s137) (v := none) (As := [.int (x2), .int (z0), .int (r115), .int (r134)]) (rest := []) C 19 (vX1_add hc137) (cwV 4 C.1.2.2.2.2 gX1_divides_X1_add rfl rfl rfl (by decide +kernel) ⟨Nat.le_of_ble_eq_true rfl, Nat.le_of_ble_eq_true rfl⟩) (Nat.le_of_ble_eq_true rfl) rfl rfl rfl rfl (Nat.le_of_ble_eq_true rfl) dX1_divides_137 ⟨Nat.zero_le _, Nat.zero_le _⟩ ?_
  refine g_st (st' := []) rfl ?_
  refine g_iinc (pc := 140) C 3 (v := x2 + 1) (lv' := [(2, .int (x2 + 1)), (4, .int (z0)), (0, .ref (a 19)), (1, .int (x1))]) dX1_divides_140 rfl rfl (Nat.le_of_ble_eq_true rfl) rfl ?_
  refine g_goto (pc := 143) C (tgt := 44) dX1_divides_143 (by decide) ?_
  exact g_lv [2, 3, 0] rfl (hr44 s137 (x1) (x2 + 1) h)
set_option maxHeartbeats 4000000 in
set_option maxRecDepth 20000 in
theorem bX1_divides_44 (C : hv_C p s m args meth c cX1_divides 5 wsX1_divides RX1 D (hv_tys cy)) (hr : meth.sig.returnType = (some .boolean)) {n : Nat} {o : Int32 × hv_St} : ∀ (i : Nat) (σ : hv_St) (x1 : Int32) (x2 : Int32), kX1_divides_44 n i σ x1 x2 = some o → hv_G p l e (headSpec wsX1_divides rmX1_divides).room s m args below meth c 5 D 55 a (hv_XE a cy) 0 0 (hv_MQ D 55 a (hv_XE a cy) below args s (some (.int o.1)) o.2) σ 44 [(0, .ref (a 19)), (1, .int (x1)), (2, .int (x2))] [] := by
  intro i
  induction i with
  | zero =>
    intro σ x1 x2 h
    cases h
  | succ i ih =>
    intro σ x1 x2 h
    generalize hg : kX1_divides_44 n i = r44 at ih
    have hr44 := ih
    replace h : kX1_divides_44_b n r44 σ x1 x2 = some o := by rw [← hg]; exact h
    unfold kX1_divides_44_b at h
    refine g_iload_n (pc := 44) C 2 dX1_divides_44 rfl rfl ?_
    refine g_iconst (pc := 45) C (v := (3 : Int32)) dX1_divides_45 (by decide) ?_
    refine g_icmp_ge (pc := 46) (tgt := 146) C dX1_divides_46 (by decide) (fun c46 => ?_) (fun c46 => ?_)
    · rw [if_pos c46] at h
      refine g_aload_n (pc := 146) C 0 dX1_divides_146 rfl rfl ?_
      refine g_iload_n (pc := 147) C 1 dX1_divides_147 rfl rfl ?_
      obtain ⟨s148, hc148, h⟩ := hv_bd_some h
      refine g_callV (pc := 148) (σ1 := s148) (v := none) (As := [.int (x1)]) (rest := []) C 19 (vX1_addLoads hc148) (cwV 1 C.1.2.2.2.2 gX1_divides_X1_addLoads rfl rfl rfl (by decide +kernel) ⟨Nat.le_of_ble_eq_true rfl, Nat.le_of_ble_eq_true rfl⟩) (Nat.le_of_ble_eq_true rfl) rfl rfl rfl rfl (Nat.le_of_ble_eq_true rfl) dX1_divides_148 ⟨Nat.zero_le _, Nat.zero_le _⟩ ?_
      refine g_st (st' := []) rfl ?_
      refine g_aload_n (pc := 151) C 0 dX1_divides_151 rfl rfl ?_
      refine g_aload_n (pc := 152) C 0 dX1_divides_152 rfl rfl ?_
      refine g_iconst (pc := 153) C (v := (0 : Int32)) dX1_divides_153 (by decide) ?_
      refine g_iconst (pc := 154) C (v := (1 : Int32)) dX1_divides_154 (by decide) ?_
      refine g_iconst (pc := 155) C (v := (2 : Int32)) dX1_divides_155 (by decide) ?_
      obtain ⟨r156, s156, hc156, h⟩ := hv_b2_some h
      refine g_callV (pc := 156) (σ1 := s156) (v := (some (.long (r156)))) (As := [.int ((0 : Int32)), .int ((1 : Int32)), .int ((2 : Int32))]) (rest := [.ref (a 19)]) C 19 (vX1_determinant hc156) (cwV 3 C.1.2.2.2.2 gX1_divides_X1_determinant rfl rfl rfl (by decide +kernel) ⟨Nat.le_of_ble_eq_true rfl, Nat.le_of_ble_eq_true rfl⟩) (Nat.le_of_ble_eq_true rfl) rfl rfl rfl rfl (Nat.le_of_ble_eq_true rfl) dX1_divides_156 ⟨Nat.zero_le _, Nat.zero_le _⟩ ?_
      refine g_st (st' := [.long (r156), .ref (a 19)]) rfl ?_
      obtain ⟨s159, es159, h⟩ := hv_let_some h
      refine gx_put_19_4 (pc := 159) C es159 iX1_divides_X1 qX1_divides_F69 dX1_divides_159 ?_
      refine g_aload_n (pc := 162) C 0 dX1_divides_162 rfl rfl ?_
      refine gx_get_19_4 (pc := 163) C iX1_divides_X1 qX1_divides_F69 dX1_divides_163 ?_
      refine g_lconst (pc := 166) C (v := (0 : Int64)) dX1_divides_166 (by decide) ?_
      refine g_lcmp (pc := 167) C dX1_divides_167 ?_
      refine g_if_eq (pc := 168) (tgt := 175) C dX1_divides_168 (by decide) (fun c168 => ?_) (fun c168 => ?_)
      · rw [if_pos c168] at h
        refine g_iconst (pc := 175) C (v := (0 : Int32)) dX1_divides_175 (by decide) ?_
        cases h
        exact g_zret (pc := 176) (x := (0 : Int32)) C hr (by decide) dX1_divides_176
      · rw [if_neg c168] at h
        refine g_iconst (pc := 171) C (v := (1 : Int32)) dX1_divides_171 (by decide) ?_
        refine g_goto (pc := 172) C (tgt := 176) dX1_divides_172 (by decide) ?_
        cases h
        exact g_zret (pc := 176) (x := (1 : Int32)) C hr (by decide) dX1_divides_176
    · rw [if_neg c46] at h
      refine g_aload_n (pc := 49) C 0 dX1_divides_49 rfl rfl ?_
      refine gx_get_19_0 (pc := 50) C iX1_divides_X1 qX1_divides_F20 dX1_divides_50 ?_
      refine gx_get_1_6 (pc := 53) C iX1_divides_X3 qX1_divides_F41 dX1_divides_53 ?_
      refine g_aload_n (pc := 56) C 0 dX1_divides_56 rfl rfl ?_
      refine gx_get_19_1 (pc := 57) C iX1_divides_X1 qX1_divides_F9 dX1_divides_57 ?_
      refine g_iload_n (pc := 60) C 2 dX1_divides_60 rfl rfl ?_
      obtain ⟨k61, h⟩ := hv_if_some h
      refine gx_ld_20 (pc := 61) C k61 dX1_divides_61 ?_
      obtain ⟨k62, h⟩ := hv_if_some h
      refine gx_ld_5 (pc := 62) C k62 dX1_divides_62 ?_
      obtain ⟨y3_63, ey3_63, h⟩ := hv_let_some h
      refine g_istore_n (pc := 63) C (lv' := [(3, .int (y3_63)), (0, .ref (a 19)), (1, .int (x1)), (2, .int (x2))]) ey3_63 dX1_divides_63 rfl (Nat.le_of_ble_eq_true rfl) rfl ?_
      refine g_iload_n (pc := 64) C 2 dX1_divides_64 rfl rfl ?_
      refine g_iload_n (pc := 65) C 0 dX1_divides_65 rfl rfl ?_
      obtain ⟨r66, s66, hc66, h⟩ := hv_b2_some h
      refine g_callSN (pc := 66) (σ1 := s66) (v := (some (.int (r66)))) (As := [.int (x1), .int (y3_63)]) (rest := []) C (vX7_has hc66) (va_cnB 2 C.1.2.2.2.2 gX1_divides_X7_has_n44 rfl rfl rfl (C.2.1.2 _ (List.mem_of_getElem? (i := 10) rfl)) (C.1.2.2.2.2 _ qX1_divides_NI_X7_has) (by decide +kernel) ⟨Nat.le_of_ble_eq_true rfl, Nat.le_of_ble_eq_true rfl⟩) qX1_divides_NS_X7_has rfl rfl (Nat.le_of_ble_eq_true rfl) dX1_divides_66 ⟨Nat.zero_le _, Nat.zero_le _⟩ ?_
      refine g_st (st' := [.int (r66)]) rfl ?_
      refine g_if_eq (pc := 69) (tgt := 76) C dX1_divides_69 (by decide) (fun c69 => ?_) (fun c69 => ?_)
      · rw [if_pos c69] at h
        refine g_aload_n (pc := 76) C 1 dX1_divides_76 rfl rfl ?_
        refine gx_get_19_0 (pc := 77) C iX1_divides_X1 qX1_divides_F20 dX1_divides_77 ?_
        refine gx_get_1_7 (pc := 80) C iX1_divides_X3 qX1_divides_F48 dX1_divides_80 ?_
        refine g_aload_n (pc := 83) C 1 dX1_divides_83 rfl rfl ?_
        refine gx_get_19_1 (pc := 84) C iX1_divides_X1 qX1_divides_F9 dX1_divides_84 ?_
        refine g_iload_n (pc := 87) C 3 dX1_divides_87 rfl rfl ?_
        obtain ⟨k88, h⟩ := hv_if_some h
        refine gx_ld_20 (pc := 88) C k88 dX1_divides_88 ?_
        obtain ⟨k89, h⟩ := hv_if_some h
        refine gx_ld_6 (pc := 89) C k89 dX1_divides_89 ?_
        exact g_lv [1, 2, 3] rfl (bX1_divides_90 C hr hr44 s66 (x1) (x2) (s66.1 6 (s66.1 20 (x2).toNatClampNeg).toNatClampNeg) h)
      · rw [if_neg c69] at h
        refine g_iload_n (pc := 72) C 0 dX1_divides_72 rfl rfl ?_
        refine g_goto (pc := 73) C (tgt := 90) dX1_divides_73 (by decide) ?_
        exact g_lv [1, 2, 3] rfl (bX1_divides_90 C hr hr44 s66 (x1) (x2) (y3_63) h)
set_option maxHeartbeats 4000000 in
set_option maxRecDepth 20000 in
theorem vX1_divides {n : Nat} {σ : hv_St} {p0 : Int32} {o : Int32 × hv_St} (h : mX1_divides n σ p0 = some o) : hv_M l yX1_divides wsX1_divides rmX1_divides D (hv_tys cy) 55 a (hv_XE a cy) [.ref (a 19), .int (p0)] σ (some (.int o.1)) o.2 := by
  refine hv_enter (own := RX1) (cc := cX1_divides) (maxL := 5) (ret := (some .boolean)) (by decide) rfl rfl (Nat.le_of_ble_eq_true rfl) ?_
  intro p e s m args below meth c C hr
  unfold mX1_divides at h
  refine g_lv [0, 1] (lv' := [(0, .ref (a 19)), (1, .int (p0))]) rfl ?_
  refine g_iload_n (pc := 0) C 1 dX1_divides_0 rfl rfl ?_
  refine g_if_le (pc := 1) (tgt := 25) C dX1_divides_1 (by decide) (fun c1 => ?_) (fun c1 => ?_)
  · rw [if_pos c1] at h
    refine g_iconst (pc := 25) C (v := (0 : Int32)) dX1_divides_25 (by decide) ?_
    cases h
    exact g_zret (pc := 26) (x := (0 : Int32)) C hr (by decide) dX1_divides_26
  · rw [if_neg c1] at h
    refine g_iload_n (pc := 4) C 1 dX1_divides_4 rfl rfl ?_
    refine g_iconst (pc := 5) C (v := (1 : Int32)) dX1_divides_5 (by decide) ?_
    refine g_aload_n (pc := 6) C 0 dX1_divides_6 rfl rfl ?_
    refine gx_get_19_0 (pc := 7) C iX1_divides_X1 qX1_divides_F20 dX1_divides_7 ?_
    refine gx_get_1_0 (pc := 10) C iX1_divides_X3 qX1_divides_F24 dX1_divides_10 ?_
    refine g_ishl (pc := 13) C dX1_divides_13 ?_
    refine g_icmp_ge (pc := 14) (tgt := 25) C dX1_divides_14 (by decide) (fun c14 => ?_) (fun c14 => ?_)
    · rw [if_pos c14] at h
      refine g_iconst (pc := 25) C (v := (0 : Int32)) dX1_divides_25 (by decide) ?_
      cases h
      exact g_zret (pc := 26) (x := (0 : Int32)) C hr (by decide) dX1_divides_26
    · rw [if_neg c14] at h
      refine g_aload_n (pc := 17) C 0 dX1_divides_17 rfl rfl ?_
      refine g_iload_n (pc := 18) C 1 dX1_divides_18 rfl rfl ?_
      obtain ⟨r19, s19, hc19, h⟩ := hv_b2_some h
      refine g_callV (pc := 19) (σ1 := s19) (v := (some (.int (r19)))) (As := [.int (p0)]) (rest := []) C 19 (vX1_isHeld hc19) (cwV 1 C.1.2.2.2.2 gX1_divides_X1_isHeld rfl rfl rfl (by decide +kernel) ⟨Nat.le_of_ble_eq_true rfl, Nat.le_of_ble_eq_true rfl⟩) (Nat.le_of_ble_eq_true rfl) rfl rfl rfl rfl (Nat.le_of_ble_eq_true rfl) dX1_divides_19 ⟨Nat.zero_le _, Nat.zero_le _⟩ ?_
      refine g_st (st' := [.int (r19)]) rfl ?_
      refine g_if_eq (pc := 22) (tgt := 27) C dX1_divides_22 (by decide) (fun c22 => ?_) (fun c22 => ?_)
      · rw [if_pos c22] at h
        refine g_aload_n (pc := 27) C 0 dX1_divides_27 rfl rfl ?_
        refine g_iload_n (pc := 28) C 1 dX1_divides_28 rfl rfl ?_
        obtain ⟨s29, hc29, h⟩ := hv_bd_some h
        refine g_callV (pc := 29) (σ1 := s29) (v := none) (As := [.int (p0)]) (rest := []) C 19 (vX1_findBars hc29) (cwV 1 C.1.2.2.2.2 gX1_divides_X1_findBars rfl rfl rfl (by decide +kernel) ⟨Nat.le_of_ble_eq_true rfl, Nat.le_of_ble_eq_true rfl⟩) (Nat.le_of_ble_eq_true rfl) rfl rfl rfl rfl (Nat.le_of_ble_eq_true rfl) dX1_divides_29 ⟨Nat.zero_le _, Nat.zero_le _⟩ ?_
        refine g_st (st' := []) rfl ?_
        refine g_aload_n (pc := 32) C 0 dX1_divides_32 rfl rfl ?_
        refine gx_get_19_2 (pc := 33) C iX1_divides_X1 qX1_divides_F38 dX1_divides_33 ?_
        refine g_iconst (pc := 36) C (v := (3 : Int32)) dX1_divides_36 (by decide) ?_
        refine g_icmp_eq (pc := 37) (tgt := 42) C dX1_divides_37 (by decide) (fun c37 => ?_) (fun c37 => ?_)
        · rw [if_pos c37] at h
          refine g_iconst (pc := 42) C (v := (0 : Int32)) dX1_divides_42 (by decide) ?_
          refine g_istore_n (pc := 43) C (lv' := [(2, .int ((0 : Int32))), (0, .ref (a 19)), (1, .int (p0))]) rfl dX1_divides_43 rfl (Nat.le_of_ble_eq_true rfl) rfl ?_
          exact g_lv [1, 2, 0] rfl (bX1_divides_44 C hr n s29 (p0) ((0 : Int32)) h)
        · rw [if_neg c37] at h
          refine g_iconst (pc := 40) C (v := (0 : Int32)) dX1_divides_40 (by decide) ?_
          cases h
          exact g_zret (pc := 41) (x := (0 : Int32)) C hr (by decide) dX1_divides_41
      · rw [if_neg c22] at h
        refine g_iconst (pc := 25) C (v := (0 : Int32)) dX1_divides_25 (by decide) ?_
        cases h
        exact g_zret (pc := 26) (x := (0 : Int32)) C hr (by decide) dX1_divides_26
abbrev rmX1_indexOf : Room := { frames := 0, cells := 0, slots := 0, locals := 0 }
set_option maxRecDepth 20000 in
theorem qX1_indexOf_F9 : Cond.fieldLink RX1 9 "PinFrame$Cut" "bars" "[I" ∈ wsX1_indexOf := by decide +kernel
set_option maxRecDepth 20000 in
theorem iX1_indexOf_X1 : ∀ w ∈ u_ws RX1 TX1 5, w ∈ wsX1_indexOf := by decide +kernel
set_option maxHeartbeats 4000000 in
set_option maxRecDepth 20000 in
theorem bX1_indexOf_21 (C : hv_C p s m args meth c cX1_indexOf 4 wsX1_indexOf RX1 D (hv_tys cy)) (hr : meth.sig.returnType = (some .int)) {n : Nat} {o : Int32 × hv_St} {r4 : hv_St → Int32 → Int32 → Int32 → Option (Int32 × hv_St)} (hr4 : ∀ (σ : hv_St) (x1 : Int32) (x2 : Int32) (x3 : Int32), r4 σ x1 x2 x3 = some o → hv_G p l e (headSpec wsX1_indexOf rmX1_indexOf).room s m args below meth c 4 D 55 a (hv_XE a cy) 0 0 (hv_MQ D 55 a (hv_XE a cy) below args s (some (.int o.1)) o.2) σ 4 [(0, .ref (a 19)), (1, .int (x1)), (2, .int (x2)), (3, .int (x3))] []) : ∀ (σ : hv_St) (x1 : Int32) (x2 : Int32) (x3 : Int32), kX1_indexOf_21 n r4 σ x1 x2 x3 = some o → hv_G p l e (headSpec wsX1_indexOf rmX1_indexOf).room s m args below meth c 4 D 55 a (hv_XE a cy) 0 0 (hv_MQ D 55 a (hv_XE a cy) below args s (some (.int o.1)) o.2) σ 21 [(0, .ref (a 19)), (1, .int (x1)), (2, .int (x2)), (3, .int (x3))] [] := by
  intro σ x1 x2 x3 h
  unfold kX1_indexOf_21 at h
  refine g_iinc (pc := 21) C 3 (v := x3 + 1) (lv' := [(3, .int (x3 + 1)), (0, .ref (a 19)), (1, .int (x1)), (2, .int (x2))]) dX1_indexOf_21 rfl rfl (Nat.le_of_ble_eq_true rfl) rfl ?_
  refine g_goto (pc := 24) C (tgt := 4) dX1_indexOf_24 (by decide) ?_
  exact g_lv [1, 2, 3, 0] rfl (hr4 σ (x1) (x2) (x3 + 1) h)
set_option maxHeartbeats 4000000 in
set_option maxRecDepth 20000 in
theorem bX1_indexOf_4 (C : hv_C p s m args meth c cX1_indexOf 4 wsX1_indexOf RX1 D (hv_tys cy)) (hr : meth.sig.returnType = (some .int)) {n : Nat} {o : Int32 × hv_St} : ∀ (i : Nat) (σ : hv_St) (x1 : Int32) (x2 : Int32) (x3 : Int32), kX1_indexOf_4 n i σ x1 x2 x3 = some o → hv_G p l e (headSpec wsX1_indexOf rmX1_indexOf).room s m args below meth c 4 D 55 a (hv_XE a cy) 0 0 (hv_MQ D 55 a (hv_XE a cy) below args s (some (.int o.1)) o.2) σ 4 [(0, .ref (a 19)), (1, .int (x1)), (2, .int (x2)), (3, .int (x3))] [] := by
  intro i
  induction i with
  | zero =>
    intro σ x1 x2 x3 h
    cases h
  | succ i ih =>
    intro σ x1 x2 x3 h
    generalize hg : kX1_indexOf_4 n i = r4 at ih
    have hr4 := ih
    replace h : kX1_indexOf_4_b n r4 σ x1 x2 x3 = some o := by rw [← hg]; exact h
    unfold kX1_indexOf_4_b at h
    refine g_iload_n (pc := 4) C 3 dX1_indexOf_4 rfl rfl ?_
    refine g_iconst (pc := 5) C (v := (3 : Int32)) dX1_indexOf_5 (by decide) ?_
    refine g_icmp_ge (pc := 6) (tgt := 27) C dX1_indexOf_6 (by decide) (fun c6 => ?_) (fun c6 => ?_)
    · rw [if_pos c6] at h
      refine g_iload_n (pc := 27) C 2 dX1_indexOf_27 rfl rfl ?_
      cases h
      exact g_iret (pc := 28) C hr dX1_indexOf_28
    · rw [if_neg c6] at h
      refine g_aload_n (pc := 9) C 0 dX1_indexOf_9 rfl rfl ?_
      refine gx_get_19_1 (pc := 10) C iX1_indexOf_X1 qX1_indexOf_F9 dX1_indexOf_10 ?_
      refine g_iload_n (pc := 13) C 3 dX1_indexOf_13 rfl rfl ?_
      obtain ⟨k14, h⟩ := hv_if_some h
      refine gx_ld_20 (pc := 14) C k14 dX1_indexOf_14 ?_
      refine g_iload_n (pc := 15) C 1 dX1_indexOf_15 rfl rfl ?_
      refine g_icmp_ne (pc := 16) (tgt := 21) C dX1_indexOf_16 (by decide) (fun c16 => ?_) (fun c16 => ?_)
      · rw [if_neg c16] at h
        exact g_lv [0, 1, 2, 3] rfl (bX1_indexOf_21 C hr hr4 σ (x1) (x2) (x3) h)
      · rw [if_pos c16] at h
        refine g_iload_n (pc := 19) C 3 dX1_indexOf_19 rfl rfl ?_
        refine g_istore_n (pc := 20) C (lv' := [(2, .int (x3)), (0, .ref (a 19)), (1, .int (x1)), (3, .int (x3))]) rfl dX1_indexOf_20 rfl (Nat.le_of_ble_eq_true rfl) rfl ?_
        exact g_lv [1, 2, 0, 3] rfl (bX1_indexOf_21 C hr hr4 σ (x1) (x3) (x3) h)
set_option maxHeartbeats 4000000 in
set_option maxRecDepth 20000 in
theorem vX1_indexOf {n : Nat} {σ : hv_St} {p0 : Int32} {o : Int32 × hv_St} (h : mX1_indexOf n σ p0 = some o) : hv_M l yX1_indexOf wsX1_indexOf rmX1_indexOf D (hv_tys cy) 55 a (hv_XE a cy) [.ref (a 19), .int (p0)] σ (some (.int o.1)) o.2 := by
  refine hv_enter (own := RX1) (cc := cX1_indexOf) (maxL := 4) (ret := (some .int)) (by decide) rfl rfl (Nat.le_of_ble_eq_true rfl) ?_
  intro p e s m args below meth c C hr
  unfold mX1_indexOf at h
  refine g_lv [0, 1] (lv' := [(0, .ref (a 19)), (1, .int (p0))]) rfl ?_
  refine g_iconst (pc := 0) C (v := (-1 : Int32)) dX1_indexOf_0 (by decide) ?_
  refine g_istore_n (pc := 1) C (lv' := [(2, .int ((-1 : Int32))), (0, .ref (a 19)), (1, .int (p0))]) rfl dX1_indexOf_1 rfl (Nat.le_of_ble_eq_true rfl) rfl ?_
  refine g_iconst (pc := 2) C (v := (0 : Int32)) dX1_indexOf_2 (by decide) ?_
  refine g_istore_n (pc := 3) C (lv' := [(3, .int ((0 : Int32))), (2, .int ((-1 : Int32))), (0, .ref (a 19)), (1, .int (p0))]) rfl dX1_indexOf_3 rfl (Nat.le_of_ble_eq_true rfl) rfl ?_
  exact g_lv [2, 3, 1, 0] rfl (bX1_indexOf_4 C hr n σ (p0) ((-1 : Int32)) ((0 : Int32)) h)
abbrev rmX1_overOf : Room := { frames := 1, cells := 0, slots := 0, locals := 29 }
set_option maxHeartbeats 4000000 in
set_option maxRecDepth 20000 in
theorem bX1_overOf_22 (C : hv_C p s m args meth c cX1_overOf 3 wsX1_overOf RX1 D (hv_tys cy)) (hr : meth.sig.returnType = (some .long)) {n : Nat} {o : Int64 × hv_St} : ∀ (σ : hv_St) (x1 : Int32) (x2 : Int32) (z0 : Int32) (z1 : Int32), kX1_overOf_22 n σ x1 x2 z0 z1 = some o → hv_G p l e (headSpec wsX1_overOf rmX1_overOf).room s m args below meth c 3 D 55 a (hv_XE a cy) 0 0 (hv_MQ D 55 a (hv_XE a cy) below args s (some (.long o.1)) o.2) σ 22 [(1, .int (x1)), (2, .int (x2))] [.int (z0), .int (z1), .ref (a 19)] := by
  intro σ x1 x2 z0 z1 h
  unfold kX1_overOf_22 at h
  refine g_iload_n (pc := 22) C 0 dX1_overOf_22 rfl rfl ?_
  refine g_iconst (pc := 23) C (v := (2 : Int32)) dX1_overOf_23 (by decide) ?_
  refine g_icmp_ne (pc := 24) (tgt := 31) C dX1_overOf_24 (by decide) (fun c24 => ?_) (fun c24 => ?_)
  · rw [if_neg c24] at h
    refine g_iconst (pc := 31) C (v := (2 : Int32)) dX1_overOf_31 (by decide) ?_
    obtain ⟨r32, s32, hc32, h⟩ := hv_b2_some h
    refine g_callV (pc := 32) (σ1 := s32) (v := (some (.long (r32)))) (As := [.int (z1), .int (z0), .int ((2 : Int32))]) (rest := []) C 19 (vX1_determinant hc32) (cwV 3 C.1.2.2.2.2 gX1_overOf_X1_determinant rfl rfl rfl (by decide +kernel) ⟨Nat.le_of_ble_eq_true rfl, Nat.le_of_ble_eq_true rfl⟩) (Nat.le_of_ble_eq_true rfl) rfl rfl rfl rfl (Nat.le_of_ble_eq_true rfl) dX1_overOf_32 ⟨Nat.zero_le _, Nat.zero_le _⟩ ?_
    refine g_st (st' := [.long (r32)]) rfl ?_
    refine g_lneg (pc := 35) C dX1_overOf_35 ?_
    cases h
    exact g_lret (pc := 36) C hr dX1_overOf_36
  · rw [if_pos c24] at h
    refine g_iload_n (pc := 27) C 1 dX1_overOf_27 rfl rfl ?_
    refine g_goto (pc := 28) C (tgt := 32) dX1_overOf_28 (by decide) ?_
    obtain ⟨r32, s32, hc32, h⟩ := hv_b2_some h
    refine g_callV (pc := 32) (σ1 := s32) (v := (some (.long (r32)))) (As := [.int (z1), .int (z0), .int (x2)]) (rest := []) C 19 (vX1_determinant hc32) (cwV 3 C.1.2.2.2.2 gX1_overOf_X1_determinant rfl rfl rfl (by decide +kernel) ⟨Nat.le_of_ble_eq_true rfl, Nat.le_of_ble_eq_true rfl⟩) (Nat.le_of_ble_eq_true rfl) rfl rfl rfl rfl (Nat.le_of_ble_eq_true rfl) dX1_overOf_32 ⟨Nat.zero_le _, Nat.zero_le _⟩ ?_
    refine g_st (st' := [.long (r32)]) rfl ?_
    refine g_lneg (pc := 35) C dX1_overOf_35 ?_
    cases h
    exact g_lret (pc := 36) C hr dX1_overOf_36
set_option maxHeartbeats 4000000 in
set_option maxRecDepth 20000 in
theorem bX1_overOf_12 (C : hv_C p s m args meth c cX1_overOf 3 wsX1_overOf RX1 D (hv_tys cy)) (hr : meth.sig.returnType = (some .long)) {n : Nat} {o : Int64 × hv_St} : ∀ (σ : hv_St) (x1 : Int32) (x2 : Int32) (z0 : Int32), kX1_overOf_12 n σ x1 x2 z0 = some o → hv_G p l e (headSpec wsX1_overOf rmX1_overOf).room s m args below meth c 3 D 55 a (hv_XE a cy) 0 0 (hv_MQ D 55 a (hv_XE a cy) below args s (some (.long o.1)) o.2) σ 12 [(1, .int (x1)), (2, .int (x2))] [.int (z0), .ref (a 19)] := by
  intro σ x1 x2 z0 h
  unfold kX1_overOf_12 at h
  refine g_iload_n (pc := 12) C 0 dX1_overOf_12 rfl rfl ?_
  refine g_iconst (pc := 13) C (v := (1 : Int32)) dX1_overOf_13 (by decide) ?_
  refine g_icmp_ne (pc := 14) (tgt := 21) C dX1_overOf_14 (by decide) (fun c14 => ?_) (fun c14 => ?_)
  · rw [if_neg c14] at h
    refine g_iconst (pc := 21) C (v := (1 : Int32)) dX1_overOf_21 (by decide) ?_
    exact g_lv [0, 1] rfl (bX1_overOf_22 C hr σ (x1) (x2) ((1 : Int32)) (z0) h)
  · rw [if_pos c14] at h
    refine g_iload_n (pc := 17) C 1 dX1_overOf_17 rfl rfl ?_
    refine g_goto (pc := 18) C (tgt := 22) dX1_overOf_18 (by decide) ?_
    exact g_lv [0, 1] rfl (bX1_overOf_22 C hr σ (x1) (x2) (x2) (z0) h)
set_option maxHeartbeats 4000000 in
set_option maxRecDepth 20000 in
theorem vX1_overOf {n : Nat} {σ : hv_St} {p0 : Int32} {o : Int64 × hv_St} (h : mX1_overOf n σ p0 = some o) : hv_M l yX1_overOf wsX1_overOf rmX1_overOf D (hv_tys cy) 55 a (hv_XE a cy) [.ref (a 19), .int (p0)] σ (some (.long o.1)) o.2 := by
  refine hv_enter (own := RX1) (cc := cX1_overOf) (maxL := 3) (ret := (some .long)) (by decide) rfl rfl (Nat.le_of_ble_eq_true rfl) ?_
  intro p e s m args below meth c C hr
  unfold mX1_overOf at h
  refine g_lv [0, 1] (lv' := [(0, .ref (a 19)), (1, .int (p0))]) rfl ?_
  refine g_iconst (pc := 0) C (v := (3 : Int32)) dX1_overOf_0 (by decide) ?_
  refine g_istore_n (pc := 1) C (lv' := [(2, .int ((3 : Int32))), (0, .ref (a 19)), (1, .int (p0))]) rfl dX1_overOf_1 rfl (Nat.le_of_ble_eq_true rfl) rfl ?_
  refine g_aload_n (pc := 2) C 1 dX1_overOf_2 rfl rfl ?_
  refine g_iload_n (pc := 3) C 2 dX1_overOf_3 rfl rfl ?_
  refine g_if_ne (pc := 4) (tgt := 11) C dX1_overOf_4 (by decide) (fun c4 => ?_) (fun c4 => ?_)
  · rw [if_neg c4] at h
    refine g_iconst (pc := 11) C (v := (0 : Int32)) dX1_overOf_11 (by decide) ?_
    exact g_lv [2, 0] rfl (bX1_overOf_12 C hr σ (p0) ((3 : Int32)) ((0 : Int32)) h)
  · rw [if_pos c4] at h
    refine g_iload_n (pc := 7) C 0 dX1_overOf_7 rfl rfl ?_
    refine g_goto (pc := 8) C (tgt := 12) dX1_overOf_8 (by decide) ?_
    exact g_lv [2, 0] rfl (bX1_overOf_12 C hr σ (p0) ((3 : Int32)) ((3 : Int32)) h)
abbrev rmX2_greatestDivisor : Room := { frames := 0, cells := 0, slots := 0, locals := 0 }
set_option maxHeartbeats 4000000 in
set_option maxRecDepth 20000 in
theorem bX2_greatestDivisor_9 (C : hv_C p s m args meth c cX2_greatestDivisor 11 wsX2_greatestDivisor RX2 D (hv_tys cy)) (hr : meth.sig.returnType = (some .long)) {n : Nat} {o : Int64 × hv_St} : ∀ (i : Nat) (σ : hv_St) (x4 : Int64) (x6 : Int64) (x8 : Int32), kX2_greatestDivisor_9 n i σ x4 x6 x8 = some o → hv_G p l e (headSpec wsX2_greatestDivisor rmX2_greatestDivisor).room s m args below meth c 11 D 55 a (hv_XE a cy) 0 0 (hv_MQ D 55 a (hv_XE a cy) below args s (some (.long o.1)) o.2) σ 9 [(4, .long (x4)), (6, .long (x6)), (8, .int (x8))] [] := by
  intro i
  induction i with
  | zero =>
    intro σ x4 x6 x8 h
    cases h
  | succ i ih =>
    intro σ x4 x6 x8 h
    generalize hg : kX2_greatestDivisor_9 n i = r9 at ih
    have hr9 := ih
    replace h : kX2_greatestDivisor_9_b n r9 σ x4 x6 x8 = some o := by rw [← hg]; exact h
    unfold kX2_greatestDivisor_9_b at h
    refine g_iload (pc := 9) C 2 dX2_greatestDivisor_9 rfl ?_
    refine g_sipush (pc := 11) C (v := (200 : Int32)) dX2_greatestDivisor_11 (by decide) ?_
    refine g_icmp_ge (pc := 14) (tgt := 45) C dX2_greatestDivisor_14 (by decide) (fun c14 => ?_) (fun c14 => ?_)
    · rw [if_pos c14] at h
      refine g_lload (pc := 45) C 0 dX2_greatestDivisor_45 rfl ?_
      cases h
      exact g_lret (pc := 47) C hr dX2_greatestDivisor_47
    · rw [if_neg c14] at h
      refine g_lload (pc := 17) C 1 dX2_greatestDivisor_17 rfl ?_
      refine g_lconst (pc := 19) C (v := (0 : Int64)) dX2_greatestDivisor_19 (by decide) ?_
      refine g_lcmp (pc := 20) C dX2_greatestDivisor_20 ?_
      refine g_if_eq (pc := 21) (tgt := 45) C dX2_greatestDivisor_21 (by decide) (fun c21 => ?_) (fun c21 => ?_)
      · rw [if_pos c21] at h
        refine g_lload (pc := 45) C 0 dX2_greatestDivisor_45 rfl ?_
        cases h
        exact g_lret (pc := 47) C hr dX2_greatestDivisor_47
      · rw [if_neg c21] at h
        refine g_lload (pc := 24) C 0 dX2_greatestDivisor_24 rfl ?_
        refine g_lload (pc := 26) C 1 dX2_greatestDivisor_26 rfl ?_
        obtain ⟨k28, h⟩ := hv_if_some h
        refine g_lrem (pc := 28) C dX2_greatestDivisor_28 (of_decide_eq_true k28) ?_
        obtain ⟨y9_29, ey9_29, h⟩ := hv_let_some h
        refine g_lstore (pc := 29) C (lv' := [(9, .long (y9_29)), (4, .long (x4)), (6, .long (x6)), (8, .int (x8))]) ey9_29 dX2_greatestDivisor_29 (Nat.le_of_ble_eq_true rfl) rfl ?_
        refine g_lload (pc := 31) C 2 dX2_greatestDivisor_31 rfl ?_
        refine g_lstore (pc := 33) C (lv' := [(4, .long (x6)), (9, .long (y9_29)), (6, .long (x6)), (8, .int (x8))]) rfl dX2_greatestDivisor_33 (Nat.le_of_ble_eq_true rfl) rfl ?_
        refine g_lload (pc := 35) C 1 dX2_greatestDivisor_35 rfl ?_
        refine g_lstore (pc := 37) C (lv' := [(6, .long (y9_29)), (4, .long (x6)), (9, .long (y9_29)), (8, .int (x8))]) rfl dX2_greatestDivisor_37 (Nat.le_of_ble_eq_true rfl) rfl ?_
        refine g_iinc (pc := 39) C 3 (v := x8 + 1) (lv' := [(8, .int (x8 + 1)), (6, .long (y9_29)), (4, .long (x6)), (9, .long (y9_29))]) dX2_greatestDivisor_39 rfl rfl (Nat.le_of_ble_eq_true rfl) rfl ?_
        refine g_goto (pc := 42) C (tgt := 9) dX2_greatestDivisor_42 (by decide) ?_
        exact g_lv [2, 1, 0] rfl (hr9 σ (x6) (y9_29) (x8 + 1) h)
set_option maxHeartbeats 4000000 in
set_option maxRecDepth 20000 in
theorem vX2_greatestDivisor {n : Nat} {σ : hv_St} {p0 : Int64} {p1 : Int64} {o : Int64 × hv_St} (h : mX2_greatestDivisor n σ p0 p1 = some o) : hv_M l yX2_greatestDivisor wsX2_greatestDivisor rmX2_greatestDivisor D (hv_tys cy) 55 a (hv_XE a cy) [.long (p0), .long (p1)] σ (some (.long o.1)) o.2 := by
  refine hv_enter (own := RX2) (cc := cX2_greatestDivisor) (maxL := 11) (ret := (some .long)) (by decide) rfl rfl (Nat.le_of_ble_eq_true rfl) ?_
  intro p e s m args below meth c C hr
  unfold mX2_greatestDivisor at h
  refine g_lv [0, 1] (lv' := [(0, .long (p0)), (2, .long (p1))]) rfl ?_
  refine g_lload_n (pc := 0) C 0 dX2_greatestDivisor_0 rfl rfl ?_
  refine g_lstore (pc := 1) C (lv' := [(4, .long (p0)), (0, .long (p0)), (2, .long (p1))]) rfl dX2_greatestDivisor_1 (Nat.le_of_ble_eq_true rfl) rfl ?_
  refine g_lload_n (pc := 3) C 2 dX2_greatestDivisor_3 rfl rfl ?_
  refine g_lstore (pc := 4) C (lv' := [(6, .long (p1)), (4, .long (p0)), (0, .long (p0)), (2, .long (p1))]) rfl dX2_greatestDivisor_4 (Nat.le_of_ble_eq_true rfl) rfl ?_
  refine g_iconst (pc := 6) C (v := (0 : Int32)) dX2_greatestDivisor_6 (by decide) ?_
  refine g_istore (pc := 7) C (lv' := [(8, .int ((0 : Int32))), (6, .long (p1)), (4, .long (p0)), (0, .long (p0)), (2, .long (p1))]) rfl dX2_greatestDivisor_7 (Nat.le_of_ble_eq_true rfl) rfl ?_
  exact g_lv [2, 1, 0] rfl (bX2_greatestDivisor_9 C hr n σ (p0) (p1) ((0 : Int32)) h)
abbrev rmX2_reduce : Room := { frames := 1, cells := 0, slots := 0, locals := 30 }
set_option maxRecDepth 20000 in
theorem qX2_reduce_F24 : Cond.fieldLink RX2 24 "PinFrame$Fraction" "over" "J" ∈ wsX2_reduce := by decide +kernel
set_option maxRecDepth 20000 in
theorem qX2_reduce_F28 : Cond.fieldLink RX2 28 "PinFrame$Fraction" "under" "J" ∈ wsX2_reduce := by decide +kernel
set_option maxRecDepth 20000 in
theorem qX2_reduce_MC9 : Cond.code Lib.MathLoose.abs_long.x Lib.MathLoose.abs_long.code 2 (some .long) ∈ wsX2_reduce := by decide +kernel
set_option maxRecDepth 20000 in
theorem qX2_reduce_MI9 : Cond.initialized "java/lang/Math" ∈ wsX2_reduce := by decide +kernel
set_option maxRecDepth 20000 in
theorem qX2_reduce_ML9 : Cond.methodLink RX2 9 Lib.MathLoose.abs_long.x ∈ wsX2_reduce := by decide +kernel
set_option maxRecDepth 20000 in
theorem qX2_reduce_MS9 : Cond.static Lib.MathLoose.abs_long.x ∈ wsX2_reduce := by decide +kernel
set_option maxRecDepth 20000 in
theorem qX2_reduce_NI_X7_quotient : Cond.initialized RX7 ∈ wsX2_reduce := by decide +kernel
set_option maxRecDepth 20000 in
theorem qX2_reduce_NS_X7_quotient : Cond.static yX7_quotient ∈ wsX2_reduce := by decide +kernel
set_option maxRecDepth 20000 in
theorem iX2_reduce_X2 : ∀ w ∈ u_ws RX2 TX2 2, w ∈ wsX2_reduce := by decide +kernel
set_option maxHeartbeats 4000000 in
set_option maxRecDepth 20000 in
theorem bX2_reduce_27 (C : hv_C p s m args meth c cX2_reduce 9 wsX2_reduce RX2 D (hv_tys cy)) (hr : meth.sig.returnType = none) {n : Nat} {o : hv_St} : ∀ (σ : hv_St) (x1 : Int64) (x3 : Int64) (z0 : Int64), kX2_reduce_27 n σ x1 x3 z0 = some o → hv_G p l e (headSpec wsX2_reduce rmX2_reduce).room s m args below meth c 9 D 55 a (hv_XE a cy) 0 0 (hv_MQ D 55 a (hv_XE a cy) below args s none o) σ 27 [(0, .ref (a 26)), (1, .long (x1)), (3, .long (x3))] [.long (z0)] := by
  intro σ x1 x3 z0 h
  unfold kX2_reduce_27 at h
  refine g_lstore (pc := 27) C (lv' := [(7, .long (z0)), (0, .ref (a 26)), (1, .long (x1)), (3, .long (x3))]) rfl dX2_reduce_27 (Nat.le_of_ble_eq_true rfl) rfl ?_
  refine g_aload_n (pc := 29) C 1 dX2_reduce_29 rfl rfl ?_
  refine g_lload_n (pc := 30) C 2 dX2_reduce_30 rfl rfl ?_
  refine g_lload (pc := 31) C 0 dX2_reduce_31 rfl ?_
  obtain ⟨r33, s33, hc33, h⟩ := hv_b2_some h
  refine g_callSN (pc := 33) (σ1 := s33) (v := (some (.long (r33)))) (As := [.long (x1), .long (z0)]) (rest := [.ref (a 26)]) C (vX7_quotient hc33) (va_cnB 2 C.1.2.2.2.2 gX2_reduce_X7_quotient_n21 rfl rfl rfl (C.2.1.2 _ (List.mem_of_getElem? (i := 9) rfl)) (C.1.2.2.2.2 _ qX2_reduce_NI_X7_quotient) (by decide +kernel) ⟨Nat.le_of_ble_eq_true rfl, Nat.le_of_ble_eq_true rfl⟩) qX2_reduce_NS_X7_quotient rfl rfl (Nat.le_of_ble_eq_true rfl) dX2_reduce_33 ⟨Nat.zero_le _, Nat.zero_le _⟩ ?_
  refine g_st (st' := [.long (r33), .ref (a 26)]) rfl ?_
  obtain ⟨s36, es36, h⟩ := hv_let_some h
  refine gx_put_26_0 (pc := 36) C es36 iX2_reduce_X2 qX2_reduce_F24 dX2_reduce_36 ?_
  refine g_aload_n (pc := 39) C 1 dX2_reduce_39 rfl rfl ?_
  refine g_lload_n (pc := 40) C 3 dX2_reduce_40 rfl rfl ?_
  refine g_lload (pc := 41) C 0 dX2_reduce_41 rfl ?_
  obtain ⟨r43, s43, hc43, h⟩ := hv_b2_some h
  refine g_callSN (pc := 43) (σ1 := s43) (v := (some (.long (r43)))) (As := [.long (x3), .long (z0)]) (rest := [.ref (a 26)]) C (vX7_quotient hc43) (va_cnB 2 C.1.2.2.2.2 gX2_reduce_X7_quotient_n21 rfl rfl rfl (C.2.1.2 _ (List.mem_of_getElem? (i := 9) rfl)) (C.1.2.2.2.2 _ qX2_reduce_NI_X7_quotient) (by decide +kernel) ⟨Nat.le_of_ble_eq_true rfl, Nat.le_of_ble_eq_true rfl⟩) qX2_reduce_NS_X7_quotient rfl rfl (Nat.le_of_ble_eq_true rfl) dX2_reduce_43 ⟨Nat.zero_le _, Nat.zero_le _⟩ ?_
  refine g_st (st' := [.long (r43), .ref (a 26)]) rfl ?_
  obtain ⟨s46, es46, h⟩ := hv_let_some h
  refine gx_put_26_1 (pc := 46) C es46 iX2_reduce_X2 qX2_reduce_F28 dX2_reduce_46 ?_
  cases h
  exact g_vret (pc := 49) C hr dX2_reduce_49
set_option maxHeartbeats 4000000 in
set_option maxRecDepth 20000 in
theorem vX2_reduce {n : Nat} {σ : hv_St} {p0 : Int64} {p1 : Int64} {o : hv_St} (h : mX2_reduce n σ p0 p1 = some o) : hv_M l yX2_reduce wsX2_reduce rmX2_reduce D (hv_tys cy) 55 a (hv_XE a cy) [.ref (a 26), .long (p0), .long (p1)] σ none o := by
  refine hv_enter (own := RX2) (cc := cX2_reduce) (maxL := 9) (ret := none) (by decide) rfl rfl (Nat.le_of_ble_eq_true rfl) ?_
  intro p e s m args below meth c C hr
  unfold mX2_reduce at h
  refine g_lv [0, 1, 2] (lv' := [(0, .ref (a 26)), (1, .long (p0)), (3, .long (p1))]) rfl ?_
  refine g_lload_n (pc := 0) C 1 dX2_reduce_0 rfl rfl ?_
  refine g_mabsL (pc := 1) C qX2_reduce_ML9 qX2_reduce_MS9 qX2_reduce_MI9 qX2_reduce_MC9 (Nat.le_of_ble_eq_true rfl) (Nat.le_of_ble_eq_true rfl) ⟨Nat.zero_le _, Nat.zero_le _⟩ dX2_reduce_1 ?_
  obtain ⟨y_1, ey_1, h⟩ := hv_let_some h
  rw [← ey_1]
  refine g_lload_n (pc := 4) C 2 dX2_reduce_4 rfl rfl ?_
  refine g_mabsL (pc := 5) C qX2_reduce_ML9 qX2_reduce_MS9 qX2_reduce_MI9 qX2_reduce_MC9 (Nat.le_of_ble_eq_true rfl) (Nat.le_of_ble_eq_true rfl) ⟨Nat.zero_le _, Nat.zero_le _⟩ dX2_reduce_5 ?_
  obtain ⟨y_5, ey_5, h⟩ := hv_let_some h
  rw [← ey_5]
  obtain ⟨r8, s8, hc8, h⟩ := hv_b2_some h
  refine g_callS (pc := 8) (σ1 := s8) (v := (some (.long (r8)))) (As := [.long (y_1), .long (y_5)]) (rest := []) C (vX2_greatestDivisor hc8) (va_cwS 2 C.1.2.2.2.2 gX2_reduce_X2_greatestDivisor rfl rfl rfl (by decide +kernel) ⟨Nat.le_of_ble_eq_true rfl, Nat.le_of_ble_eq_true rfl⟩) rfl rfl (Nat.le_of_ble_eq_true rfl) dX2_reduce_8 ⟨Nat.zero_le _, Nat.zero_le _⟩ ?_
  refine g_st (st' := [.long (r8)]) rfl ?_
  refine g_lstore (pc := 11) C (lv' := [(5, .long (r8)), (0, .ref (a 26)), (1, .long (p0)), (3, .long (p1))]) rfl dX2_reduce_11 (Nat.le_of_ble_eq_true rfl) rfl ?_
  refine g_lload_n (pc := 13) C 3 dX2_reduce_13 rfl rfl ?_
  refine g_lconst (pc := 14) C (v := (0 : Int64)) dX2_reduce_14 (by decide) ?_
  refine g_lcmp (pc := 15) C dX2_reduce_15 ?_
  refine g_if_ge (pc := 16) (tgt := 25) C dX2_reduce_16 (by decide) (fun c16 => ?_) (fun c16 => ?_)
  · rw [if_pos c16] at h
    refine g_lload (pc := 25) C 0 dX2_reduce_25 rfl ?_
    exact g_lv [1, 2, 3] rfl (bX2_reduce_27 C hr s8 (p0) (p1) (r8) h)
  · rw [if_neg c16] at h
    refine g_lload (pc := 19) C 0 dX2_reduce_19 rfl ?_
    refine g_lneg (pc := 21) C dX2_reduce_21 ?_
    refine g_goto (pc := 22) C (tgt := 27) dX2_reduce_22 (by decide) ?_
    exact g_lv [1, 2, 3] rfl (bX2_reduce_27 C hr s8 (p0) (p1) (-(r8)) h)
abbrev rmX3_isPin : Room := { frames := 0, cells := 0, slots := 0, locals := 0 }
set_option maxRecDepth 20000 in
theorem qX3_isPin_F34 : Cond.fieldLink RX3 34 "PinFrame$Frame" "pins" "I" ∈ wsX3_isPin := by decide +kernel
set_option maxRecDepth 20000 in
theorem iX3_isPin_X3 : ∀ w ∈ u_ws RX3 TX3 10, w ∈ wsX3_isPin := by decide +kernel
set_option maxHeartbeats 4000000 in
set_option maxRecDepth 20000 in
theorem bX3_isPin_16 (C : hv_C p s m args meth c cX3_isPin 2 wsX3_isPin RX3 D (hv_tys cy)) (hr : meth.sig.returnType = (some .boolean)) {n : Nat} {o : Int32 × hv_St} : ∀ (σ : hv_St), kX3_isPin_16 n σ = some o → hv_G p l e (headSpec wsX3_isPin rmX3_isPin).room s m args below meth c 2 D 55 a (hv_XE a cy) 0 0 (hv_MQ D 55 a (hv_XE a cy) below args s (some (.int o.1)) o.2) σ 16 [] [] := by
  intro σ h
  unfold kX3_isPin_16 at h
  refine g_iconst (pc := 16) C (v := (0 : Int32)) dX3_isPin_16 (by decide) ?_
  cases h
  exact g_zret (pc := 17) (x := (0 : Int32)) C hr (by decide) dX3_isPin_17
set_option maxHeartbeats 4000000 in
set_option maxRecDepth 20000 in
theorem vX3_isPin {n : Nat} {σ : hv_St} {p0 : Int32} {o : Int32 × hv_St} (h : mX3_isPin n σ p0 = some o) : hv_M l yX3_isPin wsX3_isPin rmX3_isPin D (hv_tys cy) 55 a (hv_XE a cy) [.ref (a 1), .int (p0)] σ (some (.int o.1)) o.2 := by
  refine hv_enter (own := RX3) (cc := cX3_isPin) (maxL := 2) (ret := (some .boolean)) (by decide) rfl rfl (Nat.le_of_ble_eq_true rfl) ?_
  intro p e s m args below meth c C hr
  unfold mX3_isPin at h
  refine g_lv [0, 1] (lv' := [(0, .ref (a 1)), (1, .int (p0))]) rfl ?_
  refine g_iload_n (pc := 0) C 1 dX3_isPin_0 rfl rfl ?_
  refine g_if_lt (pc := 1) (tgt := 16) C dX3_isPin_1 (by decide) (fun c1 => ?_) (fun c1 => ?_)
  · rw [if_pos c1] at h
    exact g_lv [] rfl (bX3_isPin_16 C hr σ h)
  · rw [if_neg c1] at h
    refine g_iload_n (pc := 4) C 1 dX3_isPin_4 rfl rfl ?_
    refine g_aload_n (pc := 5) C 0 dX3_isPin_5 rfl rfl ?_
    refine gx_get_1_0 (pc := 6) C iX3_isPin_X3 qX3_isPin_F34 dX3_isPin_6 ?_
    refine g_icmp_ge (pc := 9) (tgt := 16) C dX3_isPin_9 (by decide) (fun c9 => ?_) (fun c9 => ?_)
    · rw [if_pos c9] at h
      exact g_lv [] rfl (bX3_isPin_16 C hr σ h)
    · rw [if_neg c9] at h
      refine g_iconst (pc := 12) C (v := (1 : Int32)) dX3_isPin_12 (by decide) ?_
      refine g_goto (pc := 13) C (tgt := 17) dX3_isPin_13 (by decide) ?_
      cases h
      exact g_zret (pc := 17) (x := (1 : Int32)) C hr (by decide) dX3_isPin_17
abbrev rmX3_hasPinAt : Room := { frames := 0, cells := 0, slots := 0, locals := 0 }
set_option maxRecDepth 20000 in
theorem qX3_hasPinAt_F34 : Cond.fieldLink RX3 34 "PinFrame$Frame" "pins" "I" ∈ wsX3_hasPinAt := by decide +kernel
set_option maxRecDepth 20000 in
theorem qX3_hasPinAt_F9 : Cond.fieldLink RX3 9 "PinFrame$Frame" "spot" "[I" ∈ wsX3_hasPinAt := by decide +kernel
set_option maxRecDepth 20000 in
theorem iX3_hasPinAt_X3 : ∀ w ∈ u_ws RX3 TX3 10, w ∈ wsX3_hasPinAt := by decide +kernel
set_option maxHeartbeats 4000000 in
set_option maxRecDepth 20000 in
theorem bX3_hasPinAt_38 (C : hv_C p s m args meth c cX3_hasPinAt 4 wsX3_hasPinAt RX3 D (hv_tys cy)) (hr : meth.sig.returnType = (some .boolean)) {n : Nat} {o : Int32 × hv_St} {r2 : hv_St → Int32 → Int32 → Int32 → Option (Int32 × hv_St)} (hr2 : ∀ (σ : hv_St) (x1 : Int32) (x2 : Int32) (x3 : Int32), r2 σ x1 x2 x3 = some o → hv_G p l e (headSpec wsX3_hasPinAt rmX3_hasPinAt).room s m args below meth c 4 D 55 a (hv_XE a cy) 0 0 (hv_MQ D 55 a (hv_XE a cy) below args s (some (.int o.1)) o.2) σ 2 [(0, .ref (a 1)), (1, .int (x1)), (2, .int (x2)), (3, .int (x3))] []) : ∀ (σ : hv_St) (x1 : Int32) (x2 : Int32) (x3 : Int32), kX3_hasPinAt_38 n r2 σ x1 x2 x3 = some o → hv_G p l e (headSpec wsX3_hasPinAt rmX3_hasPinAt).room s m args below meth c 4 D 55 a (hv_XE a cy) 0 0 (hv_MQ D 55 a (hv_XE a cy) below args s (some (.int o.1)) o.2) σ 38 [(0, .ref (a 1)), (1, .int (x1)), (2, .int (x2)), (3, .int (x3))] [] := by
  intro σ x1 x2 x3 h
  unfold kX3_hasPinAt_38 at h
  refine g_iinc (pc := 38) C 3 (v := x3 + 1) (lv' := [(3, .int (x3 + 1)), (0, .ref (a 1)), (1, .int (x1)), (2, .int (x2))]) dX3_hasPinAt_38 rfl rfl (Nat.le_of_ble_eq_true rfl) rfl ?_
  refine g_goto (pc := 41) C (tgt := 2) dX3_hasPinAt_41 (by decide) ?_
  exact g_lv [1, 2, 3, 0] rfl (hr2 σ (x1) (x2) (x3 + 1) h)
set_option maxHeartbeats 4000000 in
set_option maxRecDepth 20000 in
theorem bX3_hasPinAt_2 (C : hv_C p s m args meth c cX3_hasPinAt 4 wsX3_hasPinAt RX3 D (hv_tys cy)) (hr : meth.sig.returnType = (some .boolean)) {n : Nat} {o : Int32 × hv_St} : ∀ (i : Nat) (σ : hv_St) (x1 : Int32) (x2 : Int32) (x3 : Int32), kX3_hasPinAt_2 n i σ x1 x2 x3 = some o → hv_G p l e (headSpec wsX3_hasPinAt rmX3_hasPinAt).room s m args below meth c 4 D 55 a (hv_XE a cy) 0 0 (hv_MQ D 55 a (hv_XE a cy) below args s (some (.int o.1)) o.2) σ 2 [(0, .ref (a 1)), (1, .int (x1)), (2, .int (x2)), (3, .int (x3))] [] := by
  intro i
  induction i with
  | zero =>
    intro σ x1 x2 x3 h
    cases h
  | succ i ih =>
    intro σ x1 x2 x3 h
    generalize hg : kX3_hasPinAt_2 n i = r2 at ih
    have hr2 := ih
    replace h : kX3_hasPinAt_2_b n r2 σ x1 x2 x3 = some o := by rw [← hg]; exact h
    unfold kX3_hasPinAt_2_b at h
    refine g_iload_n (pc := 2) C 3 dX3_hasPinAt_2 rfl rfl ?_
    refine g_aload_n (pc := 3) C 0 dX3_hasPinAt_3 rfl rfl ?_
    refine gx_get_1_0 (pc := 4) C iX3_hasPinAt_X3 qX3_hasPinAt_F34 dX3_hasPinAt_4 ?_
    refine g_icmp_ge (pc := 7) (tgt := 44) C dX3_hasPinAt_7 (by decide) (fun c7 => ?_) (fun c7 => ?_)
    · rw [if_pos c7] at h
      refine g_iconst (pc := 44) C (v := (0 : Int32)) dX3_hasPinAt_44 (by decide) ?_
      cases h
      exact g_zret (pc := 45) (x := (0 : Int32)) C hr (by decide) dX3_hasPinAt_45
    · rw [if_neg c7] at h
      refine g_aload_n (pc := 10) C 0 dX3_hasPinAt_10 rfl rfl ?_
      refine gx_get_1_3 (pc := 11) C iX3_hasPinAt_X3 qX3_hasPinAt_F9 dX3_hasPinAt_11 ?_
      refine g_iconst (pc := 14) C (v := (2 : Int32)) dX3_hasPinAt_14 (by decide) ?_
      refine g_iload_n (pc := 15) C 3 dX3_hasPinAt_15 rfl rfl ?_
      refine g_imul (pc := 16) C dX3_hasPinAt_16 ?_
      obtain ⟨k17, h⟩ := hv_if_some h
      refine gx_ld_2 (pc := 17) C k17 dX3_hasPinAt_17 ?_
      refine g_iload_n (pc := 18) C 1 dX3_hasPinAt_18 rfl rfl ?_
      refine g_icmp_ne (pc := 19) (tgt := 38) C dX3_hasPinAt_19 (by decide) (fun c19 => ?_) (fun c19 => ?_)
      · rw [if_neg c19] at h
        exact g_lv [0, 1, 2, 3] rfl (bX3_hasPinAt_38 C hr hr2 σ (x1) (x2) (x3) h)
      · rw [if_pos c19] at h
        refine g_aload_n (pc := 22) C 0 dX3_hasPinAt_22 rfl rfl ?_
        refine gx_get_1_3 (pc := 23) C iX3_hasPinAt_X3 qX3_hasPinAt_F9 dX3_hasPinAt_23 ?_
        refine g_iconst (pc := 26) C (v := (2 : Int32)) dX3_hasPinAt_26 (by decide) ?_
        refine g_iload_n (pc := 27) C 3 dX3_hasPinAt_27 rfl rfl ?_
        refine g_imul (pc := 28) C dX3_hasPinAt_28 ?_
        refine g_iconst (pc := 29) C (v := (1 : Int32)) dX3_hasPinAt_29 (by decide) ?_
        refine g_iadd (pc := 30) C dX3_hasPinAt_30 ?_
        obtain ⟨k31, h⟩ := hv_if_some h
        refine gx_ld_2 (pc := 31) C k31 dX3_hasPinAt_31 ?_
        refine g_iload_n (pc := 32) C 2 dX3_hasPinAt_32 rfl rfl ?_
        refine g_icmp_ne (pc := 33) (tgt := 38) C dX3_hasPinAt_33 (by decide) (fun c33 => ?_) (fun c33 => ?_)
        · rw [if_neg c33] at h
          exact g_lv [0, 1, 2, 3] rfl (bX3_hasPinAt_38 C hr hr2 σ (x1) (x2) (x3) h)
        · rw [if_pos c33] at h
          refine g_iconst (pc := 36) C (v := (1 : Int32)) dX3_hasPinAt_36 (by decide) ?_
          cases h
          exact g_zret (pc := 37) (x := (1 : Int32)) C hr (by decide) dX3_hasPinAt_37
set_option maxHeartbeats 4000000 in
set_option maxRecDepth 20000 in
theorem vX3_hasPinAt {n : Nat} {σ : hv_St} {p0 : Int32} {p1 : Int32} {o : Int32 × hv_St} (h : mX3_hasPinAt n σ p0 p1 = some o) : hv_M l yX3_hasPinAt wsX3_hasPinAt rmX3_hasPinAt D (hv_tys cy) 55 a (hv_XE a cy) [.ref (a 1), .int (p0), .int (p1)] σ (some (.int o.1)) o.2 := by
  refine hv_enter (own := RX3) (cc := cX3_hasPinAt) (maxL := 4) (ret := (some .boolean)) (by decide) rfl rfl (Nat.le_of_ble_eq_true rfl) ?_
  intro p e s m args below meth c C hr
  unfold mX3_hasPinAt at h
  refine g_lv [0, 1, 2] (lv' := [(0, .ref (a 1)), (1, .int (p0)), (2, .int (p1))]) rfl ?_
  refine g_iconst (pc := 0) C (v := (0 : Int32)) dX3_hasPinAt_0 (by decide) ?_
  refine g_istore_n (pc := 1) C (lv' := [(3, .int ((0 : Int32))), (0, .ref (a 1)), (1, .int (p0)), (2, .int (p1))]) rfl dX3_hasPinAt_1 rfl (Nat.le_of_ble_eq_true rfl) rfl ?_
  exact g_lv [1, 2, 3, 0] rfl (bX3_hasPinAt_2 C hr n σ (p0) (p1) ((0 : Int32)) h)
abbrev rmX3_hasBar : Room := { frames := 0, cells := 0, slots := 0, locals := 0 }
set_option maxRecDepth 20000 in
theorem qX3_hasBar_F22 : Cond.fieldLink RX3 22 "PinFrame$Frame" "one" "[I" ∈ wsX3_hasBar := by decide +kernel
set_option maxRecDepth 20000 in
theorem qX3_hasBar_F25 : Cond.fieldLink RX3 25 "PinFrame$Frame" "other" "[I" ∈ wsX3_hasBar := by decide +kernel
set_option maxRecDepth 20000 in
theorem qX3_hasBar_F38 : Cond.fieldLink RX3 38 "PinFrame$Frame" "bars" "I" ∈ wsX3_hasBar := by decide +kernel
set_option maxRecDepth 20000 in
theorem iX3_hasBar_X3 : ∀ w ∈ u_ws RX3 TX3 10, w ∈ wsX3_hasBar := by decide +kernel
set_option maxHeartbeats 4000000 in
set_option maxRecDepth 20000 in
theorem bX3_hasBar_52 (C : hv_C p s m args meth c cX3_hasBar 4 wsX3_hasBar RX3 D (hv_tys cy)) (hr : meth.sig.returnType = (some .boolean)) {n : Nat} {o : Int32 × hv_St} {r2 : hv_St → Int32 → Int32 → Int32 → Option (Int32 × hv_St)} (hr2 : ∀ (σ : hv_St) (x1 : Int32) (x2 : Int32) (x3 : Int32), r2 σ x1 x2 x3 = some o → hv_G p l e (headSpec wsX3_hasBar rmX3_hasBar).room s m args below meth c 4 D 55 a (hv_XE a cy) 0 0 (hv_MQ D 55 a (hv_XE a cy) below args s (some (.int o.1)) o.2) σ 2 [(0, .ref (a 1)), (1, .int (x1)), (2, .int (x2)), (3, .int (x3))] []) : ∀ (σ : hv_St) (x1 : Int32) (x2 : Int32) (x3 : Int32), kX3_hasBar_52 n r2 σ x1 x2 x3 = some o → hv_G p l e (headSpec wsX3_hasBar rmX3_hasBar).room s m args below meth c 4 D 55 a (hv_XE a cy) 0 0 (hv_MQ D 55 a (hv_XE a cy) below args s (some (.int o.1)) o.2) σ 52 [(0, .ref (a 1)), (1, .int (x1)), (2, .int (x2)), (3, .int (x3))] [] := by
  intro σ x1 x2 x3 h
  unfold kX3_hasBar_52 at h
  refine g_iinc (pc := 52) C 3 (v := x3 + 1) (lv' := [(3, .int (x3 + 1)), (0, .ref (a 1)), (1, .int (x1)), (2, .int (x2))]) dX3_hasBar_52 rfl rfl (Nat.le_of_ble_eq_true rfl) rfl ?_
  refine g_goto (pc := 55) C (tgt := 2) dX3_hasBar_55 (by decide) ?_
  exact g_lv [1, 2, 3, 0] rfl (hr2 σ (x1) (x2) (x3 + 1) h)
set_option maxHeartbeats 4000000 in
set_option maxRecDepth 20000 in
theorem bX3_hasBar_30 (C : hv_C p s m args meth c cX3_hasBar 4 wsX3_hasBar RX3 D (hv_tys cy)) (hr : meth.sig.returnType = (some .boolean)) {n : Nat} {o : Int32 × hv_St} {r2 : hv_St → Int32 → Int32 → Int32 → Option (Int32 × hv_St)} (hr2 : ∀ (σ : hv_St) (x1 : Int32) (x2 : Int32) (x3 : Int32), r2 σ x1 x2 x3 = some o → hv_G p l e (headSpec wsX3_hasBar rmX3_hasBar).room s m args below meth c 4 D 55 a (hv_XE a cy) 0 0 (hv_MQ D 55 a (hv_XE a cy) below args s (some (.int o.1)) o.2) σ 2 [(0, .ref (a 1)), (1, .int (x1)), (2, .int (x2)), (3, .int (x3))] []) : ∀ (σ : hv_St) (x1 : Int32) (x2 : Int32) (x3 : Int32), kX3_hasBar_30 n r2 σ x1 x2 x3 = some o → hv_G p l e (headSpec wsX3_hasBar rmX3_hasBar).room s m args below meth c 4 D 55 a (hv_XE a cy) 0 0 (hv_MQ D 55 a (hv_XE a cy) below args s (some (.int o.1)) o.2) σ 30 [(0, .ref (a 1)), (1, .int (x1)), (2, .int (x2)), (3, .int (x3))] [] := by
  intro σ x1 x2 x3 h
  unfold kX3_hasBar_30 at h
  refine g_aload_n (pc := 30) C 0 dX3_hasBar_30 rfl rfl ?_
  refine gx_get_1_6 (pc := 31) C iX3_hasBar_X3 qX3_hasBar_F22 dX3_hasBar_31 ?_
  refine g_iload_n (pc := 34) C 3 dX3_hasBar_34 rfl rfl ?_
  obtain ⟨k35, h⟩ := hv_if_some h
  refine gx_ld_5 (pc := 35) C k35 dX3_hasBar_35 ?_
  refine g_iload_n (pc := 36) C 2 dX3_hasBar_36 rfl rfl ?_
  refine g_icmp_ne (pc := 37) (tgt := 52) C dX3_hasBar_37 (by decide) (fun c37 => ?_) (fun c37 => ?_)
  · rw [if_neg c37] at h
    exact g_lv [0, 1, 2, 3] rfl (bX3_hasBar_52 C hr hr2 σ (x1) (x2) (x3) h)
  · rw [if_pos c37] at h
    refine g_aload_n (pc := 40) C 0 dX3_hasBar_40 rfl rfl ?_
    refine gx_get_1_7 (pc := 41) C iX3_hasBar_X3 qX3_hasBar_F25 dX3_hasBar_41 ?_
    refine g_iload_n (pc := 44) C 3 dX3_hasBar_44 rfl rfl ?_
    obtain ⟨k45, h⟩ := hv_if_some h
    refine gx_ld_6 (pc := 45) C k45 dX3_hasBar_45 ?_
    refine g_iload_n (pc := 46) C 1 dX3_hasBar_46 rfl rfl ?_
    refine g_icmp_ne (pc := 47) (tgt := 52) C dX3_hasBar_47 (by decide) (fun c47 => ?_) (fun c47 => ?_)
    · rw [if_neg c47] at h
      exact g_lv [0, 1, 2, 3] rfl (bX3_hasBar_52 C hr hr2 σ (x1) (x2) (x3) h)
    · rw [if_pos c47] at h
      refine g_iconst (pc := 50) C (v := (1 : Int32)) dX3_hasBar_50 (by decide) ?_
      cases h
      exact g_zret (pc := 51) (x := (1 : Int32)) C hr (by decide) dX3_hasBar_51
set_option maxHeartbeats 4000000 in
set_option maxRecDepth 20000 in
theorem bX3_hasBar_2 (C : hv_C p s m args meth c cX3_hasBar 4 wsX3_hasBar RX3 D (hv_tys cy)) (hr : meth.sig.returnType = (some .boolean)) {n : Nat} {o : Int32 × hv_St} : ∀ (i : Nat) (σ : hv_St) (x1 : Int32) (x2 : Int32) (x3 : Int32), kX3_hasBar_2 n i σ x1 x2 x3 = some o → hv_G p l e (headSpec wsX3_hasBar rmX3_hasBar).room s m args below meth c 4 D 55 a (hv_XE a cy) 0 0 (hv_MQ D 55 a (hv_XE a cy) below args s (some (.int o.1)) o.2) σ 2 [(0, .ref (a 1)), (1, .int (x1)), (2, .int (x2)), (3, .int (x3))] [] := by
  intro i
  induction i with
  | zero =>
    intro σ x1 x2 x3 h
    cases h
  | succ i ih =>
    intro σ x1 x2 x3 h
    generalize hg : kX3_hasBar_2 n i = r2 at ih
    have hr2 := ih
    replace h : kX3_hasBar_2_b n r2 σ x1 x2 x3 = some o := by rw [← hg]; exact h
    unfold kX3_hasBar_2_b at h
    refine g_iload_n (pc := 2) C 3 dX3_hasBar_2 rfl rfl ?_
    refine g_aload_n (pc := 3) C 0 dX3_hasBar_3 rfl rfl ?_
    refine gx_get_1_1 (pc := 4) C iX3_hasBar_X3 qX3_hasBar_F38 dX3_hasBar_4 ?_
    refine g_icmp_ge (pc := 7) (tgt := 58) C dX3_hasBar_7 (by decide) (fun c7 => ?_) (fun c7 => ?_)
    · rw [if_pos c7] at h
      refine g_iconst (pc := 58) C (v := (0 : Int32)) dX3_hasBar_58 (by decide) ?_
      cases h
      exact g_zret (pc := 59) (x := (0 : Int32)) C hr (by decide) dX3_hasBar_59
    · rw [if_neg c7] at h
      refine g_aload_n (pc := 10) C 0 dX3_hasBar_10 rfl rfl ?_
      refine gx_get_1_6 (pc := 11) C iX3_hasBar_X3 qX3_hasBar_F22 dX3_hasBar_11 ?_
      refine g_iload_n (pc := 14) C 3 dX3_hasBar_14 rfl rfl ?_
      obtain ⟨k15, h⟩ := hv_if_some h
      refine gx_ld_5 (pc := 15) C k15 dX3_hasBar_15 ?_
      refine g_iload_n (pc := 16) C 1 dX3_hasBar_16 rfl rfl ?_
      refine g_icmp_ne (pc := 17) (tgt := 30) C dX3_hasBar_17 (by decide) (fun c17 => ?_) (fun c17 => ?_)
      · rw [if_neg c17] at h
        exact g_lv [0, 1, 2, 3] rfl (bX3_hasBar_30 C hr hr2 σ (x1) (x2) (x3) h)
      · rw [if_pos c17] at h
        refine g_aload_n (pc := 20) C 0 dX3_hasBar_20 rfl rfl ?_
        refine gx_get_1_7 (pc := 21) C iX3_hasBar_X3 qX3_hasBar_F25 dX3_hasBar_21 ?_
        refine g_iload_n (pc := 24) C 3 dX3_hasBar_24 rfl rfl ?_
        obtain ⟨k25, h⟩ := hv_if_some h
        refine gx_ld_6 (pc := 25) C k25 dX3_hasBar_25 ?_
        refine g_iload_n (pc := 26) C 2 dX3_hasBar_26 rfl rfl ?_
        refine g_icmp_eq (pc := 27) (tgt := 50) C dX3_hasBar_27 (by decide) (fun c27 => ?_) (fun c27 => ?_)
        · rw [if_pos c27] at h
          refine g_iconst (pc := 50) C (v := (1 : Int32)) dX3_hasBar_50 (by decide) ?_
          cases h
          exact g_zret (pc := 51) (x := (1 : Int32)) C hr (by decide) dX3_hasBar_51
        · rw [if_neg c27] at h
          exact g_lv [0, 1, 2, 3] rfl (bX3_hasBar_30 C hr hr2 σ (x1) (x2) (x3) h)
set_option maxHeartbeats 4000000 in
set_option maxRecDepth 20000 in
theorem vX3_hasBar {n : Nat} {σ : hv_St} {p0 : Int32} {p1 : Int32} {o : Int32 × hv_St} (h : mX3_hasBar n σ p0 p1 = some o) : hv_M l yX3_hasBar wsX3_hasBar rmX3_hasBar D (hv_tys cy) 55 a (hv_XE a cy) [.ref (a 1), .int (p0), .int (p1)] σ (some (.int o.1)) o.2 := by
  refine hv_enter (own := RX3) (cc := cX3_hasBar) (maxL := 4) (ret := (some .boolean)) (by decide) rfl rfl (Nat.le_of_ble_eq_true rfl) ?_
  intro p e s m args below meth c C hr
  unfold mX3_hasBar at h
  refine g_lv [0, 1, 2] (lv' := [(0, .ref (a 1)), (1, .int (p0)), (2, .int (p1))]) rfl ?_
  refine g_iconst (pc := 0) C (v := (0 : Int32)) dX3_hasBar_0 (by decide) ?_
  refine g_istore_n (pc := 1) C (lv' := [(3, .int ((0 : Int32))), (0, .ref (a 1)), (1, .int (p0)), (2, .int (p1))]) rfl dX3_hasBar_1 rfl (Nat.le_of_ble_eq_true rfl) rfl ?_
  exact g_lv [1, 2, 3, 0] rfl (bX3_hasBar_2 C hr n σ (p0) (p1) ((0 : Int32)) h)
abbrev rmX3_put : Room := { frames := 0, cells := 0, slots := 0, locals := 0 }
set_option maxRecDepth 20000 in
theorem qX3_put_F9 : Cond.fieldLink RX3 9 "PinFrame$Frame" "spot" "[I" ∈ wsX3_put := by decide +kernel
set_option maxRecDepth 20000 in
theorem iX3_put_X3 : ∀ w ∈ u_ws RX3 TX3 10, w ∈ wsX3_put := by decide +kernel
set_option maxHeartbeats 4000000 in
set_option maxRecDepth 20000 in
theorem vX3_put {n : Nat} {σ : hv_St} {p0 : Int32} {p1 : Int32} {p2 : Int32} {o : hv_St} (h : mX3_put n σ p0 p1 p2 = some o) : hv_M l yX3_put wsX3_put rmX3_put D (hv_tys cy) 55 a (hv_XE a cy) [.ref (a 1), .int (p0), .int (p1), .int (p2)] σ none o := by
  refine hv_enter (own := RX3) (cc := cX3_put) (maxL := 4) (ret := none) (by decide) rfl rfl (Nat.le_of_ble_eq_true rfl) ?_
  intro p e s m args below meth c C hr
  unfold mX3_put at h
  refine g_lv [0, 1, 2, 3] (lv' := [(0, .ref (a 1)), (1, .int (p0)), (2, .int (p1)), (3, .int (p2))]) rfl ?_
  refine g_aload_n (pc := 0) C 0 dX3_put_0 rfl rfl ?_
  refine gx_get_1_3 (pc := 1) C iX3_put_X3 qX3_put_F9 dX3_put_1 ?_
  refine g_iconst (pc := 4) C (v := (2 : Int32)) dX3_put_4 (by decide) ?_
  refine g_iload_n (pc := 5) C 1 dX3_put_5 rfl rfl ?_
  refine g_imul (pc := 6) C dX3_put_6 ?_
  refine g_iload_n (pc := 7) C 2 dX3_put_7 rfl rfl ?_
  obtain ⟨k8, h⟩ := hv_if_some h
  obtain ⟨s8, es8, h⟩ := hv_let_some h
  refine gx_st_2 (pc := 8) C es8 k8 dX3_put_8 ?_
  refine g_aload_n (pc := 9) C 0 dX3_put_9 rfl rfl ?_
  refine gx_get_1_3 (pc := 10) C iX3_put_X3 qX3_put_F9 dX3_put_10 ?_
  refine g_iconst (pc := 13) C (v := (2 : Int32)) dX3_put_13 (by decide) ?_
  refine g_iload_n (pc := 14) C 1 dX3_put_14 rfl rfl ?_
  refine g_imul (pc := 15) C dX3_put_15 ?_
  refine g_iconst (pc := 16) C (v := (1 : Int32)) dX3_put_16 (by decide) ?_
  refine g_iadd (pc := 17) C dX3_put_17 ?_
  refine g_iload_n (pc := 18) C 3 dX3_put_18 rfl rfl ?_
  obtain ⟨k19, h⟩ := hv_if_some h
  obtain ⟨s19, es19, h⟩ := hv_let_some h
  refine gx_st_2 (pc := 19) C es19 k19 dX3_put_19 ?_
  cases h
  exact g_vret (pc := 20) C hr dX3_put_20
abbrev rmX3_addBar : Room := { frames := 0, cells := 0, slots := 0, locals := 0 }
set_option maxRecDepth 20000 in
theorem qX3_addBar_F22 : Cond.fieldLink RX3 22 "PinFrame$Frame" "one" "[I" ∈ wsX3_addBar := by decide +kernel
set_option maxRecDepth 20000 in
theorem qX3_addBar_F25 : Cond.fieldLink RX3 25 "PinFrame$Frame" "other" "[I" ∈ wsX3_addBar := by decide +kernel
set_option maxRecDepth 20000 in
theorem qX3_addBar_F28 : Cond.fieldLink RX3 28 "PinFrame$Frame" "give" "[I" ∈ wsX3_addBar := by decide +kernel
set_option maxRecDepth 20000 in
theorem qX3_addBar_F31 : Cond.fieldLink RX3 31 "PinFrame$Frame" "strength" "[I" ∈ wsX3_addBar := by decide +kernel
set_option maxRecDepth 20000 in
theorem qX3_addBar_F38 : Cond.fieldLink RX3 38 "PinFrame$Frame" "bars" "I" ∈ wsX3_addBar := by decide +kernel
set_option maxRecDepth 20000 in
theorem qX3_addBar_F45 : Cond.fieldLink RX3 45 "PinFrame$Frame" "on" "I" ∈ wsX3_addBar := by decide +kernel
set_option maxRecDepth 20000 in
theorem iX3_addBar_X3 : ∀ w ∈ u_ws RX3 TX3 10, w ∈ wsX3_addBar := by decide +kernel
set_option maxHeartbeats 4000000 in
set_option maxRecDepth 20000 in
theorem vX3_addBar {n : Nat} {σ : hv_St} {p0 : Int32} {p1 : Int32} {p2 : Int32} {o : Int32 × hv_St} (h : mX3_addBar n σ p0 p1 p2 = some o) : hv_M l yX3_addBar wsX3_addBar rmX3_addBar D (hv_tys cy) 55 a (hv_XE a cy) [.ref (a 1), .int (p0), .int (p1), .int (p2)] σ (some (.int o.1)) o.2 := by
  refine hv_enter (own := RX3) (cc := cX3_addBar) (maxL := 5) (ret := (some .int)) (by decide) rfl rfl (Nat.le_of_ble_eq_true rfl) ?_
  intro p e s m args below meth c C hr
  unfold mX3_addBar at h
  refine g_lv [0, 1, 2, 3] (lv' := [(0, .ref (a 1)), (1, .int (p0)), (2, .int (p1)), (3, .int (p2))]) rfl ?_
  refine g_aload_n (pc := 0) C 0 dX3_addBar_0 rfl rfl ?_
  refine gx_get_1_1 (pc := 1) C iX3_addBar_X3 qX3_addBar_F38 dX3_addBar_1 ?_
  obtain ⟨y4_4, ey4_4, h⟩ := hv_let_some h
  refine g_istore (pc := 4) C (lv' := [(4, .int (y4_4)), (0, .ref (a 1)), (1, .int (p0)), (2, .int (p1)), (3, .int (p2))]) ey4_4 dX3_addBar_4 (Nat.le_of_ble_eq_true rfl) rfl ?_
  refine g_aload_n (pc := 6) C 1 dX3_addBar_6 rfl rfl ?_
  refine gx_get_1_6 (pc := 7) C iX3_addBar_X3 qX3_addBar_F22 dX3_addBar_7 ?_
  refine g_iload (pc := 10) C 0 dX3_addBar_10 rfl ?_
  refine g_iload_n (pc := 12) C 2 dX3_addBar_12 rfl rfl ?_
  obtain ⟨k13, h⟩ := hv_if_some h
  obtain ⟨s13, es13, h⟩ := hv_let_some h
  refine gx_st_5 (pc := 13) C es13 k13 dX3_addBar_13 ?_
  refine g_aload_n (pc := 14) C 1 dX3_addBar_14 rfl rfl ?_
  refine gx_get_1_7 (pc := 15) C iX3_addBar_X3 qX3_addBar_F25 dX3_addBar_15 ?_
  refine g_iload (pc := 18) C 0 dX3_addBar_18 rfl ?_
  refine g_iload_n (pc := 20) C 3 dX3_addBar_20 rfl rfl ?_
  obtain ⟨k21, h⟩ := hv_if_some h
  obtain ⟨s21, es21, h⟩ := hv_let_some h
  refine gx_st_6 (pc := 21) C es21 k21 dX3_addBar_21 ?_
  refine g_aload_n (pc := 22) C 1 dX3_addBar_22 rfl rfl ?_
  refine gx_get_1_8 (pc := 23) C iX3_addBar_X3 qX3_addBar_F28 dX3_addBar_23 ?_
  refine g_iload (pc := 26) C 0 dX3_addBar_26 rfl ?_
  refine g_iload_n (pc := 28) C 4 dX3_addBar_28 rfl rfl ?_
  obtain ⟨k29, h⟩ := hv_if_some h
  obtain ⟨s29, es29, h⟩ := hv_let_some h
  refine gx_st_7 (pc := 29) C es29 k29 dX3_addBar_29 ?_
  refine g_aload_n (pc := 30) C 1 dX3_addBar_30 rfl rfl ?_
  refine gx_get_1_9 (pc := 31) C iX3_addBar_X3 qX3_addBar_F31 dX3_addBar_31 ?_
  refine g_iload (pc := 34) C 0 dX3_addBar_34 rfl ?_
  refine g_bipush (pc := 36) C (v := (99 : Int32)) dX3_addBar_36 (by decide) ?_
  obtain ⟨k38, h⟩ := hv_if_some h
  obtain ⟨s38, es38, h⟩ := hv_let_some h
  refine gx_st_8 (pc := 38) C es38 k38 dX3_addBar_38 ?_
  refine g_aload_n (pc := 39) C 1 dX3_addBar_39 rfl rfl ?_
  refine g_dup (pc := 40) C dX3_addBar_40 rfl ?_
  refine gx_get_1_2 (pc := 41) C iX3_addBar_X3 qX3_addBar_F45 dX3_addBar_41 ?_
  refine g_iconst (pc := 44) C (v := (1 : Int32)) dX3_addBar_44 (by decide) ?_
  refine g_iload (pc := 45) C 0 dX3_addBar_45 rfl ?_
  refine g_ishl (pc := 47) C dX3_addBar_47 ?_
  refine g_ior (pc := 48) C dX3_addBar_48 ?_
  obtain ⟨s49, es49, h⟩ := hv_let_some h
  refine gx_put_1_2 (pc := 49) C es49 iX3_addBar_X3 qX3_addBar_F45 dX3_addBar_49 ?_
  refine g_aload_n (pc := 52) C 1 dX3_addBar_52 rfl rfl ?_
  refine g_dup (pc := 53) C dX3_addBar_53 rfl ?_
  refine gx_get_1_1 (pc := 54) C iX3_addBar_X3 qX3_addBar_F38 dX3_addBar_54 ?_
  refine g_iconst (pc := 57) C (v := (1 : Int32)) dX3_addBar_57 (by decide) ?_
  refine g_iadd (pc := 58) C dX3_addBar_58 ?_
  obtain ⟨s59, es59, h⟩ := hv_let_some h
  refine gx_put_1_1 (pc := 59) C es59 iX3_addBar_X3 qX3_addBar_F38 dX3_addBar_59 ?_
  refine g_iload (pc := 62) C 0 dX3_addBar_62 rfl ?_
  cases h
  exact g_iret (pc := 64) C hr dX3_addBar_64
abbrev rmX3_barsAt : Room := { frames := 1, cells := 0, slots := 0, locals := 21 }
set_option maxRecDepth 20000 in
theorem qX3_barsAt_F22 : Cond.fieldLink RX3 22 "PinFrame$Frame" "one" "[I" ∈ wsX3_barsAt := by decide +kernel
set_option maxRecDepth 20000 in
theorem qX3_barsAt_F25 : Cond.fieldLink RX3 25 "PinFrame$Frame" "other" "[I" ∈ wsX3_barsAt := by decide +kernel
set_option maxRecDepth 20000 in
theorem qX3_barsAt_F38 : Cond.fieldLink RX3 38 "PinFrame$Frame" "bars" "I" ∈ wsX3_barsAt := by decide +kernel
set_option maxRecDepth 20000 in
theorem qX3_barsAt_F45 : Cond.fieldLink RX3 45 "PinFrame$Frame" "on" "I" ∈ wsX3_barsAt := by decide +kernel
set_option maxRecDepth 20000 in
theorem qX3_barsAt_NI_X7_has : Cond.initialized RX7 ∈ wsX3_barsAt := by decide +kernel
set_option maxRecDepth 20000 in
theorem qX3_barsAt_NS_X7_has : Cond.static yX7_has ∈ wsX3_barsAt := by decide +kernel
set_option maxRecDepth 20000 in
theorem iX3_barsAt_X3 : ∀ w ∈ u_ws RX3 TX3 10, w ∈ wsX3_barsAt := by decide +kernel
set_option maxHeartbeats 4000000 in
set_option maxRecDepth 20000 in
theorem bX3_barsAt_49 (C : hv_C p s m args meth c cX3_barsAt 4 wsX3_barsAt RX3 D (hv_tys cy)) (hr : meth.sig.returnType = (some .int)) {n : Nat} {o : Int32 × hv_St} {r4 : hv_St → Int32 → Int32 → Int32 → Option (Int32 × hv_St)} (hr4 : ∀ (σ : hv_St) (x1 : Int32) (x2 : Int32) (x3 : Int32), r4 σ x1 x2 x3 = some o → hv_G p l e (headSpec wsX3_barsAt rmX3_barsAt).room s m args below meth c 4 D 55 a (hv_XE a cy) 0 0 (hv_MQ D 55 a (hv_XE a cy) below args s (some (.int o.1)) o.2) σ 4 [(0, .ref (a 1)), (1, .int (x1)), (2, .int (x2)), (3, .int (x3))] []) : ∀ (σ : hv_St) (x1 : Int32) (x2 : Int32) (x3 : Int32), kX3_barsAt_49 n r4 σ x1 x2 x3 = some o → hv_G p l e (headSpec wsX3_barsAt rmX3_barsAt).room s m args below meth c 4 D 55 a (hv_XE a cy) 0 0 (hv_MQ D 55 a (hv_XE a cy) below args s (some (.int o.1)) o.2) σ 49 [(0, .ref (a 1)), (1, .int (x1)), (2, .int (x2)), (3, .int (x3))] [] := by
  intro σ x1 x2 x3 h
  unfold kX3_barsAt_49 at h
  refine g_iinc (pc := 49) C 3 (v := x3 + 1) (lv' := [(3, .int (x3 + 1)), (0, .ref (a 1)), (1, .int (x1)), (2, .int (x2))]) dX3_barsAt_49 rfl rfl (Nat.le_of_ble_eq_true rfl) rfl ?_
  refine g_goto (pc := 52) C (tgt := 4) dX3_barsAt_52 (by decide) ?_
  exact g_lv [1, 2, 3, 0] rfl (hr4 σ (x1) (x2) (x3 + 1) h)
set_option maxHeartbeats 4000000 in
set_option maxRecDepth 20000 in
theorem bX3_barsAt_43 (C : hv_C p s m args meth c cX3_barsAt 4 wsX3_barsAt RX3 D (hv_tys cy)) (hr : meth.sig.returnType = (some .int)) {n : Nat} {o : Int32 × hv_St} {r4 : hv_St → Int32 → Int32 → Int32 → Option (Int32 × hv_St)} (hr4 : ∀ (σ : hv_St) (x1 : Int32) (x2 : Int32) (x3 : Int32), r4 σ x1 x2 x3 = some o → hv_G p l e (headSpec wsX3_barsAt rmX3_barsAt).room s m args below meth c 4 D 55 a (hv_XE a cy) 0 0 (hv_MQ D 55 a (hv_XE a cy) below args s (some (.int o.1)) o.2) σ 4 [(0, .ref (a 1)), (1, .int (x1)), (2, .int (x2)), (3, .int (x3))] []) : ∀ (σ : hv_St) (x1 : Int32) (x2 : Int32) (x3 : Int32), kX3_barsAt_43 n r4 σ x1 x2 x3 = some o → hv_G p l e (headSpec wsX3_barsAt rmX3_barsAt).room s m args below meth c 4 D 55 a (hv_XE a cy) 0 0 (hv_MQ D 55 a (hv_XE a cy) below args s (some (.int o.1)) o.2) σ 43 [(0, .ref (a 1)), (1, .int (x1)), (2, .int (x2)), (3, .int (x3))] [] := by
  intro σ x1 x2 x3 h
  unfold kX3_barsAt_43 at h
  refine g_iload_n (pc := 43) C 2 dX3_barsAt_43 rfl rfl ?_
  refine g_iconst (pc := 44) C (v := (1 : Int32)) dX3_barsAt_44 (by decide) ?_
  refine g_iload_n (pc := 45) C 3 dX3_barsAt_45 rfl rfl ?_
  refine g_ishl (pc := 46) C dX3_barsAt_46 ?_
  refine g_ior (pc := 47) C dX3_barsAt_47 ?_
  obtain ⟨y2_48, ey2_48, h⟩ := hv_let_some h
  refine g_istore_n (pc := 48) C (lv' := [(2, .int (y2_48)), (0, .ref (a 1)), (1, .int (x1)), (3, .int (x3))]) ey2_48 dX3_barsAt_48 rfl (Nat.le_of_ble_eq_true rfl) rfl ?_
  exact g_lv [1, 2, 0, 3] rfl (bX3_barsAt_49 C hr hr4 σ (x1) (y2_48) (x3) h)
set_option maxHeartbeats 4000000 in
set_option maxRecDepth 20000 in
theorem bX3_barsAt_4 (C : hv_C p s m args meth c cX3_barsAt 4 wsX3_barsAt RX3 D (hv_tys cy)) (hr : meth.sig.returnType = (some .int)) {n : Nat} {o : Int32 × hv_St} : ∀ (i : Nat) (σ : hv_St) (x1 : Int32) (x2 : Int32) (x3 : Int32), kX3_barsAt_4 n i σ x1 x2 x3 = some o → hv_G p l e (headSpec wsX3_barsAt rmX3_barsAt).room s m args below meth c 4 D 55 a (hv_XE a cy) 0 0 (hv_MQ D 55 a (hv_XE a cy) below args s (some (.int o.1)) o.2) σ 4 [(0, .ref (a 1)), (1, .int (x1)), (2, .int (x2)), (3, .int (x3))] [] := by
  intro i
  induction i with
  | zero =>
    intro σ x1 x2 x3 h
    cases h
  | succ i ih =>
    intro σ x1 x2 x3 h
    generalize hg : kX3_barsAt_4 n i = r4 at ih
    have hr4 := ih
    replace h : kX3_barsAt_4_b n r4 σ x1 x2 x3 = some o := by rw [← hg]; exact h
    unfold kX3_barsAt_4_b at h
    refine g_iload_n (pc := 4) C 3 dX3_barsAt_4 rfl rfl ?_
    refine g_aload_n (pc := 5) C 0 dX3_barsAt_5 rfl rfl ?_
    refine gx_get_1_1 (pc := 6) C iX3_barsAt_X3 qX3_barsAt_F38 dX3_barsAt_6 ?_
    refine g_icmp_ge (pc := 9) (tgt := 55) C dX3_barsAt_9 (by decide) (fun c9 => ?_) (fun c9 => ?_)
    · rw [if_pos c9] at h
      refine g_iload_n (pc := 55) C 2 dX3_barsAt_55 rfl rfl ?_
      cases h
      exact g_iret (pc := 56) C hr dX3_barsAt_56
    · rw [if_neg c9] at h
      refine g_aload_n (pc := 12) C 0 dX3_barsAt_12 rfl rfl ?_
      refine gx_get_1_2 (pc := 13) C iX3_barsAt_X3 qX3_barsAt_F45 dX3_barsAt_13 ?_
      refine g_iload_n (pc := 16) C 3 dX3_barsAt_16 rfl rfl ?_
      obtain ⟨r17, s17, hc17, h⟩ := hv_b2_some h
      refine g_callSN (pc := 17) (σ1 := s17) (v := (some (.int (r17)))) (As := [.int (σ.1 1 2), .int (x3)]) (rest := []) C (vX7_has hc17) (va_cnB 2 C.1.2.2.2.2 gX3_barsAt_X7_has_n48 rfl rfl rfl (C.2.1.2 _ (List.mem_of_getElem? (i := 3) rfl)) (C.1.2.2.2.2 _ qX3_barsAt_NI_X7_has) (by decide +kernel) ⟨Nat.le_of_ble_eq_true rfl, Nat.le_of_ble_eq_true rfl⟩) qX3_barsAt_NS_X7_has rfl rfl (Nat.le_of_ble_eq_true rfl) dX3_barsAt_17 ⟨Nat.zero_le _, Nat.zero_le _⟩ ?_
      refine g_st (st' := [.int (r17)]) rfl ?_
      refine g_if_eq (pc := 20) (tgt := 49) C dX3_barsAt_20 (by decide) (fun c20 => ?_) (fun c20 => ?_)
      · rw [if_pos c20] at h
        exact g_lv [0, 1, 2, 3] rfl (bX3_barsAt_49 C hr hr4 s17 (x1) (x2) (x3) h)
      · rw [if_neg c20] at h
        refine g_aload_n (pc := 23) C 0 dX3_barsAt_23 rfl rfl ?_
        refine gx_get_1_6 (pc := 24) C iX3_barsAt_X3 qX3_barsAt_F22 dX3_barsAt_24 ?_
        refine g_iload_n (pc := 27) C 3 dX3_barsAt_27 rfl rfl ?_
        obtain ⟨k28, h⟩ := hv_if_some h
        refine gx_ld_5 (pc := 28) C k28 dX3_barsAt_28 ?_
        refine g_iload_n (pc := 29) C 1 dX3_barsAt_29 rfl rfl ?_
        refine g_icmp_eq (pc := 30) (tgt := 43) C dX3_barsAt_30 (by decide) (fun c30 => ?_) (fun c30 => ?_)
        · rw [if_pos c30] at h
          exact g_lv [0, 1, 2, 3] rfl (bX3_barsAt_43 C hr hr4 s17 (x1) (x2) (x3) h)
        · rw [if_neg c30] at h
          refine g_aload_n (pc := 33) C 0 dX3_barsAt_33 rfl rfl ?_
          refine gx_get_1_7 (pc := 34) C iX3_barsAt_X3 qX3_barsAt_F25 dX3_barsAt_34 ?_
          refine g_iload_n (pc := 37) C 3 dX3_barsAt_37 rfl rfl ?_
          obtain ⟨k38, h⟩ := hv_if_some h
          refine gx_ld_6 (pc := 38) C k38 dX3_barsAt_38 ?_
          refine g_iload_n (pc := 39) C 1 dX3_barsAt_39 rfl rfl ?_
          refine g_icmp_ne (pc := 40) (tgt := 49) C dX3_barsAt_40 (by decide) (fun c40 => ?_) (fun c40 => ?_)
          · rw [if_neg c40] at h
            exact g_lv [0, 1, 2, 3] rfl (bX3_barsAt_49 C hr hr4 s17 (x1) (x2) (x3) h)
          · rw [if_pos c40] at h
            exact g_lv [0, 1, 2, 3] rfl (bX3_barsAt_43 C hr hr4 s17 (x1) (x2) (x3) h)
set_option maxHeartbeats 4000000 in
set_option maxRecDepth 20000 in
theorem vX3_barsAt {n : Nat} {σ : hv_St} {p0 : Int32} {o : Int32 × hv_St} (h : mX3_barsAt n σ p0 = some o) : hv_M l yX3_barsAt wsX3_barsAt rmX3_barsAt D (hv_tys cy) 55 a (hv_XE a cy) [.ref (a 1), .int (p0)] σ (some (.int o.1)) o.2 := by
  refine hv_enter (own := RX3) (cc := cX3_barsAt) (maxL := 4) (ret := (some .int)) (by decide) rfl rfl (Nat.le_of_ble_eq_true rfl) ?_
  intro p e s m args below meth c C hr
  unfold mX3_barsAt at h
  refine g_lv [0, 1] (lv' := [(0, .ref (a 1)), (1, .int (p0))]) rfl ?_
  refine g_iconst (pc := 0) C (v := (0 : Int32)) dX3_barsAt_0 (by decide) ?_
  refine g_istore_n (pc := 1) C (lv' := [(2, .int ((0 : Int32))), (0, .ref (a 1)), (1, .int (p0))]) rfl dX3_barsAt_1 rfl (Nat.le_of_ble_eq_true rfl) rfl ?_
  refine g_iconst (pc := 2) C (v := (0 : Int32)) dX3_barsAt_2 (by decide) ?_
  refine g_istore_n (pc := 3) C (lv' := [(3, .int ((0 : Int32))), (2, .int ((0 : Int32))), (0, .ref (a 1)), (1, .int (p0))]) rfl dX3_barsAt_3 rfl (Nat.le_of_ble_eq_true rfl) rfl ?_
  exact g_lv [2, 3, 1, 0] rfl (bX3_barsAt_4 C hr n σ (p0) ((0 : Int32)) ((0 : Int32)) h)
abbrev rmX4_across : Room := { frames := 1, cells := 0, slots := 0, locals := 25 }
set_option maxRecDepth 20000 in
theorem qX4_across_F15 : Cond.fieldLink RX4 15 "PinFrame$Joints" "frame" "LPinFrame$Frame;" ∈ wsX4_across := by decide +kernel
set_option maxRecDepth 20000 in
theorem qX4_across_F59 : Cond.fieldLink RX4 59 "PinFrame$Frame" "bars" "I" ∈ wsX4_across := by decide +kernel
set_option maxRecDepth 20000 in
theorem qX4_across_NI_X7_has : Cond.initialized RX7 ∈ wsX4_across := by decide +kernel
set_option maxRecDepth 20000 in
theorem qX4_across_NS_X7_has : Cond.static yX7_has ∈ wsX4_across := by decide +kernel
set_option maxRecDepth 20000 in
theorem iX4_across_X3 : ∀ w ∈ u_ws RX3 TX3 10, w ∈ wsX4_across := by decide +kernel
set_option maxRecDepth 20000 in
theorem iX4_across_X4 : ∀ w ∈ u_ws RX4 TX4 4, w ∈ wsX4_across := by decide +kernel
set_option maxHeartbeats 4000000 in
set_option maxRecDepth 20000 in
theorem bX4_across_46 (C : hv_C p s m args meth c cX4_across 6 wsX4_across RX4 D (hv_tys cy)) (hr : meth.sig.returnType = (some .int)) {n : Nat} {o : Int32 × hv_St} {r6 : hv_St → Int32 → Int32 → Int32 → Int32 → Int32 → Option (Int32 × hv_St)} (hr6 : ∀ (σ : hv_St) (x1 : Int32) (x2 : Int32) (x3 : Int32) (x4 : Int32) (x5 : Int32), r6 σ x1 x2 x3 x4 x5 = some o → hv_G p l e (headSpec wsX4_across rmX4_across).room s m args below meth c 6 D 55 a (hv_XE a cy) 0 0 (hv_MQ D 55 a (hv_XE a cy) below args s (some (.int o.1)) o.2) σ 6 [(0, .ref (a 17)), (1, .int (x1)), (2, .int (x2)), (3, .int (x3)), (4, .int (x4)), (5, .int (x5))] []) : ∀ (σ : hv_St) (x1 : Int32) (x2 : Int32) (x3 : Int32) (x4 : Int32) (x5 : Int32), kX4_across_46 n r6 σ x1 x2 x3 x4 x5 = some o → hv_G p l e (headSpec wsX4_across rmX4_across).room s m args below meth c 6 D 55 a (hv_XE a cy) 0 0 (hv_MQ D 55 a (hv_XE a cy) below args s (some (.int o.1)) o.2) σ 46 [(0, .ref (a 17)), (1, .int (x1)), (2, .int (x2)), (3, .int (x3)), (4, .int (x4)), (5, .int (x5))] [] := by
  intro σ x1 x2 x3 x4 x5 h
  unfold kX4_across_46 at h
  refine g_iinc (pc := 46) C 5 (v := x5 + 1) (lv' := [(5, .int (x5 + 1)), (0, .ref (a 17)), (1, .int (x1)), (2, .int (x2)), (3, .int (x3)), (4, .int (x4))]) dX4_across_46 rfl rfl (Nat.le_of_ble_eq_true rfl) rfl ?_
  refine g_goto (pc := 49) C (tgt := 6) dX4_across_49 (by decide) ?_
  exact g_lv [1, 2, 3, 4, 5, 0] rfl (hr6 σ (x1) (x2) (x3) (x4) (x5 + 1) h)
set_option maxHeartbeats 4000000 in
set_option maxRecDepth 20000 in
theorem bX4_across_6 (C : hv_C p s m args meth c cX4_across 6 wsX4_across RX4 D (hv_tys cy)) (hr : meth.sig.returnType = (some .int)) {n : Nat} {o : Int32 × hv_St} : ∀ (i : Nat) (σ : hv_St) (x1 : Int32) (x2 : Int32) (x3 : Int32) (x4 : Int32) (x5 : Int32), kX4_across_6 n i σ x1 x2 x3 x4 x5 = some o → hv_G p l e (headSpec wsX4_across rmX4_across).room s m args below meth c 6 D 55 a (hv_XE a cy) 0 0 (hv_MQ D 55 a (hv_XE a cy) below args s (some (.int o.1)) o.2) σ 6 [(0, .ref (a 17)), (1, .int (x1)), (2, .int (x2)), (3, .int (x3)), (4, .int (x4)), (5, .int (x5))] [] := by
  intro i
  induction i with
  | zero =>
    intro σ x1 x2 x3 x4 x5 h
    cases h
  | succ i ih =>
    intro σ x1 x2 x3 x4 x5 h
    generalize hg : kX4_across_6 n i = r6 at ih
    have hr6 := ih
    replace h : kX4_across_6_b n r6 σ x1 x2 x3 x4 x5 = some o := by rw [← hg]; exact h
    unfold kX4_across_6_b at h
    refine g_iload (pc := 6) C 5 dX4_across_6 rfl ?_
    refine g_aload_n (pc := 8) C 0 dX4_across_8 rfl rfl ?_
    refine gx_get_17_0 (pc := 9) C iX4_across_X4 qX4_across_F15 dX4_across_9 ?_
    refine gx_get_1_1 (pc := 12) C iX4_across_X3 qX4_across_F59 dX4_across_12 ?_
    refine g_icmp_ge (pc := 15) (tgt := 52) C dX4_across_15 (by decide) (fun c15 => ?_) (fun c15 => ?_)
    · rw [if_pos c15] at h
      refine g_iload (pc := 52) C 4 dX4_across_52 rfl ?_
      cases h
      exact g_iret (pc := 54) C hr dX4_across_54
    · rw [if_neg c15] at h
      refine g_iload_n (pc := 18) C 3 dX4_across_18 rfl rfl ?_
      refine g_iload (pc := 19) C 5 dX4_across_19 rfl ?_
      obtain ⟨r21, s21, hc21, h⟩ := hv_b2_some h
      refine g_callSN (pc := 21) (σ1 := s21) (v := (some (.int (r21)))) (As := [.int (x3), .int (x5)]) (rest := []) C (vX7_has hc21) (va_cnB 2 C.1.2.2.2.2 gX4_across_X7_has_n62 rfl rfl rfl (C.2.1.2 _ (List.mem_of_getElem? (i := 4) rfl)) (C.1.2.2.2.2 _ qX4_across_NI_X7_has) (by decide +kernel) ⟨Nat.le_of_ble_eq_true rfl, Nat.le_of_ble_eq_true rfl⟩) qX4_across_NS_X7_has rfl rfl (Nat.le_of_ble_eq_true rfl) dX4_across_21 ⟨Nat.zero_le _, Nat.zero_le _⟩ ?_
      refine g_st (st' := [.int (r21)]) rfl ?_
      refine g_if_eq (pc := 24) (tgt := 46) C dX4_across_24 (by decide) (fun c24 => ?_) (fun c24 => ?_)
      · rw [if_pos c24] at h
        exact g_lv [0, 1, 2, 3, 4, 5] rfl (bX4_across_46 C hr hr6 s21 (x1) (x2) (x3) (x4) (x5) h)
      · rw [if_neg c24] at h
        refine g_iload (pc := 27) C 4 dX4_across_27 rfl ?_
        refine g_aload_n (pc := 29) C 0 dX4_across_29 rfl rfl ?_
        refine gx_get_17_0 (pc := 30) C iX4_across_X4 qX4_across_F15 dX4_across_30 ?_
        refine g_iload (pc := 33) C 5 dX4_across_33 rfl ?_
        refine g_iconst (pc := 35) C (v := (2 : Int32)) dX4_across_35 (by decide) ?_
        refine g_iload_n (pc := 36) C 1 dX4_across_36 rfl rfl ?_
        refine g_imul (pc := 37) C dX4_across_37 ?_
        refine g_iload_n (pc := 38) C 2 dX4_across_38 rfl rfl ?_
        refine g_iadd (pc := 39) C dX4_across_39 ?_
        obtain ⟨r40, s40, hc40, h⟩ := hv_b2_some h
        refine g_callV (pc := 40) (σ1 := s40) (v := (some (.int (r40)))) (As := [.int (x5), .int ((((2 : Int32)) * (x1)) + (x2))]) (rest := [.int (x4)]) C 1 (vX3_brings hc40) (cwV 2 C.1.2.2.2.2 gX4_across_X3_brings rfl rfl rfl (by decide +kernel) ⟨Nat.le_of_ble_eq_true rfl, Nat.le_of_ble_eq_true rfl⟩) (Nat.le_of_ble_eq_true rfl) rfl rfl rfl rfl (Nat.le_of_ble_eq_true rfl) dX4_across_40 ⟨Nat.zero_le _, Nat.zero_le _⟩ ?_
        refine g_st (st' := [.int (r40), .int (x4)]) rfl ?_
        refine g_iadd (pc := 43) C dX4_across_43 ?_
        obtain ⟨y4_44, ey4_44, h⟩ := hv_let_some h
        refine g_istore (pc := 44) C (lv' := [(4, .int (y4_44)), (0, .ref (a 17)), (1, .int (x1)), (2, .int (x2)), (3, .int (x3)), (5, .int (x5))]) ey4_44 dX4_across_44 (Nat.le_of_ble_eq_true rfl) rfl ?_
        exact g_lv [1, 2, 3, 4, 0, 5] rfl (bX4_across_46 C hr hr6 s40 (x1) (x2) (x3) (y4_44) (x5) h)
set_option maxHeartbeats 4000000 in
set_option maxRecDepth 20000 in
theorem vX4_across {n : Nat} {σ : hv_St} {p0 : Int32} {p1 : Int32} {p2 : Int32} {o : Int32 × hv_St} (h : mX4_across n σ p0 p1 p2 = some o) : hv_M l yX4_across wsX4_across rmX4_across D (hv_tys cy) 55 a (hv_XE a cy) [.ref (a 17), .int (p0), .int (p1), .int (p2)] σ (some (.int o.1)) o.2 := by
  refine hv_enter (own := RX4) (cc := cX4_across) (maxL := 6) (ret := (some .int)) (by decide) rfl rfl (Nat.le_of_ble_eq_true rfl) ?_
  intro p e s m args below meth c C hr
  unfold mX4_across at h
  refine g_lv [0, 1, 2, 3] (lv' := [(0, .ref (a 17)), (1, .int (p0)), (2, .int (p1)), (3, .int (p2))]) rfl ?_
  refine g_iconst (pc := 0) C (v := (0 : Int32)) dX4_across_0 (by decide) ?_
  refine g_istore (pc := 1) C (lv' := [(4, .int ((0 : Int32))), (0, .ref (a 17)), (1, .int (p0)), (2, .int (p1)), (3, .int (p2))]) rfl dX4_across_1 (Nat.le_of_ble_eq_true rfl) rfl ?_
  refine g_iconst (pc := 3) C (v := (0 : Int32)) dX4_across_3 (by decide) ?_
  refine g_istore (pc := 4) C (lv' := [(5, .int ((0 : Int32))), (4, .int ((0 : Int32))), (0, .ref (a 17)), (1, .int (p0)), (2, .int (p1)), (3, .int (p2))]) rfl dX4_across_4 (Nat.le_of_ble_eq_true rfl) rfl ?_
  exact g_lv [2, 3, 4, 5, 1, 0] rfl (bX4_across_6 C hr n σ (p0) (p1) (p2) ((0 : Int32)) ((0 : Int32)) h)
abbrev rmX4_turns : Room := { frames := 2, cells := 0, slots := 0, locals := 50 }
set_option maxHeartbeats 4000000 in
set_option maxRecDepth 20000 in
theorem vX4_turns {n : Nat} {σ : hv_St} {p0 : Int32} {p1 : Int32} {o : Int32 × hv_St} (h : mX4_turns n σ p0 p1 = some o) : hv_M l yX4_turns wsX4_turns rmX4_turns D (hv_tys cy) 55 a (hv_XE a cy) [.ref (a 17), .int (p0), .int (p1)] σ (some (.int o.1)) o.2 := by
  refine hv_enter (own := RX4) (cc := cX4_turns) (maxL := 7) (ret := (some .boolean)) (by decide) rfl rfl (Nat.le_of_ble_eq_true rfl) ?_
  intro p e s m args below meth c C hr
  unfold mX4_turns at h
  refine g_lv [0, 1, 2] (lv' := [(0, .ref (a 17)), (1, .int (p0)), (2, .int (p1))]) rfl ?_
  refine g_iload_n (pc := 0) C 2 dX4_turns_0 rfl rfl ?_
  refine g_iload_n (pc := 1) C 2 dX4_turns_1 rfl rfl ?_
  refine g_iconst (pc := 2) C (v := (1 : Int32)) dX4_turns_2 (by decide) ?_
  refine g_isub (pc := 3) C dX4_turns_3 ?_
  refine g_iand (pc := 4) C dX4_turns_4 ?_
  obtain ⟨y3_5, ey3_5, h⟩ := hv_let_some h
  refine g_istore_n (pc := 5) C (lv' := [(3, .int (y3_5)), (0, .ref (a 17)), (1, .int (p0)), (2, .int (p1))]) ey3_5 dX4_turns_5 rfl (Nat.le_of_ble_eq_true rfl) rfl ?_
  refine g_iload_n (pc := 6) C 3 dX4_turns_6 rfl rfl ?_
  refine g_iload_n (pc := 7) C 0 dX4_turns_7 rfl rfl ?_
  refine g_ixor (pc := 8) C dX4_turns_8 ?_
  obtain ⟨y4_9, ey4_9, h⟩ := hv_let_some h
  refine g_istore (pc := 9) C (lv' := [(4, .int (y4_9)), (3, .int (y3_5)), (0, .ref (a 17)), (1, .int (p0)), (2, .int (p1))]) ey4_9 dX4_turns_9 (Nat.le_of_ble_eq_true rfl) rfl ?_
  refine g_aload_n (pc := 11) C 2 dX4_turns_11 rfl rfl ?_
  refine g_iload_n (pc := 12) C 3 dX4_turns_12 rfl rfl ?_
  refine g_iconst (pc := 13) C (v := (0 : Int32)) dX4_turns_13 (by decide) ?_
  refine g_iload (pc := 14) C 0 dX4_turns_14 rfl ?_
  obtain ⟨r16, s16, hc16, h⟩ := hv_b2_some h
  refine g_callV (pc := 16) (σ1 := s16) (v := (some (.int (r16)))) (As := [.int (p0), .int ((0 : Int32)), .int (y4_9)]) (rest := []) C 17 (vX4_across hc16) (cwV 3 C.1.2.2.2.2 gX4_turns_X4_across rfl rfl rfl (by decide +kernel) ⟨Nat.le_of_ble_eq_true rfl, Nat.le_of_ble_eq_true rfl⟩) (Nat.le_of_ble_eq_true rfl) rfl rfl rfl rfl (Nat.le_of_ble_eq_true rfl) dX4_turns_16 ⟨Nat.zero_le _, Nat.zero_le _⟩ ?_
  refine g_st (st' := [.int (r16)]) rfl ?_
  refine g_aload_n (pc := 19) C 2 dX4_turns_19 rfl rfl ?_
  refine g_iload_n (pc := 20) C 3 dX4_turns_20 rfl rfl ?_
  refine g_iconst (pc := 21) C (v := (1 : Int32)) dX4_turns_21 (by decide) ?_
  refine g_iload_n (pc := 22) C 1 dX4_turns_22 rfl rfl ?_
  obtain ⟨r23, s23, hc23, h⟩ := hv_b2_some h
  refine g_callV (pc := 23) (σ1 := s23) (v := (some (.int (r23)))) (As := [.int (p0), .int ((1 : Int32)), .int (y3_5)]) (rest := [.int (r16)]) C 17 (vX4_across hc23) (cwV 3 C.1.2.2.2.2 gX4_turns_X4_across rfl rfl rfl (by decide +kernel) ⟨Nat.le_of_ble_eq_true rfl, Nat.le_of_ble_eq_true rfl⟩) (Nat.le_of_ble_eq_true rfl) rfl rfl rfl rfl (Nat.le_of_ble_eq_true rfl) dX4_turns_23 ⟨Nat.zero_le _, Nat.zero_le _⟩ ?_
  refine g_st (st' := [.int (r23), .int (r16)]) rfl ?_
  refine g_imul (pc := 26) C dX4_turns_26 ?_
  obtain ⟨y5_27, ey5_27, h⟩ := hv_let_some h
  refine g_istore (pc := 27) C (lv' := [(5, .int (y5_27)), (4, .int (y4_9)), (3, .int (y3_5)), (0, .ref (a 17)), (1, .int (p0)), (2, .int (p1))]) ey5_27 dX4_turns_27 (Nat.le_of_ble_eq_true rfl) rfl ?_
  refine g_aload_n (pc := 29) C 3 dX4_turns_29 rfl rfl ?_
  refine g_iload_n (pc := 30) C 4 dX4_turns_30 rfl rfl ?_
  refine g_iconst (pc := 31) C (v := (1 : Int32)) dX4_turns_31 (by decide) ?_
  refine g_iload (pc := 32) C 1 dX4_turns_32 rfl ?_
  obtain ⟨r34, s34, hc34, h⟩ := hv_b2_some h
  refine g_callV (pc := 34) (σ1 := s34) (v := (some (.int (r34)))) (As := [.int (p0), .int ((1 : Int32)), .int (y4_9)]) (rest := []) C 17 (vX4_across hc34) (cwV 3 C.1.2.2.2.2 gX4_turns_X4_across rfl rfl rfl (by decide +kernel) ⟨Nat.le_of_ble_eq_true rfl, Nat.le_of_ble_eq_true rfl⟩) (Nat.le_of_ble_eq_true rfl) rfl rfl rfl rfl (Nat.le_of_ble_eq_true rfl) dX4_turns_34 ⟨Nat.zero_le _, Nat.zero_le _⟩ ?_
  refine g_st (st' := [.int (r34)]) rfl ?_
  refine g_aload_n (pc := 37) C 3 dX4_turns_37 rfl rfl ?_
  refine g_iload_n (pc := 38) C 4 dX4_turns_38 rfl rfl ?_
  refine g_iconst (pc := 39) C (v := (0 : Int32)) dX4_turns_39 (by decide) ?_
  refine g_iload_n (pc := 40) C 2 dX4_turns_40 rfl rfl ?_
  obtain ⟨r41, s41, hc41, h⟩ := hv_b2_some h
  refine g_callV (pc := 41) (σ1 := s41) (v := (some (.int (r41)))) (As := [.int (p0), .int ((0 : Int32)), .int (y3_5)]) (rest := [.int (r34)]) C 17 (vX4_across hc41) (cwV 3 C.1.2.2.2.2 gX4_turns_X4_across rfl rfl rfl (by decide +kernel) ⟨Nat.le_of_ble_eq_true rfl, Nat.le_of_ble_eq_true rfl⟩) (Nat.le_of_ble_eq_true rfl) rfl rfl rfl rfl (Nat.le_of_ble_eq_true rfl) dX4_turns_41 ⟨Nat.zero_le _, Nat.zero_le _⟩ ?_
  refine g_st (st' := [.int (r41), .int (r34)]) rfl ?_
  refine g_imul (pc := 44) C dX4_turns_44 ?_
  obtain ⟨y6_45, ey6_45, h⟩ := hv_let_some h
  refine g_istore (pc := 45) C (lv' := [(6, .int (y6_45)), (5, .int (y5_27)), (4, .int (y4_9)), (3, .int (y3_5)), (0, .ref (a 17)), (1, .int (p0)), (2, .int (p1))]) ey6_45 dX4_turns_45 (Nat.le_of_ble_eq_true rfl) rfl ?_
  refine g_iload (pc := 47) C 1 dX4_turns_47 rfl ?_
  refine g_iload (pc := 49) C 0 dX4_turns_49 rfl ?_
  refine g_icmp_eq (pc := 51) (tgt := 58) C dX4_turns_51 (by decide) (fun c51 => ?_) (fun c51 => ?_)
  · rw [if_pos c51] at h
    refine g_iconst (pc := 58) C (v := (0 : Int32)) dX4_turns_58 (by decide) ?_
    cases h
    exact g_zret (pc := 59) (x := (0 : Int32)) C hr (by decide) dX4_turns_59
  · rw [if_neg c51] at h
    refine g_iconst (pc := 54) C (v := (1 : Int32)) dX4_turns_54 (by decide) ?_
    refine g_goto (pc := 55) C (tgt := 59) dX4_turns_55 (by decide) ?_
    cases h
    exact g_zret (pc := 59) (x := (1 : Int32)) C hr (by decide) dX4_turns_59
abbrev rmX4_determines : Room := { frames := 3, cells := 0, slots := 0, locals := 76 }
set_option maxRecDepth 20000 in
theorem qX4_determines_F15 : Cond.fieldLink RX4 15 "PinFrame$Joints" "frame" "LPinFrame$Frame;" ∈ wsX4_determines := by decide +kernel
set_option maxRecDepth 20000 in
theorem qX4_determines_F43 : Cond.fieldLink RX4 43 "PinFrame$Frame" "held" "[Z" ∈ wsX4_determines := by decide +kernel
set_option maxRecDepth 20000 in
theorem iX4_determines_X3 : ∀ w ∈ u_ws RX3 TX3 10, w ∈ wsX4_determines := by decide +kernel
set_option maxRecDepth 20000 in
theorem iX4_determines_X4 : ∀ w ∈ u_ws RX4 TX4 4, w ∈ wsX4_determines := by decide +kernel
set_option maxHeartbeats 4000000 in
set_option maxRecDepth 20000 in
theorem bX4_determines_129 (C : hv_C p s m args meth c cX4_determines 5 wsX4_determines RX4 D (hv_tys cy)) (hr : meth.sig.returnType = (some .boolean)) {n : Nat} {o : Int32 × hv_St} : ∀ (σ : hv_St), kX4_determines_129 n σ = some o → hv_G p l e (headSpec wsX4_determines rmX4_determines).room s m args below meth c 5 D 55 a (hv_XE a cy) 0 0 (hv_MQ D 55 a (hv_XE a cy) below args s (some (.int o.1)) o.2) σ 129 [] [] := by
  intro σ h
  unfold kX4_determines_129 at h
  refine g_iconst (pc := 129) C (v := (0 : Int32)) dX4_determines_129 (by decide) ?_
  cases h
  exact g_zret (pc := 130) (x := (0 : Int32)) C hr (by decide) dX4_determines_130
set_option maxHeartbeats 4000000 in
set_option maxRecDepth 20000 in
theorem bX4_determines_101 (C : hv_C p s m args meth c cX4_determines 5 wsX4_determines RX4 D (hv_tys cy)) (hr : meth.sig.returnType = (some .boolean)) {n : Nat} {o : Int32 × hv_St} : ∀ (σ : hv_St), kX4_determines_101 n σ = some o → hv_G p l e (headSpec wsX4_determines rmX4_determines).room s m args below meth c 5 D 55 a (hv_XE a cy) 0 0 (hv_MQ D 55 a (hv_XE a cy) below args s (some (.int o.1)) o.2) σ 101 [] [] := by
  intro σ h
  unfold kX4_determines_101 at h
  refine g_iconst (pc := 101) C (v := (1 : Int32)) dX4_determines_101 (by decide) ?_
  refine g_goto (pc := 102) C (tgt := 106) dX4_determines_102 (by decide) ?_
  cases h
  exact g_zret (pc := 106) (x := (1 : Int32)) C hr (by decide) dX4_determines_106
set_option maxHeartbeats 4000000 in
set_option maxRecDepth 20000 in
theorem bX4_determines_105 (C : hv_C p s m args meth c cX4_determines 5 wsX4_determines RX4 D (hv_tys cy)) (hr : meth.sig.returnType = (some .boolean)) {n : Nat} {o : Int32 × hv_St} : ∀ (σ : hv_St), kX4_determines_105 n σ = some o → hv_G p l e (headSpec wsX4_determines rmX4_determines).room s m args below meth c 5 D 55 a (hv_XE a cy) 0 0 (hv_MQ D 55 a (hv_XE a cy) below args s (some (.int o.1)) o.2) σ 105 [] [] := by
  intro σ h
  unfold kX4_determines_105 at h
  refine g_iconst (pc := 105) C (v := (0 : Int32)) dX4_determines_105 (by decide) ?_
  cases h
  exact g_zret (pc := 106) (x := (0 : Int32)) C hr (by decide) dX4_determines_106
set_option maxHeartbeats 4000000 in
set_option maxRecDepth 20000 in
theorem bX4_determines_86 (C : hv_C p s m args meth c cX4_determines 5 wsX4_determines RX4 D (hv_tys cy)) (hr : meth.sig.returnType = (some .boolean)) {n : Nat} {o : Int32 × hv_St} : ∀ (σ : hv_St) (x1 : Int32) (x2 : Int32) (x4 : Int32), kX4_determines_86 n σ x1 x2 x4 = some o → hv_G p l e (headSpec wsX4_determines rmX4_determines).room s m args below meth c 5 D 55 a (hv_XE a cy) 0 0 (hv_MQ D 55 a (hv_XE a cy) below args s (some (.int o.1)) o.2) σ 86 [(0, .ref (a 17)), (1, .int (x1)), (2, .int (x2)), (4, .int (x4))] [] := by
  intro σ x1 x2 x4 h
  unfold kX4_determines_86 at h
  refine g_iload (pc := 86) C 3 dX4_determines_86 rfl ?_
  refine g_if_eq (pc := 88) (tgt := 105) C dX4_determines_88 (by decide) (fun c88 => ?_) (fun c88 => ?_)
  · rw [if_pos c88] at h
    exact g_lv [] rfl (bX4_determines_105 C hr σ h)
  · rw [if_neg c88] at h
    refine g_aload_n (pc := 91) C 0 dX4_determines_91 rfl rfl ?_
    refine g_iload_n (pc := 92) C 1 dX4_determines_92 rfl rfl ?_
    refine g_iconst (pc := 93) C (v := (1 : Int32)) dX4_determines_93 (by decide) ?_
    refine g_iload_n (pc := 94) C 2 dX4_determines_94 rfl rfl ?_
    obtain ⟨r95, s95, hc95, h⟩ := hv_b2_some h
    refine g_callV (pc := 95) (σ1 := s95) (v := (some (.int (r95)))) (As := [.int (x1), .int ((1 : Int32)), .int (x2)]) (rest := []) C 17 (vX4_across hc95) (cwV 3 C.1.2.2.2.2 gX4_determines_X4_across rfl rfl rfl (by decide +kernel) ⟨Nat.le_of_ble_eq_true rfl, Nat.le_of_ble_eq_true rfl⟩) (Nat.le_of_ble_eq_true rfl) rfl rfl rfl rfl (Nat.le_of_ble_eq_true rfl) dX4_determines_95 ⟨Nat.zero_le _, Nat.zero_le _⟩ ?_
    refine g_st (st' := [.int (r95)]) rfl ?_
    refine g_if_eq (pc := 98) (tgt := 105) C dX4_determines_98 (by decide) (fun c98 => ?_) (fun c98 => ?_)
    · rw [if_pos c98] at h
      exact g_lv [] rfl (bX4_determines_105 C hr s95 h)
    · rw [if_neg c98] at h
      exact g_lv [] rfl (bX4_determines_101 C hr s95 h)
set_option maxHeartbeats 4000000 in
set_option maxRecDepth 20000 in
theorem bX4_determines_41 (C : hv_C p s m args meth c cX4_determines 5 wsX4_determines RX4 D (hv_tys cy)) (hr : meth.sig.returnType = (some .boolean)) {n : Nat} {o : Int32 × hv_St} : ∀ (σ : hv_St) (x1 : Int32) (x2 : Int32) (x3 : Int32) (z0 : Int32), kX4_determines_41 n σ x1 x2 x3 z0 = some o → hv_G p l e (headSpec wsX4_determines rmX4_determines).room s m args below meth c 5 D 55 a (hv_XE a cy) 0 0 (hv_MQ D 55 a (hv_XE a cy) below args s (some (.int o.1)) o.2) σ 41 [(0, .ref (a 17)), (1, .int (x1)), (2, .int (x2)), (3, .int (x3))] [.int (z0)] := by
  intro σ x1 x2 x3 z0 h
  unfold kX4_determines_41 at h
  refine g_istore (pc := 41) C (lv' := [(4, .int (z0)), (0, .ref (a 17)), (1, .int (x1)), (2, .int (x2)), (3, .int (x3))]) rfl dX4_determines_41 (Nat.le_of_ble_eq_true rfl) rfl ?_
  refine g_iload_n (pc := 43) C 3 dX4_determines_43 rfl rfl ?_
  obtain ⟨r44, s44, hc44, h⟩ := hv_b2_some h
  refine g_callS (pc := 44) (σ1 := s44) (v := (some (.int (r44)))) (As := [.int (x2)]) (rest := []) C (vJ6_bitCount_0f7a4 hc44) (va_cwS 1 C.1.2.2.2.2 gX4_determines_J6_bitCount_0f7a4 rfl rfl rfl (by decide +kernel) ⟨Nat.le_of_ble_eq_true rfl, Nat.le_of_ble_eq_true rfl⟩) rfl rfl (Nat.le_of_ble_eq_true rfl) dX4_determines_44 ⟨Nat.zero_le _, Nat.zero_le _⟩ ?_
  refine g_st (st' := [.int (r44)]) rfl ?_
  by_cases c47_1 : r44 = (1 : Int32)
  · rw [if_pos c47_1] at h
    refine g_lookup (pc := 47) (tgt := 72) C dX4_determines_47 (by decide) (by rw [c47_1] <;> rfl) (by decide) ?_
    refine g_iload_n (pc := 72) C 4 dX4_determines_72 rfl rfl ?_
    refine g_if_eq (pc := 73) (tgt := 86) C dX4_determines_73 (by decide) (fun c73 => ?_) (fun c73 => ?_)
    · rw [if_pos c73] at h
      exact g_lv [1, 2, 3, 0] rfl (bX4_determines_86 C hr s44 (x1) (x2) (z0) h)
    · rw [if_neg c73] at h
      refine g_aload_n (pc := 76) C 1 dX4_determines_76 rfl rfl ?_
      refine g_iload_n (pc := 77) C 2 dX4_determines_77 rfl rfl ?_
      refine g_iconst (pc := 78) C (v := (0 : Int32)) dX4_determines_78 (by decide) ?_
      refine g_iload_n (pc := 79) C 3 dX4_determines_79 rfl rfl ?_
      obtain ⟨r80, s80, hc80, h⟩ := hv_b2_some h
      refine g_callV (pc := 80) (σ1 := s80) (v := (some (.int (r80)))) (As := [.int (x1), .int ((0 : Int32)), .int (x2)]) (rest := []) C 17 (vX4_across hc80) (cwV 3 C.1.2.2.2.2 gX4_determines_X4_across rfl rfl rfl (by decide +kernel) ⟨Nat.le_of_ble_eq_true rfl, Nat.le_of_ble_eq_true rfl⟩) (Nat.le_of_ble_eq_true rfl) rfl rfl rfl rfl (Nat.le_of_ble_eq_true rfl) dX4_determines_80 ⟨Nat.zero_le _, Nat.zero_le _⟩ ?_
      refine g_st (st' := [.int (r80)]) rfl ?_
      refine g_if_ne (pc := 83) (tgt := 101) C dX4_determines_83 (by decide) (fun c83 => ?_) (fun c83 => ?_)
      · rw [if_neg c83] at h
        exact g_lv [] rfl (bX4_determines_101 C hr s80 h)
      · rw [if_pos c83] at h
        exact g_lv [1, 2, 3, 0] rfl (bX4_determines_86 C hr s80 (x1) (x2) (z0) h)
  · rw [if_neg c47_1] at h
    by_cases c47_2 : r44 = (2 : Int32)
    · rw [if_pos c47_2] at h
      refine g_lookup (pc := 47) (tgt := 107) C dX4_determines_47 (by decide) (by rw [c47_2] <;> rfl) (by decide) ?_
      refine g_iload_n (pc := 107) C 4 dX4_determines_107 rfl rfl ?_
      refine g_if_eq (pc := 108) (tgt := 129) C dX4_determines_108 (by decide) (fun c108 => ?_) (fun c108 => ?_)
      · rw [if_pos c108] at h
        exact g_lv [] rfl (bX4_determines_129 C hr s44 h)
      · rw [if_neg c108] at h
        refine g_iload (pc := 111) C 0 dX4_determines_111 rfl ?_
        refine g_if_eq (pc := 113) (tgt := 129) C dX4_determines_113 (by decide) (fun c113 => ?_) (fun c113 => ?_)
        · rw [if_pos c113] at h
          exact g_lv [] rfl (bX4_determines_129 C hr s44 h)
        · rw [if_neg c113] at h
          refine g_aload_n (pc := 116) C 1 dX4_determines_116 rfl rfl ?_
          refine g_iload_n (pc := 117) C 2 dX4_determines_117 rfl rfl ?_
          refine g_iload_n (pc := 118) C 3 dX4_determines_118 rfl rfl ?_
          obtain ⟨r119, s119, hc119, h⟩ := hv_b2_some h
          refine g_callV (pc := 119) (σ1 := s119) (v := (some (.int (r119)))) (As := [.int (x1), .int (x2)]) (rest := []) C 17 (vX4_turns hc119) (cwV 2 C.1.2.2.2.2 gX4_determines_X4_turns rfl rfl rfl (by decide +kernel) ⟨Nat.le_of_ble_eq_true rfl, Nat.le_of_ble_eq_true rfl⟩) (Nat.le_of_ble_eq_true rfl) rfl rfl rfl rfl (Nat.le_of_ble_eq_true rfl) dX4_determines_119 ⟨Nat.zero_le _, Nat.zero_le _⟩ ?_
          refine g_st (st' := [.int (r119)]) rfl ?_
          refine g_if_eq (pc := 122) (tgt := 129) C dX4_determines_122 (by decide) (fun c122 => ?_) (fun c122 => ?_)
          · rw [if_pos c122] at h
            exact g_lv [] rfl (bX4_determines_129 C hr s119 h)
          · rw [if_neg c122] at h
            refine g_iconst (pc := 125) C (v := (1 : Int32)) dX4_determines_125 (by decide) ?_
            refine g_goto (pc := 126) C (tgt := 130) dX4_determines_126 (by decide) ?_
            cases h
            exact g_zret (pc := 130) (x := (1 : Int32)) C hr (by decide) dX4_determines_130
    · rw [if_neg c47_2] at h
      have nc47_1 := lv_neT c47_1 (a := 1) (by decide)
      have nc47_2 := lv_neT c47_2 (a := 2) (by decide)
      refine g_lookup (pc := 47) (tgt := 131) (off := 84) C dX4_determines_47 (by decide) (by show Op.lookupswitch.offset [(1, 25), (2, 60)] 84 r44.toInt = _; rw [lv_osw c47_1 (by decide), lv_osw c47_2 (by decide)] <;> rfl) (by decide) ?_
      refine g_iconst (pc := 131) C (v := (0 : Int32)) dX4_determines_131 (by decide) ?_
      cases h
      exact g_zret (pc := 132) (x := (0 : Int32)) C hr (by decide) dX4_determines_132
set_option maxHeartbeats 4000000 in
set_option maxRecDepth 20000 in
theorem bX4_determines_19 (C : hv_C p s m args meth c cX4_determines 5 wsX4_determines RX4 D (hv_tys cy)) (hr : meth.sig.returnType = (some .boolean)) {n : Nat} {o : Int32 × hv_St} : ∀ (σ : hv_St) (x1 : Int32) (x2 : Int32) (z0 : Int32), kX4_determines_19 n σ x1 x2 z0 = some o → hv_G p l e (headSpec wsX4_determines rmX4_determines).room s m args below meth c 5 D 55 a (hv_XE a cy) 0 0 (hv_MQ D 55 a (hv_XE a cy) below args s (some (.int o.1)) o.2) σ 19 [(0, .ref (a 17)), (1, .int (x1)), (2, .int (x2))] [.int (z0)] := by
  intro σ x1 x2 z0 h
  unfold kX4_determines_19 at h
  refine g_istore_n (pc := 19) C (lv' := [(3, .int (z0)), (0, .ref (a 17)), (1, .int (x1)), (2, .int (x2))]) rfl dX4_determines_19 rfl (Nat.le_of_ble_eq_true rfl) rfl ?_
  refine g_aload_n (pc := 20) C 1 dX4_determines_20 rfl rfl ?_
  refine gx_get_17_0 (pc := 21) C iX4_determines_X4 qX4_determines_F15 dX4_determines_21 ?_
  refine gx_get_1_5 (pc := 24) C iX4_determines_X3 qX4_determines_F43 dX4_determines_24 ?_
  refine g_iconst (pc := 27) C (v := (2 : Int32)) dX4_determines_27 (by decide) ?_
  refine g_iload_n (pc := 28) C 2 dX4_determines_28 rfl rfl ?_
  refine g_imul (pc := 29) C dX4_determines_29 ?_
  refine g_iconst (pc := 30) C (v := (1 : Int32)) dX4_determines_30 (by decide) ?_
  refine g_iadd (pc := 31) C dX4_determines_31 ?_
  obtain ⟨k32, h⟩ := hv_if_some h
  refine gx_ld_4 (pc := 32) C k32 dX4_determines_32 ?_
  refine g_if_ne (pc := 33) (tgt := 40) C dX4_determines_33 (by decide) (fun c33 => ?_) (fun c33 => ?_)
  · rw [if_neg c33] at h
    refine g_iconst (pc := 40) C (v := (0 : Int32)) dX4_determines_40 (by decide) ?_
    exact g_lv [1, 2, 3, 0] rfl (bX4_determines_41 C hr σ (x1) (x2) (z0) ((0 : Int32)) h)
  · rw [if_pos c33] at h
    refine g_iconst (pc := 36) C (v := (1 : Int32)) dX4_determines_36 (by decide) ?_
    refine g_goto (pc := 37) C (tgt := 41) dX4_determines_37 (by decide) ?_
    exact g_lv [1, 2, 3, 0] rfl (bX4_determines_41 C hr σ (x1) (x2) (z0) ((1 : Int32)) h)
set_option maxHeartbeats 4000000 in
set_option maxRecDepth 20000 in
theorem vX4_determines {n : Nat} {σ : hv_St} {p0 : Int32} {p1 : Int32} {o : Int32 × hv_St} (h : mX4_determines n σ p0 p1 = some o) : hv_M l yX4_determines wsX4_determines rmX4_determines D (hv_tys cy) 55 a (hv_XE a cy) [.ref (a 17), .int (p0), .int (p1)] σ (some (.int o.1)) o.2 := by
  refine hv_enter (own := RX4) (cc := cX4_determines) (maxL := 5) (ret := (some .boolean)) (by decide) rfl rfl (Nat.le_of_ble_eq_true rfl) ?_
  intro p e s m args below meth c C hr
  unfold mX4_determines at h
  refine g_lv [0, 1, 2] (lv' := [(0, .ref (a 17)), (1, .int (p0)), (2, .int (p1))]) rfl ?_
  refine g_aload_n (pc := 0) C 0 dX4_determines_0 rfl rfl ?_
  refine gx_get_17_0 (pc := 1) C iX4_determines_X4 qX4_determines_F15 dX4_determines_1 ?_
  refine gx_get_1_5 (pc := 4) C iX4_determines_X3 qX4_determines_F43 dX4_determines_4 ?_
  refine g_iconst (pc := 7) C (v := (2 : Int32)) dX4_determines_7 (by decide) ?_
  refine g_iload_n (pc := 8) C 1 dX4_determines_8 rfl rfl ?_
  refine g_imul (pc := 9) C dX4_determines_9 ?_
  obtain ⟨k10, h⟩ := hv_if_some h
  refine gx_ld_4 (pc := 10) C k10 dX4_determines_10 ?_
  refine g_if_ne (pc := 11) (tgt := 18) C dX4_determines_11 (by decide) (fun c11 => ?_) (fun c11 => ?_)
  · rw [if_neg c11] at h
    refine g_iconst (pc := 18) C (v := (0 : Int32)) dX4_determines_18 (by decide) ?_
    exact g_lv [0, 1, 2] rfl (bX4_determines_19 C hr σ (p0) (p1) ((0 : Int32)) h)
  · rw [if_pos c11] at h
    refine g_iconst (pc := 14) C (v := (1 : Int32)) dX4_determines_14 (by decide) ?_
    refine g_goto (pc := 15) C (tgt := 19) dX4_determines_15 (by decide) ?_
    exact g_lv [0, 1, 2] rfl (bX4_determines_19 C hr σ (p0) (p1) ((1 : Int32)) h)
abbrev rmX4_doNext : Room := { frames := 4, cells := 0, slots := 0, locals := 100 }
set_option maxRecDepth 20000 in
theorem qX4_doNext_F15 : Cond.fieldLink RX4 15 "PinFrame$Joints" "frame" "LPinFrame$Frame;" ∈ wsX4_doNext := by decide +kernel
set_option maxRecDepth 20000 in
theorem qX4_doNext_F19 : Cond.fieldLink RX4 19 "PinFrame$Joints" "done" "I" ∈ wsX4_doNext := by decide +kernel
set_option maxRecDepth 20000 in
theorem qX4_doNext_F23 : Cond.fieldLink RX4 23 "PinFrame$Joints" "known" "I" ∈ wsX4_doNext := by decide +kernel
set_option maxRecDepth 20000 in
theorem qX4_doNext_F30 : Cond.fieldLink RX4 30 "PinFrame$Frame" "pins" "I" ∈ wsX4_doNext := by decide +kernel
set_option maxRecDepth 20000 in
theorem qX4_doNext_F9 : Cond.fieldLink RX4 9 "PinFrame$Joints" "order" "[I" ∈ wsX4_doNext := by decide +kernel
set_option maxRecDepth 20000 in
theorem iX4_doNext_X3 : ∀ w ∈ u_ws RX3 TX3 10, w ∈ wsX4_doNext := by decide +kernel
set_option maxRecDepth 20000 in
theorem iX4_doNext_X4 : ∀ w ∈ u_ws RX4 TX4 4, w ∈ wsX4_doNext := by decide +kernel
set_option maxHeartbeats 4000000 in
set_option maxRecDepth 20000 in
theorem bX4_doNext_79 (C : hv_C p s m args meth c cX4_doNext 3 wsX4_doNext RX4 D (hv_tys cy)) (hr : meth.sig.returnType = (some .boolean)) {n : Nat} {o : Int32 × hv_St} {r2 : hv_St → Int32 → Option (Int32 × hv_St)} (hr2 : ∀ (σ : hv_St) (x1 : Int32), r2 σ x1 = some o → hv_G p l e (headSpec wsX4_doNext rmX4_doNext).room s m args below meth c 3 D 55 a (hv_XE a cy) 0 0 (hv_MQ D 55 a (hv_XE a cy) below args s (some (.int o.1)) o.2) σ 2 [(0, .ref (a 17)), (1, .int (x1))] []) : ∀ (σ : hv_St) (x1 : Int32), kX4_doNext_79 n r2 σ x1 = some o → hv_G p l e (headSpec wsX4_doNext rmX4_doNext).room s m args below meth c 3 D 55 a (hv_XE a cy) 0 0 (hv_MQ D 55 a (hv_XE a cy) below args s (some (.int o.1)) o.2) σ 79 [(0, .ref (a 17)), (1, .int (x1))] [] := by
  intro σ x1 h
  unfold kX4_doNext_79 at h
  refine g_iinc (pc := 79) C 1 (v := x1 + 1) (lv' := [(1, .int (x1 + 1)), (0, .ref (a 17))]) dX4_doNext_79 rfl rfl (Nat.le_of_ble_eq_true rfl) rfl ?_
  refine g_goto (pc := 82) C (tgt := 2) dX4_doNext_82 (by decide) ?_
  exact g_lv [1, 0] rfl (hr2 σ (x1 + 1) h)
set_option maxHeartbeats 4000000 in
set_option maxRecDepth 20000 in
theorem bX4_doNext_2 (C : hv_C p s m args meth c cX4_doNext 3 wsX4_doNext RX4 D (hv_tys cy)) (hr : meth.sig.returnType = (some .boolean)) {n : Nat} {o : Int32 × hv_St} : ∀ (i : Nat) (σ : hv_St) (x1 : Int32), kX4_doNext_2 n i σ x1 = some o → hv_G p l e (headSpec wsX4_doNext rmX4_doNext).room s m args below meth c 3 D 55 a (hv_XE a cy) 0 0 (hv_MQ D 55 a (hv_XE a cy) below args s (some (.int o.1)) o.2) σ 2 [(0, .ref (a 17)), (1, .int (x1))] [] := by
  intro i
  induction i with
  | zero =>
    intro σ x1 h
    cases h
  | succ i ih =>
    intro σ x1 h
    generalize hg : kX4_doNext_2 n i = r2 at ih
    have hr2 := ih
    replace h : kX4_doNext_2_b n r2 σ x1 = some o := by rw [← hg]; exact h
    unfold kX4_doNext_2_b at h
    refine g_iload_n (pc := 2) C 1 dX4_doNext_2 rfl rfl ?_
    refine g_aload_n (pc := 3) C 0 dX4_doNext_3 rfl rfl ?_
    refine gx_get_17_0 (pc := 4) C iX4_doNext_X4 qX4_doNext_F15 dX4_doNext_4 ?_
    refine gx_get_1_0 (pc := 7) C iX4_doNext_X3 qX4_doNext_F30 dX4_doNext_7 ?_
    refine g_icmp_ge (pc := 10) (tgt := 85) C dX4_doNext_10 (by decide) (fun c10 => ?_) (fun c10 => ?_)
    · rw [if_pos c10] at h
      refine g_iconst (pc := 85) C (v := (0 : Int32)) dX4_doNext_85 (by decide) ?_
      cases h
      exact g_zret (pc := 86) (x := (0 : Int32)) C hr (by decide) dX4_doNext_86
    · rw [if_neg c10] at h
      refine g_aload_n (pc := 13) C 0 dX4_doNext_13 rfl rfl ?_
      refine gx_get_17_0 (pc := 14) C iX4_doNext_X4 qX4_doNext_F15 dX4_doNext_14 ?_
      refine g_iload_n (pc := 17) C 1 dX4_doNext_17 rfl rfl ?_
      obtain ⟨r18, s18, hc18, h⟩ := hv_b2_some h
      refine g_callV (pc := 18) (σ1 := s18) (v := (some (.int (r18)))) (As := [.int (x1)]) (rest := []) C 1 (vX3_barsAt hc18) (cwV 1 C.1.2.2.2.2 gX4_doNext_X3_barsAt rfl rfl rfl (by decide +kernel) ⟨Nat.le_of_ble_eq_true rfl, Nat.le_of_ble_eq_true rfl⟩) (Nat.le_of_ble_eq_true rfl) rfl rfl rfl rfl (Nat.le_of_ble_eq_true rfl) dX4_doNext_18 ⟨Nat.zero_le _, Nat.zero_le _⟩ ?_
      refine g_st (st' := [.int (r18)]) rfl ?_
      refine g_aload_n (pc := 21) C 0 dX4_doNext_21 rfl rfl ?_
      refine gx_get_17_3 (pc := 22) C iX4_doNext_X4 qX4_doNext_F23 dX4_doNext_22 ?_
      refine g_iconst (pc := 25) C (v := (-1 : Int32)) dX4_doNext_25 (by decide) ?_
      refine g_ixor (pc := 26) C dX4_doNext_26 ?_
      refine g_iand (pc := 27) C dX4_doNext_27 ?_
      obtain ⟨y2_28, ey2_28, h⟩ := hv_let_some h
      refine g_istore_n (pc := 28) C (lv' := [(2, .int (y2_28)), (0, .ref (a 17)), (1, .int (x1))]) ey2_28 dX4_doNext_28 rfl (Nat.le_of_ble_eq_true rfl) rfl ?_
      refine g_aload_n (pc := 29) C 1 dX4_doNext_29 rfl rfl ?_
      refine g_iload_n (pc := 30) C 2 dX4_doNext_30 rfl rfl ?_
      refine g_iload_n (pc := 31) C 0 dX4_doNext_31 rfl rfl ?_
      obtain ⟨r32, s32, hc32, h⟩ := hv_b2_some h
      refine g_callV (pc := 32) (σ1 := s32) (v := (some (.int (r32)))) (As := [.int (x1), .int (y2_28)]) (rest := []) C 17 (vX4_determines hc32) (cwV 2 C.1.2.2.2.2 gX4_doNext_X4_determines rfl rfl rfl (by decide +kernel) ⟨Nat.le_of_ble_eq_true rfl, Nat.le_of_ble_eq_true rfl⟩) (Nat.le_of_ble_eq_true rfl) rfl rfl rfl rfl (Nat.le_of_ble_eq_true rfl) dX4_doNext_32 ⟨Nat.zero_le _, Nat.zero_le _⟩ ?_
      refine g_st (st' := [.int (r32)]) rfl ?_
      refine g_if_eq (pc := 35) (tgt := 79) C dX4_doNext_35 (by decide) (fun c35 => ?_) (fun c35 => ?_)
      · rw [if_pos c35] at h
        exact g_lv [1, 2] rfl (bX4_doNext_79 C hr hr2 s32 (x1) h)
      · rw [if_neg c35] at h
        refine g_aload_n (pc := 38) C 1 dX4_doNext_38 rfl rfl ?_
        refine gx_get_17_2 (pc := 39) C iX4_doNext_X4 qX4_doNext_F19 dX4_doNext_39 ?_
        refine g_bipush (pc := 42) C (v := (6 : Int32)) dX4_doNext_42 (by decide) ?_
        refine g_icmp_ge (pc := 44) (tgt := 79) C dX4_doNext_44 (by decide) (fun c44 => ?_) (fun c44 => ?_)
        · rw [if_pos c44] at h
          exact g_lv [1, 2] rfl (bX4_doNext_79 C hr hr2 s32 (x1) h)
        · rw [if_neg c44] at h
          refine g_aload_n (pc := 47) C 1 dX4_doNext_47 rfl rfl ?_
          refine gx_get_17_1 (pc := 48) C iX4_doNext_X4 qX4_doNext_F9 dX4_doNext_48 ?_
          refine g_aload_n (pc := 51) C 1 dX4_doNext_51 rfl rfl ?_
          refine gx_get_17_2 (pc := 52) C iX4_doNext_X4 qX4_doNext_F19 dX4_doNext_52 ?_
          refine g_iload_n (pc := 55) C 2 dX4_doNext_55 rfl rfl ?_
          obtain ⟨k56, h⟩ := hv_if_some h
          obtain ⟨s56, es56, h⟩ := hv_let_some h
          refine gx_st_18 (pc := 56) C es56 k56 dX4_doNext_56 ?_
          refine g_aload_n (pc := 57) C 1 dX4_doNext_57 rfl rfl ?_
          refine g_dup (pc := 58) C dX4_doNext_58 rfl ?_
          refine gx_get_17_2 (pc := 59) C iX4_doNext_X4 qX4_doNext_F19 dX4_doNext_59 ?_
          refine g_iconst (pc := 62) C (v := (1 : Int32)) dX4_doNext_62 (by decide) ?_
          refine g_iadd (pc := 63) C dX4_doNext_63 ?_
          obtain ⟨s64, es64, h⟩ := hv_let_some h
          refine gx_put_17_2 (pc := 64) C es64 iX4_doNext_X4 qX4_doNext_F19 dX4_doNext_64 ?_
          refine g_aload_n (pc := 67) C 1 dX4_doNext_67 rfl rfl ?_
          refine g_dup (pc := 68) C dX4_doNext_68 rfl ?_
          refine gx_get_17_3 (pc := 69) C iX4_doNext_X4 qX4_doNext_F23 dX4_doNext_69 ?_
          refine g_iload_n (pc := 72) C 0 dX4_doNext_72 rfl rfl ?_
          refine g_ior (pc := 73) C dX4_doNext_73 ?_
          obtain ⟨s74, es74, h⟩ := hv_let_some h
          refine gx_put_17_3 (pc := 74) C es74 iX4_doNext_X4 qX4_doNext_F23 dX4_doNext_74 ?_
          refine g_iconst (pc := 77) C (v := (1 : Int32)) dX4_doNext_77 (by decide) ?_
          cases h
          exact g_zret (pc := 78) (x := (1 : Int32)) C hr (by decide) dX4_doNext_78
set_option maxHeartbeats 4000000 in
set_option maxRecDepth 20000 in
theorem vX4_doNext {n : Nat} {σ : hv_St} {o : Int32 × hv_St} (h : mX4_doNext n σ = some o) : hv_M l yX4_doNext wsX4_doNext rmX4_doNext D (hv_tys cy) 55 a (hv_XE a cy) [.ref (a 17)] σ (some (.int o.1)) o.2 := by
  refine hv_enter (own := RX4) (cc := cX4_doNext) (maxL := 3) (ret := (some .boolean)) (by decide) rfl rfl (Nat.le_of_ble_eq_true rfl) ?_
  intro p e s m args below meth c C hr
  unfold mX4_doNext at h
  refine g_lv [0] (lv' := [(0, .ref (a 17))]) rfl ?_
  refine g_iconst (pc := 0) C (v := (0 : Int32)) dX4_doNext_0 (by decide) ?_
  refine g_istore_n (pc := 1) C (lv' := [(1, .int ((0 : Int32))), (0, .ref (a 17))]) rfl dX4_doNext_1 rfl (Nat.le_of_ble_eq_true rfl) rfl ?_
  exact g_lv [1, 0] rfl (bX4_doNext_2 C hr n σ ((0 : Int32)) h)
end
