/-! reference, walked: X8_bears, X8_told, X8_pull, X8_spareAt, X8_laysState, X8_laysBare, X8_laysUnit, X8_state, X8_flex, X8_force, X8_influence, X8_endIn, X8_cuts -/
section
variable {p : Program} {l : Launch} {e : Env} {s : State} {m : MethodId} {args : Array Value} {below : List Frame} {meth : Method} {c : Code} {D : va_G} {a : Nat → Nat} {cy : ClassId × ClassId × ClassId × ClassId}
abbrev rmX8_bears : Room := { frames := 6, cells := 0, slots := 0, locals := 147 }
set_option maxRecDepth 20000 in
theorem qX8_bears_F130 : Cond.fieldLink RX8 130 "PinFrameModel" "free" "I" ∈ wsX8_bears := by decide +kernel
set_option maxRecDepth 20000 in
theorem qX8_bears_F189 : Cond.fieldLink RX8 189 "PinFrameModel" "under" "J" ∈ wsX8_bears := by decide +kernel
set_option maxRecDepth 20000 in
theorem qX8_bears_F53 : Cond.fieldLink RX8 53 "PinFrameModel" "over" "[J" ∈ wsX8_bears := by decide +kernel
set_option maxRecDepth 20000 in
theorem qX8_bears_F88 : Cond.fieldLink RX8 88 "PinFrameModel" "bars" "I" ∈ wsX8_bears := by decide +kernel
set_option maxRecDepth 20000 in
theorem iX8_bears_X8 : ∀ w ∈ u_ws RX8 TX8 35, w ∈ wsX8_bears := by decide +kernel
set_option maxHeartbeats 4000000 in
set_option maxRecDepth 20000 in
theorem bX8_bears_80 (C : hv_C p s m args meth c cX8_bears 3 wsX8_bears RX8 D (hv_tys cy)) (hr : meth.sig.returnType = (some .boolean)) {n : Nat} {o : Int32 × hv_St} {r45 : hv_St → Int32 → Int32 → Option (Int32 × hv_St)} (hr45 : ∀ (σ : hv_St) (x1 : Int32) (x2 : Int32), r45 σ x1 x2 = some o → hv_G p l e (headSpec wsX8_bears rmX8_bears).room s m args below meth c 3 D 23 a (hv_ME a cy) 0 0 (hv_MQ D 23 a (hv_ME a cy) below args s (some (.int o.1)) o.2) σ 45 [(0, .ref (a 0)), (1, .int (x1)), (2, .int (x2))] []) : ∀ (σ : hv_St) (x1 : Int32) (x2 : Int32), kX8_bears_80 n r45 σ x1 x2 = some o → hv_G p l e (headSpec wsX8_bears rmX8_bears).room s m args below meth c 3 D 23 a (hv_ME a cy) 0 0 (hv_MQ D 23 a (hv_ME a cy) below args s (some (.int o.1)) o.2) σ 80 [(0, .ref (a 0)), (1, .int (x1)), (2, .int (x2))] [] := by
  intro σ x1 x2 h
  unfold kX8_bears_80 at h
  refine g_iinc (pc := 80) C 2 (v := x2 + 1) (lv' := [(2, .int (x2 + 1)), (0, .ref (a 0)), (1, .int (x1))]) dX8_bears_80 rfl rfl (Nat.le_of_ble_eq_true rfl) rfl ?_
  refine g_goto (pc := 83) C (tgt := 45) dX8_bears_83 (by decide) ?_
  exact g_lv [1, 2, 0] rfl (hr45 σ (x1) (x2 + 1) h)
set_option maxHeartbeats 4000000 in
set_option maxRecDepth 20000 in
theorem bX8_bears_45 (C : hv_C p s m args meth c cX8_bears 3 wsX8_bears RX8 D (hv_tys cy)) (hr : meth.sig.returnType = (some .boolean)) {n : Nat} {o : Int32 × hv_St} : ∀ (i : Nat) (σ : hv_St) (x1 : Int32) (x2 : Int32), kX8_bears_45 n i σ x1 x2 = some o → hv_G p l e (headSpec wsX8_bears rmX8_bears).room s m args below meth c 3 D 23 a (hv_ME a cy) 0 0 (hv_MQ D 23 a (hv_ME a cy) below args s (some (.int o.1)) o.2) σ 45 [(0, .ref (a 0)), (1, .int (x1)), (2, .int (x2))] [] := by
  intro i
  induction i with
  | zero =>
    intro σ x1 x2 h
    cases h
  | succ i ih =>
    intro σ x1 x2 h
    generalize hg : kX8_bears_45 n i = r45 at ih
    have hr45 := ih
    replace h : kX8_bears_45_b n r45 σ x1 x2 = some o := by rw [← hg]; exact h
    unfold kX8_bears_45_b at h
    refine g_iload_n (pc := 45) C 2 dX8_bears_45 rfl rfl ?_
    refine g_iconst (pc := 46) C (v := (1 : Int32)) dX8_bears_46 (by decide) ?_
    refine g_aload_n (pc := 47) C 0 dX8_bears_47 rfl rfl ?_
    refine gm_get_0_6 (pc := 48) C iX8_bears_X8 qX8_bears_F88 dX8_bears_48 ?_
    refine g_ishl (pc := 51) C dX8_bears_51 ?_
    refine g_icmp_ge (pc := 52) (tgt := 86) C dX8_bears_52 (by decide) (fun c52 => ?_) (fun c52 => ?_)
    · rw [if_pos c52] at h
      refine g_iconst (pc := 86) C (v := (1 : Int32)) dX8_bears_86 (by decide) ?_
      cases h
      exact g_zret (pc := 87) (x := (1 : Int32)) C hr (by decide) dX8_bears_87
    · rw [if_neg c52] at h
      refine g_iload_n (pc := 55) C 2 dX8_bears_55 rfl rfl ?_
      refine g_iload_n (pc := 56) C 1 dX8_bears_56 rfl rfl ?_
      refine g_iconst (pc := 57) C (v := (-1 : Int32)) dX8_bears_57 (by decide) ?_
      refine g_ixor (pc := 58) C dX8_bears_58 ?_
      refine g_iand (pc := 59) C dX8_bears_59 ?_
      refine g_if_ne (pc := 60) (tgt := 80) C dX8_bears_60 (by decide) (fun c60 => ?_) (fun c60 => ?_)
      · rw [if_neg c60] at h
        exact g_lv [0, 1, 2] rfl (bX8_bears_80 C hr hr45 σ (x1) (x2) h)
      · rw [if_pos c60] at h
        refine g_iload_n (pc := 63) C 2 dX8_bears_63 rfl rfl ?_
        obtain ⟨r64, s64, hc64, h⟩ := hv_b2_some h
        refine g_callS (pc := 64) (σ1 := s64) (v := (some (.int (r64)))) (As := [.int (x2)]) (rest := []) C (vX8_bits hc64) (va_cwS 1 C.1.2.2.2.2 gX8_bears_X8_bits rfl rfl rfl (by decide +kernel) ⟨Nat.le_of_ble_eq_true rfl, Nat.le_of_ble_eq_true rfl⟩) rfl rfl (Nat.le_of_ble_eq_true rfl) dX8_bears_64 ⟨Nat.zero_le _, Nat.zero_le _⟩ ?_
        refine g_st (st' := [.int (r64)]) rfl ?_
        refine g_aload_n (pc := 67) C 0 dX8_bears_67 rfl rfl ?_
        refine gm_get_0_18 (pc := 68) C iX8_bears_X8 qX8_bears_F130 dX8_bears_68 ?_
        refine g_icmp_ne (pc := 71) (tgt := 80) C dX8_bears_71 (by decide) (fun c71 => ?_) (fun c71 => ?_)
        · rw [if_neg c71] at h
          exact g_lv [0, 1, 2] rfl (bX8_bears_80 C hr hr45 s64 (x1) (x2) h)
        · rw [if_pos c71] at h
          refine g_aload_n (pc := 74) C 0 dX8_bears_74 rfl rfl ?_
          refine g_iload_n (pc := 75) C 2 dX8_bears_75 rfl rfl ?_
          refine g_iload_n (pc := 76) C 1 dX8_bears_76 rfl rfl ?_
          obtain ⟨s77, hc77, h⟩ := hv_bd_some h
          refine g_callV (pc := 77) (σ1 := s77) (v := none) (As := [.int (x2), .int (x1)]) (rest := []) C 0 (vX8_addsSet hc77) (cwV 2 C.1.2.2.2.2 gX8_bears_X8_addsSet rfl rfl rfl (by decide +kernel) ⟨Nat.le_of_ble_eq_true rfl, Nat.le_of_ble_eq_true rfl⟩) (Nat.le_of_ble_eq_true rfl) rfl rfl rfl rfl (Nat.le_of_ble_eq_true rfl) dX8_bears_77 ⟨Nat.zero_le _, Nat.zero_le _⟩ ?_
          refine g_st (st' := []) rfl ?_
          exact g_lv [0, 1, 2] rfl (bX8_bears_80 C hr hr45 s77 (x1) (x2) h)
set_option maxHeartbeats 4000000 in
set_option maxRecDepth 20000 in
theorem bX8_bears_24 (C : hv_C p s m args meth c cX8_bears 3 wsX8_bears RX8 D (hv_tys cy)) (hr : meth.sig.returnType = (some .boolean)) {n : Nat} {o : Int32 × hv_St} : ∀ (i : Nat) (σ : hv_St) (x1 : Int32) (x2 : Int32), kX8_bears_24 n i σ x1 x2 = some o → hv_G p l e (headSpec wsX8_bears rmX8_bears).room s m args below meth c 3 D 23 a (hv_ME a cy) 0 0 (hv_MQ D 23 a (hv_ME a cy) below args s (some (.int o.1)) o.2) σ 24 [(0, .ref (a 0)), (1, .int (x1)), (2, .int (x2))] [] := by
  intro i
  induction i with
  | zero =>
    intro σ x1 x2 h
    cases h
  | succ i ih =>
    intro σ x1 x2 h
    generalize hg : kX8_bears_24 n i = r24 at ih
    have hr24 := ih
    replace h : kX8_bears_24_b n r24 σ x1 x2 = some o := by rw [← hg]; exact h
    unfold kX8_bears_24_b at h
    refine g_iload_n (pc := 24) C 2 dX8_bears_24 rfl rfl ?_
    refine g_bipush (pc := 25) C (v := (11 : Int32)) dX8_bears_25 (by decide) ?_
    refine g_icmp_ge (pc := 27) (tgt := 43) C dX8_bears_27 (by decide) (fun c27 => ?_) (fun c27 => ?_)
    · rw [if_pos c27] at h
      refine g_iconst (pc := 43) C (v := (0 : Int32)) dX8_bears_43 (by decide) ?_
      refine g_istore_n (pc := 44) C (lv' := [(2, .int ((0 : Int32))), (0, .ref (a 0)), (1, .int (x1))]) rfl dX8_bears_44 rfl (Nat.le_of_ble_eq_true rfl) rfl ?_
      exact g_lv [1, 2, 0] rfl (bX8_bears_45 C hr n σ (x1) ((0 : Int32)) h)
    · rw [if_neg c27] at h
      refine g_aload_n (pc := 30) C 0 dX8_bears_30 rfl rfl ?_
      refine gm_get_0_23 (pc := 31) C iX8_bears_X8 qX8_bears_F53 dX8_bears_31 ?_
      refine g_iload_n (pc := 34) C 2 dX8_bears_34 rfl rfl ?_
      refine g_lconst (pc := 35) C (v := (0 : Int64)) dX8_bears_35 (by decide) ?_
      obtain ⟨k36, h⟩ := hv_if_some h
      obtain ⟨s36, es36, h⟩ := hv_let_some h
      refine gm_st_15 (pc := 36) C es36 k36 dX8_bears_36 ?_
      refine g_iinc (pc := 37) C 2 (v := x2 + 1) (lv' := [(2, .int (x2 + 1)), (0, .ref (a 0)), (1, .int (x1))]) dX8_bears_37 rfl rfl (Nat.le_of_ble_eq_true rfl) rfl ?_
      refine g_goto (pc := 40) C (tgt := 24) dX8_bears_40 (by decide) ?_
      exact g_lv [1, 2, 0] rfl (hr24 s36 (x1) (x2 + 1) h)
set_option maxHeartbeats 4000000 in
set_option maxRecDepth 20000 in
theorem vX8_bears {n : Nat} {σ : hv_St} {p0 : Int32} {o : Int32 × hv_St} (h : mX8_bears n σ p0 = some o) : hv_M l yX8_bears wsX8_bears rmX8_bears D (hv_tys cy) 23 a (hv_ME a cy) [.ref (a 0), .int (p0)] σ (some (.int o.1)) o.2 := by
  refine hv_enter (own := RX8) (cc := cX8_bears) (maxL := 3) (ret := (some .boolean)) (by decide) rfl rfl (Nat.le_of_ble_eq_true rfl) ?_
  intro p e s m args below meth c C hr
  unfold mX8_bears at h
  refine g_lv [0, 1] (lv' := [(0, .ref (a 0)), (1, .int (p0))]) rfl ?_
  refine g_aload_n (pc := 0) C 0 dX8_bears_0 rfl rfl ?_
  refine g_iload_n (pc := 1) C 1 dX8_bears_1 rfl rfl ?_
  obtain ⟨r2, s2, hc2, h⟩ := hv_b2_some h
  refine g_callV (pc := 2) (σ1 := s2) (v := (some (.int (r2)))) (As := [.int (p0)]) (rest := []) C 0 (vX8_kindOf hc2) (cwV 1 C.1.2.2.2.2 gX8_bears_X8_kindOf rfl rfl rfl (by decide +kernel) ⟨Nat.le_of_ble_eq_true rfl, Nat.le_of_ble_eq_true rfl⟩) (Nat.le_of_ble_eq_true rfl) rfl rfl rfl rfl (Nat.le_of_ble_eq_true rfl) dX8_bears_2 ⟨Nat.zero_le _, Nat.zero_le _⟩ ?_
  refine g_st (st' := [.int (r2)]) rfl ?_
  obtain ⟨r5, s5, hc5, h⟩ := hv_b2_some h
  refine g_callS (pc := 5) (σ1 := s5) (v := (some (.int (r5)))) (As := [.int (r2)]) (rest := []) C (vX8_isFirm hc5) (va_cwS 1 C.1.2.2.2.2 gX8_bears_X8_isFirm rfl rfl rfl (by decide +kernel) ⟨Nat.le_of_ble_eq_true rfl, Nat.le_of_ble_eq_true rfl⟩) rfl rfl (Nat.le_of_ble_eq_true rfl) dX8_bears_5 ⟨Nat.zero_le _, Nat.zero_le _⟩ ?_
  refine g_st (st' := [.int (r5)]) rfl ?_
  refine g_if_ne (pc := 8) (tgt := 13) C dX8_bears_8 (by decide) (fun c8 => ?_) (fun c8 => ?_)
  · rw [if_neg c8] at h
    refine g_aload_n (pc := 13) C 0 dX8_bears_13 rfl rfl ?_
    obtain ⟨s14, hc14, h⟩ := hv_bd_some h
    refine g_callV (pc := 14) (σ1 := s14) (v := none) (As := []) (rest := []) C 0 (vX8_laysColumn hc14) (cwV 0 C.1.2.2.2.2 gX8_bears_X8_laysColumn rfl rfl rfl (by decide +kernel) ⟨Nat.le_of_ble_eq_true rfl, Nat.le_of_ble_eq_true rfl⟩) (Nat.le_of_ble_eq_true rfl) rfl rfl rfl rfl (Nat.le_of_ble_eq_true rfl) dX8_bears_14 ⟨Nat.zero_le _, Nat.zero_le _⟩ ?_
    refine g_st (st' := []) rfl ?_
    refine g_aload_n (pc := 17) C 0 dX8_bears_17 rfl rfl ?_
    refine g_lconst (pc := 18) C (v := (0 : Int64)) dX8_bears_18 (by decide) ?_
    obtain ⟨s19, es19, h⟩ := hv_let_some h
    refine gm_put_0_24 (pc := 19) C es19 iX8_bears_X8 qX8_bears_F189 dX8_bears_19 ?_
    refine g_iconst (pc := 22) C (v := (0 : Int32)) dX8_bears_22 (by decide) ?_
    refine g_istore_n (pc := 23) C (lv' := [(2, .int ((0 : Int32))), (0, .ref (a 0)), (1, .int (p0))]) rfl dX8_bears_23 rfl (Nat.le_of_ble_eq_true rfl) rfl ?_
    exact g_lv [1, 2, 0] rfl (bX8_bears_24 C hr n s19 (p0) ((0 : Int32)) h)
  · rw [if_pos c8] at h
    refine g_iconst (pc := 11) C (v := (0 : Int32)) dX8_bears_11 (by decide) ?_
    cases h
    exact g_zret (pc := 12) (x := (0 : Int32)) C hr (by decide) dX8_bears_12
abbrev rmX8_told : Room := { frames := 2, cells := 0, slots := 0, locals := 50 }
set_option maxRecDepth 20000 in
theorem qX8_told_L201 : Cond.constantLong RX8 201 (-1) ∈ wsX8_told := by decide +kernel
set_option maxHeartbeats 4000000 in
set_option maxRecDepth 20000 in
theorem bX8_told_34 (C : hv_C p s m args meth c cX8_told 9 wsX8_told RX8 D (hv_tys cy)) (hr : meth.sig.returnType = (some .long)) {n : Nat} {o : Int64 × hv_St} : ∀ (σ : hv_St) (x5 : Int64) (z0 : Int64) (z1 : Int64), kX8_told_34 n σ x5 z0 z1 = some o → hv_G p l e (headSpec wsX8_told rmX8_told).room s m args below meth c 9 D 23 a (hv_ME a cy) 0 0 (hv_MQ D 23 a (hv_ME a cy) below args s (some (.long o.1)) o.2) σ 34 [(5, .long (x5))] [.long (z0), .long (z1)] := by
  intro σ x5 z0 z1 h
  unfold kX8_told_34 at h
  refine g_lmul (pc := 34) C dX8_told_34 ?_
  refine g_lload (pc := 35) C 0 dX8_told_35 rfl ?_
  obtain ⟨k37, h⟩ := hv_if_some h
  refine g_ldiv (pc := 37) C dX8_told_37 (of_decide_eq_true k37) ?_
  cases h
  exact g_lret (pc := 38) C hr dX8_told_38
set_option maxHeartbeats 4000000 in
set_option maxRecDepth 20000 in
theorem bX8_told_20 (C : hv_C p s m args meth c cX8_told 9 wsX8_told RX8 D (hv_tys cy)) (hr : meth.sig.returnType = (some .long)) {n : Nat} {o : Int64 × hv_St} : ∀ (σ : hv_St) (x0 : Int64) (x2 : Int64) (x4 : Int32) (x5 : Int64) (z0 : Int64), kX8_told_20 n σ x0 x2 x4 x5 z0 = some o → hv_G p l e (headSpec wsX8_told rmX8_told).room s m args below meth c 9 D 23 a (hv_ME a cy) 0 0 (hv_MQ D 23 a (hv_ME a cy) below args s (some (.long o.1)) o.2) σ 20 [(0, .long (x0)), (2, .long (x2)), (4, .int (x4)), (5, .long (x5))] [.long (z0)] := by
  intro σ x0 x2 x4 x5 z0 h
  unfold kX8_told_20 at h
  refine g_lstore (pc := 20) C (lv' := [(7, .long (z0)), (0, .long (x0)), (2, .long (x2)), (4, .int (x4)), (5, .long (x5))]) rfl dX8_told_20 (Nat.le_of_ble_eq_true rfl) rfl ?_
  refine g_lload (pc := 22) C 0 dX8_told_22 rfl ?_
  refine g_iload (pc := 24) C 3 dX8_told_24 rfl ?_
  refine g_if_eq (pc := 26) (tgt := 33) C dX8_told_26 (by decide) (fun c26 => ?_) (fun c26 => ?_)
  · rw [if_pos c26] at h
    refine g_lload_n (pc := 33) C 1 dX8_told_33 rfl rfl ?_
    exact g_lv [4] rfl (bX8_told_34 C hr σ (x5) (x0) (z0) h)
  · rw [if_neg c26] at h
    refine g_lload_n (pc := 29) C 2 dX8_told_29 rfl rfl ?_
    refine g_goto (pc := 30) C (tgt := 34) dX8_told_30 (by decide) ?_
    exact g_lv [4] rfl (bX8_told_34 C hr σ (x5) (x2) (z0) h)
set_option maxHeartbeats 4000000 in
set_option maxRecDepth 20000 in
theorem vX8_told {n : Nat} {σ : hv_St} {p0 : Int64} {p1 : Int64} {p2 : Int32} {o : Int64 × hv_St} (h : mX8_told n σ p0 p1 p2 = some o) : hv_M l yX8_told wsX8_told rmX8_told D (hv_tys cy) 23 a (hv_ME a cy) [.long (p0), .long (p1), .int (p2)] σ (some (.long o.1)) o.2 := by
  refine hv_enter (own := RX8) (cc := cX8_told) (maxL := 9) (ret := (some .long)) (by decide) rfl rfl (Nat.le_of_ble_eq_true rfl) ?_
  intro p e s m args below meth c C hr
  unfold mX8_told at h
  refine g_lv [0, 1, 2] (lv' := [(0, .long (p0)), (2, .long (p1)), (4, .int (p2))]) rfl ?_
  refine g_lload_n (pc := 0) C 0 dX8_told_0 rfl rfl ?_
  refine g_lload_n (pc := 1) C 1 dX8_told_1 rfl rfl ?_
  obtain ⟨r2, s2, hc2, h⟩ := hv_b2_some h
  refine g_callS (pc := 2) (σ1 := s2) (v := (some (.long (r2)))) (As := [.long (p0), .long (p1)]) (rest := []) C (vX8_common hc2) (va_cwS 2 C.1.2.2.2.2 gX8_told_X8_common rfl rfl rfl (by decide +kernel) ⟨Nat.le_of_ble_eq_true rfl, Nat.le_of_ble_eq_true rfl⟩) rfl rfl (Nat.le_of_ble_eq_true rfl) dX8_told_2 ⟨Nat.zero_le _, Nat.zero_le _⟩ ?_
  refine g_st (st' := [.long (r2)]) rfl ?_
  refine g_lstore (pc := 5) C (lv' := [(5, .long (r2)), (0, .long (p0)), (2, .long (p1)), (4, .int (p2))]) rfl dX8_told_5 (Nat.le_of_ble_eq_true rfl) rfl ?_
  refine g_lload_n (pc := 7) C 2 dX8_told_7 rfl rfl ?_
  refine g_lconst (pc := 8) C (v := (0 : Int64)) dX8_told_8 (by decide) ?_
  refine g_lcmp (pc := 9) C dX8_told_9 ?_
  refine g_if_ge (pc := 10) (tgt := 19) C dX8_told_10 (by decide) (fun c10 => ?_) (fun c10 => ?_)
  · rw [if_pos c10] at h
    refine g_lconst (pc := 19) C (v := (1 : Int64)) dX8_told_19 (by decide) ?_
    exact g_lv [1, 2, 3, 0] rfl (bX8_told_20 C hr s2 (p0) (p1) (p2) (r2) ((1 : Int64)) h)
  · rw [if_neg c10] at h
    refine g_ldc2 (pc := 13) C (v := (-1 : Int64)) qX8_told_L201 dX8_told_13 ?_
    refine g_goto (pc := 16) C (tgt := 20) dX8_told_16 (by decide) ?_
    exact g_lv [1, 2, 3, 0] rfl (bX8_told_20 C hr s2 (p0) (p1) (p2) (r2) ((-1 : Int64)) h)
abbrev rmX8_pull : Room := { frames := 7, cells := 0, slots := 0, locals := 169 }
set_option maxRecDepth 20000 in
theorem qX8_pull_F107 : Cond.fieldLink RX8 107 "PinFrameModel" "on" "I" ∈ wsX8_pull := by decide +kernel
set_option maxRecDepth 20000 in
theorem qX8_pull_F189 : Cond.fieldLink RX8 189 "PinFrameModel" "under" "J" ∈ wsX8_pull := by decide +kernel
set_option maxRecDepth 20000 in
theorem qX8_pull_F53 : Cond.fieldLink RX8 53 "PinFrameModel" "over" "[J" ∈ wsX8_pull := by decide +kernel
set_option maxRecDepth 20000 in
theorem qX8_pull_F77 : Cond.fieldLink RX8 77 "PinFrameModel" "raised" "I" ∈ wsX8_pull := by decide +kernel
set_option maxRecDepth 20000 in
theorem iX8_pull_X8 : ∀ w ∈ u_ws RX8 TX8 35, w ∈ wsX8_pull := by decide +kernel
set_option maxHeartbeats 4000000 in
set_option maxRecDepth 20000 in
theorem bX8_pull_40 (C : hv_C p s m args meth c cX8_pull 3 wsX8_pull RX8 D (hv_tys cy)) (hr : meth.sig.returnType = (some .long)) {n : Nat} {o : Int64 × hv_St} : ∀ (σ : hv_St) (x1 : Int32) (x2 : Int32) (z0 : Int32), kX8_pull_40 n σ x1 x2 z0 = some o → hv_G p l e (headSpec wsX8_pull rmX8_pull).room s m args below meth c 3 D 23 a (hv_ME a cy) 0 0 (hv_MQ D 23 a (hv_ME a cy) below args s (some (.long o.1)) o.2) σ 40 [(0, .ref (a 0)), (1, .int (x1)), (2, .int (x2))] [.int (z0), .ref (a 0)] := by
  intro σ x1 x2 z0 h
  unfold kX8_pull_40 at h
  obtain ⟨s40, es40, h⟩ := hv_let_some h
  refine gm_put_0_0 (pc := 40) C es40 iX8_pull_X8 qX8_pull_F77 dX8_pull_40 ?_
  refine g_aload_n (pc := 43) C 0 dX8_pull_43 rfl rfl ?_
  refine gm_get_0_0 (pc := 44) C iX8_pull_X8 qX8_pull_F77 dX8_pull_44 ?_
  refine g_if_le (pc := 47) (tgt := 54) C dX8_pull_47 (by decide) (fun c47 => ?_) (fun c47 => ?_)
  · rw [if_pos c47] at h
    refine g_aload_n (pc := 54) C 0 dX8_pull_54 rfl rfl ?_
    refine gm_get_0_23 (pc := 55) C iX8_pull_X8 qX8_pull_F53 dX8_pull_55 ?_
    refine g_iload_n (pc := 58) C 1 dX8_pull_58 rfl rfl ?_
    obtain ⟨k59, h⟩ := hv_if_some h
    refine gm_ld_15 (pc := 59) C k59 dX8_pull_59 ?_
    refine g_aload_n (pc := 60) C 0 dX8_pull_60 rfl rfl ?_
    refine gm_get_0_24 (pc := 61) C iX8_pull_X8 qX8_pull_F189 dX8_pull_61 ?_
    refine g_iload_n (pc := 64) C 2 dX8_pull_64 rfl rfl ?_
    obtain ⟨r65, s65, hc65, h⟩ := hv_b2_some h
    refine g_callS (pc := 65) (σ1 := s65) (v := (some (.long (r65)))) (As := [.long (s40.2 15 (x1).toNatClampNeg), .long (s40.2 0 24), .int (x2)]) (rest := []) C (vX8_told hc65) (va_cwS 3 C.1.2.2.2.2 gX8_pull_X8_told rfl rfl rfl (by decide +kernel) ⟨Nat.le_of_ble_eq_true rfl, Nat.le_of_ble_eq_true rfl⟩) rfl rfl (Nat.le_of_ble_eq_true rfl) dX8_pull_65 ⟨Nat.zero_le _, Nat.zero_le _⟩ ?_
    refine g_st (st' := [.long (r65)]) rfl ?_
    cases h
    exact g_lret (pc := 68) C hr dX8_pull_68
  · rw [if_neg c47] at h
    refine g_lconst (pc := 50) C (v := (0 : Int64)) dX8_pull_50 (by decide) ?_
    refine g_goto (pc := 51) C (tgt := 68) dX8_pull_51 (by decide) ?_
    cases h
    exact g_lret (pc := 68) C hr dX8_pull_68
set_option maxHeartbeats 4000000 in
set_option maxRecDepth 20000 in
theorem bX8_pull_39 (C : hv_C p s m args meth c cX8_pull 3 wsX8_pull RX8 D (hv_tys cy)) (hr : meth.sig.returnType = (some .long)) {n : Nat} {o : Int64 × hv_St} : ∀ (σ : hv_St) (x1 : Int32) (x2 : Int32), kX8_pull_39 n σ x1 x2 = some o → hv_G p l e (headSpec wsX8_pull rmX8_pull).room s m args below meth c 3 D 23 a (hv_ME a cy) 0 0 (hv_MQ D 23 a (hv_ME a cy) below args s (some (.long o.1)) o.2) σ 39 [(0, .ref (a 0)), (1, .int (x1)), (2, .int (x2))] [.ref (a 0)] := by
  intro σ x1 x2 h
  unfold kX8_pull_39 at h
  refine g_iconst (pc := 39) C (v := (1 : Int32)) dX8_pull_39 (by decide) ?_
  exact g_lv [0, 1, 2] rfl (bX8_pull_40 C hr σ (x1) (x2) ((1 : Int32)) h)
set_option maxHeartbeats 4000000 in
set_option maxRecDepth 20000 in
theorem vX8_pull {n : Nat} {σ : hv_St} {p0 : Int32} {p1 : Int32} {o : Int64 × hv_St} (h : mX8_pull n σ p0 p1 = some o) : hv_M l yX8_pull wsX8_pull rmX8_pull D (hv_tys cy) 23 a (hv_ME a cy) [.ref (a 0), .int (p0), .int (p1)] σ (some (.long o.1)) o.2 := by
  refine hv_enter (own := RX8) (cc := cX8_pull) (maxL := 3) (ret := (some .long)) (by decide) rfl rfl (Nat.le_of_ble_eq_true rfl) ?_
  intro p e s m args below meth c C hr
  unfold mX8_pull at h
  refine g_lv [0, 1, 2] (lv' := [(0, .ref (a 0)), (1, .int (p0)), (2, .int (p1))]) rfl ?_
  refine g_aload_n (pc := 0) C 0 dX8_pull_0 rfl rfl ?_
  obtain ⟨s1, hc1, h⟩ := hv_bd_some h
  refine g_callV (pc := 1) (σ1 := s1) (v := none) (As := []) (rest := []) C 0 (vX8_takesLoads hc1) (cwV 0 C.1.2.2.2.2 gX8_pull_X8_takesLoads rfl rfl rfl (by decide +kernel) ⟨Nat.le_of_ble_eq_true rfl, Nat.le_of_ble_eq_true rfl⟩) (Nat.le_of_ble_eq_true rfl) rfl rfl rfl rfl (Nat.le_of_ble_eq_true rfl) dX8_pull_1 ⟨Nat.zero_le _, Nat.zero_le _⟩ ?_
  refine g_st (st' := []) rfl ?_
  refine g_aload_n (pc := 4) C 0 dX8_pull_4 rfl rfl ?_
  refine g_aload_n (pc := 5) C 0 dX8_pull_5 rfl rfl ?_
  refine g_iload_n (pc := 6) C 1 dX8_pull_6 rfl rfl ?_
  obtain ⟨r7, s7, hc7, h⟩ := hv_b2_some h
  refine g_callV (pc := 7) (σ1 := s7) (v := (some (.int (r7)))) (As := [.int (p0)]) (rest := [.ref (a 0)]) C 0 (vX8_isBar hc7) (cwV 1 C.1.2.2.2.2 gX8_pull_X8_isBar rfl rfl rfl (by decide +kernel) ⟨Nat.le_of_ble_eq_true rfl, Nat.le_of_ble_eq_true rfl⟩) (Nat.le_of_ble_eq_true rfl) rfl rfl rfl rfl (Nat.le_of_ble_eq_true rfl) dX8_pull_7 ⟨Nat.zero_le _, Nat.zero_le _⟩ ?_
  refine g_st (st' := [.int (r7), .ref (a 0)]) rfl ?_
  refine g_if_eq (pc := 10) (tgt := 39) C dX8_pull_10 (by decide) (fun c10 => ?_) (fun c10 => ?_)
  · rw [if_pos c10] at h
    exact g_lv [0, 1, 2] rfl (bX8_pull_39 C hr s7 (p0) (p1) h)
  · rw [if_neg c10] at h
    refine g_aload_n (pc := 13) C 0 dX8_pull_13 rfl rfl ?_
    refine gm_get_0_11 (pc := 14) C iX8_pull_X8 qX8_pull_F107 dX8_pull_14 ?_
    refine g_iload_n (pc := 17) C 1 dX8_pull_17 rfl rfl ?_
    obtain ⟨r18, s18, hc18, h⟩ := hv_b2_some h
    refine g_callS (pc := 18) (σ1 := s18) (v := (some (.int (r18)))) (As := [.int (s7.1 0 11), .int (p0)]) (rest := [.ref (a 0)]) C (vX8_isOn hc18) (va_cwS 2 C.1.2.2.2.2 gX8_pull_X8_isOn rfl rfl rfl (by decide +kernel) ⟨Nat.le_of_ble_eq_true rfl, Nat.le_of_ble_eq_true rfl⟩) rfl rfl (Nat.le_of_ble_eq_true rfl) dX8_pull_18 ⟨Nat.zero_le _, Nat.zero_le _⟩ ?_
    refine g_st (st' := [.int (r18), .ref (a 0)]) rfl ?_
    refine g_if_eq (pc := 21) (tgt := 39) C dX8_pull_21 (by decide) (fun c21 => ?_) (fun c21 => ?_)
    · rw [if_pos c21] at h
      exact g_lv [0, 1, 2] rfl (bX8_pull_39 C hr s18 (p0) (p1) h)
    · rw [if_neg c21] at h
      refine g_aload_n (pc := 24) C 0 dX8_pull_24 rfl rfl ?_
      refine g_aload_n (pc := 25) C 0 dX8_pull_25 rfl rfl ?_
      refine gm_get_0_11 (pc := 26) C iX8_pull_X8 qX8_pull_F107 dX8_pull_26 ?_
      obtain ⟨r29, s29, hc29, h⟩ := hv_b2_some h
      refine g_callV (pc := 29) (σ1 := s29) (v := (some (.int (r29)))) (As := [.int (s18.1 0 11)]) (rest := [.ref (a 0)]) C 0 (vX8_bears hc29) (cwV 1 C.1.2.2.2.2 gX8_pull_X8_bears rfl rfl rfl (by decide +kernel) ⟨Nat.le_of_ble_eq_true rfl, Nat.le_of_ble_eq_true rfl⟩) (Nat.le_of_ble_eq_true rfl) rfl rfl rfl rfl (Nat.le_of_ble_eq_true rfl) dX8_pull_29 ⟨Nat.zero_le _, Nat.zero_le _⟩ ?_
      refine g_st (st' := [.int (r29), .ref (a 0)]) rfl ?_
      refine g_if_eq (pc := 32) (tgt := 39) C dX8_pull_32 (by decide) (fun c32 => ?_) (fun c32 => ?_)
      · rw [if_pos c32] at h
        exact g_lv [0, 1, 2] rfl (bX8_pull_39 C hr s29 (p0) (p1) h)
      · rw [if_neg c32] at h
        refine g_iconst (pc := 35) C (v := (0 : Int32)) dX8_pull_35 (by decide) ?_
        refine g_goto (pc := 36) C (tgt := 40) dX8_pull_36 (by decide) ?_
        exact g_lv [0, 1, 2] rfl (bX8_pull_40 C hr s29 (p0) (p1) ((0 : Int32)) h)
abbrev rmX8_spareAt : Room := { frames := 1, cells := 0, slots := 0, locals := 21 }
set_option maxRecDepth 20000 in
theorem qX8_spareAt_F155 : Cond.fieldLink RX8 155 "PinFrameModel" "spares" "I" ∈ wsX8_spareAt := by decide +kernel
set_option maxRecDepth 20000 in
theorem qX8_spareAt_F88 : Cond.fieldLink RX8 88 "PinFrameModel" "bars" "I" ∈ wsX8_spareAt := by decide +kernel
set_option maxRecDepth 20000 in
theorem iX8_spareAt_X8 : ∀ w ∈ u_ws RX8 TX8 35, w ∈ wsX8_spareAt := by decide +kernel
set_option maxHeartbeats 4000000 in
set_option maxRecDepth 20000 in
theorem bX8_spareAt_33 (C : hv_C p s m args meth c cX8_spareAt 4 wsX8_spareAt RX8 D (hv_tys cy)) (hr : meth.sig.returnType = (some .int)) {n : Nat} {o : Int32 × hv_St} {r4 : hv_St → Int32 → Int32 → Int32 → Option (Int32 × hv_St)} (hr4 : ∀ (σ : hv_St) (x1 : Int32) (x2 : Int32) (x3 : Int32), r4 σ x1 x2 x3 = some o → hv_G p l e (headSpec wsX8_spareAt rmX8_spareAt).room s m args below meth c 4 D 23 a (hv_ME a cy) 0 0 (hv_MQ D 23 a (hv_ME a cy) below args s (some (.int o.1)) o.2) σ 4 [(0, .ref (a 0)), (1, .int (x1)), (2, .int (x2)), (3, .int (x3))] []) : ∀ (σ : hv_St) (x1 : Int32) (x2 : Int32) (x3 : Int32), kX8_spareAt_33 n r4 σ x1 x2 x3 = some o → hv_G p l e (headSpec wsX8_spareAt rmX8_spareAt).room s m args below meth c 4 D 23 a (hv_ME a cy) 0 0 (hv_MQ D 23 a (hv_ME a cy) below args s (some (.int o.1)) o.2) σ 33 [(0, .ref (a 0)), (1, .int (x1)), (2, .int (x2)), (3, .int (x3))] [] := by
  intro σ x1 x2 x3 h
  unfold kX8_spareAt_33 at h
  refine g_iinc (pc := 33) C 3 (v := x3 + 1) (lv' := [(3, .int (x3 + 1)), (0, .ref (a 0)), (1, .int (x1)), (2, .int (x2))]) dX8_spareAt_33 rfl rfl (Nat.le_of_ble_eq_true rfl) rfl ?_
  refine g_goto (pc := 36) C (tgt := 4) dX8_spareAt_36 (by decide) ?_
  exact g_lv [1, 2, 3, 0] rfl (hr4 σ (x1) (x2) (x3 + 1) h)
set_option maxHeartbeats 4000000 in
set_option maxRecDepth 20000 in
theorem bX8_spareAt_4 (C : hv_C p s m args meth c cX8_spareAt 4 wsX8_spareAt RX8 D (hv_tys cy)) (hr : meth.sig.returnType = (some .int)) {n : Nat} {o : Int32 × hv_St} : ∀ (i : Nat) (σ : hv_St) (x1 : Int32) (x2 : Int32) (x3 : Int32), kX8_spareAt_4 n i σ x1 x2 x3 = some o → hv_G p l e (headSpec wsX8_spareAt rmX8_spareAt).room s m args below meth c 4 D 23 a (hv_ME a cy) 0 0 (hv_MQ D 23 a (hv_ME a cy) below args s (some (.int o.1)) o.2) σ 4 [(0, .ref (a 0)), (1, .int (x1)), (2, .int (x2)), (3, .int (x3))] [] := by
  intro i
  induction i with
  | zero =>
    intro σ x1 x2 x3 h
    cases h
  | succ i ih =>
    intro σ x1 x2 x3 h
    generalize hg : kX8_spareAt_4 n i = r4 at ih
    have hr4 := ih
    replace h : kX8_spareAt_4_b n r4 σ x1 x2 x3 = some o := by rw [← hg]; exact h
    unfold kX8_spareAt_4_b at h
    refine g_iload_n (pc := 4) C 3 dX8_spareAt_4 rfl rfl ?_
    refine g_aload_n (pc := 5) C 0 dX8_spareAt_5 rfl rfl ?_
    refine gm_get_0_6 (pc := 6) C iX8_spareAt_X8 qX8_spareAt_F88 dX8_spareAt_6 ?_
    refine g_icmp_ge (pc := 9) (tgt := 39) C dX8_spareAt_9 (by decide) (fun c9 => ?_) (fun c9 => ?_)
    · rw [if_pos c9] at h
      refine g_iconst (pc := 39) C (v := (-1 : Int32)) dX8_spareAt_39 (by decide) ?_
      cases h
      exact g_iret (pc := 40) C hr dX8_spareAt_40
    · rw [if_neg c9] at h
      refine g_aload_n (pc := 12) C 0 dX8_spareAt_12 rfl rfl ?_
      refine gm_get_0_21 (pc := 13) C iX8_spareAt_X8 qX8_spareAt_F155 dX8_spareAt_13 ?_
      refine g_iload_n (pc := 16) C 3 dX8_spareAt_16 rfl rfl ?_
      obtain ⟨r17, s17, hc17, h⟩ := hv_b2_some h
      refine g_callS (pc := 17) (σ1 := s17) (v := (some (.int (r17)))) (As := [.int (σ.1 0 21), .int (x3)]) (rest := []) C (vX8_isOn hc17) (va_cwS 2 C.1.2.2.2.2 gX8_spareAt_X8_isOn rfl rfl rfl (by decide +kernel) ⟨Nat.le_of_ble_eq_true rfl, Nat.le_of_ble_eq_true rfl⟩) rfl rfl (Nat.le_of_ble_eq_true rfl) dX8_spareAt_17 ⟨Nat.zero_le _, Nat.zero_le _⟩ ?_
      refine g_st (st' := [.int (r17)]) rfl ?_
      refine g_if_eq (pc := 20) (tgt := 33) C dX8_spareAt_20 (by decide) (fun c20 => ?_) (fun c20 => ?_)
      · rw [if_pos c20] at h
        exact g_lv [0, 1, 2, 3] rfl (bX8_spareAt_33 C hr hr4 s17 (x1) (x2) (x3) h)
      · rw [if_neg c20] at h
        refine g_iload_n (pc := 23) C 2 dX8_spareAt_23 rfl rfl ?_
        refine g_iload_n (pc := 24) C 1 dX8_spareAt_24 rfl rfl ?_
        refine g_icmp_ne (pc := 25) (tgt := 30) C dX8_spareAt_25 (by decide) (fun c25 => ?_) (fun c25 => ?_)
        · rw [if_neg c25] at h
          refine g_iinc (pc := 30) C 2 (v := x2 + 1) (lv' := [(2, .int (x2 + 1)), (0, .ref (a 0)), (1, .int (x1)), (3, .int (x3))]) dX8_spareAt_30 rfl rfl (Nat.le_of_ble_eq_true rfl) rfl ?_
          exact g_lv [1, 2, 0, 3] rfl (bX8_spareAt_33 C hr hr4 s17 (x1) (x2 + 1) (x3) h)
        · rw [if_pos c25] at h
          refine g_iload_n (pc := 28) C 3 dX8_spareAt_28 rfl rfl ?_
          cases h
          exact g_iret (pc := 29) C hr dX8_spareAt_29
set_option maxHeartbeats 4000000 in
set_option maxRecDepth 20000 in
theorem vX8_spareAt {n : Nat} {σ : hv_St} {p0 : Int32} {o : Int32 × hv_St} (h : mX8_spareAt n σ p0 = some o) : hv_M l yX8_spareAt wsX8_spareAt rmX8_spareAt D (hv_tys cy) 23 a (hv_ME a cy) [.ref (a 0), .int (p0)] σ (some (.int o.1)) o.2 := by
  refine hv_enter (own := RX8) (cc := cX8_spareAt) (maxL := 4) (ret := (some .int)) (by decide) rfl rfl (Nat.le_of_ble_eq_true rfl) ?_
  intro p e s m args below meth c C hr
  unfold mX8_spareAt at h
  refine g_lv [0, 1] (lv' := [(0, .ref (a 0)), (1, .int (p0))]) rfl ?_
  refine g_iconst (pc := 0) C (v := (0 : Int32)) dX8_spareAt_0 (by decide) ?_
  refine g_istore_n (pc := 1) C (lv' := [(2, .int ((0 : Int32))), (0, .ref (a 0)), (1, .int (p0))]) rfl dX8_spareAt_1 rfl (Nat.le_of_ble_eq_true rfl) rfl ?_
  refine g_iconst (pc := 2) C (v := (0 : Int32)) dX8_spareAt_2 (by decide) ?_
  refine g_istore_n (pc := 3) C (lv' := [(3, .int ((0 : Int32))), (2, .int ((0 : Int32))), (0, .ref (a 0)), (1, .int (p0))]) rfl dX8_spareAt_3 rfl (Nat.le_of_ble_eq_true rfl) rfl ?_
  exact g_lv [2, 3, 1, 0] rfl (bX8_spareAt_4 C hr n σ (p0) ((0 : Int32)) ((0 : Int32)) h)
abbrev rmX8_laysState : Room := { frames := 3, cells := 0, slots := 0, locals := 80 }
set_option maxRecDepth 20000 in
theorem qX8_laysState_F152 : Cond.fieldLink RX8 152 "PinFrameModel" "base" "I" ∈ wsX8_laysState := by decide +kernel
set_option maxRecDepth 20000 in
theorem qX8_laysState_F213 : Cond.fieldLink RX8 213 "PinFrameModel" "baseBy" "J" ∈ wsX8_laysState := by decide +kernel
set_option maxRecDepth 20000 in
theorem iX8_laysState_X8 : ∀ w ∈ u_ws RX8 TX8 35, w ∈ wsX8_laysState := by decide +kernel
set_option maxHeartbeats 4000000 in
set_option maxRecDepth 20000 in
theorem bX8_laysState_47 {q : Nat} (hq : q = 17 ∨ q = 18 ∨ q = 19) (C : hv_C p s m args meth c cX8_laysState 3 wsX8_laysState RX8 D (hv_tys cy)) (hr : meth.sig.returnType = none) {n : Nat} {o : hv_St} {r15 : hv_St → Int32 → Option (hv_St)} (hr15 : ∀ (σ : hv_St) (x2 : Int32), r15 σ x2 = some o → hv_G p l e (headSpec wsX8_laysState rmX8_laysState).room s m args below meth c 3 D 23 a (hv_ME a cy) 0 0 (hv_MQ D 23 a (hv_ME a cy) below args s none o) σ 15 [(0, .ref (a 0)), (1, .ref (a q)), (2, .int (x2))] []) : ∀ (σ : hv_St) (x2 : Int32) (z0 : Int64) (z1 : Int32), kX8_laysState_47 q n r15 σ x2 z0 z1 = some o → hv_G p l e (headSpec wsX8_laysState rmX8_laysState).room s m args below meth c 3 D 23 a (hv_ME a cy) 0 0 (hv_MQ D 23 a (hv_ME a cy) below args s none o) σ 47 [(0, .ref (a 0)), (1, .ref (a q)), (2, .int (x2))] [.long (z0), .int (z1), .ref (a q)] := by
  intro σ x2 z0 z1 h
  unfold kX8_laysState_47 at h
  obtain ⟨k47, h⟩ := hv_if_some h
  obtain ⟨s47, es47, h⟩ := hv_let_some h
  refine gm_stq (pc := 47) C hq es47 k47 dX8_laysState_47 ?_
  refine g_iinc (pc := 48) C 2 (v := x2 + 1) (lv' := [(2, .int (x2 + 1)), (0, .ref (a 0)), (1, .ref (a q))]) dX8_laysState_48 rfl rfl (Nat.le_of_ble_eq_true rfl) rfl ?_
  refine g_goto (pc := 51) C (tgt := 15) dX8_laysState_51 (by decide) ?_
  exact g_lv [1, 2, 0] rfl (hr15 s47 (x2 + 1) h)
set_option maxHeartbeats 4000000 in
set_option maxRecDepth 20000 in
theorem bX8_laysState_15 {q : Nat} (hq : q = 17 ∨ q = 18 ∨ q = 19) (C : hv_C p s m args meth c cX8_laysState 3 wsX8_laysState RX8 D (hv_tys cy)) (hr : meth.sig.returnType = none) {n : Nat} {o : hv_St} : ∀ (i : Nat) (σ : hv_St) (x2 : Int32), kX8_laysState_15 q n i σ x2 = some o → hv_G p l e (headSpec wsX8_laysState rmX8_laysState).room s m args below meth c 3 D 23 a (hv_ME a cy) 0 0 (hv_MQ D 23 a (hv_ME a cy) below args s none o) σ 15 [(0, .ref (a 0)), (1, .ref (a q)), (2, .int (x2))] [] := by
  intro i
  induction i with
  | zero =>
    intro σ x2 h
    cases h
  | succ i ih =>
    intro σ x2 h
    generalize hg : kX8_laysState_15 q n i = r15 at ih
    have hr15 := ih
    replace h : kX8_laysState_15_b q n r15 σ x2 = some o := by rw [← hg]; exact h
    unfold kX8_laysState_15_b at h
    refine g_iload_n (pc := 15) C 2 dX8_laysState_15 rfl rfl ?_
    refine g_bipush (pc := 16) C (v := (11 : Int32)) dX8_laysState_16 (by decide) ?_
    refine g_icmp_ge (pc := 18) (tgt := 54) C dX8_laysState_18 (by decide) (fun c18 => ?_) (fun c18 => ?_)
    · rw [if_pos c18] at h
      cases h
      exact g_vret (pc := 54) C hr dX8_laysState_54
    · rw [if_neg c18] at h
      refine g_aload_n (pc := 21) C 1 dX8_laysState_21 rfl rfl ?_
      refine g_iload_n (pc := 22) C 2 dX8_laysState_22 rfl rfl ?_
      refine g_aload_n (pc := 23) C 0 dX8_laysState_23 rfl rfl ?_
      refine gm_get_0_20 (pc := 24) C iX8_laysState_X8 qX8_laysState_F152 dX8_laysState_24 ?_
      refine g_iload_n (pc := 27) C 2 dX8_laysState_27 rfl rfl ?_
      obtain ⟨r28, s28, hc28, h⟩ := hv_b2_some h
      refine g_callS (pc := 28) (σ1 := s28) (v := (some (.int (r28)))) (As := [.int (σ.1 0 20), .int (x2)]) (rest := [.int (x2), .ref (a q)]) C (vX8_isOn hc28) (va_cwS 2 C.1.2.2.2.2 gX8_laysState_X8_isOn rfl rfl rfl (by decide +kernel) ⟨Nat.le_of_ble_eq_true rfl, Nat.le_of_ble_eq_true rfl⟩) rfl rfl (Nat.le_of_ble_eq_true rfl) dX8_laysState_28 ⟨Nat.zero_le _, Nat.zero_le _⟩ ?_
      refine g_st (st' := [.int (r28), .int (x2), .ref (a q)]) rfl ?_
      refine g_if_eq (pc := 31) (tgt := 46) C dX8_laysState_31 (by decide) (fun c31 => ?_) (fun c31 => ?_)
      · rw [if_pos c31] at h
        refine g_lconst (pc := 46) C (v := (0 : Int64)) dX8_laysState_46 (by decide) ?_
        exact g_lv [0, 1, 2] rfl (bX8_laysState_47 hq C hr hr15 s28 (x2) ((0 : Int64)) (x2) h)
      · rw [if_neg c31] at h
        refine g_aload_n (pc := 34) C 0 dX8_laysState_34 rfl rfl ?_
        refine g_aload_n (pc := 35) C 0 dX8_laysState_35 rfl rfl ?_
        refine gm_get_0_20 (pc := 36) C iX8_laysState_X8 qX8_laysState_F152 dX8_laysState_36 ?_
        refine g_iload_n (pc := 39) C 2 dX8_laysState_39 rfl rfl ?_
        obtain ⟨r40, s40, hc40, h⟩ := hv_b2_some h
        refine g_callV (pc := 40) (σ1 := s40) (v := (some (.long (r40)))) (As := [.int (s28.1 0 20), .int (x2)]) (rest := [.int (x2), .ref (a q)]) C 0 (vX8_setDeterminant hc40) (cwV 2 C.1.2.2.2.2 gX8_laysState_X8_setDeterminant rfl rfl rfl (by decide +kernel) ⟨Nat.le_of_ble_eq_true rfl, Nat.le_of_ble_eq_true rfl⟩) (Nat.le_of_ble_eq_true rfl) rfl rfl rfl rfl (Nat.le_of_ble_eq_true rfl) dX8_laysState_40 ⟨Nat.zero_le _, Nat.zero_le _⟩ ?_
        refine g_st (st' := [.long (r40), .int (x2), .ref (a q)]) rfl ?_
        refine g_goto (pc := 43) C (tgt := 47) dX8_laysState_43 (by decide) ?_
        exact g_lv [0, 1, 2] rfl (bX8_laysState_47 hq C hr hr15 s40 (x2) (r40) (x2) h)
set_option maxHeartbeats 4000000 in
set_option maxRecDepth 20000 in
theorem vX8_laysState {q : Nat} (hq : q = 17 ∨ q = 18 ∨ q = 19) {n : Nat} {σ : hv_St} {o : hv_St} (h : mX8_laysState n σ q = some o) : hv_M l yX8_laysState wsX8_laysState rmX8_laysState D (hv_tys cy) 23 a (hv_ME a cy) [.ref (a 0), .ref (a q)] σ none o := by
  refine hv_enter (own := RX8) (cc := cX8_laysState) (maxL := 3) (ret := none) (by decide) rfl rfl (Nat.le_of_ble_eq_true rfl) ?_
  intro p e s m args below meth c C hr
  unfold mX8_laysState at h
  refine g_lv [0, 1] (lv' := [(0, .ref (a 0)), (1, .ref (a q))]) rfl ?_
  refine g_aload_n (pc := 0) C 0 dX8_laysState_0 rfl rfl ?_
  refine g_aload_n (pc := 1) C 0 dX8_laysState_1 rfl rfl ?_
  refine g_aload_n (pc := 2) C 0 dX8_laysState_2 rfl rfl ?_
  refine gm_get_0_20 (pc := 3) C iX8_laysState_X8 qX8_laysState_F152 dX8_laysState_3 ?_
  refine g_iconst (pc := 6) C (v := (-1 : Int32)) dX8_laysState_6 (by decide) ?_
  obtain ⟨r7, s7, hc7, h⟩ := hv_b2_some h
  refine g_callV (pc := 7) (σ1 := s7) (v := (some (.long (r7)))) (As := [.int (σ.1 0 20), .int ((-1 : Int32))]) (rest := [.ref (a 0)]) C 0 (vX8_setDeterminant hc7) (cwV 2 C.1.2.2.2.2 gX8_laysState_X8_setDeterminant rfl rfl rfl (by decide +kernel) ⟨Nat.le_of_ble_eq_true rfl, Nat.le_of_ble_eq_true rfl⟩) (Nat.le_of_ble_eq_true rfl) rfl rfl rfl rfl (Nat.le_of_ble_eq_true rfl) dX8_laysState_7 ⟨Nat.zero_le _, Nat.zero_le _⟩ ?_
  refine g_st (st' := [.long (r7), .ref (a 0)]) rfl ?_
  obtain ⟨s10, es10, h⟩ := hv_let_some h
  refine gm_put_0_29 (pc := 10) C es10 iX8_laysState_X8 qX8_laysState_F213 dX8_laysState_10 ?_
  refine g_iconst (pc := 13) C (v := (0 : Int32)) dX8_laysState_13 (by decide) ?_
  refine g_istore_n (pc := 14) C (lv' := [(2, .int ((0 : Int32))), (0, .ref (a 0)), (1, .ref (a q))]) rfl dX8_laysState_14 rfl (Nat.le_of_ble_eq_true rfl) rfl ?_
  exact g_lv [1, 2, 0] rfl (bX8_laysState_15 hq C hr n s10 ((0 : Int32)) h)
abbrev rmX8_laysBare : Room := { frames := 4, cells := 0, slots := 0, locals := 102 }
set_option maxRecDepth 20000 in
theorem qX8_laysBare_F59 : Cond.fieldLink RX8 59 "PinFrameModel" "bare" "[J" ∈ wsX8_laysBare := by decide +kernel
set_option maxRecDepth 20000 in
theorem iX8_laysBare_X8 : ∀ w ∈ u_ws RX8 TX8 35, w ∈ wsX8_laysBare := by decide +kernel
set_option maxHeartbeats 4000000 in
set_option maxRecDepth 20000 in
theorem vX8_laysBare {n : Nat} {σ : hv_St} {o : hv_St} (h : mX8_laysBare n σ = some o) : hv_M l yX8_laysBare wsX8_laysBare rmX8_laysBare D (hv_tys cy) 23 a (hv_ME a cy) [.ref (a 0)] σ none o := by
  refine hv_enter (own := RX8) (cc := cX8_laysBare) (maxL := 1) (ret := none) (by decide) rfl rfl (Nat.le_of_ble_eq_true rfl) ?_
  intro p e s m args below meth c C hr
  unfold mX8_laysBare at h
  refine g_lv [0] (lv' := [(0, .ref (a 0))]) rfl ?_
  refine g_aload_n (pc := 0) C 0 dX8_laysBare_0 rfl rfl ?_
  obtain ⟨s1, hc1, h⟩ := hv_bd_some h
  refine g_callV (pc := 1) (σ1 := s1) (v := none) (As := []) (rest := []) C 0 (vX8_takesLoads hc1) (cwV 0 C.1.2.2.2.2 gX8_laysBare_X8_takesLoads rfl rfl rfl (by decide +kernel) ⟨Nat.le_of_ble_eq_true rfl, Nat.le_of_ble_eq_true rfl⟩) (Nat.le_of_ble_eq_true rfl) rfl rfl rfl rfl (Nat.le_of_ble_eq_true rfl) dX8_laysBare_1 ⟨Nat.zero_le _, Nat.zero_le _⟩ ?_
  refine g_st (st' := []) rfl ?_
  refine g_aload_n (pc := 4) C 0 dX8_laysBare_4 rfl rfl ?_
  obtain ⟨s5, hc5, h⟩ := hv_bd_some h
  refine g_callV (pc := 5) (σ1 := s5) (v := none) (As := []) (rest := []) C 0 (vX8_laysColumn hc5) (cwV 0 C.1.2.2.2.2 gX8_laysBare_X8_laysColumn rfl rfl rfl (by decide +kernel) ⟨Nat.le_of_ble_eq_true rfl, Nat.le_of_ble_eq_true rfl⟩) (Nat.le_of_ble_eq_true rfl) rfl rfl rfl rfl (Nat.le_of_ble_eq_true rfl) dX8_laysBare_5 ⟨Nat.zero_le _, Nat.zero_le _⟩ ?_
  refine g_st (st' := []) rfl ?_
  refine g_aload_n (pc := 8) C 0 dX8_laysBare_8 rfl rfl ?_
  refine g_aload_n (pc := 9) C 0 dX8_laysBare_9 rfl rfl ?_
  refine gm_get_0_26 (pc := 10) C iX8_laysBare_X8 qX8_laysBare_F59 dX8_laysBare_10 ?_
  obtain ⟨s13, hc13, h⟩ := hv_bd_some h
  refine g_callV (pc := 13) (σ1 := s13) (v := none) (As := [.ref (a 17)]) (rest := []) C 0 (vX8_laysState (Or.inl rfl) hc13) (cwV 1 C.1.2.2.2.2 gX8_laysBare_X8_laysState rfl rfl rfl (by decide +kernel) ⟨Nat.le_of_ble_eq_true rfl, Nat.le_of_ble_eq_true rfl⟩) (Nat.le_of_ble_eq_true rfl) rfl rfl rfl rfl (Nat.le_of_ble_eq_true rfl) dX8_laysBare_13 ⟨Nat.zero_le _, Nat.zero_le _⟩ ?_
  refine g_st (st' := []) rfl ?_
  cases h
  exact g_vret (pc := 16) C hr dX8_laysBare_16
abbrev rmX8_laysUnit : Room := { frames := 4, cells := 0, slots := 0, locals := 102 }
set_option maxRecDepth 20000 in
theorem qX8_laysUnit_F130 : Cond.fieldLink RX8 130 "PinFrameModel" "free" "I" ∈ wsX8_laysUnit := by decide +kernel
set_option maxRecDepth 20000 in
theorem qX8_laysUnit_F213 : Cond.fieldLink RX8 213 "PinFrameModel" "baseBy" "J" ∈ wsX8_laysUnit := by decide +kernel
set_option maxRecDepth 20000 in
theorem qX8_laysUnit_F40 : Cond.fieldLink RX8 40 "PinFrameModel" "freePin" "[I" ∈ wsX8_laysUnit := by decide +kernel
set_option maxRecDepth 20000 in
theorem qX8_laysUnit_F43 : Cond.fieldLink RX8 43 "PinFrameModel" "freeWay" "[I" ∈ wsX8_laysUnit := by decide +kernel
set_option maxRecDepth 20000 in
theorem qX8_laysUnit_F50 : Cond.fieldLink RX8 50 "PinFrameModel" "column" "[I" ∈ wsX8_laysUnit := by decide +kernel
set_option maxRecDepth 20000 in
theorem iX8_laysUnit_X8 : ∀ w ∈ u_ws RX8 TX8 35, w ∈ wsX8_laysUnit := by decide +kernel
set_option maxHeartbeats 4000000 in
set_option maxRecDepth 20000 in
theorem bX8_laysUnit_2 {q : Nat} (hq : q = 17 ∨ q = 18 ∨ q = 19) (C : hv_C p s m args meth c cX8_laysUnit 4 wsX8_laysUnit RX8 D (hv_tys cy)) (hr : meth.sig.returnType = none) {n : Nat} {o : hv_St} : ∀ (i : Nat) (σ : hv_St) (x1 : Int32) (x3 : Int32), kX8_laysUnit_2 q n i σ x1 x3 = some o → hv_G p l e (headSpec wsX8_laysUnit rmX8_laysUnit).room s m args below meth c 4 D 23 a (hv_ME a cy) 0 0 (hv_MQ D 23 a (hv_ME a cy) below args s none o) σ 2 [(0, .ref (a 0)), (1, .int (x1)), (2, .ref (a q)), (3, .int (x3))] [] := by
  intro i
  induction i with
  | zero =>
    intro σ x1 x3 h
    cases h
  | succ i ih =>
    intro σ x1 x3 h
    generalize hg : kX8_laysUnit_2 q n i = r2 at ih
    have hr2 := ih
    replace h : kX8_laysUnit_2_b q n r2 σ x1 x3 = some o := by rw [← hg]; exact h
    unfold kX8_laysUnit_2_b at h
    refine g_iload_n (pc := 2) C 3 dX8_laysUnit_2 rfl rfl ?_
    refine g_aload_n (pc := 3) C 0 dX8_laysUnit_3 rfl rfl ?_
    refine gm_get_0_18 (pc := 4) C iX8_laysUnit_X8 qX8_laysUnit_F130 dX8_laysUnit_4 ?_
    refine g_icmp_ge (pc := 7) (tgt := 40) C dX8_laysUnit_7 (by decide) (fun c7 => ?_) (fun c7 => ?_)
    · rw [if_pos c7] at h
      refine g_aload_n (pc := 40) C 0 dX8_laysUnit_40 rfl rfl ?_
      refine g_aload_n (pc := 41) C 2 dX8_laysUnit_41 rfl rfl ?_
      obtain ⟨s42, hc42, h⟩ := hv_bd_some h
      refine g_callV (pc := 42) (σ1 := s42) (v := none) (As := [.ref (a q)]) (rest := []) C 0 (vX8_laysState hq hc42) (cwV 1 C.1.2.2.2.2 gX8_laysUnit_X8_laysState rfl rfl rfl (by decide +kernel) ⟨Nat.le_of_ble_eq_true rfl, Nat.le_of_ble_eq_true rfl⟩) (Nat.le_of_ble_eq_true rfl) rfl rfl rfl rfl (Nat.le_of_ble_eq_true rfl) dX8_laysUnit_42 ⟨Nat.zero_le _, Nat.zero_le _⟩ ?_
      refine g_st (st' := []) rfl ?_
      refine g_aload_n (pc := 45) C 2 dX8_laysUnit_45 rfl rfl ?_
      refine g_iload_n (pc := 46) C 1 dX8_laysUnit_46 rfl rfl ?_
      refine g_aload_n (pc := 47) C 0 dX8_laysUnit_47 rfl rfl ?_
      refine gm_get_0_29 (pc := 48) C iX8_laysUnit_X8 qX8_laysUnit_F213 dX8_laysUnit_48 ?_
      obtain ⟨k51, h⟩ := hv_if_some h
      obtain ⟨s51, es51, h⟩ := hv_let_some h
      refine gm_stq (pc := 51) C hq es51 k51 dX8_laysUnit_51 ?_
      cases h
      exact g_vret (pc := 52) C hr dX8_laysUnit_52
    · rw [if_neg c7] at h
      refine g_aload_n (pc := 10) C 0 dX8_laysUnit_10 rfl rfl ?_
      refine gm_get_0_22 (pc := 11) C iX8_laysUnit_X8 qX8_laysUnit_F50 dX8_laysUnit_11 ?_
      refine g_iload_n (pc := 14) C 3 dX8_laysUnit_14 rfl rfl ?_
      refine g_aload_n (pc := 15) C 0 dX8_laysUnit_15 rfl rfl ?_
      refine g_iload_n (pc := 16) C 1 dX8_laysUnit_16 rfl rfl ?_
      refine g_aload_n (pc := 17) C 0 dX8_laysUnit_17 rfl rfl ?_
      refine gm_get_0_16 (pc := 18) C iX8_laysUnit_X8 qX8_laysUnit_F40 dX8_laysUnit_18 ?_
      refine g_iload_n (pc := 21) C 3 dX8_laysUnit_21 rfl rfl ?_
      obtain ⟨k22, h⟩ := hv_if_some h
      refine gm_ld_11 (pc := 22) C k22 dX8_laysUnit_22 ?_
      refine g_aload_n (pc := 23) C 0 dX8_laysUnit_23 rfl rfl ?_
      refine gm_get_0_17 (pc := 24) C iX8_laysUnit_X8 qX8_laysUnit_F43 dX8_laysUnit_24 ?_
      refine g_iload_n (pc := 27) C 3 dX8_laysUnit_27 rfl rfl ?_
      obtain ⟨k28, h⟩ := hv_if_some h
      refine gm_ld_12 (pc := 28) C k28 dX8_laysUnit_28 ?_
      obtain ⟨r29, s29, hc29, h⟩ := hv_b2_some h
      refine g_callV (pc := 29) (σ1 := s29) (v := (some (.int (r29)))) (As := [.int (x1), .int (σ.1 11 (x3).toNatClampNeg), .int (σ.1 12 (x3).toNatClampNeg)]) (rest := [.int (x3), .ref (a 14)]) C 0 (vX8_brings hc29) (cwV 3 C.1.2.2.2.2 gX8_laysUnit_X8_brings rfl rfl rfl (by decide +kernel) ⟨Nat.le_of_ble_eq_true rfl, Nat.le_of_ble_eq_true rfl⟩) (Nat.le_of_ble_eq_true rfl) rfl rfl rfl rfl (Nat.le_of_ble_eq_true rfl) dX8_laysUnit_29 ⟨Nat.zero_le _, Nat.zero_le _⟩ ?_
      refine g_st (st' := [.int (r29), .int (x3), .ref (a 14)]) rfl ?_
      refine g_ineg (pc := 32) C dX8_laysUnit_32 ?_
      obtain ⟨k33, h⟩ := hv_if_some h
      obtain ⟨s33, es33, h⟩ := hv_let_some h
      refine gm_st_14 (pc := 33) C es33 k33 dX8_laysUnit_33 ?_
      refine g_iinc (pc := 34) C 3 (v := x3 + 1) (lv' := [(3, .int (x3 + 1)), (0, .ref (a 0)), (1, .int (x1)), (2, .ref (a q))]) dX8_laysUnit_34 rfl rfl (Nat.le_of_ble_eq_true rfl) rfl ?_
      refine g_goto (pc := 37) C (tgt := 2) dX8_laysUnit_37 (by decide) ?_
      exact g_lv [1, 2, 3, 0] rfl (hr2 s33 (x1) (x3 + 1) h)
set_option maxHeartbeats 4000000 in
set_option maxRecDepth 20000 in
theorem vX8_laysUnit {q : Nat} (hq : q = 17 ∨ q = 18 ∨ q = 19) {n : Nat} {σ : hv_St} {p0 : Int32} {o : hv_St} (h : mX8_laysUnit n σ p0 q = some o) : hv_M l yX8_laysUnit wsX8_laysUnit rmX8_laysUnit D (hv_tys cy) 23 a (hv_ME a cy) [.ref (a 0), .int (p0), .ref (a q)] σ none o := by
  refine hv_enter (own := RX8) (cc := cX8_laysUnit) (maxL := 4) (ret := none) (by decide) rfl rfl (Nat.le_of_ble_eq_true rfl) ?_
  intro p e s m args below meth c C hr
  unfold mX8_laysUnit at h
  refine g_lv [0, 1, 2] (lv' := [(0, .ref (a 0)), (1, .int (p0)), (2, .ref (a q))]) rfl ?_
  refine g_iconst (pc := 0) C (v := (0 : Int32)) dX8_laysUnit_0 (by decide) ?_
  refine g_istore_n (pc := 1) C (lv' := [(3, .int ((0 : Int32))), (0, .ref (a 0)), (1, .int (p0)), (2, .ref (a q))]) rfl dX8_laysUnit_1 rfl (Nat.le_of_ble_eq_true rfl) rfl ?_
  exact g_lv [1, 2, 3, 0] rfl (bX8_laysUnit_2 hq C hr n σ (p0) ((0 : Int32)) h)
abbrev rmX8_state : Room := { frames := 6, cells := 0, slots := 0, locals := 147 }
set_option maxRecDepth 20000 in
theorem qX8_state_F107 : Cond.fieldLink RX8 107 "PinFrameModel" "on" "I" ∈ wsX8_state := by decide +kernel
set_option maxRecDepth 20000 in
theorem qX8_state_F213 : Cond.fieldLink RX8 213 "PinFrameModel" "baseBy" "J" ∈ wsX8_state := by decide +kernel
set_option maxRecDepth 20000 in
theorem qX8_state_F59 : Cond.fieldLink RX8 59 "PinFrameModel" "bare" "[J" ∈ wsX8_state := by decide +kernel
set_option maxRecDepth 20000 in
theorem qX8_state_F62 : Cond.fieldLink RX8 62 "PinFrameModel" "unit" "[J" ∈ wsX8_state := by decide +kernel
set_option maxRecDepth 20000 in
theorem qX8_state_F77 : Cond.fieldLink RX8 77 "PinFrameModel" "raised" "I" ∈ wsX8_state := by decide +kernel
set_option maxRecDepth 20000 in
theorem iX8_state_X8 : ∀ w ∈ u_ws RX8 TX8 35, w ∈ wsX8_state := by decide +kernel
set_option maxHeartbeats 4000000 in
set_option maxRecDepth 20000 in
theorem bX8_state_82 (C : hv_C p s m args meth c cX8_state 6 wsX8_state RX8 D (hv_tys cy)) (hr : meth.sig.returnType = (some .long)) {n : Nat} {o : Int64 × hv_St} : ∀ (σ : hv_St) (x1 : Int32) (x2 : Int32) (x3 : Int32) (x5 : Int32) (z0 : Int32), kX8_state_82 n σ x1 x2 x3 x5 z0 = some o → hv_G p l e (headSpec wsX8_state rmX8_state).room s m args below meth c 6 D 23 a (hv_ME a cy) 0 0 (hv_MQ D 23 a (hv_ME a cy) below args s (some (.long o.1)) o.2) σ 82 [(0, .ref (a 0)), (1, .int (x1)), (2, .int (x2)), (3, .int (x3)), (5, .int (x5))] [.int (z0), .ref (a 0)] := by
  intro σ x1 x2 x3 x5 z0 h
  unfold kX8_state_82 at h
  obtain ⟨s82, es82, h⟩ := hv_let_some h
  refine gm_put_0_0 (pc := 82) C es82 iX8_state_X8 qX8_state_F77 dX8_state_82 ?_
  refine g_aload_n (pc := 85) C 0 dX8_state_85 rfl rfl ?_
  refine gm_get_0_0 (pc := 86) C iX8_state_X8 qX8_state_F77 dX8_state_86 ?_
  refine g_if_le (pc := 89) (tgt := 94) C dX8_state_89 (by decide) (fun c89 => ?_) (fun c89 => ?_)
  · rw [if_pos c89] at h
    refine g_iload_n (pc := 94) C 1 dX8_state_94 rfl rfl ?_
    refine g_iconst (pc := 95) C (v := (-1 : Int32)) dX8_state_95 (by decide) ?_
    refine g_icmp_ne (pc := 96) (tgt := 118) C dX8_state_96 (by decide) (fun c96 => ?_) (fun c96 => ?_)
    · rw [if_neg c96] at h
      refine g_aload_n (pc := 118) C 0 dX8_state_118 rfl rfl ?_
      refine g_iload (pc := 119) C 4 dX8_state_119 rfl ?_
      refine g_aload_n (pc := 121) C 0 dX8_state_121 rfl rfl ?_
      refine gm_get_0_27 (pc := 122) C iX8_state_X8 qX8_state_F62 dX8_state_122 ?_
      obtain ⟨s125, hc125, h⟩ := hv_bd_some h
      refine g_callV (pc := 125) (σ1 := s125) (v := none) (As := [.int (x5), .ref (a 18)]) (rest := []) C 0 (vX8_laysUnit (Or.inr (Or.inl rfl)) hc125) (cwV 2 C.1.2.2.2.2 gX8_state_X8_laysUnit rfl rfl rfl (by decide +kernel) ⟨Nat.le_of_ble_eq_true rfl, Nat.le_of_ble_eq_true rfl⟩) (Nat.le_of_ble_eq_true rfl) rfl rfl rfl rfl (Nat.le_of_ble_eq_true rfl) dX8_state_125 ⟨Nat.zero_le _, Nat.zero_le _⟩ ?_
      refine g_st (st' := []) rfl ?_
      refine g_aload_n (pc := 128) C 0 dX8_state_128 rfl rfl ?_
      refine gm_get_0_27 (pc := 129) C iX8_state_X8 qX8_state_F62 dX8_state_129 ?_
      refine g_iload_n (pc := 132) C 2 dX8_state_132 rfl rfl ?_
      obtain ⟨k133, h⟩ := hv_if_some h
      refine gm_ld_18 (pc := 133) C k133 dX8_state_133 ?_
      refine g_aload_n (pc := 134) C 0 dX8_state_134 rfl rfl ?_
      refine gm_get_0_29 (pc := 135) C iX8_state_X8 qX8_state_F213 dX8_state_135 ?_
      refine g_iload_n (pc := 138) C 3 dX8_state_138 rfl rfl ?_
      obtain ⟨r139, s139, hc139, h⟩ := hv_b2_some h
      refine g_callS (pc := 139) (σ1 := s139) (v := (some (.long (r139)))) (As := [.long (s125.2 18 (x2).toNatClampNeg), .long (s125.2 0 29), .int (x3)]) (rest := []) C (vX8_told hc139) (va_cwS 3 C.1.2.2.2.2 gX8_state_X8_told rfl rfl rfl (by decide +kernel) ⟨Nat.le_of_ble_eq_true rfl, Nat.le_of_ble_eq_true rfl⟩) rfl rfl (Nat.le_of_ble_eq_true rfl) dX8_state_139 ⟨Nat.zero_le _, Nat.zero_le _⟩ ?_
      refine g_st (st' := [.long (r139)]) rfl ?_
      cases h
      exact g_lret (pc := 142) C hr dX8_state_142
    · rw [if_pos c96] at h
      refine g_aload_n (pc := 99) C 0 dX8_state_99 rfl rfl ?_
      obtain ⟨s100, hc100, h⟩ := hv_bd_some h
      refine g_callV (pc := 100) (σ1 := s100) (v := none) (As := []) (rest := []) C 0 (vX8_laysBare hc100) (cwV 0 C.1.2.2.2.2 gX8_state_X8_laysBare rfl rfl rfl (by decide +kernel) ⟨Nat.le_of_ble_eq_true rfl, Nat.le_of_ble_eq_true rfl⟩) (Nat.le_of_ble_eq_true rfl) rfl rfl rfl rfl (Nat.le_of_ble_eq_true rfl) dX8_state_100 ⟨Nat.zero_le _, Nat.zero_le _⟩ ?_
      refine g_st (st' := []) rfl ?_
      refine g_aload_n (pc := 103) C 0 dX8_state_103 rfl rfl ?_
      refine gm_get_0_26 (pc := 104) C iX8_state_X8 qX8_state_F59 dX8_state_104 ?_
      refine g_iload_n (pc := 107) C 2 dX8_state_107 rfl rfl ?_
      obtain ⟨k108, h⟩ := hv_if_some h
      refine gm_ld_17 (pc := 108) C k108 dX8_state_108 ?_
      refine g_aload_n (pc := 109) C 0 dX8_state_109 rfl rfl ?_
      refine gm_get_0_29 (pc := 110) C iX8_state_X8 qX8_state_F213 dX8_state_110 ?_
      refine g_iload_n (pc := 113) C 3 dX8_state_113 rfl rfl ?_
      obtain ⟨r114, s114, hc114, h⟩ := hv_b2_some h
      refine g_callS (pc := 114) (σ1 := s114) (v := (some (.long (r114)))) (As := [.long (s100.2 17 (x2).toNatClampNeg), .long (s100.2 0 29), .int (x3)]) (rest := []) C (vX8_told hc114) (va_cwS 3 C.1.2.2.2.2 gX8_state_X8_told rfl rfl rfl (by decide +kernel) ⟨Nat.le_of_ble_eq_true rfl, Nat.le_of_ble_eq_true rfl⟩) rfl rfl (Nat.le_of_ble_eq_true rfl) dX8_state_114 ⟨Nat.zero_le _, Nat.zero_le _⟩ ?_
      refine g_st (st' := [.long (r114)]) rfl ?_
      cases h
      exact g_lret (pc := 117) C hr dX8_state_117
  · rw [if_neg c89] at h
    refine g_lconst (pc := 92) C (v := (0 : Int64)) dX8_state_92 (by decide) ?_
    cases h
    exact g_lret (pc := 93) C hr dX8_state_93
set_option maxHeartbeats 4000000 in
set_option maxRecDepth 20000 in
theorem bX8_state_81 (C : hv_C p s m args meth c cX8_state 6 wsX8_state RX8 D (hv_tys cy)) (hr : meth.sig.returnType = (some .long)) {n : Nat} {o : Int64 × hv_St} : ∀ (σ : hv_St) (x1 : Int32) (x2 : Int32) (x3 : Int32) (x5 : Int32), kX8_state_81 n σ x1 x2 x3 x5 = some o → hv_G p l e (headSpec wsX8_state rmX8_state).room s m args below meth c 6 D 23 a (hv_ME a cy) 0 0 (hv_MQ D 23 a (hv_ME a cy) below args s (some (.long o.1)) o.2) σ 81 [(0, .ref (a 0)), (1, .int (x1)), (2, .int (x2)), (3, .int (x3)), (5, .int (x5))] [.ref (a 0)] := by
  intro σ x1 x2 x3 x5 h
  unfold kX8_state_81 at h
  refine g_iconst (pc := 81) C (v := (1 : Int32)) dX8_state_81 (by decide) ?_
  exact g_lv [0, 1, 2, 3, 4] rfl (bX8_state_82 C hr σ (x1) (x2) (x3) (x5) ((1 : Int32)) h)
set_option maxHeartbeats 4000000 in
set_option maxRecDepth 20000 in
theorem bX8_state_77 (C : hv_C p s m args meth c cX8_state 6 wsX8_state RX8 D (hv_tys cy)) (hr : meth.sig.returnType = (some .long)) {n : Nat} {o : Int64 × hv_St} : ∀ (σ : hv_St) (x1 : Int32) (x2 : Int32) (x3 : Int32) (x5 : Int32), kX8_state_77 n σ x1 x2 x3 x5 = some o → hv_G p l e (headSpec wsX8_state rmX8_state).room s m args below meth c 6 D 23 a (hv_ME a cy) 0 0 (hv_MQ D 23 a (hv_ME a cy) below args s (some (.long o.1)) o.2) σ 77 [(0, .ref (a 0)), (1, .int (x1)), (2, .int (x2)), (3, .int (x3)), (5, .int (x5))] [.ref (a 0)] := by
  intro σ x1 x2 x3 x5 h
  unfold kX8_state_77 at h
  refine g_iconst (pc := 77) C (v := (0 : Int32)) dX8_state_77 (by decide) ?_
  refine g_goto (pc := 78) C (tgt := 82) dX8_state_78 (by decide) ?_
  exact g_lv [0, 1, 2, 3, 4] rfl (bX8_state_82 C hr σ (x1) (x2) (x3) (x5) ((0 : Int32)) h)
set_option maxHeartbeats 4000000 in
set_option maxRecDepth 20000 in
theorem bX8_state_58 (C : hv_C p s m args meth c cX8_state 6 wsX8_state RX8 D (hv_tys cy)) (hr : meth.sig.returnType = (some .long)) {n : Nat} {o : Int64 × hv_St} : ∀ (σ : hv_St) (x1 : Int32) (x2 : Int32) (x3 : Int32) (x4 : Int32) (z0 : Int32), kX8_state_58 n σ x1 x2 x3 x4 z0 = some o → hv_G p l e (headSpec wsX8_state rmX8_state).room s m args below meth c 6 D 23 a (hv_ME a cy) 0 0 (hv_MQ D 23 a (hv_ME a cy) below args s (some (.long o.1)) o.2) σ 58 [(0, .ref (a 0)), (1, .int (x1)), (2, .int (x2)), (3, .int (x3)), (4, .int (x4))] [.int (z0)] := by
  intro σ x1 x2 x3 x4 z0 h
  unfold kX8_state_58 at h
  refine g_istore (pc := 58) C (lv' := [(5, .int (z0)), (0, .ref (a 0)), (1, .int (x1)), (2, .int (x2)), (3, .int (x3)), (4, .int (x4))]) rfl dX8_state_58 (Nat.le_of_ble_eq_true rfl) rfl ?_
  refine g_aload_n (pc := 60) C 1 dX8_state_60 rfl rfl ?_
  refine g_iload (pc := 61) C 5 dX8_state_61 rfl ?_
  refine g_if_eq (pc := 63) (tgt := 81) C dX8_state_63 (by decide) (fun c63 => ?_) (fun c63 => ?_)
  · rw [if_pos c63] at h
    exact g_lv [1, 2, 3, 4, 0] rfl (bX8_state_81 C hr σ (x1) (x2) (x3) (z0) h)
  · rw [if_neg c63] at h
    refine g_iload_n (pc := 66) C 2 dX8_state_66 rfl rfl ?_
    refine g_iconst (pc := 67) C (v := (-1 : Int32)) dX8_state_67 (by decide) ?_
    refine g_icmp_eq (pc := 68) (tgt := 77) C dX8_state_68 (by decide) (fun c68 => ?_) (fun c68 => ?_)
    · rw [if_pos c68] at h
      exact g_lv [1, 2, 3, 4, 0] rfl (bX8_state_77 C hr σ (x1) (x2) (x3) (z0) h)
    · rw [if_neg c68] at h
      refine g_iload (pc := 71) C 0 dX8_state_71 rfl ?_
      refine g_iconst (pc := 73) C (v := (-1 : Int32)) dX8_state_73 (by decide) ?_
      refine g_icmp_eq (pc := 74) (tgt := 81) C dX8_state_74 (by decide) (fun c74 => ?_) (fun c74 => ?_)
      · rw [if_pos c74] at h
        exact g_lv [1, 2, 3, 4, 0] rfl (bX8_state_81 C hr σ (x1) (x2) (x3) (z0) h)
      · rw [if_neg c74] at h
        exact g_lv [1, 2, 3, 4, 0] rfl (bX8_state_77 C hr σ (x1) (x2) (x3) (z0) h)
set_option maxHeartbeats 4000000 in
set_option maxRecDepth 20000 in
theorem bX8_state_57 (C : hv_C p s m args meth c cX8_state 6 wsX8_state RX8 D (hv_tys cy)) (hr : meth.sig.returnType = (some .long)) {n : Nat} {o : Int64 × hv_St} : ∀ (σ : hv_St) (x1 : Int32) (x2 : Int32) (x3 : Int32) (x4 : Int32), kX8_state_57 n σ x1 x2 x3 x4 = some o → hv_G p l e (headSpec wsX8_state rmX8_state).room s m args below meth c 6 D 23 a (hv_ME a cy) 0 0 (hv_MQ D 23 a (hv_ME a cy) below args s (some (.long o.1)) o.2) σ 57 [(0, .ref (a 0)), (1, .int (x1)), (2, .int (x2)), (3, .int (x3)), (4, .int (x4))] [] := by
  intro σ x1 x2 x3 x4 h
  unfold kX8_state_57 at h
  refine g_iconst (pc := 57) C (v := (-1 : Int32)) dX8_state_57 (by decide) ?_
  exact g_lv [0, 1, 2, 3, 4] rfl (bX8_state_58 C hr σ (x1) (x2) (x3) (x4) ((-1 : Int32)) h)
set_option maxHeartbeats 4000000 in
set_option maxRecDepth 20000 in
theorem bX8_state_38 (C : hv_C p s m args meth c cX8_state 6 wsX8_state RX8 D (hv_tys cy)) (hr : meth.sig.returnType = (some .long)) {n : Nat} {o : Int64 × hv_St} : ∀ (σ : hv_St) (x1 : Int32) (x2 : Int32) (x3 : Int32) (z0 : Int32), kX8_state_38 n σ x1 x2 x3 z0 = some o → hv_G p l e (headSpec wsX8_state rmX8_state).room s m args below meth c 6 D 23 a (hv_ME a cy) 0 0 (hv_MQ D 23 a (hv_ME a cy) below args s (some (.long o.1)) o.2) σ 38 [(0, .ref (a 0)), (1, .int (x1)), (2, .int (x2)), (3, .int (x3))] [.int (z0)] := by
  intro σ x1 x2 x3 z0 h
  unfold kX8_state_38 at h
  refine g_istore (pc := 38) C (lv' := [(4, .int (z0)), (0, .ref (a 0)), (1, .int (x1)), (2, .int (x2)), (3, .int (x3))]) rfl dX8_state_38 (Nat.le_of_ble_eq_true rfl) rfl ?_
  refine g_iload (pc := 40) C 0 dX8_state_40 rfl ?_
  refine g_if_eq (pc := 42) (tgt := 57) C dX8_state_42 (by decide) (fun c42 => ?_) (fun c42 => ?_)
  · rw [if_pos c42] at h
    exact g_lv [1, 2, 3, 4, 0] rfl (bX8_state_57 C hr σ (x1) (x2) (x3) (z0) h)
  · rw [if_neg c42] at h
    refine g_iload_n (pc := 45) C 2 dX8_state_45 rfl rfl ?_
    refine g_if_lt (pc := 46) (tgt := 57) C dX8_state_46 (by decide) (fun c46 => ?_) (fun c46 => ?_)
    · rw [if_pos c46] at h
      exact g_lv [1, 2, 3, 4, 0] rfl (bX8_state_57 C hr σ (x1) (x2) (x3) (z0) h)
    · rw [if_neg c46] at h
      refine g_aload_n (pc := 49) C 1 dX8_state_49 rfl rfl ?_
      refine g_iload_n (pc := 50) C 2 dX8_state_50 rfl rfl ?_
      obtain ⟨r51, s51, hc51, h⟩ := hv_b2_some h
      refine g_callV (pc := 51) (σ1 := s51) (v := (some (.int (r51)))) (As := [.int (x1)]) (rest := []) C 0 (vX8_spareAt hc51) (cwV 1 C.1.2.2.2.2 gX8_state_X8_spareAt rfl rfl rfl (by decide +kernel) ⟨Nat.le_of_ble_eq_true rfl, Nat.le_of_ble_eq_true rfl⟩) (Nat.le_of_ble_eq_true rfl) rfl rfl rfl rfl (Nat.le_of_ble_eq_true rfl) dX8_state_51 ⟨Nat.zero_le _, Nat.zero_le _⟩ ?_
      refine g_st (st' := [.int (r51)]) rfl ?_
      refine g_goto (pc := 54) C (tgt := 58) dX8_state_54 (by decide) ?_
      exact g_lv [1, 2, 3, 4, 0] rfl (bX8_state_58 C hr s51 (x1) (x2) (x3) (z0) (r51) h)
set_option maxHeartbeats 4000000 in
set_option maxRecDepth 20000 in
theorem bX8_state_37 (C : hv_C p s m args meth c cX8_state 6 wsX8_state RX8 D (hv_tys cy)) (hr : meth.sig.returnType = (some .long)) {n : Nat} {o : Int64 × hv_St} : ∀ (σ : hv_St) (x1 : Int32) (x2 : Int32) (x3 : Int32), kX8_state_37 n σ x1 x2 x3 = some o → hv_G p l e (headSpec wsX8_state rmX8_state).room s m args below meth c 6 D 23 a (hv_ME a cy) 0 0 (hv_MQ D 23 a (hv_ME a cy) below args s (some (.long o.1)) o.2) σ 37 [(0, .ref (a 0)), (1, .int (x1)), (2, .int (x2)), (3, .int (x3))] [] := by
  intro σ x1 x2 x3 h
  unfold kX8_state_37 at h
  refine g_iconst (pc := 37) C (v := (0 : Int32)) dX8_state_37 (by decide) ?_
  exact g_lv [0, 1, 2, 3] rfl (bX8_state_38 C hr σ (x1) (x2) (x3) ((0 : Int32)) h)
set_option maxHeartbeats 4000000 in
set_option maxRecDepth 20000 in
theorem vX8_state {n : Nat} {σ : hv_St} {p0 : Int32} {p1 : Int32} {p2 : Int32} {o : Int64 × hv_St} (h : mX8_state n σ p0 p1 p2 = some o) : hv_M l yX8_state wsX8_state rmX8_state D (hv_tys cy) 23 a (hv_ME a cy) [.ref (a 0), .int (p0), .int (p1), .int (p2)] σ (some (.long o.1)) o.2 := by
  refine hv_enter (own := RX8) (cc := cX8_state) (maxL := 6) (ret := (some .long)) (by decide) rfl rfl (Nat.le_of_ble_eq_true rfl) ?_
  intro p e s m args below meth c C hr
  unfold mX8_state at h
  refine g_lv [0, 1, 2, 3] (lv' := [(0, .ref (a 0)), (1, .int (p0)), (2, .int (p1)), (3, .int (p2))]) rfl ?_
  refine g_aload_n (pc := 0) C 0 dX8_state_0 rfl rfl ?_
  refine g_iload_n (pc := 1) C 2 dX8_state_1 rfl rfl ?_
  obtain ⟨r2, s2, hc2, h⟩ := hv_b2_some h
  refine g_callV (pc := 2) (σ1 := s2) (v := (some (.int (r2)))) (As := [.int (p1)]) (rest := []) C 0 (vX8_isBar hc2) (cwV 1 C.1.2.2.2.2 gX8_state_X8_isBar rfl rfl rfl (by decide +kernel) ⟨Nat.le_of_ble_eq_true rfl, Nat.le_of_ble_eq_true rfl⟩) (Nat.le_of_ble_eq_true rfl) rfl rfl rfl rfl (Nat.le_of_ble_eq_true rfl) dX8_state_2 ⟨Nat.zero_le _, Nat.zero_le _⟩ ?_
  refine g_st (st' := [.int (r2)]) rfl ?_
  refine g_if_eq (pc := 5) (tgt := 37) C dX8_state_5 (by decide) (fun c5 => ?_) (fun c5 => ?_)
  · rw [if_pos c5] at h
    exact g_lv [0, 1, 2, 3] rfl (bX8_state_37 C hr s2 (p0) (p1) (p2) h)
  · rw [if_neg c5] at h
    refine g_aload_n (pc := 8) C 0 dX8_state_8 rfl rfl ?_
    refine gm_get_0_11 (pc := 9) C iX8_state_X8 qX8_state_F107 dX8_state_9 ?_
    refine g_iload_n (pc := 12) C 2 dX8_state_12 rfl rfl ?_
    obtain ⟨r13, s13, hc13, h⟩ := hv_b2_some h
    refine g_callS (pc := 13) (σ1 := s13) (v := (some (.int (r13)))) (As := [.int (s2.1 0 11), .int (p1)]) (rest := []) C (vX8_isOn hc13) (va_cwS 2 C.1.2.2.2.2 gX8_state_X8_isOn rfl rfl rfl (by decide +kernel) ⟨Nat.le_of_ble_eq_true rfl, Nat.le_of_ble_eq_true rfl⟩) rfl rfl (Nat.le_of_ble_eq_true rfl) dX8_state_13 ⟨Nat.zero_le _, Nat.zero_le _⟩ ?_
    refine g_st (st' := [.int (r13)]) rfl ?_
    refine g_if_eq (pc := 16) (tgt := 37) C dX8_state_16 (by decide) (fun c16 => ?_) (fun c16 => ?_)
    · rw [if_pos c16] at h
      exact g_lv [0, 1, 2, 3] rfl (bX8_state_37 C hr s13 (p0) (p1) (p2) h)
    · rw [if_neg c16] at h
      refine g_aload_n (pc := 19) C 0 dX8_state_19 rfl rfl ?_
      refine g_aload_n (pc := 20) C 0 dX8_state_20 rfl rfl ?_
      refine gm_get_0_11 (pc := 21) C iX8_state_X8 qX8_state_F107 dX8_state_21 ?_
      obtain ⟨r24, s24, hc24, h⟩ := hv_b2_some h
      refine g_callV (pc := 24) (σ1 := s24) (v := (some (.int (r24)))) (As := [.int (s13.1 0 11)]) (rest := []) C 0 (vX8_kindOf hc24) (cwV 1 C.1.2.2.2.2 gX8_state_X8_kindOf rfl rfl rfl (by decide +kernel) ⟨Nat.le_of_ble_eq_true rfl, Nat.le_of_ble_eq_true rfl⟩) (Nat.le_of_ble_eq_true rfl) rfl rfl rfl rfl (Nat.le_of_ble_eq_true rfl) dX8_state_24 ⟨Nat.zero_le _, Nat.zero_le _⟩ ?_
      refine g_st (st' := [.int (r24)]) rfl ?_
      obtain ⟨r27, s27, hc27, h⟩ := hv_b2_some h
      refine g_callS (pc := 27) (σ1 := s27) (v := (some (.int (r27)))) (As := [.int (r24)]) (rest := []) C (vX8_isFirm hc27) (va_cwS 1 C.1.2.2.2.2 gX8_state_X8_isFirm rfl rfl rfl (by decide +kernel) ⟨Nat.le_of_ble_eq_true rfl, Nat.le_of_ble_eq_true rfl⟩) rfl rfl (Nat.le_of_ble_eq_true rfl) dX8_state_27 ⟨Nat.zero_le _, Nat.zero_le _⟩ ?_
      refine g_st (st' := [.int (r27)]) rfl ?_
      refine g_if_eq (pc := 30) (tgt := 37) C dX8_state_30 (by decide) (fun c30 => ?_) (fun c30 => ?_)
      · rw [if_pos c30] at h
        exact g_lv [0, 1, 2, 3] rfl (bX8_state_37 C hr s27 (p0) (p1) (p2) h)
      · rw [if_neg c30] at h
        refine g_iconst (pc := 33) C (v := (1 : Int32)) dX8_state_33 (by decide) ?_
        refine g_goto (pc := 34) C (tgt := 38) dX8_state_34 (by decide) ?_
        exact g_lv [0, 1, 2, 3] rfl (bX8_state_38 C hr s27 (p0) (p1) (p2) ((1 : Int32)) h)
abbrev rmX8_flex : Room := { frames := 6, cells := 0, slots := 0, locals := 147 }
set_option maxRecDepth 20000 in
theorem qX8_flex_F107 : Cond.fieldLink RX8 107 "PinFrameModel" "on" "I" ∈ wsX8_flex := by decide +kernel
set_option maxRecDepth 20000 in
theorem qX8_flex_F213 : Cond.fieldLink RX8 213 "PinFrameModel" "baseBy" "J" ∈ wsX8_flex := by decide +kernel
set_option maxRecDepth 20000 in
theorem qX8_flex_F28 : Cond.fieldLink RX8 28 "PinFrameModel" "give" "[I" ∈ wsX8_flex := by decide +kernel
set_option maxRecDepth 20000 in
theorem qX8_flex_F59 : Cond.fieldLink RX8 59 "PinFrameModel" "bare" "[J" ∈ wsX8_flex := by decide +kernel
set_option maxRecDepth 20000 in
theorem qX8_flex_F62 : Cond.fieldLink RX8 62 "PinFrameModel" "unit" "[J" ∈ wsX8_flex := by decide +kernel
set_option maxRecDepth 20000 in
theorem qX8_flex_F65 : Cond.fieldLink RX8 65 "PinFrameModel" "second" "[J" ∈ wsX8_flex := by decide +kernel
set_option maxRecDepth 20000 in
theorem qX8_flex_F77 : Cond.fieldLink RX8 77 "PinFrameModel" "raised" "I" ∈ wsX8_flex := by decide +kernel
set_option maxRecDepth 20000 in
theorem qX8_flex_F88 : Cond.fieldLink RX8 88 "PinFrameModel" "bars" "I" ∈ wsX8_flex := by decide +kernel
set_option maxRecDepth 20000 in
theorem iX8_flex_X8 : ∀ w ∈ u_ws RX8 TX8 35, w ∈ wsX8_flex := by decide +kernel
set_option maxHeartbeats 4000000 in
set_option maxRecDepth 20000 in
theorem bX8_flex_175 (C : hv_C p s m args meth c cX8_flex 10 wsX8_flex RX8 D (hv_tys cy)) (hr : meth.sig.returnType = (some .long)) {n : Nat} {o : Int64 × hv_St} {r126 : hv_St → Int32 → Int32 → Int64 → Int32 → Option (Int64 × hv_St)} (hr126 : ∀ (σ : hv_St) (x2 : Int32) (x3 : Int32) (x7 : Int64) (x9 : Int32), r126 σ x2 x3 x7 x9 = some o → hv_G p l e (headSpec wsX8_flex rmX8_flex).room s m args below meth c 10 D 23 a (hv_ME a cy) 0 0 (hv_MQ D 23 a (hv_ME a cy) below args s (some (.long o.1)) o.2) σ 126 [(0, .ref (a 0)), (2, .int (x2)), (3, .int (x3)), (7, .long (x7)), (9, .int (x9))] []) : ∀ (σ : hv_St) (x2 : Int32) (x3 : Int32) (x9 : Int32) (z0 : Int64) (z1 : Int64) (z2 : Int64), kX8_flex_175 n r126 σ x2 x3 x9 z0 z1 z2 = some o → hv_G p l e (headSpec wsX8_flex rmX8_flex).room s m args below meth c 10 D 23 a (hv_ME a cy) 0 0 (hv_MQ D 23 a (hv_ME a cy) below args s (some (.long o.1)) o.2) σ 175 [(0, .ref (a 0)), (2, .int (x2)), (3, .int (x3)), (9, .int (x9))] [.long (z0), .long (z1), .long (z2)] := by
  intro σ x2 x3 x9 z0 z1 z2 h
  unfold kX8_flex_175 at h
  refine g_lmul (pc := 175) C dX8_flex_175 ?_
  refine g_ladd (pc := 176) C dX8_flex_176 ?_
  obtain ⟨y7_177, ey7_177, h⟩ := hv_let_some h
  refine g_lstore (pc := 177) C (lv' := [(7, .long (y7_177)), (0, .ref (a 0)), (2, .int (x2)), (3, .int (x3)), (9, .int (x9))]) ey7_177 dX8_flex_177 (Nat.le_of_ble_eq_true rfl) rfl ?_
  refine g_iinc (pc := 179) C 4 (v := x9 + 1) (lv' := [(9, .int (x9 + 1)), (7, .long (y7_177)), (0, .ref (a 0)), (2, .int (x2)), (3, .int (x3))]) dX8_flex_179 rfl rfl (Nat.le_of_ble_eq_true rfl) rfl ?_
  refine g_goto (pc := 182) C (tgt := 126) dX8_flex_182 (by decide) ?_
  exact g_lv [2, 3, 4, 1, 0] rfl (hr126 σ (x2) (x3) (y7_177) (x9 + 1) h)
set_option maxHeartbeats 4000000 in
set_option maxRecDepth 20000 in
theorem bX8_flex_126 (C : hv_C p s m args meth c cX8_flex 10 wsX8_flex RX8 D (hv_tys cy)) (hr : meth.sig.returnType = (some .long)) {n : Nat} {o : Int64 × hv_St} : ∀ (i : Nat) (σ : hv_St) (x2 : Int32) (x3 : Int32) (x7 : Int64) (x9 : Int32), kX8_flex_126 n i σ x2 x3 x7 x9 = some o → hv_G p l e (headSpec wsX8_flex rmX8_flex).room s m args below meth c 10 D 23 a (hv_ME a cy) 0 0 (hv_MQ D 23 a (hv_ME a cy) below args s (some (.long o.1)) o.2) σ 126 [(0, .ref (a 0)), (2, .int (x2)), (3, .int (x3)), (7, .long (x7)), (9, .int (x9))] [] := by
  intro i
  induction i with
  | zero =>
    intro σ x2 x3 x7 x9 h
    cases h
  | succ i ih =>
    intro σ x2 x3 x7 x9 h
    generalize hg : kX8_flex_126 n i = r126 at ih
    have hr126 := ih
    replace h : kX8_flex_126_b n r126 σ x2 x3 x7 x9 = some o := by rw [← hg]; exact h
    unfold kX8_flex_126_b at h
    refine g_iload (pc := 126) C 4 dX8_flex_126 rfl ?_
    refine g_aload_n (pc := 128) C 0 dX8_flex_128 rfl rfl ?_
    refine gm_get_0_6 (pc := 129) C iX8_flex_X8 qX8_flex_F88 dX8_flex_129 ?_
    refine g_icmp_ge (pc := 132) (tgt := 185) C dX8_flex_132 (by decide) (fun c132 => ?_) (fun c132 => ?_)
    · rw [if_pos c132] at h
      refine g_lload (pc := 185) C 3 dX8_flex_185 rfl ?_
      refine g_aload_n (pc := 187) C 0 dX8_flex_187 rfl rfl ?_
      refine gm_get_0_29 (pc := 188) C iX8_flex_X8 qX8_flex_F213 dX8_flex_188 ?_
      refine g_aload_n (pc := 191) C 0 dX8_flex_191 rfl rfl ?_
      refine gm_get_0_29 (pc := 192) C iX8_flex_X8 qX8_flex_F213 dX8_flex_192 ?_
      refine g_lmul (pc := 195) C dX8_flex_195 ?_
      refine g_iload_n (pc := 196) C 2 dX8_flex_196 rfl rfl ?_
      obtain ⟨r197, s197, hc197, h⟩ := hv_b2_some h
      refine g_callS (pc := 197) (σ1 := s197) (v := (some (.long (r197)))) (As := [.long (x7), .long ((σ.2 0 29) * (σ.2 0 29)), .int (x3)]) (rest := []) C (vX8_told hc197) (va_cwS 3 C.1.2.2.2.2 gX8_flex_X8_told rfl rfl rfl (by decide +kernel) ⟨Nat.le_of_ble_eq_true rfl, Nat.le_of_ble_eq_true rfl⟩) rfl rfl (Nat.le_of_ble_eq_true rfl) dX8_flex_197 ⟨Nat.zero_le _, Nat.zero_le _⟩ ?_
      refine g_st (st' := [.long (r197)]) rfl ?_
      cases h
      exact g_lret (pc := 200) C hr dX8_flex_200
    · rw [if_neg c132] at h
      refine g_lload (pc := 135) C 3 dX8_flex_135 rfl ?_
      refine g_aload_n (pc := 137) C 0 dX8_flex_137 rfl rfl ?_
      refine gm_get_0_9 (pc := 138) C iX8_flex_X8 qX8_flex_F28 dX8_flex_138 ?_
      refine g_iload (pc := 141) C 4 dX8_flex_141 rfl ?_
      obtain ⟨k143, h⟩ := hv_if_some h
      refine gm_ld_7 (pc := 143) C k143 dX8_flex_143 ?_
      refine g_i2l (pc := 144) C dX8_flex_144 ?_
      refine g_aload_n (pc := 145) C 0 dX8_flex_145 rfl rfl ?_
      refine gm_get_0_27 (pc := 146) C iX8_flex_X8 qX8_flex_F62 dX8_flex_146 ?_
      refine g_iload (pc := 149) C 4 dX8_flex_149 rfl ?_
      obtain ⟨k151, h⟩ := hv_if_some h
      refine gm_ld_18 (pc := 151) C k151 dX8_flex_151 ?_
      refine g_lmul (pc := 152) C dX8_flex_152 ?_
      refine g_iload_n (pc := 153) C 1 dX8_flex_153 rfl rfl ?_
      refine g_iconst (pc := 154) C (v := (-1 : Int32)) dX8_flex_154 (by decide) ?_
      refine g_icmp_ne (pc := 155) (tgt := 168) C dX8_flex_155 (by decide) (fun c155 => ?_) (fun c155 => ?_)
      · rw [if_neg c155] at h
        refine g_aload_n (pc := 168) C 0 dX8_flex_168 rfl rfl ?_
        refine gm_get_0_28 (pc := 169) C iX8_flex_X8 qX8_flex_F65 dX8_flex_169 ?_
        refine g_iload (pc := 172) C 4 dX8_flex_172 rfl ?_
        obtain ⟨k174, h⟩ := hv_if_some h
        refine gm_ld_19 (pc := 174) C k174 dX8_flex_174 ?_
        exact g_lv [0, 1, 2, 4] rfl (bX8_flex_175 C hr hr126 σ (x2) (x3) (x9) (σ.2 19 (x9).toNatClampNeg) (((σ.1 7 (x9).toNatClampNeg).toInt64) * (σ.2 18 (x9).toNatClampNeg)) (x7) h)
      · rw [if_pos c155] at h
        refine g_aload_n (pc := 158) C 0 dX8_flex_158 rfl rfl ?_
        refine gm_get_0_26 (pc := 159) C iX8_flex_X8 qX8_flex_F59 dX8_flex_159 ?_
        refine g_iload (pc := 162) C 4 dX8_flex_162 rfl ?_
        obtain ⟨k164, h⟩ := hv_if_some h
        refine gm_ld_17 (pc := 164) C k164 dX8_flex_164 ?_
        refine g_goto (pc := 165) C (tgt := 175) dX8_flex_165 (by decide) ?_
        exact g_lv [0, 1, 2, 4] rfl (bX8_flex_175 C hr hr126 σ (x2) (x3) (x9) (σ.2 17 (x9).toNatClampNeg) (((σ.1 7 (x9).toNatClampNeg).toInt64) * (σ.2 18 (x9).toNatClampNeg)) (x7) h)
set_option maxHeartbeats 4000000 in
set_option maxRecDepth 20000 in
theorem bX8_flex_120 (C : hv_C p s m args meth c cX8_flex 10 wsX8_flex RX8 D (hv_tys cy)) (hr : meth.sig.returnType = (some .long)) {n : Nat} {o : Int64 × hv_St} : ∀ (σ : hv_St) (x2 : Int32) (x3 : Int32), kX8_flex_120 n σ x2 x3 = some o → hv_G p l e (headSpec wsX8_flex rmX8_flex).room s m args below meth c 10 D 23 a (hv_ME a cy) 0 0 (hv_MQ D 23 a (hv_ME a cy) below args s (some (.long o.1)) o.2) σ 120 [(0, .ref (a 0)), (2, .int (x2)), (3, .int (x3))] [] := by
  intro σ x2 x3 h
  unfold kX8_flex_120 at h
  refine g_lconst (pc := 120) C (v := (0 : Int64)) dX8_flex_120 (by decide) ?_
  refine g_lstore (pc := 121) C (lv' := [(7, .long ((0 : Int64))), (0, .ref (a 0)), (2, .int (x2)), (3, .int (x3))]) rfl dX8_flex_121 (Nat.le_of_ble_eq_true rfl) rfl ?_
  refine g_iconst (pc := 123) C (v := (0 : Int32)) dX8_flex_123 (by decide) ?_
  refine g_istore (pc := 124) C (lv' := [(9, .int ((0 : Int32))), (7, .long ((0 : Int64))), (0, .ref (a 0)), (2, .int (x2)), (3, .int (x3))]) rfl dX8_flex_124 (Nat.le_of_ble_eq_true rfl) rfl ?_
  exact g_lv [2, 3, 4, 1, 0] rfl (bX8_flex_126 C hr n σ (x2) (x3) ((0 : Int64)) ((0 : Int32)) h)
set_option maxHeartbeats 4000000 in
set_option maxRecDepth 20000 in
theorem bX8_flex_76 (C : hv_C p s m args meth c cX8_flex 10 wsX8_flex RX8 D (hv_tys cy)) (hr : meth.sig.returnType = (some .long)) {n : Nat} {o : Int64 × hv_St} : ∀ (σ : hv_St) (x2 : Int32) (x3 : Int32) (x5 : Int32) (x6 : Int32) (z0 : Int32), kX8_flex_76 n σ x2 x3 x5 x6 z0 = some o → hv_G p l e (headSpec wsX8_flex rmX8_flex).room s m args below meth c 10 D 23 a (hv_ME a cy) 0 0 (hv_MQ D 23 a (hv_ME a cy) below args s (some (.long o.1)) o.2) σ 76 [(0, .ref (a 0)), (2, .int (x2)), (3, .int (x3)), (5, .int (x5)), (6, .int (x6))] [.int (z0), .ref (a 0)] := by
  intro σ x2 x3 x5 x6 z0 h
  unfold kX8_flex_76 at h
  obtain ⟨s76, es76, h⟩ := hv_let_some h
  refine gm_put_0_0 (pc := 76) C es76 iX8_flex_X8 qX8_flex_F77 dX8_flex_76 ?_
  refine g_aload_n (pc := 79) C 0 dX8_flex_79 rfl rfl ?_
  refine gm_get_0_0 (pc := 80) C iX8_flex_X8 qX8_flex_F77 dX8_flex_80 ?_
  refine g_if_le (pc := 83) (tgt := 88) C dX8_flex_83 (by decide) (fun c83 => ?_) (fun c83 => ?_)
  · rw [if_pos c83] at h
    refine g_aload_n (pc := 88) C 0 dX8_flex_88 rfl rfl ?_
    refine g_iload (pc := 89) C 3 dX8_flex_89 rfl ?_
    refine g_aload_n (pc := 91) C 0 dX8_flex_91 rfl rfl ?_
    refine gm_get_0_27 (pc := 92) C iX8_flex_X8 qX8_flex_F62 dX8_flex_92 ?_
    obtain ⟨s95, hc95, h⟩ := hv_bd_some h
    refine g_callV (pc := 95) (σ1 := s95) (v := none) (As := [.int (x5), .ref (a 18)]) (rest := []) C 0 (vX8_laysUnit (Or.inr (Or.inl rfl)) hc95) (cwV 2 C.1.2.2.2.2 gX8_flex_X8_laysUnit rfl rfl rfl (by decide +kernel) ⟨Nat.le_of_ble_eq_true rfl, Nat.le_of_ble_eq_true rfl⟩) (Nat.le_of_ble_eq_true rfl) rfl rfl rfl rfl (Nat.le_of_ble_eq_true rfl) dX8_flex_95 ⟨Nat.zero_le _, Nat.zero_le _⟩ ?_
    refine g_st (st' := []) rfl ?_
    refine g_iload_n (pc := 98) C 1 dX8_flex_98 rfl rfl ?_
    refine g_iconst (pc := 99) C (v := (-1 : Int32)) dX8_flex_99 (by decide) ?_
    refine g_icmp_ne (pc := 100) (tgt := 110) C dX8_flex_100 (by decide) (fun c100 => ?_) (fun c100 => ?_)
    · rw [if_neg c100] at h
      refine g_aload_n (pc := 110) C 0 dX8_flex_110 rfl rfl ?_
      refine g_iload (pc := 111) C 4 dX8_flex_111 rfl ?_
      refine g_aload_n (pc := 113) C 0 dX8_flex_113 rfl rfl ?_
      refine gm_get_0_28 (pc := 114) C iX8_flex_X8 qX8_flex_F65 dX8_flex_114 ?_
      obtain ⟨s117, hc117, h⟩ := hv_bd_some h
      refine g_callV (pc := 117) (σ1 := s117) (v := none) (As := [.int (x6), .ref (a 19)]) (rest := []) C 0 (vX8_laysUnit (Or.inr (Or.inr (rfl))) hc117) (cwV 2 C.1.2.2.2.2 gX8_flex_X8_laysUnit rfl rfl rfl (by decide +kernel) ⟨Nat.le_of_ble_eq_true rfl, Nat.le_of_ble_eq_true rfl⟩) (Nat.le_of_ble_eq_true rfl) rfl rfl rfl rfl (Nat.le_of_ble_eq_true rfl) dX8_flex_117 ⟨Nat.zero_le _, Nat.zero_le _⟩ ?_
      refine g_st (st' := []) rfl ?_
      exact g_lv [0, 1, 2] rfl (bX8_flex_120 C hr s117 (x2) (x3) h)
    · rw [if_pos c100] at h
      refine g_aload_n (pc := 103) C 0 dX8_flex_103 rfl rfl ?_
      obtain ⟨s104, hc104, h⟩ := hv_bd_some h
      refine g_callV (pc := 104) (σ1 := s104) (v := none) (As := []) (rest := []) C 0 (vX8_laysBare hc104) (cwV 0 C.1.2.2.2.2 gX8_flex_X8_laysBare rfl rfl rfl (by decide +kernel) ⟨Nat.le_of_ble_eq_true rfl, Nat.le_of_ble_eq_true rfl⟩) (Nat.le_of_ble_eq_true rfl) rfl rfl rfl rfl (Nat.le_of_ble_eq_true rfl) dX8_flex_104 ⟨Nat.zero_le _, Nat.zero_le _⟩ ?_
      refine g_st (st' := []) rfl ?_
      refine g_goto (pc := 107) C (tgt := 120) dX8_flex_107 (by decide) ?_
      exact g_lv [0, 1, 2] rfl (bX8_flex_120 C hr s104 (x2) (x3) h)
  · rw [if_neg c83] at h
    refine g_lconst (pc := 86) C (v := (0 : Int64)) dX8_flex_86 (by decide) ?_
    cases h
    exact g_lret (pc := 87) C hr dX8_flex_87
set_option maxHeartbeats 4000000 in
set_option maxRecDepth 20000 in
theorem bX8_flex_75 (C : hv_C p s m args meth c cX8_flex 10 wsX8_flex RX8 D (hv_tys cy)) (hr : meth.sig.returnType = (some .long)) {n : Nat} {o : Int64 × hv_St} : ∀ (σ : hv_St) (x2 : Int32) (x3 : Int32) (x5 : Int32) (x6 : Int32), kX8_flex_75 n σ x2 x3 x5 x6 = some o → hv_G p l e (headSpec wsX8_flex rmX8_flex).room s m args below meth c 10 D 23 a (hv_ME a cy) 0 0 (hv_MQ D 23 a (hv_ME a cy) below args s (some (.long o.1)) o.2) σ 75 [(0, .ref (a 0)), (2, .int (x2)), (3, .int (x3)), (5, .int (x5)), (6, .int (x6))] [.ref (a 0)] := by
  intro σ x2 x3 x5 x6 h
  unfold kX8_flex_75 at h
  refine g_iconst (pc := 75) C (v := (1 : Int32)) dX8_flex_75 (by decide) ?_
  exact g_lv [0, 1, 2, 3, 4] rfl (bX8_flex_76 C hr σ (x2) (x3) (x5) (x6) ((1 : Int32)) h)
set_option maxHeartbeats 4000000 in
set_option maxRecDepth 20000 in
theorem bX8_flex_71 (C : hv_C p s m args meth c cX8_flex 10 wsX8_flex RX8 D (hv_tys cy)) (hr : meth.sig.returnType = (some .long)) {n : Nat} {o : Int64 × hv_St} : ∀ (σ : hv_St) (x2 : Int32) (x3 : Int32) (x5 : Int32) (x6 : Int32), kX8_flex_71 n σ x2 x3 x5 x6 = some o → hv_G p l e (headSpec wsX8_flex rmX8_flex).room s m args below meth c 10 D 23 a (hv_ME a cy) 0 0 (hv_MQ D 23 a (hv_ME a cy) below args s (some (.long o.1)) o.2) σ 71 [(0, .ref (a 0)), (2, .int (x2)), (3, .int (x3)), (5, .int (x5)), (6, .int (x6))] [.ref (a 0)] := by
  intro σ x2 x3 x5 x6 h
  unfold kX8_flex_71 at h
  refine g_iconst (pc := 71) C (v := (0 : Int32)) dX8_flex_71 (by decide) ?_
  refine g_goto (pc := 72) C (tgt := 76) dX8_flex_72 (by decide) ?_
  exact g_lv [0, 1, 2, 3, 4] rfl (bX8_flex_76 C hr σ (x2) (x3) (x5) (x6) ((0 : Int32)) h)
set_option maxHeartbeats 4000000 in
set_option maxRecDepth 20000 in
theorem bX8_flex_51 (C : hv_C p s m args meth c cX8_flex 10 wsX8_flex RX8 D (hv_tys cy)) (hr : meth.sig.returnType = (some .long)) {n : Nat} {o : Int64 × hv_St} : ∀ (σ : hv_St) (x2 : Int32) (x3 : Int32) (x5 : Int32) (z0 : Int32), kX8_flex_51 n σ x2 x3 x5 z0 = some o → hv_G p l e (headSpec wsX8_flex rmX8_flex).room s m args below meth c 10 D 23 a (hv_ME a cy) 0 0 (hv_MQ D 23 a (hv_ME a cy) below args s (some (.long o.1)) o.2) σ 51 [(0, .ref (a 0)), (2, .int (x2)), (3, .int (x3)), (5, .int (x5))] [.int (z0)] := by
  intro σ x2 x3 x5 z0 h
  unfold kX8_flex_51 at h
  refine g_istore (pc := 51) C (lv' := [(6, .int (z0)), (0, .ref (a 0)), (2, .int (x2)), (3, .int (x3)), (5, .int (x5))]) rfl dX8_flex_51 (Nat.le_of_ble_eq_true rfl) rfl ?_
  refine g_aload_n (pc := 53) C 1 dX8_flex_53 rfl rfl ?_
  refine g_iload (pc := 54) C 4 dX8_flex_54 rfl ?_
  refine g_iconst (pc := 56) C (v := (-1 : Int32)) dX8_flex_56 (by decide) ?_
  refine g_icmp_eq (pc := 57) (tgt := 75) C dX8_flex_57 (by decide) (fun c57 => ?_) (fun c57 => ?_)
  · rw [if_pos c57] at h
    exact g_lv [1, 2, 3, 4, 0] rfl (bX8_flex_75 C hr σ (x2) (x3) (x5) (z0) h)
  · rw [if_neg c57] at h
    refine g_iload_n (pc := 60) C 2 dX8_flex_60 rfl rfl ?_
    refine g_iconst (pc := 61) C (v := (-1 : Int32)) dX8_flex_61 (by decide) ?_
    refine g_icmp_eq (pc := 62) (tgt := 71) C dX8_flex_62 (by decide) (fun c62 => ?_) (fun c62 => ?_)
    · rw [if_pos c62] at h
      exact g_lv [1, 2, 3, 4, 0] rfl (bX8_flex_71 C hr σ (x2) (x3) (x5) (z0) h)
    · rw [if_neg c62] at h
      refine g_iload (pc := 65) C 0 dX8_flex_65 rfl ?_
      refine g_iconst (pc := 67) C (v := (-1 : Int32)) dX8_flex_67 (by decide) ?_
      refine g_icmp_eq (pc := 68) (tgt := 75) C dX8_flex_68 (by decide) (fun c68 => ?_) (fun c68 => ?_)
      · rw [if_pos c68] at h
        exact g_lv [1, 2, 3, 4, 0] rfl (bX8_flex_75 C hr σ (x2) (x3) (x5) (z0) h)
      · rw [if_neg c68] at h
        exact g_lv [1, 2, 3, 4, 0] rfl (bX8_flex_71 C hr σ (x2) (x3) (x5) (z0) h)
set_option maxHeartbeats 4000000 in
set_option maxRecDepth 20000 in
theorem bX8_flex_50 (C : hv_C p s m args meth c cX8_flex 10 wsX8_flex RX8 D (hv_tys cy)) (hr : meth.sig.returnType = (some .long)) {n : Nat} {o : Int64 × hv_St} : ∀ (σ : hv_St) (x2 : Int32) (x3 : Int32) (x5 : Int32), kX8_flex_50 n σ x2 x3 x5 = some o → hv_G p l e (headSpec wsX8_flex rmX8_flex).room s m args below meth c 10 D 23 a (hv_ME a cy) 0 0 (hv_MQ D 23 a (hv_ME a cy) below args s (some (.long o.1)) o.2) σ 50 [(0, .ref (a 0)), (2, .int (x2)), (3, .int (x3)), (5, .int (x5))] [] := by
  intro σ x2 x3 x5 h
  unfold kX8_flex_50 at h
  refine g_iconst (pc := 50) C (v := (-1 : Int32)) dX8_flex_50 (by decide) ?_
  exact g_lv [0, 1, 2, 3] rfl (bX8_flex_51 C hr σ (x2) (x3) (x5) ((-1 : Int32)) h)
set_option maxHeartbeats 4000000 in
set_option maxRecDepth 20000 in
theorem bX8_flex_31 (C : hv_C p s m args meth c cX8_flex 10 wsX8_flex RX8 D (hv_tys cy)) (hr : meth.sig.returnType = (some .long)) {n : Nat} {o : Int64 × hv_St} : ∀ (σ : hv_St) (x2 : Int32) (x3 : Int32) (x4 : Int32) (z0 : Int32), kX8_flex_31 n σ x2 x3 x4 z0 = some o → hv_G p l e (headSpec wsX8_flex rmX8_flex).room s m args below meth c 10 D 23 a (hv_ME a cy) 0 0 (hv_MQ D 23 a (hv_ME a cy) below args s (some (.long o.1)) o.2) σ 31 [(0, .ref (a 0)), (2, .int (x2)), (3, .int (x3)), (4, .int (x4))] [.int (z0)] := by
  intro σ x2 x3 x4 z0 h
  unfold kX8_flex_31 at h
  refine g_istore (pc := 31) C (lv' := [(5, .int (z0)), (0, .ref (a 0)), (2, .int (x2)), (3, .int (x3)), (4, .int (x4))]) rfl dX8_flex_31 (Nat.le_of_ble_eq_true rfl) rfl ?_
  refine g_iload (pc := 33) C 4 dX8_flex_33 rfl ?_
  refine g_if_eq (pc := 35) (tgt := 50) C dX8_flex_35 (by decide) (fun c35 => ?_) (fun c35 => ?_)
  · rw [if_pos c35] at h
    exact g_lv [1, 2, 3, 0] rfl (bX8_flex_50 C hr σ (x2) (x3) (z0) h)
  · rw [if_neg c35] at h
    refine g_iload_n (pc := 38) C 2 dX8_flex_38 rfl rfl ?_
    refine g_if_lt (pc := 39) (tgt := 50) C dX8_flex_39 (by decide) (fun c39 => ?_) (fun c39 => ?_)
    · rw [if_pos c39] at h
      exact g_lv [1, 2, 3, 0] rfl (bX8_flex_50 C hr σ (x2) (x3) (z0) h)
    · rw [if_neg c39] at h
      refine g_aload_n (pc := 42) C 1 dX8_flex_42 rfl rfl ?_
      refine g_iload_n (pc := 43) C 2 dX8_flex_43 rfl rfl ?_
      obtain ⟨r44, s44, hc44, h⟩ := hv_b2_some h
      refine g_callV (pc := 44) (σ1 := s44) (v := (some (.int (r44)))) (As := [.int (x2)]) (rest := []) C 0 (vX8_spareAt hc44) (cwV 1 C.1.2.2.2.2 gX8_flex_X8_spareAt rfl rfl rfl (by decide +kernel) ⟨Nat.le_of_ble_eq_true rfl, Nat.le_of_ble_eq_true rfl⟩) (Nat.le_of_ble_eq_true rfl) rfl rfl rfl rfl (Nat.le_of_ble_eq_true rfl) dX8_flex_44 ⟨Nat.zero_le _, Nat.zero_le _⟩ ?_
      refine g_st (st' := [.int (r44)]) rfl ?_
      refine g_goto (pc := 47) C (tgt := 51) dX8_flex_47 (by decide) ?_
      exact g_lv [1, 2, 3, 0] rfl (bX8_flex_51 C hr s44 (x2) (x3) (z0) (r44) h)
set_option maxHeartbeats 4000000 in
set_option maxRecDepth 20000 in
theorem bX8_flex_30 (C : hv_C p s m args meth c cX8_flex 10 wsX8_flex RX8 D (hv_tys cy)) (hr : meth.sig.returnType = (some .long)) {n : Nat} {o : Int64 × hv_St} : ∀ (σ : hv_St) (x2 : Int32) (x3 : Int32) (x4 : Int32), kX8_flex_30 n σ x2 x3 x4 = some o → hv_G p l e (headSpec wsX8_flex rmX8_flex).room s m args below meth c 10 D 23 a (hv_ME a cy) 0 0 (hv_MQ D 23 a (hv_ME a cy) below args s (some (.long o.1)) o.2) σ 30 [(0, .ref (a 0)), (2, .int (x2)), (3, .int (x3)), (4, .int (x4))] [] := by
  intro σ x2 x3 x4 h
  unfold kX8_flex_30 at h
  refine g_iconst (pc := 30) C (v := (-1 : Int32)) dX8_flex_30 (by decide) ?_
  exact g_lv [0, 1, 2, 3] rfl (bX8_flex_31 C hr σ (x2) (x3) (x4) ((-1 : Int32)) h)
set_option maxHeartbeats 4000000 in
set_option maxRecDepth 20000 in
theorem vX8_flex {n : Nat} {σ : hv_St} {p0 : Int32} {p1 : Int32} {p2 : Int32} {o : Int64 × hv_St} (h : mX8_flex n σ p0 p1 p2 = some o) : hv_M l yX8_flex wsX8_flex rmX8_flex D (hv_tys cy) 23 a (hv_ME a cy) [.ref (a 0), .int (p0), .int (p1), .int (p2)] σ (some (.long o.1)) o.2 := by
  refine hv_enter (own := RX8) (cc := cX8_flex) (maxL := 10) (ret := (some .long)) (by decide) rfl rfl (Nat.le_of_ble_eq_true rfl) ?_
  intro p e s m args below meth c C hr
  unfold mX8_flex at h
  refine g_lv [0, 1, 2, 3] (lv' := [(0, .ref (a 0)), (1, .int (p0)), (2, .int (p1)), (3, .int (p2))]) rfl ?_
  refine g_aload_n (pc := 0) C 0 dX8_flex_0 rfl rfl ?_
  refine g_aload_n (pc := 1) C 0 dX8_flex_1 rfl rfl ?_
  refine gm_get_0_11 (pc := 2) C iX8_flex_X8 qX8_flex_F107 dX8_flex_2 ?_
  obtain ⟨r5, s5, hc5, h⟩ := hv_b2_some h
  refine g_callV (pc := 5) (σ1 := s5) (v := (some (.int (r5)))) (As := [.int (σ.1 0 11)]) (rest := []) C 0 (vX8_kindOf hc5) (cwV 1 C.1.2.2.2.2 gX8_flex_X8_kindOf rfl rfl rfl (by decide +kernel) ⟨Nat.le_of_ble_eq_true rfl, Nat.le_of_ble_eq_true rfl⟩) (Nat.le_of_ble_eq_true rfl) rfl rfl rfl rfl (Nat.le_of_ble_eq_true rfl) dX8_flex_5 ⟨Nat.zero_le _, Nat.zero_le _⟩ ?_
  refine g_st (st' := [.int (r5)]) rfl ?_
  obtain ⟨r8, s8, hc8, h⟩ := hv_b2_some h
  refine g_callS (pc := 8) (σ1 := s8) (v := (some (.int (r8)))) (As := [.int (r5)]) (rest := []) C (vX8_isFirm hc8) (va_cwS 1 C.1.2.2.2.2 gX8_flex_X8_isFirm rfl rfl rfl (by decide +kernel) ⟨Nat.le_of_ble_eq_true rfl, Nat.le_of_ble_eq_true rfl⟩) rfl rfl (Nat.le_of_ble_eq_true rfl) dX8_flex_8 ⟨Nat.zero_le _, Nat.zero_le _⟩ ?_
  refine g_st (st' := [.int (r8)]) rfl ?_
  refine g_istore (pc := 11) C (lv' := [(4, .int (r8)), (0, .ref (a 0)), (1, .int (p0)), (2, .int (p1)), (3, .int (p2))]) rfl dX8_flex_11 (Nat.le_of_ble_eq_true rfl) rfl ?_
  refine g_iload (pc := 13) C 0 dX8_flex_13 rfl ?_
  refine g_if_eq (pc := 15) (tgt := 30) C dX8_flex_15 (by decide) (fun c15 => ?_) (fun c15 => ?_)
  · rw [if_pos c15] at h
    exact g_lv [1, 3, 4, 0] rfl (bX8_flex_30 C hr s8 (p1) (p2) (r8) h)
  · rw [if_neg c15] at h
    refine g_iload_n (pc := 18) C 2 dX8_flex_18 rfl rfl ?_
    refine g_if_lt (pc := 19) (tgt := 30) C dX8_flex_19 (by decide) (fun c19 => ?_) (fun c19 => ?_)
    · rw [if_pos c19] at h
      exact g_lv [1, 3, 4, 0] rfl (bX8_flex_30 C hr s8 (p1) (p2) (r8) h)
    · rw [if_neg c19] at h
      refine g_aload_n (pc := 22) C 1 dX8_flex_22 rfl rfl ?_
      refine g_iload_n (pc := 23) C 2 dX8_flex_23 rfl rfl ?_
      obtain ⟨r24, s24, hc24, h⟩ := hv_b2_some h
      refine g_callV (pc := 24) (σ1 := s24) (v := (some (.int (r24)))) (As := [.int (p0)]) (rest := []) C 0 (vX8_spareAt hc24) (cwV 1 C.1.2.2.2.2 gX8_flex_X8_spareAt rfl rfl rfl (by decide +kernel) ⟨Nat.le_of_ble_eq_true rfl, Nat.le_of_ble_eq_true rfl⟩) (Nat.le_of_ble_eq_true rfl) rfl rfl rfl rfl (Nat.le_of_ble_eq_true rfl) dX8_flex_24 ⟨Nat.zero_le _, Nat.zero_le _⟩ ?_
      refine g_st (st' := [.int (r24)]) rfl ?_
      refine g_goto (pc := 27) C (tgt := 31) dX8_flex_27 (by decide) ?_
      exact g_lv [1, 3, 4, 0] rfl (bX8_flex_31 C hr s24 (p1) (p2) (r8) (r24) h)
abbrev rmX8_force : Room := { frames := 7, cells := 0, slots := 0, locals := 169 }
set_option maxRecDepth 20000 in
theorem qX8_force_F107 : Cond.fieldLink RX8 107 "PinFrameModel" "on" "I" ∈ wsX8_force := by decide +kernel
set_option maxRecDepth 20000 in
theorem qX8_force_F16 : Cond.fieldLink RX8 16 "PinFrameModel" "held" "[I" ∈ wsX8_force := by decide +kernel
set_option maxRecDepth 20000 in
theorem qX8_force_F189 : Cond.fieldLink RX8 189 "PinFrameModel" "under" "J" ∈ wsX8_force := by decide +kernel
set_option maxRecDepth 20000 in
theorem qX8_force_F19 : Cond.fieldLink RX8 19 "PinFrameModel" "loads" "[I" ∈ wsX8_force := by decide +kernel
set_option maxRecDepth 20000 in
theorem qX8_force_F53 : Cond.fieldLink RX8 53 "PinFrameModel" "over" "[J" ∈ wsX8_force := by decide +kernel
set_option maxRecDepth 20000 in
theorem qX8_force_F77 : Cond.fieldLink RX8 77 "PinFrameModel" "raised" "I" ∈ wsX8_force := by decide +kernel
set_option maxRecDepth 20000 in
theorem qX8_force_F88 : Cond.fieldLink RX8 88 "PinFrameModel" "bars" "I" ∈ wsX8_force := by decide +kernel
set_option maxRecDepth 20000 in
theorem iX8_force_X8 : ∀ w ∈ u_ws RX8 TX8 35, w ∈ wsX8_force := by decide +kernel
set_option maxHeartbeats 4000000 in
set_option maxRecDepth 20000 in
theorem bX8_force_85 (C : hv_C p s m args meth c cX8_force 7 wsX8_force RX8 D (hv_tys cy)) (hr : meth.sig.returnType = (some .long)) {n : Nat} {o : Int64 × hv_St} : ∀ (i : Nat) (σ : hv_St) (x1 : Int32) (x2 : Int32) (x3 : Int32) (x4 : Int64) (x6 : Int32), kX8_force_85 n i σ x1 x2 x3 x4 x6 = some o → hv_G p l e (headSpec wsX8_force rmX8_force).room s m args below meth c 7 D 23 a (hv_ME a cy) 0 0 (hv_MQ D 23 a (hv_ME a cy) below args s (some (.long o.1)) o.2) σ 85 [(0, .ref (a 0)), (1, .int (x1)), (2, .int (x2)), (3, .int (x3)), (4, .long (x4)), (6, .int (x6))] [] := by
  intro i
  induction i with
  | zero =>
    intro σ x1 x2 x3 x4 x6 h
    cases h
  | succ i ih =>
    intro σ x1 x2 x3 x4 x6 h
    generalize hg : kX8_force_85 n i = r85 at ih
    have hr85 := ih
    replace h : kX8_force_85_b n r85 σ x1 x2 x3 x4 x6 = some o := by rw [← hg]; exact h
    unfold kX8_force_85_b at h
    refine g_iload (pc := 85) C 5 dX8_force_85 rfl ?_
    refine g_aload_n (pc := 87) C 0 dX8_force_87 rfl rfl ?_
    refine gm_get_0_6 (pc := 88) C iX8_force_X8 qX8_force_F88 dX8_force_88 ?_
    refine g_icmp_ge (pc := 91) (tgt := 122) C dX8_force_91 (by decide) (fun c91 => ?_) (fun c91 => ?_)
    · rw [if_pos c91] at h
      refine g_lload (pc := 122) C 4 dX8_force_122 rfl ?_
      refine g_lneg (pc := 124) C dX8_force_124 ?_
      refine g_aload_n (pc := 125) C 0 dX8_force_125 rfl rfl ?_
      refine gm_get_0_24 (pc := 126) C iX8_force_X8 qX8_force_F189 dX8_force_126 ?_
      refine g_iload_n (pc := 129) C 3 dX8_force_129 rfl rfl ?_
      obtain ⟨r130, s130, hc130, h⟩ := hv_b2_some h
      refine g_callS (pc := 130) (σ1 := s130) (v := (some (.long (r130)))) (As := [.long (-(x4)), .long (σ.2 0 24), .int (x3)]) (rest := []) C (vX8_told hc130) (va_cwS 3 C.1.2.2.2.2 gX8_force_X8_told rfl rfl rfl (by decide +kernel) ⟨Nat.le_of_ble_eq_true rfl, Nat.le_of_ble_eq_true rfl⟩) rfl rfl (Nat.le_of_ble_eq_true rfl) dX8_force_130 ⟨Nat.zero_le _, Nat.zero_le _⟩ ?_
      refine g_st (st' := [.long (r130)]) rfl ?_
      cases h
      exact g_lret (pc := 133) C hr dX8_force_133
    · rw [if_neg c91] at h
      refine g_lload (pc := 94) C 4 dX8_force_94 rfl ?_
      refine g_aload_n (pc := 96) C 0 dX8_force_96 rfl rfl ?_
      refine gm_get_0_23 (pc := 97) C iX8_force_X8 qX8_force_F53 dX8_force_97 ?_
      refine g_iload (pc := 100) C 5 dX8_force_100 rfl ?_
      obtain ⟨k102, h⟩ := hv_if_some h
      refine gm_ld_15 (pc := 102) C k102 dX8_force_102 ?_
      refine g_aload_n (pc := 103) C 0 dX8_force_103 rfl rfl ?_
      refine g_iload (pc := 104) C 5 dX8_force_104 rfl ?_
      refine g_iload_n (pc := 106) C 1 dX8_force_106 rfl rfl ?_
      refine g_iload_n (pc := 107) C 2 dX8_force_107 rfl rfl ?_
      obtain ⟨r108, s108, hc108, h⟩ := hv_b2_some h
      refine g_callV (pc := 108) (σ1 := s108) (v := (some (.int (r108)))) (As := [.int (x6), .int (x1), .int (x2)]) (rest := [.long (σ.2 15 (x6).toNatClampNeg), .long (x4)]) C 0 (vX8_brings hc108) (cwV 3 C.1.2.2.2.2 gX8_force_X8_brings rfl rfl rfl (by decide +kernel) ⟨Nat.le_of_ble_eq_true rfl, Nat.le_of_ble_eq_true rfl⟩) (Nat.le_of_ble_eq_true rfl) rfl rfl rfl rfl (Nat.le_of_ble_eq_true rfl) dX8_force_108 ⟨Nat.zero_le _, Nat.zero_le _⟩ ?_
      refine g_st (st' := [.int (r108), .long (σ.2 15 (x6).toNatClampNeg), .long (x4)]) rfl ?_
      refine g_i2l (pc := 111) C dX8_force_111 ?_
      refine g_lmul (pc := 112) C dX8_force_112 ?_
      refine g_ladd (pc := 113) C dX8_force_113 ?_
      obtain ⟨y4_114, ey4_114, h⟩ := hv_let_some h
      refine g_lstore (pc := 114) C (lv' := [(4, .long (y4_114)), (0, .ref (a 0)), (1, .int (x1)), (2, .int (x2)), (3, .int (x3)), (6, .int (x6))]) ey4_114 dX8_force_114 (Nat.le_of_ble_eq_true rfl) rfl ?_
      refine g_iinc (pc := 116) C 5 (v := x6 + 1) (lv' := [(6, .int (x6 + 1)), (4, .long (y4_114)), (0, .ref (a 0)), (1, .int (x1)), (2, .int (x2)), (3, .int (x3))]) dX8_force_116 rfl rfl (Nat.le_of_ble_eq_true rfl) rfl ?_
      refine g_goto (pc := 119) C (tgt := 85) dX8_force_119 (by decide) ?_
      exact g_lv [2, 3, 4, 5, 1, 0] rfl (hr85 s108 (x1) (x2) (x3) (y4_114) (x6 + 1) h)
set_option maxHeartbeats 4000000 in
set_option maxRecDepth 20000 in
theorem bX8_force_52 (C : hv_C p s m args meth c cX8_force 7 wsX8_force RX8 D (hv_tys cy)) (hr : meth.sig.returnType = (some .long)) {n : Nat} {o : Int64 × hv_St} : ∀ (σ : hv_St) (x1 : Int32) (x2 : Int32) (x3 : Int32) (z0 : Int32), kX8_force_52 n σ x1 x2 x3 z0 = some o → hv_G p l e (headSpec wsX8_force rmX8_force).room s m args below meth c 7 D 23 a (hv_ME a cy) 0 0 (hv_MQ D 23 a (hv_ME a cy) below args s (some (.long o.1)) o.2) σ 52 [(0, .ref (a 0)), (1, .int (x1)), (2, .int (x2)), (3, .int (x3))] [.int (z0), .ref (a 0)] := by
  intro σ x1 x2 x3 z0 h
  unfold kX8_force_52 at h
  obtain ⟨s52, es52, h⟩ := hv_let_some h
  refine gm_put_0_0 (pc := 52) C es52 iX8_force_X8 qX8_force_F77 dX8_force_52 ?_
  refine g_aload_n (pc := 55) C 0 dX8_force_55 rfl rfl ?_
  refine gm_get_0_0 (pc := 56) C iX8_force_X8 qX8_force_F77 dX8_force_56 ?_
  refine g_if_le (pc := 59) (tgt := 64) C dX8_force_59 (by decide) (fun c59 => ?_) (fun c59 => ?_)
  · rw [if_pos c59] at h
    refine g_aload_n (pc := 64) C 0 dX8_force_64 rfl rfl ?_
    refine gm_get_0_5 (pc := 65) C iX8_force_X8 qX8_force_F19 dX8_force_65 ?_
    refine g_iconst (pc := 68) C (v := (2 : Int32)) dX8_force_68 (by decide) ?_
    refine g_iload_n (pc := 69) C 1 dX8_force_69 rfl rfl ?_
    refine g_imul (pc := 70) C dX8_force_70 ?_
    refine g_iload_n (pc := 71) C 2 dX8_force_71 rfl rfl ?_
    refine g_iadd (pc := 72) C dX8_force_72 ?_
    obtain ⟨k73, h⟩ := hv_if_some h
    refine gm_ld_4 (pc := 73) C k73 dX8_force_73 ?_
    refine g_i2l (pc := 74) C dX8_force_74 ?_
    refine g_aload_n (pc := 75) C 0 dX8_force_75 rfl rfl ?_
    refine gm_get_0_24 (pc := 76) C iX8_force_X8 qX8_force_F189 dX8_force_76 ?_
    refine g_lmul (pc := 79) C dX8_force_79 ?_
    obtain ⟨y4_80, ey4_80, h⟩ := hv_let_some h
    refine g_lstore (pc := 80) C (lv' := [(4, .long (y4_80)), (0, .ref (a 0)), (1, .int (x1)), (2, .int (x2)), (3, .int (x3))]) ey4_80 dX8_force_80 (Nat.le_of_ble_eq_true rfl) rfl ?_
    refine g_iconst (pc := 82) C (v := (0 : Int32)) dX8_force_82 (by decide) ?_
    refine g_istore (pc := 83) C (lv' := [(6, .int ((0 : Int32))), (4, .long (y4_80)), (0, .ref (a 0)), (1, .int (x1)), (2, .int (x2)), (3, .int (x3))]) rfl dX8_force_83 (Nat.le_of_ble_eq_true rfl) rfl ?_
    exact g_lv [2, 3, 4, 5, 1, 0] rfl (bX8_force_85 C hr n s52 (x1) (x2) (x3) (y4_80) ((0 : Int32)) h)
  · rw [if_neg c59] at h
    refine g_lconst (pc := 62) C (v := (0 : Int64)) dX8_force_62 (by decide) ?_
    cases h
    exact g_lret (pc := 63) C hr dX8_force_63
set_option maxHeartbeats 4000000 in
set_option maxRecDepth 20000 in
theorem bX8_force_51 (C : hv_C p s m args meth c cX8_force 7 wsX8_force RX8 D (hv_tys cy)) (hr : meth.sig.returnType = (some .long)) {n : Nat} {o : Int64 × hv_St} : ∀ (σ : hv_St) (x1 : Int32) (x2 : Int32) (x3 : Int32), kX8_force_51 n σ x1 x2 x3 = some o → hv_G p l e (headSpec wsX8_force rmX8_force).room s m args below meth c 7 D 23 a (hv_ME a cy) 0 0 (hv_MQ D 23 a (hv_ME a cy) below args s (some (.long o.1)) o.2) σ 51 [(0, .ref (a 0)), (1, .int (x1)), (2, .int (x2)), (3, .int (x3))] [.ref (a 0)] := by
  intro σ x1 x2 x3 h
  unfold kX8_force_51 at h
  refine g_iconst (pc := 51) C (v := (1 : Int32)) dX8_force_51 (by decide) ?_
  exact g_lv [0, 1, 2, 3] rfl (bX8_force_52 C hr σ (x1) (x2) (x3) ((1 : Int32)) h)
set_option maxHeartbeats 4000000 in
set_option maxRecDepth 20000 in
theorem vX8_force {n : Nat} {σ : hv_St} {p0 : Int32} {p1 : Int32} {p2 : Int32} {o : Int64 × hv_St} (h : mX8_force n σ p0 p1 p2 = some o) : hv_M l yX8_force wsX8_force rmX8_force D (hv_tys cy) 23 a (hv_ME a cy) [.ref (a 0), .int (p0), .int (p1), .int (p2)] σ (some (.long o.1)) o.2 := by
  refine hv_enter (own := RX8) (cc := cX8_force) (maxL := 7) (ret := (some .long)) (by decide) rfl rfl (Nat.le_of_ble_eq_true rfl) ?_
  intro p e s m args below meth c C hr
  unfold mX8_force at h
  refine g_lv [0, 1, 2, 3] (lv' := [(0, .ref (a 0)), (1, .int (p0)), (2, .int (p1)), (3, .int (p2))]) rfl ?_
  refine g_aload_n (pc := 0) C 0 dX8_force_0 rfl rfl ?_
  obtain ⟨s1, hc1, h⟩ := hv_bd_some h
  refine g_callV (pc := 1) (σ1 := s1) (v := none) (As := []) (rest := []) C 0 (vX8_takesLoads hc1) (cwV 0 C.1.2.2.2.2 gX8_force_X8_takesLoads rfl rfl rfl (by decide +kernel) ⟨Nat.le_of_ble_eq_true rfl, Nat.le_of_ble_eq_true rfl⟩) (Nat.le_of_ble_eq_true rfl) rfl rfl rfl rfl (Nat.le_of_ble_eq_true rfl) dX8_force_1 ⟨Nat.zero_le _, Nat.zero_le _⟩ ?_
  refine g_st (st' := []) rfl ?_
  refine g_aload_n (pc := 4) C 0 dX8_force_4 rfl rfl ?_
  refine g_aload_n (pc := 5) C 0 dX8_force_5 rfl rfl ?_
  refine g_iload_n (pc := 6) C 1 dX8_force_6 rfl rfl ?_
  obtain ⟨r7, s7, hc7, h⟩ := hv_b2_some h
  refine g_callV (pc := 7) (σ1 := s7) (v := (some (.int (r7)))) (As := [.int (p0)]) (rest := [.ref (a 0)]) C 0 (vX8_isPin hc7) (cwV 1 C.1.2.2.2.2 gX8_force_X8_isPin rfl rfl rfl (by decide +kernel) ⟨Nat.le_of_ble_eq_true rfl, Nat.le_of_ble_eq_true rfl⟩) (Nat.le_of_ble_eq_true rfl) rfl rfl rfl rfl (Nat.le_of_ble_eq_true rfl) dX8_force_7 ⟨Nat.zero_le _, Nat.zero_le _⟩ ?_
  refine g_st (st' := [.int (r7), .ref (a 0)]) rfl ?_
  refine g_if_eq (pc := 10) (tgt := 51) C dX8_force_10 (by decide) (fun c10 => ?_) (fun c10 => ?_)
  · rw [if_pos c10] at h
    exact g_lv [0, 1, 2, 3] rfl (bX8_force_51 C hr s7 (p0) (p1) (p2) h)
  · rw [if_neg c10] at h
    refine g_iload_n (pc := 13) C 2 dX8_force_13 rfl rfl ?_
    refine g_i2l (pc := 14) C dX8_force_14 ?_
    refine g_lconst (pc := 15) C (v := (0 : Int64)) dX8_force_15 (by decide) ?_
    refine g_lconst (pc := 16) C (v := (1 : Int64)) dX8_force_16 (by decide) ?_
    obtain ⟨r17, s17, hc17, h⟩ := hv_b2_some h
    refine g_callS (pc := 17) (σ1 := s17) (v := (some (.int (r17)))) (As := [.long ((p1).toInt64), .long ((0 : Int64)), .long ((1 : Int64))]) (rest := [.ref (a 0)]) C (vX8_in hc17) (va_cwS 3 C.1.2.2.2.2 gX8_force_X8_in rfl rfl rfl (by decide +kernel) ⟨Nat.le_of_ble_eq_true rfl, Nat.le_of_ble_eq_true rfl⟩) rfl rfl (Nat.le_of_ble_eq_true rfl) dX8_force_17 ⟨Nat.zero_le _, Nat.zero_le _⟩ ?_
    refine g_st (st' := [.int (r17), .ref (a 0)]) rfl ?_
    refine g_if_eq (pc := 20) (tgt := 51) C dX8_force_20 (by decide) (fun c20 => ?_) (fun c20 => ?_)
    · rw [if_pos c20] at h
      exact g_lv [0, 1, 2, 3] rfl (bX8_force_51 C hr s17 (p0) (p1) (p2) h)
    · rw [if_neg c20] at h
      refine g_aload_n (pc := 23) C 0 dX8_force_23 rfl rfl ?_
      refine gm_get_0_4 (pc := 24) C iX8_force_X8 qX8_force_F16 dX8_force_24 ?_
      refine g_iload_n (pc := 27) C 1 dX8_force_27 rfl rfl ?_
      obtain ⟨k28, h⟩ := hv_if_some h
      refine gm_ld_3 (pc := 28) C k28 dX8_force_28 ?_
      refine g_iload_n (pc := 29) C 2 dX8_force_29 rfl rfl ?_
      obtain ⟨r30, s30, hc30, h⟩ := hv_b2_some h
      refine g_callS (pc := 30) (σ1 := s30) (v := (some (.int (r30)))) (As := [.int (s17.1 3 (p0).toNatClampNeg), .int (p1)]) (rest := [.ref (a 0)]) C (vX8_isOn hc30) (va_cwS 2 C.1.2.2.2.2 gX8_force_X8_isOn rfl rfl rfl (by decide +kernel) ⟨Nat.le_of_ble_eq_true rfl, Nat.le_of_ble_eq_true rfl⟩) rfl rfl (Nat.le_of_ble_eq_true rfl) dX8_force_30 ⟨Nat.zero_le _, Nat.zero_le _⟩ ?_
      refine g_st (st' := [.int (r30), .ref (a 0)]) rfl ?_
      refine g_if_eq (pc := 33) (tgt := 51) C dX8_force_33 (by decide) (fun c33 => ?_) (fun c33 => ?_)
      · rw [if_pos c33] at h
        exact g_lv [0, 1, 2, 3] rfl (bX8_force_51 C hr s30 (p0) (p1) (p2) h)
      · rw [if_neg c33] at h
        refine g_aload_n (pc := 36) C 0 dX8_force_36 rfl rfl ?_
        refine g_aload_n (pc := 37) C 0 dX8_force_37 rfl rfl ?_
        refine gm_get_0_11 (pc := 38) C iX8_force_X8 qX8_force_F107 dX8_force_38 ?_
        obtain ⟨r41, s41, hc41, h⟩ := hv_b2_some h
        refine g_callV (pc := 41) (σ1 := s41) (v := (some (.int (r41)))) (As := [.int (s30.1 0 11)]) (rest := [.ref (a 0)]) C 0 (vX8_bears hc41) (cwV 1 C.1.2.2.2.2 gX8_force_X8_bears rfl rfl rfl (by decide +kernel) ⟨Nat.le_of_ble_eq_true rfl, Nat.le_of_ble_eq_true rfl⟩) (Nat.le_of_ble_eq_true rfl) rfl rfl rfl rfl (Nat.le_of_ble_eq_true rfl) dX8_force_41 ⟨Nat.zero_le _, Nat.zero_le _⟩ ?_
        refine g_st (st' := [.int (r41), .ref (a 0)]) rfl ?_
        refine g_if_eq (pc := 44) (tgt := 51) C dX8_force_44 (by decide) (fun c44 => ?_) (fun c44 => ?_)
        · rw [if_pos c44] at h
          exact g_lv [0, 1, 2, 3] rfl (bX8_force_51 C hr s41 (p0) (p1) (p2) h)
        · rw [if_neg c44] at h
          refine g_iconst (pc := 47) C (v := (0 : Int32)) dX8_force_47 (by decide) ?_
          refine g_goto (pc := 48) C (tgt := 52) dX8_force_48 (by decide) ?_
          exact g_lv [0, 1, 2, 3] rfl (bX8_force_52 C hr s41 (p0) (p1) (p2) ((0 : Int32)) h)
abbrev rmX8_influence : Room := { frames := 7, cells := 0, slots := 0, locals := 169 }
set_option maxRecDepth 20000 in
theorem qX8_influence_F107 : Cond.fieldLink RX8 107 "PinFrameModel" "on" "I" ∈ wsX8_influence := by decide +kernel
set_option maxRecDepth 20000 in
theorem qX8_influence_F189 : Cond.fieldLink RX8 189 "PinFrameModel" "under" "J" ∈ wsX8_influence := by decide +kernel
set_option maxRecDepth 20000 in
theorem qX8_influence_F53 : Cond.fieldLink RX8 53 "PinFrameModel" "over" "[J" ∈ wsX8_influence := by decide +kernel
set_option maxRecDepth 20000 in
theorem qX8_influence_F56 : Cond.fieldLink RX8 56 "PinFrameModel" "taken" "[I" ∈ wsX8_influence := by decide +kernel
set_option maxRecDepth 20000 in
theorem qX8_influence_F77 : Cond.fieldLink RX8 77 "PinFrameModel" "raised" "I" ∈ wsX8_influence := by decide +kernel
set_option maxRecDepth 20000 in
theorem iX8_influence_X8 : ∀ w ∈ u_ws RX8 TX8 35, w ∈ wsX8_influence := by decide +kernel
set_option maxHeartbeats 4000000 in
set_option maxRecDepth 20000 in
theorem bX8_influence_86 (C : hv_C p s m args meth c cX8_influence 6 wsX8_influence RX8 D (hv_tys cy)) (hr : meth.sig.returnType = (some .long)) {n : Nat} {o : Int64 × hv_St} : ∀ (σ : hv_St) (x1 : Int32) (x4 : Int32) (z0 : Int32), kX8_influence_86 n σ x1 x4 z0 = some o → hv_G p l e (headSpec wsX8_influence rmX8_influence).room s m args below meth c 6 D 23 a (hv_ME a cy) 0 0 (hv_MQ D 23 a (hv_ME a cy) below args s (some (.long o.1)) o.2) σ 86 [(0, .ref (a 0)), (1, .int (x1)), (4, .int (x4))] [.int (z0), .ref (a 0)] := by
  intro σ x1 x4 z0 h
  unfold kX8_influence_86 at h
  obtain ⟨s86, es86, h⟩ := hv_let_some h
  refine gm_put_0_0 (pc := 86) C es86 iX8_influence_X8 qX8_influence_F77 dX8_influence_86 ?_
  refine g_aload_n (pc := 89) C 0 dX8_influence_89 rfl rfl ?_
  refine gm_get_0_0 (pc := 90) C iX8_influence_X8 qX8_influence_F77 dX8_influence_90 ?_
  refine g_if_le (pc := 93) (tgt := 100) C dX8_influence_93 (by decide) (fun c93 => ?_) (fun c93 => ?_)
  · rw [if_pos c93] at h
    refine g_aload_n (pc := 100) C 0 dX8_influence_100 rfl rfl ?_
    refine gm_get_0_23 (pc := 101) C iX8_influence_X8 qX8_influence_F53 dX8_influence_101 ?_
    refine g_iload_n (pc := 104) C 1 dX8_influence_104 rfl rfl ?_
    obtain ⟨k105, h⟩ := hv_if_some h
    refine gm_ld_15 (pc := 105) C k105 dX8_influence_105 ?_
    refine g_aload_n (pc := 106) C 0 dX8_influence_106 rfl rfl ?_
    refine gm_get_0_24 (pc := 107) C iX8_influence_X8 qX8_influence_F189 dX8_influence_107 ?_
    refine g_iload (pc := 110) C 2 dX8_influence_110 rfl ?_
    obtain ⟨r112, s112, hc112, h⟩ := hv_b2_some h
    refine g_callS (pc := 112) (σ1 := s112) (v := (some (.long (r112)))) (As := [.long (s86.2 15 (x1).toNatClampNeg), .long (s86.2 0 24), .int (x4)]) (rest := []) C (vX8_told hc112) (va_cwS 3 C.1.2.2.2.2 gX8_influence_X8_told rfl rfl rfl (by decide +kernel) ⟨Nat.le_of_ble_eq_true rfl, Nat.le_of_ble_eq_true rfl⟩) rfl rfl (Nat.le_of_ble_eq_true rfl) dX8_influence_112 ⟨Nat.zero_le _, Nat.zero_le _⟩ ?_
    refine g_st (st' := [.long (r112)]) rfl ?_
    cases h
    exact g_lret (pc := 115) C hr dX8_influence_115
  · rw [if_neg c93] at h
    refine g_lconst (pc := 96) C (v := (0 : Int64)) dX8_influence_96 (by decide) ?_
    refine g_goto (pc := 97) C (tgt := 115) dX8_influence_97 (by decide) ?_
    cases h
    exact g_lret (pc := 115) C hr dX8_influence_115
set_option maxHeartbeats 4000000 in
set_option maxRecDepth 20000 in
theorem bX8_influence_85 (C : hv_C p s m args meth c cX8_influence 6 wsX8_influence RX8 D (hv_tys cy)) (hr : meth.sig.returnType = (some .long)) {n : Nat} {o : Int64 × hv_St} : ∀ (σ : hv_St) (x1 : Int32) (x4 : Int32), kX8_influence_85 n σ x1 x4 = some o → hv_G p l e (headSpec wsX8_influence rmX8_influence).room s m args below meth c 6 D 23 a (hv_ME a cy) 0 0 (hv_MQ D 23 a (hv_ME a cy) below args s (some (.long o.1)) o.2) σ 85 [(0, .ref (a 0)), (1, .int (x1)), (4, .int (x4))] [.ref (a 0)] := by
  intro σ x1 x4 h
  unfold kX8_influence_85 at h
  refine g_iconst (pc := 85) C (v := (1 : Int32)) dX8_influence_85 (by decide) ?_
  exact g_lv [0, 1, 2] rfl (bX8_influence_86 C hr σ (x1) (x4) ((1 : Int32)) h)
set_option maxHeartbeats 4000000 in
set_option maxRecDepth 20000 in
theorem bX8_influence_64 (C : hv_C p s m args meth c cX8_influence 6 wsX8_influence RX8 D (hv_tys cy)) (hr : meth.sig.returnType = (some .long)) {n : Nat} {o : Int64 × hv_St} : ∀ (σ : hv_St) (x1 : Int32) (x4 : Int32) (x5 : Int32), kX8_influence_64 n σ x1 x4 x5 = some o → hv_G p l e (headSpec wsX8_influence rmX8_influence).room s m args below meth c 6 D 23 a (hv_ME a cy) 0 0 (hv_MQ D 23 a (hv_ME a cy) below args s (some (.long o.1)) o.2) σ 64 [(0, .ref (a 0)), (1, .int (x1)), (4, .int (x4)), (5, .int (x5))] [] := by
  intro σ x1 x4 x5 h
  unfold kX8_influence_64 at h
  refine g_aload_n (pc := 64) C 0 dX8_influence_64 rfl rfl ?_
  refine g_iload (pc := 65) C 3 dX8_influence_65 rfl ?_
  refine g_if_eq (pc := 67) (tgt := 85) C dX8_influence_67 (by decide) (fun c67 => ?_) (fun c67 => ?_)
  · rw [if_pos c67] at h
    exact g_lv [0, 1, 2] rfl (bX8_influence_85 C hr σ (x1) (x4) h)
  · rw [if_neg c67] at h
    refine g_aload_n (pc := 70) C 0 dX8_influence_70 rfl rfl ?_
    refine g_aload_n (pc := 71) C 0 dX8_influence_71 rfl rfl ?_
    refine gm_get_0_11 (pc := 72) C iX8_influence_X8 qX8_influence_F107 dX8_influence_72 ?_
    obtain ⟨r75, s75, hc75, h⟩ := hv_b2_some h
    refine g_callV (pc := 75) (σ1 := s75) (v := (some (.int (r75)))) (As := [.int (σ.1 0 11)]) (rest := [.ref (a 0)]) C 0 (vX8_bears hc75) (cwV 1 C.1.2.2.2.2 gX8_influence_X8_bears rfl rfl rfl (by decide +kernel) ⟨Nat.le_of_ble_eq_true rfl, Nat.le_of_ble_eq_true rfl⟩) (Nat.le_of_ble_eq_true rfl) rfl rfl rfl rfl (Nat.le_of_ble_eq_true rfl) dX8_influence_75 ⟨Nat.zero_le _, Nat.zero_le _⟩ ?_
    refine g_st (st' := [.int (r75), .ref (a 0)]) rfl ?_
    refine g_if_eq (pc := 78) (tgt := 85) C dX8_influence_78 (by decide) (fun c78 => ?_) (fun c78 => ?_)
    · rw [if_pos c78] at h
      exact g_lv [0, 1, 2] rfl (bX8_influence_85 C hr s75 (x1) (x4) h)
    · rw [if_neg c78] at h
      refine g_iconst (pc := 81) C (v := (0 : Int32)) dX8_influence_81 (by decide) ?_
      refine g_goto (pc := 82) C (tgt := 86) dX8_influence_82 (by decide) ?_
      exact g_lv [0, 1, 2] rfl (bX8_influence_86 C hr s75 (x1) (x4) ((0 : Int32)) h)
set_option maxHeartbeats 4000000 in
set_option maxRecDepth 20000 in
theorem bX8_influence_46 (C : hv_C p s m args meth c cX8_influence 6 wsX8_influence RX8 D (hv_tys cy)) (hr : meth.sig.returnType = (some .long)) {n : Nat} {o : Int64 × hv_St} : ∀ (σ : hv_St) (x1 : Int32) (x2 : Int32) (x3 : Int32) (x4 : Int32) (z0 : Int32), kX8_influence_46 n σ x1 x2 x3 x4 z0 = some o → hv_G p l e (headSpec wsX8_influence rmX8_influence).room s m args below meth c 6 D 23 a (hv_ME a cy) 0 0 (hv_MQ D 23 a (hv_ME a cy) below args s (some (.long o.1)) o.2) σ 46 [(0, .ref (a 0)), (1, .int (x1)), (2, .int (x2)), (3, .int (x3)), (4, .int (x4))] [.int (z0)] := by
  intro σ x1 x2 x3 x4 z0 h
  unfold kX8_influence_46 at h
  refine g_istore (pc := 46) C (lv' := [(5, .int (z0)), (0, .ref (a 0)), (1, .int (x1)), (2, .int (x2)), (3, .int (x3)), (4, .int (x4))]) rfl dX8_influence_46 (Nat.le_of_ble_eq_true rfl) rfl ?_
  refine g_iload (pc := 48) C 0 dX8_influence_48 rfl ?_
  refine g_if_eq (pc := 50) (tgt := 64) C dX8_influence_50 (by decide) (fun c50 => ?_) (fun c50 => ?_)
  · rw [if_pos c50] at h
    exact g_lv [1, 2, 5, 0] rfl (bX8_influence_64 C hr σ (x1) (x4) (z0) h)
  · rw [if_neg c50] at h
    refine g_aload_n (pc := 53) C 1 dX8_influence_53 rfl rfl ?_
    refine gm_get_0_25 (pc := 54) C iX8_influence_X8 qX8_influence_F56 dX8_influence_54 ?_
    refine g_iconst (pc := 57) C (v := (2 : Int32)) dX8_influence_57 (by decide) ?_
    refine g_iload_n (pc := 58) C 3 dX8_influence_58 rfl rfl ?_
    refine g_imul (pc := 59) C dX8_influence_59 ?_
    refine g_iload_n (pc := 60) C 4 dX8_influence_60 rfl rfl ?_
    refine g_iadd (pc := 61) C dX8_influence_61 ?_
    refine g_iconst (pc := 62) C (v := (1 : Int32)) dX8_influence_62 (by decide) ?_
    obtain ⟨k63, h⟩ := hv_if_some h
    obtain ⟨s63, es63, h⟩ := hv_let_some h
    refine gm_st_16 (pc := 63) C es63 k63 dX8_influence_63 ?_
    exact g_lv [1, 2, 5, 0] rfl (bX8_influence_64 C hr s63 (x1) (x4) (z0) h)
set_option maxHeartbeats 4000000 in
set_option maxRecDepth 20000 in
theorem bX8_influence_45 (C : hv_C p s m args meth c cX8_influence 6 wsX8_influence RX8 D (hv_tys cy)) (hr : meth.sig.returnType = (some .long)) {n : Nat} {o : Int64 × hv_St} : ∀ (σ : hv_St) (x1 : Int32) (x2 : Int32) (x3 : Int32) (x4 : Int32), kX8_influence_45 n σ x1 x2 x3 x4 = some o → hv_G p l e (headSpec wsX8_influence rmX8_influence).room s m args below meth c 6 D 23 a (hv_ME a cy) 0 0 (hv_MQ D 23 a (hv_ME a cy) below args s (some (.long o.1)) o.2) σ 45 [(0, .ref (a 0)), (1, .int (x1)), (2, .int (x2)), (3, .int (x3)), (4, .int (x4))] [] := by
  intro σ x1 x2 x3 x4 h
  unfold kX8_influence_45 at h
  refine g_iconst (pc := 45) C (v := (0 : Int32)) dX8_influence_45 (by decide) ?_
  exact g_lv [0, 1, 2, 3, 4] rfl (bX8_influence_46 C hr σ (x1) (x2) (x3) (x4) ((0 : Int32)) h)
set_option maxHeartbeats 4000000 in
set_option maxRecDepth 20000 in
theorem vX8_influence {n : Nat} {σ : hv_St} {p0 : Int32} {p1 : Int32} {p2 : Int32} {p3 : Int32} {o : Int64 × hv_St} (h : mX8_influence n σ p0 p1 p2 p3 = some o) : hv_M l yX8_influence wsX8_influence rmX8_influence D (hv_tys cy) 23 a (hv_ME a cy) [.ref (a 0), .int (p0), .int (p1), .int (p2), .int (p3)] σ (some (.long o.1)) o.2 := by
  refine hv_enter (own := RX8) (cc := cX8_influence) (maxL := 6) (ret := (some .long)) (by decide) rfl rfl (Nat.le_of_ble_eq_true rfl) ?_
  intro p e s m args below meth c C hr
  unfold mX8_influence at h
  refine g_lv [0, 1, 2, 3, 4] (lv' := [(0, .ref (a 0)), (1, .int (p0)), (2, .int (p1)), (3, .int (p2)), (4, .int (p3))]) rfl ?_
  refine g_aload_n (pc := 0) C 0 dX8_influence_0 rfl rfl ?_
  obtain ⟨s1, hc1, h⟩ := hv_bd_some h
  refine g_callV (pc := 1) (σ1 := s1) (v := none) (As := []) (rest := []) C 0 (vX8_takesNone hc1) (cwV 0 C.1.2.2.2.2 gX8_influence_X8_takesNone rfl rfl rfl (by decide +kernel) ⟨Nat.le_of_ble_eq_true rfl, Nat.le_of_ble_eq_true rfl⟩) (Nat.le_of_ble_eq_true rfl) rfl rfl rfl rfl (Nat.le_of_ble_eq_true rfl) dX8_influence_1 ⟨Nat.zero_le _, Nat.zero_le _⟩ ?_
  refine g_st (st' := []) rfl ?_
  refine g_aload_n (pc := 4) C 0 dX8_influence_4 rfl rfl ?_
  refine g_iload_n (pc := 5) C 1 dX8_influence_5 rfl rfl ?_
  obtain ⟨r6, s6, hc6, h⟩ := hv_b2_some h
  refine g_callV (pc := 6) (σ1 := s6) (v := (some (.int (r6)))) (As := [.int (p0)]) (rest := []) C 0 (vX8_isBar hc6) (cwV 1 C.1.2.2.2.2 gX8_influence_X8_isBar rfl rfl rfl (by decide +kernel) ⟨Nat.le_of_ble_eq_true rfl, Nat.le_of_ble_eq_true rfl⟩) (Nat.le_of_ble_eq_true rfl) rfl rfl rfl rfl (Nat.le_of_ble_eq_true rfl) dX8_influence_6 ⟨Nat.zero_le _, Nat.zero_le _⟩ ?_
  refine g_st (st' := [.int (r6)]) rfl ?_
  refine g_if_eq (pc := 9) (tgt := 45) C dX8_influence_9 (by decide) (fun c9 => ?_) (fun c9 => ?_)
  · rw [if_pos c9] at h
    exact g_lv [0, 1, 2, 3, 4] rfl (bX8_influence_45 C hr s6 (p0) (p1) (p2) (p3) h)
  · rw [if_neg c9] at h
    refine g_aload_n (pc := 12) C 0 dX8_influence_12 rfl rfl ?_
    refine gm_get_0_11 (pc := 13) C iX8_influence_X8 qX8_influence_F107 dX8_influence_13 ?_
    refine g_iload_n (pc := 16) C 1 dX8_influence_16 rfl rfl ?_
    obtain ⟨r17, s17, hc17, h⟩ := hv_b2_some h
    refine g_callS (pc := 17) (σ1 := s17) (v := (some (.int (r17)))) (As := [.int (s6.1 0 11), .int (p0)]) (rest := []) C (vX8_isOn hc17) (va_cwS 2 C.1.2.2.2.2 gX8_influence_X8_isOn rfl rfl rfl (by decide +kernel) ⟨Nat.le_of_ble_eq_true rfl, Nat.le_of_ble_eq_true rfl⟩) rfl rfl (Nat.le_of_ble_eq_true rfl) dX8_influence_17 ⟨Nat.zero_le _, Nat.zero_le _⟩ ?_
    refine g_st (st' := [.int (r17)]) rfl ?_
    refine g_if_eq (pc := 20) (tgt := 45) C dX8_influence_20 (by decide) (fun c20 => ?_) (fun c20 => ?_)
    · rw [if_pos c20] at h
      exact g_lv [0, 1, 2, 3, 4] rfl (bX8_influence_45 C hr s17 (p0) (p1) (p2) (p3) h)
    · rw [if_neg c20] at h
      refine g_aload_n (pc := 23) C 0 dX8_influence_23 rfl rfl ?_
      refine g_iload_n (pc := 24) C 2 dX8_influence_24 rfl rfl ?_
      obtain ⟨r25, s25, hc25, h⟩ := hv_b2_some h
      refine g_callV (pc := 25) (σ1 := s25) (v := (some (.int (r25)))) (As := [.int (p1)]) (rest := []) C 0 (vX8_isPin hc25) (cwV 1 C.1.2.2.2.2 gX8_influence_X8_isPin rfl rfl rfl (by decide +kernel) ⟨Nat.le_of_ble_eq_true rfl, Nat.le_of_ble_eq_true rfl⟩) (Nat.le_of_ble_eq_true rfl) rfl rfl rfl rfl (Nat.le_of_ble_eq_true rfl) dX8_influence_25 ⟨Nat.zero_le _, Nat.zero_le _⟩ ?_
      refine g_st (st' := [.int (r25)]) rfl ?_
      refine g_if_eq (pc := 28) (tgt := 45) C dX8_influence_28 (by decide) (fun c28 => ?_) (fun c28 => ?_)
      · rw [if_pos c28] at h
        exact g_lv [0, 1, 2, 3, 4] rfl (bX8_influence_45 C hr s25 (p0) (p1) (p2) (p3) h)
      · rw [if_neg c28] at h
        refine g_iload_n (pc := 31) C 3 dX8_influence_31 rfl rfl ?_
        refine g_i2l (pc := 32) C dX8_influence_32 ?_
        refine g_lconst (pc := 33) C (v := (0 : Int64)) dX8_influence_33 (by decide) ?_
        refine g_lconst (pc := 34) C (v := (1 : Int64)) dX8_influence_34 (by decide) ?_
        obtain ⟨r35, s35, hc35, h⟩ := hv_b2_some h
        refine g_callS (pc := 35) (σ1 := s35) (v := (some (.int (r35)))) (As := [.long ((p2).toInt64), .long ((0 : Int64)), .long ((1 : Int64))]) (rest := []) C (vX8_in hc35) (va_cwS 3 C.1.2.2.2.2 gX8_influence_X8_in rfl rfl rfl (by decide +kernel) ⟨Nat.le_of_ble_eq_true rfl, Nat.le_of_ble_eq_true rfl⟩) rfl rfl (Nat.le_of_ble_eq_true rfl) dX8_influence_35 ⟨Nat.zero_le _, Nat.zero_le _⟩ ?_
        refine g_st (st' := [.int (r35)]) rfl ?_
        refine g_if_eq (pc := 38) (tgt := 45) C dX8_influence_38 (by decide) (fun c38 => ?_) (fun c38 => ?_)
        · rw [if_pos c38] at h
          exact g_lv [0, 1, 2, 3, 4] rfl (bX8_influence_45 C hr s35 (p0) (p1) (p2) (p3) h)
        · rw [if_neg c38] at h
          refine g_iconst (pc := 41) C (v := (1 : Int32)) dX8_influence_41 (by decide) ?_
          refine g_goto (pc := 42) C (tgt := 46) dX8_influence_42 (by decide) ?_
          exact g_lv [0, 1, 2, 3, 4] rfl (bX8_influence_46 C hr s35 (p0) (p1) (p2) (p3) ((1 : Int32)) h)
abbrev rmX8_endIn : Room := { frames := 1, cells := 0, slots := 0, locals := 21 }
set_option maxRecDepth 20000 in
theorem qX8_endIn_F22 : Cond.fieldLink RX8 22 "PinFrameModel" "one" "[I" ∈ wsX8_endIn := by decide +kernel
set_option maxRecDepth 20000 in
theorem qX8_endIn_F25 : Cond.fieldLink RX8 25 "PinFrameModel" "other" "[I" ∈ wsX8_endIn := by decide +kernel
set_option maxRecDepth 20000 in
theorem iX8_endIn_X8 : ∀ w ∈ u_ws RX8 TX8 35, w ∈ wsX8_endIn := by decide +kernel
set_option maxHeartbeats 4000000 in
set_option maxRecDepth 20000 in
theorem vX8_endIn {n : Nat} {σ : hv_St} {p0 : Int32} {p1 : Int32} {o : Int32 × hv_St} (h : mX8_endIn n σ p0 p1 = some o) : hv_M l yX8_endIn wsX8_endIn rmX8_endIn D (hv_tys cy) 23 a (hv_ME a cy) [.ref (a 0), .int (p0), .int (p1)] σ (some (.int o.1)) o.2 := by
  refine hv_enter (own := RX8) (cc := cX8_endIn) (maxL := 5) (ret := (some .int)) (by decide) rfl rfl (Nat.le_of_ble_eq_true rfl) ?_
  intro p e s m args below meth c C hr
  unfold mX8_endIn at h
  refine g_lv [0, 1, 2] (lv' := [(0, .ref (a 0)), (1, .int (p0)), (2, .int (p1))]) rfl ?_
  refine g_iload_n (pc := 0) C 2 dX8_endIn_0 rfl rfl ?_
  refine g_aload_n (pc := 1) C 0 dX8_endIn_1 rfl rfl ?_
  refine gm_get_0_7 (pc := 2) C iX8_endIn_X8 qX8_endIn_F22 dX8_endIn_2 ?_
  refine g_iload_n (pc := 5) C 1 dX8_endIn_5 rfl rfl ?_
  obtain ⟨k6, h⟩ := hv_if_some h
  refine gm_ld_5 (pc := 6) C k6 dX8_endIn_6 ?_
  obtain ⟨r7, s7, hc7, h⟩ := hv_b2_some h
  refine g_callS (pc := 7) (σ1 := s7) (v := (some (.int (r7)))) (As := [.int (p1), .int (σ.1 5 (p0).toNatClampNeg)]) (rest := []) C (vX8_isOn hc7) (va_cwS 2 C.1.2.2.2.2 gX8_endIn_X8_isOn rfl rfl rfl (by decide +kernel) ⟨Nat.le_of_ble_eq_true rfl, Nat.le_of_ble_eq_true rfl⟩) rfl rfl (Nat.le_of_ble_eq_true rfl) dX8_endIn_7 ⟨Nat.zero_le _, Nat.zero_le _⟩ ?_
  refine g_st (st' := [.int (r7)]) rfl ?_
  refine g_istore_n (pc := 10) C (lv' := [(3, .int (r7)), (0, .ref (a 0)), (1, .int (p0)), (2, .int (p1))]) rfl dX8_endIn_10 rfl (Nat.le_of_ble_eq_true rfl) rfl ?_
  refine g_iload_n (pc := 11) C 3 dX8_endIn_11 rfl rfl ?_
  refine g_aload_n (pc := 12) C 1 dX8_endIn_12 rfl rfl ?_
  refine gm_get_0_8 (pc := 13) C iX8_endIn_X8 qX8_endIn_F25 dX8_endIn_13 ?_
  refine g_iload_n (pc := 16) C 2 dX8_endIn_16 rfl rfl ?_
  obtain ⟨k17, h⟩ := hv_if_some h
  refine gm_ld_6 (pc := 17) C k17 dX8_endIn_17 ?_
  obtain ⟨r18, s18, hc18, h⟩ := hv_b2_some h
  refine g_callS (pc := 18) (σ1 := s18) (v := (some (.int (r18)))) (As := [.int (p1), .int (s7.1 6 (p0).toNatClampNeg)]) (rest := []) C (vX8_isOn hc18) (va_cwS 2 C.1.2.2.2.2 gX8_endIn_X8_isOn rfl rfl rfl (by decide +kernel) ⟨Nat.le_of_ble_eq_true rfl, Nat.le_of_ble_eq_true rfl⟩) rfl rfl (Nat.le_of_ble_eq_true rfl) dX8_endIn_18 ⟨Nat.zero_le _, Nat.zero_le _⟩ ?_
  refine g_st (st' := [.int (r18)]) rfl ?_
  refine g_istore (pc := 21) C (lv' := [(4, .int (r18)), (3, .int (r7)), (0, .ref (a 0)), (1, .int (p0)), (2, .int (p1))]) rfl dX8_endIn_21 (Nat.le_of_ble_eq_true rfl) rfl ?_
  refine g_iload_n (pc := 23) C 1 dX8_endIn_23 rfl rfl ?_
  refine g_iload (pc := 24) C 0 dX8_endIn_24 rfl ?_
  refine g_icmp_ne (pc := 26) (tgt := 33) C dX8_endIn_26 (by decide) (fun c26 => ?_) (fun c26 => ?_)
  · rw [if_neg c26] at h
    refine g_iload_n (pc := 33) C 1 dX8_endIn_33 rfl rfl ?_
    refine g_if_eq (pc := 34) (tgt := 46) C dX8_endIn_34 (by decide) (fun c34 => ?_) (fun c34 => ?_)
    · rw [if_pos c34] at h
      refine g_aload_n (pc := 46) C 2 dX8_endIn_46 rfl rfl ?_
      refine gm_get_0_8 (pc := 47) C iX8_endIn_X8 qX8_endIn_F25 dX8_endIn_47 ?_
      refine g_iload_n (pc := 50) C 3 dX8_endIn_50 rfl rfl ?_
      obtain ⟨k51, h⟩ := hv_if_some h
      refine gm_ld_6 (pc := 51) C k51 dX8_endIn_51 ?_
      cases h
      exact g_iret (pc := 52) C hr dX8_endIn_52
    · rw [if_neg c34] at h
      refine g_aload_n (pc := 37) C 2 dX8_endIn_37 rfl rfl ?_
      refine gm_get_0_7 (pc := 38) C iX8_endIn_X8 qX8_endIn_F22 dX8_endIn_38 ?_
      refine g_iload_n (pc := 41) C 3 dX8_endIn_41 rfl rfl ?_
      obtain ⟨k42, h⟩ := hv_if_some h
      refine gm_ld_5 (pc := 42) C k42 dX8_endIn_42 ?_
      refine g_goto (pc := 43) C (tgt := 52) dX8_endIn_43 (by decide) ?_
      cases h
      exact g_iret (pc := 52) C hr dX8_endIn_52
  · rw [if_pos c26] at h
    refine g_iconst (pc := 29) C (v := (-1 : Int32)) dX8_endIn_29 (by decide) ?_
    refine g_goto (pc := 30) C (tgt := 52) dX8_endIn_30 (by decide) ?_
    cases h
    exact g_iret (pc := 52) C hr dX8_endIn_52
abbrev rmX8_cuts : Room := { frames := 2, cells := 0, slots := 0, locals := 45 }
set_option maxRecDepth 20000 in
theorem qX8_cuts_F107 : Cond.fieldLink RX8 107 "PinFrameModel" "on" "I" ∈ wsX8_cuts := by decide +kernel
set_option maxRecDepth 20000 in
theorem qX8_cuts_F16 : Cond.fieldLink RX8 16 "PinFrameModel" "held" "[I" ∈ wsX8_cuts := by decide +kernel
set_option maxRecDepth 20000 in
theorem qX8_cuts_F68 : Cond.fieldLink RX8 68 "PinFrameModel" "three" "[I" ∈ wsX8_cuts := by decide +kernel
set_option maxRecDepth 20000 in
theorem qX8_cuts_F81 : Cond.fieldLink RX8 81 "PinFrameModel" "pins" "I" ∈ wsX8_cuts := by decide +kernel
set_option maxRecDepth 20000 in
theorem qX8_cuts_F88 : Cond.fieldLink RX8 88 "PinFrameModel" "bars" "I" ∈ wsX8_cuts := by decide +kernel
set_option maxRecDepth 20000 in
theorem iX8_cuts_X8 : ∀ w ∈ u_ws RX8 TX8 35, w ∈ wsX8_cuts := by decide +kernel
set_option maxHeartbeats 4000000 in
set_option maxRecDepth 20000 in
theorem bX8_cuts_105 (C : hv_C p s m args meth c cX8_cuts 4 wsX8_cuts RX8 D (hv_tys cy)) (hr : meth.sig.returnType = (some .boolean)) {n : Nat} {o : Int32 × hv_St} {r78 : hv_St → Int32 → Int32 → Int32 → Option (Int32 × hv_St)} (hr78 : ∀ (σ : hv_St) (x1 : Int32) (x2 : Int32) (x3 : Int32), r78 σ x1 x2 x3 = some o → hv_G p l e (headSpec wsX8_cuts rmX8_cuts).room s m args below meth c 4 D 23 a (hv_ME a cy) 0 0 (hv_MQ D 23 a (hv_ME a cy) below args s (some (.int o.1)) o.2) σ 78 [(0, .ref (a 0)), (1, .int (x1)), (2, .int (x2)), (3, .int (x3))] []) : ∀ (σ : hv_St) (x1 : Int32) (x2 : Int32) (x3 : Int32), kX8_cuts_105 n r78 σ x1 x2 x3 = some o → hv_G p l e (headSpec wsX8_cuts rmX8_cuts).room s m args below meth c 4 D 23 a (hv_ME a cy) 0 0 (hv_MQ D 23 a (hv_ME a cy) below args s (some (.int o.1)) o.2) σ 105 [(0, .ref (a 0)), (1, .int (x1)), (2, .int (x2)), (3, .int (x3))] [] := by
  intro σ x1 x2 x3 h
  unfold kX8_cuts_105 at h
  refine g_iinc (pc := 105) C 3 (v := x3 + 1) (lv' := [(3, .int (x3 + 1)), (0, .ref (a 0)), (1, .int (x1)), (2, .int (x2))]) dX8_cuts_105 rfl rfl (Nat.le_of_ble_eq_true rfl) rfl ?_
  refine g_goto (pc := 108) C (tgt := 78) dX8_cuts_108 (by decide) ?_
  exact g_lv [1, 2, 3, 0] rfl (hr78 σ (x1) (x2) (x3 + 1) h)
set_option maxHeartbeats 4000000 in
set_option maxRecDepth 20000 in
theorem bX8_cuts_78 (C : hv_C p s m args meth c cX8_cuts 4 wsX8_cuts RX8 D (hv_tys cy)) (hr : meth.sig.returnType = (some .boolean)) {n : Nat} {o : Int32 × hv_St} : ∀ (i : Nat) (σ : hv_St) (x1 : Int32) (x2 : Int32) (x3 : Int32), kX8_cuts_78 n i σ x1 x2 x3 = some o → hv_G p l e (headSpec wsX8_cuts rmX8_cuts).room s m args below meth c 4 D 23 a (hv_ME a cy) 0 0 (hv_MQ D 23 a (hv_ME a cy) below args s (some (.int o.1)) o.2) σ 78 [(0, .ref (a 0)), (1, .int (x1)), (2, .int (x2)), (3, .int (x3))] [] := by
  intro i
  induction i with
  | zero =>
    intro σ x1 x2 x3 h
    cases h
  | succ i ih =>
    intro σ x1 x2 x3 h
    generalize hg : kX8_cuts_78 n i = r78 at ih
    have hr78 := ih
    replace h : kX8_cuts_78_b n r78 σ x1 x2 x3 = some o := by rw [← hg]; exact h
    unfold kX8_cuts_78_b at h
    refine g_iload_n (pc := 78) C 3 dX8_cuts_78 rfl rfl ?_
    refine g_aload_n (pc := 79) C 0 dX8_cuts_79 rfl rfl ?_
    refine gm_get_0_1 (pc := 80) C iX8_cuts_X8 qX8_cuts_F81 dX8_cuts_80 ?_
    refine g_icmp_ge (pc := 83) (tgt := 111) C dX8_cuts_83 (by decide) (fun c83 => ?_) (fun c83 => ?_)
    · rw [if_pos c83] at h
      refine g_iload_n (pc := 111) C 2 dX8_cuts_111 rfl rfl ?_
      refine g_iconst (pc := 112) C (v := (3 : Int32)) dX8_cuts_112 (by decide) ?_
      refine g_icmp_ne (pc := 113) (tgt := 120) C dX8_cuts_113 (by decide) (fun c113 => ?_) (fun c113 => ?_)
      · rw [if_neg c113] at h
        refine g_iconst (pc := 120) C (v := (0 : Int32)) dX8_cuts_120 (by decide) ?_
        cases h
        exact g_zret (pc := 121) (x := (0 : Int32)) C hr (by decide) dX8_cuts_121
      · rw [if_pos c113] at h
        refine g_iconst (pc := 116) C (v := (1 : Int32)) dX8_cuts_116 (by decide) ?_
        refine g_goto (pc := 117) C (tgt := 121) dX8_cuts_117 (by decide) ?_
        cases h
        exact g_zret (pc := 121) (x := (1 : Int32)) C hr (by decide) dX8_cuts_121
    · rw [if_neg c83] at h
      refine g_iload_n (pc := 86) C 1 dX8_cuts_86 rfl rfl ?_
      refine g_iload_n (pc := 87) C 3 dX8_cuts_87 rfl rfl ?_
      obtain ⟨r88, s88, hc88, h⟩ := hv_b2_some h
      refine g_callS (pc := 88) (σ1 := s88) (v := (some (.int (r88)))) (As := [.int (x1), .int (x3)]) (rest := []) C (vX8_isOn hc88) (va_cwS 2 C.1.2.2.2.2 gX8_cuts_X8_isOn rfl rfl rfl (by decide +kernel) ⟨Nat.le_of_ble_eq_true rfl, Nat.le_of_ble_eq_true rfl⟩) rfl rfl (Nat.le_of_ble_eq_true rfl) dX8_cuts_88 ⟨Nat.zero_le _, Nat.zero_le _⟩ ?_
      refine g_st (st' := [.int (r88)]) rfl ?_
      refine g_if_eq (pc := 91) (tgt := 105) C dX8_cuts_91 (by decide) (fun c91 => ?_) (fun c91 => ?_)
      · rw [if_pos c91] at h
        exact g_lv [0, 1, 2, 3] rfl (bX8_cuts_105 C hr hr78 s88 (x1) (x2) (x3) h)
      · rw [if_neg c91] at h
        refine g_aload_n (pc := 94) C 0 dX8_cuts_94 rfl rfl ?_
        refine gm_get_0_4 (pc := 95) C iX8_cuts_X8 qX8_cuts_F16 dX8_cuts_95 ?_
        refine g_iload_n (pc := 98) C 3 dX8_cuts_98 rfl rfl ?_
        obtain ⟨k99, h⟩ := hv_if_some h
        refine gm_ld_3 (pc := 99) C k99 dX8_cuts_99 ?_
        refine g_if_eq (pc := 100) (tgt := 105) C dX8_cuts_100 (by decide) (fun c100 => ?_) (fun c100 => ?_)
        · rw [if_pos c100] at h
          exact g_lv [0, 1, 2, 3] rfl (bX8_cuts_105 C hr hr78 s88 (x1) (x2) (x3) h)
        · rw [if_neg c100] at h
          refine g_iconst (pc := 103) C (v := (0 : Int32)) dX8_cuts_103 (by decide) ?_
          cases h
          exact g_zret (pc := 104) (x := (0 : Int32)) C hr (by decide) dX8_cuts_104
set_option maxHeartbeats 4000000 in
set_option maxRecDepth 20000 in
theorem bX8_cuts_70 (C : hv_C p s m args meth c cX8_cuts 4 wsX8_cuts RX8 D (hv_tys cy)) (hr : meth.sig.returnType = (some .boolean)) {n : Nat} {o : Int32 × hv_St} {r24 : hv_St → Int32 → Int32 → Int32 → Option (Int32 × hv_St)} (hr24 : ∀ (σ : hv_St) (x1 : Int32) (x2 : Int32) (x3 : Int32), r24 σ x1 x2 x3 = some o → hv_G p l e (headSpec wsX8_cuts rmX8_cuts).room s m args below meth c 4 D 23 a (hv_ME a cy) 0 0 (hv_MQ D 23 a (hv_ME a cy) below args s (some (.int o.1)) o.2) σ 24 [(0, .ref (a 0)), (1, .int (x1)), (2, .int (x2)), (3, .int (x3))] []) : ∀ (σ : hv_St) (x1 : Int32) (x2 : Int32) (x3 : Int32), kX8_cuts_70 n r24 σ x1 x2 x3 = some o → hv_G p l e (headSpec wsX8_cuts rmX8_cuts).room s m args below meth c 4 D 23 a (hv_ME a cy) 0 0 (hv_MQ D 23 a (hv_ME a cy) below args s (some (.int o.1)) o.2) σ 70 [(0, .ref (a 0)), (1, .int (x1)), (2, .int (x2)), (3, .int (x3))] [] := by
  intro σ x1 x2 x3 h
  unfold kX8_cuts_70 at h
  refine g_iinc (pc := 70) C 3 (v := x3 + 1) (lv' := [(3, .int (x3 + 1)), (0, .ref (a 0)), (1, .int (x1)), (2, .int (x2))]) dX8_cuts_70 rfl rfl (Nat.le_of_ble_eq_true rfl) rfl ?_
  refine g_goto (pc := 73) C (tgt := 24) dX8_cuts_73 (by decide) ?_
  exact g_lv [1, 2, 3, 0] rfl (hr24 σ (x1) (x2) (x3 + 1) h)
set_option maxHeartbeats 4000000 in
set_option maxRecDepth 20000 in
theorem bX8_cuts_24 (C : hv_C p s m args meth c cX8_cuts 4 wsX8_cuts RX8 D (hv_tys cy)) (hr : meth.sig.returnType = (some .boolean)) {n : Nat} {o : Int32 × hv_St} : ∀ (i : Nat) (σ : hv_St) (x1 : Int32) (x2 : Int32) (x3 : Int32), kX8_cuts_24 n i σ x1 x2 x3 = some o → hv_G p l e (headSpec wsX8_cuts rmX8_cuts).room s m args below meth c 4 D 23 a (hv_ME a cy) 0 0 (hv_MQ D 23 a (hv_ME a cy) below args s (some (.int o.1)) o.2) σ 24 [(0, .ref (a 0)), (1, .int (x1)), (2, .int (x2)), (3, .int (x3))] [] := by
  intro i
  induction i with
  | zero =>
    intro σ x1 x2 x3 h
    cases h
  | succ i ih =>
    intro σ x1 x2 x3 h
    generalize hg : kX8_cuts_24 n i = r24 at ih
    have hr24 := ih
    replace h : kX8_cuts_24_b n r24 σ x1 x2 x3 = some o := by rw [← hg]; exact h
    unfold kX8_cuts_24_b at h
    refine g_iload_n (pc := 24) C 3 dX8_cuts_24 rfl rfl ?_
    refine g_aload_n (pc := 25) C 0 dX8_cuts_25 rfl rfl ?_
    refine gm_get_0_6 (pc := 26) C iX8_cuts_X8 qX8_cuts_F88 dX8_cuts_26 ?_
    refine g_icmp_ge (pc := 29) (tgt := 76) C dX8_cuts_29 (by decide) (fun c29 => ?_) (fun c29 => ?_)
    · rw [if_pos c29] at h
      refine g_iconst (pc := 76) C (v := (0 : Int32)) dX8_cuts_76 (by decide) ?_
      refine g_istore_n (pc := 77) C (lv' := [(3, .int ((0 : Int32))), (0, .ref (a 0)), (1, .int (x1)), (2, .int (x2))]) rfl dX8_cuts_77 rfl (Nat.le_of_ble_eq_true rfl) rfl ?_
      exact g_lv [1, 2, 3, 0] rfl (bX8_cuts_78 C hr n σ (x1) (x2) ((0 : Int32)) h)
    · rw [if_neg c29] at h
      refine g_aload_n (pc := 32) C 0 dX8_cuts_32 rfl rfl ?_
      refine gm_get_0_11 (pc := 33) C iX8_cuts_X8 qX8_cuts_F107 dX8_cuts_33 ?_
      refine g_iload_n (pc := 36) C 3 dX8_cuts_36 rfl rfl ?_
      obtain ⟨r37, s37, hc37, h⟩ := hv_b2_some h
      refine g_callS (pc := 37) (σ1 := s37) (v := (some (.int (r37)))) (As := [.int (σ.1 0 11), .int (x3)]) (rest := []) C (vX8_isOn hc37) (va_cwS 2 C.1.2.2.2.2 gX8_cuts_X8_isOn rfl rfl rfl (by decide +kernel) ⟨Nat.le_of_ble_eq_true rfl, Nat.le_of_ble_eq_true rfl⟩) rfl rfl (Nat.le_of_ble_eq_true rfl) dX8_cuts_37 ⟨Nat.zero_le _, Nat.zero_le _⟩ ?_
      refine g_st (st' := [.int (r37)]) rfl ?_
      refine g_if_eq (pc := 40) (tgt := 70) C dX8_cuts_40 (by decide) (fun c40 => ?_) (fun c40 => ?_)
      · rw [if_pos c40] at h
        exact g_lv [0, 1, 2, 3] rfl (bX8_cuts_70 C hr hr24 s37 (x1) (x2) (x3) h)
      · rw [if_neg c40] at h
        refine g_aload_n (pc := 43) C 0 dX8_cuts_43 rfl rfl ?_
        refine g_iload_n (pc := 44) C 3 dX8_cuts_44 rfl rfl ?_
        refine g_iload_n (pc := 45) C 1 dX8_cuts_45 rfl rfl ?_
        obtain ⟨r46, s46, hc46, h⟩ := hv_b2_some h
        refine g_callV (pc := 46) (σ1 := s46) (v := (some (.int (r46)))) (As := [.int (x3), .int (x1)]) (rest := []) C 0 (vX8_endIn hc46) (cwV 2 C.1.2.2.2.2 gX8_cuts_X8_endIn rfl rfl rfl (by decide +kernel) ⟨Nat.le_of_ble_eq_true rfl, Nat.le_of_ble_eq_true rfl⟩) (Nat.le_of_ble_eq_true rfl) rfl rfl rfl rfl (Nat.le_of_ble_eq_true rfl) dX8_cuts_46 ⟨Nat.zero_le _, Nat.zero_le _⟩ ?_
        refine g_st (st' := [.int (r46)]) rfl ?_
        refine g_iconst (pc := 49) C (v := (-1 : Int32)) dX8_cuts_49 (by decide) ?_
        refine g_icmp_eq (pc := 50) (tgt := 70) C dX8_cuts_50 (by decide) (fun c50 => ?_) (fun c50 => ?_)
        · rw [if_pos c50] at h
          exact g_lv [0, 1, 2, 3] rfl (bX8_cuts_70 C hr hr24 s46 (x1) (x2) (x3) h)
        · rw [if_neg c50] at h
          refine g_iload_n (pc := 53) C 2 dX8_cuts_53 rfl rfl ?_
          refine g_iconst (pc := 54) C (v := (3 : Int32)) dX8_cuts_54 (by decide) ?_
          refine g_icmp_ne (pc := 55) (tgt := 60) C dX8_cuts_55 (by decide) (fun c55 => ?_) (fun c55 => ?_)
          · rw [if_neg c55] at h
            refine g_aload_n (pc := 60) C 0 dX8_cuts_60 rfl rfl ?_
            refine gm_get_0_30 (pc := 61) C iX8_cuts_X8 qX8_cuts_F68 dX8_cuts_61 ?_
            refine g_iload_n (pc := 64) C 2 dX8_cuts_64 rfl rfl ?_
            refine g_iload_n (pc := 65) C 3 dX8_cuts_65 rfl rfl ?_
            obtain ⟨k66, h⟩ := hv_if_some h
            obtain ⟨s66, es66, h⟩ := hv_let_some h
            refine gm_st_20 (pc := 66) C es66 k66 dX8_cuts_66 ?_
            refine g_iinc (pc := 67) C 2 (v := x2 + 1) (lv' := [(2, .int (x2 + 1)), (0, .ref (a 0)), (1, .int (x1)), (3, .int (x3))]) dX8_cuts_67 rfl rfl (Nat.le_of_ble_eq_true rfl) rfl ?_
            exact g_lv [1, 2, 0, 3] rfl (bX8_cuts_70 C hr hr24 s66 (x1) (x2 + 1) (x3) h)
          · rw [if_pos c55] at h
            refine g_iconst (pc := 58) C (v := (0 : Int32)) dX8_cuts_58 (by decide) ?_
            cases h
            exact g_zret (pc := 59) (x := (0 : Int32)) C hr (by decide) dX8_cuts_59
set_option maxHeartbeats 4000000 in
set_option maxRecDepth 20000 in
theorem vX8_cuts {n : Nat} {σ : hv_St} {p0 : Int32} {o : Int32 × hv_St} (h : mX8_cuts n σ p0 = some o) : hv_M l yX8_cuts wsX8_cuts rmX8_cuts D (hv_tys cy) 23 a (hv_ME a cy) [.ref (a 0), .int (p0)] σ (some (.int o.1)) o.2 := by
  refine hv_enter (own := RX8) (cc := cX8_cuts) (maxL := 4) (ret := (some .boolean)) (by decide) rfl rfl (Nat.le_of_ble_eq_true rfl) ?_
  intro p e s m args below meth c C hr
  unfold mX8_cuts at h
  refine g_lv [0, 1] (lv' := [(0, .ref (a 0)), (1, .int (p0))]) rfl ?_
  refine g_iload_n (pc := 0) C 1 dX8_cuts_0 rfl rfl ?_
  refine g_i2l (pc := 1) C dX8_cuts_1 ?_
  refine g_lconst (pc := 2) C (v := (1 : Int64)) dX8_cuts_2 (by decide) ?_
  refine g_iconst (pc := 3) C (v := (1 : Int32)) dX8_cuts_3 (by decide) ?_
  refine g_aload_n (pc := 4) C 0 dX8_cuts_4 rfl rfl ?_
  refine gm_get_0_1 (pc := 5) C iX8_cuts_X8 qX8_cuts_F81 dX8_cuts_5 ?_
  refine g_ishl (pc := 8) C dX8_cuts_8 ?_
  refine g_iconst (pc := 9) C (v := (1 : Int32)) dX8_cuts_9 (by decide) ?_
  refine g_isub (pc := 10) C dX8_cuts_10 ?_
  refine g_i2l (pc := 11) C dX8_cuts_11 ?_
  obtain ⟨r12, s12, hc12, h⟩ := hv_b2_some h
  refine g_callS (pc := 12) (σ1 := s12) (v := (some (.int (r12)))) (As := [.long ((p0).toInt64), .long ((1 : Int64)), .long (((((1 : Int32)) <<< ((σ.1 0 1) &&& 31)) - ((1 : Int32))).toInt64)]) (rest := []) C (vX8_in hc12) (va_cwS 3 C.1.2.2.2.2 gX8_cuts_X8_in rfl rfl rfl (by decide +kernel) ⟨Nat.le_of_ble_eq_true rfl, Nat.le_of_ble_eq_true rfl⟩) rfl rfl (Nat.le_of_ble_eq_true rfl) dX8_cuts_12 ⟨Nat.zero_le _, Nat.zero_le _⟩ ?_
  refine g_st (st' := [.int (r12)]) rfl ?_
  refine g_if_ne (pc := 15) (tgt := 20) C dX8_cuts_15 (by decide) (fun c15 => ?_) (fun c15 => ?_)
  · rw [if_neg c15] at h
    refine g_iconst (pc := 20) C (v := (0 : Int32)) dX8_cuts_20 (by decide) ?_
    refine g_istore_n (pc := 21) C (lv' := [(2, .int ((0 : Int32))), (0, .ref (a 0)), (1, .int (p0))]) rfl dX8_cuts_21 rfl (Nat.le_of_ble_eq_true rfl) rfl ?_
    refine g_iconst (pc := 22) C (v := (0 : Int32)) dX8_cuts_22 (by decide) ?_
    refine g_istore_n (pc := 23) C (lv' := [(3, .int ((0 : Int32))), (2, .int ((0 : Int32))), (0, .ref (a 0)), (1, .int (p0))]) rfl dX8_cuts_23 rfl (Nat.le_of_ble_eq_true rfl) rfl ?_
    exact g_lv [2, 3, 1, 0] rfl (bX8_cuts_24 C hr n s12 (p0) ((0 : Int32)) ((0 : Int32)) h)
  · rw [if_pos c15] at h
    refine g_iconst (pc := 18) C (v := (0 : Int32)) dX8_cuts_18 (by decide) ?_
    cases h
    exact g_zret (pc := 19) (x := (0 : Int32)) C hr (by decide) dX8_cuts_19
end
