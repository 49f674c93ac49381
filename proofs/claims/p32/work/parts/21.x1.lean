/-! class, walked: X4_turns, X4_determines, X4_doNext, X4_follow, X5_isSpare, X5_layPairs, X5_stateOf, X5_giving, X5_layUnit, X5_prepare, X5_bear, X5_overWithTwo, X5_overWithOne, X5_overOf, X7_isFreePlace -/
section
variable {p : Program} {l : Launch} {e : Env} {s : State} {m : MethodId} {args : Array Value} {below : List Frame} {meth : Method} {c : Code} {D : va_G} {a : Nat → Nat} {cy : ClassId × ClassId × ClassId × ClassId}
abbrev rmX4_turns : Room := { frames := 2, cells := 0, slots := 0, locals := 50 }
set_option maxHeartbeats 4000000 in
set_option maxRecDepth 20000 in
theorem vX4_turns {n : Nat} {σ : hv_St} {p0 : Int32} {p1 : Int32} {o : Int32 × hv_St} (h : mX4_turns n σ p0 p1 = some o) : hv_M l yX4_turns wsX4_turns rmX4_turns D (hv_tys cy) 55 a (hv_XE a cy) [.ref (a 17), .int (p0), .int (p1)] σ (some (.int o.1)) o.2 := by
  refine hv_enter (own := RX4) (cc := cX4_turns) (maxL := 7) (ret := (some .boolean)) (by decide) rfl rfl (Nat.le_of_ble_eq_true rfl) ?_
  intro p e s m args below meth c C hr
  unfold mX4_turns at h
  refine g_lv [0, 1, 2] (lv' := [(0, .ref (a 17)), (1, .int (p0)), (2, .int (p1))]) rfl ?_
  refine g_iload_n (pc := 0) C 2 dX4_turns_0 rfl rfl ?_
  refine g_iload_n (pc := 1) C 2 dX4_turns_1 rfl rfl ?_
  refine g_iconst (pc := 2) C (v := (1 : Int32)) dX4_turns_2 (by decide) ?_
  refine g_isub (pc := 3) C dX4_turns_3 ?_
  refine g_iand (pc := 4) C dX4_turns_4 ?_
  obtain ⟨y3_5, ey3_5, h⟩ := hv_let_some h
  refine g_istore_n (pc := 5) C (lv' := [(3, .int (y3_5)), (0, .ref (a 17)), (1, .int (p0)), (2, .int (p1))]) ey3_5 dX4_turns_5 rfl (Nat.le_of_ble_eq_true rfl) rfl ?_
  refine g_iload_n (pc := 6) C 3 dX4_turns_6 rfl rfl ?_
  refine g_iload_n (pc := 7) C 0 dX4_turns_7 rfl rfl ?_
  refine g_ixor (pc := 8) C dX4_turns_8 ?_
  obtain ⟨y4_9, ey4_9, h⟩ := hv_let_some h
  refine g_istore (pc := 9) C (lv' := [(4, .int (y4_9)), (3, .int (y3_5)), (0, .ref (a 17)), (1, .int (p0)), (2, .int (p1))]) ey4_9 dX4_turns_9 (Nat.le_of_ble_eq_true rfl) rfl ?_
  refine g_aload_n (pc := 11) C 2 dX4_turns_11 rfl rfl ?_
  refine g_iload_n (pc := 12) C 3 dX4_turns_12 rfl rfl ?_
  refine g_iconst (pc := 13) C (v := (0 : Int32)) dX4_turns_13 (by decide) ?_
  refine g_iload (pc := 14) C 0 dX4_turns_14 rfl ?_
  obtain ⟨r16, s16, hc16, h⟩ := hv_b2_some h
  refine g_callV (pc := 16) (σ1 := s16) (v := (some (.int (r16)))) (As := [.int (p0), .int ((0 : Int32)), .int (y4_9)]) (rest := []) C 17 (vX4_across hc16) (cwV 3 C.1.2.2.2.2 gX4_turns_X4_across rfl rfl rfl (by decide +kernel) ⟨Nat.le_of_ble_eq_true rfl, Nat.le_of_ble_eq_true rfl⟩) (Nat.le_of_ble_eq_true rfl) rfl rfl rfl rfl (Nat.le_of_ble_eq_true rfl) dX4_turns_16 ⟨Nat.zero_le _, Nat.zero_le _⟩ ?_
  refine g_st (st' := [.int (r16)]) rfl ?_
  refine g_aload_n (pc := 19) C 2 dX4_turns_19 rfl rfl ?_
  refine g_iload_n (pc := 20) C 3 dX4_turns_20 rfl rfl ?_
  refine g_iconst (pc := 21) C (v := (1 : Int32)) dX4_turns_21 (by decide) ?_
  refine g_iload_n (pc := 22) C 1 dX4_turns_22 rfl rfl ?_
  obtain ⟨r23, s23, hc23, h⟩ := hv_b2_some h
  refine g_callV (pc := 23) (σ1 := s23) (v := (some (.int (r23)))) (As := [.int (p0), .int ((1 : Int32)), .int (y3_5)]) (rest := [.int (r16)]) C 17 (vX4_across hc23) (cwV 3 C.1.2.2.2.2 gX4_turns_X4_across rfl rfl rfl (by decide +kernel) ⟨Nat.le_of_ble_eq_true rfl, Nat.le_of_ble_eq_true rfl⟩) (Nat.le_of_ble_eq_true rfl) rfl rfl rfl rfl (Nat.le_of_ble_eq_true rfl) dX4_turns_23 ⟨Nat.zero_le _, Nat.zero_le _⟩ ?_
  refine g_st (st' := [.int (r23), .int (r16)]) rfl ?_
  refine g_imul (pc := 26) C dX4_turns_26 ?_
  obtain ⟨y5_27, ey5_27, h⟩ := hv_let_some h
  refine g_istore (pc := 27) C (lv' := [(5, .int (y5_27)), (4, .int (y4_9)), (3, .int (y3_5)), (0, .ref (a 17)), (1, .int (p0)), (2, .int (p1))]) ey5_27 dX4_turns_27 (Nat.le_of_ble_eq_true rfl) rfl ?_
  refine g_aload_n (pc := 29) C 3 dX4_turns_29 rfl rfl ?_
  refine g_iload_n (pc := 30) C 4 dX4_turns_30 rfl rfl ?_
  refine g_iconst (pc := 31) C (v := (1 : Int32)) dX4_turns_31 (by decide) ?_
  refine g_iload (pc := 32) C 1 dX4_turns_32 rfl ?_
  obtain ⟨r34, s34, hc34, h⟩ := hv_b2_some h
  refine g_callV (pc := 34) (σ1 := s34) (v := (some (.int (r34)))) (As := [.int (p0), .int ((1 : Int32)), .int (y4_9)]) (rest := []) C 17 (vX4_across hc34) (cwV 3 C.1.2.2.2.2 gX4_turns_X4_across rfl rfl rfl (by decide +kernel) ⟨Nat.le_of_ble_eq_true rfl, Nat.le_of_ble_eq_true rfl⟩) (Nat.le_of_ble_eq_true rfl) rfl rfl rfl rfl (Nat.le_of_ble_eq_true rfl) dX4_turns_34 ⟨Nat.zero_le _, Nat.zero_le _⟩ ?_
  refine g_st (st' := [.int (r34)]) rfl ?_
  refine g_aload_n (pc := 37) C 3 dX4_turns_37 rfl rfl ?_
  refine g_iload_n (pc := 38) C 4 dX4_turns_38 rfl rfl ?_
  refine g_iconst (pc := 39) C (v := (0 : Int32)) dX4_turns_39 (by decide) ?_
  refine g_iload_n (pc := 40) C 2 dX4_turns_40 rfl rfl ?_
  obtain ⟨r41, s41, hc41, h⟩ := hv_b2_some h
  refine g_callV (pc := 41) (σ1 := s41) (v := (some (.int (r41)))) (As := [.int (p0), .int ((0 : Int32)), .int (y3_5)]) (rest := [.int (r34)]) C 17 (vX4_across hc41) (cwV 3 C.1.2.2.2.2 gX4_turns_X4_across rfl rfl rfl (by decide +kernel) ⟨Nat.le_of_ble_eq_true rfl, Nat.le_of_ble_eq_true rfl⟩) (Nat.le_of_ble_eq_true rfl) rfl rfl rfl rfl (Nat.le_of_ble_eq_true rfl) dX4_turns_41 ⟨Nat.zero_le _, Nat.zero_le _⟩ ?_
  refine g_st (st' := [.int (r41), .int (r34)]) rfl ?_
  refine g_imul (pc := 44) C dX4_turns_44 ?_
  obtain ⟨y6_45, ey6_45, h⟩ := hv_let_some h
  refine g_istore (pc := 45) C (lv' := [(6, .int (y6_45)), (5, .int (y5_27)), (4, .int (y4_9)), (3, .int (y3_5)), (0, .ref (a 17)), (1, .int (p0)), (2, .int (p1))]) ey6_45 dX4_turns_45 (Nat.le_of_ble_eq_true rfl) rfl ?_
  refine g_iload (pc := 47) C 1 dX4_turns_47 rfl ?_
  refine g_iload (pc := 49) C 0 dX4_turns_49 rfl ?_
  refine g_icmp_eq (pc := 51) (tgt := 58) C dX4_turns_51 (by decide) (fun c51 => ?_) (fun c51 => ?_)
  · rw [if_pos c51] at h
    refine g_iconst (pc := 58) C (v := (0 : Int32)) dX4_turns_58 (by decide) ?_
    cases h
    exact g_zret (pc := 59) (x := (0 : Int32)) C hr (by decide) dX4_turns_59
  · rw [if_neg c51] at h
    refine g_iconst (pc := 54) C (v := (1 : Int32)) dX4_turns_54 (by decide) ?_
    refine g_goto (pc := 55) C (tgt := 59) dX4_turns_55 (by decide) ?_
    cases h
    exact g_zret (pc := 59) (x := (1 : Int32)) C hr (by decide) dX4_turns_59
abbrev rmX4_determines : Room := { frames := 3, cells := 0, slots := 0, locals := 76 }
set_option maxRecDepth 20000 in
theorem qX4_determines_F15 : Cond.fieldLink RX4 15 "PinFrame$Joints" "frame" "LPinFrame$Frame;" ∈ wsX4_determines := by decide +kernel
set_option maxRecDepth 20000 in
theorem qX4_determines_F43 : Cond.fieldLink RX4 43 "PinFrame$Frame" "held" "[Z" ∈ wsX4_determines := by decide +kernel
set_option maxRecDepth 20000 in
theorem iX4_determines_X3 : ∀ w ∈ u_ws RX3 TX3 10, w ∈ wsX4_determines := by decide +kernel
set_option maxRecDepth 20000 in
theorem iX4_determines_X4 : ∀ w ∈ u_ws RX4 TX4 4, w ∈ wsX4_determines := by decide +kernel
set_option maxHeartbeats 4000000 in
set_option maxRecDepth 20000 in
theorem bX4_determines_129 (C : hv_C p s m args meth c cX4_determines 5 wsX4_determines RX4 D (hv_tys cy)) (hr : meth.sig.returnType = (some .boolean)) {n : Nat} {o : Int32 × hv_St} : ∀ (σ : hv_St), kX4_determines_129 n σ = some o → hv_G p l e (headSpec wsX4_determines rmX4_determines).room s m args below meth c 5 D 55 a (hv_XE a cy) 0 0 (hv_MQ D 55 a (hv_XE a cy) below args s (some (.int o.1)) o.2) σ 129 [] [] := by
  intro σ h
  unfold kX4_determines_129 at h
  refine g_iconst (pc := 129) C (v := (0 : Int32)) dX4_determines_129 (by decide) ?_
  cases h
  exact g_zret (pc := 130) (x := (0 : Int32)) C hr (by decide) dX4_determines_130
set_option maxHeartbeats 4000000 in
set_option maxRecDepth 20000 in
theorem bX4_determines_101 (C : hv_C p s m args meth c cX4_determines 5 wsX4_determines RX4 D (hv_tys cy)) (hr : meth.sig.returnType = (some .boolean)) {n : Nat} {o : Int32 × hv_St} : ∀ (σ : hv_St), kX4_determines_101 n σ = some o → hv_G p l e (headSpec wsX4_determines rmX4_determines).room s m args below meth c 5 D 55 a (hv_XE a cy) 0 0 (hv_MQ D 55 a (hv_XE a cy) below args s (some (.int o.1)) o.2) σ 101 [] [] := by
  intro σ h
  unfold kX4_determines_101 at h
  refine g_iconst (pc := 101) C (v := (1 : Int32)) dX4_determines_101 (by decide) ?_
  refine g_goto (pc := 102) C (tgt := 106) dX4_determines_102 (by decide) ?_
  cases h
  exact g_zret (pc := 106) (x := (1 : Int32)) C hr (by decide) dX4_determines_106
set_option maxHeartbeats 4000000 in
set_option maxRecDepth 20000 in
theorem bX4_determines_105 (C : hv_C p s m args meth c cX4_determines 5 wsX4_determines RX4 D (hv_tys cy)) (hr : meth.sig.returnType = (some .boolean)) {n : Nat} {o : Int32 × hv_St} : ∀ (σ : hv_St), kX4_determines_105 n σ = some o → hv_G p l e (headSpec wsX4_determines rmX4_determines).room s m args below meth c 5 D 55 a (hv_XE a cy) 0 0 (hv_MQ D 55 a (hv_XE a cy) below args s (some (.int o.1)) o.2) σ 105 [] [] := by
  intro σ h
  unfold kX4_determines_105 at h
  refine g_iconst (pc := 105) C (v := (0 : Int32)) dX4_determines_105 (by decide) ?_
  cases h
  exact g_zret (pc := 106) (x := (0 : Int32)) C hr (by decide) dX4_determines_106
set_option maxHeartbeats 4000000 in
set_option maxRecDepth 20000 in
theorem bX4_determines_86 (C : hv_C p s m args meth c cX4_determines 5 wsX4_determines RX4 D (hv_tys cy)) (hr : meth.sig.returnType = (some .boolean)) {n : Nat} {o : Int32 × hv_St} : ∀ (σ : hv_St) (x1 : Int32) (x2 : Int32) (x4 : Int32), kX4_determines_86 n σ x1 x2 x4 = some o → hv_G p l e (headSpec wsX4_determines rmX4_determines).room s m args below meth c 5 D 55 a (hv_XE a cy) 0 0 (hv_MQ D 55 a (hv_XE a cy) below args s (some (.int o.1)) o.2) σ 86 [(0, .ref (a 17)), (1, .int (x1)), (2, .int (x2)), (4, .int (x4))] [] := by
  intro σ x1 x2 x4 h
  unfold kX4_determines_86 at h
  refine g_iload (pc := 86) C 3 dX4_determines_86 rfl ?_
  refine g_if_eq (pc := 88) (tgt := 105) C dX4_determines_88 (by decide) (fun c88 => ?_) (fun c88 => ?_)
  · rw [if_pos c88] at h
    exact g_lv [] rfl (bX4_determines_105 C hr σ h)
  · rw [if_neg c88] at h
    refine g_aload_n (pc := 91) C 0 dX4_determines_91 rfl rfl ?_
    refine g_iload_n (pc := 92) C 1 dX4_determines_92 rfl rfl ?_
    refine g_iconst (pc := 93) C (v := (1 : Int32)) dX4_determines_93 (by decide) ?_
    refine g_iload_n (pc := 94) C 2 dX4_determines_94 rfl rfl ?_
    obtain ⟨r95, s95, hc95, h⟩ := hv_b2_some h
    refine g_callV (pc := 95) (σ1 := s95) (v := (some (.int (r95)))) (As := [.int (x1), .int ((1 : Int32)), .int (x2)]) (rest := []) C 17 (vX4_across hc95) (cwV 3 C.1.2.2.2.2 gX4_determines_X4_across rfl rfl rfl (by decide +kernel) ⟨Nat.le_of_ble_eq_true rfl, Nat.le_of_ble_eq_true rfl⟩) (Nat.le_of_ble_eq_true rfl) rfl rfl rfl rfl (Nat.le_of_ble_eq_true rfl) dX4_determines_95 ⟨Nat.zero_le _, Nat.zero_le _⟩ ?_
    refine g_st (st' := [.int (r95)]) rfl ?_
    refine g_if_eq (pc := 98) (tgt := 105) C dX4_determines_98 (by decide) (fun c98 => ?_) (fun c98 => ?_)
    · rw [if_pos c98] at h
      exact g_lv [] rfl (bX4_determines_105 C hr s95 h)
    · rw [if_neg c98] at h
      exact g_lv [] rfl (bX4_determines_101 C hr s95 h)
set_option maxHeartbeats 4000000 in
set_option maxRecDepth 20000 in
theorem bX4_determines_41 (C : hv_C p s m args meth c cX4_determines 5 wsX4_determines RX4 D (hv_tys cy)) (hr : meth.sig.returnType = (some .boolean)) {n : Nat} {o : Int32 × hv_St} : ∀ (σ : hv_St) (x1 : Int32) (x2 : Int32) (x3 : Int32) (z0 : Int32), kX4_determines_41 n σ x1 x2 x3 z0 = some o → hv_G p l e (headSpec wsX4_determines rmX4_determines).room s m args below meth c 5 D 55 a (hv_XE a cy) 0 0 (hv_MQ D 55 a (hv_XE a cy) below args s (some (.int o.1)) o.2) σ 41 [(0, .ref (a 17)), (1, .int (x1)), (2, .int (x2)), (3, .int (x3))] [.int (z0)] := by
  intro σ x1 x2 x3 z0 h
  unfold kX4_determines_41 at h
  refine g_istore (pc := 41) C (lv' := [(4, .int (z0)), (0, .ref (a 17)), (1, .int (x1)), (2, .int (x2)), (3, .int (x3))]) rfl dX4_determines_41 (Nat.le_of_ble_eq_true rfl) rfl ?_
  refine g_iload_n (pc := 43) C 3 dX4_determines_43 rfl rfl ?_
  obtain ⟨r44, s44, hc44, h⟩ := hv_b2_some h
  refine g_callS (pc := 44) (σ1 := s44) (v := (some (.int (r44)))) (As := [.int (x2)]) (rest := []) C (vJ6_bitCount_0f7a4 hc44) (va_cwS 1 C.1.2.2.2.2 gX4_determines_J6_bitCount_0f7a4 rfl rfl rfl (by decide +kernel) ⟨Nat.le_of_ble_eq_true rfl, Nat.le_of_ble_eq_true rfl⟩) rfl rfl (Nat.le_of_ble_eq_true rfl) dX4_determines_44 ⟨Nat.zero_le _, Nat.zero_le _⟩ ?_
  refine g_st (st' := [.int (r44)]) rfl ?_
  by_cases c47_1 : r44 = (1 : Int32)
  · rw [if_pos c47_1] at h
    refine g_lookup (pc := 47) (tgt := 72) C dX4_determines_47 (by decide) (by rw [c47_1] <;> rfl) (by decide) ?_
    refine g_iload_n (pc := 72) C 4 dX4_determines_72 rfl rfl ?_
    refine g_if_eq (pc := 73) (tgt := 86) C dX4_determines_73 (by decide) (fun c73 => ?_) (fun c73 => ?_)
    · rw [if_pos c73] at h
      exact g_lv [1, 2, 3, 0] rfl (bX4_determines_86 C hr s44 (x1) (x2) (z0) h)
    · rw [if_neg c73] at h
      refine g_aload_n (pc := 76) C 1 dX4_determines_76 rfl rfl ?_
      refine g_iload_n (pc := 77) C 2 dX4_determines_77 rfl rfl ?_
      refine g_iconst (pc := 78) C (v := (0 : Int32)) dX4_determines_78 (by decide) ?_
      refine g_iload_n (pc := 79) C 3 dX4_determines_79 rfl rfl ?_
      obtain ⟨r80, s80, hc80, h⟩ := hv_b2_some h
      refine g_callV (pc := 80) (σ1 := s80) (v := (some (.int (r80)))) (As := [.int (x1), .int ((0 : Int32)), .int (x2)]) (rest := []) C 17 (vX4_across hc80) (cwV 3 C.1.2.2.2.2 gX4_determines_X4_across rfl rfl rfl (by decide +kernel) ⟨Nat.le_of_ble_eq_true rfl, Nat.le_of_ble_eq_true rfl⟩) (Nat.le_of_ble_eq_true rfl) rfl rfl rfl rfl (Nat.le_of_ble_eq_true rfl) dX4_determines_80 ⟨Nat.zero_le _, Nat.zero_le _⟩ ?_
      refine g_st (st' := [.int (r80)]) rfl ?_
      refine g_if_ne (pc := 83) (tgt := 101) C dX4_determines_83 (by decide) (fun c83 => ?_) (fun c83 => ?_)
      · rw [if_neg c83] at h
        exact g_lv [] rfl (bX4_determines_101 C hr s80 h)
      · rw [if_pos c83] at h
        exact g_lv [1, 2, 3, 0] rfl (bX4_determines_86 C hr s80 (x1) (x2) (z0) h)
  · rw [if_neg c47_1] at h
    by_cases c47_2 : r44 = (2 : Int32)
    · rw [if_pos c47_2] at h
      refine g_lookup (pc := 47) (tgt := 107) C dX4_determines_47 (by decide) (by rw [c47_2] <;> rfl) (by decide) ?_
      refine g_iload_n (pc := 107) C 4 dX4_determines_107 rfl rfl ?_
      refine g_if_eq (pc := 108) (tgt := 129) C dX4_determines_108 (by decide) (fun c108 => ?_) (fun c108 => ?_)
      · rw [if_pos c108] at h
        exact g_lv [] rfl (bX4_determines_129 C hr s44 h)
      · rw [if_neg c108] at h
        refine g_iload (pc := 111) C 0 dX4_determines_111 rfl ?_
        refine g_if_eq (pc := 113) (tgt := 129) C dX4_determines_113 (by decide) (fun c113 => ?_) (fun c113 => ?_)
        · rw [if_pos c113] at h
          exact g_lv [] rfl (bX4_determines_129 C hr s44 h)
        · rw [if_neg c113] at h
          refine g_aload_n (pc := 116) C 1 dX4_determines_116 rfl rfl ?_
          refine g_iload_n (pc := 117) C 2 dX4_determines_117 rfl rfl ?_
          refine g_iload_n (pc := 118) C 3 dX4_determines_118 rfl rfl ?_
          obtain ⟨r119, s119, hc119, h⟩ := hv_b2_some h
          refine g_callV (pc := 119) (σ1 := s119) (v := (some (.int (r119)))) (As := [.int (x1), .int (x2)]) (rest := []) C 17 (vX4_turns hc119) (cwV 2 C.1.2.2.2.2 gX4_determines_X4_turns rfl rfl rfl (by decide +kernel) ⟨Nat.le_of_ble_eq_true rfl, Nat.le_of_ble_eq_true rfl⟩) (Nat.le_of_ble_eq_true rfl) rfl rfl rfl rfl (Nat.le_of_ble_eq_true rfl) dX4_determines_119 ⟨Nat.zero_le _, Nat.zero_le _⟩ ?_
          refine g_st (st' := [.int (r119)]) rfl ?_
          refine g_if_eq (pc := 122) (tgt := 129) C dX4_determines_122 (by decide) (fun c122 => ?_) (fun c122 => ?_)
          · rw [if_pos c122] at h
            exact g_lv [] rfl (bX4_determines_129 C hr s119 h)
          · rw [if_neg c122] at h
            refine g_iconst (pc := 125) C (v := (1 : Int32)) dX4_determines_125 (by decide) ?_
            refine g_goto (pc := 126) C (tgt := 130) dX4_determines_126 (by decide) ?_
            cases h
            exact g_zret (pc := 130) (x := (1 : Int32)) C hr (by decide) dX4_determines_130
    · rw [if_neg c47_2] at h
      have nc47_1 := lv_neT c47_1 (a := 1) (by decide)
      have nc47_2 := lv_neT c47_2 (a := 2) (by decide)
      refine g_lookup (pc := 47) (tgt := 131) (off := 84) C dX4_determines_47 (by decide) (by show Op.lookupswitch.offset [(1, 25), (2, 60)] 84 r44.toInt = _; rw [lv_osw c47_1 (by decide), lv_osw c47_2 (by decide)] <;> rfl) (by decide) ?_
      refine g_iconst (pc := 131) C (v := (0 : Int32)) dX4_determines_131 (by decide) ?_
      cases h
      exact g_zret (pc := 132) (x := (0 : Int32)) C hr (by decide) dX4_determines_132
set_option maxHeartbeats 4000000 in
set_option maxRecDepth 20000 in
theorem bX4_determines_19 (C : hv_C p s m args meth c cX4_determines 5 wsX4_determines RX4 D (hv_tys cy)) (hr : meth.sig.returnType = (some .boolean)) {n : Nat} {o : Int32 × hv_St} : ∀ (σ : hv_St) (x1 : Int32) (x2 : Int32) (z0 : Int32), kX4_determines_19 n σ x1 x2 z0 = some o → hv_G p l e (headSpec wsX4_determines rmX4_determines).room s m args below meth c 5 D 55 a (hv_XE a cy) 0 0 (hv_MQ D 55 a (hv_XE a cy) below args s (some (.int o.1)) o.2) σ 19 [(0, .ref (a 17)), (1, .int (x1)), (2, .int (x2))] [.int (z0)] := by
  intro σ x1 x2 z0 h
  unfold kX4_determines_19 at h
  refine g_istore_n (pc := 19) C (lv' := [(3, .int (z0)), (0, .ref (a 17)), (1, .int (x1)), (2, .int (x2))]) rfl dX4_determines_19 rfl (Nat.le_of_ble_eq_true rfl) rfl ?_
  refine g_aload_n (pc := 20) C 1 dX4_determines_20 rfl rfl ?_
  refine gx_get_17_0 (pc := 21) C iX4_determines_X4 qX4_determines_F15 dX4_determines_21 ?_
  refine gx_get_1_5 (pc := 24) C iX4_determines_X3 qX4_determines_F43 dX4_determines_24 ?_
  refine g_iconst (pc := 27) C (v := (2 : Int32)) dX4_determines_27 (by decide) ?_
  refine g_iload_n (pc := 28) C 2 dX4_determines_28 rfl rfl ?_
  refine g_imul (pc := 29) C dX4_determines_29 ?_
  refine g_iconst (pc := 30) C (v := (1 : Int32)) dX4_determines_30 (by decide) ?_
  refine g_iadd (pc := 31) C dX4_determines_31 ?_
  obtain ⟨k32, h⟩ := hv_if_some h
  refine gx_ld_4 (pc := 32) C k32 dX4_determines_32 ?_
  refine g_if_ne (pc := 33) (tgt := 40) C dX4_determines_33 (by decide) (fun c33 => ?_) (fun c33 => ?_)
  · rw [if_neg c33] at h
    refine g_iconst (pc := 40) C (v := (0 : Int32)) dX4_determines_40 (by decide) ?_
    exact g_lv [1, 2, 3, 0] rfl (bX4_determines_41 C hr σ (x1) (x2) (z0) ((0 : Int32)) h)
  · rw [if_pos c33] at h
    refine g_iconst (pc := 36) C (v := (1 : Int32)) dX4_determines_36 (by decide) ?_
    refine g_goto (pc := 37) C (tgt := 41) dX4_determines_37 (by decide) ?_
    exact g_lv [1, 2, 3, 0] rfl (bX4_determines_41 C hr σ (x1) (x2) (z0) ((1 : Int32)) h)
set_option maxHeartbeats 4000000 in
set_option maxRecDepth 20000 in
theorem vX4_determines {n : Nat} {σ : hv_St} {p0 : Int32} {p1 : Int32} {o : Int32 × hv_St} (h : mX4_determines n σ p0 p1 = some o) : hv_M l yX4_determines wsX4_determines rmX4_determines D (hv_tys cy) 55 a (hv_XE a cy) [.ref (a 17), .int (p0), .int (p1)] σ (some (.int o.1)) o.2 := by
  refine hv_enter (own := RX4) (cc := cX4_determines) (maxL := 5) (ret := (some .boolean)) (by decide) rfl rfl (Nat.le_of_ble_eq_true rfl) ?_
  intro p e s m args below meth c C hr
  unfold mX4_determines at h
  refine g_lv [0, 1, 2] (lv' := [(0, .ref (a 17)), (1, .int (p0)), (2, .int (p1))]) rfl ?_
  refine g_aload_n (pc := 0) C 0 dX4_determines_0 rfl rfl ?_
  refine gx_get_17_0 (pc := 1) C iX4_determines_X4 qX4_determines_F15 dX4_determines_1 ?_
  refine gx_get_1_5 (pc := 4) C iX4_determines_X3 qX4_determines_F43 dX4_determines_4 ?_
  refine g_iconst (pc := 7) C (v := (2 : Int32)) dX4_determines_7 (by decide) ?_
  refine g_iload_n (pc := 8) C 1 dX4_determines_8 rfl rfl ?_
  refine g_imul (pc := 9) C dX4_determines_9 ?_
  obtain ⟨k10, h⟩ := hv_if_some h
  refine gx_ld_4 (pc := 10) C k10 dX4_determines_10 ?_
  refine g_if_ne (pc := 11) (tgt := 18) C dX4_determines_11 (by decide) (fun c11 => ?_) (fun c11 => ?_)
  · rw [if_neg c11] at h
    refine g_iconst (pc := 18) C (v := (0 : Int32)) dX4_determines_18 (by decide) ?_
    exact g_lv [0, 1, 2] rfl (bX4_determines_19 C hr σ (p0) (p1) ((0 : Int32)) h)
  · rw [if_pos c11] at h
    refine g_iconst (pc := 14) C (v := (1 : Int32)) dX4_determines_14 (by decide) ?_
    refine g_goto (pc := 15) C (tgt := 19) dX4_determines_15 (by decide) ?_
    exact g_lv [0, 1, 2] rfl (bX4_determines_19 C hr σ (p0) (p1) ((1 : Int32)) h)
abbrev rmX4_doNext : Room := { frames := 4, cells := 0, slots := 0, locals := 100 }
set_option maxRecDepth 20000 in
theorem qX4_doNext_F15 : Cond.fieldLink RX4 15 "PinFrame$Joints" "frame" "LPinFrame$Frame;" ∈ wsX4_doNext := by decide +kernel
set_option maxRecDepth 20000 in
theorem qX4_doNext_F19 : Cond.fieldLink RX4 19 "PinFrame$Joints" "done" "I" ∈ wsX4_doNext := by decide +kernel
set_option maxRecDepth 20000 in
theorem qX4_doNext_F23 : Cond.fieldLink RX4 23 "PinFrame$Joints" "known" "I" ∈ wsX4_doNext := by decide +kernel
set_option maxRecDepth 20000 in
theorem qX4_doNext_F30 : Cond.fieldLink RX4 30 "PinFrame$Frame" "pins" "I" ∈ wsX4_doNext := by decide +kernel
set_option maxRecDepth 20000 in
theorem qX4_doNext_F9 : Cond.fieldLink RX4 9 "PinFrame$Joints" "order" "[I" ∈ wsX4_doNext := by decide +kernel
set_option maxRecDepth 20000 in
theorem iX4_doNext_X3 : ∀ w ∈ u_ws RX3 TX3 10, w ∈ wsX4_doNext := by decide +kernel
set_option maxRecDepth 20000 in
theorem iX4_doNext_X4 : ∀ w ∈ u_ws RX4 TX4 4, w ∈ wsX4_doNext := by decide +kernel
set_option maxHeartbeats 4000000 in
set_option maxRecDepth 20000 in
theorem bX4_doNext_79 (C : hv_C p s m args meth c cX4_doNext 3 wsX4_doNext RX4 D (hv_tys cy)) (hr : meth.sig.returnType = (some .boolean)) {n : Nat} {o : Int32 × hv_St} {r2 : hv_St → Int32 → Option (Int32 × hv_St)} (hr2 : ∀ (σ : hv_St) (x1 : Int32), r2 σ x1 = some o → hv_G p l e (headSpec wsX4_doNext rmX4_doNext).room s m args below meth c 3 D 55 a (hv_XE a cy) 0 0 (hv_MQ D 55 a (hv_XE a cy) below args s (some (.int o.1)) o.2) σ 2 [(0, .ref (a 17)), (1, .int (x1))] []) : ∀ (σ : hv_St) (x1 : Int32), kX4_doNext_79 n r2 σ x1 = some o → hv_G p l e (headSpec wsX4_doNext rmX4_doNext).room s m args below meth c 3 D 55 a (hv_XE a cy) 0 0 (hv_MQ D 55 a (hv_XE a cy) below args s (some (.int o.1)) o.2) σ 79 [(0, .ref (a 17)), (1, .int (x1))] [] := by
  intro σ x1 h
  unfold kX4_doNext_79 at h
  refine g_iinc (pc := 79) C 1 (v := x1 + 1) (lv' := [(1, .int (x1 + 1)), (0, .ref (a 17))]) dX4_doNext_79 rfl rfl (Nat.le_of_ble_eq_true rfl) rfl ?_
  refine g_goto (pc := 82) C (tgt := 2) dX4_doNext_82 (by decide) ?_
  exact g_lv [1, 0] rfl (hr2 σ (x1 + 1) h)
set_option maxHeartbeats 4000000 in
set_option maxRecDepth 20000 in
theorem bX4_doNext_2 (C : hv_C p s m args meth c cX4_doNext 3 wsX4_doNext RX4 D (hv_tys cy)) (hr : meth.sig.returnType = (some .boolean)) {n : Nat} {o : Int32 × hv_St} : ∀ (i : Nat) (σ : hv_St) (x1 : Int32), kX4_doNext_2 n i σ x1 = some o → hv_G p l e (headSpec wsX4_doNext rmX4_doNext).room s m args below meth c 3 D 55 a (hv_XE a cy) 0 0 (hv_MQ D 55 a (hv_XE a cy) below args s (some (.int o.1)) o.2) σ 2 [(0, .ref (a 17)), (1, .int (x1))] [] := by
  intro i
  induction i with
  | zero =>
    intro σ x1 h
    cases h
  | succ i ih =>
    intro σ x1 h
    generalize hg : kX4_doNext_2 n i = r2 at ih
    have hr2 := ih
    replace h : kX4_doNext_2_b n r2 σ x1 = some o := by rw [← hg]; exact h
    unfold kX4_doNext_2_b at h
    refine g_iload_n (pc := 2) C 1 dX4_doNext_2 rfl rfl ?_
    refine g_aload_n (pc := 3) C 0 dX4_doNext_3 rfl rfl ?_
    refine gx_get_17_0 (pc := 4) C iX4_doNext_X4 qX4_doNext_F15 dX4_doNext_4 ?_
    refine gx_get_1_0 (pc := 7) C iX4_doNext_X3 qX4_doNext_F30 dX4_doNext_7 ?_
    refine g_icmp_ge (pc := 10) (tgt := 85) C dX4_doNext_10 (by decide) (fun c10 => ?_) (fun c10 => ?_)
    · rw [if_pos c10] at h
      refine g_iconst (pc := 85) C (v := (0 : Int32)) dX4_doNext_85 (by decide) ?_
      cases h
      exact g_zret (pc := 86) (x := (0 : Int32)) C hr (by decide) dX4_doNext_86
    · rw [if_neg c10] at h
      refine g_aload_n (pc := 13) C 0 dX4_doNext_13 rfl rfl ?_
      refine gx_get_17_0 (pc := 14) C iX4_doNext_X4 qX4_doNext_F15 dX4_doNext_14 ?_
      refine g_iload_n (pc := 17) C 1 dX4_doNext_17 rfl rfl ?_
      obtain ⟨r18, s18, hc18, h⟩ := hv_b2_some h
      refine g_callV (pc := 18) (σ1 := s18) (v := (some (.int (r18)))) (As := [.int (x1)]) (rest := []) C 1 (vX3_barsAt hc18) (cwV 1 C.1.2.2.2.2 gX4_doNext_X3_barsAt rfl rfl rfl (by decide +kernel) ⟨Nat.le_of_ble_eq_true rfl, Nat.le_of_ble_eq_true rfl⟩) (Nat.le_of_ble_eq_true rfl) rfl rfl rfl rfl (Nat.le_of_ble_eq_true rfl) dX4_doNext_18 ⟨Nat.zero_le _, Nat.zero_le _⟩ ?_
      refine g_st (st' := [.int (r18)]) rfl ?_
      refine g_aload_n (pc := 21) C 0 dX4_doNext_21 rfl rfl ?_
      refine gx_get_17_3 (pc := 22) C iX4_doNext_X4 qX4_doNext_F23 dX4_doNext_22 ?_
      refine g_iconst (pc := 25) C (v := (-1 : Int32)) dX4_doNext_25 (by decide) ?_
      refine g_ixor (pc := 26) C dX4_doNext_26 ?_
      refine g_iand (pc := 27) C dX4_doNext_27 ?_
      obtain ⟨y2_28, ey2_28, h⟩ := hv_let_some h
      refine g_istore_n (pc := 28) C (lv' := [(2, .int (y2_28)), (0, .ref (a 17)), (1, .int (x1))]) ey2_28 dX4_doNext_28 rfl (Nat.le_of_ble_eq_true rfl) rfl ?_
      refine g_aload_n (pc := 29) C 1 dX4_doNext_29 rfl rfl ?_
      refine g_iload_n (pc := 30) C 2 dX4_doNext_30 rfl rfl ?_
      refine g_iload_n (pc := 31) C 0 dX4_doNext_31 rfl rfl ?_
      obtain ⟨r32, s32, hc32, h⟩ := hv_b2_some h
      refine g_callV (pc := 32) (σ1 := s32) (v := (some (.int (r32)))) (As := [.int (x1), .int (y2_28)]) (rest := []) C 17 (vX4_determines hc32) (cwV 2 C.1.2.2.2.2 gX4_doNext_X4_determines rfl rfl rfl (by decide +kernel) ⟨Nat.le_of_ble_eq_true rfl, Nat.le_of_ble_eq_true rfl⟩) (Nat.le_of_ble_eq_true rfl) rfl rfl rfl rfl (Nat.le_of_ble_eq_true rfl) dX4_doNext_32 ⟨Nat.zero_le _, Nat.zero_le _⟩ ?_
      refine g_st (st' := [.int (r32)]) rfl ?_
      refine g_if_eq (pc := 35) (tgt := 79) C dX4_doNext_35 (by decide) (fun c35 => ?_) (fun c35 => ?_)
      · rw [if_pos c35] at h
        exact g_lv [1, 2] rfl (bX4_doNext_79 C hr hr2 s32 (x1) h)
      · rw [if_neg c35] at h
        refine g_aload_n (pc := 38) C 1 dX4_doNext_38 rfl rfl ?_
        refine gx_get_17_2 (pc := 39) C iX4_doNext_X4 qX4_doNext_F19 dX4_doNext_39 ?_
        refine g_bipush (pc := 42) C (v := (6 : Int32)) dX4_doNext_42 (by decide) ?_
        refine g_icmp_ge (pc := 44) (tgt := 79) C dX4_doNext_44 (by decide) (fun c44 => ?_) (fun c44 => ?_)
        · rw [if_pos c44] at h
          exact g_lv [1, 2] rfl (bX4_doNext_79 C hr hr2 s32 (x1) h)
        · rw [if_neg c44] at h
          refine g_aload_n (pc := 47) C 1 dX4_doNext_47 rfl rfl ?_
          refine gx_get_17_1 (pc := 48) C iX4_doNext_X4 qX4_doNext_F9 dX4_doNext_48 ?_
          refine g_aload_n (pc := 51) C 1 dX4_doNext_51 rfl rfl ?_
          refine gx_get_17_2 (pc := 52) C iX4_doNext_X4 qX4_doNext_F19 dX4_doNext_52 ?_
          refine g_iload_n (pc := 55) C 2 dX4_doNext_55 rfl rfl ?_
          obtain ⟨k56, h⟩ := hv_if_some h
          obtain ⟨s56, es56, h⟩ := hv_let_some h
          refine gx_st_18 (pc := 56) C es56 k56 dX4_doNext_56 ?_
          refine g_aload_n (pc := 57) C 1 dX4_doNext_57 rfl rfl ?_
          refine g_dup (pc := 58) C dX4_doNext_58 rfl ?_
          refine gx_get_17_2 (pc := 59) C iX4_doNext_X4 qX4_doNext_F19 dX4_doNext_59 ?_
          refine g_iconst (pc := 62) C (v := (1 : Int32)) dX4_doNext_62 (by decide) ?_
          refine g_iadd (pc := 63) C dX4_doNext_63 ?_
          obtain ⟨s64, es64, h⟩ := hv_let_some h
          refine gx_put_17_2 (pc := 64) C es64 iX4_doNext_X4 qX4_doNext_F19 dX4_doNext_64 ?_
          refine g_aload_n (pc := 67) C 1 dX4_doNext_67 rfl rfl ?_
          refine g_dup (pc := 68) C dX4_doNext_68 rfl ?_
          refine gx_get_17_3 (pc := 69) C iX4_doNext_X4 qX4_doNext_F23 dX4_doNext_69 ?_
          refine g_iload_n (pc := 72) C 0 dX4_doNext_72 rfl rfl ?_
          refine g_ior (pc := 73) C dX4_doNext_73 ?_
          obtain ⟨s74, es74, h⟩ := hv_let_some h
          refine gx_put_17_3 (pc := 74) C es74 iX4_doNext_X4 qX4_doNext_F23 dX4_doNext_74 ?_
          refine g_iconst (pc := 77) C (v := (1 : Int32)) dX4_doNext_77 (by decide) ?_
          cases h
          exact g_zret (pc := 78) (x := (1 : Int32)) C hr (by decide) dX4_doNext_78
set_option maxHeartbeats 4000000 in
set_option maxRecDepth 20000 in
theorem vX4_doNext {n : Nat} {σ : hv_St} {o : Int32 × hv_St} (h : mX4_doNext n σ = some o) : hv_M l yX4_doNext wsX4_doNext rmX4_doNext D (hv_tys cy) 55 a (hv_XE a cy) [.ref (a 17)] σ (some (.int o.1)) o.2 := by
  refine hv_enter (own := RX4) (cc := cX4_doNext) (maxL := 3) (ret := (some .boolean)) (by decide) rfl rfl (Nat.le_of_ble_eq_true rfl) ?_
  intro p e s m args below meth c C hr
  unfold mX4_doNext at h
  refine g_lv [0] (lv' := [(0, .ref (a 17))]) rfl ?_
  refine g_iconst (pc := 0) C (v := (0 : Int32)) dX4_doNext_0 (by decide) ?_
  refine g_istore_n (pc := 1) C (lv' := [(1, .int ((0 : Int32))), (0, .ref (a 17))]) rfl dX4_doNext_1 rfl (Nat.le_of_ble_eq_true rfl) rfl ?_
  exact g_lv [1, 0] rfl (bX4_doNext_2 C hr n σ ((0 : Int32)) h)
abbrev rmX4_follow : Room := { frames := 5, cells := 0, slots := 0, locals := 122 }
set_option maxRecDepth 20000 in
theorem qX4_follow_F19 : Cond.fieldLink RX4 19 "PinFrame$Joints" "done" "I" ∈ wsX4_follow := by decide +kernel
set_option maxRecDepth 20000 in
theorem qX4_follow_F23 : Cond.fieldLink RX4 23 "PinFrame$Joints" "known" "I" ∈ wsX4_follow := by decide +kernel
set_option maxRecDepth 20000 in
theorem iX4_follow_X4 : ∀ w ∈ u_ws RX4 TX4 4, w ∈ wsX4_follow := by decide +kernel
set_option maxHeartbeats 4000000 in
set_option maxRecDepth 20000 in
theorem bX4_follow_14 (C : hv_C p s m args meth c cX4_follow 3 wsX4_follow RX4 D (hv_tys cy)) (hr : meth.sig.returnType = none) {n : Nat} {o : hv_St} : ∀ (i : Nat) (σ : hv_St) (x1 : Int32) (x2 : Int32), kX4_follow_14 n i σ x1 x2 = some o → hv_G p l e (headSpec wsX4_follow rmX4_follow).room s m args below meth c 3 D 55 a (hv_XE a cy) 0 0 (hv_MQ D 55 a (hv_XE a cy) below args s none o) σ 14 [(0, .ref (a 17)), (1, .int (x1)), (2, .int (x2))] [] := by
  intro i
  induction i with
  | zero =>
    intro σ x1 x2 h
    cases h
  | succ i ih =>
    intro σ x1 x2 h
    generalize hg : kX4_follow_14 n i = r14 at ih
    have hr14 := ih
    replace h : kX4_follow_14_b n r14 σ x1 x2 = some o := by rw [← hg]; exact h
    unfold kX4_follow_14_b at h
    refine g_iload_n (pc := 14) C 2 dX4_follow_14 rfl rfl ?_
    refine g_bipush (pc := 15) C (v := (6 : Int32)) dX4_follow_15 (by decide) ?_
    refine g_icmp_ge (pc := 17) (tgt := 35) C dX4_follow_17 (by decide) (fun c17 => ?_) (fun c17 => ?_)
    · rw [if_pos c17] at h
      cases h
      exact g_vret (pc := 35) C hr dX4_follow_35
    · rw [if_neg c17] at h
      refine g_iload_n (pc := 20) C 1 dX4_follow_20 rfl rfl ?_
      refine g_if_eq (pc := 21) (tgt := 35) C dX4_follow_21 (by decide) (fun c21 => ?_) (fun c21 => ?_)
      · rw [if_pos c21] at h
        cases h
        exact g_vret (pc := 35) C hr dX4_follow_35
      · rw [if_neg c21] at h
        refine g_aload_n (pc := 24) C 0 dX4_follow_24 rfl rfl ?_
        obtain ⟨r25, s25, hc25, h⟩ := hv_b2_some h
        refine g_callV (pc := 25) (σ1 := s25) (v := (some (.int (r25)))) (As := []) (rest := []) C 17 (vX4_doNext hc25) (cwV 0 C.1.2.2.2.2 gX4_follow_X4_doNext rfl rfl rfl (by decide +kernel) ⟨Nat.le_of_ble_eq_true rfl, Nat.le_of_ble_eq_true rfl⟩) (Nat.le_of_ble_eq_true rfl) rfl rfl rfl rfl (Nat.le_of_ble_eq_true rfl) dX4_follow_25 ⟨Nat.zero_le _, Nat.zero_le _⟩ ?_
        refine g_st (st' := [.int (r25)]) rfl ?_
        refine g_istore_n (pc := 28) C (lv' := [(1, .int (r25)), (0, .ref (a 17)), (2, .int (x2))]) rfl dX4_follow_28 rfl (Nat.le_of_ble_eq_true rfl) rfl ?_
        refine g_iinc (pc := 29) C 2 (v := x2 + 1) (lv' := [(2, .int (x2 + 1)), (1, .int (r25)), (0, .ref (a 17))]) dX4_follow_29 rfl rfl (Nat.le_of_ble_eq_true rfl) rfl ?_
        refine g_goto (pc := 32) C (tgt := 14) dX4_follow_32 (by decide) ?_
        exact g_lv [2, 1, 0] rfl (hr14 s25 (r25) (x2 + 1) h)
set_option maxHeartbeats 4000000 in
set_option maxRecDepth 20000 in
theorem vX4_follow {n : Nat} {σ : hv_St} {o : hv_St} (h : mX4_follow n σ = some o) : hv_M l yX4_follow wsX4_follow rmX4_follow D (hv_tys cy) 55 a (hv_XE a cy) [.ref (a 17)] σ none o := by
  refine hv_enter (own := RX4) (cc := cX4_follow) (maxL := 3) (ret := none) (by decide) rfl rfl (Nat.le_of_ble_eq_true rfl) ?_
  intro p e s m args below meth c C hr
  unfold mX4_follow at h
  refine g_lv [0] (lv' := [(0, .ref (a 17))]) rfl ?_
  refine g_aload_n (pc := 0) C 0 dX4_follow_0 rfl rfl ?_
  refine g_iconst (pc := 1) C (v := (0 : Int32)) dX4_follow_1 (by decide) ?_
  obtain ⟨s2, es2, h⟩ := hv_let_some h
  refine gx_put_17_2 (pc := 2) C es2 iX4_follow_X4 qX4_follow_F19 dX4_follow_2 ?_
  refine g_aload_n (pc := 5) C 0 dX4_follow_5 rfl rfl ?_
  refine g_iconst (pc := 6) C (v := (0 : Int32)) dX4_follow_6 (by decide) ?_
  obtain ⟨s7, es7, h⟩ := hv_let_some h
  refine gx_put_17_3 (pc := 7) C es7 iX4_follow_X4 qX4_follow_F23 dX4_follow_7 ?_
  refine g_iconst (pc := 10) C (v := (1 : Int32)) dX4_follow_10 (by decide) ?_
  refine g_istore_n (pc := 11) C (lv' := [(1, .int ((1 : Int32))), (0, .ref (a 17))]) rfl dX4_follow_11 rfl (Nat.le_of_ble_eq_true rfl) rfl ?_
  refine g_iconst (pc := 12) C (v := (0 : Int32)) dX4_follow_12 (by decide) ?_
  refine g_istore_n (pc := 13) C (lv' := [(2, .int ((0 : Int32))), (1, .int ((1 : Int32))), (0, .ref (a 17))]) rfl dX4_follow_13 rfl (Nat.le_of_ble_eq_true rfl) rfl ?_
  exact g_lv [2, 1, 0] rfl (bX4_follow_14 C hr n s7 ((1 : Int32)) ((0 : Int32)) h)
abbrev rmX5_isSpare : Room := { frames := 0, cells := 0, slots := 0, locals := 0 }
set_option maxRecDepth 20000 in
theorem qX5_isSpare_F31 : Cond.fieldLink RX5 31 "PinFrame$Pulls" "spares" "I" ∈ wsX5_isSpare := by decide +kernel
set_option maxRecDepth 20000 in
theorem iX5_isSpare_X5 : ∀ w ∈ u_ws RX5 TX5 7, w ∈ wsX5_isSpare := by decide +kernel
set_option maxHeartbeats 4000000 in
set_option maxRecDepth 20000 in
theorem bX5_isSpare_16 (C : hv_C p s m args meth c cX5_isSpare 2 wsX5_isSpare RX5 D (hv_tys cy)) (hr : meth.sig.returnType = (some .boolean)) {n : Nat} {o : Int32 × hv_St} : ∀ (σ : hv_St), kX5_isSpare_16 n σ = some o → hv_G p l e (headSpec wsX5_isSpare rmX5_isSpare).room s m args below meth c 2 D 55 a (hv_XE a cy) 0 0 (hv_MQ D 55 a (hv_XE a cy) below args s (some (.int o.1)) o.2) σ 16 [] [] := by
  intro σ h
  unfold kX5_isSpare_16 at h
  refine g_iconst (pc := 16) C (v := (0 : Int32)) dX5_isSpare_16 (by decide) ?_
  cases h
  exact g_zret (pc := 17) (x := (0 : Int32)) C hr (by decide) dX5_isSpare_17
set_option maxHeartbeats 4000000 in
set_option maxRecDepth 20000 in
theorem vX5_isSpare {n : Nat} {σ : hv_St} {p0 : Int32} {o : Int32 × hv_St} (h : mX5_isSpare n σ p0 = some o) : hv_M l yX5_isSpare wsX5_isSpare rmX5_isSpare D (hv_tys cy) 55 a (hv_XE a cy) [.ref (a 13), .int (p0)] σ (some (.int o.1)) o.2 := by
  refine hv_enter (own := RX5) (cc := cX5_isSpare) (maxL := 2) (ret := (some .boolean)) (by decide) rfl rfl (Nat.le_of_ble_eq_true rfl) ?_
  intro p e s m args below meth c C hr
  unfold mX5_isSpare at h
  refine g_lv [0, 1] (lv' := [(0, .ref (a 13)), (1, .int (p0))]) rfl ?_
  refine g_iload_n (pc := 0) C 1 dX5_isSpare_0 rfl rfl ?_
  refine g_if_lt (pc := 1) (tgt := 16) C dX5_isSpare_1 (by decide) (fun c1 => ?_) (fun c1 => ?_)
  · rw [if_pos c1] at h
    exact g_lv [] rfl (bX5_isSpare_16 C hr σ h)
  · rw [if_neg c1] at h
    refine g_iload_n (pc := 4) C 1 dX5_isSpare_4 rfl rfl ?_
    refine g_aload_n (pc := 5) C 0 dX5_isSpare_5 rfl rfl ?_
    refine gx_get_13_5 (pc := 6) C iX5_isSpare_X5 qX5_isSpare_F31 dX5_isSpare_6 ?_
    refine g_icmp_ge (pc := 9) (tgt := 16) C dX5_isSpare_9 (by decide) (fun c9 => ?_) (fun c9 => ?_)
    · rw [if_pos c9] at h
      exact g_lv [] rfl (bX5_isSpare_16 C hr σ h)
    · rw [if_neg c9] at h
      refine g_iconst (pc := 12) C (v := (1 : Int32)) dX5_isSpare_12 (by decide) ?_
      refine g_goto (pc := 13) C (tgt := 17) dX5_isSpare_13 (by decide) ?_
      cases h
      exact g_zret (pc := 17) (x := (1 : Int32)) C hr (by decide) dX5_isSpare_17
abbrev rmX5_layPairs : Room := { frames := 1, cells := 0, slots := 0, locals := 23 }
set_option maxRecDepth 20000 in
theorem qX5_layPairs_F17 : Cond.fieldLink RX5 17 "PinFrame$Pulls" "units" "[[J" ∈ wsX5_layPairs := by decide +kernel
set_option maxRecDepth 20000 in
theorem qX5_layPairs_F20 : Cond.fieldLink RX5 20 "PinFrame$Pulls" "pairs" "[[J" ∈ wsX5_layPairs := by decide +kernel
set_option maxRecDepth 20000 in
theorem qX5_layPairs_F23 : Cond.fieldLink RX5 23 "PinFrame$Pulls" "frame" "LPinFrame$Frame;" ∈ wsX5_layPairs := by decide +kernel
set_option maxRecDepth 20000 in
theorem qX5_layPairs_F27 : Cond.fieldLink RX5 27 "PinFrame$Pulls" "balance" "LPinFrame$Balance;" ∈ wsX5_layPairs := by decide +kernel
set_option maxRecDepth 20000 in
theorem qX5_layPairs_F35 : Cond.fieldLink RX5 35 "PinFrame$Frame" "bars" "I" ∈ wsX5_layPairs := by decide +kernel
set_option maxRecDepth 20000 in
theorem qX5_layPairs_F53 : Cond.fieldLink RX5 53 "PinFrame$Balance" "scale" "J" ∈ wsX5_layPairs := by decide +kernel
set_option maxRecDepth 20000 in
theorem qX5_layPairs_F57 : Cond.fieldLink RX5 57 "PinFrame$Pulls" "whole" "J" ∈ wsX5_layPairs := by decide +kernel
set_option maxRecDepth 20000 in
theorem qX5_layPairs_F87 : Cond.fieldLink RX5 87 "PinFrame$Frame" "give" "[I" ∈ wsX5_layPairs := by decide +kernel
set_option maxRecDepth 20000 in
theorem qX5_layPairs_NI_X7_quotient : Cond.initialized RX7 ∈ wsX5_layPairs := by decide +kernel
set_option maxRecDepth 20000 in
theorem qX5_layPairs_NS_X7_quotient : Cond.static yX7_quotient ∈ wsX5_layPairs := by decide +kernel
set_option maxRecDepth 20000 in
theorem iX5_layPairs_X0 : ∀ w ∈ u_ws RX0 TX0 9, w ∈ wsX5_layPairs := by decide +kernel
set_option maxRecDepth 20000 in
theorem iX5_layPairs_X3 : ∀ w ∈ u_ws RX3 TX3 10, w ∈ wsX5_layPairs := by decide +kernel
set_option maxRecDepth 20000 in
theorem iX5_layPairs_X5 : ∀ w ∈ u_ws RX5 TX5 7, w ∈ wsX5_layPairs := by decide +kernel
set_option maxHeartbeats 4000000 in
set_option maxRecDepth 20000 in
theorem bX5_layPairs_138 (C : hv_C p s m args meth c cX5_layPairs 5 wsX5_layPairs RX5 D (hv_tys cy)) (hr : meth.sig.returnType = none) {n : Nat} {o : hv_St} {r7 : hv_St → Int32 → Option (hv_St)} {r20 : hv_St → Int32 → Int32 → Option (hv_St)} (hr7 : ∀ (σ : hv_St) (x1 : Int32), r7 σ x1 = some o → hv_G p l e (headSpec wsX5_layPairs rmX5_layPairs).room s m args below meth c 5 D 55 a (hv_XE a cy) 0 0 (hv_MQ D 55 a (hv_XE a cy) below args s none o) σ 7 [(0, .ref (a 13)), (1, .int (x1))] []) (hr20 : ∀ (σ : hv_St) (x1 : Int32) (x2 : Int32), r20 σ x1 x2 = some o → hv_G p l e (headSpec wsX5_layPairs rmX5_layPairs).room s m args below meth c 5 D 55 a (hv_XE a cy) 0 0 (hv_MQ D 55 a (hv_XE a cy) below args s none o) σ 20 [(0, .ref (a 13)), (1, .int (x1)), (2, .int (x2))] []) : ∀ (σ : hv_St) (x1 : Int32) (x2 : Int32), kX5_layPairs_138 n r7 r20 σ x1 x2 = some o → hv_G p l e (headSpec wsX5_layPairs rmX5_layPairs).room s m args below meth c 5 D 55 a (hv_XE a cy) 0 0 (hv_MQ D 55 a (hv_XE a cy) below args s none o) σ 138 [(0, .ref (a 13)), (1, .int (x1)), (2, .int (x2))] [] := by
  intro σ x1 x2 h
  unfold kX5_layPairs_138 at h
  refine g_iinc (pc := 138) C 2 (v := x2 + 1) (lv' := [(2, .int (x2 + 1)), (0, .ref (a 13)), (1, .int (x1))]) dX5_layPairs_138 rfl rfl (Nat.le_of_ble_eq_true rfl) rfl ?_
  refine g_goto (pc := 141) C (tgt := 20) dX5_layPairs_141 (by decide) ?_
  exact g_lv [1, 2, 0] rfl (hr20 σ (x1) (x2 + 1) h)
set_option maxHeartbeats 4000000 in
set_option maxRecDepth 20000 in
theorem bX5_layPairs_20 (C : hv_C p s m args meth c cX5_layPairs 5 wsX5_layPairs RX5 D (hv_tys cy)) (hr : meth.sig.returnType = none) {n : Nat} {o : hv_St} {r7 : hv_St → Int32 → Option (hv_St)} (hr7 : ∀ (σ : hv_St) (x1 : Int32), r7 σ x1 = some o → hv_G p l e (headSpec wsX5_layPairs rmX5_layPairs).room s m args below meth c 5 D 55 a (hv_XE a cy) 0 0 (hv_MQ D 55 a (hv_XE a cy) below args s none o) σ 7 [(0, .ref (a 13)), (1, .int (x1))] []) : ∀ (i : Nat) (σ : hv_St) (x1 : Int32) (x2 : Int32), kX5_layPairs_20 n r7 i σ x1 x2 = some o → hv_G p l e (headSpec wsX5_layPairs rmX5_layPairs).room s m args below meth c 5 D 55 a (hv_XE a cy) 0 0 (hv_MQ D 55 a (hv_XE a cy) below args s none o) σ 20 [(0, .ref (a 13)), (1, .int (x1)), (2, .int (x2))] [] := by
  intro i
  induction i with
  | zero =>
    intro σ x1 x2 h
    cases h
  | succ i ih =>
    intro σ x1 x2 h
    generalize hg : kX5_layPairs_20 n r7 i = r20 at ih
    have hr20 := ih
    replace h : kX5_layPairs_20_b n r7 r20 σ x1 x2 = some o := by rw [← hg]; exact h
    unfold kX5_layPairs_20_b at h
    refine g_iload_n (pc := 20) C 2 dX5_layPairs_20 rfl rfl ?_
    refine g_aload_n (pc := 21) C 0 dX5_layPairs_21 rfl rfl ?_
    refine gx_get_13_0 (pc := 22) C iX5_layPairs_X5 qX5_layPairs_F23 dX5_layPairs_22 ?_
    refine gx_get_1_1 (pc := 25) C iX5_layPairs_X3 qX5_layPairs_F35 dX5_layPairs_25 ?_
    refine g_icmp_ge (pc := 28) (tgt := 144) C dX5_layPairs_28 (by decide) (fun c28 => ?_) (fun c28 => ?_)
    · rw [if_pos c28] at h
      refine g_iinc (pc := 144) C 1 (v := x1 + 1) (lv' := [(1, .int (x1 + 1)), (0, .ref (a 13)), (2, .int (x2))]) dX5_layPairs_144 rfl rfl (Nat.le_of_ble_eq_true rfl) rfl ?_
      refine g_goto (pc := 147) C (tgt := 7) dX5_layPairs_147 (by decide) ?_
      exact g_lv [1, 0] rfl (hr7 σ (x1 + 1) h)
    · rw [if_neg c28] at h
      refine g_aload_n (pc := 31) C 0 dX5_layPairs_31 rfl rfl ?_
      refine gx_get_13_3 (pc := 32) C iX5_layPairs_X5 qX5_layPairs_F17 dX5_layPairs_32 ?_
      refine g_iconst (pc := 35) C (v := (0 : Int32)) dX5_layPairs_35 (by decide) ?_
      obtain ⟨k36, h⟩ := hv_if_some h
      refine gx_ld_15 (pc := 36) C k36 dX5_layPairs_36 ?_
      refine g_iload_n (pc := 37) C 1 dX5_layPairs_37 rfl rfl ?_
      obtain ⟨k38, h⟩ := hv_if_some h
      refine gx_ldr_39 (pc := 38) C k36 k38 dX5_layPairs_38 ?_
      refine g_aload_n (pc := 39) C 0 dX5_layPairs_39 rfl rfl ?_
      refine gx_get_13_3 (pc := 40) C iX5_layPairs_X5 qX5_layPairs_F17 dX5_layPairs_40 ?_
      refine g_iconst (pc := 43) C (v := (1 : Int32)) dX5_layPairs_43 (by decide) ?_
      obtain ⟨k44, h⟩ := hv_if_some h
      refine gx_ld_15 (pc := 44) C k44 dX5_layPairs_44 ?_
      refine g_iload_n (pc := 45) C 2 dX5_layPairs_45 rfl rfl ?_
      obtain ⟨k46, h⟩ := hv_if_some h
      refine gx_ldr_39 (pc := 46) C k44 k46 dX5_layPairs_46 ?_
      refine g_lmul (pc := 47) C dX5_layPairs_47 ?_
      refine g_aload_n (pc := 48) C 0 dX5_layPairs_48 rfl rfl ?_
      refine gx_get_13_3 (pc := 49) C iX5_layPairs_X5 qX5_layPairs_F17 dX5_layPairs_49 ?_
      refine g_iconst (pc := 52) C (v := (0 : Int32)) dX5_layPairs_52 (by decide) ?_
      obtain ⟨k53, h⟩ := hv_if_some h
      refine gx_ld_15 (pc := 53) C k53 dX5_layPairs_53 ?_
      refine g_iload_n (pc := 54) C 2 dX5_layPairs_54 rfl rfl ?_
      obtain ⟨k55, h⟩ := hv_if_some h
      refine gx_ldr_39 (pc := 55) C k53 k55 dX5_layPairs_55 ?_
      refine g_aload_n (pc := 56) C 0 dX5_layPairs_56 rfl rfl ?_
      refine gx_get_13_3 (pc := 57) C iX5_layPairs_X5 qX5_layPairs_F17 dX5_layPairs_57 ?_
      refine g_iconst (pc := 60) C (v := (1 : Int32)) dX5_layPairs_60 (by decide) ?_
      obtain ⟨k61, h⟩ := hv_if_some h
      refine gx_ld_15 (pc := 61) C k61 dX5_layPairs_61 ?_
      refine g_iload_n (pc := 62) C 1 dX5_layPairs_62 rfl rfl ?_
      obtain ⟨k63, h⟩ := hv_if_some h
      refine gx_ldr_39 (pc := 63) C k61 k63 dX5_layPairs_63 ?_
      refine g_lmul (pc := 64) C dX5_layPairs_64 ?_
      refine g_lsub (pc := 65) C dX5_layPairs_65 ?_
      obtain ⟨y3_66, ey3_66, h⟩ := hv_let_some h
      refine g_lstore_n (pc := 66) C (lv' := [(3, .long (y3_66)), (0, .ref (a 13)), (1, .int (x1)), (2, .int (x2))]) ey3_66 dX5_layPairs_66 rfl (Nat.le_of_ble_eq_true rfl) rfl ?_
      refine g_aload_n (pc := 67) C 1 dX5_layPairs_67 rfl rfl ?_
      refine gx_get_13_4 (pc := 68) C iX5_layPairs_X5 qX5_layPairs_F20 dX5_layPairs_68 ?_
      refine g_iload_n (pc := 71) C 2 dX5_layPairs_71 rfl rfl ?_
      obtain ⟨k72, h⟩ := hv_if_some h
      refine gx_ld_16 (pc := 72) C k72 dX5_layPairs_72 ?_
      refine g_iload_n (pc := 73) C 3 dX5_layPairs_73 rfl rfl ?_
      refine g_lload_n (pc := 74) C 0 dX5_layPairs_74 rfl rfl ?_
      refine g_aload_n (pc := 75) C 1 dX5_layPairs_75 rfl rfl ?_
      refine gx_get_13_1 (pc := 76) C iX5_layPairs_X5 qX5_layPairs_F27 dX5_layPairs_76 ?_
      refine gx_get_9_8 (pc := 79) C iX5_layPairs_X0 qX5_layPairs_F53 dX5_layPairs_79 ?_
      obtain ⟨r82, s82, hc82, h⟩ := hv_b2_some h
      refine g_callSN (pc := 82) (σ1 := s82) (v := (some (.long (r82)))) (As := [.long (y3_66), .long (σ.2 9 8)]) (rest := [.int (x2), .ref (a (41 + (x1).toNatClampNeg))]) C (vX7_quotient hc82) (va_cnB 2 C.1.2.2.2.2 gX5_layPairs_X7_quotient_n100 rfl rfl rfl (C.2.1.2 _ (List.mem_of_getElem? (i := 8) rfl)) (C.1.2.2.2.2 _ qX5_layPairs_NI_X7_quotient) (by decide +kernel) ⟨Nat.le_of_ble_eq_true rfl, Nat.le_of_ble_eq_true rfl⟩) qX5_layPairs_NS_X7_quotient rfl rfl (Nat.le_of_ble_eq_true rfl) dX5_layPairs_82 ⟨Nat.zero_le _, Nat.zero_le _⟩ ?_
      refine g_st (st' := [.long (r82), .int (x2), .ref (a (41 + (x1).toNatClampNeg))]) rfl ?_
      obtain ⟨k85, h⟩ := hv_if_some h
      obtain ⟨s85, es85, h⟩ := hv_let_some h
      refine gx_str_41 (pc := 85) C es85 k72 k85 dX5_layPairs_85 ?_
      refine g_iload_n (pc := 86) C 2 dX5_layPairs_86 rfl rfl ?_
      refine g_iload_n (pc := 87) C 3 dX5_layPairs_87 rfl rfl ?_
      refine g_icmp_ge (pc := 88) (tgt := 138) C dX5_layPairs_88 (by decide) (fun c88 => ?_) (fun c88 => ?_)
      · rw [if_pos c88] at h
        exact g_lv [1, 2, 3] rfl (bX5_layPairs_138 C hr hr7 hr20 s85 (x1) (x2) h)
      · rw [if_neg c88] at h
        refine g_aload_n (pc := 91) C 1 dX5_layPairs_91 rfl rfl ?_
        refine g_dup (pc := 92) C dX5_layPairs_92 rfl ?_
        refine gx_get_13_6 (pc := 93) C iX5_layPairs_X5 qX5_layPairs_F57 dX5_layPairs_93 ?_
        refine g_aload_n (pc := 96) C 1 dX5_layPairs_96 rfl rfl ?_
        refine gx_get_13_0 (pc := 97) C iX5_layPairs_X5 qX5_layPairs_F23 dX5_layPairs_97 ?_
        refine gx_get_1_8 (pc := 100) C iX5_layPairs_X3 qX5_layPairs_F87 dX5_layPairs_100 ?_
        refine g_iload_n (pc := 103) C 2 dX5_layPairs_103 rfl rfl ?_
        obtain ⟨k104, h⟩ := hv_if_some h
        refine gx_ld_7 (pc := 104) C k104 dX5_layPairs_104 ?_
        refine g_aload_n (pc := 105) C 1 dX5_layPairs_105 rfl rfl ?_
        refine gx_get_13_0 (pc := 106) C iX5_layPairs_X5 qX5_layPairs_F23 dX5_layPairs_106 ?_
        refine gx_get_1_8 (pc := 109) C iX5_layPairs_X3 qX5_layPairs_F87 dX5_layPairs_109 ?_
        refine g_iload_n (pc := 112) C 3 dX5_layPairs_112 rfl rfl ?_
        obtain ⟨k113, h⟩ := hv_if_some h
        refine gx_ld_7 (pc := 113) C k113 dX5_layPairs_113 ?_
        refine g_imul (pc := 114) C dX5_layPairs_114 ?_
        refine g_i2l (pc := 115) C dX5_layPairs_115 ?_
        refine g_aload_n (pc := 116) C 1 dX5_layPairs_116 rfl rfl ?_
        refine gx_get_13_4 (pc := 117) C iX5_layPairs_X5 qX5_layPairs_F20 dX5_layPairs_117 ?_
        refine g_iload_n (pc := 120) C 2 dX5_layPairs_120 rfl rfl ?_
        obtain ⟨k121, h⟩ := hv_if_some h
        refine gx_ld_16 (pc := 121) C k121 dX5_layPairs_121 ?_
        refine g_iload_n (pc := 122) C 3 dX5_layPairs_122 rfl rfl ?_
        obtain ⟨k123, h⟩ := hv_if_some h
        refine gx_ldr_41 (pc := 123) C k121 k123 dX5_layPairs_123 ?_
        refine g_lmul (pc := 124) C dX5_layPairs_124 ?_
        refine g_aload_n (pc := 125) C 1 dX5_layPairs_125 rfl rfl ?_
        refine gx_get_13_4 (pc := 126) C iX5_layPairs_X5 qX5_layPairs_F20 dX5_layPairs_126 ?_
        refine g_iload_n (pc := 129) C 2 dX5_layPairs_129 rfl rfl ?_
        obtain ⟨k130, h⟩ := hv_if_some h
        refine gx_ld_16 (pc := 130) C k130 dX5_layPairs_130 ?_
        refine g_iload_n (pc := 131) C 3 dX5_layPairs_131 rfl rfl ?_
        obtain ⟨k132, h⟩ := hv_if_some h
        refine gx_ldr_41 (pc := 132) C k130 k132 dX5_layPairs_132 ?_
        refine g_lmul (pc := 133) C dX5_layPairs_133 ?_
        refine g_ladd (pc := 134) C dX5_layPairs_134 ?_
        obtain ⟨s135, es135, h⟩ := hv_let_some h
        refine gx_put_13_6 (pc := 135) C es135 iX5_layPairs_X5 qX5_layPairs_F57 dX5_layPairs_135 ?_
        exact g_lv [1, 2, 3] rfl (bX5_layPairs_138 C hr hr7 hr20 s135 (x1) (x2) h)
set_option maxHeartbeats 4000000 in
set_option maxRecDepth 20000 in
theorem bX5_layPairs_7 (C : hv_C p s m args meth c cX5_layPairs 5 wsX5_layPairs RX5 D (hv_tys cy)) (hr : meth.sig.returnType = none) {n : Nat} {o : hv_St} : ∀ (i : Nat) (σ : hv_St) (x1 : Int32), kX5_layPairs_7 n i σ x1 = some o → hv_G p l e (headSpec wsX5_layPairs rmX5_layPairs).room s m args below meth c 5 D 55 a (hv_XE a cy) 0 0 (hv_MQ D 55 a (hv_XE a cy) below args s none o) σ 7 [(0, .ref (a 13)), (1, .int (x1))] [] := by
  intro i
  induction i with
  | zero =>
    intro σ x1 h
    cases h
  | succ i ih =>
    intro σ x1 h
    generalize hg : kX5_layPairs_7 n i = r7 at ih
    have hr7 := ih
    replace h : kX5_layPairs_7_b n r7 σ x1 = some o := by rw [← hg]; exact h
    unfold kX5_layPairs_7_b at h
    refine g_iload_n (pc := 7) C 1 dX5_layPairs_7 rfl rfl ?_
    refine g_aload_n (pc := 8) C 0 dX5_layPairs_8 rfl rfl ?_
    refine gx_get_13_0 (pc := 9) C iX5_layPairs_X5 qX5_layPairs_F23 dX5_layPairs_9 ?_
    refine gx_get_1_1 (pc := 12) C iX5_layPairs_X3 qX5_layPairs_F35 dX5_layPairs_12 ?_
    refine g_icmp_ge (pc := 15) (tgt := 150) C dX5_layPairs_15 (by decide) (fun c15 => ?_) (fun c15 => ?_)
    · rw [if_pos c15] at h
      cases h
      exact g_vret (pc := 150) C hr dX5_layPairs_150
    · rw [if_neg c15] at h
      refine g_iconst (pc := 18) C (v := (0 : Int32)) dX5_layPairs_18 (by decide) ?_
      refine g_istore_n (pc := 19) C (lv' := [(2, .int ((0 : Int32))), (0, .ref (a 13)), (1, .int (x1))]) rfl dX5_layPairs_19 rfl (Nat.le_of_ble_eq_true rfl) rfl ?_
      exact g_lv [1, 2, 0] rfl (bX5_layPairs_20 C hr hr7 n σ (x1) ((0 : Int32)) h)
set_option maxHeartbeats 4000000 in
set_option maxRecDepth 20000 in
theorem vX5_layPairs {n : Nat} {σ : hv_St} {o : hv_St} (h : mX5_layPairs n σ = some o) : hv_M l yX5_layPairs wsX5_layPairs rmX5_layPairs D (hv_tys cy) 55 a (hv_XE a cy) [.ref (a 13)] σ none o := by
  refine hv_enter (own := RX5) (cc := cX5_layPairs) (maxL := 5) (ret := none) (by decide) rfl rfl (Nat.le_of_ble_eq_true rfl) ?_
  intro p e s m args below meth c C hr
  unfold mX5_layPairs at h
  refine g_lv [0] (lv' := [(0, .ref (a 13))]) rfl ?_
  refine g_aload_n (pc := 0) C 0 dX5_layPairs_0 rfl rfl ?_
  refine g_lconst (pc := 1) C (v := (0 : Int64)) dX5_layPairs_1 (by decide) ?_
  obtain ⟨s2, es2, h⟩ := hv_let_some h
  refine gx_put_13_6 (pc := 2) C es2 iX5_layPairs_X5 qX5_layPairs_F57 dX5_layPairs_2 ?_
  refine g_iconst (pc := 5) C (v := (0 : Int32)) dX5_layPairs_5 (by decide) ?_
  refine g_istore_n (pc := 6) C (lv' := [(1, .int ((0 : Int32))), (0, .ref (a 13))]) rfl dX5_layPairs_6 rfl (Nat.le_of_ble_eq_true rfl) rfl ?_
  exact g_lv [1, 0] rfl (bX5_layPairs_7 C hr n s2 ((0 : Int32)) h)
abbrev rmX5_stateOf : Room := { frames := 1, cells := 0, slots := 0, locals := 21 }
set_option maxRecDepth 20000 in
theorem qX5_stateOf_F17 : Cond.fieldLink RX5 17 "PinFrame$Pulls" "units" "[[J" ∈ wsX5_stateOf := by decide +kernel
set_option maxRecDepth 20000 in
theorem qX5_stateOf_F9 : Cond.fieldLink RX5 9 "PinFrame$Pulls" "bare" "[J" ∈ wsX5_stateOf := by decide +kernel
set_option maxRecDepth 20000 in
theorem iX5_stateOf_X5 : ∀ w ∈ u_ws RX5 TX5 7, w ∈ wsX5_stateOf := by decide +kernel
set_option maxHeartbeats 4000000 in
set_option maxRecDepth 20000 in
theorem vX5_stateOf {n : Nat} {σ : hv_St} {p0 : Int32} {p1 : Int32} {o : Int64 × hv_St} (h : mX5_stateOf n σ p0 p1 = some o) : hv_M l yX5_stateOf wsX5_stateOf rmX5_stateOf D (hv_tys cy) 55 a (hv_XE a cy) [.ref (a 13), .int (p0), .int (p1)] σ (some (.long o.1)) o.2 := by
  refine hv_enter (own := RX5) (cc := cX5_stateOf) (maxL := 3) (ret := (some .long)) (by decide) rfl rfl (Nat.le_of_ble_eq_true rfl) ?_
  intro p e s m args below meth c C hr
  unfold mX5_stateOf at h
  refine g_lv [0, 1, 2] (lv' := [(0, .ref (a 13)), (1, .int (p0)), (2, .int (p1))]) rfl ?_
  refine g_aload_n (pc := 0) C 0 dX5_stateOf_0 rfl rfl ?_
  refine g_iload_n (pc := 1) C 1 dX5_stateOf_1 rfl rfl ?_
  obtain ⟨r2, s2, hc2, h⟩ := hv_b2_some h
  refine g_callV (pc := 2) (σ1 := s2) (v := (some (.int (r2)))) (As := [.int (p0)]) (rest := []) C 13 (vX5_isSpare hc2) (cwV 1 C.1.2.2.2.2 gX5_stateOf_X5_isSpare rfl rfl rfl (by decide +kernel) ⟨Nat.le_of_ble_eq_true rfl, Nat.le_of_ble_eq_true rfl⟩) (Nat.le_of_ble_eq_true rfl) rfl rfl rfl rfl (Nat.le_of_ble_eq_true rfl) dX5_stateOf_2 ⟨Nat.zero_le _, Nat.zero_le _⟩ ?_
  refine g_st (st' := [.int (r2)]) rfl ?_
  refine g_if_eq (pc := 5) (tgt := 19) C dX5_stateOf_5 (by decide) (fun c5 => ?_) (fun c5 => ?_)
  · rw [if_pos c5] at h
    refine g_aload_n (pc := 19) C 0 dX5_stateOf_19 rfl rfl ?_
    refine gx_get_13_2 (pc := 20) C iX5_stateOf_X5 qX5_stateOf_F9 dX5_stateOf_20 ?_
    refine g_iload_n (pc := 23) C 2 dX5_stateOf_23 rfl rfl ?_
    obtain ⟨k24, h⟩ := hv_if_some h
    refine gx_ld_14 (pc := 24) C k24 dX5_stateOf_24 ?_
    cases h
    exact g_lret (pc := 25) C hr dX5_stateOf_25
  · rw [if_neg c5] at h
    refine g_aload_n (pc := 8) C 0 dX5_stateOf_8 rfl rfl ?_
    refine gx_get_13_3 (pc := 9) C iX5_stateOf_X5 qX5_stateOf_F17 dX5_stateOf_9 ?_
    refine g_iload_n (pc := 12) C 1 dX5_stateOf_12 rfl rfl ?_
    obtain ⟨k13, h⟩ := hv_if_some h
    refine gx_ld_15 (pc := 13) C k13 dX5_stateOf_13 ?_
    refine g_iload_n (pc := 14) C 2 dX5_stateOf_14 rfl rfl ?_
    obtain ⟨k15, h⟩ := hv_if_some h
    refine gx_ldr_39 (pc := 15) C k13 k15 dX5_stateOf_15 ?_
    refine g_goto (pc := 16) C (tgt := 25) dX5_stateOf_16 (by decide) ?_
    cases h
    exact g_lret (pc := 25) C hr dX5_stateOf_25
abbrev rmX5_giving : Room := { frames := 2, cells := 0, slots := 0, locals := 43 }
set_option maxRecDepth 20000 in
theorem qX5_giving_F23 : Cond.fieldLink RX5 23 "PinFrame$Pulls" "frame" "LPinFrame$Frame;" ∈ wsX5_giving := by decide +kernel
set_option maxRecDepth 20000 in
theorem qX5_giving_F35 : Cond.fieldLink RX5 35 "PinFrame$Frame" "bars" "I" ∈ wsX5_giving := by decide +kernel
set_option maxRecDepth 20000 in
theorem qX5_giving_F87 : Cond.fieldLink RX5 87 "PinFrame$Frame" "give" "[I" ∈ wsX5_giving := by decide +kernel
set_option maxRecDepth 20000 in
theorem iX5_giving_X3 : ∀ w ∈ u_ws RX3 TX3 10, w ∈ wsX5_giving := by decide +kernel
set_option maxRecDepth 20000 in
theorem iX5_giving_X5 : ∀ w ∈ u_ws RX5 TX5 7, w ∈ wsX5_giving := by decide +kernel
set_option maxHeartbeats 4000000 in
set_option maxRecDepth 20000 in
theorem bX5_giving_5 (C : hv_C p s m args meth c cX5_giving 6 wsX5_giving RX5 D (hv_tys cy)) (hr : meth.sig.returnType = (some .long)) {n : Nat} {o : Int64 × hv_St} : ∀ (i : Nat) (σ : hv_St) (x1 : Int32) (x2 : Int32) (x3 : Int64) (x5 : Int32), kX5_giving_5 n i σ x1 x2 x3 x5 = some o → hv_G p l e (headSpec wsX5_giving rmX5_giving).room s m args below meth c 6 D 55 a (hv_XE a cy) 0 0 (hv_MQ D 55 a (hv_XE a cy) below args s (some (.long o.1)) o.2) σ 5 [(0, .ref (a 13)), (1, .int (x1)), (2, .int (x2)), (3, .long (x3)), (5, .int (x5))] [] := by
  intro i
  induction i with
  | zero =>
    intro σ x1 x2 x3 x5 h
    cases h
  | succ i ih =>
    intro σ x1 x2 x3 x5 h
    generalize hg : kX5_giving_5 n i = r5 at ih
    have hr5 := ih
    replace h : kX5_giving_5_b n r5 σ x1 x2 x3 x5 = some o := by rw [← hg]; exact h
    unfold kX5_giving_5_b at h
    refine g_iload (pc := 5) C 4 dX5_giving_5 rfl ?_
    refine g_aload_n (pc := 7) C 0 dX5_giving_7 rfl rfl ?_
    refine gx_get_13_0 (pc := 8) C iX5_giving_X5 qX5_giving_F23 dX5_giving_8 ?_
    refine gx_get_1_1 (pc := 11) C iX5_giving_X3 qX5_giving_F35 dX5_giving_11 ?_
    refine g_icmp_ge (pc := 14) (tgt := 53) C dX5_giving_14 (by decide) (fun c14 => ?_) (fun c14 => ?_)
    · rw [if_pos c14] at h
      refine g_lload_n (pc := 53) C 3 dX5_giving_53 rfl rfl ?_
      cases h
      exact g_lret (pc := 54) C hr dX5_giving_54
    · rw [if_neg c14] at h
      refine g_lload_n (pc := 17) C 3 dX5_giving_17 rfl rfl ?_
      refine g_aload_n (pc := 18) C 0 dX5_giving_18 rfl rfl ?_
      refine gx_get_13_0 (pc := 19) C iX5_giving_X5 qX5_giving_F23 dX5_giving_19 ?_
      refine gx_get_1_8 (pc := 22) C iX5_giving_X3 qX5_giving_F87 dX5_giving_22 ?_
      refine g_iload (pc := 25) C 4 dX5_giving_25 rfl ?_
      obtain ⟨k27, h⟩ := hv_if_some h
      refine gx_ld_7 (pc := 27) C k27 dX5_giving_27 ?_
      refine g_i2l (pc := 28) C dX5_giving_28 ?_
      refine g_aload_n (pc := 29) C 0 dX5_giving_29 rfl rfl ?_
      refine g_iload_n (pc := 30) C 1 dX5_giving_30 rfl rfl ?_
      refine g_iload (pc := 31) C 4 dX5_giving_31 rfl ?_
      obtain ⟨r33, s33, hc33, h⟩ := hv_b2_some h
      refine g_callV (pc := 33) (σ1 := s33) (v := (some (.long (r33)))) (As := [.int (x1), .int (x5)]) (rest := [.long ((σ.1 7 (x5).toNatClampNeg).toInt64), .long (x3)]) C 13 (vX5_stateOf hc33) (cwV 2 C.1.2.2.2.2 gX5_giving_X5_stateOf rfl rfl rfl (by decide +kernel) ⟨Nat.le_of_ble_eq_true rfl, Nat.le_of_ble_eq_true rfl⟩) (Nat.le_of_ble_eq_true rfl) rfl rfl rfl rfl (Nat.le_of_ble_eq_true rfl) dX5_giving_33 ⟨Nat.zero_le _, Nat.zero_le _⟩ ?_
      refine g_st (st' := [.long (r33), .long ((σ.1 7 (x5).toNatClampNeg).toInt64), .long (x3)]) rfl ?_
      refine g_lmul (pc := 36) C dX5_giving_36 ?_
      refine g_aload_n (pc := 37) C 0 dX5_giving_37 rfl rfl ?_
      refine g_iload_n (pc := 38) C 2 dX5_giving_38 rfl rfl ?_
      refine g_iload (pc := 39) C 4 dX5_giving_39 rfl ?_
      obtain ⟨r41, s41, hc41, h⟩ := hv_b2_some h
      refine g_callV (pc := 41) (σ1 := s41) (v := (some (.long (r41)))) (As := [.int (x2), .int (x5)]) (rest := [.long (((σ.1 7 (x5).toNatClampNeg).toInt64) * (r33)), .long (x3)]) C 13 (vX5_stateOf hc41) (cwV 2 C.1.2.2.2.2 gX5_giving_X5_stateOf rfl rfl rfl (by decide +kernel) ⟨Nat.le_of_ble_eq_true rfl, Nat.le_of_ble_eq_true rfl⟩) (Nat.le_of_ble_eq_true rfl) rfl rfl rfl rfl (Nat.le_of_ble_eq_true rfl) dX5_giving_41 ⟨Nat.zero_le _, Nat.zero_le _⟩ ?_
      refine g_st (st' := [.long (r41), .long (((σ.1 7 (x5).toNatClampNeg).toInt64) * (r33)), .long (x3)]) rfl ?_
      refine g_lmul (pc := 44) C dX5_giving_44 ?_
      refine g_ladd (pc := 45) C dX5_giving_45 ?_
      obtain ⟨y3_46, ey3_46, h⟩ := hv_let_some h
      refine g_lstore_n (pc := 46) C (lv' := [(3, .long (y3_46)), (0, .ref (a 13)), (1, .int (x1)), (2, .int (x2)), (5, .int (x5))]) ey3_46 dX5_giving_46 rfl (Nat.le_of_ble_eq_true rfl) rfl ?_
      refine g_iinc (pc := 47) C 4 (v := x5 + 1) (lv' := [(5, .int (x5 + 1)), (3, .long (y3_46)), (0, .ref (a 13)), (1, .int (x1)), (2, .int (x2))]) dX5_giving_47 rfl rfl (Nat.le_of_ble_eq_true rfl) rfl ?_
      refine g_goto (pc := 50) C (tgt := 5) dX5_giving_50 (by decide) ?_
      exact g_lv [2, 3, 4, 1, 0] rfl (hr5 s41 (x1) (x2) (y3_46) (x5 + 1) h)
set_option maxHeartbeats 4000000 in
set_option maxRecDepth 20000 in
theorem vX5_giving {n : Nat} {σ : hv_St} {p0 : Int32} {p1 : Int32} {o : Int64 × hv_St} (h : mX5_giving n σ p0 p1 = some o) : hv_M l yX5_giving wsX5_giving rmX5_giving D (hv_tys cy) 55 a (hv_XE a cy) [.ref (a 13), .int (p0), .int (p1)] σ (some (.long o.1)) o.2 := by
  refine hv_enter (own := RX5) (cc := cX5_giving) (maxL := 6) (ret := (some .long)) (by decide) rfl rfl (Nat.le_of_ble_eq_true rfl) ?_
  intro p e s m args below meth c C hr
  unfold mX5_giving at h
  refine g_lv [0, 1, 2] (lv' := [(0, .ref (a 13)), (1, .int (p0)), (2, .int (p1))]) rfl ?_
  refine g_lconst (pc := 0) C (v := (0 : Int64)) dX5_giving_0 (by decide) ?_
  refine g_lstore_n (pc := 1) C (lv' := [(3, .long ((0 : Int64))), (0, .ref (a 13)), (1, .int (p0)), (2, .int (p1))]) rfl dX5_giving_1 rfl (Nat.le_of_ble_eq_true rfl) rfl ?_
  refine g_iconst (pc := 2) C (v := (0 : Int32)) dX5_giving_2 (by decide) ?_
  refine g_istore (pc := 3) C (lv' := [(5, .int ((0 : Int32))), (3, .long ((0 : Int64))), (0, .ref (a 13)), (1, .int (p0)), (2, .int (p1))]) rfl dX5_giving_3 (Nat.le_of_ble_eq_true rfl) rfl ?_
  exact g_lv [2, 3, 4, 1, 0] rfl (bX5_giving_5 C hr n σ (p0) (p1) ((0 : Int64)) ((0 : Int32)) h)
abbrev rmX5_layUnit : Room := { frames := 0, cells := 0, slots := 0, locals := 0 }
set_option maxRecDepth 20000 in
theorem qX5_layUnit_F17 : Cond.fieldLink RX5 17 "PinFrame$Pulls" "units" "[[J" ∈ wsX5_layUnit := by decide +kernel
set_option maxRecDepth 20000 in
theorem qX5_layUnit_F27 : Cond.fieldLink RX5 27 "PinFrame$Pulls" "balance" "LPinFrame$Balance;" ∈ wsX5_layUnit := by decide +kernel
set_option maxRecDepth 20000 in
theorem qX5_layUnit_F53 : Cond.fieldLink RX5 53 "PinFrame$Balance" "scale" "J" ∈ wsX5_layUnit := by decide +kernel
set_option maxRecDepth 20000 in
theorem qX5_layUnit_F67 : Cond.fieldLink RX5 67 "PinFrame$Balance" "rank" "I" ∈ wsX5_layUnit := by decide +kernel
set_option maxRecDepth 20000 in
theorem qX5_layUnit_F73 : Cond.fieldLink RX5 73 "PinFrame$Balance" "rows" "[[J" ∈ wsX5_layUnit := by decide +kernel
set_option maxRecDepth 20000 in
theorem qX5_layUnit_F80 : Cond.fieldLink RX5 80 "PinFrame$Balance" "baseBar" "[I" ∈ wsX5_layUnit := by decide +kernel
set_option maxRecDepth 20000 in
theorem iX5_layUnit_X0 : ∀ w ∈ u_ws RX0 TX0 9, w ∈ wsX5_layUnit := by decide +kernel
set_option maxRecDepth 20000 in
theorem iX5_layUnit_X5 : ∀ w ∈ u_ws RX5 TX5 7, w ∈ wsX5_layUnit := by decide +kernel
set_option maxHeartbeats 4000000 in
set_option maxRecDepth 20000 in
theorem bX5_layUnit_25 (C : hv_C p s m args meth c cX5_layUnit 4 wsX5_layUnit RX5 D (hv_tys cy)) (hr : meth.sig.returnType = none) {n : Nat} {o : hv_St} : ∀ (i : Nat) (σ : hv_St) (x1 : Int32) (x2 : Int32) (x3 : Int32), kX5_layUnit_25 n i σ x1 x2 x3 = some o → hv_G p l e (headSpec wsX5_layUnit rmX5_layUnit).room s m args below meth c 4 D 55 a (hv_XE a cy) 0 0 (hv_MQ D 55 a (hv_XE a cy) below args s none o) σ 25 [(0, .ref (a 13)), (1, .int (x1)), (2, .int (x2)), (3, .int (x3))] [] := by
  intro i
  induction i with
  | zero =>
    intro σ x1 x2 x3 h
    cases h
  | succ i ih =>
    intro σ x1 x2 x3 h
    generalize hg : kX5_layUnit_25 n i = r25 at ih
    have hr25 := ih
    replace h : kX5_layUnit_25_b n r25 σ x1 x2 x3 = some o := by rw [← hg]; exact h
    unfold kX5_layUnit_25_b at h
    refine g_iload_n (pc := 25) C 3 dX5_layUnit_25 rfl rfl ?_
    refine g_aload_n (pc := 26) C 0 dX5_layUnit_26 rfl rfl ?_
    refine gx_get_13_1 (pc := 27) C iX5_layUnit_X5 qX5_layUnit_F27 dX5_layUnit_27 ?_
    refine gx_get_9_5 (pc := 30) C iX5_layUnit_X0 qX5_layUnit_F67 dX5_layUnit_30 ?_
    refine g_icmp_ge (pc := 33) (tgt := 70) C dX5_layUnit_33 (by decide) (fun c33 => ?_) (fun c33 => ?_)
    · rw [if_pos c33] at h
      refine g_aload_n (pc := 70) C 0 dX5_layUnit_70 rfl rfl ?_
      refine gx_get_13_3 (pc := 71) C iX5_layUnit_X5 qX5_layUnit_F17 dX5_layUnit_71 ?_
      refine g_iload_n (pc := 74) C 1 dX5_layUnit_74 rfl rfl ?_
      obtain ⟨k75, h⟩ := hv_if_some h
      refine gx_ld_15 (pc := 75) C k75 dX5_layUnit_75 ?_
      refine g_iload_n (pc := 76) C 2 dX5_layUnit_76 rfl rfl ?_
      refine g_aload_n (pc := 77) C 0 dX5_layUnit_77 rfl rfl ?_
      refine gx_get_13_1 (pc := 78) C iX5_layUnit_X5 qX5_layUnit_F27 dX5_layUnit_78 ?_
      refine gx_get_9_8 (pc := 81) C iX5_layUnit_X0 qX5_layUnit_F53 dX5_layUnit_81 ?_
      obtain ⟨k84, h⟩ := hv_if_some h
      obtain ⟨s84, es84, h⟩ := hv_let_some h
      refine gx_str_39 (pc := 84) C es84 k75 k84 dX5_layUnit_84 ?_
      cases h
      exact g_vret (pc := 85) C hr dX5_layUnit_85
    · rw [if_neg c33] at h
      refine g_aload_n (pc := 36) C 0 dX5_layUnit_36 rfl rfl ?_
      refine gx_get_13_3 (pc := 37) C iX5_layUnit_X5 qX5_layUnit_F17 dX5_layUnit_37 ?_
      refine g_iload_n (pc := 40) C 1 dX5_layUnit_40 rfl rfl ?_
      obtain ⟨k41, h⟩ := hv_if_some h
      refine gx_ld_15 (pc := 41) C k41 dX5_layUnit_41 ?_
      refine g_aload_n (pc := 42) C 0 dX5_layUnit_42 rfl rfl ?_
      refine gx_get_13_1 (pc := 43) C iX5_layUnit_X5 qX5_layUnit_F27 dX5_layUnit_43 ?_
      refine gx_get_9_3 (pc := 46) C iX5_layUnit_X0 qX5_layUnit_F80 dX5_layUnit_46 ?_
      refine g_iload_n (pc := 49) C 3 dX5_layUnit_49 rfl rfl ?_
      obtain ⟨k50, h⟩ := hv_if_some h
      refine gx_ld_12 (pc := 50) C k50 dX5_layUnit_50 ?_
      refine g_aload_n (pc := 51) C 0 dX5_layUnit_51 rfl rfl ?_
      refine gx_get_13_1 (pc := 52) C iX5_layUnit_X5 qX5_layUnit_F27 dX5_layUnit_52 ?_
      refine gx_get_9_1 (pc := 55) C iX5_layUnit_X0 qX5_layUnit_F73 dX5_layUnit_55 ?_
      refine g_iload_n (pc := 58) C 3 dX5_layUnit_58 rfl rfl ?_
      obtain ⟨k59, h⟩ := hv_if_some h
      refine gx_ld_10 (pc := 59) C k59 dX5_layUnit_59 ?_
      refine g_iload_n (pc := 60) C 2 dX5_layUnit_60 rfl rfl ?_
      obtain ⟨k61, h⟩ := hv_if_some h
      refine gx_ldr_27 (pc := 61) C k59 k61 dX5_layUnit_61 ?_
      refine g_lneg (pc := 62) C dX5_layUnit_62 ?_
      obtain ⟨k63, h⟩ := hv_if_some h
      obtain ⟨s63, es63, h⟩ := hv_let_some h
      refine gx_str_39 (pc := 63) C es63 k41 k63 dX5_layUnit_63 ?_
      refine g_iinc (pc := 64) C 3 (v := x3 + 1) (lv' := [(3, .int (x3 + 1)), (0, .ref (a 13)), (1, .int (x1)), (2, .int (x2))]) dX5_layUnit_64 rfl rfl (Nat.le_of_ble_eq_true rfl) rfl ?_
      refine g_goto (pc := 67) C (tgt := 25) dX5_layUnit_67 (by decide) ?_
      exact g_lv [1, 2, 3, 0] rfl (hr25 s63 (x1) (x2) (x3 + 1) h)
set_option maxHeartbeats 4000000 in
set_option maxRecDepth 20000 in
theorem bX5_layUnit_2 (C : hv_C p s m args meth c cX5_layUnit 4 wsX5_layUnit RX5 D (hv_tys cy)) (hr : meth.sig.returnType = none) {n : Nat} {o : hv_St} : ∀ (i : Nat) (σ : hv_St) (x1 : Int32) (x2 : Int32) (x3 : Int32), kX5_layUnit_2 n i σ x1 x2 x3 = some o → hv_G p l e (headSpec wsX5_layUnit rmX5_layUnit).room s m args below meth c 4 D 55 a (hv_XE a cy) 0 0 (hv_MQ D 55 a (hv_XE a cy) below args s none o) σ 2 [(0, .ref (a 13)), (1, .int (x1)), (2, .int (x2)), (3, .int (x3))] [] := by
  intro i
  induction i with
  | zero =>
    intro σ x1 x2 x3 h
    cases h
  | succ i ih =>
    intro σ x1 x2 x3 h
    generalize hg : kX5_layUnit_2 n i = r2 at ih
    have hr2 := ih
    replace h : kX5_layUnit_2_b n r2 σ x1 x2 x3 = some o := by rw [← hg]; exact h
    unfold kX5_layUnit_2_b at h
    refine g_iload_n (pc := 2) C 3 dX5_layUnit_2 rfl rfl ?_
    refine g_bipush (pc := 3) C (v := (11 : Int32)) dX5_layUnit_3 (by decide) ?_
    refine g_icmp_ge (pc := 5) (tgt := 23) C dX5_layUnit_5 (by decide) (fun c5 => ?_) (fun c5 => ?_)
    · rw [if_pos c5] at h
      refine g_iconst (pc := 23) C (v := (0 : Int32)) dX5_layUnit_23 (by decide) ?_
      refine g_istore_n (pc := 24) C (lv' := [(3, .int ((0 : Int32))), (0, .ref (a 13)), (1, .int (x1)), (2, .int (x2))]) rfl dX5_layUnit_24 rfl (Nat.le_of_ble_eq_true rfl) rfl ?_
      exact g_lv [1, 2, 3, 0] rfl (bX5_layUnit_25 C hr n σ (x1) (x2) ((0 : Int32)) h)
    · rw [if_neg c5] at h
      refine g_aload_n (pc := 8) C 0 dX5_layUnit_8 rfl rfl ?_
      refine gx_get_13_3 (pc := 9) C iX5_layUnit_X5 qX5_layUnit_F17 dX5_layUnit_9 ?_
      refine g_iload_n (pc := 12) C 1 dX5_layUnit_12 rfl rfl ?_
      obtain ⟨k13, h⟩ := hv_if_some h
      refine gx_ld_15 (pc := 13) C k13 dX5_layUnit_13 ?_
      refine g_iload_n (pc := 14) C 3 dX5_layUnit_14 rfl rfl ?_
      refine g_lconst (pc := 15) C (v := (0 : Int64)) dX5_layUnit_15 (by decide) ?_
      obtain ⟨k16, h⟩ := hv_if_some h
      obtain ⟨s16, es16, h⟩ := hv_let_some h
      refine gx_str_39 (pc := 16) C es16 k13 k16 dX5_layUnit_16 ?_
      refine g_iinc (pc := 17) C 3 (v := x3 + 1) (lv' := [(3, .int (x3 + 1)), (0, .ref (a 13)), (1, .int (x1)), (2, .int (x2))]) dX5_layUnit_17 rfl rfl (Nat.le_of_ble_eq_true rfl) rfl ?_
      refine g_goto (pc := 20) C (tgt := 2) dX5_layUnit_20 (by decide) ?_
      exact g_lv [1, 2, 3, 0] rfl (hr2 s16 (x1) (x2) (x3 + 1) h)
set_option maxHeartbeats 4000000 in
set_option maxRecDepth 20000 in
theorem vX5_layUnit {n : Nat} {σ : hv_St} {p0 : Int32} {p1 : Int32} {o : hv_St} (h : mX5_layUnit n σ p0 p1 = some o) : hv_M l yX5_layUnit wsX5_layUnit rmX5_layUnit D (hv_tys cy) 55 a (hv_XE a cy) [.ref (a 13), .int (p0), .int (p1)] σ none o := by
  refine hv_enter (own := RX5) (cc := cX5_layUnit) (maxL := 4) (ret := none) (by decide) rfl rfl (Nat.le_of_ble_eq_true rfl) ?_
  intro p e s m args below meth c C hr
  unfold mX5_layUnit at h
  refine g_lv [0, 1, 2] (lv' := [(0, .ref (a 13)), (1, .int (p0)), (2, .int (p1))]) rfl ?_
  refine g_iconst (pc := 0) C (v := (0 : Int32)) dX5_layUnit_0 (by decide) ?_
  refine g_istore_n (pc := 1) C (lv' := [(3, .int ((0 : Int32))), (0, .ref (a 13)), (1, .int (p0)), (2, .int (p1))]) rfl dX5_layUnit_1 rfl (Nat.le_of_ble_eq_true rfl) rfl ?_
  exact g_lv [1, 2, 3, 0] rfl (bX5_layUnit_2 C hr n σ (p0) (p1) ((0 : Int32)) h)
abbrev rmX5_prepare : Room := { frames := 3, cells := 0, slots := 0, locals := 68 }
set_option maxRecDepth 20000 in
theorem qX5_prepare_F23 : Cond.fieldLink RX5 23 "PinFrame$Pulls" "frame" "LPinFrame$Frame;" ∈ wsX5_prepare := by decide +kernel
set_option maxRecDepth 20000 in
theorem qX5_prepare_F27 : Cond.fieldLink RX5 27 "PinFrame$Pulls" "balance" "LPinFrame$Balance;" ∈ wsX5_prepare := by decide +kernel
set_option maxRecDepth 20000 in
theorem qX5_prepare_F31 : Cond.fieldLink RX5 31 "PinFrame$Pulls" "spares" "I" ∈ wsX5_prepare := by decide +kernel
set_option maxRecDepth 20000 in
theorem qX5_prepare_F35 : Cond.fieldLink RX5 35 "PinFrame$Frame" "bars" "I" ∈ wsX5_prepare := by decide +kernel
set_option maxRecDepth 20000 in
theorem qX5_prepare_F40 : Cond.fieldLink RX5 40 "PinFrame$Balance" "spare" "I" ∈ wsX5_prepare := by decide +kernel
set_option maxRecDepth 20000 in
theorem qX5_prepare_F53 : Cond.fieldLink RX5 53 "PinFrame$Balance" "scale" "J" ∈ wsX5_prepare := by decide +kernel
set_option maxRecDepth 20000 in
theorem qX5_prepare_F57 : Cond.fieldLink RX5 57 "PinFrame$Pulls" "whole" "J" ∈ wsX5_prepare := by decide +kernel
set_option maxRecDepth 20000 in
theorem qX5_prepare_NI_X7_has : Cond.initialized RX7 ∈ wsX5_prepare := by decide +kernel
set_option maxRecDepth 20000 in
theorem qX5_prepare_NS_X7_has : Cond.static yX7_has ∈ wsX5_prepare := by decide +kernel
set_option maxRecDepth 20000 in
theorem iX5_prepare_X0 : ∀ w ∈ u_ws RX0 TX0 9, w ∈ wsX5_prepare := by decide +kernel
set_option maxRecDepth 20000 in
theorem iX5_prepare_X3 : ∀ w ∈ u_ws RX3 TX3 10, w ∈ wsX5_prepare := by decide +kernel
set_option maxRecDepth 20000 in
theorem iX5_prepare_X5 : ∀ w ∈ u_ws RX5 TX5 7, w ∈ wsX5_prepare := by decide +kernel
set_option maxHeartbeats 4000000 in
set_option maxRecDepth 20000 in
theorem bX5_prepare_59 (C : hv_C p s m args meth c cX5_prepare 2 wsX5_prepare RX5 D (hv_tys cy)) (hr : meth.sig.returnType = none) {n : Nat} {o : hv_St} {r7 : hv_St → Int32 → Option (hv_St)} (hr7 : ∀ (σ : hv_St) (x1 : Int32), r7 σ x1 = some o → hv_G p l e (headSpec wsX5_prepare rmX5_prepare).room s m args below meth c 2 D 55 a (hv_XE a cy) 0 0 (hv_MQ D 55 a (hv_XE a cy) below args s none o) σ 7 [(0, .ref (a 13)), (1, .int (x1))] []) : ∀ (σ : hv_St) (x1 : Int32), kX5_prepare_59 n r7 σ x1 = some o → hv_G p l e (headSpec wsX5_prepare rmX5_prepare).room s m args below meth c 2 D 55 a (hv_XE a cy) 0 0 (hv_MQ D 55 a (hv_XE a cy) below args s none o) σ 59 [(0, .ref (a 13)), (1, .int (x1))] [] := by
  intro σ x1 h
  unfold kX5_prepare_59 at h
  refine g_iinc (pc := 59) C 1 (v := x1 + 1) (lv' := [(1, .int (x1 + 1)), (0, .ref (a 13))]) dX5_prepare_59 rfl rfl (Nat.le_of_ble_eq_true rfl) rfl ?_
  refine g_goto (pc := 62) C (tgt := 7) dX5_prepare_62 (by decide) ?_
  exact g_lv [1, 0] rfl (hr7 σ (x1 + 1) h)
set_option maxHeartbeats 4000000 in
set_option maxRecDepth 20000 in
theorem bX5_prepare_7 (C : hv_C p s m args meth c cX5_prepare 2 wsX5_prepare RX5 D (hv_tys cy)) (hr : meth.sig.returnType = none) {n : Nat} {o : hv_St} : ∀ (i : Nat) (σ : hv_St) (x1 : Int32), kX5_prepare_7 n i σ x1 = some o → hv_G p l e (headSpec wsX5_prepare rmX5_prepare).room s m args below meth c 2 D 55 a (hv_XE a cy) 0 0 (hv_MQ D 55 a (hv_XE a cy) below args s none o) σ 7 [(0, .ref (a 13)), (1, .int (x1))] [] := by
  intro i
  induction i with
  | zero =>
    intro σ x1 h
    cases h
  | succ i ih =>
    intro σ x1 h
    generalize hg : kX5_prepare_7 n i = r7 at ih
    have hr7 := ih
    replace h : kX5_prepare_7_b n r7 σ x1 = some o := by rw [← hg]; exact h
    unfold kX5_prepare_7_b at h
    refine g_iload_n (pc := 7) C 1 dX5_prepare_7 rfl rfl ?_
    refine g_aload_n (pc := 8) C 0 dX5_prepare_8 rfl rfl ?_
    refine gx_get_13_0 (pc := 9) C iX5_prepare_X5 qX5_prepare_F23 dX5_prepare_9 ?_
    refine gx_get_1_1 (pc := 12) C iX5_prepare_X3 qX5_prepare_F35 dX5_prepare_12 ?_
    refine g_icmp_ge (pc := 15) (tgt := 65) C dX5_prepare_15 (by decide) (fun c15 => ?_) (fun c15 => ?_)
    · rw [if_pos c15] at h
      refine g_aload_n (pc := 65) C 0 dX5_prepare_65 rfl rfl ?_
      refine gx_get_13_5 (pc := 66) C iX5_prepare_X5 qX5_prepare_F31 dX5_prepare_66 ?_
      refine g_if_ne (pc := 69) (tgt := 86) C dX5_prepare_69 (by decide) (fun c69 => ?_) (fun c69 => ?_)
      · rw [if_neg c69] at h
        refine g_aload_n (pc := 86) C 0 dX5_prepare_86 rfl rfl ?_
        refine gx_get_13_5 (pc := 87) C iX5_prepare_X5 qX5_prepare_F31 dX5_prepare_87 ?_
        refine g_iconst (pc := 90) C (v := (1 : Int32)) dX5_prepare_90 (by decide) ?_
        refine g_icmp_ne (pc := 91) (tgt := 107) C dX5_prepare_91 (by decide) (fun c91 => ?_) (fun c91 => ?_)
        · rw [if_neg c91] at h
          refine g_aload_n (pc := 107) C 0 dX5_prepare_107 rfl rfl ?_
          obtain ⟨s108, hc108, h⟩ := hv_bd_some h
          refine g_callV (pc := 108) (σ1 := s108) (v := none) (As := []) (rest := []) C 13 (vX5_layPairs hc108) (cwV 0 C.1.2.2.2.2 gX5_prepare_X5_layPairs rfl rfl rfl (by decide +kernel) ⟨Nat.le_of_ble_eq_true rfl, Nat.le_of_ble_eq_true rfl⟩) (Nat.le_of_ble_eq_true rfl) rfl rfl rfl rfl (Nat.le_of_ble_eq_true rfl) dX5_prepare_108 ⟨Nat.zero_le _, Nat.zero_le _⟩ ?_
          refine g_st (st' := []) rfl ?_
          cases h
          exact g_vret (pc := 111) C hr dX5_prepare_111
        · rw [if_pos c91] at h
          refine g_aload_n (pc := 94) C 0 dX5_prepare_94 rfl rfl ?_
          refine g_aload_n (pc := 95) C 0 dX5_prepare_95 rfl rfl ?_
          refine g_iconst (pc := 96) C (v := (0 : Int32)) dX5_prepare_96 (by decide) ?_
          refine g_iconst (pc := 97) C (v := (0 : Int32)) dX5_prepare_97 (by decide) ?_
          obtain ⟨r98, s98, hc98, h⟩ := hv_b2_some h
          refine g_callV (pc := 98) (σ1 := s98) (v := (some (.long (r98)))) (As := [.int ((0 : Int32)), .int ((0 : Int32))]) (rest := [.ref (a 13)]) C 13 (vX5_giving hc98) (cwV 2 C.1.2.2.2.2 gX5_prepare_X5_giving rfl rfl rfl (by decide +kernel) ⟨Nat.le_of_ble_eq_true rfl, Nat.le_of_ble_eq_true rfl⟩) (Nat.le_of_ble_eq_true rfl) rfl rfl rfl rfl (Nat.le_of_ble_eq_true rfl) dX5_prepare_98 ⟨Nat.zero_le _, Nat.zero_le _⟩ ?_
          refine g_st (st' := [.long (r98), .ref (a 13)]) rfl ?_
          obtain ⟨s101, es101, h⟩ := hv_let_some h
          refine gx_put_13_6 (pc := 101) C es101 iX5_prepare_X5 qX5_prepare_F57 dX5_prepare_101 ?_
          refine g_goto (pc := 104) C (tgt := 111) dX5_prepare_104 (by decide) ?_
          cases h
          exact g_vret (pc := 111) C hr dX5_prepare_111
      · rw [if_pos c69] at h
        refine g_aload_n (pc := 72) C 0 dX5_prepare_72 rfl rfl ?_
        refine g_aload_n (pc := 73) C 0 dX5_prepare_73 rfl rfl ?_
        refine gx_get_13_1 (pc := 74) C iX5_prepare_X5 qX5_prepare_F27 dX5_prepare_74 ?_
        refine gx_get_9_8 (pc := 77) C iX5_prepare_X0 qX5_prepare_F53 dX5_prepare_77 ?_
        obtain ⟨s80, es80, h⟩ := hv_let_some h
        refine gx_put_13_6 (pc := 80) C es80 iX5_prepare_X5 qX5_prepare_F57 dX5_prepare_80 ?_
        refine g_goto (pc := 83) C (tgt := 111) dX5_prepare_83 (by decide) ?_
        cases h
        exact g_vret (pc := 111) C hr dX5_prepare_111
    · rw [if_neg c15] at h
      refine g_aload_n (pc := 18) C 0 dX5_prepare_18 rfl rfl ?_
      refine gx_get_13_1 (pc := 19) C iX5_prepare_X5 qX5_prepare_F27 dX5_prepare_19 ?_
      refine gx_get_9_7 (pc := 22) C iX5_prepare_X0 qX5_prepare_F40 dX5_prepare_22 ?_
      refine g_iload_n (pc := 25) C 1 dX5_prepare_25 rfl rfl ?_
      obtain ⟨r26, s26, hc26, h⟩ := hv_b2_some h
      refine g_callSN (pc := 26) (σ1 := s26) (v := (some (.int (r26)))) (As := [.int (σ.1 9 7), .int (x1)]) (rest := []) C (vX7_has hc26) (va_cnB 2 C.1.2.2.2.2 gX5_prepare_X7_has_n45 rfl rfl rfl (C.2.1.2 _ (List.mem_of_getElem? (i := 7) rfl)) (C.1.2.2.2.2 _ qX5_prepare_NI_X7_has) (by decide +kernel) ⟨Nat.le_of_ble_eq_true rfl, Nat.le_of_ble_eq_true rfl⟩) qX5_prepare_NS_X7_has rfl rfl (Nat.le_of_ble_eq_true rfl) dX5_prepare_26 ⟨Nat.zero_le _, Nat.zero_le _⟩ ?_
      refine g_st (st' := [.int (r26)]) rfl ?_
      refine g_if_eq (pc := 29) (tgt := 59) C dX5_prepare_29 (by decide) (fun c29 => ?_) (fun c29 => ?_)
      · rw [if_pos c29] at h
        exact g_lv [0, 1] rfl (bX5_prepare_59 C hr hr7 s26 (x1) h)
      · rw [if_neg c29] at h
        refine g_aload_n (pc := 32) C 0 dX5_prepare_32 rfl rfl ?_
        refine gx_get_13_5 (pc := 33) C iX5_prepare_X5 qX5_prepare_F31 dX5_prepare_33 ?_
        refine g_iconst (pc := 36) C (v := (2 : Int32)) dX5_prepare_36 (by decide) ?_
        refine g_icmp_ge (pc := 37) (tgt := 59) C dX5_prepare_37 (by decide) (fun c37 => ?_) (fun c37 => ?_)
        · rw [if_pos c37] at h
          exact g_lv [0, 1] rfl (bX5_prepare_59 C hr hr7 s26 (x1) h)
        · rw [if_neg c37] at h
          refine g_aload_n (pc := 40) C 0 dX5_prepare_40 rfl rfl ?_
          refine g_aload_n (pc := 41) C 0 dX5_prepare_41 rfl rfl ?_
          refine gx_get_13_5 (pc := 42) C iX5_prepare_X5 qX5_prepare_F31 dX5_prepare_42 ?_
          refine g_iload_n (pc := 45) C 1 dX5_prepare_45 rfl rfl ?_
          obtain ⟨s46, hc46, h⟩ := hv_bd_some h
          refine g_callV (pc := 46) (σ1 := s46) (v := none) (As := [.int (s26.1 13 5), .int (x1)]) (rest := []) C 13 (vX5_layUnit hc46) (cwV 2 C.1.2.2.2.2 gX5_prepare_X5_layUnit rfl rfl rfl (by decide +kernel) ⟨Nat.le_of_ble_eq_true rfl, Nat.le_of_ble_eq_true rfl⟩) (Nat.le_of_ble_eq_true rfl) rfl rfl rfl rfl (Nat.le_of_ble_eq_true rfl) dX5_prepare_46 ⟨Nat.zero_le _, Nat.zero_le _⟩ ?_
          refine g_st (st' := []) rfl ?_
          refine g_aload_n (pc := 49) C 0 dX5_prepare_49 rfl rfl ?_
          refine g_dup (pc := 50) C dX5_prepare_50 rfl ?_
          refine gx_get_13_5 (pc := 51) C iX5_prepare_X5 qX5_prepare_F31 dX5_prepare_51 ?_
          refine g_iconst (pc := 54) C (v := (1 : Int32)) dX5_prepare_54 (by decide) ?_
          refine g_iadd (pc := 55) C dX5_prepare_55 ?_
          obtain ⟨s56, es56, h⟩ := hv_let_some h
          refine gx_put_13_5 (pc := 56) C es56 iX5_prepare_X5 qX5_prepare_F31 dX5_prepare_56 ?_
          exact g_lv [0, 1] rfl (bX5_prepare_59 C hr hr7 s56 (x1) h)
set_option maxHeartbeats 4000000 in
set_option maxRecDepth 20000 in
theorem vX5_prepare {n : Nat} {σ : hv_St} {o : hv_St} (h : mX5_prepare n σ = some o) : hv_M l yX5_prepare wsX5_prepare rmX5_prepare D (hv_tys cy) 55 a (hv_XE a cy) [.ref (a 13)] σ none o := by
  refine hv_enter (own := RX5) (cc := cX5_prepare) (maxL := 2) (ret := none) (by decide) rfl rfl (Nat.le_of_ble_eq_true rfl) ?_
  intro p e s m args below meth c C hr
  unfold mX5_prepare at h
  refine g_lv [0] (lv' := [(0, .ref (a 13))]) rfl ?_
  refine g_aload_n (pc := 0) C 0 dX5_prepare_0 rfl rfl ?_
  refine g_iconst (pc := 1) C (v := (0 : Int32)) dX5_prepare_1 (by decide) ?_
  obtain ⟨s2, es2, h⟩ := hv_let_some h
  refine gx_put_13_5 (pc := 2) C es2 iX5_prepare_X5 qX5_prepare_F31 dX5_prepare_2 ?_
  refine g_iconst (pc := 5) C (v := (0 : Int32)) dX5_prepare_5 (by decide) ?_
  refine g_istore_n (pc := 6) C (lv' := [(1, .int ((0 : Int32))), (0, .ref (a 13))]) rfl dX5_prepare_6 rfl (Nat.le_of_ble_eq_true rfl) rfl ?_
  exact g_lv [1, 0] rfl (bX5_prepare_7 C hr n s2 ((0 : Int32)) h)
abbrev rmX5_bear : Room := { frames := 0, cells := 0, slots := 0, locals := 0 }
set_option maxRecDepth 20000 in
theorem qX5_bear_F23 : Cond.fieldLink RX5 23 "PinFrame$Pulls" "frame" "LPinFrame$Frame;" ∈ wsX5_bear := by decide +kernel
set_option maxRecDepth 20000 in
theorem qX5_bear_F27 : Cond.fieldLink RX5 27 "PinFrame$Pulls" "balance" "LPinFrame$Balance;" ∈ wsX5_bear := by decide +kernel
set_option maxRecDepth 20000 in
theorem qX5_bear_F35 : Cond.fieldLink RX5 35 "PinFrame$Frame" "bars" "I" ∈ wsX5_bear := by decide +kernel
set_option maxRecDepth 20000 in
theorem qX5_bear_F67 : Cond.fieldLink RX5 67 "PinFrame$Balance" "rank" "I" ∈ wsX5_bear := by decide +kernel
set_option maxRecDepth 20000 in
theorem qX5_bear_F70 : Cond.fieldLink RX5 70 "PinFrame$Balance" "free" "I" ∈ wsX5_bear := by decide +kernel
set_option maxRecDepth 20000 in
theorem qX5_bear_F73 : Cond.fieldLink RX5 73 "PinFrame$Balance" "rows" "[[J" ∈ wsX5_bear := by decide +kernel
set_option maxRecDepth 20000 in
theorem qX5_bear_F76 : Cond.fieldLink RX5 76 "PinFrame$Balance" "slotOf" "[I" ∈ wsX5_bear := by decide +kernel
set_option maxRecDepth 20000 in
theorem qX5_bear_F80 : Cond.fieldLink RX5 80 "PinFrame$Balance" "baseBar" "[I" ∈ wsX5_bear := by decide +kernel
set_option maxRecDepth 20000 in
theorem qX5_bear_F9 : Cond.fieldLink RX5 9 "PinFrame$Pulls" "bare" "[J" ∈ wsX5_bear := by decide +kernel
set_option maxRecDepth 20000 in
theorem iX5_bear_X0 : ∀ w ∈ u_ws RX0 TX0 9, w ∈ wsX5_bear := by decide +kernel
set_option maxRecDepth 20000 in
theorem iX5_bear_X3 : ∀ w ∈ u_ws RX3 TX3 10, w ∈ wsX5_bear := by decide +kernel
set_option maxRecDepth 20000 in
theorem iX5_bear_X5 : ∀ w ∈ u_ws RX5 TX5 7, w ∈ wsX5_bear := by decide +kernel
set_option maxHeartbeats 4000000 in
set_option maxRecDepth 20000 in
theorem bX5_bear_39 {q : Nat} (hq : q = 3 ∨ q = 25) (C : hv_C p s m args meth c cX5_bear 6 wsX5_bear RX5 D (hv_tys cy)) (hr : meth.sig.returnType = none) {n : Nat} {o : hv_St} {r23 : hv_St → Int32 → Option (hv_St)} (hr23 : ∀ (σ : hv_St) (x2 : Int32), r23 σ x2 = some o → hv_G p l e (headSpec wsX5_bear rmX5_bear).room s m args below meth c 6 D 55 a (hv_XE a cy) 0 0 (hv_MQ D 55 a (hv_XE a cy) below args s none o) σ 23 [(0, .ref (a 13)), (1, .ref (a q)), (2, .int (x2))] []) : ∀ (i : Nat) (σ : hv_St) (x2 : Int32) (x3 : Int64) (x5 : Int32), kX5_bear_39 q n r23 i σ x2 x3 x5 = some o → hv_G p l e (headSpec wsX5_bear rmX5_bear).room s m args below meth c 6 D 55 a (hv_XE a cy) 0 0 (hv_MQ D 55 a (hv_XE a cy) below args s none o) σ 39 [(0, .ref (a 13)), (1, .ref (a q)), (2, .int (x2)), (3, .long (x3)), (5, .int (x5))] [] := by
  intro i
  induction i with
  | zero =>
    intro σ x2 x3 x5 h
    cases h
  | succ i ih =>
    intro σ x2 x3 x5 h
    generalize hg : kX5_bear_39 q n r23 i = r39 at ih
    have hr39 := ih
    replace h : kX5_bear_39_b q n r23 r39 σ x2 x3 x5 = some o := by rw [← hg]; exact h
    unfold kX5_bear_39_b at h
    refine g_iload (pc := 39) C 4 dX5_bear_39 rfl ?_
    refine g_aload_n (pc := 41) C 0 dX5_bear_41 rfl rfl ?_
    refine gx_get_13_1 (pc := 42) C iX5_bear_X5 qX5_bear_F27 dX5_bear_42 ?_
    refine gx_get_9_4 (pc := 45) C iX5_bear_X0 qX5_bear_F70 dX5_bear_45 ?_
    refine g_icmp_ge (pc := 48) (tgt := 94) C dX5_bear_48 (by decide) (fun c48 => ?_) (fun c48 => ?_)
    · rw [if_pos c48] at h
      refine g_aload_n (pc := 94) C 0 dX5_bear_94 rfl rfl ?_
      refine gx_get_13_2 (pc := 95) C iX5_bear_X5 qX5_bear_F9 dX5_bear_95 ?_
      refine g_aload_n (pc := 98) C 0 dX5_bear_98 rfl rfl ?_
      refine gx_get_13_1 (pc := 99) C iX5_bear_X5 qX5_bear_F27 dX5_bear_99 ?_
      refine gx_get_9_3 (pc := 102) C iX5_bear_X0 qX5_bear_F80 dX5_bear_102 ?_
      refine g_iload_n (pc := 105) C 2 dX5_bear_105 rfl rfl ?_
      obtain ⟨k106, h⟩ := hv_if_some h
      refine gx_ld_12 (pc := 106) C k106 dX5_bear_106 ?_
      refine g_lload_n (pc := 107) C 3 dX5_bear_107 rfl rfl ?_
      refine g_lneg (pc := 108) C dX5_bear_108 ?_
      obtain ⟨k109, h⟩ := hv_if_some h
      obtain ⟨s109, es109, h⟩ := hv_let_some h
      refine gx_st_14 (pc := 109) C es109 k109 dX5_bear_109 ?_
      refine g_iinc (pc := 110) C 2 (v := x2 + 1) (lv' := [(2, .int (x2 + 1)), (0, .ref (a 13)), (1, .ref (a q)), (3, .long (x3)), (5, .int (x5))]) dX5_bear_110 rfl rfl (Nat.le_of_ble_eq_true rfl) rfl ?_
      refine g_goto (pc := 113) C (tgt := 23) dX5_bear_113 (by decide) ?_
      exact g_lv [1, 2, 0] rfl (hr23 s109 (x2 + 1) h)
    · rw [if_neg c48] at h
      refine g_lload_n (pc := 51) C 3 dX5_bear_51 rfl rfl ?_
      refine g_aload_n (pc := 52) C 0 dX5_bear_52 rfl rfl ?_
      refine gx_get_13_1 (pc := 53) C iX5_bear_X5 qX5_bear_F27 dX5_bear_53 ?_
      refine gx_get_9_1 (pc := 56) C iX5_bear_X0 qX5_bear_F73 dX5_bear_56 ?_
      refine g_iload_n (pc := 59) C 2 dX5_bear_59 rfl rfl ?_
      obtain ⟨k60, h⟩ := hv_if_some h
      refine gx_ld_10 (pc := 60) C k60 dX5_bear_60 ?_
      refine g_aload_n (pc := 61) C 0 dX5_bear_61 rfl rfl ?_
      refine gx_get_13_0 (pc := 62) C iX5_bear_X5 qX5_bear_F23 dX5_bear_62 ?_
      refine gx_get_1_1 (pc := 65) C iX5_bear_X3 qX5_bear_F35 dX5_bear_65 ?_
      refine g_iload (pc := 68) C 4 dX5_bear_68 rfl ?_
      refine g_iadd (pc := 70) C dX5_bear_70 ?_
      obtain ⟨k71, h⟩ := hv_if_some h
      refine gx_ldr_27 (pc := 71) C k60 k71 dX5_bear_71 ?_
      refine g_aload_n (pc := 72) C 1 dX5_bear_72 rfl rfl ?_
      refine g_aload_n (pc := 73) C 0 dX5_bear_73 rfl rfl ?_
      refine gx_get_13_1 (pc := 74) C iX5_bear_X5 qX5_bear_F27 dX5_bear_74 ?_
      refine gx_get_9_2 (pc := 77) C iX5_bear_X0 qX5_bear_F76 dX5_bear_77 ?_
      refine g_iload (pc := 80) C 4 dX5_bear_80 rfl ?_
      obtain ⟨k82, h⟩ := hv_if_some h
      refine gx_ld_11 (pc := 82) C k82 dX5_bear_82 ?_
      obtain ⟨k83, h⟩ := hv_if_some h
      refine gx_ldq (pc := 83) C hq k83 dX5_bear_83 ?_
      refine g_i2l (pc := 84) C dX5_bear_84 ?_
      refine g_lmul (pc := 85) C dX5_bear_85 ?_
      refine g_ladd (pc := 86) C dX5_bear_86 ?_
      obtain ⟨y3_87, ey3_87, h⟩ := hv_let_some h
      refine g_lstore_n (pc := 87) C (lv' := [(3, .long (y3_87)), (0, .ref (a 13)), (1, .ref (a q)), (2, .int (x2)), (5, .int (x5))]) ey3_87 dX5_bear_87 rfl (Nat.le_of_ble_eq_true rfl) rfl ?_
      refine g_iinc (pc := 88) C 4 (v := x5 + 1) (lv' := [(5, .int (x5 + 1)), (3, .long (y3_87)), (0, .ref (a 13)), (1, .ref (a q)), (2, .int (x2))]) dX5_bear_88 rfl rfl (Nat.le_of_ble_eq_true rfl) rfl ?_
      refine g_goto (pc := 91) C (tgt := 39) dX5_bear_91 (by decide) ?_
      exact g_lv [2, 3, 4, 1, 0] rfl (hr39 σ (x2) (y3_87) (x5 + 1) h)
set_option maxHeartbeats 4000000 in
set_option maxRecDepth 20000 in
theorem bX5_bear_23 {q : Nat} (hq : q = 3 ∨ q = 25) (C : hv_C p s m args meth c cX5_bear 6 wsX5_bear RX5 D (hv_tys cy)) (hr : meth.sig.returnType = none) {n : Nat} {o : hv_St} : ∀ (i : Nat) (σ : hv_St) (x2 : Int32), kX5_bear_23 q n i σ x2 = some o → hv_G p l e (headSpec wsX5_bear rmX5_bear).room s m args below meth c 6 D 55 a (hv_XE a cy) 0 0 (hv_MQ D 55 a (hv_XE a cy) below args s none o) σ 23 [(0, .ref (a 13)), (1, .ref (a q)), (2, .int (x2))] [] := by
  intro i
  induction i with
  | zero =>
    intro σ x2 h
    cases h
  | succ i ih =>
    intro σ x2 h
    generalize hg : kX5_bear_23 q n i = r23 at ih
    have hr23 := ih
    replace h : kX5_bear_23_b q n r23 σ x2 = some o := by rw [← hg]; exact h
    unfold kX5_bear_23_b at h
    refine g_iload_n (pc := 23) C 2 dX5_bear_23 rfl rfl ?_
    refine g_aload_n (pc := 24) C 0 dX5_bear_24 rfl rfl ?_
    refine gx_get_13_1 (pc := 25) C iX5_bear_X5 qX5_bear_F27 dX5_bear_25 ?_
    refine gx_get_9_5 (pc := 28) C iX5_bear_X0 qX5_bear_F67 dX5_bear_28 ?_
    refine g_icmp_ge (pc := 31) (tgt := 116) C dX5_bear_31 (by decide) (fun c31 => ?_) (fun c31 => ?_)
    · rw [if_pos c31] at h
      cases h
      exact g_vret (pc := 116) C hr dX5_bear_116
    · rw [if_neg c31] at h
      refine g_lconst (pc := 34) C (v := (0 : Int64)) dX5_bear_34 (by decide) ?_
      refine g_lstore_n (pc := 35) C (lv' := [(3, .long ((0 : Int64))), (0, .ref (a 13)), (1, .ref (a q)), (2, .int (x2))]) rfl dX5_bear_35 rfl (Nat.le_of_ble_eq_true rfl) rfl ?_
      refine g_iconst (pc := 36) C (v := (0 : Int32)) dX5_bear_36 (by decide) ?_
      refine g_istore (pc := 37) C (lv' := [(5, .int ((0 : Int32))), (3, .long ((0 : Int64))), (0, .ref (a 13)), (1, .ref (a q)), (2, .int (x2))]) rfl dX5_bear_37 (Nat.le_of_ble_eq_true rfl) rfl ?_
      exact g_lv [2, 3, 4, 1, 0] rfl (bX5_bear_39 hq C hr hr23 n σ (x2) ((0 : Int64)) ((0 : Int32)) h)
set_option maxHeartbeats 4000000 in
set_option maxRecDepth 20000 in
theorem bX5_bear_2 {q : Nat} (hq : q = 3 ∨ q = 25) (C : hv_C p s m args meth c cX5_bear 6 wsX5_bear RX5 D (hv_tys cy)) (hr : meth.sig.returnType = none) {n : Nat} {o : hv_St} : ∀ (i : Nat) (σ : hv_St) (x2 : Int32), kX5_bear_2 q n i σ x2 = some o → hv_G p l e (headSpec wsX5_bear rmX5_bear).room s m args below meth c 6 D 55 a (hv_XE a cy) 0 0 (hv_MQ D 55 a (hv_XE a cy) below args s none o) σ 2 [(0, .ref (a 13)), (1, .ref (a q)), (2, .int (x2))] [] := by
  intro i
  induction i with
  | zero =>
    intro σ x2 h
    cases h
  | succ i ih =>
    intro σ x2 h
    generalize hg : kX5_bear_2 q n i = r2 at ih
    have hr2 := ih
    replace h : kX5_bear_2_b q n r2 σ x2 = some o := by rw [← hg]; exact h
    unfold kX5_bear_2_b at h
    refine g_iload_n (pc := 2) C 2 dX5_bear_2 rfl rfl ?_
    refine g_bipush (pc := 3) C (v := (11 : Int32)) dX5_bear_3 (by decide) ?_
    refine g_icmp_ge (pc := 5) (tgt := 21) C dX5_bear_5 (by decide) (fun c5 => ?_) (fun c5 => ?_)
    · rw [if_pos c5] at h
      refine g_iconst (pc := 21) C (v := (0 : Int32)) dX5_bear_21 (by decide) ?_
      refine g_istore_n (pc := 22) C (lv' := [(2, .int ((0 : Int32))), (0, .ref (a 13)), (1, .ref (a q))]) rfl dX5_bear_22 rfl (Nat.le_of_ble_eq_true rfl) rfl ?_
      exact g_lv [1, 2, 0] rfl (bX5_bear_23 hq C hr n σ ((0 : Int32)) h)
    · rw [if_neg c5] at h
      refine g_aload_n (pc := 8) C 0 dX5_bear_8 rfl rfl ?_
      refine gx_get_13_2 (pc := 9) C iX5_bear_X5 qX5_bear_F9 dX5_bear_9 ?_
      refine g_iload_n (pc := 12) C 2 dX5_bear_12 rfl rfl ?_
      refine g_lconst (pc := 13) C (v := (0 : Int64)) dX5_bear_13 (by decide) ?_
      obtain ⟨k14, h⟩ := hv_if_some h
      obtain ⟨s14, es14, h⟩ := hv_let_some h
      refine gx_st_14 (pc := 14) C es14 k14 dX5_bear_14 ?_
      refine g_iinc (pc := 15) C 2 (v := x2 + 1) (lv' := [(2, .int (x2 + 1)), (0, .ref (a 13)), (1, .ref (a q))]) dX5_bear_15 rfl rfl (Nat.le_of_ble_eq_true rfl) rfl ?_
      refine g_goto (pc := 18) C (tgt := 2) dX5_bear_18 (by decide) ?_
      exact g_lv [1, 2, 0] rfl (hr2 s14 (x2 + 1) h)
set_option maxHeartbeats 4000000 in
set_option maxRecDepth 20000 in
theorem vX5_bear {q : Nat} (hq : q = 3 ∨ q = 25) {n : Nat} {σ : hv_St} {o : hv_St} (h : mX5_bear n σ q = some o) : hv_M l yX5_bear wsX5_bear rmX5_bear D (hv_tys cy) 55 a (hv_XE a cy) [.ref (a 13), .ref (a q)] σ none o := by
  refine hv_enter (own := RX5) (cc := cX5_bear) (maxL := 6) (ret := none) (by decide) rfl rfl (Nat.le_of_ble_eq_true rfl) ?_
  intro p e s m args below meth c C hr
  unfold mX5_bear at h
  refine g_lv [0, 1] (lv' := [(0, .ref (a 13)), (1, .ref (a q))]) rfl ?_
  refine g_iconst (pc := 0) C (v := (0 : Int32)) dX5_bear_0 (by decide) ?_
  refine g_istore_n (pc := 1) C (lv' := [(2, .int ((0 : Int32))), (0, .ref (a 13)), (1, .ref (a q))]) rfl dX5_bear_1 rfl (Nat.le_of_ble_eq_true rfl) rfl ?_
  exact g_lv [1, 2, 0] rfl (bX5_bear_2 hq C hr n σ ((0 : Int32)) h)
abbrev rmX5_overWithTwo : Room := { frames := 1, cells := 0, slots := 0, locals := 23 }
set_option maxRecDepth 20000 in
theorem qX5_overWithTwo_F20 : Cond.fieldLink RX5 20 "PinFrame$Pulls" "pairs" "[[J" ∈ wsX5_overWithTwo := by decide +kernel
set_option maxRecDepth 20000 in
theorem qX5_overWithTwo_F23 : Cond.fieldLink RX5 23 "PinFrame$Pulls" "frame" "LPinFrame$Frame;" ∈ wsX5_overWithTwo := by decide +kernel
set_option maxRecDepth 20000 in
theorem qX5_overWithTwo_F27 : Cond.fieldLink RX5 27 "PinFrame$Pulls" "balance" "LPinFrame$Balance;" ∈ wsX5_overWithTwo := by decide +kernel
set_option maxRecDepth 20000 in
theorem qX5_overWithTwo_F35 : Cond.fieldLink RX5 35 "PinFrame$Frame" "bars" "I" ∈ wsX5_overWithTwo := by decide +kernel
set_option maxRecDepth 20000 in
theorem qX5_overWithTwo_F53 : Cond.fieldLink RX5 53 "PinFrame$Balance" "scale" "J" ∈ wsX5_overWithTwo := by decide +kernel
set_option maxRecDepth 20000 in
theorem qX5_overWithTwo_F87 : Cond.fieldLink RX5 87 "PinFrame$Frame" "give" "[I" ∈ wsX5_overWithTwo := by decide +kernel
set_option maxRecDepth 20000 in
theorem qX5_overWithTwo_F9 : Cond.fieldLink RX5 9 "PinFrame$Pulls" "bare" "[J" ∈ wsX5_overWithTwo := by decide +kernel
set_option maxRecDepth 20000 in
theorem qX5_overWithTwo_NI_X7_quotient : Cond.initialized RX7 ∈ wsX5_overWithTwo := by decide +kernel
set_option maxRecDepth 20000 in
theorem qX5_overWithTwo_NS_X7_quotient : Cond.static yX7_quotient ∈ wsX5_overWithTwo := by decide +kernel
set_option maxRecDepth 20000 in
theorem iX5_overWithTwo_X0 : ∀ w ∈ u_ws RX0 TX0 9, w ∈ wsX5_overWithTwo := by decide +kernel
set_option maxRecDepth 20000 in
theorem iX5_overWithTwo_X3 : ∀ w ∈ u_ws RX3 TX3 10, w ∈ wsX5_overWithTwo := by decide +kernel
set_option maxRecDepth 20000 in
theorem iX5_overWithTwo_X5 : ∀ w ∈ u_ws RX5 TX5 7, w ∈ wsX5_overWithTwo := by decide +kernel
set_option maxHeartbeats 4000000 in
set_option maxRecDepth 20000 in
theorem bX5_overWithTwo_23 (C : hv_C p s m args meth c cX5_overWithTwo 10 wsX5_overWithTwo RX5 D (hv_tys cy)) (hr : meth.sig.returnType = (some .long)) {n : Nat} {o : Int64 × hv_St} {r5 : hv_St → Int32 → Int64 → Int32 → Option (Int64 × hv_St)} (hr5 : ∀ (σ : hv_St) (x1 : Int32) (x2 : Int64) (x4 : Int32), r5 σ x1 x2 x4 = some o → hv_G p l e (headSpec wsX5_overWithTwo rmX5_overWithTwo).room s m args below meth c 10 D 55 a (hv_XE a cy) 0 0 (hv_MQ D 55 a (hv_XE a cy) below args s (some (.long o.1)) o.2) σ 5 [(0, .ref (a 13)), (1, .int (x1)), (2, .long (x2)), (4, .int (x4))] []) : ∀ (i : Nat) (σ : hv_St) (x1 : Int32) (x2 : Int64) (x4 : Int32) (x5 : Int32), kX5_overWithTwo_23 n r5 i σ x1 x2 x4 x5 = some o → hv_G p l e (headSpec wsX5_overWithTwo rmX5_overWithTwo).room s m args below meth c 10 D 55 a (hv_XE a cy) 0 0 (hv_MQ D 55 a (hv_XE a cy) below args s (some (.long o.1)) o.2) σ 23 [(0, .ref (a 13)), (1, .int (x1)), (2, .long (x2)), (4, .int (x4)), (5, .int (x5))] [] := by
  intro i
  induction i with
  | zero =>
    intro σ x1 x2 x4 x5 h
    cases h
  | succ i ih =>
    intro σ x1 x2 x4 x5 h
    generalize hg : kX5_overWithTwo_23 n r5 i = r23 at ih
    have hr23 := ih
    replace h : kX5_overWithTwo_23_b n r5 r23 σ x1 x2 x4 x5 = some o := by rw [← hg]; exact h
    unfold kX5_overWithTwo_23_b at h
    refine g_iload (pc := 23) C 4 dX5_overWithTwo_23 rfl ?_
    refine g_aload_n (pc := 25) C 0 dX5_overWithTwo_25 rfl rfl ?_
    refine gx_get_13_0 (pc := 26) C iX5_overWithTwo_X5 qX5_overWithTwo_F23 dX5_overWithTwo_26 ?_
    refine gx_get_1_1 (pc := 29) C iX5_overWithTwo_X3 qX5_overWithTwo_F35 dX5_overWithTwo_29 ?_
    refine g_icmp_ge (pc := 32) (tgt := 149) C dX5_overWithTwo_32 (by decide) (fun c32 => ?_) (fun c32 => ?_)
    · rw [if_pos c32] at h
      refine g_iinc (pc := 149) C 3 (v := x4 + 1) (lv' := [(4, .int (x4 + 1)), (0, .ref (a 13)), (1, .int (x1)), (2, .long (x2)), (5, .int (x5))]) dX5_overWithTwo_149 rfl rfl (Nat.le_of_ble_eq_true rfl) rfl ?_
      refine g_goto (pc := 152) C (tgt := 5) dX5_overWithTwo_152 (by decide) ?_
      exact g_lv [1, 2, 3, 0] rfl (hr5 σ (x1) (x2) (x4 + 1) h)
    · rw [if_neg c32] at h
      refine g_aload_n (pc := 35) C 0 dX5_overWithTwo_35 rfl rfl ?_
      refine gx_get_13_2 (pc := 36) C iX5_overWithTwo_X5 qX5_overWithTwo_F9 dX5_overWithTwo_36 ?_
      refine g_iload_n (pc := 39) C 1 dX5_overWithTwo_39 rfl rfl ?_
      obtain ⟨k40, h⟩ := hv_if_some h
      refine gx_ld_14 (pc := 40) C k40 dX5_overWithTwo_40 ?_
      refine g_aload_n (pc := 41) C 0 dX5_overWithTwo_41 rfl rfl ?_
      refine gx_get_13_4 (pc := 42) C iX5_overWithTwo_X5 qX5_overWithTwo_F20 dX5_overWithTwo_42 ?_
      refine g_iload (pc := 45) C 3 dX5_overWithTwo_45 rfl ?_
      obtain ⟨k47, h⟩ := hv_if_some h
      refine gx_ld_16 (pc := 47) C k47 dX5_overWithTwo_47 ?_
      refine g_iload (pc := 48) C 4 dX5_overWithTwo_48 rfl ?_
      obtain ⟨k50, h⟩ := hv_if_some h
      refine gx_ldr_41 (pc := 50) C k47 k50 dX5_overWithTwo_50 ?_
      refine g_lmul (pc := 51) C dX5_overWithTwo_51 ?_
      refine g_aload_n (pc := 52) C 0 dX5_overWithTwo_52 rfl rfl ?_
      refine gx_get_13_2 (pc := 53) C iX5_overWithTwo_X5 qX5_overWithTwo_F9 dX5_overWithTwo_53 ?_
      refine g_iload (pc := 56) C 3 dX5_overWithTwo_56 rfl ?_
      obtain ⟨k58, h⟩ := hv_if_some h
      refine gx_ld_14 (pc := 58) C k58 dX5_overWithTwo_58 ?_
      refine g_aload_n (pc := 59) C 0 dX5_overWithTwo_59 rfl rfl ?_
      refine gx_get_13_4 (pc := 60) C iX5_overWithTwo_X5 qX5_overWithTwo_F20 dX5_overWithTwo_60 ?_
      refine g_iload_n (pc := 63) C 1 dX5_overWithTwo_63 rfl rfl ?_
      obtain ⟨k64, h⟩ := hv_if_some h
      refine gx_ld_16 (pc := 64) C k64 dX5_overWithTwo_64 ?_
      refine g_iload (pc := 65) C 4 dX5_overWithTwo_65 rfl ?_
      obtain ⟨k67, h⟩ := hv_if_some h
      refine gx_ldr_41 (pc := 67) C k64 k67 dX5_overWithTwo_67 ?_
      refine g_lmul (pc := 68) C dX5_overWithTwo_68 ?_
      refine g_lsub (pc := 69) C dX5_overWithTwo_69 ?_
      refine g_aload_n (pc := 70) C 0 dX5_overWithTwo_70 rfl rfl ?_
      refine gx_get_13_2 (pc := 71) C iX5_overWithTwo_X5 qX5_overWithTwo_F9 dX5_overWithTwo_71 ?_
      refine g_iload (pc := 74) C 4 dX5_overWithTwo_74 rfl ?_
      obtain ⟨k76, h⟩ := hv_if_some h
      refine gx_ld_14 (pc := 76) C k76 dX5_overWithTwo_76 ?_
      refine g_aload_n (pc := 77) C 0 dX5_overWithTwo_77 rfl rfl ?_
      refine gx_get_13_4 (pc := 78) C iX5_overWithTwo_X5 qX5_overWithTwo_F20 dX5_overWithTwo_78 ?_
      refine g_iload_n (pc := 81) C 1 dX5_overWithTwo_81 rfl rfl ?_
      obtain ⟨k82, h⟩ := hv_if_some h
      refine gx_ld_16 (pc := 82) C k82 dX5_overWithTwo_82 ?_
      refine g_iload (pc := 83) C 3 dX5_overWithTwo_83 rfl ?_
      obtain ⟨k85, h⟩ := hv_if_some h
      refine gx_ldr_41 (pc := 85) C k82 k85 dX5_overWithTwo_85 ?_
      refine g_lmul (pc := 86) C dX5_overWithTwo_86 ?_
      refine g_ladd (pc := 87) C dX5_overWithTwo_87 ?_
      obtain ⟨y6_88, ey6_88, h⟩ := hv_let_some h
      refine g_lstore (pc := 88) C (lv' := [(6, .long (y6_88)), (0, .ref (a 13)), (1, .int (x1)), (2, .long (x2)), (4, .int (x4)), (5, .int (x5))]) ey6_88 dX5_overWithTwo_88 (Nat.le_of_ble_eq_true rfl) rfl ?_
      refine g_lload (pc := 90) C 0 dX5_overWithTwo_90 rfl ?_
      refine g_aload_n (pc := 92) C 1 dX5_overWithTwo_92 rfl rfl ?_
      refine gx_get_13_1 (pc := 93) C iX5_overWithTwo_X5 qX5_overWithTwo_F27 dX5_overWithTwo_93 ?_
      refine gx_get_9_8 (pc := 96) C iX5_overWithTwo_X0 qX5_overWithTwo_F53 dX5_overWithTwo_96 ?_
      obtain ⟨r99, s99, hc99, h⟩ := hv_b2_some h
      refine g_callSN (pc := 99) (σ1 := s99) (v := (some (.long (r99)))) (As := [.long (y6_88), .long (σ.2 9 8)]) (rest := []) C (vX7_quotient hc99) (va_cnB 2 C.1.2.2.2.2 gX5_overWithTwo_X7_quotient_n100 rfl rfl rfl (C.2.1.2 _ (List.mem_of_getElem? (i := 8) rfl)) (C.1.2.2.2.2 _ qX5_overWithTwo_NI_X7_quotient) (by decide +kernel) ⟨Nat.le_of_ble_eq_true rfl, Nat.le_of_ble_eq_true rfl⟩) qX5_overWithTwo_NS_X7_quotient rfl rfl (Nat.le_of_ble_eq_true rfl) dX5_overWithTwo_99 ⟨Nat.zero_le _, Nat.zero_le _⟩ ?_
      refine g_st (st' := [.long (r99)]) rfl ?_
      refine g_lstore (pc := 102) C (lv' := [(8, .long (r99)), (6, .long (y6_88)), (0, .ref (a 13)), (1, .int (x1)), (2, .long (x2)), (4, .int (x4)), (5, .int (x5))]) rfl dX5_overWithTwo_102 (Nat.le_of_ble_eq_true rfl) rfl ?_
      refine g_lload_n (pc := 104) C 4 dX5_overWithTwo_104 rfl rfl ?_
      refine g_aload_n (pc := 105) C 2 dX5_overWithTwo_105 rfl rfl ?_
      refine gx_get_13_0 (pc := 106) C iX5_overWithTwo_X5 qX5_overWithTwo_F23 dX5_overWithTwo_106 ?_
      refine gx_get_1_8 (pc := 109) C iX5_overWithTwo_X3 qX5_overWithTwo_F87 dX5_overWithTwo_109 ?_
      refine g_iload (pc := 112) C 5 dX5_overWithTwo_112 rfl ?_
      obtain ⟨k114, h⟩ := hv_if_some h
      refine gx_ld_7 (pc := 114) C k114 dX5_overWithTwo_114 ?_
      refine g_aload_n (pc := 115) C 2 dX5_overWithTwo_115 rfl rfl ?_
      refine gx_get_13_0 (pc := 116) C iX5_overWithTwo_X5 qX5_overWithTwo_F23 dX5_overWithTwo_116 ?_
      refine gx_get_1_8 (pc := 119) C iX5_overWithTwo_X3 qX5_overWithTwo_F87 dX5_overWithTwo_119 ?_
      refine g_iload (pc := 122) C 6 dX5_overWithTwo_122 rfl ?_
      obtain ⟨k124, h⟩ := hv_if_some h
      refine gx_ld_7 (pc := 124) C k124 dX5_overWithTwo_124 ?_
      refine g_imul (pc := 125) C dX5_overWithTwo_125 ?_
      refine g_i2l (pc := 126) C dX5_overWithTwo_126 ?_
      refine g_aload_n (pc := 127) C 2 dX5_overWithTwo_127 rfl rfl ?_
      refine gx_get_13_4 (pc := 128) C iX5_overWithTwo_X5 qX5_overWithTwo_F20 dX5_overWithTwo_128 ?_
      refine g_iload (pc := 131) C 5 dX5_overWithTwo_131 rfl ?_
      obtain ⟨k133, h⟩ := hv_if_some h
      refine gx_ld_16 (pc := 133) C k133 dX5_overWithTwo_133 ?_
      refine g_iload (pc := 134) C 6 dX5_overWithTwo_134 rfl ?_
      obtain ⟨k136, h⟩ := hv_if_some h
      refine gx_ldr_41 (pc := 136) C k133 k136 dX5_overWithTwo_136 ?_
      refine g_lmul (pc := 137) C dX5_overWithTwo_137 ?_
      refine g_lload (pc := 138) C 0 dX5_overWithTwo_138 rfl ?_
      refine g_lmul (pc := 140) C dX5_overWithTwo_140 ?_
      refine g_ladd (pc := 141) C dX5_overWithTwo_141 ?_
      obtain ⟨y2_142, ey2_142, h⟩ := hv_let_some h
      refine g_lstore_n (pc := 142) C (lv' := [(2, .long (y2_142)), (8, .long (r99)), (6, .long (y6_88)), (0, .ref (a 13)), (1, .int (x1)), (4, .int (x4)), (5, .int (x5))]) ey2_142 dX5_overWithTwo_142 rfl (Nat.le_of_ble_eq_true rfl) rfl ?_
      refine g_iinc (pc := 143) C 6 (v := x5 + 1) (lv' := [(5, .int (x5 + 1)), (2, .long (y2_142)), (8, .long (r99)), (6, .long (y6_88)), (0, .ref (a 13)), (1, .int (x1)), (4, .int (x4))]) dX5_overWithTwo_143 rfl rfl (Nat.le_of_ble_eq_true rfl) rfl ?_
      refine g_goto (pc := 146) C (tgt := 23) dX5_overWithTwo_146 (by decide) ?_
      exact g_lv [4, 5, 1, 6, 0] rfl (hr23 s99 (x1) (y2_142) (x4) (x5 + 1) h)
set_option maxHeartbeats 4000000 in
set_option maxRecDepth 20000 in
theorem bX5_overWithTwo_5 (C : hv_C p s m args meth c cX5_overWithTwo 10 wsX5_overWithTwo RX5 D (hv_tys cy)) (hr : meth.sig.returnType = (some .long)) {n : Nat} {o : Int64 × hv_St} : ∀ (i : Nat) (σ : hv_St) (x1 : Int32) (x2 : Int64) (x4 : Int32), kX5_overWithTwo_5 n i σ x1 x2 x4 = some o → hv_G p l e (headSpec wsX5_overWithTwo rmX5_overWithTwo).room s m args below meth c 10 D 55 a (hv_XE a cy) 0 0 (hv_MQ D 55 a (hv_XE a cy) below args s (some (.long o.1)) o.2) σ 5 [(0, .ref (a 13)), (1, .int (x1)), (2, .long (x2)), (4, .int (x4))] [] := by
  intro i
  induction i with
  | zero =>
    intro σ x1 x2 x4 h
    cases h
  | succ i ih =>
    intro σ x1 x2 x4 h
    generalize hg : kX5_overWithTwo_5 n i = r5 at ih
    have hr5 := ih
    replace h : kX5_overWithTwo_5_b n r5 σ x1 x2 x4 = some o := by rw [← hg]; exact h
    unfold kX5_overWithTwo_5_b at h
    refine g_iload (pc := 5) C 3 dX5_overWithTwo_5 rfl ?_
    refine g_aload_n (pc := 7) C 0 dX5_overWithTwo_7 rfl rfl ?_
    refine gx_get_13_0 (pc := 8) C iX5_overWithTwo_X5 qX5_overWithTwo_F23 dX5_overWithTwo_8 ?_
    refine gx_get_1_1 (pc := 11) C iX5_overWithTwo_X3 qX5_overWithTwo_F35 dX5_overWithTwo_11 ?_
    refine g_icmp_ge (pc := 14) (tgt := 155) C dX5_overWithTwo_14 (by decide) (fun c14 => ?_) (fun c14 => ?_)
    · rw [if_pos c14] at h
      refine g_lload_n (pc := 155) C 2 dX5_overWithTwo_155 rfl rfl ?_
      cases h
      exact g_lret (pc := 156) C hr dX5_overWithTwo_156
    · rw [if_neg c14] at h
      refine g_iload (pc := 17) C 3 dX5_overWithTwo_17 rfl ?_
      refine g_iconst (pc := 19) C (v := (1 : Int32)) dX5_overWithTwo_19 (by decide) ?_
      refine g_iadd (pc := 20) C dX5_overWithTwo_20 ?_
      obtain ⟨y5_21, ey5_21, h⟩ := hv_let_some h
      refine g_istore (pc := 21) C (lv' := [(5, .int (y5_21)), (0, .ref (a 13)), (1, .int (x1)), (2, .long (x2)), (4, .int (x4))]) ey5_21 dX5_overWithTwo_21 (Nat.le_of_ble_eq_true rfl) rfl ?_
      exact g_lv [1, 2, 3, 4, 0] rfl (bX5_overWithTwo_23 C hr hr5 n σ (x1) (x2) (x4) (y5_21) h)
set_option maxHeartbeats 4000000 in
set_option maxRecDepth 20000 in
theorem vX5_overWithTwo {n : Nat} {σ : hv_St} {p0 : Int32} {o : Int64 × hv_St} (h : mX5_overWithTwo n σ p0 = some o) : hv_M l yX5_overWithTwo wsX5_overWithTwo rmX5_overWithTwo D (hv_tys cy) 55 a (hv_XE a cy) [.ref (a 13), .int (p0)] σ (some (.long o.1)) o.2 := by
  refine hv_enter (own := RX5) (cc := cX5_overWithTwo) (maxL := 10) (ret := (some .long)) (by decide) rfl rfl (Nat.le_of_ble_eq_true rfl) ?_
  intro p e s m args below meth c C hr
  unfold mX5_overWithTwo at h
  refine g_lv [0, 1] (lv' := [(0, .ref (a 13)), (1, .int (p0))]) rfl ?_
  refine g_lconst (pc := 0) C (v := (0 : Int64)) dX5_overWithTwo_0 (by decide) ?_
  refine g_lstore_n (pc := 1) C (lv' := [(2, .long ((0 : Int64))), (0, .ref (a 13)), (1, .int (p0))]) rfl dX5_overWithTwo_1 rfl (Nat.le_of_ble_eq_true rfl) rfl ?_
  refine g_iconst (pc := 2) C (v := (0 : Int32)) dX5_overWithTwo_2 (by decide) ?_
  refine g_istore (pc := 3) C (lv' := [(4, .int ((0 : Int32))), (2, .long ((0 : Int64))), (0, .ref (a 13)), (1, .int (p0))]) rfl dX5_overWithTwo_3 (Nat.le_of_ble_eq_true rfl) rfl ?_
  exact g_lv [2, 3, 1, 0] rfl (bX5_overWithTwo_5 C hr n σ (p0) ((0 : Int64)) ((0 : Int32)) h)
abbrev rmX5_overWithOne : Room := { frames := 1, cells := 0, slots := 0, locals := 23 }
set_option maxRecDepth 20000 in
theorem qX5_overWithOne_F17 : Cond.fieldLink RX5 17 "PinFrame$Pulls" "units" "[[J" ∈ wsX5_overWithOne := by decide +kernel
set_option maxRecDepth 20000 in
theorem qX5_overWithOne_F23 : Cond.fieldLink RX5 23 "PinFrame$Pulls" "frame" "LPinFrame$Frame;" ∈ wsX5_overWithOne := by decide +kernel
set_option maxRecDepth 20000 in
theorem qX5_overWithOne_F27 : Cond.fieldLink RX5 27 "PinFrame$Pulls" "balance" "LPinFrame$Balance;" ∈ wsX5_overWithOne := by decide +kernel
set_option maxRecDepth 20000 in
theorem qX5_overWithOne_F35 : Cond.fieldLink RX5 35 "PinFrame$Frame" "bars" "I" ∈ wsX5_overWithOne := by decide +kernel
set_option maxRecDepth 20000 in
theorem qX5_overWithOne_F53 : Cond.fieldLink RX5 53 "PinFrame$Balance" "scale" "J" ∈ wsX5_overWithOne := by decide +kernel
set_option maxRecDepth 20000 in
theorem qX5_overWithOne_F87 : Cond.fieldLink RX5 87 "PinFrame$Frame" "give" "[I" ∈ wsX5_overWithOne := by decide +kernel
set_option maxRecDepth 20000 in
theorem qX5_overWithOne_F9 : Cond.fieldLink RX5 9 "PinFrame$Pulls" "bare" "[J" ∈ wsX5_overWithOne := by decide +kernel
set_option maxRecDepth 20000 in
theorem qX5_overWithOne_NI_X7_quotient : Cond.initialized RX7 ∈ wsX5_overWithOne := by decide +kernel
set_option maxRecDepth 20000 in
theorem qX5_overWithOne_NS_X7_quotient : Cond.static yX7_quotient ∈ wsX5_overWithOne := by decide +kernel
set_option maxRecDepth 20000 in
theorem iX5_overWithOne_X0 : ∀ w ∈ u_ws RX0 TX0 9, w ∈ wsX5_overWithOne := by decide +kernel
set_option maxRecDepth 20000 in
theorem iX5_overWithOne_X3 : ∀ w ∈ u_ws RX3 TX3 10, w ∈ wsX5_overWithOne := by decide +kernel
set_option maxRecDepth 20000 in
theorem iX5_overWithOne_X5 : ∀ w ∈ u_ws RX5 TX5 7, w ∈ wsX5_overWithOne := by decide +kernel
set_option maxHeartbeats 4000000 in
set_option maxRecDepth 20000 in
theorem bX5_overWithOne_5 (C : hv_C p s m args meth c cX5_overWithOne 9 wsX5_overWithOne RX5 D (hv_tys cy)) (hr : meth.sig.returnType = (some .long)) {n : Nat} {o : Int64 × hv_St} : ∀ (i : Nat) (σ : hv_St) (x1 : Int32) (x2 : Int64) (x4 : Int32), kX5_overWithOne_5 n i σ x1 x2 x4 = some o → hv_G p l e (headSpec wsX5_overWithOne rmX5_overWithOne).room s m args below meth c 9 D 55 a (hv_XE a cy) 0 0 (hv_MQ D 55 a (hv_XE a cy) below args s (some (.long o.1)) o.2) σ 5 [(0, .ref (a 13)), (1, .int (x1)), (2, .long (x2)), (4, .int (x4))] [] := by
  intro i
  induction i with
  | zero =>
    intro σ x1 x2 x4 h
    cases h
  | succ i ih =>
    intro σ x1 x2 x4 h
    generalize hg : kX5_overWithOne_5 n i = r5 at ih
    have hr5 := ih
    replace h : kX5_overWithOne_5_b n r5 σ x1 x2 x4 = some o := by rw [← hg]; exact h
    unfold kX5_overWithOne_5_b at h
    refine g_iload (pc := 5) C 3 dX5_overWithOne_5 rfl ?_
    refine g_aload_n (pc := 7) C 0 dX5_overWithOne_7 rfl rfl ?_
    refine gx_get_13_0 (pc := 8) C iX5_overWithOne_X5 qX5_overWithOne_F23 dX5_overWithOne_8 ?_
    refine gx_get_1_1 (pc := 11) C iX5_overWithOne_X3 qX5_overWithOne_F35 dX5_overWithOne_11 ?_
    refine g_icmp_ge (pc := 14) (tgt := 99) C dX5_overWithOne_14 (by decide) (fun c14 => ?_) (fun c14 => ?_)
    · rw [if_pos c14] at h
      refine g_lload_n (pc := 99) C 2 dX5_overWithOne_99 rfl rfl ?_
      cases h
      exact g_lret (pc := 100) C hr dX5_overWithOne_100
    · rw [if_neg c14] at h
      refine g_aload_n (pc := 17) C 0 dX5_overWithOne_17 rfl rfl ?_
      refine gx_get_13_2 (pc := 18) C iX5_overWithOne_X5 qX5_overWithOne_F9 dX5_overWithOne_18 ?_
      refine g_iload_n (pc := 21) C 1 dX5_overWithOne_21 rfl rfl ?_
      obtain ⟨k22, h⟩ := hv_if_some h
      refine gx_ld_14 (pc := 22) C k22 dX5_overWithOne_22 ?_
      refine g_aload_n (pc := 23) C 0 dX5_overWithOne_23 rfl rfl ?_
      refine gx_get_13_3 (pc := 24) C iX5_overWithOne_X5 qX5_overWithOne_F17 dX5_overWithOne_24 ?_
      refine g_iconst (pc := 27) C (v := (0 : Int32)) dX5_overWithOne_27 (by decide) ?_
      obtain ⟨k28, h⟩ := hv_if_some h
      refine gx_ld_15 (pc := 28) C k28 dX5_overWithOne_28 ?_
      refine g_iload (pc := 29) C 3 dX5_overWithOne_29 rfl ?_
      obtain ⟨k31, h⟩ := hv_if_some h
      refine gx_ldr_39 (pc := 31) C k28 k31 dX5_overWithOne_31 ?_
      refine g_lmul (pc := 32) C dX5_overWithOne_32 ?_
      refine g_aload_n (pc := 33) C 0 dX5_overWithOne_33 rfl rfl ?_
      refine gx_get_13_2 (pc := 34) C iX5_overWithOne_X5 qX5_overWithOne_F9 dX5_overWithOne_34 ?_
      refine g_iload (pc := 37) C 3 dX5_overWithOne_37 rfl ?_
      obtain ⟨k39, h⟩ := hv_if_some h
      refine gx_ld_14 (pc := 39) C k39 dX5_overWithOne_39 ?_
      refine g_aload_n (pc := 40) C 0 dX5_overWithOne_40 rfl rfl ?_
      refine gx_get_13_3 (pc := 41) C iX5_overWithOne_X5 qX5_overWithOne_F17 dX5_overWithOne_41 ?_
      refine g_iconst (pc := 44) C (v := (0 : Int32)) dX5_overWithOne_44 (by decide) ?_
      obtain ⟨k45, h⟩ := hv_if_some h
      refine gx_ld_15 (pc := 45) C k45 dX5_overWithOne_45 ?_
      refine g_iload_n (pc := 46) C 1 dX5_overWithOne_46 rfl rfl ?_
      obtain ⟨k47, h⟩ := hv_if_some h
      refine gx_ldr_39 (pc := 47) C k45 k47 dX5_overWithOne_47 ?_
      refine g_lmul (pc := 48) C dX5_overWithOne_48 ?_
      refine g_lsub (pc := 49) C dX5_overWithOne_49 ?_
      obtain ⟨y5_50, ey5_50, h⟩ := hv_let_some h
      refine g_lstore (pc := 50) C (lv' := [(5, .long (y5_50)), (0, .ref (a 13)), (1, .int (x1)), (2, .long (x2)), (4, .int (x4))]) ey5_50 dX5_overWithOne_50 (Nat.le_of_ble_eq_true rfl) rfl ?_
      refine g_lload (pc := 52) C 0 dX5_overWithOne_52 rfl ?_
      refine g_aload_n (pc := 54) C 1 dX5_overWithOne_54 rfl rfl ?_
      refine gx_get_13_1 (pc := 55) C iX5_overWithOne_X5 qX5_overWithOne_F27 dX5_overWithOne_55 ?_
      refine gx_get_9_8 (pc := 58) C iX5_overWithOne_X0 qX5_overWithOne_F53 dX5_overWithOne_58 ?_
      obtain ⟨r61, s61, hc61, h⟩ := hv_b2_some h
      refine g_callSN (pc := 61) (σ1 := s61) (v := (some (.long (r61)))) (As := [.long (y5_50), .long (σ.2 9 8)]) (rest := []) C (vX7_quotient hc61) (va_cnB 2 C.1.2.2.2.2 gX5_overWithOne_X7_quotient_n100 rfl rfl rfl (C.2.1.2 _ (List.mem_of_getElem? (i := 8) rfl)) (C.1.2.2.2.2 _ qX5_overWithOne_NI_X7_quotient) (by decide +kernel) ⟨Nat.le_of_ble_eq_true rfl, Nat.le_of_ble_eq_true rfl⟩) qX5_overWithOne_NS_X7_quotient rfl rfl (Nat.le_of_ble_eq_true rfl) dX5_overWithOne_61 ⟨Nat.zero_le _, Nat.zero_le _⟩ ?_
      refine g_st (st' := [.long (r61)]) rfl ?_
      refine g_lstore (pc := 64) C (lv' := [(7, .long (r61)), (5, .long (y5_50)), (0, .ref (a 13)), (1, .int (x1)), (2, .long (x2)), (4, .int (x4))]) rfl dX5_overWithOne_64 (Nat.le_of_ble_eq_true rfl) rfl ?_
      refine g_lload_n (pc := 66) C 4 dX5_overWithOne_66 rfl rfl ?_
      refine g_aload_n (pc := 67) C 2 dX5_overWithOne_67 rfl rfl ?_
      refine gx_get_13_0 (pc := 68) C iX5_overWithOne_X5 qX5_overWithOne_F23 dX5_overWithOne_68 ?_
      refine gx_get_1_8 (pc := 71) C iX5_overWithOne_X3 qX5_overWithOne_F87 dX5_overWithOne_71 ?_
      refine g_iload (pc := 74) C 5 dX5_overWithOne_74 rfl ?_
      obtain ⟨k76, h⟩ := hv_if_some h
      refine gx_ld_7 (pc := 76) C k76 dX5_overWithOne_76 ?_
      refine g_i2l (pc := 77) C dX5_overWithOne_77 ?_
      refine g_aload_n (pc := 78) C 2 dX5_overWithOne_78 rfl rfl ?_
      refine gx_get_13_3 (pc := 79) C iX5_overWithOne_X5 qX5_overWithOne_F17 dX5_overWithOne_79 ?_
      refine g_iconst (pc := 82) C (v := (0 : Int32)) dX5_overWithOne_82 (by decide) ?_
      obtain ⟨k83, h⟩ := hv_if_some h
      refine gx_ld_15 (pc := 83) C k83 dX5_overWithOne_83 ?_
      refine g_iload (pc := 84) C 5 dX5_overWithOne_84 rfl ?_
      obtain ⟨k86, h⟩ := hv_if_some h
      refine gx_ldr_39 (pc := 86) C k83 k86 dX5_overWithOne_86 ?_
      refine g_lmul (pc := 87) C dX5_overWithOne_87 ?_
      refine g_lload (pc := 88) C 0 dX5_overWithOne_88 rfl ?_
      refine g_lmul (pc := 90) C dX5_overWithOne_90 ?_
      refine g_ladd (pc := 91) C dX5_overWithOne_91 ?_
      obtain ⟨y2_92, ey2_92, h⟩ := hv_let_some h
      refine g_lstore_n (pc := 92) C (lv' := [(2, .long (y2_92)), (7, .long (r61)), (5, .long (y5_50)), (0, .ref (a 13)), (1, .int (x1)), (4, .int (x4))]) ey2_92 dX5_overWithOne_92 rfl (Nat.le_of_ble_eq_true rfl) rfl ?_
      refine g_iinc (pc := 93) C 5 (v := x4 + 1) (lv' := [(4, .int (x4 + 1)), (2, .long (y2_92)), (7, .long (r61)), (5, .long (y5_50)), (0, .ref (a 13)), (1, .int (x1))]) dX5_overWithOne_93 rfl rfl (Nat.le_of_ble_eq_true rfl) rfl ?_
      refine g_goto (pc := 96) C (tgt := 5) dX5_overWithOne_96 (by decide) ?_
      exact g_lv [4, 5, 1, 0] rfl (hr5 s61 (x1) (y2_92) (x4 + 1) h)
set_option maxHeartbeats 4000000 in
set_option maxRecDepth 20000 in
theorem vX5_overWithOne {n : Nat} {σ : hv_St} {p0 : Int32} {o : Int64 × hv_St} (h : mX5_overWithOne n σ p0 = some o) : hv_M l yX5_overWithOne wsX5_overWithOne rmX5_overWithOne D (hv_tys cy) 55 a (hv_XE a cy) [.ref (a 13), .int (p0)] σ (some (.long o.1)) o.2 := by
  refine hv_enter (own := RX5) (cc := cX5_overWithOne) (maxL := 9) (ret := (some .long)) (by decide) rfl rfl (Nat.le_of_ble_eq_true rfl) ?_
  intro p e s m args below meth c C hr
  unfold mX5_overWithOne at h
  refine g_lv [0, 1] (lv' := [(0, .ref (a 13)), (1, .int (p0))]) rfl ?_
  refine g_lconst (pc := 0) C (v := (0 : Int64)) dX5_overWithOne_0 (by decide) ?_
  refine g_lstore_n (pc := 1) C (lv' := [(2, .long ((0 : Int64))), (0, .ref (a 13)), (1, .int (p0))]) rfl dX5_overWithOne_1 rfl (Nat.le_of_ble_eq_true rfl) rfl ?_
  refine g_iconst (pc := 2) C (v := (0 : Int32)) dX5_overWithOne_2 (by decide) ?_
  refine g_istore (pc := 3) C (lv' := [(4, .int ((0 : Int32))), (2, .long ((0 : Int64))), (0, .ref (a 13)), (1, .int (p0))]) rfl dX5_overWithOne_3 (Nat.le_of_ble_eq_true rfl) rfl ?_
  exact g_lv [2, 3, 1, 0] rfl (bX5_overWithOne_5 C hr n σ (p0) ((0 : Int64)) ((0 : Int32)) h)
abbrev rmX5_overOf : Room := { frames := 2, cells := 0, slots := 0, locals := 52 }
set_option maxRecDepth 20000 in
theorem qX5_overOf_F31 : Cond.fieldLink RX5 31 "PinFrame$Pulls" "spares" "I" ∈ wsX5_overOf := by decide +kernel
set_option maxRecDepth 20000 in
theorem qX5_overOf_F9 : Cond.fieldLink RX5 9 "PinFrame$Pulls" "bare" "[J" ∈ wsX5_overOf := by decide +kernel
set_option maxRecDepth 20000 in
theorem iX5_overOf_X5 : ∀ w ∈ u_ws RX5 TX5 7, w ∈ wsX5_overOf := by decide +kernel
set_option maxHeartbeats 4000000 in
set_option maxRecDepth 20000 in
theorem vX5_overOf {n : Nat} {σ : hv_St} {p0 : Int32} {o : Int64 × hv_St} (h : mX5_overOf n σ p0 = some o) : hv_M l yX5_overOf wsX5_overOf rmX5_overOf D (hv_tys cy) 55 a (hv_XE a cy) [.ref (a 13), .int (p0)] σ (some (.long o.1)) o.2 := by
  refine hv_enter (own := RX5) (cc := cX5_overOf) (maxL := 2) (ret := (some .long)) (by decide) rfl rfl (Nat.le_of_ble_eq_true rfl) ?_
  intro p e s m args below meth c C hr
  unfold mX5_overOf at h
  refine g_lv [0, 1] (lv' := [(0, .ref (a 13)), (1, .int (p0))]) rfl ?_
  refine g_aload_n (pc := 0) C 0 dX5_overOf_0 rfl rfl ?_
  refine gx_get_13_5 (pc := 1) C iX5_overOf_X5 qX5_overOf_F31 dX5_overOf_1 ?_
  refine g_if_ne (pc := 4) (tgt := 14) C dX5_overOf_4 (by decide) (fun c4 => ?_) (fun c4 => ?_)
  · rw [if_neg c4] at h
    refine g_aload_n (pc := 14) C 0 dX5_overOf_14 rfl rfl ?_
    refine gx_get_13_5 (pc := 15) C iX5_overOf_X5 qX5_overOf_F31 dX5_overOf_15 ?_
    refine g_iconst (pc := 18) C (v := (1 : Int32)) dX5_overOf_18 (by decide) ?_
    refine g_icmp_ne (pc := 19) (tgt := 30) C dX5_overOf_19 (by decide) (fun c19 => ?_) (fun c19 => ?_)
    · rw [if_neg c19] at h
      refine g_aload_n (pc := 30) C 0 dX5_overOf_30 rfl rfl ?_
      refine g_iload_n (pc := 31) C 1 dX5_overOf_31 rfl rfl ?_
      obtain ⟨r32, s32, hc32, h⟩ := hv_b2_some h
      refine g_callV (pc := 32) (σ1 := s32) (v := (some (.long (r32)))) (As := [.int (p0)]) (rest := []) C 13 (vX5_overWithTwo hc32) (cwV 1 C.1.2.2.2.2 gX5_overOf_X5_overWithTwo rfl rfl rfl (by decide +kernel) ⟨Nat.le_of_ble_eq_true rfl, Nat.le_of_ble_eq_true rfl⟩) (Nat.le_of_ble_eq_true rfl) rfl rfl rfl rfl (Nat.le_of_ble_eq_true rfl) dX5_overOf_32 ⟨Nat.zero_le _, Nat.zero_le _⟩ ?_
      refine g_st (st' := [.long (r32)]) rfl ?_
      cases h
      exact g_lret (pc := 35) C hr dX5_overOf_35
    · rw [if_pos c19] at h
      refine g_aload_n (pc := 22) C 0 dX5_overOf_22 rfl rfl ?_
      refine g_iload_n (pc := 23) C 1 dX5_overOf_23 rfl rfl ?_
      obtain ⟨r24, s24, hc24, h⟩ := hv_b2_some h
      refine g_callV (pc := 24) (σ1 := s24) (v := (some (.long (r24)))) (As := [.int (p0)]) (rest := []) C 13 (vX5_overWithOne hc24) (cwV 1 C.1.2.2.2.2 gX5_overOf_X5_overWithOne rfl rfl rfl (by decide +kernel) ⟨Nat.le_of_ble_eq_true rfl, Nat.le_of_ble_eq_true rfl⟩) (Nat.le_of_ble_eq_true rfl) rfl rfl rfl rfl (Nat.le_of_ble_eq_true rfl) dX5_overOf_24 ⟨Nat.zero_le _, Nat.zero_le _⟩ ?_
      refine g_st (st' := [.long (r24)]) rfl ?_
      refine g_goto (pc := 27) C (tgt := 35) dX5_overOf_27 (by decide) ?_
      cases h
      exact g_lret (pc := 35) C hr dX5_overOf_35
  · rw [if_pos c4] at h
    refine g_aload_n (pc := 7) C 0 dX5_overOf_7 rfl rfl ?_
    refine gx_get_13_2 (pc := 8) C iX5_overOf_X5 qX5_overOf_F9 dX5_overOf_8 ?_
    refine g_iload_n (pc := 11) C 1 dX5_overOf_11 rfl rfl ?_
    obtain ⟨k12, h⟩ := hv_if_some h
    refine gx_ld_14 (pc := 12) C k12 dX5_overOf_12 ?_
    cases h
    exact g_lret (pc := 13) C hr dX5_overOf_13
abbrev rmX7_isFreePlace : Room := { frames := 1, cells := 0, slots := 0, locals := 23 }
set_option maxRecDepth 20000 in
theorem qX7_isFreePlace_F17 : Cond.fieldLink RX7 17 "PinFrame" "frame" "LPinFrame$Frame;" ∈ wsX7_isFreePlace := by decide +kernel
set_option maxRecDepth 20000 in
theorem iX7_isFreePlace_X7 : ∀ w ∈ u_ws RX7 TX7 7, w ∈ wsX7_isFreePlace := by decide +kernel
set_option maxHeartbeats 4000000 in
set_option maxRecDepth 20000 in
theorem bX7_isFreePlace_44 (C : hv_C p s m args meth c cX7_isFreePlace 4 wsX7_isFreePlace RX7 D (hv_tys cy)) (hr : meth.sig.returnType = (some .boolean)) {n : Nat} {o : Int32 × hv_St} : ∀ (σ : hv_St), kX7_isFreePlace_44 n σ = some o → hv_G p l e (headSpec wsX7_isFreePlace rmX7_isFreePlace).room s m args below meth c 4 D 55 a (hv_XE a cy) 0 0 (hv_MQ D 55 a (hv_XE a cy) below args s (some (.int o.1)) o.2) σ 44 [] [] := by
  intro σ h
  unfold kX7_isFreePlace_44 at h
  refine g_iconst (pc := 44) C (v := (0 : Int32)) dX7_isFreePlace_44 (by decide) ?_
  cases h
  exact g_zret (pc := 45) (x := (0 : Int32)) C hr (by decide) dX7_isFreePlace_45
set_option maxHeartbeats 4000000 in
set_option maxRecDepth 20000 in
theorem bX7_isFreePlace_23 (C : hv_C p s m args meth c cX7_isFreePlace 4 wsX7_isFreePlace RX7 D (hv_tys cy)) (hr : meth.sig.returnType = (some .boolean)) {n : Nat} {o : Int32 × hv_St} : ∀ (σ : hv_St) (x1 : Int32) (x2 : Int32) (z0 : Int32), kX7_isFreePlace_23 n σ x1 x2 z0 = some o → hv_G p l e (headSpec wsX7_isFreePlace rmX7_isFreePlace).room s m args below meth c 4 D 55 a (hv_XE a cy) 0 0 (hv_MQ D 55 a (hv_XE a cy) below args s (some (.int o.1)) o.2) σ 23 [(0, .ref (a 0)), (1, .int (x1)), (2, .int (x2))] [.int (z0)] := by
  intro σ x1 x2 z0 h
  unfold kX7_isFreePlace_23 at h
  refine g_istore_n (pc := 23) C (lv' := [(3, .int (z0)), (0, .ref (a 0)), (1, .int (x1)), (2, .int (x2))]) rfl dX7_isFreePlace_23 rfl (Nat.le_of_ble_eq_true rfl) rfl ?_
  refine g_iload_n (pc := 24) C 0 dX7_isFreePlace_24 rfl rfl ?_
  refine g_if_eq (pc := 25) (tgt := 44) C dX7_isFreePlace_25 (by decide) (fun c25 => ?_) (fun c25 => ?_)
  · rw [if_pos c25] at h
    exact g_lv [] rfl (bX7_isFreePlace_44 C hr σ h)
  · rw [if_neg c25] at h
    refine g_aload_n (pc := 28) C 1 dX7_isFreePlace_28 rfl rfl ?_
    refine gx_get_0_0 (pc := 29) C iX7_isFreePlace_X7 qX7_isFreePlace_F17 dX7_isFreePlace_29 ?_
    refine g_iload_n (pc := 32) C 2 dX7_isFreePlace_32 rfl rfl ?_
    refine g_iload_n (pc := 33) C 3 dX7_isFreePlace_33 rfl rfl ?_
    obtain ⟨r34, s34, hc34, h⟩ := hv_b2_some h
    refine g_callV (pc := 34) (σ1 := s34) (v := (some (.int (r34)))) (As := [.int (x1), .int (x2)]) (rest := []) C 1 (vX3_hasPinAt hc34) (cwV 2 C.1.2.2.2.2 gX7_isFreePlace_X3_hasPinAt rfl rfl rfl (by decide +kernel) ⟨Nat.le_of_ble_eq_true rfl, Nat.le_of_ble_eq_true rfl⟩) (Nat.le_of_ble_eq_true rfl) rfl rfl rfl rfl (Nat.le_of_ble_eq_true rfl) dX7_isFreePlace_34 ⟨Nat.zero_le _, Nat.zero_le _⟩ ?_
    refine g_st (st' := [.int (r34)]) rfl ?_
    refine g_if_ne (pc := 37) (tgt := 44) C dX7_isFreePlace_37 (by decide) (fun c37 => ?_) (fun c37 => ?_)
    · rw [if_neg c37] at h
      exact g_lv [] rfl (bX7_isFreePlace_44 C hr s34 h)
    · rw [if_pos c37] at h
      refine g_iconst (pc := 40) C (v := (1 : Int32)) dX7_isFreePlace_40 (by decide) ?_
      refine g_goto (pc := 41) C (tgt := 45) dX7_isFreePlace_41 (by decide) ?_
      cases h
      exact g_zret (pc := 45) (x := (1 : Int32)) C hr (by decide) dX7_isFreePlace_45
set_option maxHeartbeats 4000000 in
set_option maxRecDepth 20000 in
theorem bX7_isFreePlace_22 (C : hv_C p s m args meth c cX7_isFreePlace 4 wsX7_isFreePlace RX7 D (hv_tys cy)) (hr : meth.sig.returnType = (some .boolean)) {n : Nat} {o : Int32 × hv_St} : ∀ (σ : hv_St) (x1 : Int32) (x2 : Int32), kX7_isFreePlace_22 n σ x1 x2 = some o → hv_G p l e (headSpec wsX7_isFreePlace rmX7_isFreePlace).room s m args below meth c 4 D 55 a (hv_XE a cy) 0 0 (hv_MQ D 55 a (hv_XE a cy) below args s (some (.int o.1)) o.2) σ 22 [(0, .ref (a 0)), (1, .int (x1)), (2, .int (x2))] [] := by
  intro σ x1 x2 h
  unfold kX7_isFreePlace_22 at h
  refine g_iconst (pc := 22) C (v := (0 : Int32)) dX7_isFreePlace_22 (by decide) ?_
  exact g_lv [0, 1, 2] rfl (bX7_isFreePlace_23 C hr σ (x1) (x2) ((0 : Int32)) h)
set_option maxHeartbeats 4000000 in
set_option maxRecDepth 20000 in
theorem vX7_isFreePlace {n : Nat} {σ : hv_St} {p0 : Int32} {p1 : Int32} {o : Int32 × hv_St} (h : mX7_isFreePlace n σ p0 p1 = some o) : hv_M l yX7_isFreePlace wsX7_isFreePlace rmX7_isFreePlace D (hv_tys cy) 55 a (hv_XE a cy) [.ref (a 0), .int (p0), .int (p1)] σ (some (.int o.1)) o.2 := by
  refine hv_enter (own := RX7) (cc := cX7_isFreePlace) (maxL := 4) (ret := (some .boolean)) (by decide) rfl rfl (Nat.le_of_ble_eq_true rfl) ?_
  intro p e s m args below meth c C hr
  unfold mX7_isFreePlace at h
  refine g_lv [0, 1, 2] (lv' := [(0, .ref (a 0)), (1, .int (p0)), (2, .int (p1))]) rfl ?_
  refine g_iload_n (pc := 0) C 1 dX7_isFreePlace_0 rfl rfl ?_
  refine g_if_lt (pc := 1) (tgt := 22) C dX7_isFreePlace_1 (by decide) (fun c1 => ?_) (fun c1 => ?_)
  · rw [if_pos c1] at h
    exact g_lv [0, 1, 2] rfl (bX7_isFreePlace_22 C hr σ (p0) (p1) h)
  · rw [if_neg c1] at h
    refine g_iload_n (pc := 4) C 1 dX7_isFreePlace_4 rfl rfl ?_
    refine g_iconst (pc := 5) C (v := (4 : Int32)) dX7_isFreePlace_5 (by decide) ?_
    refine g_icmp_ge (pc := 6) (tgt := 22) C dX7_isFreePlace_6 (by decide) (fun c6 => ?_) (fun c6 => ?_)
    · rw [if_pos c6] at h
      exact g_lv [0, 1, 2] rfl (bX7_isFreePlace_22 C hr σ (p0) (p1) h)
    · rw [if_neg c6] at h
      refine g_iload_n (pc := 9) C 2 dX7_isFreePlace_9 rfl rfl ?_
      refine g_if_lt (pc := 10) (tgt := 22) C dX7_isFreePlace_10 (by decide) (fun c10 => ?_) (fun c10 => ?_)
      · rw [if_pos c10] at h
        exact g_lv [0, 1, 2] rfl (bX7_isFreePlace_22 C hr σ (p0) (p1) h)
      · rw [if_neg c10] at h
        refine g_iload_n (pc := 13) C 2 dX7_isFreePlace_13 rfl rfl ?_
        refine g_iconst (pc := 14) C (v := (3 : Int32)) dX7_isFreePlace_14 (by decide) ?_
        refine g_icmp_ge (pc := 15) (tgt := 22) C dX7_isFreePlace_15 (by decide) (fun c15 => ?_) (fun c15 => ?_)
        · rw [if_pos c15] at h
          exact g_lv [0, 1, 2] rfl (bX7_isFreePlace_22 C hr σ (p0) (p1) h)
        · rw [if_neg c15] at h
          refine g_iconst (pc := 18) C (v := (1 : Int32)) dX7_isFreePlace_18 (by decide) ?_
          refine g_goto (pc := 19) C (tgt := 23) dX7_isFreePlace_19 (by decide) ?_
          exact g_lv [0, 1, 2] rfl (bX7_isFreePlace_23 C hr σ (p0) (p1) ((1 : Int32)) h)
end
