/-! reference, walked: X8_painted, X8_times, X8_isRide, X8_rides, X8_riding, X8_worst, X8_without, X8_left, X8_keys, X8_mend -/
section
variable {p : Program} {l : Launch} {e : Env} {s : State} {m : MethodId} {args : Array Value} {below : List Frame} {meth : Method} {c : Code} {D : va_G} {a : Nat → Nat} {cy : ClassId × ClassId × ClassId × ClassId}
abbrev rmX8_painted : Room := { frames := 7, cells := 0, slots := 0, locals := 169 }
set_option maxRecDepth 20000 in
theorem qX8_painted_F107 : Cond.fieldLink RX8 107 "PinFrameModel" "on" "I" ∈ wsX8_painted := by decide +kernel
set_option maxRecDepth 20000 in
theorem qX8_painted_F189 : Cond.fieldLink RX8 189 "PinFrameModel" "under" "J" ∈ wsX8_painted := by decide +kernel
set_option maxRecDepth 20000 in
theorem qX8_painted_F31 : Cond.fieldLink RX8 31 "PinFrameModel" "strength" "[I" ∈ wsX8_painted := by decide +kernel
set_option maxRecDepth 20000 in
theorem qX8_painted_F53 : Cond.fieldLink RX8 53 "PinFrameModel" "over" "[J" ∈ wsX8_painted := by decide +kernel
set_option maxRecDepth 20000 in
theorem qX8_painted_F77 : Cond.fieldLink RX8 77 "PinFrameModel" "raised" "I" ∈ wsX8_painted := by decide +kernel
set_option maxRecDepth 20000 in
theorem qX8_painted_F88 : Cond.fieldLink RX8 88 "PinFrameModel" "bars" "I" ∈ wsX8_painted := by decide +kernel
set_option maxRecDepth 20000 in
theorem qX8_painted_L201 : Cond.constantLong RX8 201 (-1) ∈ wsX8_painted := by decide +kernel
set_option maxRecDepth 20000 in
theorem qX8_painted_L93 : Cond.constantLong RX8 93 (2) ∈ wsX8_painted := by decide +kernel
set_option maxRecDepth 20000 in
theorem iX8_painted_X8 : ∀ w ∈ u_ws RX8 TX8 35, w ∈ wsX8_painted := by decide +kernel
set_option maxHeartbeats 4000000 in
set_option maxRecDepth 20000 in
theorem bX8_painted_152 (C : hv_C p s m args meth c cX8_painted 5 wsX8_painted RX8 D (hv_tys cy)) (hr : meth.sig.returnType = (some .int)) {n : Nat} {o : Int32 × hv_St} {r40 : hv_St → Int32 → Int32 → Int32 → Option (Int32 × hv_St)} (hr40 : ∀ (σ : hv_St) (x1 : Int32) (x2 : Int32) (x3 : Int32), r40 σ x1 x2 x3 = some o → hv_G p l e (headSpec wsX8_painted rmX8_painted).room s m args below meth c 5 D 23 a (hv_ME a cy) 0 0 (hv_MQ D 23 a (hv_ME a cy) below args s (some (.int o.1)) o.2) σ 40 [(0, .ref (a 0)), (1, .int (x1)), (2, .int (x2)), (3, .int (x3))] []) : ∀ (σ : hv_St) (x1 : Int32) (x3 : Int32) (z0 : Int32) (z1 : Int32), kX8_painted_152 n r40 σ x1 x3 z0 z1 = some o → hv_G p l e (headSpec wsX8_painted rmX8_painted).room s m args below meth c 5 D 23 a (hv_ME a cy) 0 0 (hv_MQ D 23 a (hv_ME a cy) below args s (some (.int o.1)) o.2) σ 152 [(0, .ref (a 0)), (1, .int (x1)), (3, .int (x3))] [.int (z0), .int (z1)] := by
  intro σ x1 x3 z0 z1 h
  unfold kX8_painted_152 at h
  refine g_ior (pc := 152) C dX8_painted_152 ?_
  obtain ⟨y2_153, ey2_153, h⟩ := hv_let_some h
  refine g_istore_n (pc := 153) C (lv' := [(2, .int (y2_153)), (0, .ref (a 0)), (1, .int (x1)), (3, .int (x3))]) ey2_153 dX8_painted_153 rfl (Nat.le_of_ble_eq_true rfl) rfl ?_
  refine g_iinc (pc := 154) C 3 (v := x3 + 1) (lv' := [(3, .int (x3 + 1)), (2, .int (y2_153)), (0, .ref (a 0)), (1, .int (x1))]) dX8_painted_154 rfl rfl (Nat.le_of_ble_eq_true rfl) rfl ?_
  refine g_goto (pc := 157) C (tgt := 40) dX8_painted_157 (by decide) ?_
  exact g_lv [2, 3, 1, 0] rfl (hr40 σ (x1) (y2_153) (x3 + 1) h)
set_option maxHeartbeats 4000000 in
set_option maxRecDepth 20000 in
theorem bX8_painted_151 (C : hv_C p s m args meth c cX8_painted 5 wsX8_painted RX8 D (hv_tys cy)) (hr : meth.sig.returnType = (some .int)) {n : Nat} {o : Int32 × hv_St} {r40 : hv_St → Int32 → Int32 → Int32 → Option (Int32 × hv_St)} (hr40 : ∀ (σ : hv_St) (x1 : Int32) (x2 : Int32) (x3 : Int32), r40 σ x1 x2 x3 = some o → hv_G p l e (headSpec wsX8_painted rmX8_painted).room s m args below meth c 5 D 23 a (hv_ME a cy) 0 0 (hv_MQ D 23 a (hv_ME a cy) below args s (some (.int o.1)) o.2) σ 40 [(0, .ref (a 0)), (1, .int (x1)), (2, .int (x2)), (3, .int (x3))] []) : ∀ (σ : hv_St) (x1 : Int32) (x3 : Int32) (z0 : Int32), kX8_painted_151 n r40 σ x1 x3 z0 = some o → hv_G p l e (headSpec wsX8_painted rmX8_painted).room s m args below meth c 5 D 23 a (hv_ME a cy) 0 0 (hv_MQ D 23 a (hv_ME a cy) below args s (some (.int o.1)) o.2) σ 151 [(0, .ref (a 0)), (1, .int (x1)), (3, .int (x3))] [.int (z0)] := by
  intro σ x1 x3 z0 h
  unfold kX8_painted_151 at h
  refine g_iconst (pc := 151) C (v := (0 : Int32)) dX8_painted_151 (by decide) ?_
  exact g_lv [0, 1, 2] rfl (bX8_painted_152 C hr hr40 σ (x1) (x3) ((0 : Int32)) (z0) h)
set_option maxHeartbeats 4000000 in
set_option maxRecDepth 20000 in
theorem bX8_painted_126 (C : hv_C p s m args meth c cX8_painted 5 wsX8_painted RX8 D (hv_tys cy)) (hr : meth.sig.returnType = (some .int)) {n : Nat} {o : Int32 × hv_St} {r40 : hv_St → Int32 → Int32 → Int32 → Option (Int32 × hv_St)} (hr40 : ∀ (σ : hv_St) (x1 : Int32) (x2 : Int32) (x3 : Int32), r40 σ x1 x2 x3 = some o → hv_G p l e (headSpec wsX8_painted rmX8_painted).room s m args below meth c 5 D 23 a (hv_ME a cy) 0 0 (hv_MQ D 23 a (hv_ME a cy) below args s (some (.int o.1)) o.2) σ 40 [(0, .ref (a 0)), (1, .int (x1)), (2, .int (x2)), (3, .int (x3))] []) : ∀ (σ : hv_St) (x1 : Int32) (x2 : Int32) (x3 : Int32) (z0 : Int32), kX8_painted_126 n r40 σ x1 x2 x3 z0 = some o → hv_G p l e (headSpec wsX8_painted rmX8_painted).room s m args below meth c 5 D 23 a (hv_ME a cy) 0 0 (hv_MQ D 23 a (hv_ME a cy) below args s (some (.int o.1)) o.2) σ 126 [(0, .ref (a 0)), (1, .int (x1)), (2, .int (x2)), (3, .int (x3))] [.int (z0)] := by
  intro σ x1 x2 x3 z0 h
  unfold kX8_painted_126 at h
  refine g_istore (pc := 126) C (lv' := [(4, .int (z0)), (0, .ref (a 0)), (1, .int (x1)), (2, .int (x2)), (3, .int (x3))]) rfl dX8_painted_126 (Nat.le_of_ble_eq_true rfl) rfl ?_
  refine g_iload_n (pc := 128) C 3 dX8_painted_128 rfl rfl ?_
  refine g_iload (pc := 129) C 0 dX8_painted_129 rfl ?_
  refine g_if_eq (pc := 131) (tgt := 151) C dX8_painted_131 (by decide) (fun c131 => ?_) (fun c131 => ?_)
  · rw [if_pos c131] at h
    exact g_lv [1, 2, 4] rfl (bX8_painted_151 C hr hr40 σ (x1) (x3) (x2) h)
  · rw [if_neg c131] at h
    refine g_aload_n (pc := 134) C 1 dX8_painted_134 rfl rfl ?_
    refine gm_get_0_11 (pc := 135) C iX8_painted_X8 qX8_painted_F107 dX8_painted_135 ?_
    refine g_iload_n (pc := 138) C 4 dX8_painted_138 rfl rfl ?_
    obtain ⟨r139, s139, hc139, h⟩ := hv_b2_some h
    refine g_callS (pc := 139) (σ1 := s139) (v := (some (.int (r139)))) (As := [.int (σ.1 0 11), .int (x3)]) (rest := [.int (x2)]) C (vX8_isOn hc139) (va_cwS 2 C.1.2.2.2.2 gX8_painted_X8_isOn rfl rfl rfl (by decide +kernel) ⟨Nat.le_of_ble_eq_true rfl, Nat.le_of_ble_eq_true rfl⟩) rfl rfl (Nat.le_of_ble_eq_true rfl) dX8_painted_139 ⟨Nat.zero_le _, Nat.zero_le _⟩ ?_
    refine g_st (st' := [.int (r139), .int (x2)]) rfl ?_
    refine g_if_eq (pc := 142) (tgt := 151) C dX8_painted_142 (by decide) (fun c142 => ?_) (fun c142 => ?_)
    · rw [if_pos c142] at h
      exact g_lv [1, 2, 4] rfl (bX8_painted_151 C hr hr40 s139 (x1) (x3) (x2) h)
    · rw [if_neg c142] at h
      refine g_iconst (pc := 145) C (v := (1 : Int32)) dX8_painted_145 (by decide) ?_
      refine g_iload_n (pc := 146) C 4 dX8_painted_146 rfl rfl ?_
      refine g_ishl (pc := 147) C dX8_painted_147 ?_
      refine g_goto (pc := 148) C (tgt := 152) dX8_painted_148 (by decide) ?_
      exact g_lv [1, 2, 4] rfl (bX8_painted_152 C hr hr40 s139 (x1) (x3) (((1 : Int32)) <<< ((x3) &&& 31)) (x2) h)
set_option maxHeartbeats 4000000 in
set_option maxRecDepth 20000 in
theorem bX8_painted_118 (C : hv_C p s m args meth c cX8_painted 5 wsX8_painted RX8 D (hv_tys cy)) (hr : meth.sig.returnType = (some .int)) {n : Nat} {o : Int32 × hv_St} {r40 : hv_St → Int32 → Int32 → Int32 → Option (Int32 × hv_St)} (hr40 : ∀ (σ : hv_St) (x1 : Int32) (x2 : Int32) (x3 : Int32), r40 σ x1 x2 x3 = some o → hv_G p l e (headSpec wsX8_painted rmX8_painted).room s m args below meth c 5 D 23 a (hv_ME a cy) 0 0 (hv_MQ D 23 a (hv_ME a cy) below args s (some (.int o.1)) o.2) σ 40 [(0, .ref (a 0)), (1, .int (x1)), (2, .int (x2)), (3, .int (x3))] []) : ∀ (σ : hv_St) (x1 : Int32) (x2 : Int32) (x3 : Int32) (z0 : Int32) (z1 : Int32), kX8_painted_118 n r40 σ x1 x2 x3 z0 z1 = some o → hv_G p l e (headSpec wsX8_painted rmX8_painted).room s m args below meth c 5 D 23 a (hv_ME a cy) 0 0 (hv_MQ D 23 a (hv_ME a cy) below args s (some (.int o.1)) o.2) σ 118 [(0, .ref (a 0)), (1, .int (x1)), (2, .int (x2)), (3, .int (x3))] [.int (z0), .int (z1)] := by
  intro σ x1 x2 x3 z0 z1 h
  unfold kX8_painted_118 at h
  refine g_icmp_ne (pc := 118) (tgt := 125) C dX8_painted_118 (by decide) (fun c118 => ?_) (fun c118 => ?_)
  · rw [if_neg c118] at h
    refine g_iconst (pc := 125) C (v := (0 : Int32)) dX8_painted_125 (by decide) ?_
    exact g_lv [0, 1, 2, 3] rfl (bX8_painted_126 C hr hr40 σ (x1) (x2) (x3) ((0 : Int32)) h)
  · rw [if_pos c118] at h
    refine g_iconst (pc := 121) C (v := (1 : Int32)) dX8_painted_121 (by decide) ?_
    refine g_goto (pc := 122) C (tgt := 126) dX8_painted_122 (by decide) ?_
    exact g_lv [0, 1, 2, 3] rfl (bX8_painted_126 C hr hr40 σ (x1) (x2) (x3) ((1 : Int32)) h)
set_option maxHeartbeats 4000000 in
set_option maxRecDepth 20000 in
theorem bX8_painted_40 (C : hv_C p s m args meth c cX8_painted 5 wsX8_painted RX8 D (hv_tys cy)) (hr : meth.sig.returnType = (some .int)) {n : Nat} {o : Int32 × hv_St} : ∀ (i : Nat) (σ : hv_St) (x1 : Int32) (x2 : Int32) (x3 : Int32), kX8_painted_40 n i σ x1 x2 x3 = some o → hv_G p l e (headSpec wsX8_painted rmX8_painted).room s m args below meth c 5 D 23 a (hv_ME a cy) 0 0 (hv_MQ D 23 a (hv_ME a cy) below args s (some (.int o.1)) o.2) σ 40 [(0, .ref (a 0)), (1, .int (x1)), (2, .int (x2)), (3, .int (x3))] [] := by
  intro i
  induction i with
  | zero =>
    intro σ x1 x2 x3 h
    cases h
  | succ i ih =>
    intro σ x1 x2 x3 h
    generalize hg : kX8_painted_40 n i = r40 at ih
    have hr40 := ih
    replace h : kX8_painted_40_b n r40 σ x1 x2 x3 = some o := by rw [← hg]; exact h
    unfold kX8_painted_40_b at h
    refine g_iload_n (pc := 40) C 3 dX8_painted_40 rfl rfl ?_
    refine g_aload_n (pc := 41) C 0 dX8_painted_41 rfl rfl ?_
    refine gm_get_0_6 (pc := 42) C iX8_painted_X8 qX8_painted_F88 dX8_painted_42 ?_
    refine g_icmp_ge (pc := 45) (tgt := 160) C dX8_painted_45 (by decide) (fun c45 => ?_) (fun c45 => ?_)
    · rw [if_pos c45] at h
      refine g_iload_n (pc := 160) C 2 dX8_painted_160 rfl rfl ?_
      cases h
      exact g_iret (pc := 161) C hr dX8_painted_161
    · rw [if_neg c45] at h
      refine g_iload_n (pc := 48) C 1 dX8_painted_48 rfl rfl ?_
      refine g_iconst (pc := 49) C (v := (2 : Int32)) dX8_painted_49 (by decide) ?_
      refine g_icmp_ne (pc := 50) (tgt := 86) C dX8_painted_50 (by decide) (fun c50 => ?_) (fun c50 => ?_)
      · rw [if_neg c50] at h
        refine g_iload_n (pc := 86) C 1 dX8_painted_86 rfl rfl ?_
        refine g_aload_n (pc := 87) C 0 dX8_painted_87 rfl rfl ?_
        refine gm_get_0_23 (pc := 88) C iX8_painted_X8 qX8_painted_F53 dX8_painted_88 ?_
        refine g_iload_n (pc := 91) C 3 dX8_painted_91 rfl rfl ?_
        obtain ⟨k92, h⟩ := hv_if_some h
        refine gm_ld_15 (pc := 92) C k92 dX8_painted_92 ?_
        refine g_lconst (pc := 93) C (v := (0 : Int64)) dX8_painted_93 (by decide) ?_
        refine g_lcmp (pc := 94) C dX8_painted_94 ?_
        refine g_if_le (pc := 95) (tgt := 102) C dX8_painted_95 (by decide) (fun c95 => ?_) (fun c95 => ?_)
        · rw [if_pos c95] at h
          refine g_aload_n (pc := 102) C 0 dX8_painted_102 rfl rfl ?_
          refine gm_get_0_23 (pc := 103) C iX8_painted_X8 qX8_painted_F53 dX8_painted_103 ?_
          refine g_iload_n (pc := 106) C 3 dX8_painted_106 rfl rfl ?_
          obtain ⟨k107, h⟩ := hv_if_some h
          refine gm_ld_15 (pc := 107) C k107 dX8_painted_107 ?_
          refine g_lconst (pc := 108) C (v := (0 : Int64)) dX8_painted_108 (by decide) ?_
          refine g_lcmp (pc := 109) C dX8_painted_109 ?_
          refine g_if_ge (pc := 110) (tgt := 117) C dX8_painted_110 (by decide) (fun c110 => ?_) (fun c110 => ?_)
          · rw [if_pos c110] at h
            refine g_iconst (pc := 117) C (v := (0 : Int32)) dX8_painted_117 (by decide) ?_
            exact g_lv [0, 1, 2, 3] rfl (bX8_painted_118 C hr hr40 σ (x1) (x2) (x3) ((0 : Int32)) (x1) h)
          · rw [if_neg c110] at h
            refine g_iconst (pc := 113) C (v := (-1 : Int32)) dX8_painted_113 (by decide) ?_
            refine g_goto (pc := 114) C (tgt := 118) dX8_painted_114 (by decide) ?_
            exact g_lv [0, 1, 2, 3] rfl (bX8_painted_118 C hr hr40 σ (x1) (x2) (x3) ((-1 : Int32)) (x1) h)
        · rw [if_neg c95] at h
          refine g_iconst (pc := 98) C (v := (1 : Int32)) dX8_painted_98 (by decide) ?_
          refine g_goto (pc := 99) C (tgt := 118) dX8_painted_99 (by decide) ?_
          exact g_lv [0, 1, 2, 3] rfl (bX8_painted_118 C hr hr40 σ (x1) (x2) (x3) ((1 : Int32)) (x1) h)
      · rw [if_pos c50] at h
        refine g_aload_n (pc := 53) C 0 dX8_painted_53 rfl rfl ?_
        refine gm_get_0_23 (pc := 54) C iX8_painted_X8 qX8_painted_F53 dX8_painted_54 ?_
        refine g_iload_n (pc := 57) C 3 dX8_painted_57 rfl rfl ?_
        obtain ⟨k58, h⟩ := hv_if_some h
        refine gm_ld_15 (pc := 58) C k58 dX8_painted_58 ?_
        obtain ⟨r59, s59, hc59, h⟩ := hv_b2_some h
        refine g_callS (pc := 59) (σ1 := s59) (v := (some (.long (r59)))) (As := [.long (σ.2 15 (x3).toNatClampNeg)]) (rest := []) C (vX8_abs hc59) (va_cwS 1 C.1.2.2.2.2 gX8_painted_X8_abs rfl rfl rfl (by decide +kernel) ⟨Nat.le_of_ble_eq_true rfl, Nat.le_of_ble_eq_true rfl⟩) rfl rfl (Nat.le_of_ble_eq_true rfl) dX8_painted_59 ⟨Nat.zero_le _, Nat.zero_le _⟩ ?_
        refine g_st (st' := [.long (r59)]) rfl ?_
        refine g_aload_n (pc := 62) C 0 dX8_painted_62 rfl rfl ?_
        refine gm_get_0_10 (pc := 63) C iX8_painted_X8 qX8_painted_F31 dX8_painted_63 ?_
        refine g_iload_n (pc := 66) C 3 dX8_painted_66 rfl rfl ?_
        obtain ⟨k67, h⟩ := hv_if_some h
        refine gm_ld_8 (pc := 67) C k67 dX8_painted_67 ?_
        refine g_i2l (pc := 68) C dX8_painted_68 ?_
        refine g_aload_n (pc := 69) C 0 dX8_painted_69 rfl rfl ?_
        refine gm_get_0_24 (pc := 70) C iX8_painted_X8 qX8_painted_F189 dX8_painted_70 ?_
        refine g_lmul (pc := 73) C dX8_painted_73 ?_
        refine g_lcmp (pc := 74) C dX8_painted_74 ?_
        refine g_if_le (pc := 75) (tgt := 82) C dX8_painted_75 (by decide) (fun c75 => ?_) (fun c75 => ?_)
        · rw [if_pos c75] at h
          refine g_iconst (pc := 82) C (v := (0 : Int32)) dX8_painted_82 (by decide) ?_
          refine g_goto (pc := 83) C (tgt := 126) dX8_painted_83 (by decide) ?_
          exact g_lv [0, 1, 2, 3] rfl (bX8_painted_126 C hr hr40 s59 (x1) (x2) (x3) ((0 : Int32)) h)
        · rw [if_neg c75] at h
          refine g_iconst (pc := 78) C (v := (1 : Int32)) dX8_painted_78 (by decide) ?_
          refine g_goto (pc := 79) C (tgt := 126) dX8_painted_79 (by decide) ?_
          exact g_lv [0, 1, 2, 3] rfl (bX8_painted_126 C hr hr40 s59 (x1) (x2) (x3) ((1 : Int32)) h)
set_option maxHeartbeats 4000000 in
set_option maxRecDepth 20000 in
theorem vX8_painted {n : Nat} {σ : hv_St} {p0 : Int32} {o : Int32 × hv_St} (h : mX8_painted n σ p0 = some o) : hv_M l yX8_painted wsX8_painted rmX8_painted D (hv_tys cy) 23 a (hv_ME a cy) [.ref (a 0), .int (p0)] σ (some (.int o.1)) o.2 := by
  refine hv_enter (own := RX8) (cc := cX8_painted) (maxL := 5) (ret := (some .int)) (by decide) rfl rfl (Nat.le_of_ble_eq_true rfl) ?_
  intro p e s m args below meth c C hr
  unfold mX8_painted at h
  refine g_lv [0, 1] (lv' := [(0, .ref (a 0)), (1, .int (p0))]) rfl ?_
  refine g_aload_n (pc := 0) C 0 dX8_painted_0 rfl rfl ?_
  refine g_iconst (pc := 1) C (v := (0 : Int32)) dX8_painted_1 (by decide) ?_
  obtain ⟨s2, es2, h⟩ := hv_let_some h
  refine gm_put_0_0 (pc := 2) C es2 iX8_painted_X8 qX8_painted_F77 dX8_painted_2 ?_
  refine g_aload_n (pc := 5) C 0 dX8_painted_5 rfl rfl ?_
  obtain ⟨s6, hc6, h⟩ := hv_bd_some h
  refine g_callV (pc := 6) (σ1 := s6) (v := none) (As := []) (rest := []) C 0 (vX8_takesLoads hc6) (cwV 0 C.1.2.2.2.2 gX8_painted_X8_takesLoads rfl rfl rfl (by decide +kernel) ⟨Nat.le_of_ble_eq_true rfl, Nat.le_of_ble_eq_true rfl⟩) (Nat.le_of_ble_eq_true rfl) rfl rfl rfl rfl (Nat.le_of_ble_eq_true rfl) dX8_painted_6 ⟨Nat.zero_le _, Nat.zero_le _⟩ ?_
  refine g_st (st' := []) rfl ?_
  refine g_iload_n (pc := 9) C 1 dX8_painted_9 rfl rfl ?_
  refine g_i2l (pc := 10) C dX8_painted_10 ?_
  refine g_ldc2 (pc := 11) C (v := (-1 : Int64)) qX8_painted_L201 dX8_painted_11 ?_
  refine g_ldc2 (pc := 14) C (v := (2 : Int64)) qX8_painted_L93 dX8_painted_14 ?_
  obtain ⟨r17, s17, hc17, h⟩ := hv_b2_some h
  refine g_callS (pc := 17) (σ1 := s17) (v := (some (.int (r17)))) (As := [.long ((p0).toInt64), .long ((-1 : Int64)), .long ((2 : Int64))]) (rest := []) C (vX8_in hc17) (va_cwS 3 C.1.2.2.2.2 gX8_painted_X8_in rfl rfl rfl (by decide +kernel) ⟨Nat.le_of_ble_eq_true rfl, Nat.le_of_ble_eq_true rfl⟩) rfl rfl (Nat.le_of_ble_eq_true rfl) dX8_painted_17 ⟨Nat.zero_le _, Nat.zero_le _⟩ ?_
  refine g_st (st' := [.int (r17)]) rfl ?_
  refine g_if_eq (pc := 20) (tgt := 34) C dX8_painted_20 (by decide) (fun c20 => ?_) (fun c20 => ?_)
  · rw [if_pos c20] at h
    refine g_iconst (pc := 34) C (v := (-1 : Int32)) dX8_painted_34 (by decide) ?_
    cases h
    exact g_iret (pc := 35) C hr dX8_painted_35
  · rw [if_neg c20] at h
    refine g_aload_n (pc := 23) C 0 dX8_painted_23 rfl rfl ?_
    refine g_aload_n (pc := 24) C 0 dX8_painted_24 rfl rfl ?_
    refine gm_get_0_11 (pc := 25) C iX8_painted_X8 qX8_painted_F107 dX8_painted_25 ?_
    obtain ⟨r28, s28, hc28, h⟩ := hv_b2_some h
    refine g_callV (pc := 28) (σ1 := s28) (v := (some (.int (r28)))) (As := [.int (s17.1 0 11)]) (rest := []) C 0 (vX8_bears hc28) (cwV 1 C.1.2.2.2.2 gX8_painted_X8_bears rfl rfl rfl (by decide +kernel) ⟨Nat.le_of_ble_eq_true rfl, Nat.le_of_ble_eq_true rfl⟩) (Nat.le_of_ble_eq_true rfl) rfl rfl rfl rfl (Nat.le_of_ble_eq_true rfl) dX8_painted_28 ⟨Nat.zero_le _, Nat.zero_le _⟩ ?_
    refine g_st (st' := [.int (r28)]) rfl ?_
    refine g_if_ne (pc := 31) (tgt := 36) C dX8_painted_31 (by decide) (fun c31 => ?_) (fun c31 => ?_)
    · rw [if_neg c31] at h
      refine g_iconst (pc := 36) C (v := (0 : Int32)) dX8_painted_36 (by decide) ?_
      refine g_istore_n (pc := 37) C (lv' := [(2, .int ((0 : Int32))), (0, .ref (a 0)), (1, .int (p0))]) rfl dX8_painted_37 rfl (Nat.le_of_ble_eq_true rfl) rfl ?_
      refine g_iconst (pc := 38) C (v := (0 : Int32)) dX8_painted_38 (by decide) ?_
      refine g_istore_n (pc := 39) C (lv' := [(3, .int ((0 : Int32))), (2, .int ((0 : Int32))), (0, .ref (a 0)), (1, .int (p0))]) rfl dX8_painted_39 rfl (Nat.le_of_ble_eq_true rfl) rfl ?_
      exact g_lv [2, 3, 1, 0] rfl (bX8_painted_40 C hr n s28 (p0) ((0 : Int32)) ((0 : Int32)) h)
    · rw [if_pos c31] at h
      refine g_iconst (pc := 34) C (v := (-1 : Int32)) dX8_painted_34 (by decide) ?_
      cases h
      exact g_iret (pc := 35) C hr dX8_painted_35
abbrev rmX8_times : Room := { frames := 7, cells := 0, slots := 0, locals := 169 }
set_option maxRecDepth 20000 in
theorem qX8_times_F107 : Cond.fieldLink RX8 107 "PinFrameModel" "on" "I" ∈ wsX8_times := by decide +kernel
set_option maxRecDepth 20000 in
theorem qX8_times_F189 : Cond.fieldLink RX8 189 "PinFrameModel" "under" "J" ∈ wsX8_times := by decide +kernel
set_option maxRecDepth 20000 in
theorem qX8_times_F31 : Cond.fieldLink RX8 31 "PinFrameModel" "strength" "[I" ∈ wsX8_times := by decide +kernel
set_option maxRecDepth 20000 in
theorem qX8_times_F53 : Cond.fieldLink RX8 53 "PinFrameModel" "over" "[J" ∈ wsX8_times := by decide +kernel
set_option maxRecDepth 20000 in
theorem qX8_times_F77 : Cond.fieldLink RX8 77 "PinFrameModel" "raised" "I" ∈ wsX8_times := by decide +kernel
set_option maxRecDepth 20000 in
theorem qX8_times_F88 : Cond.fieldLink RX8 88 "PinFrameModel" "bars" "I" ∈ wsX8_times := by decide +kernel
set_option maxRecDepth 20000 in
theorem iX8_times_X8 : ∀ w ∈ u_ws RX8 TX8 35, w ∈ wsX8_times := by decide +kernel
set_option maxHeartbeats 4000000 in
set_option maxRecDepth 20000 in
theorem bX8_times_90 (C : hv_C p s m args meth c cX8_times 5 wsX8_times RX8 D (hv_tys cy)) (hr : meth.sig.returnType = (some .int)) {n : Nat} {o : Int32 × hv_St} {r28 : hv_St → Int32 → Int32 → Option (Int32 × hv_St)} (hr28 : ∀ (σ : hv_St) (x1 : Int32) (x2 : Int32), r28 σ x1 x2 = some o → hv_G p l e (headSpec wsX8_times rmX8_times).room s m args below meth c 5 D 23 a (hv_ME a cy) 0 0 (hv_MQ D 23 a (hv_ME a cy) below args s (some (.int o.1)) o.2) σ 28 [(0, .ref (a 0)), (1, .int (x1)), (2, .int (x2))] []) : ∀ (σ : hv_St) (x1 : Int32) (x2 : Int32), kX8_times_90 n r28 σ x1 x2 = some o → hv_G p l e (headSpec wsX8_times rmX8_times).room s m args below meth c 5 D 23 a (hv_ME a cy) 0 0 (hv_MQ D 23 a (hv_ME a cy) below args s (some (.int o.1)) o.2) σ 90 [(0, .ref (a 0)), (1, .int (x1)), (2, .int (x2))] [] := by
  intro σ x1 x2 h
  unfold kX8_times_90 at h
  refine g_iinc (pc := 90) C 2 (v := x2 + 1) (lv' := [(2, .int (x2 + 1)), (0, .ref (a 0)), (1, .int (x1))]) dX8_times_90 rfl rfl (Nat.le_of_ble_eq_true rfl) rfl ?_
  refine g_goto (pc := 93) C (tgt := 28) dX8_times_93 (by decide) ?_
  exact g_lv [1, 2, 0] rfl (hr28 σ (x1) (x2 + 1) h)
set_option maxHeartbeats 4000000 in
set_option maxRecDepth 20000 in
theorem bX8_times_28 (C : hv_C p s m args meth c cX8_times 5 wsX8_times RX8 D (hv_tys cy)) (hr : meth.sig.returnType = (some .int)) {n : Nat} {o : Int32 × hv_St} : ∀ (i : Nat) (σ : hv_St) (x1 : Int32) (x2 : Int32), kX8_times_28 n i σ x1 x2 = some o → hv_G p l e (headSpec wsX8_times rmX8_times).room s m args below meth c 5 D 23 a (hv_ME a cy) 0 0 (hv_MQ D 23 a (hv_ME a cy) below args s (some (.int o.1)) o.2) σ 28 [(0, .ref (a 0)), (1, .int (x1)), (2, .int (x2))] [] := by
  intro i
  induction i with
  | zero =>
    intro σ x1 x2 h
    cases h
  | succ i ih =>
    intro σ x1 x2 h
    generalize hg : kX8_times_28 n i = r28 at ih
    have hr28 := ih
    replace h : kX8_times_28_b n r28 σ x1 x2 = some o := by rw [← hg]; exact h
    unfold kX8_times_28_b at h
    refine g_iload_n (pc := 28) C 2 dX8_times_28 rfl rfl ?_
    refine g_aload_n (pc := 29) C 0 dX8_times_29 rfl rfl ?_
    refine gm_get_0_6 (pc := 30) C iX8_times_X8 qX8_times_F88 dX8_times_30 ?_
    refine g_icmp_ge (pc := 33) (tgt := 96) C dX8_times_33 (by decide) (fun c33 => ?_) (fun c33 => ?_)
    · rw [if_pos c33] at h
      refine g_iload_n (pc := 96) C 1 dX8_times_96 rfl rfl ?_
      cases h
      exact g_iret (pc := 97) C hr dX8_times_97
    · rw [if_neg c33] at h
      refine g_aload_n (pc := 36) C 0 dX8_times_36 rfl rfl ?_
      refine gm_get_0_23 (pc := 37) C iX8_times_X8 qX8_times_F53 dX8_times_37 ?_
      refine g_iload_n (pc := 40) C 2 dX8_times_40 rfl rfl ?_
      obtain ⟨k41, h⟩ := hv_if_some h
      refine gm_ld_15 (pc := 41) C k41 dX8_times_41 ?_
      obtain ⟨r42, s42, hc42, h⟩ := hv_b2_some h
      refine g_callS (pc := 42) (σ1 := s42) (v := (some (.long (r42)))) (As := [.long (σ.2 15 (x2).toNatClampNeg)]) (rest := []) C (vX8_abs hc42) (va_cwS 1 C.1.2.2.2.2 gX8_times_X8_abs rfl rfl rfl (by decide +kernel) ⟨Nat.le_of_ble_eq_true rfl, Nat.le_of_ble_eq_true rfl⟩) rfl rfl (Nat.le_of_ble_eq_true rfl) dX8_times_42 ⟨Nat.zero_le _, Nat.zero_le _⟩ ?_
      refine g_st (st' := [.long (r42)]) rfl ?_
      refine g_aload_n (pc := 45) C 0 dX8_times_45 rfl rfl ?_
      refine gm_get_0_24 (pc := 46) C iX8_times_X8 qX8_times_F189 dX8_times_46 ?_
      refine g_ladd (pc := 49) C dX8_times_49 ?_
      refine g_lconst (pc := 50) C (v := (1 : Int64)) dX8_times_50 (by decide) ?_
      refine g_lsub (pc := 51) C dX8_times_51 ?_
      refine g_aload_n (pc := 52) C 0 dX8_times_52 rfl rfl ?_
      refine gm_get_0_24 (pc := 53) C iX8_times_X8 qX8_times_F189 dX8_times_53 ?_
      obtain ⟨k56, h⟩ := hv_if_some h
      refine g_ldiv (pc := 56) C dX8_times_56 (of_decide_eq_true k56) ?_
      obtain ⟨y3_57, ey3_57, h⟩ := hv_let_some h
      refine g_lstore_n (pc := 57) C (lv' := [(3, .long (y3_57)), (0, .ref (a 0)), (1, .int (x1)), (2, .int (x2))]) ey3_57 dX8_times_57 rfl (Nat.le_of_ble_eq_true rfl) rfl ?_
      refine g_lload_n (pc := 58) C 0 dX8_times_58 rfl rfl ?_
      refine g_lconst (pc := 59) C (v := (0 : Int64)) dX8_times_59 (by decide) ?_
      refine g_lcmp (pc := 60) C dX8_times_60 ?_
      refine g_if_le (pc := 61) (tgt := 90) C dX8_times_61 (by decide) (fun c61 => ?_) (fun c61 => ?_)
      · rw [if_pos c61] at h
        exact g_lv [1, 2, 3] rfl (bX8_times_90 C hr hr28 s42 (x1) (x2) h)
      · rw [if_neg c61] at h
        refine g_aload_n (pc := 64) C 1 dX8_times_64 rfl rfl ?_
        refine gm_get_0_10 (pc := 65) C iX8_times_X8 qX8_times_F31 dX8_times_65 ?_
        refine g_iload_n (pc := 68) C 3 dX8_times_68 rfl rfl ?_
        obtain ⟨k69, h⟩ := hv_if_some h
        refine gm_ld_8 (pc := 69) C k69 dX8_times_69 ?_
        refine g_i2l (pc := 70) C dX8_times_70 ?_
        refine g_lload_n (pc := 71) C 0 dX8_times_71 rfl rfl ?_
        obtain ⟨k72, h⟩ := hv_if_some h
        refine g_ldiv (pc := 72) C dX8_times_72 (of_decide_eq_true k72) ?_
        refine g_iload_n (pc := 73) C 2 dX8_times_73 rfl rfl ?_
        refine g_i2l (pc := 74) C dX8_times_74 ?_
        refine g_lcmp (pc := 75) C dX8_times_75 ?_
        refine g_if_ge (pc := 76) (tgt := 90) C dX8_times_76 (by decide) (fun c76 => ?_) (fun c76 => ?_)
        · rw [if_pos c76] at h
          exact g_lv [1, 2, 3] rfl (bX8_times_90 C hr hr28 s42 (x1) (x2) h)
        · rw [if_neg c76] at h
          refine g_aload_n (pc := 79) C 1 dX8_times_79 rfl rfl ?_
          refine gm_get_0_10 (pc := 80) C iX8_times_X8 qX8_times_F31 dX8_times_80 ?_
          refine g_iload_n (pc := 83) C 3 dX8_times_83 rfl rfl ?_
          obtain ⟨k84, h⟩ := hv_if_some h
          refine gm_ld_8 (pc := 84) C k84 dX8_times_84 ?_
          refine g_i2l (pc := 85) C dX8_times_85 ?_
          refine g_lload_n (pc := 86) C 0 dX8_times_86 rfl rfl ?_
          obtain ⟨k87, h⟩ := hv_if_some h
          refine g_ldiv (pc := 87) C dX8_times_87 (of_decide_eq_true k87) ?_
          refine g_l2i (pc := 88) C dX8_times_88 ?_
          obtain ⟨y1_89, ey1_89, h⟩ := hv_let_some h
          refine g_istore_n (pc := 89) C (lv' := [(1, .int (y1_89)), (3, .long (y3_57)), (0, .ref (a 0)), (2, .int (x2))]) ey1_89 dX8_times_89 rfl (Nat.le_of_ble_eq_true rfl) rfl ?_
          exact g_lv [2, 0, 3] rfl (bX8_times_90 C hr hr28 s42 (y1_89) (x2) h)
set_option maxHeartbeats 4000000 in
set_option maxRecDepth 20000 in
theorem vX8_times {n : Nat} {σ : hv_St} {o : Int32 × hv_St} (h : mX8_times n σ = some o) : hv_M l yX8_times wsX8_times rmX8_times D (hv_tys cy) 23 a (hv_ME a cy) [.ref (a 0)] σ (some (.int o.1)) o.2 := by
  refine hv_enter (own := RX8) (cc := cX8_times) (maxL := 5) (ret := (some .int)) (by decide) rfl rfl (Nat.le_of_ble_eq_true rfl) ?_
  intro p e s m args below meth c C hr
  unfold mX8_times at h
  refine g_lv [0] (lv' := [(0, .ref (a 0))]) rfl ?_
  refine g_aload_n (pc := 0) C 0 dX8_times_0 rfl rfl ?_
  refine g_iconst (pc := 1) C (v := (0 : Int32)) dX8_times_1 (by decide) ?_
  obtain ⟨s2, es2, h⟩ := hv_let_some h
  refine gm_put_0_0 (pc := 2) C es2 iX8_times_X8 qX8_times_F77 dX8_times_2 ?_
  refine g_aload_n (pc := 5) C 0 dX8_times_5 rfl rfl ?_
  obtain ⟨s6, hc6, h⟩ := hv_bd_some h
  refine g_callV (pc := 6) (σ1 := s6) (v := none) (As := []) (rest := []) C 0 (vX8_takesLoads hc6) (cwV 0 C.1.2.2.2.2 gX8_times_X8_takesLoads rfl rfl rfl (by decide +kernel) ⟨Nat.le_of_ble_eq_true rfl, Nat.le_of_ble_eq_true rfl⟩) (Nat.le_of_ble_eq_true rfl) rfl rfl rfl rfl (Nat.le_of_ble_eq_true rfl) dX8_times_6 ⟨Nat.zero_le _, Nat.zero_le _⟩ ?_
  refine g_st (st' := []) rfl ?_
  refine g_aload_n (pc := 9) C 0 dX8_times_9 rfl rfl ?_
  refine g_aload_n (pc := 10) C 0 dX8_times_10 rfl rfl ?_
  refine gm_get_0_11 (pc := 11) C iX8_times_X8 qX8_times_F107 dX8_times_11 ?_
  obtain ⟨r14, s14, hc14, h⟩ := hv_b2_some h
  refine g_callV (pc := 14) (σ1 := s14) (v := (some (.int (r14)))) (As := [.int (s6.1 0 11)]) (rest := []) C 0 (vX8_bears hc14) (cwV 1 C.1.2.2.2.2 gX8_times_X8_bears rfl rfl rfl (by decide +kernel) ⟨Nat.le_of_ble_eq_true rfl, Nat.le_of_ble_eq_true rfl⟩) (Nat.le_of_ble_eq_true rfl) rfl rfl rfl rfl (Nat.le_of_ble_eq_true rfl) dX8_times_14 ⟨Nat.zero_le _, Nat.zero_le _⟩ ?_
  refine g_st (st' := [.int (r14)]) rfl ?_
  refine g_if_ne (pc := 17) (tgt := 22) C dX8_times_17 (by decide) (fun c17 => ?_) (fun c17 => ?_)
  · rw [if_neg c17] at h
    refine g_sipush (pc := 22) C (v := (999 : Int32)) dX8_times_22 (by decide) ?_
    refine g_istore_n (pc := 25) C (lv' := [(1, .int ((999 : Int32))), (0, .ref (a 0))]) rfl dX8_times_25 rfl (Nat.le_of_ble_eq_true rfl) rfl ?_
    refine g_iconst (pc := 26) C (v := (0 : Int32)) dX8_times_26 (by decide) ?_
    refine g_istore_n (pc := 27) C (lv' := [(2, .int ((0 : Int32))), (1, .int ((999 : Int32))), (0, .ref (a 0))]) rfl dX8_times_27 rfl (Nat.le_of_ble_eq_true rfl) rfl ?_
    exact g_lv [2, 1, 0] rfl (bX8_times_28 C hr n s14 ((999 : Int32)) ((0 : Int32)) h)
  · rw [if_pos c17] at h
    refine g_iconst (pc := 20) C (v := (-1 : Int32)) dX8_times_20 (by decide) ?_
    cases h
    exact g_iret (pc := 21) C hr dX8_times_21
abbrev rmX8_isRide : Room := { frames := 1, cells := 0, slots := 0, locals := 25 }
set_option maxRecDepth 20000 in
theorem qX8_isRide_F122 : Cond.fieldLink RX8 122 "PinFrameModel" "decks" "I" ∈ wsX8_isRide := by decide +kernel
set_option maxRecDepth 20000 in
theorem qX8_isRide_F127 : Cond.fieldLink RX8 127 "PinFrameModel" "weights" "I" ∈ wsX8_isRide := by decide +kernel
set_option maxRecDepth 20000 in
theorem iX8_isRide_X8 : ∀ w ∈ u_ws RX8 TX8 35, w ∈ wsX8_isRide := by decide +kernel
set_option maxHeartbeats 4000000 in
set_option maxRecDepth 20000 in
theorem bX8_isRide_39 (C : hv_C p s m args meth c cX8_isRide 2 wsX8_isRide RX8 D (hv_tys cy)) (hr : meth.sig.returnType = (some .boolean)) {n : Nat} {o : Int32 × hv_St} : ∀ (σ : hv_St), kX8_isRide_39 n σ = some o → hv_G p l e (headSpec wsX8_isRide rmX8_isRide).room s m args below meth c 2 D 23 a (hv_ME a cy) 0 0 (hv_MQ D 23 a (hv_ME a cy) below args s (some (.int o.1)) o.2) σ 39 [] [] := by
  intro σ h
  unfold kX8_isRide_39 at h
  refine g_iconst (pc := 39) C (v := (0 : Int32)) dX8_isRide_39 (by decide) ?_
  cases h
  exact g_zret (pc := 40) (x := (0 : Int32)) C hr (by decide) dX8_isRide_40
set_option maxHeartbeats 4000000 in
set_option maxRecDepth 20000 in
theorem vX8_isRide {n : Nat} {σ : hv_St} {p0 : Int32} {o : Int32 × hv_St} (h : mX8_isRide n σ p0 = some o) : hv_M l yX8_isRide wsX8_isRide rmX8_isRide D (hv_tys cy) 23 a (hv_ME a cy) [.ref (a 0), .int (p0)] σ (some (.int o.1)) o.2 := by
  refine hv_enter (own := RX8) (cc := cX8_isRide) (maxL := 2) (ret := (some .boolean)) (by decide) rfl rfl (Nat.le_of_ble_eq_true rfl) ?_
  intro p e s m args below meth c C hr
  unfold mX8_isRide at h
  refine g_lv [0, 1] (lv' := [(0, .ref (a 0)), (1, .int (p0))]) rfl ?_
  refine g_aload_n (pc := 0) C 0 dX8_isRide_0 rfl rfl ?_
  refine gm_get_0_13 (pc := 1) C iX8_isRide_X8 qX8_isRide_F122 dX8_isRide_1 ?_
  refine g_if_le (pc := 4) (tgt := 39) C dX8_isRide_4 (by decide) (fun c4 => ?_) (fun c4 => ?_)
  · rw [if_pos c4] at h
    exact g_lv [] rfl (bX8_isRide_39 C hr σ h)
  · rw [if_neg c4] at h
    refine g_aload_n (pc := 7) C 0 dX8_isRide_7 rfl rfl ?_
    refine gm_get_0_15 (pc := 8) C iX8_isRide_X8 qX8_isRide_F127 dX8_isRide_8 ?_
    refine g_if_le (pc := 11) (tgt := 39) C dX8_isRide_11 (by decide) (fun c11 => ?_) (fun c11 => ?_)
    · rw [if_pos c11] at h
      exact g_lv [] rfl (bX8_isRide_39 C hr σ h)
    · rw [if_neg c11] at h
      refine g_iload_n (pc := 14) C 1 dX8_isRide_14 rfl rfl ?_
      refine g_i2l (pc := 15) C dX8_isRide_15 ?_
      refine g_lconst (pc := 16) C (v := (0 : Int64)) dX8_isRide_16 (by decide) ?_
      refine g_aload_n (pc := 17) C 0 dX8_isRide_17 rfl rfl ?_
      refine gm_get_0_13 (pc := 18) C iX8_isRide_X8 qX8_isRide_F122 dX8_isRide_18 ?_
      refine g_aload_n (pc := 21) C 0 dX8_isRide_21 rfl rfl ?_
      refine gm_get_0_15 (pc := 22) C iX8_isRide_X8 qX8_isRide_F127 dX8_isRide_22 ?_
      refine g_iadd (pc := 25) C dX8_isRide_25 ?_
      refine g_iconst (pc := 26) C (v := (2 : Int32)) dX8_isRide_26 (by decide) ?_
      refine g_isub (pc := 27) C dX8_isRide_27 ?_
      refine g_i2l (pc := 28) C dX8_isRide_28 ?_
      obtain ⟨r29, s29, hc29, h⟩ := hv_b2_some h
      refine g_callS (pc := 29) (σ1 := s29) (v := (some (.int (r29)))) (As := [.long ((p0).toInt64), .long ((0 : Int64)), .long ((((σ.1 0 13) + (σ.1 0 15)) - ((2 : Int32))).toInt64)]) (rest := []) C (vX8_in hc29) (va_cwS 3 C.1.2.2.2.2 gX8_isRide_X8_in rfl rfl rfl (by decide +kernel) ⟨Nat.le_of_ble_eq_true rfl, Nat.le_of_ble_eq_true rfl⟩) rfl rfl (Nat.le_of_ble_eq_true rfl) dX8_isRide_29 ⟨Nat.zero_le _, Nat.zero_le _⟩ ?_
      refine g_st (st' := [.int (r29)]) rfl ?_
      refine g_if_eq (pc := 32) (tgt := 39) C dX8_isRide_32 (by decide) (fun c32 => ?_) (fun c32 => ?_)
      · rw [if_pos c32] at h
        exact g_lv [] rfl (bX8_isRide_39 C hr s29 h)
      · rw [if_neg c32] at h
        refine g_iconst (pc := 35) C (v := (1 : Int32)) dX8_isRide_35 (by decide) ?_
        refine g_goto (pc := 36) C (tgt := 40) dX8_isRide_36 (by decide) ?_
        cases h
        exact g_zret (pc := 40) (x := (1 : Int32)) C hr (by decide) dX8_isRide_40
abbrev rmX8_rides : Room := { frames := 1, cells := 0, slots := 0, locals := 25 }
set_option maxRecDepth 20000 in
theorem qX8_rides_F122 : Cond.fieldLink RX8 122 "PinFrameModel" "decks" "I" ∈ wsX8_rides := by decide +kernel
set_option maxRecDepth 20000 in
theorem qX8_rides_F127 : Cond.fieldLink RX8 127 "PinFrameModel" "weights" "I" ∈ wsX8_rides := by decide +kernel
set_option maxRecDepth 20000 in
theorem qX8_rides_F34 : Cond.fieldLink RX8 34 "PinFrameModel" "deck" "[I" ∈ wsX8_rides := by decide +kernel
set_option maxRecDepth 20000 in
theorem qX8_rides_F37 : Cond.fieldLink RX8 37 "PinFrameModel" "weight" "[I" ∈ wsX8_rides := by decide +kernel
set_option maxRecDepth 20000 in
theorem qX8_rides_F56 : Cond.fieldLink RX8 56 "PinFrameModel" "taken" "[I" ∈ wsX8_rides := by decide +kernel
set_option maxRecDepth 20000 in
theorem iX8_rides_X8 : ∀ w ∈ u_ws RX8 TX8 35, w ∈ wsX8_rides := by decide +kernel
set_option maxHeartbeats 4000000 in
set_option maxRecDepth 20000 in
theorem bX8_rides_56 (C : hv_C p s m args meth c cX8_rides 3 wsX8_rides RX8 D (hv_tys cy)) (hr : meth.sig.returnType = none) {n : Nat} {o : hv_St} {r6 : hv_St → Int32 → Int32 → Option (hv_St)} (hr6 : ∀ (σ : hv_St) (x1 : Int32) (x2 : Int32), r6 σ x1 x2 = some o → hv_G p l e (headSpec wsX8_rides rmX8_rides).room s m args below meth c 3 D 23 a (hv_ME a cy) 0 0 (hv_MQ D 23 a (hv_ME a cy) below args s none o) σ 6 [(0, .ref (a 0)), (1, .int (x1)), (2, .int (x2))] []) : ∀ (σ : hv_St) (x1 : Int32) (x2 : Int32), kX8_rides_56 n r6 σ x1 x2 = some o → hv_G p l e (headSpec wsX8_rides rmX8_rides).room s m args below meth c 3 D 23 a (hv_ME a cy) 0 0 (hv_MQ D 23 a (hv_ME a cy) below args s none o) σ 56 [(0, .ref (a 0)), (1, .int (x1)), (2, .int (x2))] [] := by
  intro σ x1 x2 h
  unfold kX8_rides_56 at h
  refine g_iinc (pc := 56) C 2 (v := x2 + 1) (lv' := [(2, .int (x2 + 1)), (0, .ref (a 0)), (1, .int (x1))]) dX8_rides_56 rfl rfl (Nat.le_of_ble_eq_true rfl) rfl ?_
  refine g_goto (pc := 59) C (tgt := 6) dX8_rides_59 (by decide) ?_
  exact g_lv [1, 2, 0] rfl (hr6 σ (x1) (x2 + 1) h)
set_option maxHeartbeats 4000000 in
set_option maxRecDepth 20000 in
theorem bX8_rides_6 (C : hv_C p s m args meth c cX8_rides 3 wsX8_rides RX8 D (hv_tys cy)) (hr : meth.sig.returnType = none) {n : Nat} {o : hv_St} : ∀ (i : Nat) (σ : hv_St) (x1 : Int32) (x2 : Int32), kX8_rides_6 n i σ x1 x2 = some o → hv_G p l e (headSpec wsX8_rides rmX8_rides).room s m args below meth c 3 D 23 a (hv_ME a cy) 0 0 (hv_MQ D 23 a (hv_ME a cy) below args s none o) σ 6 [(0, .ref (a 0)), (1, .int (x1)), (2, .int (x2))] [] := by
  intro i
  induction i with
  | zero =>
    intro σ x1 x2 h
    cases h
  | succ i ih =>
    intro σ x1 x2 h
    generalize hg : kX8_rides_6 n i = r6 at ih
    have hr6 := ih
    replace h : kX8_rides_6_b n r6 σ x1 x2 = some o := by rw [← hg]; exact h
    unfold kX8_rides_6_b at h
    refine g_iload_n (pc := 6) C 2 dX8_rides_6 rfl rfl ?_
    refine g_aload_n (pc := 7) C 0 dX8_rides_7 rfl rfl ?_
    refine gm_get_0_15 (pc := 8) C iX8_rides_X8 qX8_rides_F127 dX8_rides_8 ?_
    refine g_icmp_ge (pc := 11) (tgt := 62) C dX8_rides_11 (by decide) (fun c11 => ?_) (fun c11 => ?_)
    · rw [if_pos c11] at h
      cases h
      exact g_vret (pc := 62) C hr dX8_rides_62
    · rw [if_neg c11] at h
      refine g_iload_n (pc := 14) C 1 dX8_rides_14 rfl rfl ?_
      refine g_iload_n (pc := 15) C 2 dX8_rides_15 rfl rfl ?_
      refine g_isub (pc := 16) C dX8_rides_16 ?_
      refine g_i2l (pc := 17) C dX8_rides_17 ?_
      refine g_lconst (pc := 18) C (v := (0 : Int64)) dX8_rides_18 (by decide) ?_
      refine g_aload_n (pc := 19) C 0 dX8_rides_19 rfl rfl ?_
      refine gm_get_0_13 (pc := 20) C iX8_rides_X8 qX8_rides_F122 dX8_rides_20 ?_
      refine g_iconst (pc := 23) C (v := (1 : Int32)) dX8_rides_23 (by decide) ?_
      refine g_isub (pc := 24) C dX8_rides_24 ?_
      refine g_i2l (pc := 25) C dX8_rides_25 ?_
      obtain ⟨r26, s26, hc26, h⟩ := hv_b2_some h
      refine g_callS (pc := 26) (σ1 := s26) (v := (some (.int (r26)))) (As := [.long (((x1) - (x2)).toInt64), .long ((0 : Int64)), .long (((σ.1 0 13) - ((1 : Int32))).toInt64)]) (rest := []) C (vX8_in hc26) (va_cwS 3 C.1.2.2.2.2 gX8_rides_X8_in rfl rfl rfl (by decide +kernel) ⟨Nat.le_of_ble_eq_true rfl, Nat.le_of_ble_eq_true rfl⟩) rfl rfl (Nat.le_of_ble_eq_true rfl) dX8_rides_26 ⟨Nat.zero_le _, Nat.zero_le _⟩ ?_
      refine g_st (st' := [.int (r26)]) rfl ?_
      refine g_if_eq (pc := 29) (tgt := 56) C dX8_rides_29 (by decide) (fun c29 => ?_) (fun c29 => ?_)
      · rw [if_pos c29] at h
        exact g_lv [0, 1, 2] rfl (bX8_rides_56 C hr hr6 s26 (x1) (x2) h)
      · rw [if_neg c29] at h
        refine g_aload_n (pc := 32) C 0 dX8_rides_32 rfl rfl ?_
        refine gm_get_0_25 (pc := 33) C iX8_rides_X8 qX8_rides_F56 dX8_rides_33 ?_
        refine g_iconst (pc := 36) C (v := (2 : Int32)) dX8_rides_36 (by decide) ?_
        refine g_aload_n (pc := 37) C 0 dX8_rides_37 rfl rfl ?_
        refine gm_get_0_12 (pc := 38) C iX8_rides_X8 qX8_rides_F34 dX8_rides_38 ?_
        refine g_iload_n (pc := 41) C 1 dX8_rides_41 rfl rfl ?_
        refine g_iload_n (pc := 42) C 2 dX8_rides_42 rfl rfl ?_
        refine g_isub (pc := 43) C dX8_rides_43 ?_
        obtain ⟨k44, h⟩ := hv_if_some h
        refine gm_ld_9 (pc := 44) C k44 dX8_rides_44 ?_
        refine g_imul (pc := 45) C dX8_rides_45 ?_
        refine g_iconst (pc := 46) C (v := (1 : Int32)) dX8_rides_46 (by decide) ?_
        refine g_iadd (pc := 47) C dX8_rides_47 ?_
        refine g_aload_n (pc := 48) C 0 dX8_rides_48 rfl rfl ?_
        refine gm_get_0_14 (pc := 49) C iX8_rides_X8 qX8_rides_F37 dX8_rides_49 ?_
        refine g_iload_n (pc := 52) C 2 dX8_rides_52 rfl rfl ?_
        obtain ⟨k53, h⟩ := hv_if_some h
        refine gm_ld_10 (pc := 53) C k53 dX8_rides_53 ?_
        refine g_ineg (pc := 54) C dX8_rides_54 ?_
        obtain ⟨k55, h⟩ := hv_if_some h
        obtain ⟨s55, es55, h⟩ := hv_let_some h
        refine gm_st_16 (pc := 55) C es55 k55 dX8_rides_55 ?_
        exact g_lv [0, 1, 2] rfl (bX8_rides_56 C hr hr6 s55 (x1) (x2) h)
set_option maxHeartbeats 4000000 in
set_option maxRecDepth 20000 in
theorem vX8_rides {n : Nat} {σ : hv_St} {p0 : Int32} {o : hv_St} (h : mX8_rides n σ p0 = some o) : hv_M l yX8_rides wsX8_rides rmX8_rides D (hv_tys cy) 23 a (hv_ME a cy) [.ref (a 0), .int (p0)] σ none o := by
  refine hv_enter (own := RX8) (cc := cX8_rides) (maxL := 3) (ret := none) (by decide) rfl rfl (Nat.le_of_ble_eq_true rfl) ?_
  intro p e s m args below meth c C hr
  unfold mX8_rides at h
  refine g_lv [0, 1] (lv' := [(0, .ref (a 0)), (1, .int (p0))]) rfl ?_
  refine g_aload_n (pc := 0) C 0 dX8_rides_0 rfl rfl ?_
  obtain ⟨s1, hc1, h⟩ := hv_bd_some h
  refine g_callV (pc := 1) (σ1 := s1) (v := none) (As := []) (rest := []) C 0 (vX8_takesNone hc1) (cwV 0 C.1.2.2.2.2 gX8_rides_X8_takesNone rfl rfl rfl (by decide +kernel) ⟨Nat.le_of_ble_eq_true rfl, Nat.le_of_ble_eq_true rfl⟩) (Nat.le_of_ble_eq_true rfl) rfl rfl rfl rfl (Nat.le_of_ble_eq_true rfl) dX8_rides_1 ⟨Nat.zero_le _, Nat.zero_le _⟩ ?_
  refine g_st (st' := []) rfl ?_
  refine g_iconst (pc := 4) C (v := (0 : Int32)) dX8_rides_4 (by decide) ?_
  refine g_istore_n (pc := 5) C (lv' := [(2, .int ((0 : Int32))), (0, .ref (a 0)), (1, .int (p0))]) rfl dX8_rides_5 rfl (Nat.le_of_ble_eq_true rfl) rfl ?_
  exact g_lv [1, 2, 0] rfl (bX8_rides_6 C hr n s1 (p0) ((0 : Int32)) h)
abbrev rmX8_riding : Room := { frames := 7, cells := 0, slots := 0, locals := 169 }
set_option maxRecDepth 20000 in
theorem qX8_riding_F107 : Cond.fieldLink RX8 107 "PinFrameModel" "on" "I" ∈ wsX8_riding := by decide +kernel
set_option maxRecDepth 20000 in
theorem qX8_riding_F189 : Cond.fieldLink RX8 189 "PinFrameModel" "under" "J" ∈ wsX8_riding := by decide +kernel
set_option maxRecDepth 20000 in
theorem qX8_riding_F53 : Cond.fieldLink RX8 53 "PinFrameModel" "over" "[J" ∈ wsX8_riding := by decide +kernel
set_option maxRecDepth 20000 in
theorem qX8_riding_F77 : Cond.fieldLink RX8 77 "PinFrameModel" "raised" "I" ∈ wsX8_riding := by decide +kernel
set_option maxRecDepth 20000 in
theorem iX8_riding_X8 : ∀ w ∈ u_ws RX8 TX8 35, w ∈ wsX8_riding := by decide +kernel
set_option maxHeartbeats 4000000 in
set_option maxRecDepth 20000 in
theorem bX8_riding_56 (C : hv_C p s m args meth c cX8_riding 4 wsX8_riding RX8 D (hv_tys cy)) (hr : meth.sig.returnType = (some .long)) {n : Nat} {o : Int64 × hv_St} : ∀ (σ : hv_St) (x1 : Int32) (x3 : Int32) (z0 : Int32), kX8_riding_56 n σ x1 x3 z0 = some o → hv_G p l e (headSpec wsX8_riding rmX8_riding).room s m args below meth c 4 D 23 a (hv_ME a cy) 0 0 (hv_MQ D 23 a (hv_ME a cy) below args s (some (.long o.1)) o.2) σ 56 [(0, .ref (a 0)), (1, .int (x1)), (3, .int (x3))] [.int (z0), .ref (a 0)] := by
  intro σ x1 x3 z0 h
  unfold kX8_riding_56 at h
  obtain ⟨s56, es56, h⟩ := hv_let_some h
  refine gm_put_0_0 (pc := 56) C es56 iX8_riding_X8 qX8_riding_F77 dX8_riding_56 ?_
  refine g_aload_n (pc := 59) C 0 dX8_riding_59 rfl rfl ?_
  refine gm_get_0_0 (pc := 60) C iX8_riding_X8 qX8_riding_F77 dX8_riding_60 ?_
  refine g_if_le (pc := 63) (tgt := 70) C dX8_riding_63 (by decide) (fun c63 => ?_) (fun c63 => ?_)
  · rw [if_pos c63] at h
    refine g_aload_n (pc := 70) C 0 dX8_riding_70 rfl rfl ?_
    refine gm_get_0_23 (pc := 71) C iX8_riding_X8 qX8_riding_F53 dX8_riding_71 ?_
    refine g_iload_n (pc := 74) C 1 dX8_riding_74 rfl rfl ?_
    obtain ⟨k75, h⟩ := hv_if_some h
    refine gm_ld_15 (pc := 75) C k75 dX8_riding_75 ?_
    refine g_aload_n (pc := 76) C 0 dX8_riding_76 rfl rfl ?_
    refine gm_get_0_24 (pc := 77) C iX8_riding_X8 qX8_riding_F189 dX8_riding_77 ?_
    refine g_iload_n (pc := 80) C 2 dX8_riding_80 rfl rfl ?_
    obtain ⟨r81, s81, hc81, h⟩ := hv_b2_some h
    refine g_callS (pc := 81) (σ1 := s81) (v := (some (.long (r81)))) (As := [.long (s56.2 15 (x1).toNatClampNeg), .long (s56.2 0 24), .int (x3)]) (rest := []) C (vX8_told hc81) (va_cwS 3 C.1.2.2.2.2 gX8_riding_X8_told rfl rfl rfl (by decide +kernel) ⟨Nat.le_of_ble_eq_true rfl, Nat.le_of_ble_eq_true rfl⟩) rfl rfl (Nat.le_of_ble_eq_true rfl) dX8_riding_81 ⟨Nat.zero_le _, Nat.zero_le _⟩ ?_
    refine g_st (st' := [.long (r81)]) rfl ?_
    cases h
    exact g_lret (pc := 84) C hr dX8_riding_84
  · rw [if_neg c63] at h
    refine g_lconst (pc := 66) C (v := (0 : Int64)) dX8_riding_66 (by decide) ?_
    refine g_goto (pc := 67) C (tgt := 84) dX8_riding_67 (by decide) ?_
    cases h
    exact g_lret (pc := 84) C hr dX8_riding_84
set_option maxHeartbeats 4000000 in
set_option maxRecDepth 20000 in
theorem vX8_riding {n : Nat} {σ : hv_St} {p0 : Int32} {p1 : Int32} {p2 : Int32} {o : Int64 × hv_St} (h : mX8_riding n σ p0 p1 p2 = some o) : hv_M l yX8_riding wsX8_riding rmX8_riding D (hv_tys cy) 23 a (hv_ME a cy) [.ref (a 0), .int (p0), .int (p1), .int (p2)] σ (some (.long o.1)) o.2 := by
  refine hv_enter (own := RX8) (cc := cX8_riding) (maxL := 4) (ret := (some .long)) (by decide) rfl rfl (Nat.le_of_ble_eq_true rfl) ?_
  intro p e s m args below meth c C hr
  unfold mX8_riding at h
  refine g_lv [0, 1, 2, 3] (lv' := [(0, .ref (a 0)), (1, .int (p0)), (2, .int (p1)), (3, .int (p2))]) rfl ?_
  refine g_aload_n (pc := 0) C 0 dX8_riding_0 rfl rfl ?_
  refine g_iconst (pc := 1) C (v := (1 : Int32)) dX8_riding_1 (by decide) ?_
  obtain ⟨s2, es2, h⟩ := hv_let_some h
  refine gm_put_0_0 (pc := 2) C es2 iX8_riding_X8 qX8_riding_F77 dX8_riding_2 ?_
  refine g_aload_n (pc := 5) C 0 dX8_riding_5 rfl rfl ?_
  refine g_iload_n (pc := 6) C 1 dX8_riding_6 rfl rfl ?_
  obtain ⟨r7, s7, hc7, h⟩ := hv_b2_some h
  refine g_callV (pc := 7) (σ1 := s7) (v := (some (.int (r7)))) (As := [.int (p0)]) (rest := []) C 0 (vX8_isBar hc7) (cwV 1 C.1.2.2.2.2 gX8_riding_X8_isBar rfl rfl rfl (by decide +kernel) ⟨Nat.le_of_ble_eq_true rfl, Nat.le_of_ble_eq_true rfl⟩) (Nat.le_of_ble_eq_true rfl) rfl rfl rfl rfl (Nat.le_of_ble_eq_true rfl) dX8_riding_7 ⟨Nat.zero_le _, Nat.zero_le _⟩ ?_
  refine g_st (st' := [.int (r7)]) rfl ?_
  refine g_if_eq (pc := 10) (tgt := 32) C dX8_riding_10 (by decide) (fun c10 => ?_) (fun c10 => ?_)
  · rw [if_pos c10] at h
    refine g_lconst (pc := 32) C (v := (0 : Int64)) dX8_riding_32 (by decide) ?_
    cases h
    exact g_lret (pc := 33) C hr dX8_riding_33
  · rw [if_neg c10] at h
    refine g_aload_n (pc := 13) C 0 dX8_riding_13 rfl rfl ?_
    refine gm_get_0_11 (pc := 14) C iX8_riding_X8 qX8_riding_F107 dX8_riding_14 ?_
    refine g_iload_n (pc := 17) C 1 dX8_riding_17 rfl rfl ?_
    obtain ⟨r18, s18, hc18, h⟩ := hv_b2_some h
    refine g_callS (pc := 18) (σ1 := s18) (v := (some (.int (r18)))) (As := [.int (s7.1 0 11), .int (p0)]) (rest := []) C (vX8_isOn hc18) (va_cwS 2 C.1.2.2.2.2 gX8_riding_X8_isOn rfl rfl rfl (by decide +kernel) ⟨Nat.le_of_ble_eq_true rfl, Nat.le_of_ble_eq_true rfl⟩) rfl rfl (Nat.le_of_ble_eq_true rfl) dX8_riding_18 ⟨Nat.zero_le _, Nat.zero_le _⟩ ?_
    refine g_st (st' := [.int (r18)]) rfl ?_
    refine g_if_eq (pc := 21) (tgt := 32) C dX8_riding_21 (by decide) (fun c21 => ?_) (fun c21 => ?_)
    · rw [if_pos c21] at h
      refine g_lconst (pc := 32) C (v := (0 : Int64)) dX8_riding_32 (by decide) ?_
      cases h
      exact g_lret (pc := 33) C hr dX8_riding_33
    · rw [if_neg c21] at h
      refine g_aload_n (pc := 24) C 0 dX8_riding_24 rfl rfl ?_
      refine g_iload_n (pc := 25) C 2 dX8_riding_25 rfl rfl ?_
      obtain ⟨r26, s26, hc26, h⟩ := hv_b2_some h
      refine g_callV (pc := 26) (σ1 := s26) (v := (some (.int (r26)))) (As := [.int (p1)]) (rest := []) C 0 (vX8_isRide hc26) (cwV 1 C.1.2.2.2.2 gX8_riding_X8_isRide rfl rfl rfl (by decide +kernel) ⟨Nat.le_of_ble_eq_true rfl, Nat.le_of_ble_eq_true rfl⟩) (Nat.le_of_ble_eq_true rfl) rfl rfl rfl rfl (Nat.le_of_ble_eq_true rfl) dX8_riding_26 ⟨Nat.zero_le _, Nat.zero_le _⟩ ?_
      refine g_st (st' := [.int (r26)]) rfl ?_
      refine g_if_ne (pc := 29) (tgt := 34) C dX8_riding_29 (by decide) (fun c29 => ?_) (fun c29 => ?_)
      · rw [if_neg c29] at h
        refine g_aload_n (pc := 34) C 0 dX8_riding_34 rfl rfl ?_
        refine g_iload_n (pc := 35) C 2 dX8_riding_35 rfl rfl ?_
        obtain ⟨s36, hc36, h⟩ := hv_bd_some h
        refine g_callV (pc := 36) (σ1 := s36) (v := none) (As := [.int (p1)]) (rest := []) C 0 (vX8_rides hc36) (cwV 1 C.1.2.2.2.2 gX8_riding_X8_rides rfl rfl rfl (by decide +kernel) ⟨Nat.le_of_ble_eq_true rfl, Nat.le_of_ble_eq_true rfl⟩) (Nat.le_of_ble_eq_true rfl) rfl rfl rfl rfl (Nat.le_of_ble_eq_true rfl) dX8_riding_36 ⟨Nat.zero_le _, Nat.zero_le _⟩ ?_
        refine g_st (st' := []) rfl ?_
        refine g_aload_n (pc := 39) C 0 dX8_riding_39 rfl rfl ?_
        refine g_aload_n (pc := 40) C 0 dX8_riding_40 rfl rfl ?_
        refine g_aload_n (pc := 41) C 0 dX8_riding_41 rfl rfl ?_
        refine gm_get_0_11 (pc := 42) C iX8_riding_X8 qX8_riding_F107 dX8_riding_42 ?_
        obtain ⟨r45, s45, hc45, h⟩ := hv_b2_some h
        refine g_callV (pc := 45) (σ1 := s45) (v := (some (.int (r45)))) (As := [.int (s36.1 0 11)]) (rest := [.ref (a 0)]) C 0 (vX8_bears hc45) (cwV 1 C.1.2.2.2.2 gX8_riding_X8_bears rfl rfl rfl (by decide +kernel) ⟨Nat.le_of_ble_eq_true rfl, Nat.le_of_ble_eq_true rfl⟩) (Nat.le_of_ble_eq_true rfl) rfl rfl rfl rfl (Nat.le_of_ble_eq_true rfl) dX8_riding_45 ⟨Nat.zero_le _, Nat.zero_le _⟩ ?_
        refine g_st (st' := [.int (r45), .ref (a 0)]) rfl ?_
        refine g_if_eq (pc := 48) (tgt := 55) C dX8_riding_48 (by decide) (fun c48 => ?_) (fun c48 => ?_)
        · rw [if_pos c48] at h
          refine g_iconst (pc := 55) C (v := (1 : Int32)) dX8_riding_55 (by decide) ?_
          exact g_lv [0, 1, 3] rfl (bX8_riding_56 C hr s45 (p0) (p2) ((1 : Int32)) h)
        · rw [if_neg c48] at h
          refine g_iconst (pc := 51) C (v := (0 : Int32)) dX8_riding_51 (by decide) ?_
          refine g_goto (pc := 52) C (tgt := 56) dX8_riding_52 (by decide) ?_
          exact g_lv [0, 1, 3] rfl (bX8_riding_56 C hr s45 (p0) (p2) ((0 : Int32)) h)
      · rw [if_pos c29] at h
        refine g_lconst (pc := 32) C (v := (0 : Int64)) dX8_riding_32 (by decide) ?_
        cases h
        exact g_lret (pc := 33) C hr dX8_riding_33
abbrev rmX8_worst : Room := { frames := 7, cells := 0, slots := 0, locals := 169 }
set_option maxRecDepth 20000 in
theorem qX8_worst_F107 : Cond.fieldLink RX8 107 "PinFrameModel" "on" "I" ∈ wsX8_worst := by decide +kernel
set_option maxRecDepth 20000 in
theorem qX8_worst_F53 : Cond.fieldLink RX8 53 "PinFrameModel" "over" "[J" ∈ wsX8_worst := by decide +kernel
set_option maxRecDepth 20000 in
theorem qX8_worst_F77 : Cond.fieldLink RX8 77 "PinFrameModel" "raised" "I" ∈ wsX8_worst := by decide +kernel
set_option maxRecDepth 20000 in
theorem iX8_worst_X8 : ∀ w ∈ u_ws RX8 TX8 35, w ∈ wsX8_worst := by decide +kernel
set_option maxHeartbeats 4000000 in
set_option maxRecDepth 20000 in
theorem bX8_worst_101 (C : hv_C p s m args meth c cX8_worst 6 wsX8_worst RX8 D (hv_tys cy)) (hr : meth.sig.returnType = (some .int)) {n : Nat} {o : Int32 × hv_St} {r41 : hv_St → Int32 → Int32 → Int64 → Int32 → Option (Int32 × hv_St)} (hr41 : ∀ (σ : hv_St) (x1 : Int32) (x2 : Int32) (x3 : Int64) (x5 : Int32), r41 σ x1 x2 x3 x5 = some o → hv_G p l e (headSpec wsX8_worst rmX8_worst).room s m args below meth c 6 D 23 a (hv_ME a cy) 0 0 (hv_MQ D 23 a (hv_ME a cy) below args s (some (.int o.1)) o.2) σ 41 [(0, .ref (a 0)), (1, .int (x1)), (2, .int (x2)), (3, .long (x3)), (5, .int (x5))] []) : ∀ (σ : hv_St) (x1 : Int32) (x2 : Int32) (x3 : Int64) (x5 : Int32), kX8_worst_101 n r41 σ x1 x2 x3 x5 = some o → hv_G p l e (headSpec wsX8_worst rmX8_worst).room s m args below meth c 6 D 23 a (hv_ME a cy) 0 0 (hv_MQ D 23 a (hv_ME a cy) below args s (some (.int o.1)) o.2) σ 101 [(0, .ref (a 0)), (1, .int (x1)), (2, .int (x2)), (3, .long (x3)), (5, .int (x5))] [] := by
  intro σ x1 x2 x3 x5 h
  unfold kX8_worst_101 at h
  refine g_iinc (pc := 101) C 4 (v := x5 + 1) (lv' := [(5, .int (x5 + 1)), (0, .ref (a 0)), (1, .int (x1)), (2, .int (x2)), (3, .long (x3))]) dX8_worst_101 rfl rfl (Nat.le_of_ble_eq_true rfl) rfl ?_
  refine g_goto (pc := 104) C (tgt := 41) dX8_worst_104 (by decide) ?_
  exact g_lv [1, 2, 3, 4, 0] rfl (hr41 σ (x1) (x2) (x3) (x5 + 1) h)
set_option maxHeartbeats 4000000 in
set_option maxRecDepth 20000 in
theorem bX8_worst_88 (C : hv_C p s m args meth c cX8_worst 6 wsX8_worst RX8 D (hv_tys cy)) (hr : meth.sig.returnType = (some .int)) {n : Nat} {o : Int32 × hv_St} {r41 : hv_St → Int32 → Int32 → Int64 → Int32 → Option (Int32 × hv_St)} (hr41 : ∀ (σ : hv_St) (x1 : Int32) (x2 : Int32) (x3 : Int64) (x5 : Int32), r41 σ x1 x2 x3 x5 = some o → hv_G p l e (headSpec wsX8_worst rmX8_worst).room s m args below meth c 6 D 23 a (hv_ME a cy) 0 0 (hv_MQ D 23 a (hv_ME a cy) below args s (some (.int o.1)) o.2) σ 41 [(0, .ref (a 0)), (1, .int (x1)), (2, .int (x2)), (3, .long (x3)), (5, .int (x5))] []) : ∀ (σ : hv_St) (x1 : Int32) (x5 : Int32), kX8_worst_88 n r41 σ x1 x5 = some o → hv_G p l e (headSpec wsX8_worst rmX8_worst).room s m args below meth c 6 D 23 a (hv_ME a cy) 0 0 (hv_MQ D 23 a (hv_ME a cy) below args s (some (.int o.1)) o.2) σ 88 [(0, .ref (a 0)), (1, .int (x1)), (5, .int (x5))] [] := by
  intro σ x1 x5 h
  unfold kX8_worst_88 at h
  refine g_iload (pc := 88) C 2 dX8_worst_88 rfl ?_
  refine g_istore_n (pc := 90) C (lv' := [(2, .int (x5)), (0, .ref (a 0)), (1, .int (x1)), (5, .int (x5))]) rfl dX8_worst_90 rfl (Nat.le_of_ble_eq_true rfl) rfl ?_
  refine g_aload_n (pc := 91) C 1 dX8_worst_91 rfl rfl ?_
  refine gm_get_0_23 (pc := 92) C iX8_worst_X8 qX8_worst_F53 dX8_worst_92 ?_
  refine g_iload_n (pc := 95) C 2 dX8_worst_95 rfl rfl ?_
  obtain ⟨k96, h⟩ := hv_if_some h
  refine gm_ld_15 (pc := 96) C k96 dX8_worst_96 ?_
  obtain ⟨r97, s97, hc97, h⟩ := hv_b2_some h
  refine g_callS (pc := 97) (σ1 := s97) (v := (some (.long (r97)))) (As := [.long (σ.2 15 (x1).toNatClampNeg)]) (rest := []) C (vX8_abs hc97) (va_cwS 1 C.1.2.2.2.2 gX8_worst_X8_abs rfl rfl rfl (by decide +kernel) ⟨Nat.le_of_ble_eq_true rfl, Nat.le_of_ble_eq_true rfl⟩) rfl rfl (Nat.le_of_ble_eq_true rfl) dX8_worst_97 ⟨Nat.zero_le _, Nat.zero_le _⟩ ?_
  refine g_st (st' := [.long (r97)]) rfl ?_
  refine g_lstore_n (pc := 100) C (lv' := [(3, .long (r97)), (2, .int (x5)), (0, .ref (a 0)), (1, .int (x1)), (5, .int (x5))]) rfl dX8_worst_100 rfl (Nat.le_of_ble_eq_true rfl) rfl ?_
  exact g_lv [2, 3, 1, 0, 4] rfl (bX8_worst_101 C hr hr41 s97 (x1) (x5) (r97) (x5) h)
set_option maxHeartbeats 4000000 in
set_option maxRecDepth 20000 in
theorem bX8_worst_41 (C : hv_C p s m args meth c cX8_worst 6 wsX8_worst RX8 D (hv_tys cy)) (hr : meth.sig.returnType = (some .int)) {n : Nat} {o : Int32 × hv_St} : ∀ (i : Nat) (σ : hv_St) (x1 : Int32) (x2 : Int32) (x3 : Int64) (x5 : Int32), kX8_worst_41 n i σ x1 x2 x3 x5 = some o → hv_G p l e (headSpec wsX8_worst rmX8_worst).room s m args below meth c 6 D 23 a (hv_ME a cy) 0 0 (hv_MQ D 23 a (hv_ME a cy) below args s (some (.int o.1)) o.2) σ 41 [(0, .ref (a 0)), (1, .int (x1)), (2, .int (x2)), (3, .long (x3)), (5, .int (x5))] [] := by
  intro i
  induction i with
  | zero =>
    intro σ x1 x2 x3 x5 h
    cases h
  | succ i ih =>
    intro σ x1 x2 x3 x5 h
    generalize hg : kX8_worst_41 n i = r41 at ih
    have hr41 := ih
    replace h : kX8_worst_41_b n r41 σ x1 x2 x3 x5 = some o := by rw [← hg]; exact h
    unfold kX8_worst_41_b at h
    refine g_aload_n (pc := 41) C 0 dX8_worst_41 rfl rfl ?_
    refine g_iload (pc := 42) C 4 dX8_worst_42 rfl ?_
    obtain ⟨r44, s44, hc44, h⟩ := hv_b2_some h
    refine g_callV (pc := 44) (σ1 := s44) (v := (some (.int (r44)))) (As := [.int (x5)]) (rest := []) C 0 (vX8_isRide hc44) (cwV 1 C.1.2.2.2.2 gX8_worst_X8_isRide rfl rfl rfl (by decide +kernel) ⟨Nat.le_of_ble_eq_true rfl, Nat.le_of_ble_eq_true rfl⟩) (Nat.le_of_ble_eq_true rfl) rfl rfl rfl rfl (Nat.le_of_ble_eq_true rfl) dX8_worst_44 ⟨Nat.zero_le _, Nat.zero_le _⟩ ?_
    refine g_st (st' := [.int (r44)]) rfl ?_
    refine g_if_eq (pc := 47) (tgt := 107) C dX8_worst_47 (by decide) (fun c47 => ?_) (fun c47 => ?_)
    · rw [if_pos c47] at h
      refine g_iload_n (pc := 107) C 2 dX8_worst_107 rfl rfl ?_
      cases h
      exact g_iret (pc := 108) C hr dX8_worst_108
    · rw [if_neg c47] at h
      refine g_aload_n (pc := 50) C 0 dX8_worst_50 rfl rfl ?_
      refine g_iload (pc := 51) C 4 dX8_worst_51 rfl ?_
      obtain ⟨s53, hc53, h⟩ := hv_bd_some h
      refine g_callV (pc := 53) (σ1 := s53) (v := none) (As := [.int (x5)]) (rest := []) C 0 (vX8_rides hc53) (cwV 1 C.1.2.2.2.2 gX8_worst_X8_rides rfl rfl rfl (by decide +kernel) ⟨Nat.le_of_ble_eq_true rfl, Nat.le_of_ble_eq_true rfl⟩) (Nat.le_of_ble_eq_true rfl) rfl rfl rfl rfl (Nat.le_of_ble_eq_true rfl) dX8_worst_53 ⟨Nat.zero_le _, Nat.zero_le _⟩ ?_
      refine g_st (st' := []) rfl ?_
      refine g_aload_n (pc := 56) C 0 dX8_worst_56 rfl rfl ?_
      refine g_aload_n (pc := 57) C 0 dX8_worst_57 rfl rfl ?_
      refine gm_get_0_11 (pc := 58) C iX8_worst_X8 qX8_worst_F107 dX8_worst_58 ?_
      obtain ⟨r61, s61, hc61, h⟩ := hv_b2_some h
      refine g_callV (pc := 61) (σ1 := s61) (v := (some (.int (r61)))) (As := [.int (s53.1 0 11)]) (rest := []) C 0 (vX8_bears hc61) (cwV 1 C.1.2.2.2.2 gX8_worst_X8_bears rfl rfl rfl (by decide +kernel) ⟨Nat.le_of_ble_eq_true rfl, Nat.le_of_ble_eq_true rfl⟩) (Nat.le_of_ble_eq_true rfl) rfl rfl rfl rfl (Nat.le_of_ble_eq_true rfl) dX8_worst_61 ⟨Nat.zero_le _, Nat.zero_le _⟩ ?_
      refine g_st (st' := [.int (r61)]) rfl ?_
      refine g_if_ne (pc := 64) (tgt := 69) C dX8_worst_64 (by decide) (fun c64 => ?_) (fun c64 => ?_)
      · rw [if_neg c64] at h
        refine g_iload_n (pc := 69) C 2 dX8_worst_69 rfl rfl ?_
        refine g_iconst (pc := 70) C (v := (-1 : Int32)) dX8_worst_70 (by decide) ?_
        refine g_icmp_eq (pc := 71) (tgt := 88) C dX8_worst_71 (by decide) (fun c71 => ?_) (fun c71 => ?_)
        · rw [if_pos c71] at h
          exact g_lv [0, 1, 4] rfl (bX8_worst_88 C hr hr41 s61 (x1) (x5) h)
        · rw [if_neg c71] at h
          refine g_aload_n (pc := 74) C 0 dX8_worst_74 rfl rfl ?_
          refine gm_get_0_23 (pc := 75) C iX8_worst_X8 qX8_worst_F53 dX8_worst_75 ?_
          refine g_iload_n (pc := 78) C 1 dX8_worst_78 rfl rfl ?_
          obtain ⟨k79, h⟩ := hv_if_some h
          refine gm_ld_15 (pc := 79) C k79 dX8_worst_79 ?_
          obtain ⟨r80, s80, hc80, h⟩ := hv_b2_some h
          refine g_callS (pc := 80) (σ1 := s80) (v := (some (.long (r80)))) (As := [.long (s61.2 15 (x1).toNatClampNeg)]) (rest := []) C (vX8_abs hc80) (va_cwS 1 C.1.2.2.2.2 gX8_worst_X8_abs rfl rfl rfl (by decide +kernel) ⟨Nat.le_of_ble_eq_true rfl, Nat.le_of_ble_eq_true rfl⟩) rfl rfl (Nat.le_of_ble_eq_true rfl) dX8_worst_80 ⟨Nat.zero_le _, Nat.zero_le _⟩ ?_
          refine g_st (st' := [.long (r80)]) rfl ?_
          refine g_lload_n (pc := 83) C 3 dX8_worst_83 rfl rfl ?_
          refine g_lcmp (pc := 84) C dX8_worst_84 ?_
          refine g_if_le (pc := 85) (tgt := 101) C dX8_worst_85 (by decide) (fun c85 => ?_) (fun c85 => ?_)
          · rw [if_pos c85] at h
            exact g_lv [0, 1, 2, 3, 4] rfl (bX8_worst_101 C hr hr41 s80 (x1) (x2) (x3) (x5) h)
          · rw [if_neg c85] at h
            exact g_lv [0, 1, 4] rfl (bX8_worst_88 C hr hr41 s80 (x1) (x5) h)
      · rw [if_pos c64] at h
        refine g_iconst (pc := 67) C (v := (-1 : Int32)) dX8_worst_67 (by decide) ?_
        cases h
        exact g_iret (pc := 68) C hr dX8_worst_68
set_option maxHeartbeats 4000000 in
set_option maxRecDepth 20000 in
theorem vX8_worst {n : Nat} {σ : hv_St} {p0 : Int32} {o : Int32 × hv_St} (h : mX8_worst n σ p0 = some o) : hv_M l yX8_worst wsX8_worst rmX8_worst D (hv_tys cy) 23 a (hv_ME a cy) [.ref (a 0), .int (p0)] σ (some (.int o.1)) o.2 := by
  refine hv_enter (own := RX8) (cc := cX8_worst) (maxL := 6) (ret := (some .int)) (by decide) rfl rfl (Nat.le_of_ble_eq_true rfl) ?_
  intro p e s m args below meth c C hr
  unfold mX8_worst at h
  refine g_lv [0, 1] (lv' := [(0, .ref (a 0)), (1, .int (p0))]) rfl ?_
  refine g_aload_n (pc := 0) C 0 dX8_worst_0 rfl rfl ?_
  refine g_iconst (pc := 1) C (v := (0 : Int32)) dX8_worst_1 (by decide) ?_
  obtain ⟨s2, es2, h⟩ := hv_let_some h
  refine gm_put_0_0 (pc := 2) C es2 iX8_worst_X8 qX8_worst_F77 dX8_worst_2 ?_
  refine g_aload_n (pc := 5) C 0 dX8_worst_5 rfl rfl ?_
  refine g_iload_n (pc := 6) C 1 dX8_worst_6 rfl rfl ?_
  obtain ⟨r7, s7, hc7, h⟩ := hv_b2_some h
  refine g_callV (pc := 7) (σ1 := s7) (v := (some (.int (r7)))) (As := [.int (p0)]) (rest := []) C 0 (vX8_isBar hc7) (cwV 1 C.1.2.2.2.2 gX8_worst_X8_isBar rfl rfl rfl (by decide +kernel) ⟨Nat.le_of_ble_eq_true rfl, Nat.le_of_ble_eq_true rfl⟩) (Nat.le_of_ble_eq_true rfl) rfl rfl rfl rfl (Nat.le_of_ble_eq_true rfl) dX8_worst_7 ⟨Nat.zero_le _, Nat.zero_le _⟩ ?_
  refine g_st (st' := [.int (r7)]) rfl ?_
  refine g_if_eq (pc := 10) (tgt := 32) C dX8_worst_10 (by decide) (fun c10 => ?_) (fun c10 => ?_)
  · rw [if_pos c10] at h
    refine g_iconst (pc := 32) C (v := (-1 : Int32)) dX8_worst_32 (by decide) ?_
    cases h
    exact g_iret (pc := 33) C hr dX8_worst_33
  · rw [if_neg c10] at h
    refine g_aload_n (pc := 13) C 0 dX8_worst_13 rfl rfl ?_
    refine gm_get_0_11 (pc := 14) C iX8_worst_X8 qX8_worst_F107 dX8_worst_14 ?_
    refine g_iload_n (pc := 17) C 1 dX8_worst_17 rfl rfl ?_
    obtain ⟨r18, s18, hc18, h⟩ := hv_b2_some h
    refine g_callS (pc := 18) (σ1 := s18) (v := (some (.int (r18)))) (As := [.int (s7.1 0 11), .int (p0)]) (rest := []) C (vX8_isOn hc18) (va_cwS 2 C.1.2.2.2.2 gX8_worst_X8_isOn rfl rfl rfl (by decide +kernel) ⟨Nat.le_of_ble_eq_true rfl, Nat.le_of_ble_eq_true rfl⟩) rfl rfl (Nat.le_of_ble_eq_true rfl) dX8_worst_18 ⟨Nat.zero_le _, Nat.zero_le _⟩ ?_
    refine g_st (st' := [.int (r18)]) rfl ?_
    refine g_if_eq (pc := 21) (tgt := 32) C dX8_worst_21 (by decide) (fun c21 => ?_) (fun c21 => ?_)
    · rw [if_pos c21] at h
      refine g_iconst (pc := 32) C (v := (-1 : Int32)) dX8_worst_32 (by decide) ?_
      cases h
      exact g_iret (pc := 33) C hr dX8_worst_33
    · rw [if_neg c21] at h
      refine g_aload_n (pc := 24) C 0 dX8_worst_24 rfl rfl ?_
      refine g_iconst (pc := 25) C (v := (0 : Int32)) dX8_worst_25 (by decide) ?_
      obtain ⟨r26, s26, hc26, h⟩ := hv_b2_some h
      refine g_callV (pc := 26) (σ1 := s26) (v := (some (.int (r26)))) (As := [.int ((0 : Int32))]) (rest := []) C 0 (vX8_isRide hc26) (cwV 1 C.1.2.2.2.2 gX8_worst_X8_isRide rfl rfl rfl (by decide +kernel) ⟨Nat.le_of_ble_eq_true rfl, Nat.le_of_ble_eq_true rfl⟩) (Nat.le_of_ble_eq_true rfl) rfl rfl rfl rfl (Nat.le_of_ble_eq_true rfl) dX8_worst_26 ⟨Nat.zero_le _, Nat.zero_le _⟩ ?_
      refine g_st (st' := [.int (r26)]) rfl ?_
      refine g_if_ne (pc := 29) (tgt := 34) C dX8_worst_29 (by decide) (fun c29 => ?_) (fun c29 => ?_)
      · rw [if_neg c29] at h
        refine g_iconst (pc := 34) C (v := (-1 : Int32)) dX8_worst_34 (by decide) ?_
        refine g_istore_n (pc := 35) C (lv' := [(2, .int ((-1 : Int32))), (0, .ref (a 0)), (1, .int (p0))]) rfl dX8_worst_35 rfl (Nat.le_of_ble_eq_true rfl) rfl ?_
        refine g_lconst (pc := 36) C (v := (0 : Int64)) dX8_worst_36 (by decide) ?_
        refine g_lstore_n (pc := 37) C (lv' := [(3, .long ((0 : Int64))), (2, .int ((-1 : Int32))), (0, .ref (a 0)), (1, .int (p0))]) rfl dX8_worst_37 rfl (Nat.le_of_ble_eq_true rfl) rfl ?_
        refine g_iconst (pc := 38) C (v := (0 : Int32)) dX8_worst_38 (by decide) ?_
        refine g_istore (pc := 39) C (lv' := [(5, .int ((0 : Int32))), (3, .long ((0 : Int64))), (2, .int ((-1 : Int32))), (0, .ref (a 0)), (1, .int (p0))]) rfl dX8_worst_39 (Nat.le_of_ble_eq_true rfl) rfl ?_
        exact g_lv [3, 4, 2, 1, 0] rfl (bX8_worst_41 C hr n s26 (p0) ((-1 : Int32)) ((0 : Int64)) ((0 : Int32)) h)
      · rw [if_pos c29] at h
        refine g_iconst (pc := 32) C (v := (-1 : Int32)) dX8_worst_32 (by decide) ?_
        cases h
        exact g_iret (pc := 33) C hr dX8_worst_33
abbrev rmX8_without : Room := { frames := 6, cells := 0, slots := 0, locals := 147 }
set_option maxRecDepth 20000 in
theorem qX8_without_F107 : Cond.fieldLink RX8 107 "PinFrameModel" "on" "I" ∈ wsX8_without := by decide +kernel
set_option maxRecDepth 20000 in
theorem qX8_without_F77 : Cond.fieldLink RX8 77 "PinFrameModel" "raised" "I" ∈ wsX8_without := by decide +kernel
set_option maxRecDepth 20000 in
theorem iX8_without_X8 : ∀ w ∈ u_ws RX8 TX8 35, w ∈ wsX8_without := by decide +kernel
set_option maxHeartbeats 4000000 in
set_option maxRecDepth 20000 in
theorem bX8_without_41 (C : hv_C p s m args meth c cX8_without 2 wsX8_without RX8 D (hv_tys cy)) (hr : meth.sig.returnType = (some .int)) {n : Nat} {o : Int32 × hv_St} : ∀ (σ : hv_St), kX8_without_41 n σ = some o → hv_G p l e (headSpec wsX8_without rmX8_without).room s m args below meth c 2 D 23 a (hv_ME a cy) 0 0 (hv_MQ D 23 a (hv_ME a cy) below args s (some (.int o.1)) o.2) σ 41 [] [] := by
  intro σ h
  unfold kX8_without_41 at h
  refine g_iconst (pc := 41) C (v := (-1 : Int32)) dX8_without_41 (by decide) ?_
  cases h
  exact g_iret (pc := 42) C hr dX8_without_42
set_option maxHeartbeats 4000000 in
set_option maxRecDepth 20000 in
theorem vX8_without {n : Nat} {σ : hv_St} {p0 : Int32} {o : Int32 × hv_St} (h : mX8_without n σ p0 = some o) : hv_M l yX8_without wsX8_without rmX8_without D (hv_tys cy) 23 a (hv_ME a cy) [.ref (a 0), .int (p0)] σ (some (.int o.1)) o.2 := by
  refine hv_enter (own := RX8) (cc := cX8_without) (maxL := 2) (ret := (some .int)) (by decide) rfl rfl (Nat.le_of_ble_eq_true rfl) ?_
  intro p e s m args below meth c C hr
  unfold mX8_without at h
  refine g_lv [0, 1] (lv' := [(0, .ref (a 0)), (1, .int (p0))]) rfl ?_
  refine g_aload_n (pc := 0) C 0 dX8_without_0 rfl rfl ?_
  refine g_iconst (pc := 1) C (v := (0 : Int32)) dX8_without_1 (by decide) ?_
  obtain ⟨s2, es2, h⟩ := hv_let_some h
  refine gm_put_0_0 (pc := 2) C es2 iX8_without_X8 qX8_without_F77 dX8_without_2 ?_
  refine g_aload_n (pc := 5) C 0 dX8_without_5 rfl rfl ?_
  refine g_iload_n (pc := 6) C 1 dX8_without_6 rfl rfl ?_
  obtain ⟨r7, s7, hc7, h⟩ := hv_b2_some h
  refine g_callV (pc := 7) (σ1 := s7) (v := (some (.int (r7)))) (As := [.int (p0)]) (rest := []) C 0 (vX8_isBar hc7) (cwV 1 C.1.2.2.2.2 gX8_without_X8_isBar rfl rfl rfl (by decide +kernel) ⟨Nat.le_of_ble_eq_true rfl, Nat.le_of_ble_eq_true rfl⟩) (Nat.le_of_ble_eq_true rfl) rfl rfl rfl rfl (Nat.le_of_ble_eq_true rfl) dX8_without_7 ⟨Nat.zero_le _, Nat.zero_le _⟩ ?_
  refine g_st (st' := [.int (r7)]) rfl ?_
  refine g_if_eq (pc := 10) (tgt := 41) C dX8_without_10 (by decide) (fun c10 => ?_) (fun c10 => ?_)
  · rw [if_pos c10] at h
    exact g_lv [] rfl (bX8_without_41 C hr s7 h)
  · rw [if_neg c10] at h
    refine g_aload_n (pc := 13) C 0 dX8_without_13 rfl rfl ?_
    refine gm_get_0_11 (pc := 14) C iX8_without_X8 qX8_without_F107 dX8_without_14 ?_
    refine g_iload_n (pc := 17) C 1 dX8_without_17 rfl rfl ?_
    obtain ⟨r18, s18, hc18, h⟩ := hv_b2_some h
    refine g_callS (pc := 18) (σ1 := s18) (v := (some (.int (r18)))) (As := [.int (s7.1 0 11), .int (p0)]) (rest := []) C (vX8_isOn hc18) (va_cwS 2 C.1.2.2.2.2 gX8_without_X8_isOn rfl rfl rfl (by decide +kernel) ⟨Nat.le_of_ble_eq_true rfl, Nat.le_of_ble_eq_true rfl⟩) rfl rfl (Nat.le_of_ble_eq_true rfl) dX8_without_18 ⟨Nat.zero_le _, Nat.zero_le _⟩ ?_
    refine g_st (st' := [.int (r18)]) rfl ?_
    refine g_if_eq (pc := 21) (tgt := 41) C dX8_without_21 (by decide) (fun c21 => ?_) (fun c21 => ?_)
    · rw [if_pos c21] at h
      exact g_lv [] rfl (bX8_without_41 C hr s18 h)
    · rw [if_neg c21] at h
      refine g_aload_n (pc := 24) C 0 dX8_without_24 rfl rfl ?_
      refine g_aload_n (pc := 25) C 0 dX8_without_25 rfl rfl ?_
      refine gm_get_0_11 (pc := 26) C iX8_without_X8 qX8_without_F107 dX8_without_26 ?_
      refine g_iconst (pc := 29) C (v := (1 : Int32)) dX8_without_29 (by decide) ?_
      refine g_iload_n (pc := 30) C 1 dX8_without_30 rfl rfl ?_
      refine g_ishl (pc := 31) C dX8_without_31 ?_
      refine g_iconst (pc := 32) C (v := (-1 : Int32)) dX8_without_32 (by decide) ?_
      refine g_ixor (pc := 33) C dX8_without_33 ?_
      refine g_iand (pc := 34) C dX8_without_34 ?_
      obtain ⟨r35, s35, hc35, h⟩ := hv_b2_some h
      refine g_callV (pc := 35) (σ1 := s35) (v := (some (.int (r35)))) (As := [.int ((s18.1 0 11) &&& ((((1 : Int32)) <<< ((p0) &&& 31)) ^^^ ((-1 : Int32))))]) (rest := []) C 0 (vX8_kindOf hc35) (cwV 1 C.1.2.2.2.2 gX8_without_X8_kindOf rfl rfl rfl (by decide +kernel) ⟨Nat.le_of_ble_eq_true rfl, Nat.le_of_ble_eq_true rfl⟩) (Nat.le_of_ble_eq_true rfl) rfl rfl rfl rfl (Nat.le_of_ble_eq_true rfl) dX8_without_35 ⟨Nat.zero_le _, Nat.zero_le _⟩ ?_
      refine g_st (st' := [.int (r35)]) rfl ?_
      refine g_goto (pc := 38) C (tgt := 42) dX8_without_38 (by decide) ?_
      cases h
      exact g_iret (pc := 42) C hr dX8_without_42
abbrev rmX8_left : Room := { frames := 7, cells := 0, slots := 0, locals := 169 }
set_option maxRecDepth 20000 in
theorem qX8_left_F107 : Cond.fieldLink RX8 107 "PinFrameModel" "on" "I" ∈ wsX8_left := by decide +kernel
set_option maxRecDepth 20000 in
theorem qX8_left_F189 : Cond.fieldLink RX8 189 "PinFrameModel" "under" "J" ∈ wsX8_left := by decide +kernel
set_option maxRecDepth 20000 in
theorem qX8_left_F53 : Cond.fieldLink RX8 53 "PinFrameModel" "over" "[J" ∈ wsX8_left := by decide +kernel
set_option maxRecDepth 20000 in
theorem qX8_left_F77 : Cond.fieldLink RX8 77 "PinFrameModel" "raised" "I" ∈ wsX8_left := by decide +kernel
set_option maxRecDepth 20000 in
theorem iX8_left_X8 : ∀ w ∈ u_ws RX8 TX8 35, w ∈ wsX8_left := by decide +kernel
set_option maxHeartbeats 4000000 in
set_option maxRecDepth 20000 in
theorem bX8_left_82 (C : hv_C p s m args meth c cX8_left 5 wsX8_left RX8 D (hv_tys cy)) (hr : meth.sig.returnType = (some .long)) {n : Nat} {o : Int64 × hv_St} : ∀ (σ : hv_St) (x2 : Int32) (x3 : Int32) (z0 : Int32), kX8_left_82 n σ x2 x3 z0 = some o → hv_G p l e (headSpec wsX8_left rmX8_left).room s m args below meth c 5 D 23 a (hv_ME a cy) 0 0 (hv_MQ D 23 a (hv_ME a cy) below args s (some (.long o.1)) o.2) σ 82 [(0, .ref (a 0)), (2, .int (x2)), (3, .int (x3))] [.int (z0), .ref (a 0)] := by
  intro σ x2 x3 z0 h
  unfold kX8_left_82 at h
  obtain ⟨s82, es82, h⟩ := hv_let_some h
  refine gm_put_0_0 (pc := 82) C es82 iX8_left_X8 qX8_left_F77 dX8_left_82 ?_
  refine g_aload_n (pc := 85) C 0 dX8_left_85 rfl rfl ?_
  refine gm_get_0_0 (pc := 86) C iX8_left_X8 qX8_left_F77 dX8_left_86 ?_
  refine g_if_le (pc := 89) (tgt := 96) C dX8_left_89 (by decide) (fun c89 => ?_) (fun c89 => ?_)
  · rw [if_pos c89] at h
    refine g_aload_n (pc := 96) C 0 dX8_left_96 rfl rfl ?_
    refine gm_get_0_23 (pc := 97) C iX8_left_X8 qX8_left_F53 dX8_left_97 ?_
    refine g_iload_n (pc := 100) C 1 dX8_left_100 rfl rfl ?_
    obtain ⟨k101, h⟩ := hv_if_some h
    refine gm_ld_15 (pc := 101) C k101 dX8_left_101 ?_
    refine g_aload_n (pc := 102) C 0 dX8_left_102 rfl rfl ?_
    refine gm_get_0_24 (pc := 103) C iX8_left_X8 qX8_left_F189 dX8_left_103 ?_
    refine g_iload_n (pc := 106) C 2 dX8_left_106 rfl rfl ?_
    obtain ⟨r107, s107, hc107, h⟩ := hv_b2_some h
    refine g_callS (pc := 107) (σ1 := s107) (v := (some (.long (r107)))) (As := [.long (s82.2 15 (x2).toNatClampNeg), .long (s82.2 0 24), .int (x3)]) (rest := []) C (vX8_told hc107) (va_cwS 3 C.1.2.2.2.2 gX8_left_X8_told rfl rfl rfl (by decide +kernel) ⟨Nat.le_of_ble_eq_true rfl, Nat.le_of_ble_eq_true rfl⟩) rfl rfl (Nat.le_of_ble_eq_true rfl) dX8_left_107 ⟨Nat.zero_le _, Nat.zero_le _⟩ ?_
    refine g_st (st' := [.long (r107)]) rfl ?_
    cases h
    exact g_lret (pc := 110) C hr dX8_left_110
  · rw [if_neg c89] at h
    refine g_lconst (pc := 92) C (v := (0 : Int64)) dX8_left_92 (by decide) ?_
    refine g_goto (pc := 93) C (tgt := 110) dX8_left_93 (by decide) ?_
    cases h
    exact g_lret (pc := 110) C hr dX8_left_110
set_option maxHeartbeats 4000000 in
set_option maxRecDepth 20000 in
theorem bX8_left_81 (C : hv_C p s m args meth c cX8_left 5 wsX8_left RX8 D (hv_tys cy)) (hr : meth.sig.returnType = (some .long)) {n : Nat} {o : Int64 × hv_St} : ∀ (σ : hv_St) (x2 : Int32) (x3 : Int32), kX8_left_81 n σ x2 x3 = some o → hv_G p l e (headSpec wsX8_left rmX8_left).room s m args below meth c 5 D 23 a (hv_ME a cy) 0 0 (hv_MQ D 23 a (hv_ME a cy) below args s (some (.long o.1)) o.2) σ 81 [(0, .ref (a 0)), (2, .int (x2)), (3, .int (x3))] [.ref (a 0)] := by
  intro σ x2 x3 h
  unfold kX8_left_81 at h
  refine g_iconst (pc := 81) C (v := (1 : Int32)) dX8_left_81 (by decide) ?_
  exact g_lv [0, 1, 2] rfl (bX8_left_82 C hr σ (x2) (x3) ((1 : Int32)) h)
set_option maxHeartbeats 4000000 in
set_option maxRecDepth 20000 in
theorem bX8_left_52 (C : hv_C p s m args meth c cX8_left 5 wsX8_left RX8 D (hv_tys cy)) (hr : meth.sig.returnType = (some .long)) {n : Nat} {o : Int64 × hv_St} : ∀ (σ : hv_St) (x1 : Int32) (x2 : Int32) (x3 : Int32) (z0 : Int32), kX8_left_52 n σ x1 x2 x3 z0 = some o → hv_G p l e (headSpec wsX8_left rmX8_left).room s m args below meth c 5 D 23 a (hv_ME a cy) 0 0 (hv_MQ D 23 a (hv_ME a cy) below args s (some (.long o.1)) o.2) σ 52 [(0, .ref (a 0)), (1, .int (x1)), (2, .int (x2)), (3, .int (x3))] [.int (z0)] := by
  intro σ x1 x2 x3 z0 h
  unfold kX8_left_52 at h
  refine g_istore (pc := 52) C (lv' := [(4, .int (z0)), (0, .ref (a 0)), (1, .int (x1)), (2, .int (x2)), (3, .int (x3))]) rfl dX8_left_52 (Nat.le_of_ble_eq_true rfl) rfl ?_
  refine g_aload_n (pc := 54) C 1 dX8_left_54 rfl rfl ?_
  refine g_iload (pc := 55) C 0 dX8_left_55 rfl ?_
  refine g_if_eq (pc := 57) (tgt := 81) C dX8_left_57 (by decide) (fun c57 => ?_) (fun c57 => ?_)
  · rw [if_pos c57] at h
    exact g_lv [1, 3, 4] rfl (bX8_left_81 C hr σ (x2) (x3) h)
  · rw [if_neg c57] at h
    refine g_aload_n (pc := 60) C 1 dX8_left_60 rfl rfl ?_
    refine g_aload_n (pc := 61) C 1 dX8_left_61 rfl rfl ?_
    refine gm_get_0_11 (pc := 62) C iX8_left_X8 qX8_left_F107 dX8_left_62 ?_
    refine g_iconst (pc := 65) C (v := (1 : Int32)) dX8_left_65 (by decide) ?_
    refine g_iload_n (pc := 66) C 2 dX8_left_66 rfl rfl ?_
    refine g_ishl (pc := 67) C dX8_left_67 ?_
    refine g_iconst (pc := 68) C (v := (-1 : Int32)) dX8_left_68 (by decide) ?_
    refine g_ixor (pc := 69) C dX8_left_69 ?_
    refine g_iand (pc := 70) C dX8_left_70 ?_
    obtain ⟨r71, s71, hc71, h⟩ := hv_b2_some h
    refine g_callV (pc := 71) (σ1 := s71) (v := (some (.int (r71)))) (As := [.int ((σ.1 0 11) &&& ((((1 : Int32)) <<< ((x1) &&& 31)) ^^^ ((-1 : Int32))))]) (rest := [.ref (a 0)]) C 0 (vX8_bears hc71) (cwV 1 C.1.2.2.2.2 gX8_left_X8_bears rfl rfl rfl (by decide +kernel) ⟨Nat.le_of_ble_eq_true rfl, Nat.le_of_ble_eq_true rfl⟩) (Nat.le_of_ble_eq_true rfl) rfl rfl rfl rfl (Nat.le_of_ble_eq_true rfl) dX8_left_71 ⟨Nat.zero_le _, Nat.zero_le _⟩ ?_
    refine g_st (st' := [.int (r71), .ref (a 0)]) rfl ?_
    refine g_if_eq (pc := 74) (tgt := 81) C dX8_left_74 (by decide) (fun c74 => ?_) (fun c74 => ?_)
    · rw [if_pos c74] at h
      exact g_lv [1, 3, 4] rfl (bX8_left_81 C hr s71 (x2) (x3) h)
    · rw [if_neg c74] at h
      refine g_iconst (pc := 77) C (v := (0 : Int32)) dX8_left_77 (by decide) ?_
      refine g_goto (pc := 78) C (tgt := 82) dX8_left_78 (by decide) ?_
      exact g_lv [1, 3, 4] rfl (bX8_left_82 C hr s71 (x2) (x3) ((0 : Int32)) h)
set_option maxHeartbeats 4000000 in
set_option maxRecDepth 20000 in
theorem bX8_left_51 (C : hv_C p s m args meth c cX8_left 5 wsX8_left RX8 D (hv_tys cy)) (hr : meth.sig.returnType = (some .long)) {n : Nat} {o : Int64 × hv_St} : ∀ (σ : hv_St) (x1 : Int32) (x2 : Int32) (x3 : Int32), kX8_left_51 n σ x1 x2 x3 = some o → hv_G p l e (headSpec wsX8_left rmX8_left).room s m args below meth c 5 D 23 a (hv_ME a cy) 0 0 (hv_MQ D 23 a (hv_ME a cy) below args s (some (.long o.1)) o.2) σ 51 [(0, .ref (a 0)), (1, .int (x1)), (2, .int (x2)), (3, .int (x3))] [] := by
  intro σ x1 x2 x3 h
  unfold kX8_left_51 at h
  refine g_iconst (pc := 51) C (v := (0 : Int32)) dX8_left_51 (by decide) ?_
  exact g_lv [0, 1, 2, 3] rfl (bX8_left_52 C hr σ (x1) (x2) (x3) ((0 : Int32)) h)
set_option maxHeartbeats 4000000 in
set_option maxRecDepth 20000 in
theorem vX8_left {n : Nat} {σ : hv_St} {p0 : Int32} {p1 : Int32} {p2 : Int32} {o : Int64 × hv_St} (h : mX8_left n σ p0 p1 p2 = some o) : hv_M l yX8_left wsX8_left rmX8_left D (hv_tys cy) 23 a (hv_ME a cy) [.ref (a 0), .int (p0), .int (p1), .int (p2)] σ (some (.long o.1)) o.2 := by
  refine hv_enter (own := RX8) (cc := cX8_left) (maxL := 5) (ret := (some .long)) (by decide) rfl rfl (Nat.le_of_ble_eq_true rfl) ?_
  intro p e s m args below meth c C hr
  unfold mX8_left at h
  refine g_lv [0, 1, 2, 3] (lv' := [(0, .ref (a 0)), (1, .int (p0)), (2, .int (p1)), (3, .int (p2))]) rfl ?_
  refine g_aload_n (pc := 0) C 0 dX8_left_0 rfl rfl ?_
  obtain ⟨s1, hc1, h⟩ := hv_bd_some h
  refine g_callV (pc := 1) (σ1 := s1) (v := none) (As := []) (rest := []) C 0 (vX8_takesLoads hc1) (cwV 0 C.1.2.2.2.2 gX8_left_X8_takesLoads rfl rfl rfl (by decide +kernel) ⟨Nat.le_of_ble_eq_true rfl, Nat.le_of_ble_eq_true rfl⟩) (Nat.le_of_ble_eq_true rfl) rfl rfl rfl rfl (Nat.le_of_ble_eq_true rfl) dX8_left_1 ⟨Nat.zero_le _, Nat.zero_le _⟩ ?_
  refine g_st (st' := []) rfl ?_
  refine g_aload_n (pc := 4) C 0 dX8_left_4 rfl rfl ?_
  refine g_iload_n (pc := 5) C 1 dX8_left_5 rfl rfl ?_
  obtain ⟨r6, s6, hc6, h⟩ := hv_b2_some h
  refine g_callV (pc := 6) (σ1 := s6) (v := (some (.int (r6)))) (As := [.int (p0)]) (rest := []) C 0 (vX8_isBar hc6) (cwV 1 C.1.2.2.2.2 gX8_left_X8_isBar rfl rfl rfl (by decide +kernel) ⟨Nat.le_of_ble_eq_true rfl, Nat.le_of_ble_eq_true rfl⟩) (Nat.le_of_ble_eq_true rfl) rfl rfl rfl rfl (Nat.le_of_ble_eq_true rfl) dX8_left_6 ⟨Nat.zero_le _, Nat.zero_le _⟩ ?_
  refine g_st (st' := [.int (r6)]) rfl ?_
  refine g_if_eq (pc := 9) (tgt := 51) C dX8_left_9 (by decide) (fun c9 => ?_) (fun c9 => ?_)
  · rw [if_pos c9] at h
    exact g_lv [0, 1, 2, 3] rfl (bX8_left_51 C hr s6 (p0) (p1) (p2) h)
  · rw [if_neg c9] at h
    refine g_aload_n (pc := 12) C 0 dX8_left_12 rfl rfl ?_
    refine g_iload_n (pc := 13) C 2 dX8_left_13 rfl rfl ?_
    obtain ⟨r14, s14, hc14, h⟩ := hv_b2_some h
    refine g_callV (pc := 14) (σ1 := s14) (v := (some (.int (r14)))) (As := [.int (p1)]) (rest := []) C 0 (vX8_isBar hc14) (cwV 1 C.1.2.2.2.2 gX8_left_X8_isBar rfl rfl rfl (by decide +kernel) ⟨Nat.le_of_ble_eq_true rfl, Nat.le_of_ble_eq_true rfl⟩) (Nat.le_of_ble_eq_true rfl) rfl rfl rfl rfl (Nat.le_of_ble_eq_true rfl) dX8_left_14 ⟨Nat.zero_le _, Nat.zero_le _⟩ ?_
    refine g_st (st' := [.int (r14)]) rfl ?_
    refine g_if_eq (pc := 17) (tgt := 51) C dX8_left_17 (by decide) (fun c17 => ?_) (fun c17 => ?_)
    · rw [if_pos c17] at h
      exact g_lv [0, 1, 2, 3] rfl (bX8_left_51 C hr s14 (p0) (p1) (p2) h)
    · rw [if_neg c17] at h
      refine g_iload_n (pc := 20) C 1 dX8_left_20 rfl rfl ?_
      refine g_iload_n (pc := 21) C 2 dX8_left_21 rfl rfl ?_
      refine g_icmp_eq (pc := 22) (tgt := 51) C dX8_left_22 (by decide) (fun c22 => ?_) (fun c22 => ?_)
      · rw [if_pos c22] at h
        exact g_lv [0, 1, 2, 3] rfl (bX8_left_51 C hr s14 (p0) (p1) (p2) h)
      · rw [if_neg c22] at h
        refine g_aload_n (pc := 25) C 0 dX8_left_25 rfl rfl ?_
        refine gm_get_0_11 (pc := 26) C iX8_left_X8 qX8_left_F107 dX8_left_26 ?_
        refine g_iload_n (pc := 29) C 1 dX8_left_29 rfl rfl ?_
        obtain ⟨r30, s30, hc30, h⟩ := hv_b2_some h
        refine g_callS (pc := 30) (σ1 := s30) (v := (some (.int (r30)))) (As := [.int (s14.1 0 11), .int (p0)]) (rest := []) C (vX8_isOn hc30) (va_cwS 2 C.1.2.2.2.2 gX8_left_X8_isOn rfl rfl rfl (by decide +kernel) ⟨Nat.le_of_ble_eq_true rfl, Nat.le_of_ble_eq_true rfl⟩) rfl rfl (Nat.le_of_ble_eq_true rfl) dX8_left_30 ⟨Nat.zero_le _, Nat.zero_le _⟩ ?_
        refine g_st (st' := [.int (r30)]) rfl ?_
        refine g_if_eq (pc := 33) (tgt := 51) C dX8_left_33 (by decide) (fun c33 => ?_) (fun c33 => ?_)
        · rw [if_pos c33] at h
          exact g_lv [0, 1, 2, 3] rfl (bX8_left_51 C hr s30 (p0) (p1) (p2) h)
        · rw [if_neg c33] at h
          refine g_aload_n (pc := 36) C 0 dX8_left_36 rfl rfl ?_
          refine gm_get_0_11 (pc := 37) C iX8_left_X8 qX8_left_F107 dX8_left_37 ?_
          refine g_iload_n (pc := 40) C 2 dX8_left_40 rfl rfl ?_
          obtain ⟨r41, s41, hc41, h⟩ := hv_b2_some h
          refine g_callS (pc := 41) (σ1 := s41) (v := (some (.int (r41)))) (As := [.int (s30.1 0 11), .int (p1)]) (rest := []) C (vX8_isOn hc41) (va_cwS 2 C.1.2.2.2.2 gX8_left_X8_isOn rfl rfl rfl (by decide +kernel) ⟨Nat.le_of_ble_eq_true rfl, Nat.le_of_ble_eq_true rfl⟩) rfl rfl (Nat.le_of_ble_eq_true rfl) dX8_left_41 ⟨Nat.zero_le _, Nat.zero_le _⟩ ?_
          refine g_st (st' := [.int (r41)]) rfl ?_
          refine g_if_eq (pc := 44) (tgt := 51) C dX8_left_44 (by decide) (fun c44 => ?_) (fun c44 => ?_)
          · rw [if_pos c44] at h
            exact g_lv [0, 1, 2, 3] rfl (bX8_left_51 C hr s41 (p0) (p1) (p2) h)
          · rw [if_neg c44] at h
            refine g_iconst (pc := 47) C (v := (1 : Int32)) dX8_left_47 (by decide) ?_
            refine g_goto (pc := 48) C (tgt := 52) dX8_left_48 (by decide) ?_
            exact g_lv [0, 1, 2, 3] rfl (bX8_left_52 C hr s41 (p0) (p1) (p2) ((1 : Int32)) h)
abbrev rmX8_keys : Room := { frames := 6, cells := 0, slots := 0, locals := 147 }
set_option maxRecDepth 20000 in
theorem qX8_keys_F107 : Cond.fieldLink RX8 107 "PinFrameModel" "on" "I" ∈ wsX8_keys := by decide +kernel
set_option maxRecDepth 20000 in
theorem qX8_keys_F77 : Cond.fieldLink RX8 77 "PinFrameModel" "raised" "I" ∈ wsX8_keys := by decide +kernel
set_option maxRecDepth 20000 in
theorem qX8_keys_F88 : Cond.fieldLink RX8 88 "PinFrameModel" "bars" "I" ∈ wsX8_keys := by decide +kernel
set_option maxRecDepth 20000 in
theorem iX8_keys_X8 : ∀ w ∈ u_ws RX8 TX8 35, w ∈ wsX8_keys := by decide +kernel
set_option maxHeartbeats 4000000 in
set_option maxRecDepth 20000 in
theorem bX8_keys_66 (C : hv_C p s m args meth c cX8_keys 3 wsX8_keys RX8 D (hv_tys cy)) (hr : meth.sig.returnType = (some .int)) {n : Nat} {o : Int32 × hv_St} {r22 : hv_St → Int32 → Int32 → Option (Int32 × hv_St)} (hr22 : ∀ (σ : hv_St) (x1 : Int32) (x2 : Int32), r22 σ x1 x2 = some o → hv_G p l e (headSpec wsX8_keys rmX8_keys).room s m args below meth c 3 D 23 a (hv_ME a cy) 0 0 (hv_MQ D 23 a (hv_ME a cy) below args s (some (.int o.1)) o.2) σ 22 [(0, .ref (a 0)), (1, .int (x1)), (2, .int (x2))] []) : ∀ (σ : hv_St) (x2 : Int32) (z0 : Int32) (z1 : Int32), kX8_keys_66 n r22 σ x2 z0 z1 = some o → hv_G p l e (headSpec wsX8_keys rmX8_keys).room s m args below meth c 3 D 23 a (hv_ME a cy) 0 0 (hv_MQ D 23 a (hv_ME a cy) below args s (some (.int o.1)) o.2) σ 66 [(0, .ref (a 0)), (2, .int (x2))] [.int (z0), .int (z1)] := by
  intro σ x2 z0 z1 h
  unfold kX8_keys_66 at h
  refine g_ior (pc := 66) C dX8_keys_66 ?_
  obtain ⟨y1_67, ey1_67, h⟩ := hv_let_some h
  refine g_istore_n (pc := 67) C (lv' := [(1, .int (y1_67)), (0, .ref (a 0)), (2, .int (x2))]) ey1_67 dX8_keys_67 rfl (Nat.le_of_ble_eq_true rfl) rfl ?_
  refine g_iinc (pc := 68) C 2 (v := x2 + 1) (lv' := [(2, .int (x2 + 1)), (1, .int (y1_67)), (0, .ref (a 0))]) dX8_keys_68 rfl rfl (Nat.le_of_ble_eq_true rfl) rfl ?_
  refine g_goto (pc := 71) C (tgt := 22) dX8_keys_71 (by decide) ?_
  exact g_lv [2, 1, 0] rfl (hr22 σ (y1_67) (x2 + 1) h)
set_option maxHeartbeats 4000000 in
set_option maxRecDepth 20000 in
theorem bX8_keys_65 (C : hv_C p s m args meth c cX8_keys 3 wsX8_keys RX8 D (hv_tys cy)) (hr : meth.sig.returnType = (some .int)) {n : Nat} {o : Int32 × hv_St} {r22 : hv_St → Int32 → Int32 → Option (Int32 × hv_St)} (hr22 : ∀ (σ : hv_St) (x1 : Int32) (x2 : Int32), r22 σ x1 x2 = some o → hv_G p l e (headSpec wsX8_keys rmX8_keys).room s m args below meth c 3 D 23 a (hv_ME a cy) 0 0 (hv_MQ D 23 a (hv_ME a cy) below args s (some (.int o.1)) o.2) σ 22 [(0, .ref (a 0)), (1, .int (x1)), (2, .int (x2))] []) : ∀ (σ : hv_St) (x2 : Int32) (z0 : Int32), kX8_keys_65 n r22 σ x2 z0 = some o → hv_G p l e (headSpec wsX8_keys rmX8_keys).room s m args below meth c 3 D 23 a (hv_ME a cy) 0 0 (hv_MQ D 23 a (hv_ME a cy) below args s (some (.int o.1)) o.2) σ 65 [(0, .ref (a 0)), (2, .int (x2))] [.int (z0)] := by
  intro σ x2 z0 h
  unfold kX8_keys_65 at h
  refine g_iconst (pc := 65) C (v := (0 : Int32)) dX8_keys_65 (by decide) ?_
  exact g_lv [0, 1] rfl (bX8_keys_66 C hr hr22 σ (x2) ((0 : Int32)) (z0) h)
set_option maxHeartbeats 4000000 in
set_option maxRecDepth 20000 in
theorem bX8_keys_22 (C : hv_C p s m args meth c cX8_keys 3 wsX8_keys RX8 D (hv_tys cy)) (hr : meth.sig.returnType = (some .int)) {n : Nat} {o : Int32 × hv_St} : ∀ (i : Nat) (σ : hv_St) (x1 : Int32) (x2 : Int32), kX8_keys_22 n i σ x1 x2 = some o → hv_G p l e (headSpec wsX8_keys rmX8_keys).room s m args below meth c 3 D 23 a (hv_ME a cy) 0 0 (hv_MQ D 23 a (hv_ME a cy) below args s (some (.int o.1)) o.2) σ 22 [(0, .ref (a 0)), (1, .int (x1)), (2, .int (x2))] [] := by
  intro i
  induction i with
  | zero =>
    intro σ x1 x2 h
    cases h
  | succ i ih =>
    intro σ x1 x2 h
    generalize hg : kX8_keys_22 n i = r22 at ih
    have hr22 := ih
    replace h : kX8_keys_22_b n r22 σ x1 x2 = some o := by rw [← hg]; exact h
    unfold kX8_keys_22_b at h
    refine g_iload_n (pc := 22) C 2 dX8_keys_22 rfl rfl ?_
    refine g_aload_n (pc := 23) C 0 dX8_keys_23 rfl rfl ?_
    refine gm_get_0_6 (pc := 24) C iX8_keys_X8 qX8_keys_F88 dX8_keys_24 ?_
    refine g_icmp_ge (pc := 27) (tgt := 74) C dX8_keys_27 (by decide) (fun c27 => ?_) (fun c27 => ?_)
    · rw [if_pos c27] at h
      refine g_iload_n (pc := 74) C 1 dX8_keys_74 rfl rfl ?_
      cases h
      exact g_iret (pc := 75) C hr dX8_keys_75
    · rw [if_neg c27] at h
      refine g_iload_n (pc := 30) C 1 dX8_keys_30 rfl rfl ?_
      refine g_aload_n (pc := 31) C 0 dX8_keys_31 rfl rfl ?_
      refine gm_get_0_11 (pc := 32) C iX8_keys_X8 qX8_keys_F107 dX8_keys_32 ?_
      refine g_iload_n (pc := 35) C 2 dX8_keys_35 rfl rfl ?_
      obtain ⟨r36, s36, hc36, h⟩ := hv_b2_some h
      refine g_callS (pc := 36) (σ1 := s36) (v := (some (.int (r36)))) (As := [.int (σ.1 0 11), .int (x2)]) (rest := [.int (x1)]) C (vX8_isOn hc36) (va_cwS 2 C.1.2.2.2.2 gX8_keys_X8_isOn rfl rfl rfl (by decide +kernel) ⟨Nat.le_of_ble_eq_true rfl, Nat.le_of_ble_eq_true rfl⟩) rfl rfl (Nat.le_of_ble_eq_true rfl) dX8_keys_36 ⟨Nat.zero_le _, Nat.zero_le _⟩ ?_
      refine g_st (st' := [.int (r36), .int (x1)]) rfl ?_
      refine g_if_eq (pc := 39) (tgt := 65) C dX8_keys_39 (by decide) (fun c39 => ?_) (fun c39 => ?_)
      · rw [if_pos c39] at h
        exact g_lv [0, 2] rfl (bX8_keys_65 C hr hr22 s36 (x2) (x1) h)
      · rw [if_neg c39] at h
        refine g_aload_n (pc := 42) C 0 dX8_keys_42 rfl rfl ?_
        refine g_aload_n (pc := 43) C 0 dX8_keys_43 rfl rfl ?_
        refine gm_get_0_11 (pc := 44) C iX8_keys_X8 qX8_keys_F107 dX8_keys_44 ?_
        refine g_iconst (pc := 47) C (v := (1 : Int32)) dX8_keys_47 (by decide) ?_
        refine g_iload_n (pc := 48) C 2 dX8_keys_48 rfl rfl ?_
        refine g_ishl (pc := 49) C dX8_keys_49 ?_
        refine g_iconst (pc := 50) C (v := (-1 : Int32)) dX8_keys_50 (by decide) ?_
        refine g_ixor (pc := 51) C dX8_keys_51 ?_
        refine g_iand (pc := 52) C dX8_keys_52 ?_
        obtain ⟨r53, s53, hc53, h⟩ := hv_b2_some h
        refine g_callV (pc := 53) (σ1 := s53) (v := (some (.int (r53)))) (As := [.int ((s36.1 0 11) &&& ((((1 : Int32)) <<< ((x2) &&& 31)) ^^^ ((-1 : Int32))))]) (rest := [.int (x1)]) C 0 (vX8_kindOf hc53) (cwV 1 C.1.2.2.2.2 gX8_keys_X8_kindOf rfl rfl rfl (by decide +kernel) ⟨Nat.le_of_ble_eq_true rfl, Nat.le_of_ble_eq_true rfl⟩) (Nat.le_of_ble_eq_true rfl) rfl rfl rfl rfl (Nat.le_of_ble_eq_true rfl) dX8_keys_53 ⟨Nat.zero_le _, Nat.zero_le _⟩ ?_
        refine g_st (st' := [.int (r53), .int (x1)]) rfl ?_
        refine g_if_ne (pc := 56) (tgt := 65) C dX8_keys_56 (by decide) (fun c56 => ?_) (fun c56 => ?_)
        · rw [if_neg c56] at h
          exact g_lv [0, 2] rfl (bX8_keys_65 C hr hr22 s53 (x2) (x1) h)
        · rw [if_pos c56] at h
          refine g_iconst (pc := 59) C (v := (1 : Int32)) dX8_keys_59 (by decide) ?_
          refine g_iload_n (pc := 60) C 2 dX8_keys_60 rfl rfl ?_
          refine g_ishl (pc := 61) C dX8_keys_61 ?_
          refine g_goto (pc := 62) C (tgt := 66) dX8_keys_62 (by decide) ?_
          exact g_lv [0, 2] rfl (bX8_keys_66 C hr hr22 s53 (x2) (((1 : Int32)) <<< ((x2) &&& 31)) (x1) h)
set_option maxHeartbeats 4000000 in
set_option maxRecDepth 20000 in
theorem vX8_keys {n : Nat} {σ : hv_St} {o : Int32 × hv_St} (h : mX8_keys n σ = some o) : hv_M l yX8_keys wsX8_keys rmX8_keys D (hv_tys cy) 23 a (hv_ME a cy) [.ref (a 0)] σ (some (.int o.1)) o.2 := by
  refine hv_enter (own := RX8) (cc := cX8_keys) (maxL := 3) (ret := (some .int)) (by decide) rfl rfl (Nat.le_of_ble_eq_true rfl) ?_
  intro p e s m args below meth c C hr
  unfold mX8_keys at h
  refine g_lv [0] (lv' := [(0, .ref (a 0))]) rfl ?_
  refine g_aload_n (pc := 0) C 0 dX8_keys_0 rfl rfl ?_
  refine g_iconst (pc := 1) C (v := (0 : Int32)) dX8_keys_1 (by decide) ?_
  obtain ⟨s2, es2, h⟩ := hv_let_some h
  refine gm_put_0_0 (pc := 2) C es2 iX8_keys_X8 qX8_keys_F77 dX8_keys_2 ?_
  refine g_aload_n (pc := 5) C 0 dX8_keys_5 rfl rfl ?_
  refine g_aload_n (pc := 6) C 0 dX8_keys_6 rfl rfl ?_
  refine gm_get_0_11 (pc := 7) C iX8_keys_X8 qX8_keys_F107 dX8_keys_7 ?_
  obtain ⟨r10, s10, hc10, h⟩ := hv_b2_some h
  refine g_callV (pc := 10) (σ1 := s10) (v := (some (.int (r10)))) (As := [.int (s2.1 0 11)]) (rest := []) C 0 (vX8_kindOf hc10) (cwV 1 C.1.2.2.2.2 gX8_keys_X8_kindOf rfl rfl rfl (by decide +kernel) ⟨Nat.le_of_ble_eq_true rfl, Nat.le_of_ble_eq_true rfl⟩) (Nat.le_of_ble_eq_true rfl) rfl rfl rfl rfl (Nat.le_of_ble_eq_true rfl) dX8_keys_10 ⟨Nat.zero_le _, Nat.zero_le _⟩ ?_
  refine g_st (st' := [.int (r10)]) rfl ?_
  refine g_if_ne (pc := 13) (tgt := 18) C dX8_keys_13 (by decide) (fun c13 => ?_) (fun c13 => ?_)
  · rw [if_neg c13] at h
    refine g_iconst (pc := 18) C (v := (0 : Int32)) dX8_keys_18 (by decide) ?_
    refine g_istore_n (pc := 19) C (lv' := [(1, .int ((0 : Int32))), (0, .ref (a 0))]) rfl dX8_keys_19 rfl (Nat.le_of_ble_eq_true rfl) rfl ?_
    refine g_iconst (pc := 20) C (v := (0 : Int32)) dX8_keys_20 (by decide) ?_
    refine g_istore_n (pc := 21) C (lv' := [(2, .int ((0 : Int32))), (1, .int ((0 : Int32))), (0, .ref (a 0))]) rfl dX8_keys_21 rfl (Nat.le_of_ble_eq_true rfl) rfl ?_
    exact g_lv [2, 1, 0] rfl (bX8_keys_22 C hr n s10 ((0 : Int32)) ((0 : Int32)) h)
  · rw [if_pos c13] at h
    refine g_iconst (pc := 16) C (v := (0 : Int32)) dX8_keys_16 (by decide) ?_
    cases h
    exact g_iret (pc := 17) C hr dX8_keys_17
abbrev rmX8_mend : Room := { frames := 6, cells := 0, slots := 0, locals := 147 }
set_option maxRecDepth 20000 in
theorem qX8_mend_F107 : Cond.fieldLink RX8 107 "PinFrameModel" "on" "I" ∈ wsX8_mend := by decide +kernel
set_option maxRecDepth 20000 in
theorem qX8_mend_F77 : Cond.fieldLink RX8 77 "PinFrameModel" "raised" "I" ∈ wsX8_mend := by decide +kernel
set_option maxRecDepth 20000 in
theorem qX8_mend_F88 : Cond.fieldLink RX8 88 "PinFrameModel" "bars" "I" ∈ wsX8_mend := by decide +kernel
set_option maxRecDepth 20000 in
theorem iX8_mend_X8 : ∀ w ∈ u_ws RX8 TX8 35, w ∈ wsX8_mend := by decide +kernel
set_option maxHeartbeats 4000000 in
set_option maxRecDepth 20000 in
theorem bX8_mend_90 (C : hv_C p s m args meth c cX8_mend 5 wsX8_mend RX8 D (hv_tys cy)) (hr : meth.sig.returnType = (some .int)) {n : Nat} {o : Int32 × hv_St} : ∀ (σ : hv_St) (x3 : Int32), kX8_mend_90 n σ x3 = some o → hv_G p l e (headSpec wsX8_mend rmX8_mend).room s m args below meth c 5 D 23 a (hv_ME a cy) 0 0 (hv_MQ D 23 a (hv_ME a cy) below args s (some (.int o.1)) o.2) σ 90 [(3, .int (x3))] [] := by
  intro σ x3 h
  unfold kX8_mend_90 at h
  refine g_iload_n (pc := 90) C 0 dX8_mend_90 rfl rfl ?_
  refine g_goto (pc := 91) C (tgt := 98) dX8_mend_91 (by decide) ?_
  cases h
  exact g_iret (pc := 98) C hr dX8_mend_98
set_option maxHeartbeats 4000000 in
set_option maxRecDepth 20000 in
theorem bX8_mend_75 (C : hv_C p s m args meth c cX8_mend 5 wsX8_mend RX8 D (hv_tys cy)) (hr : meth.sig.returnType = (some .int)) {n : Nat} {o : Int32 × hv_St} {r26 : hv_St → Int32 → Int32 → Int32 → Int32 → Option (Int32 × hv_St)} (hr26 : ∀ (σ : hv_St) (x1 : Int32) (x2 : Int32) (x3 : Int32) (x4 : Int32), r26 σ x1 x2 x3 x4 = some o → hv_G p l e (headSpec wsX8_mend rmX8_mend).room s m args below meth c 5 D 23 a (hv_ME a cy) 0 0 (hv_MQ D 23 a (hv_ME a cy) below args s (some (.int o.1)) o.2) σ 26 [(0, .ref (a 0)), (1, .int (x1)), (2, .int (x2)), (3, .int (x3)), (4, .int (x4))] []) : ∀ (σ : hv_St) (x1 : Int32) (x2 : Int32) (x3 : Int32) (x4 : Int32), kX8_mend_75 n r26 σ x1 x2 x3 x4 = some o → hv_G p l e (headSpec wsX8_mend rmX8_mend).room s m args below meth c 5 D 23 a (hv_ME a cy) 0 0 (hv_MQ D 23 a (hv_ME a cy) below args s (some (.int o.1)) o.2) σ 75 [(0, .ref (a 0)), (1, .int (x1)), (2, .int (x2)), (3, .int (x3)), (4, .int (x4))] [] := by
  intro σ x1 x2 x3 x4 h
  unfold kX8_mend_75 at h
  refine g_iinc (pc := 75) C 4 (v := x4 + 1) (lv' := [(4, .int (x4 + 1)), (0, .ref (a 0)), (1, .int (x1)), (2, .int (x2)), (3, .int (x3))]) dX8_mend_75 rfl rfl (Nat.le_of_ble_eq_true rfl) rfl ?_
  refine g_goto (pc := 78) C (tgt := 26) dX8_mend_78 (by decide) ?_
  exact g_lv [1, 2, 3, 4, 0] rfl (hr26 σ (x1) (x2) (x3) (x4 + 1) h)
set_option maxHeartbeats 4000000 in
set_option maxRecDepth 20000 in
theorem bX8_mend_58 (C : hv_C p s m args meth c cX8_mend 5 wsX8_mend RX8 D (hv_tys cy)) (hr : meth.sig.returnType = (some .int)) {n : Nat} {o : Int32 × hv_St} {r26 : hv_St → Int32 → Int32 → Int32 → Int32 → Option (Int32 × hv_St)} (hr26 : ∀ (σ : hv_St) (x1 : Int32) (x2 : Int32) (x3 : Int32) (x4 : Int32), r26 σ x1 x2 x3 x4 = some o → hv_G p l e (headSpec wsX8_mend rmX8_mend).room s m args below meth c 5 D 23 a (hv_ME a cy) 0 0 (hv_MQ D 23 a (hv_ME a cy) below args s (some (.int o.1)) o.2) σ 26 [(0, .ref (a 0)), (1, .int (x1)), (2, .int (x2)), (3, .int (x3)), (4, .int (x4))] []) : ∀ (σ : hv_St) (x1 : Int32) (x2 : Int32) (x3 : Int32) (x4 : Int32), kX8_mend_58 n r26 σ x1 x2 x3 x4 = some o → hv_G p l e (headSpec wsX8_mend rmX8_mend).room s m args below meth c 5 D 23 a (hv_ME a cy) 0 0 (hv_MQ D 23 a (hv_ME a cy) below args s (some (.int o.1)) o.2) σ 58 [(0, .ref (a 0)), (1, .int (x1)), (2, .int (x2)), (3, .int (x3)), (4, .int (x4))] [] := by
  intro σ x1 x2 x3 x4 h
  unfold kX8_mend_58 at h
  refine g_aload_n (pc := 58) C 0 dX8_mend_58 rfl rfl ?_
  refine g_aload_n (pc := 59) C 0 dX8_mend_59 rfl rfl ?_
  refine gm_get_0_11 (pc := 60) C iX8_mend_X8 qX8_mend_F107 dX8_mend_60 ?_
  refine g_iload (pc := 63) C 4 dX8_mend_63 rfl ?_
  refine g_ior (pc := 65) C dX8_mend_65 ?_
  obtain ⟨r66, s66, hc66, h⟩ := hv_b2_some h
  refine g_callV (pc := 66) (σ1 := s66) (v := (some (.int (r66)))) (As := [.int ((σ.1 0 11) ||| (x4))]) (rest := []) C 0 (vX8_kindOf hc66) (cwV 1 C.1.2.2.2.2 gX8_mend_X8_kindOf rfl rfl rfl (by decide +kernel) ⟨Nat.le_of_ble_eq_true rfl, Nat.le_of_ble_eq_true rfl⟩) (Nat.le_of_ble_eq_true rfl) rfl rfl rfl rfl (Nat.le_of_ble_eq_true rfl) dX8_mend_66 ⟨Nat.zero_le _, Nat.zero_le _⟩ ?_
  refine g_st (st' := [.int (r66)]) rfl ?_
  refine g_if_eq (pc := 69) (tgt := 75) C dX8_mend_69 (by decide) (fun c69 => ?_) (fun c69 => ?_)
  · rw [if_pos c69] at h
    exact g_lv [0, 1, 2, 3, 4] rfl (bX8_mend_75 C hr hr26 s66 (x1) (x2) (x3) (x4) h)
  · rw [if_neg c69] at h
    refine g_iload (pc := 72) C 4 dX8_mend_72 rfl ?_
    refine g_istore_n (pc := 74) C (lv' := [(3, .int (x4)), (0, .ref (a 0)), (1, .int (x1)), (2, .int (x2)), (4, .int (x4))]) rfl dX8_mend_74 rfl (Nat.le_of_ble_eq_true rfl) rfl ?_
    exact g_lv [1, 2, 3, 0, 4] rfl (bX8_mend_75 C hr hr26 s66 (x1) (x2) (x4) (x4) h)
set_option maxHeartbeats 4000000 in
set_option maxRecDepth 20000 in
theorem bX8_mend_26 (C : hv_C p s m args meth c cX8_mend 5 wsX8_mend RX8 D (hv_tys cy)) (hr : meth.sig.returnType = (some .int)) {n : Nat} {o : Int32 × hv_St} : ∀ (i : Nat) (σ : hv_St) (x1 : Int32) (x2 : Int32) (x3 : Int32) (x4 : Int32), kX8_mend_26 n i σ x1 x2 x3 x4 = some o → hv_G p l e (headSpec wsX8_mend rmX8_mend).room s m args below meth c 5 D 23 a (hv_ME a cy) 0 0 (hv_MQ D 23 a (hv_ME a cy) below args s (some (.int o.1)) o.2) σ 26 [(0, .ref (a 0)), (1, .int (x1)), (2, .int (x2)), (3, .int (x3)), (4, .int (x4))] [] := by
  intro i
  induction i with
  | zero =>
    intro σ x1 x2 x3 x4 h
    cases h
  | succ i ih =>
    intro σ x1 x2 x3 x4 h
    generalize hg : kX8_mend_26 n i = r26 at ih
    have hr26 := ih
    replace h : kX8_mend_26_b n r26 σ x1 x2 x3 x4 = some o := by rw [← hg]; exact h
    unfold kX8_mend_26_b at h
    refine g_iload (pc := 26) C 4 dX8_mend_26 rfl ?_
    refine g_iload_n (pc := 28) C 2 dX8_mend_28 rfl rfl ?_
    refine g_icmp_gt (pc := 29) (tgt := 81) C dX8_mend_29 (by decide) (fun c29 => ?_) (fun c29 => ?_)
    · rw [if_pos c29] at h
      refine g_iload_n (pc := 81) C 3 dX8_mend_81 rfl rfl ?_
      refine g_iconst (pc := 82) C (v := (-1 : Int32)) dX8_mend_82 (by decide) ?_
      refine g_icmp_eq (pc := 83) (tgt := 90) C dX8_mend_83 (by decide) (fun c83 => ?_) (fun c83 => ?_)
      · rw [if_pos c83] at h
        exact g_lv [3] rfl (bX8_mend_90 C hr σ (x3) h)
      · rw [if_neg c83] at h
        refine g_iload_n (pc := 86) C 1 dX8_mend_86 rfl rfl ?_
        refine g_if_eq (pc := 87) (tgt := 94) C dX8_mend_87 (by decide) (fun c87 => ?_) (fun c87 => ?_)
        · rw [if_pos c87] at h
          refine g_iload_n (pc := 94) C 3 dX8_mend_94 rfl rfl ?_
          obtain ⟨r95, s95, hc95, h⟩ := hv_b2_some h
          refine g_callS (pc := 95) (σ1 := s95) (v := (some (.int (r95)))) (As := [.int (x3)]) (rest := []) C (vX8_bits hc95) (va_cwS 1 C.1.2.2.2.2 gX8_mend_X8_bits rfl rfl rfl (by decide +kernel) ⟨Nat.le_of_ble_eq_true rfl, Nat.le_of_ble_eq_true rfl⟩) rfl rfl (Nat.le_of_ble_eq_true rfl) dX8_mend_95 ⟨Nat.zero_le _, Nat.zero_le _⟩ ?_
          refine g_st (st' := [.int (r95)]) rfl ?_
          cases h
          exact g_iret (pc := 98) C hr dX8_mend_98
        · rw [if_neg c87] at h
          exact g_lv [3] rfl (bX8_mend_90 C hr σ (x3) h)
    · rw [if_neg c29] at h
      refine g_iload (pc := 32) C 4 dX8_mend_32 rfl ?_
      refine g_iload_n (pc := 34) C 2 dX8_mend_34 rfl rfl ?_
      refine g_iconst (pc := 35) C (v := (-1 : Int32)) dX8_mend_35 (by decide) ?_
      refine g_ixor (pc := 36) C dX8_mend_36 ?_
      refine g_iand (pc := 37) C dX8_mend_37 ?_
      refine g_if_ne (pc := 38) (tgt := 75) C dX8_mend_38 (by decide) (fun c38 => ?_) (fun c38 => ?_)
      · rw [if_neg c38] at h
        exact g_lv [0, 1, 2, 3, 4] rfl (bX8_mend_75 C hr hr26 σ (x1) (x2) (x3) (x4) h)
      · rw [if_pos c38] at h
        refine g_iload_n (pc := 41) C 3 dX8_mend_41 rfl rfl ?_
        refine g_iconst (pc := 42) C (v := (-1 : Int32)) dX8_mend_42 (by decide) ?_
        refine g_icmp_eq (pc := 43) (tgt := 58) C dX8_mend_43 (by decide) (fun c43 => ?_) (fun c43 => ?_)
        · rw [if_pos c43] at h
          exact g_lv [0, 1, 2, 3, 4] rfl (bX8_mend_58 C hr hr26 σ (x1) (x2) (x3) (x4) h)
        · rw [if_neg c43] at h
          refine g_iload (pc := 46) C 4 dX8_mend_46 rfl ?_
          obtain ⟨r48, s48, hc48, h⟩ := hv_b2_some h
          refine g_callS (pc := 48) (σ1 := s48) (v := (some (.int (r48)))) (As := [.int (x4)]) (rest := []) C (vX8_bits hc48) (va_cwS 1 C.1.2.2.2.2 gX8_mend_X8_bits rfl rfl rfl (by decide +kernel) ⟨Nat.le_of_ble_eq_true rfl, Nat.le_of_ble_eq_true rfl⟩) rfl rfl (Nat.le_of_ble_eq_true rfl) dX8_mend_48 ⟨Nat.zero_le _, Nat.zero_le _⟩ ?_
          refine g_st (st' := [.int (r48)]) rfl ?_
          refine g_iload_n (pc := 51) C 3 dX8_mend_51 rfl rfl ?_
          obtain ⟨r52, s52, hc52, h⟩ := hv_b2_some h
          refine g_callS (pc := 52) (σ1 := s52) (v := (some (.int (r52)))) (As := [.int (x3)]) (rest := [.int (r48)]) C (vX8_bits hc52) (va_cwS 1 C.1.2.2.2.2 gX8_mend_X8_bits rfl rfl rfl (by decide +kernel) ⟨Nat.le_of_ble_eq_true rfl, Nat.le_of_ble_eq_true rfl⟩) rfl rfl (Nat.le_of_ble_eq_true rfl) dX8_mend_52 ⟨Nat.zero_le _, Nat.zero_le _⟩ ?_
          refine g_st (st' := [.int (r52), .int (r48)]) rfl ?_
          refine g_icmp_ge (pc := 55) (tgt := 75) C dX8_mend_55 (by decide) (fun c55 => ?_) (fun c55 => ?_)
          · rw [if_pos c55] at h
            exact g_lv [0, 1, 2, 3, 4] rfl (bX8_mend_75 C hr hr26 s52 (x1) (x2) (x3) (x4) h)
          · rw [if_neg c55] at h
            exact g_lv [0, 1, 2, 3, 4] rfl (bX8_mend_58 C hr hr26 s52 (x1) (x2) (x3) (x4) h)
set_option maxHeartbeats 4000000 in
set_option maxRecDepth 20000 in
theorem vX8_mend {n : Nat} {σ : hv_St} {p0 : Int32} {o : Int32 × hv_St} (h : mX8_mend n σ p0 = some o) : hv_M l yX8_mend wsX8_mend rmX8_mend D (hv_tys cy) 23 a (hv_ME a cy) [.ref (a 0), .int (p0)] σ (some (.int o.1)) o.2 := by
  refine hv_enter (own := RX8) (cc := cX8_mend) (maxL := 5) (ret := (some .int)) (by decide) rfl rfl (Nat.le_of_ble_eq_true rfl) ?_
  intro p e s m args below meth c C hr
  unfold mX8_mend at h
  refine g_lv [0, 1] (lv' := [(0, .ref (a 0)), (1, .int (p0))]) rfl ?_
  refine g_aload_n (pc := 0) C 0 dX8_mend_0 rfl rfl ?_
  refine g_iconst (pc := 1) C (v := (0 : Int32)) dX8_mend_1 (by decide) ?_
  obtain ⟨s2, es2, h⟩ := hv_let_some h
  refine gm_put_0_0 (pc := 2) C es2 iX8_mend_X8 qX8_mend_F77 dX8_mend_2 ?_
  refine g_iconst (pc := 5) C (v := (1 : Int32)) dX8_mend_5 (by decide) ?_
  refine g_aload_n (pc := 6) C 0 dX8_mend_6 rfl rfl ?_
  refine gm_get_0_6 (pc := 7) C iX8_mend_X8 qX8_mend_F88 dX8_mend_7 ?_
  refine g_ishl (pc := 10) C dX8_mend_10 ?_
  refine g_iconst (pc := 11) C (v := (1 : Int32)) dX8_mend_11 (by decide) ?_
  refine g_isub (pc := 12) C dX8_mend_12 ?_
  refine g_aload_n (pc := 13) C 0 dX8_mend_13 rfl rfl ?_
  refine gm_get_0_11 (pc := 14) C iX8_mend_X8 qX8_mend_F107 dX8_mend_14 ?_
  refine g_iconst (pc := 17) C (v := (-1 : Int32)) dX8_mend_17 (by decide) ?_
  refine g_ixor (pc := 18) C dX8_mend_18 ?_
  refine g_iand (pc := 19) C dX8_mend_19 ?_
  obtain ⟨y2_20, ey2_20, h⟩ := hv_let_some h
  refine g_istore_n (pc := 20) C (lv' := [(2, .int (y2_20)), (0, .ref (a 0)), (1, .int (p0))]) ey2_20 dX8_mend_20 rfl (Nat.le_of_ble_eq_true rfl) rfl ?_
  refine g_iconst (pc := 21) C (v := (-1 : Int32)) dX8_mend_21 (by decide) ?_
  refine g_istore_n (pc := 22) C (lv' := [(3, .int ((-1 : Int32))), (2, .int (y2_20)), (0, .ref (a 0)), (1, .int (p0))]) rfl dX8_mend_22 rfl (Nat.le_of_ble_eq_true rfl) rfl ?_
  refine g_iconst (pc := 23) C (v := (0 : Int32)) dX8_mend_23 (by decide) ?_
  refine g_istore (pc := 24) C (lv' := [(4, .int ((0 : Int32))), (3, .int ((-1 : Int32))), (2, .int (y2_20)), (0, .ref (a 0)), (1, .int (p0))]) rfl dX8_mend_24 (Nat.le_of_ble_eq_true rfl) rfl ?_
  exact g_lv [3, 4, 2, 1, 0] rfl (bX8_mend_26 C hr n s2 (p0) (y2_20) ((-1 : Int32)) ((0 : Int32)) h)
end
