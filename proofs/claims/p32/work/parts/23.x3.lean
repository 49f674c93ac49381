/-! class, walked: X7_force -/
section
variable {p : Program} {l : Launch} {e : Env} {s : State} {m : MethodId} {args : Array Value} {below : List Frame} {meth : Method} {c : Code} {D : va_G} {a : Nat → Nat} {cy : ClassId × ClassId × ClassId × ClassId}
abbrev rmX7_force : Room := { frames := 7, cells := 2, slots := 12, locals := 142 }
set_option maxRecDepth 20000 in
theorem qX7_force_F110 : Cond.fieldLink RX7 110 "PinFrame$Frame" "held" "[Z" ∈ wsX7_force := by decide +kernel
set_option maxRecDepth 20000 in
theorem qX7_force_F117 : Cond.fieldLink RX7 117 "PinFrame$Frame" "loads" "[I" ∈ wsX7_force := by decide +kernel
set_option maxRecDepth 20000 in
theorem qX7_force_F17 : Cond.fieldLink RX7 17 "PinFrame" "frame" "LPinFrame$Frame;" ∈ wsX7_force := by decide +kernel
set_option maxRecDepth 20000 in
theorem qX7_force_F192 : Cond.fieldLink RX7 192 "PinFrame$Pulls" "whole" "J" ∈ wsX7_force := by decide +kernel
set_option maxRecDepth 20000 in
theorem qX7_force_F30 : Cond.fieldLink RX7 30 "PinFrame" "pulls" "LPinFrame$Pulls;" ∈ wsX7_force := by decide +kernel
set_option maxRecDepth 20000 in
theorem qX7_force_F78 : Cond.fieldLink RX7 78 "PinFrame$Frame" "bars" "I" ∈ wsX7_force := by decide +kernel
set_option maxRecDepth 20000 in
theorem qX7_force_F97 : Cond.fieldLink RX7 97 "PinFrame$Frame" "on" "I" ∈ wsX7_force := by decide +kernel
set_option maxRecDepth 20000 in
theorem iX7_force_X3 : ∀ w ∈ u_ws RX3 TX3 10, w ∈ wsX7_force := by decide +kernel
set_option maxRecDepth 20000 in
theorem iX7_force_X5 : ∀ w ∈ u_ws RX5 TX5 7, w ∈ wsX7_force := by decide +kernel
set_option maxRecDepth 20000 in
theorem iX7_force_X7 : ∀ w ∈ u_ws RX7 TX7 7, w ∈ wsX7_force := by decide +kernel
set_option maxHeartbeats 4000000 in
set_option maxRecDepth 20000 in
theorem bX7_force_164 (hflag : l.stackTraces = false) (CT : hv_CT p s m args meth c cX7_force 8 wsX7_force RX7 D (hv_tys cy) 55 a) (hr : meth.sig.returnType = (some .long)) {n : Nat} {o : Option Int64 × hv_St} {r99 : hv_St → Int32 → Int32 → Int64 → Int32 → Option (Option Int64 × hv_St)} (hr99 : ∀ (σ : hv_St) (x3 : Int32) (x4 : Int32) (x5 : Int64) (x7 : Int32), r99 σ x3 x4 x5 x7 = some o → hv_G p l e (headSpec wsX7_force rmX7_force).room s m args below meth c 8 D 55 a (hv_XE a cy) 2 12 (hv_XQ D 55 a (hv_XE a cy) below args s (o.1.map (fun x => some (.long x))) o.2 2 12) σ 99 [(0, .ref (a 0)), (3, .int (x3)), (4, .int (x4)), (5, .long (x5)), (7, .int (x7))] []) : ∀ (σ : hv_St) (x3 : Int32) (x4 : Int32) (x5 : Int64) (x7 : Int32), kX7_force_164 n r99 σ x3 x4 x5 x7 = some o → hv_G p l e (headSpec wsX7_force rmX7_force).room s m args below meth c 8 D 55 a (hv_XE a cy) 2 12 (hv_XQ D 55 a (hv_XE a cy) below args s (o.1.map (fun x => some (.long x))) o.2 2 12) σ 164 [(0, .ref (a 0)), (3, .int (x3)), (4, .int (x4)), (5, .long (x5)), (7, .int (x7))] [] := by
  intro σ x3 x4 x5 x7 h
  unfold kX7_force_164 at h
  have C := CT.1
  refine g_iinc (pc := 164) C 4 (v := x7 + 1) (lv' := [(7, .int (x7 + 1)), (0, .ref (a 0)), (3, .int (x3)), (4, .int (x4)), (5, .long (x5))]) dX7_force_164 rfl rfl (Nat.le_of_ble_eq_true rfl) rfl ?_
  refine g_goto (pc := 167) C (tgt := 99) dX7_force_167 (by decide) ?_
  exact g_lv [1, 2, 3, 4, 0] rfl (hr99 σ (x3) (x4) (x5) (x7 + 1) h)
set_option maxHeartbeats 4000000 in
set_option maxRecDepth 20000 in
theorem bX7_force_99 (hflag : l.stackTraces = false) (CT : hv_CT p s m args meth c cX7_force 8 wsX7_force RX7 D (hv_tys cy) 55 a) (hr : meth.sig.returnType = (some .long)) {n : Nat} {o : Option Int64 × hv_St} : ∀ (i : Nat) (σ : hv_St) (x3 : Int32) (x4 : Int32) (x5 : Int64) (x7 : Int32), kX7_force_99 n i σ x3 x4 x5 x7 = some o → hv_G p l e (headSpec wsX7_force rmX7_force).room s m args below meth c 8 D 55 a (hv_XE a cy) 2 12 (hv_XQ D 55 a (hv_XE a cy) below args s (o.1.map (fun x => some (.long x))) o.2 2 12) σ 99 [(0, .ref (a 0)), (3, .int (x3)), (4, .int (x4)), (5, .long (x5)), (7, .int (x7))] [] := by
  intro i
  induction i with
  | zero =>
    intro σ x3 x4 x5 x7 h
    cases h
  | succ i ih =>
    intro σ x3 x4 x5 x7 h
    generalize hg : kX7_force_99 n i = r99 at ih
    have hr99 := ih
    replace h : kX7_force_99_b n r99 σ x3 x4 x5 x7 = some o := by rw [← hg]; exact h
    unfold kX7_force_99_b at h
    have C := CT.1
    refine g_iload (pc := 99) C 4 dX7_force_99 rfl ?_
    refine g_aload_n (pc := 101) C 0 dX7_force_101 rfl rfl ?_
    refine gx_get_0_0 (pc := 102) C iX7_force_X7 qX7_force_F17 dX7_force_102 ?_
    refine gx_get_1_1 (pc := 105) C iX7_force_X3 qX7_force_F78 dX7_force_105 ?_
    refine g_icmp_ge (pc := 108) (tgt := 170) C dX7_force_108 (by decide) (fun c108 => ?_) (fun c108 => ?_)
    · rw [if_pos c108] at h
      refine g_aload_n (pc := 170) C 0 dX7_force_170 rfl rfl ?_
      refine g_lload (pc := 171) C 3 dX7_force_171 rfl ?_
      refine g_lneg (pc := 173) C dX7_force_173 ?_
      refine g_aload_n (pc := 174) C 0 dX7_force_174 rfl rfl ?_
      refine gx_get_0_2 (pc := 175) C iX7_force_X7 qX7_force_F30 dX7_force_175 ?_
      refine gx_get_13_6 (pc := 178) C iX7_force_X5 qX7_force_F192 dX7_force_178 ?_
      refine g_iload_n (pc := 181) C 1 dX7_force_181 rfl rfl ?_
      obtain ⟨r182, s182, hc182, h⟩ := hv_b2_some h
      refine g_callV (pc := 182) (σ1 := s182) (v := (some (.long (r182)))) (As := [.long (-(x5)), .long (σ.2 13 6), .int (x3)]) (rest := []) C 0 (vX7_told hc182) (cwV 3 C.1.2.2.2.2 gX7_force_X7_told rfl rfl rfl (by decide +kernel) ⟨Nat.le_of_ble_eq_true rfl, Nat.le_of_ble_eq_true rfl⟩) (Nat.le_of_ble_eq_true rfl) rfl rfl rfl rfl (Nat.le_of_ble_eq_true rfl) dX7_force_182 ⟨Nat.le_of_ble_eq_true rfl, Nat.le_of_ble_eq_true rfl⟩ ?_
      refine g_st (st' := [.long (r182)]) rfl ?_
      cases h
      exact g_xlret (pc := 185) CT hr dX7_force_185 (Nat.le_of_ble_eq_true rfl) (Nat.le_of_ble_eq_true rfl)
    · rw [if_neg c108] at h
      refine g_aload_n (pc := 111) C 0 dX7_force_111 rfl rfl ?_
      refine gx_get_0_0 (pc := 112) C iX7_force_X7 qX7_force_F17 dX7_force_112 ?_
      refine g_iload (pc := 115) C 4 dX7_force_115 rfl ?_
      obtain ⟨r117, s117, hc117, h⟩ := hv_b2_some h
      refine g_callV (pc := 117) (σ1 := s117) (v := (some (.int (r117)))) (As := [.int (x7)]) (rest := []) C 1 (vX3_isOn hc117) (cwV 1 C.1.2.2.2.2 gX7_force_X3_isOn rfl rfl rfl (by decide +kernel) ⟨Nat.le_of_ble_eq_true rfl, Nat.le_of_ble_eq_true rfl⟩) (Nat.le_of_ble_eq_true rfl) rfl rfl rfl rfl (Nat.le_of_ble_eq_true rfl) dX7_force_117 ⟨Nat.le_of_ble_eq_true rfl, Nat.le_of_ble_eq_true rfl⟩ ?_
      refine g_st (st' := [.int (r117)]) rfl ?_
      refine g_if_eq (pc := 120) (tgt := 164) C dX7_force_120 (by decide) (fun c120 => ?_) (fun c120 => ?_)
      · rw [if_pos c120] at h
        exact g_lv [0, 1, 2, 3, 4] rfl (bX7_force_164 hflag CT hr hr99 s117 (x3) (x4) (x5) (x7) h)
      · rw [if_neg c120] at h
        refine g_aload_n (pc := 123) C 0 dX7_force_123 rfl rfl ?_
        refine gx_get_0_0 (pc := 124) C iX7_force_X7 qX7_force_F17 dX7_force_124 ?_
        refine g_iload (pc := 127) C 4 dX7_force_127 rfl ?_
        refine g_iload (pc := 129) C 2 dX7_force_129 rfl ?_
        obtain ⟨r131, s131, hc131, h⟩ := hv_b2_some h
        refine g_callV (pc := 131) (σ1 := s131) (v := (some (.int (r131)))) (As := [.int (x7), .int (x4)]) (rest := []) C 1 (vX3_brings hc131) (cwV 2 C.1.2.2.2.2 gX7_force_X3_brings rfl rfl rfl (by decide +kernel) ⟨Nat.le_of_ble_eq_true rfl, Nat.le_of_ble_eq_true rfl⟩) (Nat.le_of_ble_eq_true rfl) rfl rfl rfl rfl (Nat.le_of_ble_eq_true rfl) dX7_force_131 ⟨Nat.le_of_ble_eq_true rfl, Nat.le_of_ble_eq_true rfl⟩ ?_
        refine g_st (st' := [.int (r131)]) rfl ?_
        refine g_if_eq (pc := 134) (tgt := 164) C dX7_force_134 (by decide) (fun c134 => ?_) (fun c134 => ?_)
        · rw [if_pos c134] at h
          exact g_lv [0, 1, 2, 3, 4] rfl (bX7_force_164 hflag CT hr hr99 s131 (x3) (x4) (x5) (x7) h)
        · rw [if_neg c134] at h
          refine g_lload (pc := 137) C 3 dX7_force_137 rfl ?_
          refine g_aload_n (pc := 139) C 0 dX7_force_139 rfl rfl ?_
          refine gx_get_0_0 (pc := 140) C iX7_force_X7 qX7_force_F17 dX7_force_140 ?_
          refine g_iload (pc := 143) C 4 dX7_force_143 rfl ?_
          refine g_iload (pc := 145) C 2 dX7_force_145 rfl ?_
          obtain ⟨r147, s147, hc147, h⟩ := hv_b2_some h
          refine g_callV (pc := 147) (σ1 := s147) (v := (some (.int (r147)))) (As := [.int (x7), .int (x4)]) (rest := [.long (x5)]) C 1 (vX3_brings hc147) (cwV 2 C.1.2.2.2.2 gX7_force_X3_brings rfl rfl rfl (by decide +kernel) ⟨Nat.le_of_ble_eq_true rfl, Nat.le_of_ble_eq_true rfl⟩) (Nat.le_of_ble_eq_true rfl) rfl rfl rfl rfl (Nat.le_of_ble_eq_true rfl) dX7_force_147 ⟨Nat.le_of_ble_eq_true rfl, Nat.le_of_ble_eq_true rfl⟩ ?_
          refine g_st (st' := [.int (r147), .long (x5)]) rfl ?_
          refine g_i2l (pc := 150) C dX7_force_150 ?_
          refine g_aload_n (pc := 151) C 0 dX7_force_151 rfl rfl ?_
          refine gx_get_0_2 (pc := 152) C iX7_force_X7 qX7_force_F30 dX7_force_152 ?_
          refine g_iload (pc := 155) C 4 dX7_force_155 rfl ?_
          obtain ⟨r157, s157, hc157, h⟩ := hv_b2_some h
          refine g_callV (pc := 157) (σ1 := s157) (v := (some (.long (r157)))) (As := [.int (x7)]) (rest := [.long ((r147).toInt64), .long (x5)]) C 13 (vX5_overOf hc157) (cwV 1 C.1.2.2.2.2 gX7_force_X5_overOf rfl rfl rfl (by decide +kernel) ⟨Nat.le_of_ble_eq_true rfl, Nat.le_of_ble_eq_true rfl⟩) (Nat.le_of_ble_eq_true rfl) rfl rfl rfl rfl (Nat.le_of_ble_eq_true rfl) dX7_force_157 ⟨Nat.le_of_ble_eq_true rfl, Nat.le_of_ble_eq_true rfl⟩ ?_
          refine g_st (st' := [.long (r157), .long ((r147).toInt64), .long (x5)]) rfl ?_
          refine g_lmul (pc := 160) C dX7_force_160 ?_
          refine g_ladd (pc := 161) C dX7_force_161 ?_
          obtain ⟨y5_162, ey5_162, h⟩ := hv_let_some h
          refine g_lstore (pc := 162) C (lv' := [(5, .long (y5_162)), (0, .ref (a 0)), (3, .int (x3)), (4, .int (x4)), (7, .int (x7))]) ey5_162 dX7_force_162 (Nat.le_of_ble_eq_true rfl) rfl ?_
          exact g_lv [1, 2, 3, 0, 4] rfl (bX7_force_164 hflag CT hr hr99 s157 (x3) (x4) (y5_162) (x7) h)
set_option maxHeartbeats 4000000 in
set_option maxRecDepth 20000 in
theorem bX7_force_72 (hflag : l.stackTraces = false) (CT : hv_CT p s m args meth c cX7_force 8 wsX7_force RX7 D (hv_tys cy) 55 a) (hr : meth.sig.returnType = (some .long)) {n : Nat} {o : Option Int64 × hv_St} : ∀ (σ : hv_St) (x3 : Int32) (x4 : Int32) (z0 : Int32), kX7_force_72 n σ x3 x4 z0 = some o → hv_G p l e (headSpec wsX7_force rmX7_force).room s m args below meth c 8 D 55 a (hv_XE a cy) 1 6 (hv_XQ D 55 a (hv_XE a cy) below args s (o.1.map (fun x => some (.long x))) o.2 2 12) σ 72 [(0, .ref (a 0)), (3, .int (x3)), (4, .int (x4))] [.int (z0)] := by
  intro σ x3 x4 z0 h
  unfold kX7_force_72 at h
  have C := CT.1
  rcases hv_bx_some h with ⟨s72, hc72, rfl⟩ | ⟨y72, s72, hc72, h⟩
  · exact g_xcallS0 (pc := 72) (σ1 := s72) (As := [.int (z0)]) (rest := []) CT (vX7_need hflag hc72) (va_cwS 1 C.1.2.2.2.2 gX7_force_X7_need rfl rfl rfl (by decide +kernel) ⟨Nat.le_of_ble_eq_true rfl, Nat.le_of_ble_eq_true rfl⟩) rfl rfl (Nat.le_of_ble_eq_true rfl) dX7_force_72 ⟨Nat.le_of_ble_eq_true rfl, Nat.le_of_ble_eq_true rfl⟩ (Nat.le_of_ble_eq_true rfl) (Nat.le_of_ble_eq_true rfl)
  refine g_xcallS (pc := 72) (σ1 := s72) (v := none) (As := [.int (z0)]) (rest := []) CT (vX7_need hflag hc72) (va_cwS 1 C.1.2.2.2.2 gX7_force_X7_need rfl rfl rfl (by decide +kernel) ⟨Nat.le_of_ble_eq_true rfl, Nat.le_of_ble_eq_true rfl⟩) rfl rfl (Nat.le_of_ble_eq_true rfl) dX7_force_72 ⟨Nat.le_of_ble_eq_true rfl, Nat.le_of_ble_eq_true rfl⟩ ?_
  refine g_st (st' := []) rfl ?_
  refine g_aload_n (pc := 75) C 0 dX7_force_75 rfl rfl ?_
  refine gx_get_0_0 (pc := 76) C iX7_force_X7 qX7_force_F17 dX7_force_76 ?_
  refine gx_get_1_4 (pc := 79) C iX7_force_X3 qX7_force_F117 dX7_force_79 ?_
  refine g_iload (pc := 82) C 2 dX7_force_82 rfl ?_
  obtain ⟨k84, h⟩ := hv_if_some h
  refine gx_ld_3 (pc := 84) C k84 dX7_force_84 ?_
  refine g_i2l (pc := 85) C dX7_force_85 ?_
  refine g_aload_n (pc := 86) C 0 dX7_force_86 rfl rfl ?_
  refine gx_get_0_2 (pc := 87) C iX7_force_X7 qX7_force_F30 dX7_force_87 ?_
  refine gx_get_13_6 (pc := 90) C iX7_force_X5 qX7_force_F192 dX7_force_90 ?_
  refine g_lmul (pc := 93) C dX7_force_93 ?_
  obtain ⟨y5_94, ey5_94, h⟩ := hv_let_some h
  refine g_lstore (pc := 94) C (lv' := [(5, .long (y5_94)), (0, .ref (a 0)), (3, .int (x3)), (4, .int (x4))]) ey5_94 dX7_force_94 (Nat.le_of_ble_eq_true rfl) rfl ?_
  refine g_iconst (pc := 96) C (v := (0 : Int32)) dX7_force_96 (by decide) ?_
  refine g_istore (pc := 97) C (lv' := [(7, .int ((0 : Int32))), (5, .long (y5_94)), (0, .ref (a 0)), (3, .int (x3)), (4, .int (x4))]) rfl dX7_force_97 (Nat.le_of_ble_eq_true rfl) rfl ?_
  exact g_lv [2, 3, 4, 1, 0] rfl (bX7_force_99 hflag CT hr n s72 (x3) (x4) (y5_94) ((0 : Int32)) h)
set_option maxHeartbeats 4000000 in
set_option maxRecDepth 20000 in
theorem bX7_force_71 (hflag : l.stackTraces = false) (CT : hv_CT p s m args meth c cX7_force 8 wsX7_force RX7 D (hv_tys cy) 55 a) (hr : meth.sig.returnType = (some .long)) {n : Nat} {o : Option Int64 × hv_St} : ∀ (σ : hv_St) (x3 : Int32) (x4 : Int32), kX7_force_71 n σ x3 x4 = some o → hv_G p l e (headSpec wsX7_force rmX7_force).room s m args below meth c 8 D 55 a (hv_XE a cy) 1 6 (hv_XQ D 55 a (hv_XE a cy) below args s (o.1.map (fun x => some (.long x))) o.2 2 12) σ 71 [(0, .ref (a 0)), (3, .int (x3)), (4, .int (x4))] [] := by
  intro σ x3 x4 h
  unfold kX7_force_71 at h
  have C := CT.1
  refine g_iconst (pc := 71) C (v := (0 : Int32)) dX7_force_71 (by decide) ?_
  exact g_lv [0, 1, 2] rfl (bX7_force_72 hflag CT hr σ (x3) (x4) ((0 : Int32)) h)
set_option maxHeartbeats 4000000 in
set_option maxRecDepth 20000 in
theorem bX7_force_23 (hflag : l.stackTraces = false) (CT : hv_CT p s m args meth c cX7_force 8 wsX7_force RX7 D (hv_tys cy) 55 a) (hr : meth.sig.returnType = (some .long)) {n : Nat} {o : Option Int64 × hv_St} : ∀ (σ : hv_St) (x1 : Int32) (x2 : Int32) (x3 : Int32) (z0 : Int32), kX7_force_23 n σ x1 x2 x3 z0 = some o → hv_G p l e (headSpec wsX7_force rmX7_force).room s m args below meth c 8 D 55 a (hv_XE a cy) 0 0 (hv_XQ D 55 a (hv_XE a cy) below args s (o.1.map (fun x => some (.long x))) o.2 2 12) σ 23 [(0, .ref (a 0)), (1, .int (x1)), (2, .int (x2)), (3, .int (x3))] [.int (z0)] := by
  intro σ x1 x2 x3 z0 h
  unfold kX7_force_23 at h
  have C := CT.1
  rcases hv_bx_some h with ⟨s23, hc23, rfl⟩ | ⟨y23, s23, hc23, h⟩
  · exact g_xcallS0 (pc := 23) (σ1 := s23) (As := [.int (z0)]) (rest := []) CT (vX7_need hflag hc23) (va_cwS 1 C.1.2.2.2.2 gX7_force_X7_need rfl rfl rfl (by decide +kernel) ⟨Nat.le_of_ble_eq_true rfl, Nat.le_of_ble_eq_true rfl⟩) rfl rfl (Nat.le_of_ble_eq_true rfl) dX7_force_23 ⟨Nat.le_of_ble_eq_true rfl, Nat.le_of_ble_eq_true rfl⟩ (Nat.le_of_ble_eq_true rfl) (Nat.le_of_ble_eq_true rfl)
  refine g_xcallS (pc := 23) (σ1 := s23) (v := none) (As := [.int (z0)]) (rest := []) CT (vX7_need hflag hc23) (va_cwS 1 C.1.2.2.2.2 gX7_force_X7_need rfl rfl rfl (by decide +kernel) ⟨Nat.le_of_ble_eq_true rfl, Nat.le_of_ble_eq_true rfl⟩) rfl rfl (Nat.le_of_ble_eq_true rfl) dX7_force_23 ⟨Nat.le_of_ble_eq_true rfl, Nat.le_of_ble_eq_true rfl⟩ ?_
  refine g_st (st' := []) rfl ?_
  refine g_iconst (pc := 26) C (v := (2 : Int32)) dX7_force_26 (by decide) ?_
  refine g_iload_n (pc := 27) C 1 dX7_force_27 rfl rfl ?_
  refine g_imul (pc := 28) C dX7_force_28 ?_
  refine g_iload_n (pc := 29) C 2 dX7_force_29 rfl rfl ?_
  refine g_iadd (pc := 30) C dX7_force_30 ?_
  obtain ⟨y4_31, ey4_31, h⟩ := hv_let_some h
  refine g_istore (pc := 31) C (lv' := [(4, .int (y4_31)), (0, .ref (a 0)), (1, .int (x1)), (2, .int (x2)), (3, .int (x3))]) ey4_31 dX7_force_31 (Nat.le_of_ble_eq_true rfl) rfl ?_
  refine g_aload_n (pc := 33) C 1 dX7_force_33 rfl rfl ?_
  refine gx_get_0_0 (pc := 34) C iX7_force_X7 qX7_force_F17 dX7_force_34 ?_
  refine gx_get_1_5 (pc := 37) C iX7_force_X3 qX7_force_F110 dX7_force_37 ?_
  refine g_iload (pc := 40) C 0 dX7_force_40 rfl ?_
  obtain ⟨k42, h⟩ := hv_if_some h
  refine gx_ld_4 (pc := 42) C k42 dX7_force_42 ?_
  refine g_if_eq (pc := 43) (tgt := 71) C dX7_force_43 (by decide) (fun c43 => ?_) (fun c43 => ?_)
  · rw [if_pos c43] at h
    exact g_lv [1, 4, 0] rfl (bX7_force_71 hflag CT hr s23 (x3) (y4_31) h)
  · rw [if_neg c43] at h
    refine g_aload_n (pc := 46) C 1 dX7_force_46 rfl rfl ?_
    refine g_aload_n (pc := 47) C 1 dX7_force_47 rfl rfl ?_
    refine gx_get_0_0 (pc := 48) C iX7_force_X7 qX7_force_F17 dX7_force_48 ?_
    refine gx_get_1_2 (pc := 51) C iX7_force_X3 qX7_force_F97 dX7_force_51 ?_
    refine g_aload_n (pc := 54) C 1 dX7_force_54 rfl rfl ?_
    refine gx_get_0_0 (pc := 55) C iX7_force_X7 qX7_force_F17 dX7_force_55 ?_
    refine gx_get_1_4 (pc := 58) C iX7_force_X3 qX7_force_F117 dX7_force_58 ?_
    obtain ⟨r61, s61, hc61, h⟩ := hv_b2_some h
    refine g_callV (pc := 61) (σ1 := s61) (v := (some (.int (r61)))) (As := [.int (s23.1 1 2), .ref (a 3)]) (rest := []) C 0 (vX7_bears (Or.inl rfl) hc61) (cwV 2 C.1.2.2.2.2 gX7_force_X7_bears rfl rfl rfl (by decide +kernel) ⟨Nat.le_of_ble_eq_true rfl, Nat.le_of_ble_eq_true rfl⟩) (Nat.le_of_ble_eq_true rfl) rfl rfl rfl rfl (Nat.le_of_ble_eq_true rfl) dX7_force_61 ⟨Nat.le_of_ble_eq_true rfl, Nat.le_of_ble_eq_true rfl⟩ ?_
    refine g_st (st' := [.int (r61)]) rfl ?_
    refine g_if_eq (pc := 64) (tgt := 71) C dX7_force_64 (by decide) (fun c64 => ?_) (fun c64 => ?_)
    · rw [if_pos c64] at h
      exact g_lv [1, 4, 0] rfl (bX7_force_71 hflag CT hr s61 (x3) (y4_31) h)
    · rw [if_neg c64] at h
      refine g_iconst (pc := 67) C (v := (1 : Int32)) dX7_force_67 (by decide) ?_
      refine g_goto (pc := 68) C (tgt := 72) dX7_force_68 (by decide) ?_
      exact g_lv [1, 4, 0] rfl (bX7_force_72 hflag CT hr s61 (x3) (y4_31) ((1 : Int32)) h)
set_option maxHeartbeats 4000000 in
set_option maxRecDepth 20000 in
theorem bX7_force_22 (hflag : l.stackTraces = false) (CT : hv_CT p s m args meth c cX7_force 8 wsX7_force RX7 D (hv_tys cy) 55 a) (hr : meth.sig.returnType = (some .long)) {n : Nat} {o : Option Int64 × hv_St} : ∀ (σ : hv_St) (x1 : Int32) (x2 : Int32) (x3 : Int32), kX7_force_22 n σ x1 x2 x3 = some o → hv_G p l e (headSpec wsX7_force rmX7_force).room s m args below meth c 8 D 55 a (hv_XE a cy) 0 0 (hv_XQ D 55 a (hv_XE a cy) below args s (o.1.map (fun x => some (.long x))) o.2 2 12) σ 22 [(0, .ref (a 0)), (1, .int (x1)), (2, .int (x2)), (3, .int (x3))] [] := by
  intro σ x1 x2 x3 h
  unfold kX7_force_22 at h
  have C := CT.1
  refine g_iconst (pc := 22) C (v := (0 : Int32)) dX7_force_22 (by decide) ?_
  exact g_lv [0, 1, 2, 3] rfl (bX7_force_23 hflag CT hr σ (x1) (x2) (x3) ((0 : Int32)) h)
set_option maxHeartbeats 4000000 in
set_option maxRecDepth 20000 in
theorem vX7_force (hflag : l.stackTraces = false) {n : Nat} {σ : hv_St} {p0 : Int32} {p1 : Int32} {p2 : Int32} {o : Option Int64 × hv_St} (h : mX7_force n σ p0 p1 p2 = some o) : hv_XM l yX7_force wsX7_force rmX7_force D (hv_tys cy) 55 a (hv_XE a cy) 2 12 [.ref (a 0), .int (p0), .int (p1), .int (p2)] σ (o.1.map (fun x => some (.long x))) o.2 := by
  refine hv_xenter (own := RX7) (cc := cX7_force) (maxL := 8) (ret := (some .long)) (by decide) rfl rfl (Nat.le_of_ble_eq_true rfl) ?_
  intro p e s m args below meth c CT hr
  have C := CT.1
  unfold mX7_force at h
  refine g_lv [0, 1, 2, 3] (lv' := [(0, .ref (a 0)), (1, .int (p0)), (2, .int (p1)), (3, .int (p2))]) rfl ?_
  refine g_aload_n (pc := 0) C 0 dX7_force_0 rfl rfl ?_
  refine gx_get_0_0 (pc := 1) C iX7_force_X7 qX7_force_F17 dX7_force_1 ?_
  refine g_iload_n (pc := 4) C 1 dX7_force_4 rfl rfl ?_
  obtain ⟨r5, s5, hc5, h⟩ := hv_b2_some h
  refine g_callV (pc := 5) (σ1 := s5) (v := (some (.int (r5)))) (As := [.int (p0)]) (rest := []) C 1 (vX3_isPin hc5) (cwV 1 C.1.2.2.2.2 gX7_force_X3_isPin rfl rfl rfl (by decide +kernel) ⟨Nat.le_of_ble_eq_true rfl, Nat.le_of_ble_eq_true rfl⟩) (Nat.le_of_ble_eq_true rfl) rfl rfl rfl rfl (Nat.le_of_ble_eq_true rfl) dX7_force_5 ⟨Nat.le_of_ble_eq_true rfl, Nat.le_of_ble_eq_true rfl⟩ ?_
  refine g_st (st' := [.int (r5)]) rfl ?_
  refine g_if_eq (pc := 8) (tgt := 22) C dX7_force_8 (by decide) (fun c8 => ?_) (fun c8 => ?_)
  · rw [if_pos c8] at h
    exact g_lv [0, 1, 2, 3] rfl (bX7_force_22 hflag CT hr s5 (p0) (p1) (p2) h)
  · rw [if_neg c8] at h
    refine g_iload_n (pc := 11) C 2 dX7_force_11 rfl rfl ?_
    obtain ⟨r12, s12, hc12, h⟩ := hv_b2_some h
    refine g_callS (pc := 12) (σ1 := s12) (v := (some (.int (r12)))) (As := [.int (p1)]) (rest := []) C (vX7_isDirection hc12) (va_cwS 1 C.1.2.2.2.2 gX7_force_X7_isDirection rfl rfl rfl (by decide +kernel) ⟨Nat.le_of_ble_eq_true rfl, Nat.le_of_ble_eq_true rfl⟩) rfl rfl (Nat.le_of_ble_eq_true rfl) dX7_force_12 ⟨Nat.le_of_ble_eq_true rfl, Nat.le_of_ble_eq_true rfl⟩ ?_
    refine g_st (st' := [.int (r12)]) rfl ?_
    refine g_if_eq (pc := 15) (tgt := 22) C dX7_force_15 (by decide) (fun c15 => ?_) (fun c15 => ?_)
    · rw [if_pos c15] at h
      exact g_lv [0, 1, 2, 3] rfl (bX7_force_22 hflag CT hr s12 (p0) (p1) (p2) h)
    · rw [if_neg c15] at h
      refine g_iconst (pc := 18) C (v := (1 : Int32)) dX7_force_18 (by decide) ?_
      refine g_goto (pc := 19) C (tgt := 23) dX7_force_19 (by decide) ?_
      exact g_lv [0, 1, 2, 3] rfl (bX7_force_23 hflag CT hr s12 (p0) (p1) (p2) ((1 : Int32)) h)
end
