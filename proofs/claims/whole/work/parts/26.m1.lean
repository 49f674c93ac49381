/-! reference, walked: X8_swaps, X8_determinant, X8_common, X8_lessens, X8_isNew, X8_laysBase, X8_kind, X8_kindOf, X8_isFirm, X8_setDeterminant, X8_takesLoads, X8_takesNone, X8_laysColumn, X8_addsSet -/
section
variable {p : Program} {l : Launch} {e : Env} {s : State} {m : MethodId} {args : Array Value} {below : List Frame} {meth : Method} {c : Code} {D : va_G} {a : Nat → Nat} {cy : ClassId × ClassId × ClassId × ClassId}
abbrev rmX8_swaps : Room := { frames := 0, cells := 0, slots := 0, locals := 0 }
set_option maxRecDepth 20000 in
theorem qX8_swaps_F46 : Cond.fieldLink RX8 46 "PinFrameModel" "cell" "[J" ∈ wsX8_swaps := by decide +kernel
set_option maxRecDepth 20000 in
theorem iX8_swaps_X8 : ∀ w ∈ u_ws RX8 TX8 35, w ∈ wsX8_swaps := by decide +kernel
set_option maxHeartbeats 4000000 in
set_option maxRecDepth 20000 in
theorem bX8_swaps_3 (C : hv_C p s m args meth c cX8_swaps 7 wsX8_swaps RX8 D (hv_tys cy)) (hr : meth.sig.returnType = none) {n : Nat} {o : hv_St} : ∀ (i : Nat) (σ : hv_St) (x1 : Int32) (x2 : Int32) (x3 : Int32) (x4 : Int32), kX8_swaps_3 n i σ x1 x2 x3 x4 = some o → hv_G p l e (headSpec wsX8_swaps rmX8_swaps).room s m args below meth c 7 D 23 a (hv_ME a cy) 0 0 (hv_MQ D 23 a (hv_ME a cy) below args s none o) σ 3 [(0, .ref (a 0)), (1, .int (x1)), (2, .int (x2)), (3, .int (x3)), (4, .int (x4))] [] := by
  intro i
  induction i with
  | zero =>
    intro σ x1 x2 x3 x4 h
    cases h
  | succ i ih =>
    intro σ x1 x2 x3 x4 h
    generalize hg : kX8_swaps_3 n i = r3 at ih
    have hr3 := ih
    replace h : kX8_swaps_3_b n r3 σ x1 x2 x3 x4 = some o := by rw [← hg]; exact h
    unfold kX8_swaps_3_b at h
    refine g_iload (pc := 3) C 4 dX8_swaps_3 rfl ?_
    refine g_iload_n (pc := 5) C 3 dX8_swaps_5 rfl rfl ?_
    refine g_icmp_ge (pc := 6) (tgt := 67) C dX8_swaps_6 (by decide) (fun c6 => ?_) (fun c6 => ?_)
    · rw [if_pos c6] at h
      cases h
      exact g_vret (pc := 67) C hr dX8_swaps_67
    · rw [if_neg c6] at h
      refine g_aload_n (pc := 9) C 0 dX8_swaps_9 rfl rfl ?_
      refine gm_get_0_19 (pc := 10) C iX8_swaps_X8 qX8_swaps_F46 dX8_swaps_10 ?_
      refine g_bipush (pc := 13) C (v := (12 : Int32)) dX8_swaps_13 (by decide) ?_
      refine g_iload_n (pc := 15) C 1 dX8_swaps_15 rfl rfl ?_
      refine g_imul (pc := 16) C dX8_swaps_16 ?_
      refine g_iload (pc := 17) C 4 dX8_swaps_17 rfl ?_
      refine g_iadd (pc := 19) C dX8_swaps_19 ?_
      obtain ⟨k20, h⟩ := hv_if_some h
      refine gm_ld_13 (pc := 20) C k20 dX8_swaps_20 ?_
      obtain ⟨y5_21, ey5_21, h⟩ := hv_let_some h
      refine g_lstore (pc := 21) C (lv' := [(5, .long (y5_21)), (0, .ref (a 0)), (1, .int (x1)), (2, .int (x2)), (3, .int (x3)), (4, .int (x4))]) ey5_21 dX8_swaps_21 (Nat.le_of_ble_eq_true rfl) rfl ?_
      refine g_aload_n (pc := 23) C 1 dX8_swaps_23 rfl rfl ?_
      refine gm_get_0_19 (pc := 24) C iX8_swaps_X8 qX8_swaps_F46 dX8_swaps_24 ?_
      refine g_bipush (pc := 27) C (v := (12 : Int32)) dX8_swaps_27 (by decide) ?_
      refine g_iload_n (pc := 29) C 2 dX8_swaps_29 rfl rfl ?_
      refine g_imul (pc := 30) C dX8_swaps_30 ?_
      refine g_iload (pc := 31) C 5 dX8_swaps_31 rfl ?_
      refine g_iadd (pc := 33) C dX8_swaps_33 ?_
      refine g_aload_n (pc := 34) C 1 dX8_swaps_34 rfl rfl ?_
      refine gm_get_0_19 (pc := 35) C iX8_swaps_X8 qX8_swaps_F46 dX8_swaps_35 ?_
      refine g_bipush (pc := 38) C (v := (12 : Int32)) dX8_swaps_38 (by decide) ?_
      refine g_iload_n (pc := 40) C 3 dX8_swaps_40 rfl rfl ?_
      refine g_imul (pc := 41) C dX8_swaps_41 ?_
      refine g_iload (pc := 42) C 5 dX8_swaps_42 rfl ?_
      refine g_iadd (pc := 44) C dX8_swaps_44 ?_
      obtain ⟨k45, h⟩ := hv_if_some h
      refine gm_ld_13 (pc := 45) C k45 dX8_swaps_45 ?_
      obtain ⟨k46, h⟩ := hv_if_some h
      obtain ⟨s46, es46, h⟩ := hv_let_some h
      refine gm_st_13 (pc := 46) C es46 k46 dX8_swaps_46 ?_
      refine g_aload_n (pc := 47) C 1 dX8_swaps_47 rfl rfl ?_
      refine gm_get_0_19 (pc := 48) C iX8_swaps_X8 qX8_swaps_F46 dX8_swaps_48 ?_
      refine g_bipush (pc := 51) C (v := (12 : Int32)) dX8_swaps_51 (by decide) ?_
      refine g_iload_n (pc := 53) C 3 dX8_swaps_53 rfl rfl ?_
      refine g_imul (pc := 54) C dX8_swaps_54 ?_
      refine g_iload (pc := 55) C 5 dX8_swaps_55 rfl ?_
      refine g_iadd (pc := 57) C dX8_swaps_57 ?_
      refine g_lload (pc := 58) C 0 dX8_swaps_58 rfl ?_
      obtain ⟨k60, h⟩ := hv_if_some h
      obtain ⟨s60, es60, h⟩ := hv_let_some h
      refine gm_st_13 (pc := 60) C es60 k60 dX8_swaps_60 ?_
      refine g_iinc (pc := 61) C 5 (v := x4 + 1) (lv' := [(4, .int (x4 + 1)), (5, .long (y5_21)), (0, .ref (a 0)), (1, .int (x1)), (2, .int (x2)), (3, .int (x3))]) dX8_swaps_61 rfl rfl (Nat.le_of_ble_eq_true rfl) rfl ?_
      refine g_goto (pc := 64) C (tgt := 3) dX8_swaps_64 (by decide) ?_
      exact g_lv [2, 3, 4, 5, 0] rfl (hr3 s60 (x1) (x2) (x3) (x4 + 1) h)
set_option maxHeartbeats 4000000 in
set_option maxRecDepth 20000 in
theorem vX8_swaps {n : Nat} {σ : hv_St} {p0 : Int32} {p1 : Int32} {p2 : Int32} {o : hv_St} (h : mX8_swaps n σ p0 p1 p2 = some o) : hv_M l yX8_swaps wsX8_swaps rmX8_swaps D (hv_tys cy) 23 a (hv_ME a cy) [.ref (a 0), .int (p0), .int (p1), .int (p2)] σ none o := by
  refine hv_enter (own := RX8) (cc := cX8_swaps) (maxL := 7) (ret := none) (by decide) rfl rfl (Nat.le_of_ble_eq_true rfl) ?_
  intro p e s m args below meth c C hr
  unfold mX8_swaps at h
  refine g_lv [0, 1, 2, 3] (lv' := [(0, .ref (a 0)), (1, .int (p0)), (2, .int (p1)), (3, .int (p2))]) rfl ?_
  refine g_iconst (pc := 0) C (v := (0 : Int32)) dX8_swaps_0 (by decide) ?_
  refine g_istore (pc := 1) C (lv' := [(4, .int ((0 : Int32))), (0, .ref (a 0)), (1, .int (p0)), (2, .int (p1)), (3, .int (p2))]) rfl dX8_swaps_1 (Nat.le_of_ble_eq_true rfl) rfl ?_
  exact g_lv [1, 2, 3, 4, 0] rfl (bX8_swaps_3 C hr n σ (p0) (p1) (p2) ((0 : Int32)) h)
abbrev rmX8_determinant : Room := { frames := 1, cells := 0, slots := 0, locals := 26 }
set_option maxRecDepth 20000 in
theorem qX8_determinant_F46 : Cond.fieldLink RX8 46 "PinFrameModel" "cell" "[J" ∈ wsX8_determinant := by decide +kernel
set_option maxRecDepth 20000 in
theorem iX8_determinant_X8 : ∀ w ∈ u_ws RX8 TX8 35, w ∈ wsX8_determinant := by decide +kernel
set_option maxHeartbeats 4000000 in
set_option maxRecDepth 20000 in
theorem bX8_determinant_93 (C : hv_C p s m args meth c cX8_determinant 10 wsX8_determinant RX8 D (hv_tys cy)) (hr : meth.sig.returnType = (some .long)) {n : Nat} {o : Int64 × hv_St} {r8 : hv_St → Int32 → Int64 → Int64 → Int32 → Option (Int64 × hv_St)} {r81 : hv_St → Int32 → Int64 → Int64 → Int32 → Int32 → Option (Int64 × hv_St)} (hr8 : ∀ (σ : hv_St) (x1 : Int32) (x2 : Int64) (x4 : Int64) (x6 : Int32), r8 σ x1 x2 x4 x6 = some o → hv_G p l e (headSpec wsX8_determinant rmX8_determinant).room s m args below meth c 10 D 23 a (hv_ME a cy) 0 0 (hv_MQ D 23 a (hv_ME a cy) below args s (some (.long o.1)) o.2) σ 8 [(0, .ref (a 0)), (1, .int (x1)), (2, .long (x2)), (4, .long (x4)), (6, .int (x6))] []) (hr81 : ∀ (σ : hv_St) (x1 : Int32) (x2 : Int64) (x4 : Int64) (x6 : Int32) (x8 : Int32), r81 σ x1 x2 x4 x6 x8 = some o → hv_G p l e (headSpec wsX8_determinant rmX8_determinant).room s m args below meth c 10 D 23 a (hv_ME a cy) 0 0 (hv_MQ D 23 a (hv_ME a cy) below args s (some (.long o.1)) o.2) σ 81 [(0, .ref (a 0)), (1, .int (x1)), (2, .long (x2)), (4, .long (x4)), (6, .int (x6)), (8, .int (x8))] []) : ∀ (i : Nat) (σ : hv_St) (x1 : Int32) (x2 : Int64) (x4 : Int64) (x6 : Int32) (x8 : Int32) (x9 : Int32), kX8_determinant_93 n r8 r81 i σ x1 x2 x4 x6 x8 x9 = some o → hv_G p l e (headSpec wsX8_determinant rmX8_determinant).room s m args below meth c 10 D 23 a (hv_ME a cy) 0 0 (hv_MQ D 23 a (hv_ME a cy) below args s (some (.long o.1)) o.2) σ 93 [(0, .ref (a 0)), (1, .int (x1)), (2, .long (x2)), (4, .long (x4)), (6, .int (x6)), (8, .int (x8)), (9, .int (x9))] [] := by
  intro i
  induction i with
  | zero =>
    intro σ x1 x2 x4 x6 x8 x9 h
    cases h
  | succ i ih =>
    intro σ x1 x2 x4 x6 x8 x9 h
    generalize hg : kX8_determinant_93 n r8 r81 i = r93 at ih
    have hr93 := ih
    replace h : kX8_determinant_93_b n r8 r81 r93 σ x1 x2 x4 x6 x8 x9 = some o := by rw [← hg]; exact h
    unfold kX8_determinant_93_b at h
    refine g_iload (pc := 93) C 6 dX8_determinant_93 rfl ?_
    refine g_iload_n (pc := 95) C 1 dX8_determinant_95 rfl rfl ?_
    refine g_icmp_ge (pc := 96) (tgt := 176) C dX8_determinant_96 (by decide) (fun c96 => ?_) (fun c96 => ?_)
    · rw [if_pos c96] at h
      refine g_iinc (pc := 176) C 5 (v := x8 + 1) (lv' := [(8, .int (x8 + 1)), (0, .ref (a 0)), (1, .int (x1)), (2, .long (x2)), (4, .long (x4)), (6, .int (x6)), (9, .int (x9))]) dX8_determinant_176 rfl rfl (Nat.le_of_ble_eq_true rfl) rfl ?_
      refine g_goto (pc := 179) C (tgt := 81) dX8_determinant_179 (by decide) ?_
      exact g_lv [1, 2, 3, 4, 5, 0] rfl (hr81 σ (x1) (x2) (x4) (x6) (x8 + 1) h)
    · rw [if_neg c96] at h
      refine g_aload_n (pc := 99) C 0 dX8_determinant_99 rfl rfl ?_
      refine gm_get_0_19 (pc := 100) C iX8_determinant_X8 qX8_determinant_F46 dX8_determinant_100 ?_
      refine g_bipush (pc := 103) C (v := (12 : Int32)) dX8_determinant_103 (by decide) ?_
      refine g_iload (pc := 105) C 5 dX8_determinant_105 rfl ?_
      refine g_imul (pc := 107) C dX8_determinant_107 ?_
      refine g_iload (pc := 108) C 6 dX8_determinant_108 rfl ?_
      refine g_iadd (pc := 110) C dX8_determinant_110 ?_
      refine g_aload_n (pc := 111) C 0 dX8_determinant_111 rfl rfl ?_
      refine gm_get_0_19 (pc := 112) C iX8_determinant_X8 qX8_determinant_F46 dX8_determinant_112 ?_
      refine g_bipush (pc := 115) C (v := (12 : Int32)) dX8_determinant_115 (by decide) ?_
      refine g_iload (pc := 117) C 5 dX8_determinant_117 rfl ?_
      refine g_imul (pc := 119) C dX8_determinant_119 ?_
      refine g_iload (pc := 120) C 6 dX8_determinant_120 rfl ?_
      refine g_iadd (pc := 122) C dX8_determinant_122 ?_
      obtain ⟨k123, h⟩ := hv_if_some h
      refine gm_ld_13 (pc := 123) C k123 dX8_determinant_123 ?_
      refine g_aload_n (pc := 124) C 0 dX8_determinant_124 rfl rfl ?_
      refine gm_get_0_19 (pc := 125) C iX8_determinant_X8 qX8_determinant_F46 dX8_determinant_125 ?_
      refine g_bipush (pc := 128) C (v := (12 : Int32)) dX8_determinant_128 (by decide) ?_
      refine g_iload (pc := 130) C 4 dX8_determinant_130 rfl ?_
      refine g_imul (pc := 132) C dX8_determinant_132 ?_
      refine g_iload (pc := 133) C 4 dX8_determinant_133 rfl ?_
      refine g_iadd (pc := 135) C dX8_determinant_135 ?_
      obtain ⟨k136, h⟩ := hv_if_some h
      refine gm_ld_13 (pc := 136) C k136 dX8_determinant_136 ?_
      refine g_lmul (pc := 137) C dX8_determinant_137 ?_
      refine g_aload_n (pc := 138) C 0 dX8_determinant_138 rfl rfl ?_
      refine gm_get_0_19 (pc := 139) C iX8_determinant_X8 qX8_determinant_F46 dX8_determinant_139 ?_
      refine g_bipush (pc := 142) C (v := (12 : Int32)) dX8_determinant_142 (by decide) ?_
      refine g_iload (pc := 144) C 5 dX8_determinant_144 rfl ?_
      refine g_imul (pc := 146) C dX8_determinant_146 ?_
      refine g_iload (pc := 147) C 4 dX8_determinant_147 rfl ?_
      refine g_iadd (pc := 149) C dX8_determinant_149 ?_
      obtain ⟨k150, h⟩ := hv_if_some h
      refine gm_ld_13 (pc := 150) C k150 dX8_determinant_150 ?_
      refine g_aload_n (pc := 151) C 0 dX8_determinant_151 rfl rfl ?_
      refine gm_get_0_19 (pc := 152) C iX8_determinant_X8 qX8_determinant_F46 dX8_determinant_152 ?_
      refine g_bipush (pc := 155) C (v := (12 : Int32)) dX8_determinant_155 (by decide) ?_
      refine g_iload (pc := 157) C 4 dX8_determinant_157 rfl ?_
      refine g_imul (pc := 159) C dX8_determinant_159 ?_
      refine g_iload (pc := 160) C 6 dX8_determinant_160 rfl ?_
      refine g_iadd (pc := 162) C dX8_determinant_162 ?_
      obtain ⟨k163, h⟩ := hv_if_some h
      refine gm_ld_13 (pc := 163) C k163 dX8_determinant_163 ?_
      refine g_lmul (pc := 164) C dX8_determinant_164 ?_
      refine g_lsub (pc := 165) C dX8_determinant_165 ?_
      refine g_lload (pc := 166) C 3 dX8_determinant_166 rfl ?_
      obtain ⟨k168, h⟩ := hv_if_some h
      refine g_ldiv (pc := 168) C dX8_determinant_168 (of_decide_eq_true k168) ?_
      obtain ⟨k169, h⟩ := hv_if_some h
      obtain ⟨s169, es169, h⟩ := hv_let_some h
      refine gm_st_13 (pc := 169) C es169 k169 dX8_determinant_169 ?_
      refine g_iinc (pc := 170) C 6 (v := x9 + 1) (lv' := [(9, .int (x9 + 1)), (0, .ref (a 0)), (1, .int (x1)), (2, .long (x2)), (4, .long (x4)), (6, .int (x6)), (8, .int (x8))]) dX8_determinant_170 rfl rfl (Nat.le_of_ble_eq_true rfl) rfl ?_
      refine g_goto (pc := 173) C (tgt := 93) dX8_determinant_173 (by decide) ?_
      exact g_lv [1, 2, 3, 4, 5, 6, 0] rfl (hr93 s169 (x1) (x2) (x4) (x6) (x8) (x9 + 1) h)
set_option maxHeartbeats 4000000 in
set_option maxRecDepth 20000 in
theorem bX8_determinant_81 (C : hv_C p s m args meth c cX8_determinant 10 wsX8_determinant RX8 D (hv_tys cy)) (hr : meth.sig.returnType = (some .long)) {n : Nat} {o : Int64 × hv_St} {r8 : hv_St → Int32 → Int64 → Int64 → Int32 → Option (Int64 × hv_St)} (hr8 : ∀ (σ : hv_St) (x1 : Int32) (x2 : Int64) (x4 : Int64) (x6 : Int32), r8 σ x1 x2 x4 x6 = some o → hv_G p l e (headSpec wsX8_determinant rmX8_determinant).room s m args below meth c 10 D 23 a (hv_ME a cy) 0 0 (hv_MQ D 23 a (hv_ME a cy) below args s (some (.long o.1)) o.2) σ 8 [(0, .ref (a 0)), (1, .int (x1)), (2, .long (x2)), (4, .long (x4)), (6, .int (x6))] []) : ∀ (i : Nat) (σ : hv_St) (x1 : Int32) (x2 : Int64) (x4 : Int64) (x6 : Int32) (x8 : Int32), kX8_determinant_81 n r8 i σ x1 x2 x4 x6 x8 = some o → hv_G p l e (headSpec wsX8_determinant rmX8_determinant).room s m args below meth c 10 D 23 a (hv_ME a cy) 0 0 (hv_MQ D 23 a (hv_ME a cy) below args s (some (.long o.1)) o.2) σ 81 [(0, .ref (a 0)), (1, .int (x1)), (2, .long (x2)), (4, .long (x4)), (6, .int (x6)), (8, .int (x8))] [] := by
  intro i
  induction i with
  | zero =>
    intro σ x1 x2 x4 x6 x8 h
    cases h
  | succ i ih =>
    intro σ x1 x2 x4 x6 x8 h
    generalize hg : kX8_determinant_81 n r8 i = r81 at ih
    have hr81 := ih
    replace h : kX8_determinant_81_b n r8 r81 σ x1 x2 x4 x6 x8 = some o := by rw [← hg]; exact h
    unfold kX8_determinant_81_b at h
    refine g_iload (pc := 81) C 5 dX8_determinant_81 rfl ?_
    refine g_iload_n (pc := 83) C 1 dX8_determinant_83 rfl rfl ?_
    refine g_icmp_ge (pc := 84) (tgt := 182) C dX8_determinant_84 (by decide) (fun c84 => ?_) (fun c84 => ?_)
    · rw [if_pos c84] at h
      refine g_aload_n (pc := 182) C 0 dX8_determinant_182 rfl rfl ?_
      refine gm_get_0_19 (pc := 183) C iX8_determinant_X8 qX8_determinant_F46 dX8_determinant_183 ?_
      refine g_bipush (pc := 186) C (v := (12 : Int32)) dX8_determinant_186 (by decide) ?_
      refine g_iload (pc := 188) C 4 dX8_determinant_188 rfl ?_
      refine g_imul (pc := 190) C dX8_determinant_190 ?_
      refine g_iload (pc := 191) C 4 dX8_determinant_191 rfl ?_
      refine g_iadd (pc := 193) C dX8_determinant_193 ?_
      obtain ⟨k194, h⟩ := hv_if_some h
      refine gm_ld_13 (pc := 194) C k194 dX8_determinant_194 ?_
      obtain ⟨y4_195, ey4_195, h⟩ := hv_let_some h
      refine g_lstore (pc := 195) C (lv' := [(4, .long (y4_195)), (0, .ref (a 0)), (1, .int (x1)), (2, .long (x2)), (6, .int (x6)), (8, .int (x8))]) ey4_195 dX8_determinant_195 (Nat.le_of_ble_eq_true rfl) rfl ?_
      refine g_iinc (pc := 197) C 4 (v := x6 + 1) (lv' := [(6, .int (x6 + 1)), (4, .long (y4_195)), (0, .ref (a 0)), (1, .int (x1)), (2, .long (x2)), (8, .int (x8))]) dX8_determinant_197 rfl rfl (Nat.le_of_ble_eq_true rfl) rfl ?_
      refine g_goto (pc := 200) C (tgt := 8) dX8_determinant_200 (by decide) ?_
      exact g_lv [2, 3, 4, 1, 0] rfl (hr8 σ (x1) (x2) (y4_195) (x6 + 1) h)
    · rw [if_neg c84] at h
      refine g_iload (pc := 87) C 4 dX8_determinant_87 rfl ?_
      refine g_iconst (pc := 89) C (v := (1 : Int32)) dX8_determinant_89 (by decide) ?_
      refine g_iadd (pc := 90) C dX8_determinant_90 ?_
      obtain ⟨y9_91, ey9_91, h⟩ := hv_let_some h
      refine g_istore (pc := 91) C (lv' := [(9, .int (y9_91)), (0, .ref (a 0)), (1, .int (x1)), (2, .long (x2)), (4, .long (x4)), (6, .int (x6)), (8, .int (x8))]) ey9_91 dX8_determinant_91 (Nat.le_of_ble_eq_true rfl) rfl ?_
      exact g_lv [1, 2, 3, 4, 5, 6, 0] rfl (bX8_determinant_93 C hr hr8 hr81 n σ (x1) (x2) (x4) (x6) (x8) (y9_91) h)
set_option maxHeartbeats 4000000 in
set_option maxRecDepth 20000 in
theorem bX8_determinant_75 (C : hv_C p s m args meth c cX8_determinant 10 wsX8_determinant RX8 D (hv_tys cy)) (hr : meth.sig.returnType = (some .long)) {n : Nat} {o : Int64 × hv_St} {r8 : hv_St → Int32 → Int64 → Int64 → Int32 → Option (Int64 × hv_St)} (hr8 : ∀ (σ : hv_St) (x1 : Int32) (x2 : Int64) (x4 : Int64) (x6 : Int32), r8 σ x1 x2 x4 x6 = some o → hv_G p l e (headSpec wsX8_determinant rmX8_determinant).room s m args below meth c 10 D 23 a (hv_ME a cy) 0 0 (hv_MQ D 23 a (hv_ME a cy) below args s (some (.long o.1)) o.2) σ 8 [(0, .ref (a 0)), (1, .int (x1)), (2, .long (x2)), (4, .long (x4)), (6, .int (x6))] []) : ∀ (σ : hv_St) (x1 : Int32) (x2 : Int64) (x4 : Int64) (x6 : Int32), kX8_determinant_75 n r8 σ x1 x2 x4 x6 = some o → hv_G p l e (headSpec wsX8_determinant rmX8_determinant).room s m args below meth c 10 D 23 a (hv_ME a cy) 0 0 (hv_MQ D 23 a (hv_ME a cy) below args s (some (.long o.1)) o.2) σ 75 [(0, .ref (a 0)), (1, .int (x1)), (2, .long (x2)), (4, .long (x4)), (6, .int (x6))] [] := by
  intro σ x1 x2 x4 x6 h
  unfold kX8_determinant_75 at h
  refine g_iload (pc := 75) C 4 dX8_determinant_75 rfl ?_
  refine g_iconst (pc := 77) C (v := (1 : Int32)) dX8_determinant_77 (by decide) ?_
  refine g_iadd (pc := 78) C dX8_determinant_78 ?_
  obtain ⟨y8_79, ey8_79, h⟩ := hv_let_some h
  refine g_istore (pc := 79) C (lv' := [(8, .int (y8_79)), (0, .ref (a 0)), (1, .int (x1)), (2, .long (x2)), (4, .long (x4)), (6, .int (x6))]) ey8_79 dX8_determinant_79 (Nat.le_of_ble_eq_true rfl) rfl ?_
  exact g_lv [1, 2, 3, 4, 5, 0] rfl (bX8_determinant_81 C hr hr8 n σ (x1) (x2) (x4) (x6) (y8_79) h)
set_option maxHeartbeats 4000000 in
set_option maxRecDepth 20000 in
theorem bX8_determinant_48 (C : hv_C p s m args meth c cX8_determinant 10 wsX8_determinant RX8 D (hv_tys cy)) (hr : meth.sig.returnType = (some .long)) {n : Nat} {o : Int64 × hv_St} {r8 : hv_St → Int32 → Int64 → Int64 → Int32 → Option (Int64 × hv_St)} (hr8 : ∀ (σ : hv_St) (x1 : Int32) (x2 : Int64) (x4 : Int64) (x6 : Int32), r8 σ x1 x2 x4 x6 = some o → hv_G p l e (headSpec wsX8_determinant rmX8_determinant).room s m args below meth c 10 D 23 a (hv_ME a cy) 0 0 (hv_MQ D 23 a (hv_ME a cy) below args s (some (.long o.1)) o.2) σ 8 [(0, .ref (a 0)), (1, .int (x1)), (2, .long (x2)), (4, .long (x4)), (6, .int (x6))] []) : ∀ (σ : hv_St) (x1 : Int32) (x2 : Int64) (x4 : Int64) (x6 : Int32) (x7 : Int32), kX8_determinant_48 n r8 σ x1 x2 x4 x6 x7 = some o → hv_G p l e (headSpec wsX8_determinant rmX8_determinant).room s m args below meth c 10 D 23 a (hv_ME a cy) 0 0 (hv_MQ D 23 a (hv_ME a cy) below args s (some (.long o.1)) o.2) σ 48 [(0, .ref (a 0)), (1, .int (x1)), (2, .long (x2)), (4, .long (x4)), (6, .int (x6)), (7, .int (x7))] [] := by
  intro σ x1 x2 x4 x6 x7 h
  unfold kX8_determinant_48 at h
  refine g_iload (pc := 48) C 5 dX8_determinant_48 rfl ?_
  refine g_iload_n (pc := 50) C 1 dX8_determinant_50 rfl rfl ?_
  refine g_icmp_ne (pc := 51) (tgt := 56) C dX8_determinant_51 (by decide) (fun c51 => ?_) (fun c51 => ?_)
  · rw [if_neg c51] at h
    refine g_iload (pc := 56) C 5 dX8_determinant_56 rfl ?_
    refine g_iload (pc := 58) C 4 dX8_determinant_58 rfl ?_
    refine g_icmp_eq (pc := 60) (tgt := 75) C dX8_determinant_60 (by decide) (fun c60 => ?_) (fun c60 => ?_)
    · rw [if_pos c60] at h
      exact g_lv [0, 1, 2, 3, 4] rfl (bX8_determinant_75 C hr hr8 σ (x1) (x2) (x4) (x6) h)
    · rw [if_neg c60] at h
      refine g_aload_n (pc := 63) C 0 dX8_determinant_63 rfl rfl ?_
      refine g_iload (pc := 64) C 5 dX8_determinant_64 rfl ?_
      refine g_iload (pc := 66) C 4 dX8_determinant_66 rfl ?_
      refine g_iload_n (pc := 68) C 1 dX8_determinant_68 rfl rfl ?_
      obtain ⟨s69, hc69, h⟩ := hv_bd_some h
      refine g_callV (pc := 69) (σ1 := s69) (v := none) (As := [.int (x7), .int (x6), .int (x1)]) (rest := []) C 0 (vX8_swaps hc69) (cwV 3 C.1.2.2.2.2 gX8_determinant_X8_swaps rfl rfl rfl (by decide +kernel) ⟨Nat.le_of_ble_eq_true rfl, Nat.le_of_ble_eq_true rfl⟩) (Nat.le_of_ble_eq_true rfl) rfl rfl rfl rfl (Nat.le_of_ble_eq_true rfl) dX8_determinant_69 ⟨Nat.zero_le _, Nat.zero_le _⟩ ?_
      refine g_st (st' := []) rfl ?_
      refine g_lload_n (pc := 72) C 2 dX8_determinant_72 rfl rfl ?_
      refine g_lneg (pc := 73) C dX8_determinant_73 ?_
      obtain ⟨y2_74, ey2_74, h⟩ := hv_let_some h
      refine g_lstore_n (pc := 74) C (lv' := [(2, .long (y2_74)), (0, .ref (a 0)), (1, .int (x1)), (4, .long (x4)), (6, .int (x6)), (7, .int (x7))]) ey2_74 dX8_determinant_74 rfl (Nat.le_of_ble_eq_true rfl) rfl ?_
      exact g_lv [1, 2, 0, 3, 4] rfl (bX8_determinant_75 C hr hr8 s69 (x1) (y2_74) (x4) (x6) h)
  · rw [if_pos c51] at h
    refine g_lconst (pc := 54) C (v := (0 : Int64)) dX8_determinant_54 (by decide) ?_
    cases h
    exact g_lret (pc := 55) C hr dX8_determinant_55
set_option maxHeartbeats 4000000 in
set_option maxRecDepth 20000 in
theorem bX8_determinant_18 (C : hv_C p s m args meth c cX8_determinant 10 wsX8_determinant RX8 D (hv_tys cy)) (hr : meth.sig.returnType = (some .long)) {n : Nat} {o : Int64 × hv_St} {r8 : hv_St → Int32 → Int64 → Int64 → Int32 → Option (Int64 × hv_St)} (hr8 : ∀ (σ : hv_St) (x1 : Int32) (x2 : Int64) (x4 : Int64) (x6 : Int32), r8 σ x1 x2 x4 x6 = some o → hv_G p l e (headSpec wsX8_determinant rmX8_determinant).room s m args below meth c 10 D 23 a (hv_ME a cy) 0 0 (hv_MQ D 23 a (hv_ME a cy) below args s (some (.long o.1)) o.2) σ 8 [(0, .ref (a 0)), (1, .int (x1)), (2, .long (x2)), (4, .long (x4)), (6, .int (x6))] []) : ∀ (i : Nat) (σ : hv_St) (x1 : Int32) (x2 : Int64) (x4 : Int64) (x6 : Int32) (x7 : Int32), kX8_determinant_18 n r8 i σ x1 x2 x4 x6 x7 = some o → hv_G p l e (headSpec wsX8_determinant rmX8_determinant).room s m args below meth c 10 D 23 a (hv_ME a cy) 0 0 (hv_MQ D 23 a (hv_ME a cy) below args s (some (.long o.1)) o.2) σ 18 [(0, .ref (a 0)), (1, .int (x1)), (2, .long (x2)), (4, .long (x4)), (6, .int (x6)), (7, .int (x7))] [] := by
  intro i
  induction i with
  | zero =>
    intro σ x1 x2 x4 x6 x7 h
    cases h
  | succ i ih =>
    intro σ x1 x2 x4 x6 x7 h
    generalize hg : kX8_determinant_18 n r8 i = r18 at ih
    have hr18 := ih
    replace h : kX8_determinant_18_b n r8 r18 σ x1 x2 x4 x6 x7 = some o := by rw [← hg]; exact h
    unfold kX8_determinant_18_b at h
    refine g_iload (pc := 18) C 5 dX8_determinant_18 rfl ?_
    refine g_iload_n (pc := 20) C 1 dX8_determinant_20 rfl rfl ?_
    refine g_icmp_ge (pc := 21) (tgt := 48) C dX8_determinant_21 (by decide) (fun c21 => ?_) (fun c21 => ?_)
    · rw [if_pos c21] at h
      exact g_lv [0, 1, 2, 3, 4, 5] rfl (bX8_determinant_48 C hr hr8 σ (x1) (x2) (x4) (x6) (x7) h)
    · rw [if_neg c21] at h
      refine g_aload_n (pc := 24) C 0 dX8_determinant_24 rfl rfl ?_
      refine gm_get_0_19 (pc := 25) C iX8_determinant_X8 qX8_determinant_F46 dX8_determinant_25 ?_
      refine g_bipush (pc := 28) C (v := (12 : Int32)) dX8_determinant_28 (by decide) ?_
      refine g_iload (pc := 30) C 5 dX8_determinant_30 rfl ?_
      refine g_imul (pc := 32) C dX8_determinant_32 ?_
      refine g_iload (pc := 33) C 4 dX8_determinant_33 rfl ?_
      refine g_iadd (pc := 35) C dX8_determinant_35 ?_
      obtain ⟨k36, h⟩ := hv_if_some h
      refine gm_ld_13 (pc := 36) C k36 dX8_determinant_36 ?_
      refine g_lconst (pc := 37) C (v := (0 : Int64)) dX8_determinant_37 (by decide) ?_
      refine g_lcmp (pc := 38) C dX8_determinant_38 ?_
      refine g_if_ne (pc := 39) (tgt := 48) C dX8_determinant_39 (by decide) (fun c39 => ?_) (fun c39 => ?_)
      · rw [if_neg c39] at h
        exact g_lv [0, 1, 2, 3, 4, 5] rfl (bX8_determinant_48 C hr hr8 σ (x1) (x2) (x4) (x6) (x7) h)
      · rw [if_pos c39] at h
        refine g_iinc (pc := 42) C 5 (v := x7 + 1) (lv' := [(7, .int (x7 + 1)), (0, .ref (a 0)), (1, .int (x1)), (2, .long (x2)), (4, .long (x4)), (6, .int (x6))]) dX8_determinant_42 rfl rfl (Nat.le_of_ble_eq_true rfl) rfl ?_
        refine g_goto (pc := 45) C (tgt := 18) dX8_determinant_45 (by decide) ?_
        exact g_lv [1, 2, 3, 4, 5, 0] rfl (hr18 σ (x1) (x2) (x4) (x6) (x7 + 1) h)
set_option maxHeartbeats 4000000 in
set_option maxRecDepth 20000 in
theorem bX8_determinant_8 (C : hv_C p s m args meth c cX8_determinant 10 wsX8_determinant RX8 D (hv_tys cy)) (hr : meth.sig.returnType = (some .long)) {n : Nat} {o : Int64 × hv_St} : ∀ (i : Nat) (σ : hv_St) (x1 : Int32) (x2 : Int64) (x4 : Int64) (x6 : Int32), kX8_determinant_8 n i σ x1 x2 x4 x6 = some o → hv_G p l e (headSpec wsX8_determinant rmX8_determinant).room s m args below meth c 10 D 23 a (hv_ME a cy) 0 0 (hv_MQ D 23 a (hv_ME a cy) below args s (some (.long o.1)) o.2) σ 8 [(0, .ref (a 0)), (1, .int (x1)), (2, .long (x2)), (4, .long (x4)), (6, .int (x6))] [] := by
  intro i
  induction i with
  | zero =>
    intro σ x1 x2 x4 x6 h
    cases h
  | succ i ih =>
    intro σ x1 x2 x4 x6 h
    generalize hg : kX8_determinant_8 n i = r8 at ih
    have hr8 := ih
    replace h : kX8_determinant_8_b n r8 σ x1 x2 x4 x6 = some o := by rw [← hg]; exact h
    unfold kX8_determinant_8_b at h
    refine g_iload (pc := 8) C 4 dX8_determinant_8 rfl ?_
    refine g_iload_n (pc := 10) C 1 dX8_determinant_10 rfl rfl ?_
    refine g_icmp_ge (pc := 11) (tgt := 203) C dX8_determinant_11 (by decide) (fun c11 => ?_) (fun c11 => ?_)
    · rw [if_pos c11] at h
      refine g_lload_n (pc := 203) C 2 dX8_determinant_203 rfl rfl ?_
      refine g_iload_n (pc := 204) C 1 dX8_determinant_204 rfl rfl ?_
      refine g_if_ne (pc := 205) (tgt := 212) C dX8_determinant_205 (by decide) (fun c205 => ?_) (fun c205 => ?_)
      · rw [if_neg c205] at h
        refine g_aload_n (pc := 212) C 0 dX8_determinant_212 rfl rfl ?_
        refine gm_get_0_19 (pc := 213) C iX8_determinant_X8 qX8_determinant_F46 dX8_determinant_213 ?_
        refine g_bipush (pc := 216) C (v := (12 : Int32)) dX8_determinant_216 (by decide) ?_
        refine g_iload_n (pc := 218) C 1 dX8_determinant_218 rfl rfl ?_
        refine g_iconst (pc := 219) C (v := (1 : Int32)) dX8_determinant_219 (by decide) ?_
        refine g_isub (pc := 220) C dX8_determinant_220 ?_
        refine g_imul (pc := 221) C dX8_determinant_221 ?_
        refine g_iload_n (pc := 222) C 1 dX8_determinant_222 rfl rfl ?_
        refine g_iadd (pc := 223) C dX8_determinant_223 ?_
        refine g_iconst (pc := 224) C (v := (1 : Int32)) dX8_determinant_224 (by decide) ?_
        refine g_isub (pc := 225) C dX8_determinant_225 ?_
        obtain ⟨k226, h⟩ := hv_if_some h
        refine gm_ld_13 (pc := 226) C k226 dX8_determinant_226 ?_
        refine g_lmul (pc := 227) C dX8_determinant_227 ?_
        cases h
        exact g_lret (pc := 228) C hr dX8_determinant_228
      · rw [if_pos c205] at h
        refine g_lconst (pc := 208) C (v := (1 : Int64)) dX8_determinant_208 (by decide) ?_
        refine g_goto (pc := 209) C (tgt := 227) dX8_determinant_209 (by decide) ?_
        refine g_lmul (pc := 227) C dX8_determinant_227 ?_
        cases h
        exact g_lret (pc := 228) C hr dX8_determinant_228
    · rw [if_neg c11] at h
      refine g_iload (pc := 14) C 4 dX8_determinant_14 rfl ?_
      refine g_istore (pc := 16) C (lv' := [(7, .int (x6)), (0, .ref (a 0)), (1, .int (x1)), (2, .long (x2)), (4, .long (x4)), (6, .int (x6))]) rfl dX8_determinant_16 (Nat.le_of_ble_eq_true rfl) rfl ?_
      exact g_lv [1, 2, 3, 4, 5, 0] rfl (bX8_determinant_18 C hr hr8 n σ (x1) (x2) (x4) (x6) (x6) h)
set_option maxHeartbeats 4000000 in
set_option maxRecDepth 20000 in
theorem vX8_determinant {n : Nat} {σ : hv_St} {p0 : Int32} {o : Int64 × hv_St} (h : mX8_determinant n σ p0 = some o) : hv_M l yX8_determinant wsX8_determinant rmX8_determinant D (hv_tys cy) 23 a (hv_ME a cy) [.ref (a 0), .int (p0)] σ (some (.long o.1)) o.2 := by
  refine hv_enter (own := RX8) (cc := cX8_determinant) (maxL := 10) (ret := (some .long)) (by decide) rfl rfl (Nat.le_of_ble_eq_true rfl) ?_
  intro p e s m args below meth c C hr
  unfold mX8_determinant at h
  refine g_lv [0, 1] (lv' := [(0, .ref (a 0)), (1, .int (p0))]) rfl ?_
  refine g_lconst (pc := 0) C (v := (1 : Int64)) dX8_determinant_0 (by decide) ?_
  refine g_lstore_n (pc := 1) C (lv' := [(2, .long ((1 : Int64))), (0, .ref (a 0)), (1, .int (p0))]) rfl dX8_determinant_1 rfl (Nat.le_of_ble_eq_true rfl) rfl ?_
  refine g_lconst (pc := 2) C (v := (1 : Int64)) dX8_determinant_2 (by decide) ?_
  refine g_lstore (pc := 3) C (lv' := [(4, .long ((1 : Int64))), (2, .long ((1 : Int64))), (0, .ref (a 0)), (1, .int (p0))]) rfl dX8_determinant_3 (Nat.le_of_ble_eq_true rfl) rfl ?_
  refine g_iconst (pc := 5) C (v := (0 : Int32)) dX8_determinant_5 (by decide) ?_
  refine g_istore (pc := 6) C (lv' := [(6, .int ((0 : Int32))), (4, .long ((1 : Int64))), (2, .long ((1 : Int64))), (0, .ref (a 0)), (1, .int (p0))]) rfl dX8_determinant_6 (Nat.le_of_ble_eq_true rfl) rfl ?_
  exact g_lv [3, 4, 2, 1, 0] rfl (bX8_determinant_8 C hr n σ (p0) ((1 : Int64)) ((1 : Int64)) ((0 : Int32)) h)
abbrev rmX8_common : Room := { frames := 1, cells := 0, slots := 0, locals := 21 }
set_option maxHeartbeats 4000000 in
set_option maxRecDepth 20000 in
theorem bX8_common_12 (C : hv_C p s m args meth c cX8_common 10 wsX8_common RX8 D (hv_tys cy)) (hr : meth.sig.returnType = (some .long)) {n : Nat} {o : Int64 × hv_St} : ∀ (i : Nat) (σ : hv_St) (x4 : Int64) (x6 : Int64), kX8_common_12 n i σ x4 x6 = some o → hv_G p l e (headSpec wsX8_common rmX8_common).room s m args below meth c 10 D 23 a (hv_ME a cy) 0 0 (hv_MQ D 23 a (hv_ME a cy) below args s (some (.long o.1)) o.2) σ 12 [(4, .long (x4)), (6, .long (x6))] [] := by
  intro i
  induction i with
  | zero =>
    intro σ x4 x6 h
    cases h
  | succ i ih =>
    intro σ x4 x6 h
    generalize hg : kX8_common_12 n i = r12 at ih
    have hr12 := ih
    replace h : kX8_common_12_b n r12 σ x4 x6 = some o := by rw [← hg]; exact h
    unfold kX8_common_12_b at h
    refine g_lload (pc := 12) C 1 dX8_common_12 rfl ?_
    refine g_lconst (pc := 14) C (v := (0 : Int64)) dX8_common_14 (by decide) ?_
    refine g_lcmp (pc := 15) C dX8_common_15 ?_
    refine g_if_eq (pc := 16) (tgt := 37) C dX8_common_16 (by decide) (fun c16 => ?_) (fun c16 => ?_)
    · rw [if_pos c16] at h
      refine g_lload (pc := 37) C 0 dX8_common_37 rfl ?_
      cases h
      exact g_lret (pc := 39) C hr dX8_common_39
    · rw [if_neg c16] at h
      refine g_lload (pc := 19) C 0 dX8_common_19 rfl ?_
      refine g_lload (pc := 21) C 1 dX8_common_21 rfl ?_
      obtain ⟨k23, h⟩ := hv_if_some h
      refine g_lrem (pc := 23) C dX8_common_23 (of_decide_eq_true k23) ?_
      obtain ⟨y8_24, ey8_24, h⟩ := hv_let_some h
      refine g_lstore (pc := 24) C (lv' := [(8, .long (y8_24)), (4, .long (x4)), (6, .long (x6))]) ey8_24 dX8_common_24 (Nat.le_of_ble_eq_true rfl) rfl ?_
      refine g_lload (pc := 26) C 2 dX8_common_26 rfl ?_
      refine g_lstore (pc := 28) C (lv' := [(4, .long (x6)), (8, .long (y8_24)), (6, .long (x6))]) rfl dX8_common_28 (Nat.le_of_ble_eq_true rfl) rfl ?_
      refine g_lload (pc := 30) C 1 dX8_common_30 rfl ?_
      refine g_lstore (pc := 32) C (lv' := [(6, .long (y8_24)), (4, .long (x6)), (8, .long (y8_24))]) rfl dX8_common_32 (Nat.le_of_ble_eq_true rfl) rfl ?_
      refine g_goto (pc := 34) C (tgt := 12) dX8_common_34 (by decide) ?_
      exact g_lv [1, 0] rfl (hr12 σ (x6) (y8_24) h)
set_option maxHeartbeats 4000000 in
set_option maxRecDepth 20000 in
theorem vX8_common {n : Nat} {σ : hv_St} {p0 : Int64} {p1 : Int64} {o : Int64 × hv_St} (h : mX8_common n σ p0 p1 = some o) : hv_M l yX8_common wsX8_common rmX8_common D (hv_tys cy) 23 a (hv_ME a cy) [.long (p0), .long (p1)] σ (some (.long o.1)) o.2 := by
  refine hv_enter (own := RX8) (cc := cX8_common) (maxL := 10) (ret := (some .long)) (by decide) rfl rfl (Nat.le_of_ble_eq_true rfl) ?_
  intro p e s m args below meth c C hr
  unfold mX8_common at h
  refine g_lv [0, 1] (lv' := [(0, .long (p0)), (2, .long (p1))]) rfl ?_
  refine g_lload_n (pc := 0) C 0 dX8_common_0 rfl rfl ?_
  obtain ⟨r1, s1, hc1, h⟩ := hv_b2_some h
  refine g_callS (pc := 1) (σ1 := s1) (v := (some (.long (r1)))) (As := [.long (p0)]) (rest := []) C (vX8_abs hc1) (va_cwS 1 C.1.2.2.2.2 gX8_common_X8_abs rfl rfl rfl (by decide +kernel) ⟨Nat.le_of_ble_eq_true rfl, Nat.le_of_ble_eq_true rfl⟩) rfl rfl (Nat.le_of_ble_eq_true rfl) dX8_common_1 ⟨Nat.zero_le _, Nat.zero_le _⟩ ?_
  refine g_st (st' := [.long (r1)]) rfl ?_
  refine g_lstore (pc := 4) C (lv' := [(4, .long (r1)), (0, .long (p0)), (2, .long (p1))]) rfl dX8_common_4 (Nat.le_of_ble_eq_true rfl) rfl ?_
  refine g_lload_n (pc := 6) C 2 dX8_common_6 rfl rfl ?_
  obtain ⟨r7, s7, hc7, h⟩ := hv_b2_some h
  refine g_callS (pc := 7) (σ1 := s7) (v := (some (.long (r7)))) (As := [.long (p1)]) (rest := []) C (vX8_abs hc7) (va_cwS 1 C.1.2.2.2.2 gX8_common_X8_abs rfl rfl rfl (by decide +kernel) ⟨Nat.le_of_ble_eq_true rfl, Nat.le_of_ble_eq_true rfl⟩) rfl rfl (Nat.le_of_ble_eq_true rfl) dX8_common_7 ⟨Nat.zero_le _, Nat.zero_le _⟩ ?_
  refine g_st (st' := [.long (r7)]) rfl ?_
  refine g_lstore (pc := 10) C (lv' := [(6, .long (r7)), (4, .long (r1)), (0, .long (p0)), (2, .long (p1))]) rfl dX8_common_10 (Nat.le_of_ble_eq_true rfl) rfl ?_
  exact g_lv [1, 0] rfl (bX8_common_12 C hr n s7 (r1) (r7) h)
abbrev rmX8_lessens : Room := { frames := 2, cells := 0, slots := 0, locals := 50 }
set_option maxRecDepth 20000 in
theorem qX8_lessens_F130 : Cond.fieldLink RX8 130 "PinFrameModel" "free" "I" ∈ wsX8_lessens := by decide +kernel
set_option maxRecDepth 20000 in
theorem qX8_lessens_F46 : Cond.fieldLink RX8 46 "PinFrameModel" "cell" "[J" ∈ wsX8_lessens := by decide +kernel
set_option maxRecDepth 20000 in
theorem iX8_lessens_X8 : ∀ w ∈ u_ws RX8 TX8 35, w ∈ wsX8_lessens := by decide +kernel
set_option maxHeartbeats 4000000 in
set_option maxRecDepth 20000 in
theorem bX8_lessens_40 (C : hv_C p s m args meth c cX8_lessens 5 wsX8_lessens RX8 D (hv_tys cy)) (hr : meth.sig.returnType = none) {n : Nat} {o : hv_St} : ∀ (i : Nat) (σ : hv_St) (x1 : Int32) (x2 : Int64) (x4 : Int32), kX8_lessens_40 n i σ x1 x2 x4 = some o → hv_G p l e (headSpec wsX8_lessens rmX8_lessens).room s m args below meth c 5 D 23 a (hv_ME a cy) 0 0 (hv_MQ D 23 a (hv_ME a cy) below args s none o) σ 40 [(0, .ref (a 0)), (1, .int (x1)), (2, .long (x2)), (4, .int (x4))] [] := by
  intro i
  induction i with
  | zero =>
    intro σ x1 x2 x4 h
    cases h
  | succ i ih =>
    intro σ x1 x2 x4 h
    generalize hg : kX8_lessens_40 n i = r40 at ih
    have hr40 := ih
    replace h : kX8_lessens_40_b n r40 σ x1 x2 x4 = some o := by rw [← hg]; exact h
    unfold kX8_lessens_40_b at h
    refine g_iload (pc := 40) C 3 dX8_lessens_40 rfl ?_
    refine g_aload_n (pc := 42) C 0 dX8_lessens_42 rfl rfl ?_
    refine gm_get_0_18 (pc := 43) C iX8_lessens_X8 qX8_lessens_F130 dX8_lessens_43 ?_
    refine g_icmp_ge (pc := 46) (tgt := 77) C dX8_lessens_46 (by decide) (fun c46 => ?_) (fun c46 => ?_)
    · rw [if_pos c46] at h
      cases h
      exact g_vret (pc := 77) C hr dX8_lessens_77
    · rw [if_neg c46] at h
      refine g_lload_n (pc := 49) C 2 dX8_lessens_49 rfl rfl ?_
      refine g_lconst (pc := 50) C (v := (1 : Int64)) dX8_lessens_50 (by decide) ?_
      refine g_lcmp (pc := 51) C dX8_lessens_51 ?_
      refine g_if_le (pc := 52) (tgt := 77) C dX8_lessens_52 (by decide) (fun c52 => ?_) (fun c52 => ?_)
      · rw [if_pos c52] at h
        cases h
        exact g_vret (pc := 77) C hr dX8_lessens_77
      · rw [if_neg c52] at h
        refine g_aload_n (pc := 55) C 0 dX8_lessens_55 rfl rfl ?_
        refine gm_get_0_19 (pc := 56) C iX8_lessens_X8 qX8_lessens_F46 dX8_lessens_56 ?_
        refine g_bipush (pc := 59) C (v := (12 : Int32)) dX8_lessens_59 (by decide) ?_
        refine g_iload_n (pc := 61) C 1 dX8_lessens_61 rfl rfl ?_
        refine g_imul (pc := 62) C dX8_lessens_62 ?_
        refine g_iload (pc := 63) C 3 dX8_lessens_63 rfl ?_
        refine g_iadd (pc := 65) C dX8_lessens_65 ?_
        refine g_dup2_11 (pc := 66) C dX8_lessens_66 rfl rfl ?_
        obtain ⟨k67, h⟩ := hv_if_some h
        refine gm_ld_13 (pc := 67) C k67 dX8_lessens_67 ?_
        refine g_lload_n (pc := 68) C 2 dX8_lessens_68 rfl rfl ?_
        obtain ⟨k69, h⟩ := hv_if_some h
        refine g_ldiv (pc := 69) C dX8_lessens_69 (of_decide_eq_true k69) ?_
        obtain ⟨k70, h⟩ := hv_if_some h
        obtain ⟨s70, es70, h⟩ := hv_let_some h
        refine gm_st_13 (pc := 70) C es70 k70 dX8_lessens_70 ?_
        refine g_iinc (pc := 71) C 3 (v := x4 + 1) (lv' := [(4, .int (x4 + 1)), (0, .ref (a 0)), (1, .int (x1)), (2, .long (x2))]) dX8_lessens_71 rfl rfl (Nat.le_of_ble_eq_true rfl) rfl ?_
        refine g_goto (pc := 74) C (tgt := 40) dX8_lessens_74 (by decide) ?_
        exact g_lv [1, 2, 3, 0] rfl (hr40 s70 (x1) (x2) (x4 + 1) h)
set_option maxHeartbeats 4000000 in
set_option maxRecDepth 20000 in
theorem bX8_lessens_5 (C : hv_C p s m args meth c cX8_lessens 5 wsX8_lessens RX8 D (hv_tys cy)) (hr : meth.sig.returnType = none) {n : Nat} {o : hv_St} : ∀ (i : Nat) (σ : hv_St) (x1 : Int32) (x2 : Int64) (x4 : Int32), kX8_lessens_5 n i σ x1 x2 x4 = some o → hv_G p l e (headSpec wsX8_lessens rmX8_lessens).room s m args below meth c 5 D 23 a (hv_ME a cy) 0 0 (hv_MQ D 23 a (hv_ME a cy) below args s none o) σ 5 [(0, .ref (a 0)), (1, .int (x1)), (2, .long (x2)), (4, .int (x4))] [] := by
  intro i
  induction i with
  | zero =>
    intro σ x1 x2 x4 h
    cases h
  | succ i ih =>
    intro σ x1 x2 x4 h
    generalize hg : kX8_lessens_5 n i = r5 at ih
    have hr5 := ih
    replace h : kX8_lessens_5_b n r5 σ x1 x2 x4 = some o := by rw [← hg]; exact h
    unfold kX8_lessens_5_b at h
    refine g_iload (pc := 5) C 3 dX8_lessens_5 rfl ?_
    refine g_aload_n (pc := 7) C 0 dX8_lessens_7 rfl rfl ?_
    refine gm_get_0_18 (pc := 8) C iX8_lessens_X8 qX8_lessens_F130 dX8_lessens_8 ?_
    refine g_icmp_ge (pc := 11) (tgt := 37) C dX8_lessens_11 (by decide) (fun c11 => ?_) (fun c11 => ?_)
    · rw [if_pos c11] at h
      refine g_iconst (pc := 37) C (v := (0 : Int32)) dX8_lessens_37 (by decide) ?_
      refine g_istore (pc := 38) C (lv' := [(4, .int ((0 : Int32))), (0, .ref (a 0)), (1, .int (x1)), (2, .long (x2))]) rfl dX8_lessens_38 (Nat.le_of_ble_eq_true rfl) rfl ?_
      exact g_lv [1, 2, 3, 0] rfl (bX8_lessens_40 C hr n σ (x1) (x2) ((0 : Int32)) h)
    · rw [if_neg c11] at h
      refine g_lload_n (pc := 14) C 2 dX8_lessens_14 rfl rfl ?_
      refine g_aload_n (pc := 15) C 0 dX8_lessens_15 rfl rfl ?_
      refine gm_get_0_19 (pc := 16) C iX8_lessens_X8 qX8_lessens_F46 dX8_lessens_16 ?_
      refine g_bipush (pc := 19) C (v := (12 : Int32)) dX8_lessens_19 (by decide) ?_
      refine g_iload_n (pc := 21) C 1 dX8_lessens_21 rfl rfl ?_
      refine g_imul (pc := 22) C dX8_lessens_22 ?_
      refine g_iload (pc := 23) C 3 dX8_lessens_23 rfl ?_
      refine g_iadd (pc := 25) C dX8_lessens_25 ?_
      obtain ⟨k26, h⟩ := hv_if_some h
      refine gm_ld_13 (pc := 26) C k26 dX8_lessens_26 ?_
      obtain ⟨r27, s27, hc27, h⟩ := hv_b2_some h
      refine g_callS (pc := 27) (σ1 := s27) (v := (some (.long (r27)))) (As := [.long (x2), .long (σ.2 13 ((((12 : Int32)) * (x1)) + (x4)).toNatClampNeg)]) (rest := []) C (vX8_common hc27) (va_cwS 2 C.1.2.2.2.2 gX8_lessens_X8_common rfl rfl rfl (by decide +kernel) ⟨Nat.le_of_ble_eq_true rfl, Nat.le_of_ble_eq_true rfl⟩) rfl rfl (Nat.le_of_ble_eq_true rfl) dX8_lessens_27 ⟨Nat.zero_le _, Nat.zero_le _⟩ ?_
      refine g_st (st' := [.long (r27)]) rfl ?_
      refine g_lstore_n (pc := 30) C (lv' := [(2, .long (r27)), (0, .ref (a 0)), (1, .int (x1)), (4, .int (x4))]) rfl dX8_lessens_30 rfl (Nat.le_of_ble_eq_true rfl) rfl ?_
      refine g_iinc (pc := 31) C 3 (v := x4 + 1) (lv' := [(4, .int (x4 + 1)), (2, .long (r27)), (0, .ref (a 0)), (1, .int (x1))]) dX8_lessens_31 rfl rfl (Nat.le_of_ble_eq_true rfl) rfl ?_
      refine g_goto (pc := 34) C (tgt := 5) dX8_lessens_34 (by decide) ?_
      exact g_lv [2, 3, 1, 0] rfl (hr5 s27 (x1) (r27) (x4 + 1) h)
set_option maxHeartbeats 4000000 in
set_option maxRecDepth 20000 in
theorem vX8_lessens {n : Nat} {σ : hv_St} {p0 : Int32} {o : hv_St} (h : mX8_lessens n σ p0 = some o) : hv_M l yX8_lessens wsX8_lessens rmX8_lessens D (hv_tys cy) 23 a (hv_ME a cy) [.ref (a 0), .int (p0)] σ none o := by
  refine hv_enter (own := RX8) (cc := cX8_lessens) (maxL := 5) (ret := none) (by decide) rfl rfl (Nat.le_of_ble_eq_true rfl) ?_
  intro p e s m args below meth c C hr
  unfold mX8_lessens at h
  refine g_lv [0, 1] (lv' := [(0, .ref (a 0)), (1, .int (p0))]) rfl ?_
  refine g_lconst (pc := 0) C (v := (0 : Int64)) dX8_lessens_0 (by decide) ?_
  refine g_lstore_n (pc := 1) C (lv' := [(2, .long ((0 : Int64))), (0, .ref (a 0)), (1, .int (p0))]) rfl dX8_lessens_1 rfl (Nat.le_of_ble_eq_true rfl) rfl ?_
  refine g_iconst (pc := 2) C (v := (0 : Int32)) dX8_lessens_2 (by decide) ?_
  refine g_istore (pc := 3) C (lv' := [(4, .int ((0 : Int32))), (2, .long ((0 : Int64))), (0, .ref (a 0)), (1, .int (p0))]) rfl dX8_lessens_3 (Nat.le_of_ble_eq_true rfl) rfl ?_
  exact g_lv [2, 3, 1, 0] rfl (bX8_lessens_5 C hr n σ (p0) ((0 : Int64)) ((0 : Int32)) h)
abbrev rmX8_isNew : Room := { frames := 3, cells := 0, slots := 0, locals := 74 }
set_option maxRecDepth 20000 in
theorem qX8_isNew_F130 : Cond.fieldLink RX8 130 "PinFrameModel" "free" "I" ∈ wsX8_isNew := by decide +kernel
set_option maxRecDepth 20000 in
theorem qX8_isNew_F46 : Cond.fieldLink RX8 46 "PinFrameModel" "cell" "[J" ∈ wsX8_isNew := by decide +kernel
set_option maxRecDepth 20000 in
theorem iX8_isNew_X8 : ∀ w ∈ u_ws RX8 TX8 35, w ∈ wsX8_isNew := by decide +kernel
set_option maxHeartbeats 4000000 in
set_option maxRecDepth 20000 in
theorem bX8_isNew_138 (C : hv_C p s m args meth c cX8_isNew 9 wsX8_isNew RX8 D (hv_tys cy)) (hr : meth.sig.returnType = (some .boolean)) {n : Nat} {o : Int32 × hv_St} : ∀ (i : Nat) (σ : hv_St) (x1 : Int32) (x2 : Int32), kX8_isNew_138 n i σ x1 x2 = some o → hv_G p l e (headSpec wsX8_isNew rmX8_isNew).room s m args below meth c 9 D 23 a (hv_ME a cy) 0 0 (hv_MQ D 23 a (hv_ME a cy) below args s (some (.int o.1)) o.2) σ 138 [(0, .ref (a 0)), (1, .int (x1)), (2, .int (x2))] [] := by
  intro i
  induction i with
  | zero =>
    intro σ x1 x2 h
    cases h
  | succ i ih =>
    intro σ x1 x2 h
    generalize hg : kX8_isNew_138 n i = r138 at ih
    have hr138 := ih
    replace h : kX8_isNew_138_b n r138 σ x1 x2 = some o := by rw [← hg]; exact h
    unfold kX8_isNew_138_b at h
    refine g_iload_n (pc := 138) C 2 dX8_isNew_138 rfl rfl ?_
    refine g_aload_n (pc := 139) C 0 dX8_isNew_139 rfl rfl ?_
    refine gm_get_0_18 (pc := 140) C iX8_isNew_X8 qX8_isNew_F130 dX8_isNew_140 ?_
    refine g_icmp_ge (pc := 143) (tgt := 170) C dX8_isNew_143 (by decide) (fun c143 => ?_) (fun c143 => ?_)
    · rw [if_pos c143] at h
      refine g_iconst (pc := 170) C (v := (0 : Int32)) dX8_isNew_170 (by decide) ?_
      cases h
      exact g_zret (pc := 171) (x := (0 : Int32)) C hr (by decide) dX8_isNew_171
    · rw [if_neg c143] at h
      refine g_aload_n (pc := 146) C 0 dX8_isNew_146 rfl rfl ?_
      refine gm_get_0_19 (pc := 147) C iX8_isNew_X8 qX8_isNew_F46 dX8_isNew_147 ?_
      refine g_bipush (pc := 150) C (v := (12 : Int32)) dX8_isNew_150 (by decide) ?_
      refine g_iload_n (pc := 152) C 1 dX8_isNew_152 rfl rfl ?_
      refine g_imul (pc := 153) C dX8_isNew_153 ?_
      refine g_iload_n (pc := 154) C 2 dX8_isNew_154 rfl rfl ?_
      refine g_iadd (pc := 155) C dX8_isNew_155 ?_
      obtain ⟨k156, h⟩ := hv_if_some h
      refine gm_ld_13 (pc := 156) C k156 dX8_isNew_156 ?_
      refine g_lconst (pc := 157) C (v := (0 : Int64)) dX8_isNew_157 (by decide) ?_
      refine g_lcmp (pc := 158) C dX8_isNew_158 ?_
      refine g_if_eq (pc := 159) (tgt := 164) C dX8_isNew_159 (by decide) (fun c159 => ?_) (fun c159 => ?_)
      · rw [if_pos c159] at h
        refine g_iinc (pc := 164) C 2 (v := x2 + 1) (lv' := [(2, .int (x2 + 1)), (0, .ref (a 0)), (1, .int (x1))]) dX8_isNew_164 rfl rfl (Nat.le_of_ble_eq_true rfl) rfl ?_
        refine g_goto (pc := 167) C (tgt := 138) dX8_isNew_167 (by decide) ?_
        exact g_lv [1, 2, 0] rfl (hr138 σ (x1) (x2 + 1) h)
      · rw [if_neg c159] at h
        refine g_iconst (pc := 162) C (v := (1 : Int32)) dX8_isNew_162 (by decide) ?_
        cases h
        exact g_zret (pc := 163) (x := (1 : Int32)) C hr (by decide) dX8_isNew_163
set_option maxHeartbeats 4000000 in
set_option maxRecDepth 20000 in
theorem bX8_isNew_125 (C : hv_C p s m args meth c cX8_isNew 9 wsX8_isNew RX8 D (hv_tys cy)) (hr : meth.sig.returnType = (some .boolean)) {n : Nat} {o : Int32 × hv_St} {r2 : hv_St → Int32 → Int32 → Option (Int32 × hv_St)} (hr2 : ∀ (σ : hv_St) (x1 : Int32) (x2 : Int32), r2 σ x1 x2 = some o → hv_G p l e (headSpec wsX8_isNew rmX8_isNew).room s m args below meth c 9 D 23 a (hv_ME a cy) 0 0 (hv_MQ D 23 a (hv_ME a cy) below args s (some (.int o.1)) o.2) σ 2 [(0, .ref (a 0)), (1, .int (x1)), (2, .int (x2))] []) : ∀ (σ : hv_St) (x1 : Int32) (x2 : Int32), kX8_isNew_125 n r2 σ x1 x2 = some o → hv_G p l e (headSpec wsX8_isNew rmX8_isNew).room s m args below meth c 9 D 23 a (hv_ME a cy) 0 0 (hv_MQ D 23 a (hv_ME a cy) below args s (some (.int o.1)) o.2) σ 125 [(0, .ref (a 0)), (1, .int (x1)), (2, .int (x2))] [] := by
  intro σ x1 x2 h
  unfold kX8_isNew_125 at h
  refine g_aload_n (pc := 125) C 0 dX8_isNew_125 rfl rfl ?_
  refine g_iload_n (pc := 126) C 1 dX8_isNew_126 rfl rfl ?_
  obtain ⟨s127, hc127, h⟩ := hv_bd_some h
  refine g_callV (pc := 127) (σ1 := s127) (v := none) (As := [.int (x1)]) (rest := []) C 0 (vX8_lessens hc127) (cwV 1 C.1.2.2.2.2 gX8_isNew_X8_lessens rfl rfl rfl (by decide +kernel) ⟨Nat.le_of_ble_eq_true rfl, Nat.le_of_ble_eq_true rfl⟩) (Nat.le_of_ble_eq_true rfl) rfl rfl rfl rfl (Nat.le_of_ble_eq_true rfl) dX8_isNew_127 ⟨Nat.zero_le _, Nat.zero_le _⟩ ?_
  refine g_st (st' := []) rfl ?_
  refine g_iinc (pc := 130) C 2 (v := x2 + 1) (lv' := [(2, .int (x2 + 1)), (0, .ref (a 0)), (1, .int (x1))]) dX8_isNew_130 rfl rfl (Nat.le_of_ble_eq_true rfl) rfl ?_
  refine g_goto (pc := 133) C (tgt := 2) dX8_isNew_133 (by decide) ?_
  exact g_lv [1, 2, 0] rfl (hr2 s127 (x1) (x2 + 1) h)
set_option maxHeartbeats 4000000 in
set_option maxRecDepth 20000 in
theorem bX8_isNew_60 (C : hv_C p s m args meth c cX8_isNew 9 wsX8_isNew RX8 D (hv_tys cy)) (hr : meth.sig.returnType = (some .boolean)) {n : Nat} {o : Int32 × hv_St} {r2 : hv_St → Int32 → Int32 → Option (Int32 × hv_St)} (hr2 : ∀ (σ : hv_St) (x1 : Int32) (x2 : Int32), r2 σ x1 x2 = some o → hv_G p l e (headSpec wsX8_isNew rmX8_isNew).room s m args below meth c 9 D 23 a (hv_ME a cy) 0 0 (hv_MQ D 23 a (hv_ME a cy) below args s (some (.int o.1)) o.2) σ 2 [(0, .ref (a 0)), (1, .int (x1)), (2, .int (x2))] []) : ∀ (i : Nat) (σ : hv_St) (x1 : Int32) (x2 : Int32) (x4 : Int64) (x6 : Int64) (x8 : Int32), kX8_isNew_60 n r2 i σ x1 x2 x4 x6 x8 = some o → hv_G p l e (headSpec wsX8_isNew rmX8_isNew).room s m args below meth c 9 D 23 a (hv_ME a cy) 0 0 (hv_MQ D 23 a (hv_ME a cy) below args s (some (.int o.1)) o.2) σ 60 [(0, .ref (a 0)), (1, .int (x1)), (2, .int (x2)), (4, .long (x4)), (6, .long (x6)), (8, .int (x8))] [] := by
  intro i
  induction i with
  | zero =>
    intro σ x1 x2 x4 x6 x8 h
    cases h
  | succ i ih =>
    intro σ x1 x2 x4 x6 x8 h
    generalize hg : kX8_isNew_60 n r2 i = r60 at ih
    have hr60 := ih
    replace h : kX8_isNew_60_b n r2 r60 σ x1 x2 x4 x6 x8 = some o := by rw [← hg]; exact h
    unfold kX8_isNew_60_b at h
    refine g_iload (pc := 60) C 5 dX8_isNew_60 rfl ?_
    refine g_aload_n (pc := 62) C 0 dX8_isNew_62 rfl rfl ?_
    refine gm_get_0_18 (pc := 63) C iX8_isNew_X8 qX8_isNew_F130 dX8_isNew_63 ?_
    refine g_icmp_ge (pc := 66) (tgt := 125) C dX8_isNew_66 (by decide) (fun c66 => ?_) (fun c66 => ?_)
    · rw [if_pos c66] at h
      exact g_lv [0, 1, 2] rfl (bX8_isNew_125 C hr hr2 σ (x1) (x2) h)
    · rw [if_neg c66] at h
      refine g_lload (pc := 69) C 4 dX8_isNew_69 rfl ?_
      refine g_lconst (pc := 71) C (v := (0 : Int64)) dX8_isNew_71 (by decide) ?_
      refine g_lcmp (pc := 72) C dX8_isNew_72 ?_
      refine g_if_eq (pc := 73) (tgt := 125) C dX8_isNew_73 (by decide) (fun c73 => ?_) (fun c73 => ?_)
      · rw [if_pos c73] at h
        exact g_lv [0, 1, 2] rfl (bX8_isNew_125 C hr hr2 σ (x1) (x2) h)
      · rw [if_neg c73] at h
        refine g_aload_n (pc := 76) C 0 dX8_isNew_76 rfl rfl ?_
        refine gm_get_0_19 (pc := 77) C iX8_isNew_X8 qX8_isNew_F46 dX8_isNew_77 ?_
        refine g_bipush (pc := 80) C (v := (12 : Int32)) dX8_isNew_80 (by decide) ?_
        refine g_iload_n (pc := 82) C 1 dX8_isNew_82 rfl rfl ?_
        refine g_imul (pc := 83) C dX8_isNew_83 ?_
        refine g_iload (pc := 84) C 5 dX8_isNew_84 rfl ?_
        refine g_iadd (pc := 86) C dX8_isNew_86 ?_
        refine g_aload_n (pc := 87) C 0 dX8_isNew_87 rfl rfl ?_
        refine gm_get_0_19 (pc := 88) C iX8_isNew_X8 qX8_isNew_F46 dX8_isNew_88 ?_
        refine g_bipush (pc := 91) C (v := (12 : Int32)) dX8_isNew_91 (by decide) ?_
        refine g_iload_n (pc := 93) C 1 dX8_isNew_93 rfl rfl ?_
        refine g_imul (pc := 94) C dX8_isNew_94 ?_
        refine g_iload (pc := 95) C 5 dX8_isNew_95 rfl ?_
        refine g_iadd (pc := 97) C dX8_isNew_97 ?_
        obtain ⟨k98, h⟩ := hv_if_some h
        refine gm_ld_13 (pc := 98) C k98 dX8_isNew_98 ?_
        refine g_lload (pc := 99) C 3 dX8_isNew_99 rfl ?_
        refine g_lmul (pc := 101) C dX8_isNew_101 ?_
        refine g_lload (pc := 102) C 4 dX8_isNew_102 rfl ?_
        refine g_aload_n (pc := 104) C 0 dX8_isNew_104 rfl rfl ?_
        refine gm_get_0_19 (pc := 105) C iX8_isNew_X8 qX8_isNew_F46 dX8_isNew_105 ?_
        refine g_bipush (pc := 108) C (v := (12 : Int32)) dX8_isNew_108 (by decide) ?_
        refine g_iload_n (pc := 110) C 2 dX8_isNew_110 rfl rfl ?_
        refine g_imul (pc := 111) C dX8_isNew_111 ?_
        refine g_iload (pc := 112) C 5 dX8_isNew_112 rfl ?_
        refine g_iadd (pc := 114) C dX8_isNew_114 ?_
        obtain ⟨k115, h⟩ := hv_if_some h
        refine gm_ld_13 (pc := 115) C k115 dX8_isNew_115 ?_
        refine g_lmul (pc := 116) C dX8_isNew_116 ?_
        refine g_lsub (pc := 117) C dX8_isNew_117 ?_
        obtain ⟨k118, h⟩ := hv_if_some h
        obtain ⟨s118, es118, h⟩ := hv_let_some h
        refine gm_st_13 (pc := 118) C es118 k118 dX8_isNew_118 ?_
        refine g_iinc (pc := 119) C 5 (v := x8 + 1) (lv' := [(8, .int (x8 + 1)), (0, .ref (a 0)), (1, .int (x1)), (2, .int (x2)), (4, .long (x4)), (6, .long (x6))]) dX8_isNew_119 rfl rfl (Nat.le_of_ble_eq_true rfl) rfl ?_
        refine g_goto (pc := 122) C (tgt := 60) dX8_isNew_122 (by decide) ?_
        exact g_lv [1, 2, 3, 4, 5, 0] rfl (hr60 s118 (x1) (x2) (x4) (x6) (x8 + 1) h)
set_option maxHeartbeats 4000000 in
set_option maxRecDepth 20000 in
theorem bX8_isNew_9 (C : hv_C p s m args meth c cX8_isNew 9 wsX8_isNew RX8 D (hv_tys cy)) (hr : meth.sig.returnType = (some .boolean)) {n : Nat} {o : Int32 × hv_St} {r2 : hv_St → Int32 → Int32 → Option (Int32 × hv_St)} (hr2 : ∀ (σ : hv_St) (x1 : Int32) (x2 : Int32), r2 σ x1 x2 = some o → hv_G p l e (headSpec wsX8_isNew rmX8_isNew).room s m args below meth c 9 D 23 a (hv_ME a cy) 0 0 (hv_MQ D 23 a (hv_ME a cy) below args s (some (.int o.1)) o.2) σ 2 [(0, .ref (a 0)), (1, .int (x1)), (2, .int (x2))] []) : ∀ (i : Nat) (σ : hv_St) (x1 : Int32) (x2 : Int32) (x3 : Int32), kX8_isNew_9 n r2 i σ x1 x2 x3 = some o → hv_G p l e (headSpec wsX8_isNew rmX8_isNew).room s m args below meth c 9 D 23 a (hv_ME a cy) 0 0 (hv_MQ D 23 a (hv_ME a cy) below args s (some (.int o.1)) o.2) σ 9 [(0, .ref (a 0)), (1, .int (x1)), (2, .int (x2)), (3, .int (x3))] [] := by
  intro i
  induction i with
  | zero =>
    intro σ x1 x2 x3 h
    cases h
  | succ i ih =>
    intro σ x1 x2 x3 h
    generalize hg : kX8_isNew_9 n r2 i = r9 at ih
    have hr9 := ih
    replace h : kX8_isNew_9_b n r2 r9 σ x1 x2 x3 = some o := by rw [← hg]; exact h
    unfold kX8_isNew_9_b at h
    refine g_aload_n (pc := 9) C 0 dX8_isNew_9 rfl rfl ?_
    refine gm_get_0_19 (pc := 10) C iX8_isNew_X8 qX8_isNew_F46 dX8_isNew_10 ?_
    refine g_bipush (pc := 13) C (v := (12 : Int32)) dX8_isNew_13 (by decide) ?_
    refine g_iload_n (pc := 15) C 2 dX8_isNew_15 rfl rfl ?_
    refine g_imul (pc := 16) C dX8_isNew_16 ?_
    refine g_iload_n (pc := 17) C 3 dX8_isNew_17 rfl rfl ?_
    refine g_iadd (pc := 18) C dX8_isNew_18 ?_
    obtain ⟨k19, h⟩ := hv_if_some h
    refine gm_ld_13 (pc := 19) C k19 dX8_isNew_19 ?_
    refine g_lconst (pc := 20) C (v := (0 : Int64)) dX8_isNew_20 (by decide) ?_
    refine g_lcmp (pc := 21) C dX8_isNew_21 ?_
    refine g_if_ne (pc := 22) (tgt := 31) C dX8_isNew_22 (by decide) (fun c22 => ?_) (fun c22 => ?_)
    · rw [if_neg c22] at h
      refine g_aload_n (pc := 31) C 0 dX8_isNew_31 rfl rfl ?_
      refine gm_get_0_19 (pc := 32) C iX8_isNew_X8 qX8_isNew_F46 dX8_isNew_32 ?_
      refine g_bipush (pc := 35) C (v := (12 : Int32)) dX8_isNew_35 (by decide) ?_
      refine g_iload_n (pc := 37) C 2 dX8_isNew_37 rfl rfl ?_
      refine g_imul (pc := 38) C dX8_isNew_38 ?_
      refine g_iload_n (pc := 39) C 3 dX8_isNew_39 rfl rfl ?_
      refine g_iadd (pc := 40) C dX8_isNew_40 ?_
      obtain ⟨k41, h⟩ := hv_if_some h
      refine gm_ld_13 (pc := 41) C k41 dX8_isNew_41 ?_
      obtain ⟨y4_42, ey4_42, h⟩ := hv_let_some h
      refine g_lstore (pc := 42) C (lv' := [(4, .long (y4_42)), (0, .ref (a 0)), (1, .int (x1)), (2, .int (x2)), (3, .int (x3))]) ey4_42 dX8_isNew_42 (Nat.le_of_ble_eq_true rfl) rfl ?_
      refine g_aload_n (pc := 44) C 1 dX8_isNew_44 rfl rfl ?_
      refine gm_get_0_19 (pc := 45) C iX8_isNew_X8 qX8_isNew_F46 dX8_isNew_45 ?_
      refine g_bipush (pc := 48) C (v := (12 : Int32)) dX8_isNew_48 (by decide) ?_
      refine g_iload_n (pc := 50) C 2 dX8_isNew_50 rfl rfl ?_
      refine g_imul (pc := 51) C dX8_isNew_51 ?_
      refine g_iload_n (pc := 52) C 4 dX8_isNew_52 rfl rfl ?_
      refine g_iadd (pc := 53) C dX8_isNew_53 ?_
      obtain ⟨k54, h⟩ := hv_if_some h
      refine gm_ld_13 (pc := 54) C k54 dX8_isNew_54 ?_
      obtain ⟨y6_55, ey6_55, h⟩ := hv_let_some h
      refine g_lstore (pc := 55) C (lv' := [(6, .long (y6_55)), (4, .long (y4_42)), (0, .ref (a 0)), (1, .int (x1)), (2, .int (x2)), (3, .int (x3))]) ey6_55 dX8_isNew_55 (Nat.le_of_ble_eq_true rfl) rfl ?_
      refine g_iconst (pc := 57) C (v := (0 : Int32)) dX8_isNew_57 (by decide) ?_
      refine g_istore (pc := 58) C (lv' := [(8, .int ((0 : Int32))), (6, .long (y6_55)), (4, .long (y4_42)), (0, .ref (a 0)), (1, .int (x1)), (2, .int (x2)), (3, .int (x3))]) rfl dX8_isNew_58 (Nat.le_of_ble_eq_true rfl) rfl ?_
      exact g_lv [3, 4, 5, 2, 1, 0] rfl (bX8_isNew_60 C hr hr2 n σ (x1) (x2) (y4_42) (y6_55) ((0 : Int32)) h)
    · rw [if_pos c22] at h
      refine g_iinc (pc := 25) C 3 (v := x3 + 1) (lv' := [(3, .int (x3 + 1)), (0, .ref (a 0)), (1, .int (x1)), (2, .int (x2))]) dX8_isNew_25 rfl rfl (Nat.le_of_ble_eq_true rfl) rfl ?_
      refine g_goto (pc := 28) C (tgt := 9) dX8_isNew_28 (by decide) ?_
      exact g_lv [1, 2, 3, 0] rfl (hr9 σ (x1) (x2) (x3 + 1) h)
set_option maxHeartbeats 4000000 in
set_option maxRecDepth 20000 in
theorem bX8_isNew_2 (C : hv_C p s m args meth c cX8_isNew 9 wsX8_isNew RX8 D (hv_tys cy)) (hr : meth.sig.returnType = (some .boolean)) {n : Nat} {o : Int32 × hv_St} : ∀ (i : Nat) (σ : hv_St) (x1 : Int32) (x2 : Int32), kX8_isNew_2 n i σ x1 x2 = some o → hv_G p l e (headSpec wsX8_isNew rmX8_isNew).room s m args below meth c 9 D 23 a (hv_ME a cy) 0 0 (hv_MQ D 23 a (hv_ME a cy) below args s (some (.int o.1)) o.2) σ 2 [(0, .ref (a 0)), (1, .int (x1)), (2, .int (x2))] [] := by
  intro i
  induction i with
  | zero =>
    intro σ x1 x2 h
    cases h
  | succ i ih =>
    intro σ x1 x2 h
    generalize hg : kX8_isNew_2 n i = r2 at ih
    have hr2 := ih
    replace h : kX8_isNew_2_b n r2 σ x1 x2 = some o := by rw [← hg]; exact h
    unfold kX8_isNew_2_b at h
    refine g_iload_n (pc := 2) C 2 dX8_isNew_2 rfl rfl ?_
    refine g_iload_n (pc := 3) C 1 dX8_isNew_3 rfl rfl ?_
    refine g_icmp_ge (pc := 4) (tgt := 136) C dX8_isNew_4 (by decide) (fun c4 => ?_) (fun c4 => ?_)
    · rw [if_pos c4] at h
      refine g_iconst (pc := 136) C (v := (0 : Int32)) dX8_isNew_136 (by decide) ?_
      refine g_istore_n (pc := 137) C (lv' := [(2, .int ((0 : Int32))), (0, .ref (a 0)), (1, .int (x1))]) rfl dX8_isNew_137 rfl (Nat.le_of_ble_eq_true rfl) rfl ?_
      exact g_lv [1, 2, 0] rfl (bX8_isNew_138 C hr n σ (x1) ((0 : Int32)) h)
    · rw [if_neg c4] at h
      refine g_iconst (pc := 7) C (v := (0 : Int32)) dX8_isNew_7 (by decide) ?_
      refine g_istore_n (pc := 8) C (lv' := [(3, .int ((0 : Int32))), (0, .ref (a 0)), (1, .int (x1)), (2, .int (x2))]) rfl dX8_isNew_8 rfl (Nat.le_of_ble_eq_true rfl) rfl ?_
      exact g_lv [1, 2, 3, 0] rfl (bX8_isNew_9 C hr hr2 n σ (x1) (x2) ((0 : Int32)) h)
set_option maxHeartbeats 4000000 in
set_option maxRecDepth 20000 in
theorem vX8_isNew {n : Nat} {σ : hv_St} {p0 : Int32} {o : Int32 × hv_St} (h : mX8_isNew n σ p0 = some o) : hv_M l yX8_isNew wsX8_isNew rmX8_isNew D (hv_tys cy) 23 a (hv_ME a cy) [.ref (a 0), .int (p0)] σ (some (.int o.1)) o.2 := by
  refine hv_enter (own := RX8) (cc := cX8_isNew) (maxL := 9) (ret := (some .boolean)) (by decide) rfl rfl (Nat.le_of_ble_eq_true rfl) ?_
  intro p e s m args below meth c C hr
  unfold mX8_isNew at h
  refine g_lv [0, 1] (lv' := [(0, .ref (a 0)), (1, .int (p0))]) rfl ?_
  refine g_iconst (pc := 0) C (v := (0 : Int32)) dX8_isNew_0 (by decide) ?_
  refine g_istore_n (pc := 1) C (lv' := [(2, .int ((0 : Int32))), (0, .ref (a 0)), (1, .int (p0))]) rfl dX8_isNew_1 rfl (Nat.le_of_ble_eq_true rfl) rfl ?_
  exact g_lv [1, 2, 0] rfl (bX8_isNew_2 C hr n σ (p0) ((0 : Int32)) h)
abbrev rmX8_laysBase : Room := { frames := 4, cells := 0, slots := 0, locals := 102 }
set_option maxRecDepth 20000 in
theorem qX8_laysBase_F130 : Cond.fieldLink RX8 130 "PinFrameModel" "free" "I" ∈ wsX8_laysBase := by decide +kernel
set_option maxRecDepth 20000 in
theorem qX8_laysBase_F152 : Cond.fieldLink RX8 152 "PinFrameModel" "base" "I" ∈ wsX8_laysBase := by decide +kernel
set_option maxRecDepth 20000 in
theorem qX8_laysBase_F155 : Cond.fieldLink RX8 155 "PinFrameModel" "spares" "I" ∈ wsX8_laysBase := by decide +kernel
set_option maxRecDepth 20000 in
theorem qX8_laysBase_F40 : Cond.fieldLink RX8 40 "PinFrameModel" "freePin" "[I" ∈ wsX8_laysBase := by decide +kernel
set_option maxRecDepth 20000 in
theorem qX8_laysBase_F43 : Cond.fieldLink RX8 43 "PinFrameModel" "freeWay" "[I" ∈ wsX8_laysBase := by decide +kernel
set_option maxRecDepth 20000 in
theorem qX8_laysBase_F46 : Cond.fieldLink RX8 46 "PinFrameModel" "cell" "[J" ∈ wsX8_laysBase := by decide +kernel
set_option maxRecDepth 20000 in
theorem qX8_laysBase_F88 : Cond.fieldLink RX8 88 "PinFrameModel" "bars" "I" ∈ wsX8_laysBase := by decide +kernel
set_option maxRecDepth 20000 in
theorem iX8_laysBase_X8 : ∀ w ∈ u_ws RX8 TX8 35, w ∈ wsX8_laysBase := by decide +kernel
set_option maxHeartbeats 4000000 in
set_option maxRecDepth 20000 in
theorem bX8_laysBase_165 (C : hv_C p s m args meth c cX8_laysBase 5 wsX8_laysBase RX8 D (hv_tys cy)) (hr : meth.sig.returnType = none) {n : Nat} {o : hv_St} {r18 : hv_St → Int32 → Int32 → Int32 → Option (hv_St)} (hr18 : ∀ (σ : hv_St) (x1 : Int32) (x2 : Int32) (x3 : Int32), r18 σ x1 x2 x3 = some o → hv_G p l e (headSpec wsX8_laysBase rmX8_laysBase).room s m args below meth c 5 D 23 a (hv_ME a cy) 0 0 (hv_MQ D 23 a (hv_ME a cy) below args s none o) σ 18 [(0, .ref (a 0)), (1, .int (x1)), (2, .int (x2)), (3, .int (x3))] []) : ∀ (σ : hv_St) (x1 : Int32) (x2 : Int32) (x3 : Int32), kX8_laysBase_165 n r18 σ x1 x2 x3 = some o → hv_G p l e (headSpec wsX8_laysBase rmX8_laysBase).room s m args below meth c 5 D 23 a (hv_ME a cy) 0 0 (hv_MQ D 23 a (hv_ME a cy) below args s none o) σ 165 [(0, .ref (a 0)), (1, .int (x1)), (2, .int (x2)), (3, .int (x3))] [] := by
  intro σ x1 x2 x3 h
  unfold kX8_laysBase_165 at h
  refine g_iinc (pc := 165) C 3 (v := x3 + 1) (lv' := [(3, .int (x3 + 1)), (0, .ref (a 0)), (1, .int (x1)), (2, .int (x2))]) dX8_laysBase_165 rfl rfl (Nat.le_of_ble_eq_true rfl) rfl ?_
  refine g_goto (pc := 168) C (tgt := 18) dX8_laysBase_168 (by decide) ?_
  exact g_lv [1, 2, 3, 0] rfl (hr18 σ (x1) (x2) (x3 + 1) h)
set_option maxHeartbeats 4000000 in
set_option maxRecDepth 20000 in
theorem bX8_laysBase_163 (C : hv_C p s m args meth c cX8_laysBase 5 wsX8_laysBase RX8 D (hv_tys cy)) (hr : meth.sig.returnType = none) {n : Nat} {o : hv_St} {r18 : hv_St → Int32 → Int32 → Int32 → Option (hv_St)} (hr18 : ∀ (σ : hv_St) (x1 : Int32) (x2 : Int32) (x3 : Int32), r18 σ x1 x2 x3 = some o → hv_G p l e (headSpec wsX8_laysBase rmX8_laysBase).room s m args below meth c 5 D 23 a (hv_ME a cy) 0 0 (hv_MQ D 23 a (hv_ME a cy) below args s none o) σ 18 [(0, .ref (a 0)), (1, .int (x1)), (2, .int (x2)), (3, .int (x3))] []) : ∀ (σ : hv_St) (x1 : Int32) (x3 : Int32) (z0 : Int32) (z1 : Int32), kX8_laysBase_163 n r18 σ x1 x3 z0 z1 = some o → hv_G p l e (headSpec wsX8_laysBase rmX8_laysBase).room s m args below meth c 5 D 23 a (hv_ME a cy) 0 0 (hv_MQ D 23 a (hv_ME a cy) below args s none o) σ 163 [(0, .ref (a 0)), (1, .int (x1)), (3, .int (x3))] [.int (z0), .int (z1)] := by
  intro σ x1 x3 z0 z1 h
  unfold kX8_laysBase_163 at h
  refine g_iadd (pc := 163) C dX8_laysBase_163 ?_
  obtain ⟨y2_164, ey2_164, h⟩ := hv_let_some h
  refine g_istore_n (pc := 164) C (lv' := [(2, .int (y2_164)), (0, .ref (a 0)), (1, .int (x1)), (3, .int (x3))]) ey2_164 dX8_laysBase_164 rfl (Nat.le_of_ble_eq_true rfl) rfl ?_
  exact g_lv [1, 2, 0, 3] rfl (bX8_laysBase_165 C hr hr18 σ (x1) (y2_164) (x3) h)
set_option maxHeartbeats 4000000 in
set_option maxRecDepth 20000 in
theorem bX8_laysBase_148 (C : hv_C p s m args meth c cX8_laysBase 5 wsX8_laysBase RX8 D (hv_tys cy)) (hr : meth.sig.returnType = none) {n : Nat} {o : hv_St} {r18 : hv_St → Int32 → Int32 → Int32 → Option (hv_St)} (hr18 : ∀ (σ : hv_St) (x1 : Int32) (x2 : Int32) (x3 : Int32), r18 σ x1 x2 x3 = some o → hv_G p l e (headSpec wsX8_laysBase rmX8_laysBase).room s m args below meth c 5 D 23 a (hv_ME a cy) 0 0 (hv_MQ D 23 a (hv_ME a cy) below args s none o) σ 18 [(0, .ref (a 0)), (1, .int (x1)), (2, .int (x2)), (3, .int (x3))] []) : ∀ (σ : hv_St) (x1 : Int32) (x2 : Int32) (x3 : Int32) (x4 : Int32) (z0 : Int32) (z1 : Int32), kX8_laysBase_148 n r18 σ x1 x2 x3 x4 z0 z1 = some o → hv_G p l e (headSpec wsX8_laysBase rmX8_laysBase).room s m args below meth c 5 D 23 a (hv_ME a cy) 0 0 (hv_MQ D 23 a (hv_ME a cy) below args s none o) σ 148 [(0, .ref (a 0)), (1, .int (x1)), (2, .int (x2)), (3, .int (x3)), (4, .int (x4))] [.int (z0), .int (z1), .ref (a 0)] := by
  intro σ x1 x2 x3 x4 z0 z1 h
  unfold kX8_laysBase_148 at h
  refine g_ior (pc := 148) C dX8_laysBase_148 ?_
  obtain ⟨s149, es149, h⟩ := hv_let_some h
  refine gm_put_0_21 (pc := 149) C es149 iX8_laysBase_X8 qX8_laysBase_F155 dX8_laysBase_149 ?_
  refine g_iload_n (pc := 152) C 2 dX8_laysBase_152 rfl rfl ?_
  refine g_iload (pc := 153) C 4 dX8_laysBase_153 rfl ?_
  refine g_if_eq (pc := 155) (tgt := 162) C dX8_laysBase_155 (by decide) (fun c155 => ?_) (fun c155 => ?_)
  · rw [if_pos c155] at h
    refine g_iconst (pc := 162) C (v := (0 : Int32)) dX8_laysBase_162 (by decide) ?_
    exact g_lv [0, 1, 3] rfl (bX8_laysBase_163 C hr hr18 s149 (x1) (x3) ((0 : Int32)) (x2) h)
  · rw [if_neg c155] at h
    refine g_iconst (pc := 158) C (v := (1 : Int32)) dX8_laysBase_158 (by decide) ?_
    refine g_goto (pc := 159) C (tgt := 163) dX8_laysBase_159 (by decide) ?_
    exact g_lv [0, 1, 3] rfl (bX8_laysBase_163 C hr hr18 s149 (x1) (x3) ((1 : Int32)) (x2) h)
set_option maxHeartbeats 4000000 in
set_option maxRecDepth 20000 in
theorem bX8_laysBase_127 (C : hv_C p s m args meth c cX8_laysBase 5 wsX8_laysBase RX8 D (hv_tys cy)) (hr : meth.sig.returnType = none) {n : Nat} {o : hv_St} {r18 : hv_St → Int32 → Int32 → Int32 → Option (hv_St)} (hr18 : ∀ (σ : hv_St) (x1 : Int32) (x2 : Int32) (x3 : Int32), r18 σ x1 x2 x3 = some o → hv_G p l e (headSpec wsX8_laysBase rmX8_laysBase).room s m args below meth c 5 D 23 a (hv_ME a cy) 0 0 (hv_MQ D 23 a (hv_ME a cy) below args s none o) σ 18 [(0, .ref (a 0)), (1, .int (x1)), (2, .int (x2)), (3, .int (x3))] []) : ∀ (σ : hv_St) (x1 : Int32) (x2 : Int32) (x3 : Int32) (x4 : Int32) (z0 : Int32) (z1 : Int32), kX8_laysBase_127 n r18 σ x1 x2 x3 x4 z0 z1 = some o → hv_G p l e (headSpec wsX8_laysBase rmX8_laysBase).room s m args below meth c 5 D 23 a (hv_ME a cy) 0 0 (hv_MQ D 23 a (hv_ME a cy) below args s none o) σ 127 [(0, .ref (a 0)), (1, .int (x1)), (2, .int (x2)), (3, .int (x3)), (4, .int (x4))] [.int (z0), .int (z1), .ref (a 0)] := by
  intro σ x1 x2 x3 x4 z0 z1 h
  unfold kX8_laysBase_127 at h
  refine g_ior (pc := 127) C dX8_laysBase_127 ?_
  obtain ⟨s128, es128, h⟩ := hv_let_some h
  refine gm_put_0_20 (pc := 128) C es128 iX8_laysBase_X8 qX8_laysBase_F152 dX8_laysBase_128 ?_
  refine g_aload_n (pc := 131) C 0 dX8_laysBase_131 rfl rfl ?_
  refine g_dup (pc := 132) C dX8_laysBase_132 rfl ?_
  refine gm_get_0_21 (pc := 133) C iX8_laysBase_X8 qX8_laysBase_F155 dX8_laysBase_133 ?_
  refine g_iload (pc := 136) C 4 dX8_laysBase_136 rfl ?_
  refine g_if_eq (pc := 138) (tgt := 145) C dX8_laysBase_138 (by decide) (fun c138 => ?_) (fun c138 => ?_)
  · rw [if_pos c138] at h
    refine g_iconst (pc := 145) C (v := (1 : Int32)) dX8_laysBase_145 (by decide) ?_
    refine g_iload_n (pc := 146) C 3 dX8_laysBase_146 rfl rfl ?_
    refine g_ishl (pc := 147) C dX8_laysBase_147 ?_
    exact g_lv [0, 1, 2, 3, 4] rfl (bX8_laysBase_148 C hr hr18 s128 (x1) (x2) (x3) (x4) (((1 : Int32)) <<< ((x3) &&& 31)) (s128.1 0 21) h)
  · rw [if_neg c138] at h
    refine g_iconst (pc := 141) C (v := (0 : Int32)) dX8_laysBase_141 (by decide) ?_
    refine g_goto (pc := 142) C (tgt := 148) dX8_laysBase_142 (by decide) ?_
    exact g_lv [0, 1, 2, 3, 4] rfl (bX8_laysBase_148 C hr hr18 s128 (x1) (x2) (x3) (x4) ((0 : Int32)) (s128.1 0 21) h)
set_option maxHeartbeats 4000000 in
set_option maxRecDepth 20000 in
theorem bX8_laysBase_108 (C : hv_C p s m args meth c cX8_laysBase 5 wsX8_laysBase RX8 D (hv_tys cy)) (hr : meth.sig.returnType = none) {n : Nat} {o : hv_St} {r18 : hv_St → Int32 → Int32 → Int32 → Option (hv_St)} (hr18 : ∀ (σ : hv_St) (x1 : Int32) (x2 : Int32) (x3 : Int32), r18 σ x1 x2 x3 = some o → hv_G p l e (headSpec wsX8_laysBase rmX8_laysBase).room s m args below meth c 5 D 23 a (hv_ME a cy) 0 0 (hv_MQ D 23 a (hv_ME a cy) below args s none o) σ 18 [(0, .ref (a 0)), (1, .int (x1)), (2, .int (x2)), (3, .int (x3))] []) : ∀ (σ : hv_St) (x1 : Int32) (x2 : Int32) (x3 : Int32) (z0 : Int32), kX8_laysBase_108 n r18 σ x1 x2 x3 z0 = some o → hv_G p l e (headSpec wsX8_laysBase rmX8_laysBase).room s m args below meth c 5 D 23 a (hv_ME a cy) 0 0 (hv_MQ D 23 a (hv_ME a cy) below args s none o) σ 108 [(0, .ref (a 0)), (1, .int (x1)), (2, .int (x2)), (3, .int (x3))] [.int (z0)] := by
  intro σ x1 x2 x3 z0 h
  unfold kX8_laysBase_108 at h
  refine g_istore (pc := 108) C (lv' := [(4, .int (z0)), (0, .ref (a 0)), (1, .int (x1)), (2, .int (x2)), (3, .int (x3))]) rfl dX8_laysBase_108 (Nat.le_of_ble_eq_true rfl) rfl ?_
  refine g_aload_n (pc := 110) C 1 dX8_laysBase_110 rfl rfl ?_
  refine g_dup (pc := 111) C dX8_laysBase_111 rfl ?_
  refine gm_get_0_20 (pc := 112) C iX8_laysBase_X8 qX8_laysBase_F152 dX8_laysBase_112 ?_
  refine g_iload (pc := 115) C 0 dX8_laysBase_115 rfl ?_
  refine g_if_eq (pc := 117) (tgt := 126) C dX8_laysBase_117 (by decide) (fun c117 => ?_) (fun c117 => ?_)
  · rw [if_pos c117] at h
    refine g_iconst (pc := 126) C (v := (0 : Int32)) dX8_laysBase_126 (by decide) ?_
    exact g_lv [1, 2, 3, 4, 0] rfl (bX8_laysBase_127 C hr hr18 σ (x1) (x2) (x3) (z0) ((0 : Int32)) (σ.1 0 20) h)
  · rw [if_neg c117] at h
    refine g_iconst (pc := 120) C (v := (1 : Int32)) dX8_laysBase_120 (by decide) ?_
    refine g_iload_n (pc := 121) C 4 dX8_laysBase_121 rfl rfl ?_
    refine g_ishl (pc := 122) C dX8_laysBase_122 ?_
    refine g_goto (pc := 123) C (tgt := 127) dX8_laysBase_123 (by decide) ?_
    exact g_lv [1, 2, 3, 4, 0] rfl (bX8_laysBase_127 C hr hr18 σ (x1) (x2) (x3) (z0) (((1 : Int32)) <<< ((x3) &&& 31)) (σ.1 0 20) h)
set_option maxHeartbeats 4000000 in
set_option maxRecDepth 20000 in
theorem bX8_laysBase_107 (C : hv_C p s m args meth c cX8_laysBase 5 wsX8_laysBase RX8 D (hv_tys cy)) (hr : meth.sig.returnType = none) {n : Nat} {o : hv_St} {r18 : hv_St → Int32 → Int32 → Int32 → Option (hv_St)} (hr18 : ∀ (σ : hv_St) (x1 : Int32) (x2 : Int32) (x3 : Int32), r18 σ x1 x2 x3 = some o → hv_G p l e (headSpec wsX8_laysBase rmX8_laysBase).room s m args below meth c 5 D 23 a (hv_ME a cy) 0 0 (hv_MQ D 23 a (hv_ME a cy) below args s none o) σ 18 [(0, .ref (a 0)), (1, .int (x1)), (2, .int (x2)), (3, .int (x3))] []) : ∀ (σ : hv_St) (x1 : Int32) (x2 : Int32) (x3 : Int32), kX8_laysBase_107 n r18 σ x1 x2 x3 = some o → hv_G p l e (headSpec wsX8_laysBase rmX8_laysBase).room s m args below meth c 5 D 23 a (hv_ME a cy) 0 0 (hv_MQ D 23 a (hv_ME a cy) below args s none o) σ 107 [(0, .ref (a 0)), (1, .int (x1)), (2, .int (x2)), (3, .int (x3))] [] := by
  intro σ x1 x2 x3 h
  unfold kX8_laysBase_107 at h
  refine g_iconst (pc := 107) C (v := (0 : Int32)) dX8_laysBase_107 (by decide) ?_
  exact g_lv [0, 1, 2, 3] rfl (bX8_laysBase_108 C hr hr18 σ (x1) (x2) (x3) ((0 : Int32)) h)
set_option maxHeartbeats 4000000 in
set_option maxRecDepth 20000 in
theorem bX8_laysBase_40 (C : hv_C p s m args meth c cX8_laysBase 5 wsX8_laysBase RX8 D (hv_tys cy)) (hr : meth.sig.returnType = none) {n : Nat} {o : hv_St} {r18 : hv_St → Int32 → Int32 → Int32 → Option (hv_St)} (hr18 : ∀ (σ : hv_St) (x1 : Int32) (x2 : Int32) (x3 : Int32), r18 σ x1 x2 x3 = some o → hv_G p l e (headSpec wsX8_laysBase rmX8_laysBase).room s m args below meth c 5 D 23 a (hv_ME a cy) 0 0 (hv_MQ D 23 a (hv_ME a cy) below args s none o) σ 18 [(0, .ref (a 0)), (1, .int (x1)), (2, .int (x2)), (3, .int (x3))] []) : ∀ (i : Nat) (σ : hv_St) (x1 : Int32) (x2 : Int32) (x3 : Int32) (x4 : Int32), kX8_laysBase_40 n r18 i σ x1 x2 x3 x4 = some o → hv_G p l e (headSpec wsX8_laysBase rmX8_laysBase).room s m args below meth c 5 D 23 a (hv_ME a cy) 0 0 (hv_MQ D 23 a (hv_ME a cy) below args s none o) σ 40 [(0, .ref (a 0)), (1, .int (x1)), (2, .int (x2)), (3, .int (x3)), (4, .int (x4))] [] := by
  intro i
  induction i with
  | zero =>
    intro σ x1 x2 x3 x4 h
    cases h
  | succ i ih =>
    intro σ x1 x2 x3 x4 h
    generalize hg : kX8_laysBase_40 n r18 i = r40 at ih
    have hr40 := ih
    replace h : kX8_laysBase_40_b n r18 r40 σ x1 x2 x3 x4 = some o := by rw [← hg]; exact h
    unfold kX8_laysBase_40_b at h
    refine g_iload (pc := 40) C 4 dX8_laysBase_40 rfl ?_
    refine g_aload_n (pc := 42) C 0 dX8_laysBase_42 rfl rfl ?_
    refine gm_get_0_18 (pc := 43) C iX8_laysBase_X8 qX8_laysBase_F130 dX8_laysBase_43 ?_
    refine g_icmp_ge (pc := 46) (tgt := 87) C dX8_laysBase_46 (by decide) (fun c46 => ?_) (fun c46 => ?_)
    · rw [if_pos c46] at h
      refine g_iload_n (pc := 87) C 2 dX8_laysBase_87 rfl rfl ?_
      refine g_aload_n (pc := 88) C 0 dX8_laysBase_88 rfl rfl ?_
      refine gm_get_0_18 (pc := 89) C iX8_laysBase_X8 qX8_laysBase_F130 dX8_laysBase_89 ?_
      refine g_icmp_ge (pc := 92) (tgt := 107) C dX8_laysBase_92 (by decide) (fun c92 => ?_) (fun c92 => ?_)
      · rw [if_pos c92] at h
        exact g_lv [0, 1, 2, 3] rfl (bX8_laysBase_107 C hr hr18 σ (x1) (x2) (x3) h)
      · rw [if_neg c92] at h
        refine g_aload_n (pc := 95) C 0 dX8_laysBase_95 rfl rfl ?_
        refine g_iload_n (pc := 96) C 2 dX8_laysBase_96 rfl rfl ?_
        obtain ⟨r97, s97, hc97, h⟩ := hv_b2_some h
        refine g_callV (pc := 97) (σ1 := s97) (v := (some (.int (r97)))) (As := [.int (x2)]) (rest := []) C 0 (vX8_isNew hc97) (cwV 1 C.1.2.2.2.2 gX8_laysBase_X8_isNew rfl rfl rfl (by decide +kernel) ⟨Nat.le_of_ble_eq_true rfl, Nat.le_of_ble_eq_true rfl⟩) (Nat.le_of_ble_eq_true rfl) rfl rfl rfl rfl (Nat.le_of_ble_eq_true rfl) dX8_laysBase_97 ⟨Nat.zero_le _, Nat.zero_le _⟩ ?_
        refine g_st (st' := [.int (r97)]) rfl ?_
        refine g_if_eq (pc := 100) (tgt := 107) C dX8_laysBase_100 (by decide) (fun c100 => ?_) (fun c100 => ?_)
        · rw [if_pos c100] at h
          exact g_lv [0, 1, 2, 3] rfl (bX8_laysBase_107 C hr hr18 s97 (x1) (x2) (x3) h)
        · rw [if_neg c100] at h
          refine g_iconst (pc := 103) C (v := (1 : Int32)) dX8_laysBase_103 (by decide) ?_
          refine g_goto (pc := 104) C (tgt := 108) dX8_laysBase_104 (by decide) ?_
          exact g_lv [0, 1, 2, 3] rfl (bX8_laysBase_108 C hr hr18 s97 (x1) (x2) (x3) ((1 : Int32)) h)
    · rw [if_neg c46] at h
      refine g_aload_n (pc := 49) C 0 dX8_laysBase_49 rfl rfl ?_
      refine gm_get_0_19 (pc := 50) C iX8_laysBase_X8 qX8_laysBase_F46 dX8_laysBase_50 ?_
      refine g_bipush (pc := 53) C (v := (12 : Int32)) dX8_laysBase_53 (by decide) ?_
      refine g_iload_n (pc := 55) C 2 dX8_laysBase_55 rfl rfl ?_
      refine g_imul (pc := 56) C dX8_laysBase_56 ?_
      refine g_iload (pc := 57) C 4 dX8_laysBase_57 rfl ?_
      refine g_iadd (pc := 59) C dX8_laysBase_59 ?_
      refine g_aload_n (pc := 60) C 0 dX8_laysBase_60 rfl rfl ?_
      refine g_iload_n (pc := 61) C 3 dX8_laysBase_61 rfl rfl ?_
      refine g_aload_n (pc := 62) C 0 dX8_laysBase_62 rfl rfl ?_
      refine gm_get_0_16 (pc := 63) C iX8_laysBase_X8 qX8_laysBase_F40 dX8_laysBase_63 ?_
      refine g_iload (pc := 66) C 4 dX8_laysBase_66 rfl ?_
      obtain ⟨k68, h⟩ := hv_if_some h
      refine gm_ld_11 (pc := 68) C k68 dX8_laysBase_68 ?_
      refine g_aload_n (pc := 69) C 0 dX8_laysBase_69 rfl rfl ?_
      refine gm_get_0_17 (pc := 70) C iX8_laysBase_X8 qX8_laysBase_F43 dX8_laysBase_70 ?_
      refine g_iload (pc := 73) C 4 dX8_laysBase_73 rfl ?_
      obtain ⟨k75, h⟩ := hv_if_some h
      refine gm_ld_12 (pc := 75) C k75 dX8_laysBase_75 ?_
      obtain ⟨r76, s76, hc76, h⟩ := hv_b2_some h
      refine g_callV (pc := 76) (σ1 := s76) (v := (some (.int (r76)))) (As := [.int (x3), .int (σ.1 11 (x4).toNatClampNeg), .int (σ.1 12 (x4).toNatClampNeg)]) (rest := [.int ((((12 : Int32)) * (x2)) + (x4)), .ref (a 13)]) C 0 (vX8_brings hc76) (cwV 3 C.1.2.2.2.2 gX8_laysBase_X8_brings rfl rfl rfl (by decide +kernel) ⟨Nat.le_of_ble_eq_true rfl, Nat.le_of_ble_eq_true rfl⟩) (Nat.le_of_ble_eq_true rfl) rfl rfl rfl rfl (Nat.le_of_ble_eq_true rfl) dX8_laysBase_76 ⟨Nat.zero_le _, Nat.zero_le _⟩ ?_
      refine g_st (st' := [.int (r76), .int ((((12 : Int32)) * (x2)) + (x4)), .ref (a 13)]) rfl ?_
      refine g_i2l (pc := 79) C dX8_laysBase_79 ?_
      obtain ⟨k80, h⟩ := hv_if_some h
      obtain ⟨s80, es80, h⟩ := hv_let_some h
      refine gm_st_13 (pc := 80) C es80 k80 dX8_laysBase_80 ?_
      refine g_iinc (pc := 81) C 4 (v := x4 + 1) (lv' := [(4, .int (x4 + 1)), (0, .ref (a 0)), (1, .int (x1)), (2, .int (x2)), (3, .int (x3))]) dX8_laysBase_81 rfl rfl (Nat.le_of_ble_eq_true rfl) rfl ?_
      refine g_goto (pc := 84) C (tgt := 40) dX8_laysBase_84 (by decide) ?_
      exact g_lv [1, 2, 3, 4, 0] rfl (hr40 s80 (x1) (x2) (x3) (x4 + 1) h)
set_option maxHeartbeats 4000000 in
set_option maxRecDepth 20000 in
theorem bX8_laysBase_18 (C : hv_C p s m args meth c cX8_laysBase 5 wsX8_laysBase RX8 D (hv_tys cy)) (hr : meth.sig.returnType = none) {n : Nat} {o : hv_St} : ∀ (i : Nat) (σ : hv_St) (x1 : Int32) (x2 : Int32) (x3 : Int32), kX8_laysBase_18 n i σ x1 x2 x3 = some o → hv_G p l e (headSpec wsX8_laysBase rmX8_laysBase).room s m args below meth c 5 D 23 a (hv_ME a cy) 0 0 (hv_MQ D 23 a (hv_ME a cy) below args s none o) σ 18 [(0, .ref (a 0)), (1, .int (x1)), (2, .int (x2)), (3, .int (x3))] [] := by
  intro i
  induction i with
  | zero =>
    intro σ x1 x2 x3 h
    cases h
  | succ i ih =>
    intro σ x1 x2 x3 h
    generalize hg : kX8_laysBase_18 n i = r18 at ih
    have hr18 := ih
    replace h : kX8_laysBase_18_b n r18 σ x1 x2 x3 = some o := by rw [← hg]; exact h
    unfold kX8_laysBase_18_b at h
    refine g_iload_n (pc := 18) C 3 dX8_laysBase_18 rfl rfl ?_
    refine g_aload_n (pc := 19) C 0 dX8_laysBase_19 rfl rfl ?_
    refine gm_get_0_6 (pc := 20) C iX8_laysBase_X8 qX8_laysBase_F88 dX8_laysBase_20 ?_
    refine g_icmp_ge (pc := 23) (tgt := 171) C dX8_laysBase_23 (by decide) (fun c23 => ?_) (fun c23 => ?_)
    · rw [if_pos c23] at h
      cases h
      exact g_vret (pc := 171) C hr dX8_laysBase_171
    · rw [if_neg c23] at h
      refine g_iload_n (pc := 26) C 1 dX8_laysBase_26 rfl rfl ?_
      refine g_iload_n (pc := 27) C 3 dX8_laysBase_27 rfl rfl ?_
      obtain ⟨r28, s28, hc28, h⟩ := hv_b2_some h
      refine g_callS (pc := 28) (σ1 := s28) (v := (some (.int (r28)))) (As := [.int (x1), .int (x3)]) (rest := []) C (vX8_isOn hc28) (va_cwS 2 C.1.2.2.2.2 gX8_laysBase_X8_isOn rfl rfl rfl (by decide +kernel) ⟨Nat.le_of_ble_eq_true rfl, Nat.le_of_ble_eq_true rfl⟩) rfl rfl (Nat.le_of_ble_eq_true rfl) dX8_laysBase_28 ⟨Nat.zero_le _, Nat.zero_le _⟩ ?_
      refine g_st (st' := [.int (r28)]) rfl ?_
      refine g_if_ne (pc := 31) (tgt := 37) C dX8_laysBase_31 (by decide) (fun c31 => ?_) (fun c31 => ?_)
      · rw [if_neg c31] at h
        refine g_iconst (pc := 37) C (v := (0 : Int32)) dX8_laysBase_37 (by decide) ?_
        refine g_istore (pc := 38) C (lv' := [(4, .int ((0 : Int32))), (0, .ref (a 0)), (1, .int (x1)), (2, .int (x2)), (3, .int (x3))]) rfl dX8_laysBase_38 (Nat.le_of_ble_eq_true rfl) rfl ?_
        exact g_lv [1, 2, 3, 4, 0] rfl (bX8_laysBase_40 C hr hr18 n s28 (x1) (x2) (x3) ((0 : Int32)) h)
      · rw [if_pos c31] at h
        refine g_goto (pc := 34) C (tgt := 165) dX8_laysBase_34 (by decide) ?_
        exact g_lv [0, 1, 2, 3] rfl (bX8_laysBase_165 C hr hr18 s28 (x1) (x2) (x3) h)
set_option maxHeartbeats 4000000 in
set_option maxRecDepth 20000 in
theorem vX8_laysBase {n : Nat} {σ : hv_St} {p0 : Int32} {o : hv_St} (h : mX8_laysBase n σ p0 = some o) : hv_M l yX8_laysBase wsX8_laysBase rmX8_laysBase D (hv_tys cy) 23 a (hv_ME a cy) [.ref (a 0), .int (p0)] σ none o := by
  refine hv_enter (own := RX8) (cc := cX8_laysBase) (maxL := 5) (ret := none) (by decide) rfl rfl (Nat.le_of_ble_eq_true rfl) ?_
  intro p e s m args below meth c C hr
  unfold mX8_laysBase at h
  refine g_lv [0, 1] (lv' := [(0, .ref (a 0)), (1, .int (p0))]) rfl ?_
  refine g_aload_n (pc := 0) C 0 dX8_laysBase_0 rfl rfl ?_
  obtain ⟨s1, hc1, h⟩ := hv_bd_some h
  refine g_callV (pc := 1) (σ1 := s1) (v := none) (As := []) (rest := []) C 0 (vX8_laysFree hc1) (cwV 0 C.1.2.2.2.2 gX8_laysBase_X8_laysFree rfl rfl rfl (by decide +kernel) ⟨Nat.le_of_ble_eq_true rfl, Nat.le_of_ble_eq_true rfl⟩) (Nat.le_of_ble_eq_true rfl) rfl rfl rfl rfl (Nat.le_of_ble_eq_true rfl) dX8_laysBase_1 ⟨Nat.zero_le _, Nat.zero_le _⟩ ?_
  refine g_st (st' := []) rfl ?_
  refine g_aload_n (pc := 4) C 0 dX8_laysBase_4 rfl rfl ?_
  refine g_iconst (pc := 5) C (v := (0 : Int32)) dX8_laysBase_5 (by decide) ?_
  obtain ⟨s6, es6, h⟩ := hv_let_some h
  refine gm_put_0_20 (pc := 6) C es6 iX8_laysBase_X8 qX8_laysBase_F152 dX8_laysBase_6 ?_
  refine g_aload_n (pc := 9) C 0 dX8_laysBase_9 rfl rfl ?_
  refine g_iconst (pc := 10) C (v := (0 : Int32)) dX8_laysBase_10 (by decide) ?_
  obtain ⟨s11, es11, h⟩ := hv_let_some h
  refine gm_put_0_21 (pc := 11) C es11 iX8_laysBase_X8 qX8_laysBase_F155 dX8_laysBase_11 ?_
  refine g_iconst (pc := 14) C (v := (0 : Int32)) dX8_laysBase_14 (by decide) ?_
  refine g_istore_n (pc := 15) C (lv' := [(2, .int ((0 : Int32))), (0, .ref (a 0)), (1, .int (p0))]) rfl dX8_laysBase_15 rfl (Nat.le_of_ble_eq_true rfl) rfl ?_
  refine g_iconst (pc := 16) C (v := (0 : Int32)) dX8_laysBase_16 (by decide) ?_
  refine g_istore_n (pc := 17) C (lv' := [(3, .int ((0 : Int32))), (2, .int ((0 : Int32))), (0, .ref (a 0)), (1, .int (p0))]) rfl dX8_laysBase_17 rfl (Nat.le_of_ble_eq_true rfl) rfl ?_
  exact g_lv [2, 3, 1, 0] rfl (bX8_laysBase_18 C hr n s11 (p0) ((0 : Int32)) ((0 : Int32)) h)
abbrev rmX8_kind : Room := { frames := 1, cells := 0, slots := 0, locals := 22 }
set_option maxRecDepth 20000 in
theorem qX8_kind_F130 : Cond.fieldLink RX8 130 "PinFrameModel" "free" "I" ∈ wsX8_kind := by decide +kernel
set_option maxRecDepth 20000 in
theorem qX8_kind_F152 : Cond.fieldLink RX8 152 "PinFrameModel" "base" "I" ∈ wsX8_kind := by decide +kernel
set_option maxRecDepth 20000 in
theorem qX8_kind_F155 : Cond.fieldLink RX8 155 "PinFrameModel" "spares" "I" ∈ wsX8_kind := by decide +kernel
set_option maxRecDepth 20000 in
theorem iX8_kind_X8 : ∀ w ∈ u_ws RX8 TX8 35, w ∈ wsX8_kind := by decide +kernel
set_option maxHeartbeats 4000000 in
set_option maxRecDepth 20000 in
theorem vX8_kind {n : Nat} {σ : hv_St} {o : Int32 × hv_St} (h : mX8_kind n σ = some o) : hv_M l yX8_kind wsX8_kind rmX8_kind D (hv_tys cy) 23 a (hv_ME a cy) [.ref (a 0)] σ (some (.int o.1)) o.2 := by
  refine hv_enter (own := RX8) (cc := cX8_kind) (maxL := 1) (ret := (some .int)) (by decide) rfl rfl (Nat.le_of_ble_eq_true rfl) ?_
  intro p e s m args below meth c C hr
  unfold mX8_kind at h
  refine g_lv [0] (lv' := [(0, .ref (a 0))]) rfl ?_
  refine g_aload_n (pc := 0) C 0 dX8_kind_0 rfl rfl ?_
  refine gm_get_0_20 (pc := 1) C iX8_kind_X8 qX8_kind_F152 dX8_kind_1 ?_
  obtain ⟨r4, s4, hc4, h⟩ := hv_b2_some h
  refine g_callS (pc := 4) (σ1 := s4) (v := (some (.int (r4)))) (As := [.int (σ.1 0 20)]) (rest := []) C (vX8_bits hc4) (va_cwS 1 C.1.2.2.2.2 gX8_kind_X8_bits rfl rfl rfl (by decide +kernel) ⟨Nat.le_of_ble_eq_true rfl, Nat.le_of_ble_eq_true rfl⟩) rfl rfl (Nat.le_of_ble_eq_true rfl) dX8_kind_4 ⟨Nat.zero_le _, Nat.zero_le _⟩ ?_
  refine g_st (st' := [.int (r4)]) rfl ?_
  refine g_aload_n (pc := 7) C 0 dX8_kind_7 rfl rfl ?_
  refine gm_get_0_18 (pc := 8) C iX8_kind_X8 qX8_kind_F130 dX8_kind_8 ?_
  refine g_icmp_ge (pc := 11) (tgt := 16) C dX8_kind_11 (by decide) (fun c11 => ?_) (fun c11 => ?_)
  · rw [if_pos c11] at h
    refine g_aload_n (pc := 16) C 0 dX8_kind_16 rfl rfl ?_
    refine gm_get_0_21 (pc := 17) C iX8_kind_X8 qX8_kind_F155 dX8_kind_17 ?_
    obtain ⟨r20, s20, hc20, h⟩ := hv_b2_some h
    refine g_callS (pc := 20) (σ1 := s20) (v := (some (.int (r20)))) (As := [.int (s4.1 0 21)]) (rest := []) C (vX8_bits hc20) (va_cwS 1 C.1.2.2.2.2 gX8_kind_X8_bits rfl rfl rfl (by decide +kernel) ⟨Nat.le_of_ble_eq_true rfl, Nat.le_of_ble_eq_true rfl⟩) rfl rfl (Nat.le_of_ble_eq_true rfl) dX8_kind_20 ⟨Nat.zero_le _, Nat.zero_le _⟩ ?_
    refine g_st (st' := [.int (r20)]) rfl ?_
    refine g_iconst (pc := 23) C (v := (2 : Int32)) dX8_kind_23 (by decide) ?_
    refine g_icmp_le (pc := 24) (tgt := 31) C dX8_kind_24 (by decide) (fun c24 => ?_) (fun c24 => ?_)
    · rw [if_pos c24] at h
      refine g_iconst (pc := 31) C (v := (1 : Int32)) dX8_kind_31 (by decide) ?_
      refine g_aload_n (pc := 32) C 0 dX8_kind_32 rfl rfl ?_
      refine gm_get_0_21 (pc := 33) C iX8_kind_X8 qX8_kind_F155 dX8_kind_33 ?_
      obtain ⟨r36, s36, hc36, h⟩ := hv_b2_some h
      refine g_callS (pc := 36) (σ1 := s36) (v := (some (.int (r36)))) (As := [.int (s20.1 0 21)]) (rest := [.int ((1 : Int32))]) C (vX8_bits hc36) (va_cwS 1 C.1.2.2.2.2 gX8_kind_X8_bits rfl rfl rfl (by decide +kernel) ⟨Nat.le_of_ble_eq_true rfl, Nat.le_of_ble_eq_true rfl⟩) rfl rfl (Nat.le_of_ble_eq_true rfl) dX8_kind_36 ⟨Nat.zero_le _, Nat.zero_le _⟩ ?_
      refine g_st (st' := [.int (r36), .int ((1 : Int32))]) rfl ?_
      refine g_iadd (pc := 39) C dX8_kind_39 ?_
      cases h
      exact g_iret (pc := 40) C hr dX8_kind_40
    · rw [if_neg c24] at h
      refine g_iconst (pc := 27) C (v := (4 : Int32)) dX8_kind_27 (by decide) ?_
      refine g_goto (pc := 28) C (tgt := 40) dX8_kind_28 (by decide) ?_
      cases h
      exact g_iret (pc := 40) C hr dX8_kind_40
  · rw [if_neg c11] at h
    refine g_iconst (pc := 14) C (v := (0 : Int32)) dX8_kind_14 (by decide) ?_
    cases h
    exact g_iret (pc := 15) C hr dX8_kind_15
abbrev rmX8_kindOf : Room := { frames := 5, cells := 0, slots := 0, locals := 126 }
set_option maxHeartbeats 4000000 in
set_option maxRecDepth 20000 in
theorem vX8_kindOf {n : Nat} {σ : hv_St} {p0 : Int32} {o : Int32 × hv_St} (h : mX8_kindOf n σ p0 = some o) : hv_M l yX8_kindOf wsX8_kindOf rmX8_kindOf D (hv_tys cy) 23 a (hv_ME a cy) [.ref (a 0), .int (p0)] σ (some (.int o.1)) o.2 := by
  refine hv_enter (own := RX8) (cc := cX8_kindOf) (maxL := 2) (ret := (some .int)) (by decide) rfl rfl (Nat.le_of_ble_eq_true rfl) ?_
  intro p e s m args below meth c C hr
  unfold mX8_kindOf at h
  refine g_lv [0, 1] (lv' := [(0, .ref (a 0)), (1, .int (p0))]) rfl ?_
  refine g_aload_n (pc := 0) C 0 dX8_kindOf_0 rfl rfl ?_
  refine g_iload_n (pc := 1) C 1 dX8_kindOf_1 rfl rfl ?_
  obtain ⟨s2, hc2, h⟩ := hv_bd_some h
  refine g_callV (pc := 2) (σ1 := s2) (v := none) (As := [.int (p0)]) (rest := []) C 0 (vX8_laysBase hc2) (cwV 1 C.1.2.2.2.2 gX8_kindOf_X8_laysBase rfl rfl rfl (by decide +kernel) ⟨Nat.le_of_ble_eq_true rfl, Nat.le_of_ble_eq_true rfl⟩) (Nat.le_of_ble_eq_true rfl) rfl rfl rfl rfl (Nat.le_of_ble_eq_true rfl) dX8_kindOf_2 ⟨Nat.zero_le _, Nat.zero_le _⟩ ?_
  refine g_st (st' := []) rfl ?_
  refine g_aload_n (pc := 5) C 0 dX8_kindOf_5 rfl rfl ?_
  obtain ⟨r6, s6, hc6, h⟩ := hv_b2_some h
  refine g_callV (pc := 6) (σ1 := s6) (v := (some (.int (r6)))) (As := []) (rest := []) C 0 (vX8_kind hc6) (cwV 0 C.1.2.2.2.2 gX8_kindOf_X8_kind rfl rfl rfl (by decide +kernel) ⟨Nat.le_of_ble_eq_true rfl, Nat.le_of_ble_eq_true rfl⟩) (Nat.le_of_ble_eq_true rfl) rfl rfl rfl rfl (Nat.le_of_ble_eq_true rfl) dX8_kindOf_6 ⟨Nat.zero_le _, Nat.zero_le _⟩ ?_
  refine g_st (st' := [.int (r6)]) rfl ?_
  cases h
  exact g_iret (pc := 9) C hr dX8_kindOf_9
abbrev rmX8_isFirm : Room := { frames := 0, cells := 0, slots := 0, locals := 0 }
set_option maxHeartbeats 4000000 in
set_option maxRecDepth 20000 in
theorem bX8_isFirm_13 (C : hv_C p s m args meth c cX8_isFirm 1 wsX8_isFirm RX8 D (hv_tys cy)) (hr : meth.sig.returnType = (some .boolean)) {n : Nat} {o : Int32 × hv_St} : ∀ (σ : hv_St), kX8_isFirm_13 n σ = some o → hv_G p l e (headSpec wsX8_isFirm rmX8_isFirm).room s m args below meth c 1 D 23 a (hv_ME a cy) 0 0 (hv_MQ D 23 a (hv_ME a cy) below args s (some (.int o.1)) o.2) σ 13 [] [] := by
  intro σ h
  unfold kX8_isFirm_13 at h
  refine g_iconst (pc := 13) C (v := (0 : Int32)) dX8_isFirm_13 (by decide) ?_
  cases h
  exact g_zret (pc := 14) (x := (0 : Int32)) C hr (by decide) dX8_isFirm_14
set_option maxHeartbeats 4000000 in
set_option maxRecDepth 20000 in
theorem vX8_isFirm {n : Nat} {σ : hv_St} {p0 : Int32} {o : Int32 × hv_St} (h : mX8_isFirm n σ p0 = some o) : hv_M l yX8_isFirm wsX8_isFirm rmX8_isFirm D (hv_tys cy) 23 a (hv_ME a cy) [.int (p0)] σ (some (.int o.1)) o.2 := by
  refine hv_enter (own := RX8) (cc := cX8_isFirm) (maxL := 1) (ret := (some .boolean)) (by decide) rfl rfl (Nat.le_of_ble_eq_true rfl) ?_
  intro p e s m args below meth c C hr
  unfold mX8_isFirm at h
  refine g_lv [0] (lv' := [(0, .int (p0))]) rfl ?_
  refine g_iload_n (pc := 0) C 0 dX8_isFirm_0 rfl rfl ?_
  refine g_if_le (pc := 1) (tgt := 13) C dX8_isFirm_1 (by decide) (fun c1 => ?_) (fun c1 => ?_)
  · rw [if_pos c1] at h
    exact g_lv [] rfl (bX8_isFirm_13 C hr σ h)
  · rw [if_neg c1] at h
    refine g_iload_n (pc := 4) C 0 dX8_isFirm_4 rfl rfl ?_
    refine g_iconst (pc := 5) C (v := (4 : Int32)) dX8_isFirm_5 (by decide) ?_
    refine g_icmp_ge (pc := 6) (tgt := 13) C dX8_isFirm_6 (by decide) (fun c6 => ?_) (fun c6 => ?_)
    · rw [if_pos c6] at h
      exact g_lv [] rfl (bX8_isFirm_13 C hr σ h)
    · rw [if_neg c6] at h
      refine g_iconst (pc := 9) C (v := (1 : Int32)) dX8_isFirm_9 (by decide) ?_
      refine g_goto (pc := 10) C (tgt := 14) dX8_isFirm_10 (by decide) ?_
      cases h
      exact g_zret (pc := 14) (x := (1 : Int32)) C hr (by decide) dX8_isFirm_14
abbrev rmX8_setDeterminant : Room := { frames := 2, cells := 0, slots := 0, locals := 55 }
set_option maxRecDepth 20000 in
theorem qX8_setDeterminant_F130 : Cond.fieldLink RX8 130 "PinFrameModel" "free" "I" ∈ wsX8_setDeterminant := by decide +kernel
set_option maxRecDepth 20000 in
theorem qX8_setDeterminant_F40 : Cond.fieldLink RX8 40 "PinFrameModel" "freePin" "[I" ∈ wsX8_setDeterminant := by decide +kernel
set_option maxRecDepth 20000 in
theorem qX8_setDeterminant_F43 : Cond.fieldLink RX8 43 "PinFrameModel" "freeWay" "[I" ∈ wsX8_setDeterminant := by decide +kernel
set_option maxRecDepth 20000 in
theorem qX8_setDeterminant_F46 : Cond.fieldLink RX8 46 "PinFrameModel" "cell" "[J" ∈ wsX8_setDeterminant := by decide +kernel
set_option maxRecDepth 20000 in
theorem qX8_setDeterminant_F50 : Cond.fieldLink RX8 50 "PinFrameModel" "column" "[I" ∈ wsX8_setDeterminant := by decide +kernel
set_option maxRecDepth 20000 in
theorem qX8_setDeterminant_F88 : Cond.fieldLink RX8 88 "PinFrameModel" "bars" "I" ∈ wsX8_setDeterminant := by decide +kernel
set_option maxRecDepth 20000 in
theorem iX8_setDeterminant_X8 : ∀ w ∈ u_ws RX8 TX8 35, w ∈ wsX8_setDeterminant := by decide +kernel
set_option maxHeartbeats 4000000 in
set_option maxRecDepth 20000 in
theorem bX8_setDeterminant_97 (C : hv_C p s m args meth c cX8_setDeterminant 6 wsX8_setDeterminant RX8 D (hv_tys cy)) (hr : meth.sig.returnType = (some .long)) {n : Nat} {o : Int64 × hv_St} {r5 : hv_St → Int32 → Int32 → Int32 → Int32 → Option (Int64 × hv_St)} (hr5 : ∀ (σ : hv_St) (x1 : Int32) (x2 : Int32) (x3 : Int32) (x4 : Int32), r5 σ x1 x2 x3 x4 = some o → hv_G p l e (headSpec wsX8_setDeterminant rmX8_setDeterminant).room s m args below meth c 6 D 23 a (hv_ME a cy) 0 0 (hv_MQ D 23 a (hv_ME a cy) below args s (some (.long o.1)) o.2) σ 5 [(0, .ref (a 0)), (1, .int (x1)), (2, .int (x2)), (3, .int (x3)), (4, .int (x4))] []) : ∀ (σ : hv_St) (x1 : Int32) (x2 : Int32) (x3 : Int32) (x4 : Int32), kX8_setDeterminant_97 n r5 σ x1 x2 x3 x4 = some o → hv_G p l e (headSpec wsX8_setDeterminant rmX8_setDeterminant).room s m args below meth c 6 D 23 a (hv_ME a cy) 0 0 (hv_MQ D 23 a (hv_ME a cy) below args s (some (.long o.1)) o.2) σ 97 [(0, .ref (a 0)), (1, .int (x1)), (2, .int (x2)), (3, .int (x3)), (4, .int (x4))] [] := by
  intro σ x1 x2 x3 x4 h
  unfold kX8_setDeterminant_97 at h
  refine g_iinc (pc := 97) C 4 (v := x4 + 1) (lv' := [(4, .int (x4 + 1)), (0, .ref (a 0)), (1, .int (x1)), (2, .int (x2)), (3, .int (x3))]) dX8_setDeterminant_97 rfl rfl (Nat.le_of_ble_eq_true rfl) rfl ?_
  refine g_goto (pc := 100) C (tgt := 5) dX8_setDeterminant_100 (by decide) ?_
  exact g_lv [1, 2, 3, 4, 0] rfl (hr5 σ (x1) (x2) (x3) (x4 + 1) h)
set_option maxHeartbeats 4000000 in
set_option maxRecDepth 20000 in
theorem bX8_setDeterminant_87 (C : hv_C p s m args meth c cX8_setDeterminant 6 wsX8_setDeterminant RX8 D (hv_tys cy)) (hr : meth.sig.returnType = (some .long)) {n : Nat} {o : Int64 × hv_St} {r5 : hv_St → Int32 → Int32 → Int32 → Int32 → Option (Int64 × hv_St)} {r29 : hv_St → Int32 → Int32 → Int32 → Int32 → Int32 → Option (Int64 × hv_St)} (hr5 : ∀ (σ : hv_St) (x1 : Int32) (x2 : Int32) (x3 : Int32) (x4 : Int32), r5 σ x1 x2 x3 x4 = some o → hv_G p l e (headSpec wsX8_setDeterminant rmX8_setDeterminant).room s m args below meth c 6 D 23 a (hv_ME a cy) 0 0 (hv_MQ D 23 a (hv_ME a cy) below args s (some (.long o.1)) o.2) σ 5 [(0, .ref (a 0)), (1, .int (x1)), (2, .int (x2)), (3, .int (x3)), (4, .int (x4))] []) (hr29 : ∀ (σ : hv_St) (x1 : Int32) (x2 : Int32) (x3 : Int32) (x4 : Int32) (x5 : Int32), r29 σ x1 x2 x3 x4 x5 = some o → hv_G p l e (headSpec wsX8_setDeterminant rmX8_setDeterminant).room s m args below meth c 6 D 23 a (hv_ME a cy) 0 0 (hv_MQ D 23 a (hv_ME a cy) below args s (some (.long o.1)) o.2) σ 29 [(0, .ref (a 0)), (1, .int (x1)), (2, .int (x2)), (3, .int (x3)), (4, .int (x4)), (5, .int (x5))] []) : ∀ (σ : hv_St) (x1 : Int32) (x2 : Int32) (x3 : Int32) (x4 : Int32) (x5 : Int32) (z0 : Int64) (z1 : Int32), kX8_setDeterminant_87 n r5 r29 σ x1 x2 x3 x4 x5 z0 z1 = some o → hv_G p l e (headSpec wsX8_setDeterminant rmX8_setDeterminant).room s m args below meth c 6 D 23 a (hv_ME a cy) 0 0 (hv_MQ D 23 a (hv_ME a cy) below args s (some (.long o.1)) o.2) σ 87 [(0, .ref (a 0)), (1, .int (x1)), (2, .int (x2)), (3, .int (x3)), (4, .int (x4)), (5, .int (x5))] [.long (z0), .int (z1), .ref (a 13)] := by
  intro σ x1 x2 x3 x4 x5 z0 z1 h
  unfold kX8_setDeterminant_87 at h
  obtain ⟨k87, h⟩ := hv_if_some h
  obtain ⟨s87, es87, h⟩ := hv_let_some h
  refine gm_st_13 (pc := 87) C es87 k87 dX8_setDeterminant_87 ?_
  refine g_iinc (pc := 88) C 5 (v := x5 + 1) (lv' := [(5, .int (x5 + 1)), (0, .ref (a 0)), (1, .int (x1)), (2, .int (x2)), (3, .int (x3)), (4, .int (x4))]) dX8_setDeterminant_88 rfl rfl (Nat.le_of_ble_eq_true rfl) rfl ?_
  refine g_goto (pc := 91) C (tgt := 29) dX8_setDeterminant_91 (by decide) ?_
  exact g_lv [1, 2, 3, 4, 5, 0] rfl (hr29 s87 (x1) (x2) (x3) (x4) (x5 + 1) h)
set_option maxHeartbeats 4000000 in
set_option maxRecDepth 20000 in
theorem bX8_setDeterminant_29 (C : hv_C p s m args meth c cX8_setDeterminant 6 wsX8_setDeterminant RX8 D (hv_tys cy)) (hr : meth.sig.returnType = (some .long)) {n : Nat} {o : Int64 × hv_St} {r5 : hv_St → Int32 → Int32 → Int32 → Int32 → Option (Int64 × hv_St)} (hr5 : ∀ (σ : hv_St) (x1 : Int32) (x2 : Int32) (x3 : Int32) (x4 : Int32), r5 σ x1 x2 x3 x4 = some o → hv_G p l e (headSpec wsX8_setDeterminant rmX8_setDeterminant).room s m args below meth c 6 D 23 a (hv_ME a cy) 0 0 (hv_MQ D 23 a (hv_ME a cy) below args s (some (.long o.1)) o.2) σ 5 [(0, .ref (a 0)), (1, .int (x1)), (2, .int (x2)), (3, .int (x3)), (4, .int (x4))] []) : ∀ (i : Nat) (σ : hv_St) (x1 : Int32) (x2 : Int32) (x3 : Int32) (x4 : Int32) (x5 : Int32), kX8_setDeterminant_29 n r5 i σ x1 x2 x3 x4 x5 = some o → hv_G p l e (headSpec wsX8_setDeterminant rmX8_setDeterminant).room s m args below meth c 6 D 23 a (hv_ME a cy) 0 0 (hv_MQ D 23 a (hv_ME a cy) below args s (some (.long o.1)) o.2) σ 29 [(0, .ref (a 0)), (1, .int (x1)), (2, .int (x2)), (3, .int (x3)), (4, .int (x4)), (5, .int (x5))] [] := by
  intro i
  induction i with
  | zero =>
    intro σ x1 x2 x3 x4 x5 h
    cases h
  | succ i ih =>
    intro σ x1 x2 x3 x4 x5 h
    generalize hg : kX8_setDeterminant_29 n r5 i = r29 at ih
    have hr29 := ih
    replace h : kX8_setDeterminant_29_b n r5 r29 σ x1 x2 x3 x4 x5 = some o := by rw [← hg]; exact h
    unfold kX8_setDeterminant_29_b at h
    refine g_iload (pc := 29) C 5 dX8_setDeterminant_29 rfl ?_
    refine g_aload_n (pc := 31) C 0 dX8_setDeterminant_31 rfl rfl ?_
    refine gm_get_0_18 (pc := 32) C iX8_setDeterminant_X8 qX8_setDeterminant_F130 dX8_setDeterminant_32 ?_
    refine g_icmp_ge (pc := 35) (tgt := 94) C dX8_setDeterminant_35 (by decide) (fun c35 => ?_) (fun c35 => ?_)
    · rw [if_pos c35] at h
      refine g_iinc (pc := 94) C 3 (v := x3 + 1) (lv' := [(3, .int (x3 + 1)), (0, .ref (a 0)), (1, .int (x1)), (2, .int (x2)), (4, .int (x4)), (5, .int (x5))]) dX8_setDeterminant_94 rfl rfl (Nat.le_of_ble_eq_true rfl) rfl ?_
      exact g_lv [1, 2, 3, 0, 4] rfl (bX8_setDeterminant_97 C hr hr5 σ (x1) (x2) (x3 + 1) (x4) h)
    · rw [if_neg c35] at h
      refine g_aload_n (pc := 38) C 0 dX8_setDeterminant_38 rfl rfl ?_
      refine gm_get_0_19 (pc := 39) C iX8_setDeterminant_X8 qX8_setDeterminant_F46 dX8_setDeterminant_39 ?_
      refine g_bipush (pc := 42) C (v := (12 : Int32)) dX8_setDeterminant_42 (by decide) ?_
      refine g_iload (pc := 44) C 5 dX8_setDeterminant_44 rfl ?_
      refine g_imul (pc := 46) C dX8_setDeterminant_46 ?_
      refine g_iload_n (pc := 47) C 3 dX8_setDeterminant_47 rfl rfl ?_
      refine g_iadd (pc := 48) C dX8_setDeterminant_48 ?_
      refine g_iload (pc := 49) C 4 dX8_setDeterminant_49 rfl ?_
      refine g_iload_n (pc := 51) C 2 dX8_setDeterminant_51 rfl rfl ?_
      refine g_icmp_ne (pc := 52) (tgt := 66) C dX8_setDeterminant_52 (by decide) (fun c52 => ?_) (fun c52 => ?_)
      · rw [if_neg c52] at h
        refine g_aload_n (pc := 66) C 0 dX8_setDeterminant_66 rfl rfl ?_
        refine g_iload (pc := 67) C 4 dX8_setDeterminant_67 rfl ?_
        refine g_aload_n (pc := 69) C 0 dX8_setDeterminant_69 rfl rfl ?_
        refine gm_get_0_16 (pc := 70) C iX8_setDeterminant_X8 qX8_setDeterminant_F40 dX8_setDeterminant_70 ?_
        refine g_iload (pc := 73) C 5 dX8_setDeterminant_73 rfl ?_
        obtain ⟨k75, h⟩ := hv_if_some h
        refine gm_ld_11 (pc := 75) C k75 dX8_setDeterminant_75 ?_
        refine g_aload_n (pc := 76) C 0 dX8_setDeterminant_76 rfl rfl ?_
        refine gm_get_0_17 (pc := 77) C iX8_setDeterminant_X8 qX8_setDeterminant_F43 dX8_setDeterminant_77 ?_
        refine g_iload (pc := 80) C 5 dX8_setDeterminant_80 rfl ?_
        obtain ⟨k82, h⟩ := hv_if_some h
        refine gm_ld_12 (pc := 82) C k82 dX8_setDeterminant_82 ?_
        obtain ⟨r83, s83, hc83, h⟩ := hv_b2_some h
        refine g_callV (pc := 83) (σ1 := s83) (v := (some (.int (r83)))) (As := [.int (x4), .int (σ.1 11 (x5).toNatClampNeg), .int (σ.1 12 (x5).toNatClampNeg)]) (rest := [.int ((((12 : Int32)) * (x5)) + (x3)), .ref (a 13)]) C 0 (vX8_brings hc83) (cwV 3 C.1.2.2.2.2 gX8_setDeterminant_X8_brings rfl rfl rfl (by decide +kernel) ⟨Nat.le_of_ble_eq_true rfl, Nat.le_of_ble_eq_true rfl⟩) (Nat.le_of_ble_eq_true rfl) rfl rfl rfl rfl (Nat.le_of_ble_eq_true rfl) dX8_setDeterminant_83 ⟨Nat.zero_le _, Nat.zero_le _⟩ ?_
        refine g_st (st' := [.int (r83), .int ((((12 : Int32)) * (x5)) + (x3)), .ref (a 13)]) rfl ?_
        refine g_i2l (pc := 86) C dX8_setDeterminant_86 ?_
        exact g_lv [0, 1, 2, 3, 4, 5] rfl (bX8_setDeterminant_87 C hr hr5 hr29 s83 (x1) (x2) (x3) (x4) (x5) ((r83).toInt64) ((((12 : Int32)) * (x5)) + (x3)) h)
      · rw [if_pos c52] at h
        refine g_aload_n (pc := 55) C 0 dX8_setDeterminant_55 rfl rfl ?_
        refine gm_get_0_22 (pc := 56) C iX8_setDeterminant_X8 qX8_setDeterminant_F50 dX8_setDeterminant_56 ?_
        refine g_iload (pc := 59) C 5 dX8_setDeterminant_59 rfl ?_
        obtain ⟨k61, h⟩ := hv_if_some h
        refine gm_ld_14 (pc := 61) C k61 dX8_setDeterminant_61 ?_
        refine g_i2l (pc := 62) C dX8_setDeterminant_62 ?_
        refine g_goto (pc := 63) C (tgt := 87) dX8_setDeterminant_63 (by decide) ?_
        exact g_lv [0, 1, 2, 3, 4, 5] rfl (bX8_setDeterminant_87 C hr hr5 hr29 σ (x1) (x2) (x3) (x4) (x5) ((σ.1 14 (x5).toNatClampNeg).toInt64) ((((12 : Int32)) * (x5)) + (x3)) h)
set_option maxHeartbeats 4000000 in
set_option maxRecDepth 20000 in
theorem bX8_setDeterminant_5 (C : hv_C p s m args meth c cX8_setDeterminant 6 wsX8_setDeterminant RX8 D (hv_tys cy)) (hr : meth.sig.returnType = (some .long)) {n : Nat} {o : Int64 × hv_St} : ∀ (i : Nat) (σ : hv_St) (x1 : Int32) (x2 : Int32) (x3 : Int32) (x4 : Int32), kX8_setDeterminant_5 n i σ x1 x2 x3 x4 = some o → hv_G p l e (headSpec wsX8_setDeterminant rmX8_setDeterminant).room s m args below meth c 6 D 23 a (hv_ME a cy) 0 0 (hv_MQ D 23 a (hv_ME a cy) below args s (some (.long o.1)) o.2) σ 5 [(0, .ref (a 0)), (1, .int (x1)), (2, .int (x2)), (3, .int (x3)), (4, .int (x4))] [] := by
  intro i
  induction i with
  | zero =>
    intro σ x1 x2 x3 x4 h
    cases h
  | succ i ih =>
    intro σ x1 x2 x3 x4 h
    generalize hg : kX8_setDeterminant_5 n i = r5 at ih
    have hr5 := ih
    replace h : kX8_setDeterminant_5_b n r5 σ x1 x2 x3 x4 = some o := by rw [← hg]; exact h
    unfold kX8_setDeterminant_5_b at h
    refine g_iload (pc := 5) C 4 dX8_setDeterminant_5 rfl ?_
    refine g_aload_n (pc := 7) C 0 dX8_setDeterminant_7 rfl rfl ?_
    refine gm_get_0_6 (pc := 8) C iX8_setDeterminant_X8 qX8_setDeterminant_F88 dX8_setDeterminant_8 ?_
    refine g_icmp_ge (pc := 11) (tgt := 103) C dX8_setDeterminant_11 (by decide) (fun c11 => ?_) (fun c11 => ?_)
    · rw [if_pos c11] at h
      refine g_aload_n (pc := 103) C 0 dX8_setDeterminant_103 rfl rfl ?_
      refine g_aload_n (pc := 104) C 0 dX8_setDeterminant_104 rfl rfl ?_
      refine gm_get_0_18 (pc := 105) C iX8_setDeterminant_X8 qX8_setDeterminant_F130 dX8_setDeterminant_105 ?_
      obtain ⟨r108, s108, hc108, h⟩ := hv_b2_some h
      refine g_callV (pc := 108) (σ1 := s108) (v := (some (.long (r108)))) (As := [.int (σ.1 0 18)]) (rest := []) C 0 (vX8_determinant hc108) (cwV 1 C.1.2.2.2.2 gX8_setDeterminant_X8_determinant rfl rfl rfl (by decide +kernel) ⟨Nat.le_of_ble_eq_true rfl, Nat.le_of_ble_eq_true rfl⟩) (Nat.le_of_ble_eq_true rfl) rfl rfl rfl rfl (Nat.le_of_ble_eq_true rfl) dX8_setDeterminant_108 ⟨Nat.zero_le _, Nat.zero_le _⟩ ?_
      refine g_st (st' := [.long (r108)]) rfl ?_
      cases h
      exact g_lret (pc := 111) C hr dX8_setDeterminant_111
    · rw [if_neg c11] at h
      refine g_iload_n (pc := 14) C 1 dX8_setDeterminant_14 rfl rfl ?_
      refine g_iload (pc := 15) C 4 dX8_setDeterminant_15 rfl ?_
      obtain ⟨r17, s17, hc17, h⟩ := hv_b2_some h
      refine g_callS (pc := 17) (σ1 := s17) (v := (some (.int (r17)))) (As := [.int (x1), .int (x4)]) (rest := []) C (vX8_isOn hc17) (va_cwS 2 C.1.2.2.2.2 gX8_setDeterminant_X8_isOn rfl rfl rfl (by decide +kernel) ⟨Nat.le_of_ble_eq_true rfl, Nat.le_of_ble_eq_true rfl⟩) rfl rfl (Nat.le_of_ble_eq_true rfl) dX8_setDeterminant_17 ⟨Nat.zero_le _, Nat.zero_le _⟩ ?_
      refine g_st (st' := [.int (r17)]) rfl ?_
      refine g_if_ne (pc := 20) (tgt := 26) C dX8_setDeterminant_20 (by decide) (fun c20 => ?_) (fun c20 => ?_)
      · rw [if_neg c20] at h
        refine g_iconst (pc := 26) C (v := (0 : Int32)) dX8_setDeterminant_26 (by decide) ?_
        refine g_istore (pc := 27) C (lv' := [(5, .int ((0 : Int32))), (0, .ref (a 0)), (1, .int (x1)), (2, .int (x2)), (3, .int (x3)), (4, .int (x4))]) rfl dX8_setDeterminant_27 (Nat.le_of_ble_eq_true rfl) rfl ?_
        exact g_lv [1, 2, 3, 4, 5, 0] rfl (bX8_setDeterminant_29 C hr hr5 n s17 (x1) (x2) (x3) (x4) ((0 : Int32)) h)
      · rw [if_pos c20] at h
        refine g_goto (pc := 23) C (tgt := 97) dX8_setDeterminant_23 (by decide) ?_
        exact g_lv [0, 1, 2, 3, 4] rfl (bX8_setDeterminant_97 C hr hr5 s17 (x1) (x2) (x3) (x4) h)
set_option maxHeartbeats 4000000 in
set_option maxRecDepth 20000 in
theorem vX8_setDeterminant {n : Nat} {σ : hv_St} {p0 : Int32} {p1 : Int32} {o : Int64 × hv_St} (h : mX8_setDeterminant n σ p0 p1 = some o) : hv_M l yX8_setDeterminant wsX8_setDeterminant rmX8_setDeterminant D (hv_tys cy) 23 a (hv_ME a cy) [.ref (a 0), .int (p0), .int (p1)] σ (some (.long o.1)) o.2 := by
  refine hv_enter (own := RX8) (cc := cX8_setDeterminant) (maxL := 6) (ret := (some .long)) (by decide) rfl rfl (Nat.le_of_ble_eq_true rfl) ?_
  intro p e s m args below meth c C hr
  unfold mX8_setDeterminant at h
  refine g_lv [0, 1, 2] (lv' := [(0, .ref (a 0)), (1, .int (p0)), (2, .int (p1))]) rfl ?_
  refine g_iconst (pc := 0) C (v := (0 : Int32)) dX8_setDeterminant_0 (by decide) ?_
  refine g_istore_n (pc := 1) C (lv' := [(3, .int ((0 : Int32))), (0, .ref (a 0)), (1, .int (p0)), (2, .int (p1))]) rfl dX8_setDeterminant_1 rfl (Nat.le_of_ble_eq_true rfl) rfl ?_
  refine g_iconst (pc := 2) C (v := (0 : Int32)) dX8_setDeterminant_2 (by decide) ?_
  refine g_istore (pc := 3) C (lv' := [(4, .int ((0 : Int32))), (3, .int ((0 : Int32))), (0, .ref (a 0)), (1, .int (p0)), (2, .int (p1))]) rfl dX8_setDeterminant_3 (Nat.le_of_ble_eq_true rfl) rfl ?_
  exact g_lv [2, 3, 4, 1, 0] rfl (bX8_setDeterminant_5 C hr n σ (p0) (p1) ((0 : Int32)) ((0 : Int32)) h)
abbrev rmX8_takesLoads : Room := { frames := 0, cells := 0, slots := 0, locals := 0 }
set_option maxRecDepth 20000 in
theorem qX8_takesLoads_F19 : Cond.fieldLink RX8 19 "PinFrameModel" "loads" "[I" ∈ wsX8_takesLoads := by decide +kernel
set_option maxRecDepth 20000 in
theorem qX8_takesLoads_F56 : Cond.fieldLink RX8 56 "PinFrameModel" "taken" "[I" ∈ wsX8_takesLoads := by decide +kernel
set_option maxRecDepth 20000 in
theorem iX8_takesLoads_X8 : ∀ w ∈ u_ws RX8 TX8 35, w ∈ wsX8_takesLoads := by decide +kernel
set_option maxHeartbeats 4000000 in
set_option maxRecDepth 20000 in
theorem bX8_takesLoads_2 (C : hv_C p s m args meth c cX8_takesLoads 2 wsX8_takesLoads RX8 D (hv_tys cy)) (hr : meth.sig.returnType = none) {n : Nat} {o : hv_St} : ∀ (i : Nat) (σ : hv_St) (x1 : Int32), kX8_takesLoads_2 n i σ x1 = some o → hv_G p l e (headSpec wsX8_takesLoads rmX8_takesLoads).room s m args below meth c 2 D 23 a (hv_ME a cy) 0 0 (hv_MQ D 23 a (hv_ME a cy) below args s none o) σ 2 [(0, .ref (a 0)), (1, .int (x1))] [] := by
  intro i
  induction i with
  | zero =>
    intro σ x1 h
    cases h
  | succ i ih =>
    intro σ x1 h
    generalize hg : kX8_takesLoads_2 n i = r2 at ih
    have hr2 := ih
    replace h : kX8_takesLoads_2_b n r2 σ x1 = some o := by rw [← hg]; exact h
    unfold kX8_takesLoads_2_b at h
    refine g_iload_n (pc := 2) C 1 dX8_takesLoads_2 rfl rfl ?_
    refine g_bipush (pc := 3) C (v := (12 : Int32)) dX8_takesLoads_3 (by decide) ?_
    refine g_icmp_ge (pc := 5) (tgt := 26) C dX8_takesLoads_5 (by decide) (fun c5 => ?_) (fun c5 => ?_)
    · rw [if_pos c5] at h
      cases h
      exact g_vret (pc := 26) C hr dX8_takesLoads_26
    · rw [if_neg c5] at h
      refine g_aload_n (pc := 8) C 0 dX8_takesLoads_8 rfl rfl ?_
      refine gm_get_0_25 (pc := 9) C iX8_takesLoads_X8 qX8_takesLoads_F56 dX8_takesLoads_9 ?_
      refine g_iload_n (pc := 12) C 1 dX8_takesLoads_12 rfl rfl ?_
      refine g_aload_n (pc := 13) C 0 dX8_takesLoads_13 rfl rfl ?_
      refine gm_get_0_5 (pc := 14) C iX8_takesLoads_X8 qX8_takesLoads_F19 dX8_takesLoads_14 ?_
      refine g_iload_n (pc := 17) C 1 dX8_takesLoads_17 rfl rfl ?_
      obtain ⟨k18, h⟩ := hv_if_some h
      refine gm_ld_4 (pc := 18) C k18 dX8_takesLoads_18 ?_
      obtain ⟨k19, h⟩ := hv_if_some h
      obtain ⟨s19, es19, h⟩ := hv_let_some h
      refine gm_st_16 (pc := 19) C es19 k19 dX8_takesLoads_19 ?_
      refine g_iinc (pc := 20) C 1 (v := x1 + 1) (lv' := [(1, .int (x1 + 1)), (0, .ref (a 0))]) dX8_takesLoads_20 rfl rfl (Nat.le_of_ble_eq_true rfl) rfl ?_
      refine g_goto (pc := 23) C (tgt := 2) dX8_takesLoads_23 (by decide) ?_
      exact g_lv [1, 0] rfl (hr2 s19 (x1 + 1) h)
set_option maxHeartbeats 4000000 in
set_option maxRecDepth 20000 in
theorem vX8_takesLoads {n : Nat} {σ : hv_St} {o : hv_St} (h : mX8_takesLoads n σ = some o) : hv_M l yX8_takesLoads wsX8_takesLoads rmX8_takesLoads D (hv_tys cy) 23 a (hv_ME a cy) [.ref (a 0)] σ none o := by
  refine hv_enter (own := RX8) (cc := cX8_takesLoads) (maxL := 2) (ret := none) (by decide) rfl rfl (Nat.le_of_ble_eq_true rfl) ?_
  intro p e s m args below meth c C hr
  unfold mX8_takesLoads at h
  refine g_lv [0] (lv' := [(0, .ref (a 0))]) rfl ?_
  refine g_iconst (pc := 0) C (v := (0 : Int32)) dX8_takesLoads_0 (by decide) ?_
  refine g_istore_n (pc := 1) C (lv' := [(1, .int ((0 : Int32))), (0, .ref (a 0))]) rfl dX8_takesLoads_1 rfl (Nat.le_of_ble_eq_true rfl) rfl ?_
  exact g_lv [1, 0] rfl (bX8_takesLoads_2 C hr n σ ((0 : Int32)) h)
abbrev rmX8_takesNone : Room := { frames := 0, cells := 0, slots := 0, locals := 0 }
set_option maxRecDepth 20000 in
theorem qX8_takesNone_F56 : Cond.fieldLink RX8 56 "PinFrameModel" "taken" "[I" ∈ wsX8_takesNone := by decide +kernel
set_option maxRecDepth 20000 in
theorem iX8_takesNone_X8 : ∀ w ∈ u_ws RX8 TX8 35, w ∈ wsX8_takesNone := by decide +kernel
set_option maxHeartbeats 4000000 in
set_option maxRecDepth 20000 in
theorem bX8_takesNone_2 (C : hv_C p s m args meth c cX8_takesNone 2 wsX8_takesNone RX8 D (hv_tys cy)) (hr : meth.sig.returnType = none) {n : Nat} {o : hv_St} : ∀ (i : Nat) (σ : hv_St) (x1 : Int32), kX8_takesNone_2 n i σ x1 = some o → hv_G p l e (headSpec wsX8_takesNone rmX8_takesNone).room s m args below meth c 2 D 23 a (hv_ME a cy) 0 0 (hv_MQ D 23 a (hv_ME a cy) below args s none o) σ 2 [(0, .ref (a 0)), (1, .int (x1))] [] := by
  intro i
  induction i with
  | zero =>
    intro σ x1 h
    cases h
  | succ i ih =>
    intro σ x1 h
    generalize hg : kX8_takesNone_2 n i = r2 at ih
    have hr2 := ih
    replace h : kX8_takesNone_2_b n r2 σ x1 = some o := by rw [← hg]; exact h
    unfold kX8_takesNone_2_b at h
    refine g_iload_n (pc := 2) C 1 dX8_takesNone_2 rfl rfl ?_
    refine g_bipush (pc := 3) C (v := (12 : Int32)) dX8_takesNone_3 (by decide) ?_
    refine g_icmp_ge (pc := 5) (tgt := 21) C dX8_takesNone_5 (by decide) (fun c5 => ?_) (fun c5 => ?_)
    · rw [if_pos c5] at h
      cases h
      exact g_vret (pc := 21) C hr dX8_takesNone_21
    · rw [if_neg c5] at h
      refine g_aload_n (pc := 8) C 0 dX8_takesNone_8 rfl rfl ?_
      refine gm_get_0_25 (pc := 9) C iX8_takesNone_X8 qX8_takesNone_F56 dX8_takesNone_9 ?_
      refine g_iload_n (pc := 12) C 1 dX8_takesNone_12 rfl rfl ?_
      refine g_iconst (pc := 13) C (v := (0 : Int32)) dX8_takesNone_13 (by decide) ?_
      obtain ⟨k14, h⟩ := hv_if_some h
      obtain ⟨s14, es14, h⟩ := hv_let_some h
      refine gm_st_16 (pc := 14) C es14 k14 dX8_takesNone_14 ?_
      refine g_iinc (pc := 15) C 1 (v := x1 + 1) (lv' := [(1, .int (x1 + 1)), (0, .ref (a 0))]) dX8_takesNone_15 rfl rfl (Nat.le_of_ble_eq_true rfl) rfl ?_
      refine g_goto (pc := 18) C (tgt := 2) dX8_takesNone_18 (by decide) ?_
      exact g_lv [1, 0] rfl (hr2 s14 (x1 + 1) h)
set_option maxHeartbeats 4000000 in
set_option maxRecDepth 20000 in
theorem vX8_takesNone {n : Nat} {σ : hv_St} {o : hv_St} (h : mX8_takesNone n σ = some o) : hv_M l yX8_takesNone wsX8_takesNone rmX8_takesNone D (hv_tys cy) 23 a (hv_ME a cy) [.ref (a 0)] σ none o := by
  refine hv_enter (own := RX8) (cc := cX8_takesNone) (maxL := 2) (ret := none) (by decide) rfl rfl (Nat.le_of_ble_eq_true rfl) ?_
  intro p e s m args below meth c C hr
  unfold mX8_takesNone at h
  refine g_lv [0] (lv' := [(0, .ref (a 0))]) rfl ?_
  refine g_iconst (pc := 0) C (v := (0 : Int32)) dX8_takesNone_0 (by decide) ?_
  refine g_istore_n (pc := 1) C (lv' := [(1, .int ((0 : Int32))), (0, .ref (a 0))]) rfl dX8_takesNone_1 rfl (Nat.le_of_ble_eq_true rfl) rfl ?_
  exact g_lv [1, 0] rfl (bX8_takesNone_2 C hr n σ ((0 : Int32)) h)
abbrev rmX8_laysColumn : Room := { frames := 0, cells := 0, slots := 0, locals := 0 }
set_option maxRecDepth 20000 in
theorem qX8_laysColumn_F130 : Cond.fieldLink RX8 130 "PinFrameModel" "free" "I" ∈ wsX8_laysColumn := by decide +kernel
set_option maxRecDepth 20000 in
theorem qX8_laysColumn_F40 : Cond.fieldLink RX8 40 "PinFrameModel" "freePin" "[I" ∈ wsX8_laysColumn := by decide +kernel
set_option maxRecDepth 20000 in
theorem qX8_laysColumn_F43 : Cond.fieldLink RX8 43 "PinFrameModel" "freeWay" "[I" ∈ wsX8_laysColumn := by decide +kernel
set_option maxRecDepth 20000 in
theorem qX8_laysColumn_F50 : Cond.fieldLink RX8 50 "PinFrameModel" "column" "[I" ∈ wsX8_laysColumn := by decide +kernel
set_option maxRecDepth 20000 in
theorem qX8_laysColumn_F56 : Cond.fieldLink RX8 56 "PinFrameModel" "taken" "[I" ∈ wsX8_laysColumn := by decide +kernel
set_option maxRecDepth 20000 in
theorem iX8_laysColumn_X8 : ∀ w ∈ u_ws RX8 TX8 35, w ∈ wsX8_laysColumn := by decide +kernel
set_option maxHeartbeats 4000000 in
set_option maxRecDepth 20000 in
theorem bX8_laysColumn_2 (C : hv_C p s m args meth c cX8_laysColumn 2 wsX8_laysColumn RX8 D (hv_tys cy)) (hr : meth.sig.returnType = none) {n : Nat} {o : hv_St} : ∀ (i : Nat) (σ : hv_St) (x1 : Int32), kX8_laysColumn_2 n i σ x1 = some o → hv_G p l e (headSpec wsX8_laysColumn rmX8_laysColumn).room s m args below meth c 2 D 23 a (hv_ME a cy) 0 0 (hv_MQ D 23 a (hv_ME a cy) below args s none o) σ 2 [(0, .ref (a 0)), (1, .int (x1))] [] := by
  intro i
  induction i with
  | zero =>
    intro σ x1 h
    cases h
  | succ i ih =>
    intro σ x1 h
    generalize hg : kX8_laysColumn_2 n i = r2 at ih
    have hr2 := ih
    replace h : kX8_laysColumn_2_b n r2 σ x1 = some o := by rw [← hg]; exact h
    unfold kX8_laysColumn_2_b at h
    refine g_iload_n (pc := 2) C 1 dX8_laysColumn_2 rfl rfl ?_
    refine g_aload_n (pc := 3) C 0 dX8_laysColumn_3 rfl rfl ?_
    refine gm_get_0_18 (pc := 4) C iX8_laysColumn_X8 qX8_laysColumn_F130 dX8_laysColumn_4 ?_
    refine g_icmp_ge (pc := 7) (tgt := 43) C dX8_laysColumn_7 (by decide) (fun c7 => ?_) (fun c7 => ?_)
    · rw [if_pos c7] at h
      cases h
      exact g_vret (pc := 43) C hr dX8_laysColumn_43
    · rw [if_neg c7] at h
      refine g_aload_n (pc := 10) C 0 dX8_laysColumn_10 rfl rfl ?_
      refine gm_get_0_22 (pc := 11) C iX8_laysColumn_X8 qX8_laysColumn_F50 dX8_laysColumn_11 ?_
      refine g_iload_n (pc := 14) C 1 dX8_laysColumn_14 rfl rfl ?_
      refine g_aload_n (pc := 15) C 0 dX8_laysColumn_15 rfl rfl ?_
      refine gm_get_0_25 (pc := 16) C iX8_laysColumn_X8 qX8_laysColumn_F56 dX8_laysColumn_16 ?_
      refine g_iconst (pc := 19) C (v := (2 : Int32)) dX8_laysColumn_19 (by decide) ?_
      refine g_aload_n (pc := 20) C 0 dX8_laysColumn_20 rfl rfl ?_
      refine gm_get_0_16 (pc := 21) C iX8_laysColumn_X8 qX8_laysColumn_F40 dX8_laysColumn_21 ?_
      refine g_iload_n (pc := 24) C 1 dX8_laysColumn_24 rfl rfl ?_
      obtain ⟨k25, h⟩ := hv_if_some h
      refine gm_ld_11 (pc := 25) C k25 dX8_laysColumn_25 ?_
      refine g_imul (pc := 26) C dX8_laysColumn_26 ?_
      refine g_aload_n (pc := 27) C 0 dX8_laysColumn_27 rfl rfl ?_
      refine gm_get_0_17 (pc := 28) C iX8_laysColumn_X8 qX8_laysColumn_F43 dX8_laysColumn_28 ?_
      refine g_iload_n (pc := 31) C 1 dX8_laysColumn_31 rfl rfl ?_
      obtain ⟨k32, h⟩ := hv_if_some h
      refine gm_ld_12 (pc := 32) C k32 dX8_laysColumn_32 ?_
      refine g_iadd (pc := 33) C dX8_laysColumn_33 ?_
      obtain ⟨k34, h⟩ := hv_if_some h
      refine gm_ld_16 (pc := 34) C k34 dX8_laysColumn_34 ?_
      refine g_ineg (pc := 35) C dX8_laysColumn_35 ?_
      obtain ⟨k36, h⟩ := hv_if_some h
      obtain ⟨s36, es36, h⟩ := hv_let_some h
      refine gm_st_14 (pc := 36) C es36 k36 dX8_laysColumn_36 ?_
      refine g_iinc (pc := 37) C 1 (v := x1 + 1) (lv' := [(1, .int (x1 + 1)), (0, .ref (a 0))]) dX8_laysColumn_37 rfl rfl (Nat.le_of_ble_eq_true rfl) rfl ?_
      refine g_goto (pc := 40) C (tgt := 2) dX8_laysColumn_40 (by decide) ?_
      exact g_lv [1, 0] rfl (hr2 s36 (x1 + 1) h)
set_option maxHeartbeats 4000000 in
set_option maxRecDepth 20000 in
theorem vX8_laysColumn {n : Nat} {σ : hv_St} {o : hv_St} (h : mX8_laysColumn n σ = some o) : hv_M l yX8_laysColumn wsX8_laysColumn rmX8_laysColumn D (hv_tys cy) 23 a (hv_ME a cy) [.ref (a 0)] σ none o := by
  refine hv_enter (own := RX8) (cc := cX8_laysColumn) (maxL := 2) (ret := none) (by decide) rfl rfl (Nat.le_of_ble_eq_true rfl) ?_
  intro p e s m args below meth c C hr
  unfold mX8_laysColumn at h
  refine g_lv [0] (lv' := [(0, .ref (a 0))]) rfl ?_
  refine g_iconst (pc := 0) C (v := (0 : Int32)) dX8_laysColumn_0 (by decide) ?_
  refine g_istore_n (pc := 1) C (lv' := [(1, .int ((0 : Int32))), (0, .ref (a 0))]) rfl dX8_laysColumn_1 rfl (Nat.le_of_ble_eq_true rfl) rfl ?_
  exact g_lv [1, 0] rfl (bX8_laysColumn_2 C hr n σ ((0 : Int32)) h)
abbrev rmX8_addsSet : Room := { frames := 3, cells := 0, slots := 0, locals := 80 }
set_option maxRecDepth 20000 in
theorem qX8_addsSet_F189 : Cond.fieldLink RX8 189 "PinFrameModel" "under" "J" ∈ wsX8_addsSet := by decide +kernel
set_option maxRecDepth 20000 in
theorem qX8_addsSet_F28 : Cond.fieldLink RX8 28 "PinFrameModel" "give" "[I" ∈ wsX8_addsSet := by decide +kernel
set_option maxRecDepth 20000 in
theorem qX8_addsSet_F53 : Cond.fieldLink RX8 53 "PinFrameModel" "over" "[J" ∈ wsX8_addsSet := by decide +kernel
set_option maxRecDepth 20000 in
theorem qX8_addsSet_F88 : Cond.fieldLink RX8 88 "PinFrameModel" "bars" "I" ∈ wsX8_addsSet := by decide +kernel
set_option maxRecDepth 20000 in
theorem iX8_addsSet_X8 : ∀ w ∈ u_ws RX8 TX8 35, w ∈ wsX8_addsSet := by decide +kernel
set_option maxHeartbeats 4000000 in
set_option maxRecDepth 20000 in
theorem bX8_addsSet_124 (C : hv_C p s m args meth c cX8_addsSet 8 wsX8_addsSet RX8 D (hv_tys cy)) (hr : meth.sig.returnType = none) {n : Nat} {o : hv_St} {r75 : hv_St → Int32 → Int64 → Int64 → Int32 → Option (hv_St)} (hr75 : ∀ (σ : hv_St) (x1 : Int32) (x3 : Int64) (x5 : Int64) (x7 : Int32), r75 σ x1 x3 x5 x7 = some o → hv_G p l e (headSpec wsX8_addsSet rmX8_addsSet).room s m args below meth c 8 D 23 a (hv_ME a cy) 0 0 (hv_MQ D 23 a (hv_ME a cy) below args s none o) σ 75 [(0, .ref (a 0)), (1, .int (x1)), (3, .long (x3)), (5, .long (x5)), (7, .int (x7))] []) : ∀ (σ : hv_St) (x1 : Int32) (x3 : Int64) (x5 : Int64) (x7 : Int32) (z0 : Int64) (z1 : Int64) (z2 : Int32), kX8_addsSet_124 n r75 σ x1 x3 x5 x7 z0 z1 z2 = some o → hv_G p l e (headSpec wsX8_addsSet rmX8_addsSet).room s m args below meth c 8 D 23 a (hv_ME a cy) 0 0 (hv_MQ D 23 a (hv_ME a cy) below args s none o) σ 124 [(0, .ref (a 0)), (1, .int (x1)), (3, .long (x3)), (5, .long (x5)), (7, .int (x7))] [.long (z0), .long (z1), .int (z2), .ref (a 15)] := by
  intro σ x1 x3 x5 x7 z0 z1 z2 h
  unfold kX8_addsSet_124 at h
  refine g_ladd (pc := 124) C dX8_addsSet_124 ?_
  obtain ⟨k125, h⟩ := hv_if_some h
  obtain ⟨s125, es125, h⟩ := hv_let_some h
  refine gm_st_15 (pc := 125) C es125 k125 dX8_addsSet_125 ?_
  refine g_iinc (pc := 126) C 4 (v := x7 + 1) (lv' := [(7, .int (x7 + 1)), (0, .ref (a 0)), (1, .int (x1)), (3, .long (x3)), (5, .long (x5))]) dX8_addsSet_126 rfl rfl (Nat.le_of_ble_eq_true rfl) rfl ?_
  refine g_goto (pc := 129) C (tgt := 75) dX8_addsSet_129 (by decide) ?_
  exact g_lv [1, 2, 3, 4, 0] rfl (hr75 s125 (x1) (x3) (x5) (x7 + 1) h)
set_option maxHeartbeats 4000000 in
set_option maxRecDepth 20000 in
theorem bX8_addsSet_75 (C : hv_C p s m args meth c cX8_addsSet 8 wsX8_addsSet RX8 D (hv_tys cy)) (hr : meth.sig.returnType = none) {n : Nat} {o : hv_St} : ∀ (i : Nat) (σ : hv_St) (x1 : Int32) (x3 : Int64) (x5 : Int64) (x7 : Int32), kX8_addsSet_75 n i σ x1 x3 x5 x7 = some o → hv_G p l e (headSpec wsX8_addsSet rmX8_addsSet).room s m args below meth c 8 D 23 a (hv_ME a cy) 0 0 (hv_MQ D 23 a (hv_ME a cy) below args s none o) σ 75 [(0, .ref (a 0)), (1, .int (x1)), (3, .long (x3)), (5, .long (x5)), (7, .int (x7))] [] := by
  intro i
  induction i with
  | zero =>
    intro σ x1 x3 x5 x7 h
    cases h
  | succ i ih =>
    intro σ x1 x3 x5 x7 h
    generalize hg : kX8_addsSet_75 n i = r75 at ih
    have hr75 := ih
    replace h : kX8_addsSet_75_b n r75 σ x1 x3 x5 x7 = some o := by rw [← hg]; exact h
    unfold kX8_addsSet_75_b at h
    refine g_iload (pc := 75) C 4 dX8_addsSet_75 rfl ?_
    refine g_aload_n (pc := 77) C 0 dX8_addsSet_77 rfl rfl ?_
    refine gm_get_0_6 (pc := 78) C iX8_addsSet_X8 qX8_addsSet_F88 dX8_addsSet_78 ?_
    refine g_icmp_ge (pc := 81) (tgt := 132) C dX8_addsSet_81 (by decide) (fun c81 => ?_) (fun c81 => ?_)
    · rw [if_pos c81] at h
      cases h
      exact g_vret (pc := 132) C hr dX8_addsSet_132
    · rw [if_neg c81] at h
      refine g_lload (pc := 84) C 3 dX8_addsSet_84 rfl ?_
      refine g_lconst (pc := 86) C (v := (0 : Int64)) dX8_addsSet_86 (by decide) ?_
      refine g_lcmp (pc := 87) C dX8_addsSet_87 ?_
      refine g_if_eq (pc := 88) (tgt := 132) C dX8_addsSet_88 (by decide) (fun c88 => ?_) (fun c88 => ?_)
      · rw [if_pos c88] at h
        cases h
        exact g_vret (pc := 132) C hr dX8_addsSet_132
      · rw [if_neg c88] at h
        refine g_aload_n (pc := 91) C 0 dX8_addsSet_91 rfl rfl ?_
        refine gm_get_0_23 (pc := 92) C iX8_addsSet_X8 qX8_addsSet_F53 dX8_addsSet_92 ?_
        refine g_iload (pc := 95) C 4 dX8_addsSet_95 rfl ?_
        refine g_dup2_11 (pc := 97) C dX8_addsSet_97 rfl rfl ?_
        obtain ⟨k98, h⟩ := hv_if_some h
        refine gm_ld_15 (pc := 98) C k98 dX8_addsSet_98 ?_
        refine g_iload_n (pc := 99) C 1 dX8_addsSet_99 rfl rfl ?_
        refine g_iload (pc := 100) C 4 dX8_addsSet_100 rfl ?_
        obtain ⟨r102, s102, hc102, h⟩ := hv_b2_some h
        refine g_callS (pc := 102) (σ1 := s102) (v := (some (.int (r102)))) (As := [.int (x1), .int (x7)]) (rest := [.long (σ.2 15 (x7).toNatClampNeg), .int (x7), .ref (a 15)]) C (vX8_isOn hc102) (va_cwS 2 C.1.2.2.2.2 gX8_addsSet_X8_isOn rfl rfl rfl (by decide +kernel) ⟨Nat.le_of_ble_eq_true rfl, Nat.le_of_ble_eq_true rfl⟩) rfl rfl (Nat.le_of_ble_eq_true rfl) dX8_addsSet_102 ⟨Nat.zero_le _, Nat.zero_le _⟩ ?_
        refine g_st (st' := [.int (r102), .long (σ.2 15 (x7).toNatClampNeg), .int (x7), .ref (a 15)]) rfl ?_
        refine g_if_eq (pc := 105) (tgt := 123) C dX8_addsSet_105 (by decide) (fun c105 => ?_) (fun c105 => ?_)
        · rw [if_pos c105] at h
          refine g_lconst (pc := 123) C (v := (0 : Int64)) dX8_addsSet_123 (by decide) ?_
          exact g_lv [0, 1, 2, 3, 4] rfl (bX8_addsSet_124 C hr hr75 s102 (x1) (x3) (x5) (x7) ((0 : Int64)) (σ.2 15 (x7).toNatClampNeg) (x7) h)
        · rw [if_neg c105] at h
          refine g_lload_n (pc := 108) C 2 dX8_addsSet_108 rfl rfl ?_
          refine g_lload (pc := 109) C 3 dX8_addsSet_109 rfl ?_
          refine g_lmul (pc := 111) C dX8_addsSet_111 ?_
          refine g_aload_n (pc := 112) C 0 dX8_addsSet_112 rfl rfl ?_
          refine g_iload_n (pc := 113) C 1 dX8_addsSet_113 rfl rfl ?_
          refine g_iload (pc := 114) C 4 dX8_addsSet_114 rfl ?_
          obtain ⟨r116, s116, hc116, h⟩ := hv_b2_some h
          refine g_callV (pc := 116) (σ1 := s116) (v := (some (.long (r116)))) (As := [.int (x1), .int (x7)]) (rest := [.long ((x3) * (x5)), .long (σ.2 15 (x7).toNatClampNeg), .int (x7), .ref (a 15)]) C 0 (vX8_setDeterminant hc116) (cwV 2 C.1.2.2.2.2 gX8_addsSet_X8_setDeterminant rfl rfl rfl (by decide +kernel) ⟨Nat.le_of_ble_eq_true rfl, Nat.le_of_ble_eq_true rfl⟩) (Nat.le_of_ble_eq_true rfl) rfl rfl rfl rfl (Nat.le_of_ble_eq_true rfl) dX8_addsSet_116 ⟨Nat.zero_le _, Nat.zero_le _⟩ ?_
          refine g_st (st' := [.long (r116), .long ((x3) * (x5)), .long (σ.2 15 (x7).toNatClampNeg), .int (x7), .ref (a 15)]) rfl ?_
          refine g_lmul (pc := 119) C dX8_addsSet_119 ?_
          refine g_goto (pc := 120) C (tgt := 124) dX8_addsSet_120 (by decide) ?_
          exact g_lv [0, 1, 2, 3, 4] rfl (bX8_addsSet_124 C hr hr75 s116 (x1) (x3) (x5) (x7) (((x3) * (x5)) * (r116)) (σ.2 15 (x7).toNatClampNeg) (x7) h)
set_option maxHeartbeats 4000000 in
set_option maxRecDepth 20000 in
theorem bX8_addsSet_40 (C : hv_C p s m args meth c cX8_addsSet 8 wsX8_addsSet RX8 D (hv_tys cy)) (hr : meth.sig.returnType = none) {n : Nat} {o : hv_St} {r5 : hv_St → Int32 → Int32 → Int64 → Int32 → Option (hv_St)} (hr5 : ∀ (σ : hv_St) (x1 : Int32) (x2 : Int32) (x3 : Int64) (x5 : Int32), r5 σ x1 x2 x3 x5 = some o → hv_G p l e (headSpec wsX8_addsSet rmX8_addsSet).room s m args below meth c 8 D 23 a (hv_ME a cy) 0 0 (hv_MQ D 23 a (hv_ME a cy) below args s none o) σ 5 [(0, .ref (a 0)), (1, .int (x1)), (2, .int (x2)), (3, .long (x3)), (5, .int (x5))] []) : ∀ (σ : hv_St) (x1 : Int32) (x2 : Int32) (x5 : Int32) (z0 : Int64) (z1 : Int64), kX8_addsSet_40 n r5 σ x1 x2 x5 z0 z1 = some o → hv_G p l e (headSpec wsX8_addsSet rmX8_addsSet).room s m args below meth c 8 D 23 a (hv_ME a cy) 0 0 (hv_MQ D 23 a (hv_ME a cy) below args s none o) σ 40 [(0, .ref (a 0)), (1, .int (x1)), (2, .int (x2)), (5, .int (x5))] [.long (z0), .long (z1)] := by
  intro σ x1 x2 x5 z0 z1 h
  unfold kX8_addsSet_40 at h
  refine g_lmul (pc := 40) C dX8_addsSet_40 ?_
  obtain ⟨y3_41, ey3_41, h⟩ := hv_let_some h
  refine g_lstore_n (pc := 41) C (lv' := [(3, .long (y3_41)), (0, .ref (a 0)), (1, .int (x1)), (2, .int (x2)), (5, .int (x5))]) ey3_41 dX8_addsSet_41 rfl (Nat.le_of_ble_eq_true rfl) rfl ?_
  refine g_iinc (pc := 42) C 4 (v := x5 + 1) (lv' := [(5, .int (x5 + 1)), (3, .long (y3_41)), (0, .ref (a 0)), (1, .int (x1)), (2, .int (x2))]) dX8_addsSet_42 rfl rfl (Nat.le_of_ble_eq_true rfl) rfl ?_
  refine g_goto (pc := 45) C (tgt := 5) dX8_addsSet_45 (by decide) ?_
  exact g_lv [2, 3, 4, 1, 0] rfl (hr5 σ (x1) (x2) (y3_41) (x5 + 1) h)
set_option maxHeartbeats 4000000 in
set_option maxRecDepth 20000 in
theorem bX8_addsSet_5 (C : hv_C p s m args meth c cX8_addsSet 8 wsX8_addsSet RX8 D (hv_tys cy)) (hr : meth.sig.returnType = none) {n : Nat} {o : hv_St} : ∀ (i : Nat) (σ : hv_St) (x1 : Int32) (x2 : Int32) (x3 : Int64) (x5 : Int32), kX8_addsSet_5 n i σ x1 x2 x3 x5 = some o → hv_G p l e (headSpec wsX8_addsSet rmX8_addsSet).room s m args below meth c 8 D 23 a (hv_ME a cy) 0 0 (hv_MQ D 23 a (hv_ME a cy) below args s none o) σ 5 [(0, .ref (a 0)), (1, .int (x1)), (2, .int (x2)), (3, .long (x3)), (5, .int (x5))] [] := by
  intro i
  induction i with
  | zero =>
    intro σ x1 x2 x3 x5 h
    cases h
  | succ i ih =>
    intro σ x1 x2 x3 x5 h
    generalize hg : kX8_addsSet_5 n i = r5 at ih
    have hr5 := ih
    replace h : kX8_addsSet_5_b n r5 σ x1 x2 x3 x5 = some o := by rw [← hg]; exact h
    unfold kX8_addsSet_5_b at h
    refine g_iload (pc := 5) C 4 dX8_addsSet_5 rfl ?_
    refine g_aload_n (pc := 7) C 0 dX8_addsSet_7 rfl rfl ?_
    refine gm_get_0_6 (pc := 8) C iX8_addsSet_X8 qX8_addsSet_F88 dX8_addsSet_8 ?_
    refine g_icmp_ge (pc := 11) (tgt := 48) C dX8_addsSet_11 (by decide) (fun c11 => ?_) (fun c11 => ?_)
    · rw [if_pos c11] at h
      refine g_aload_n (pc := 48) C 0 dX8_addsSet_48 rfl rfl ?_
      refine g_iload_n (pc := 49) C 1 dX8_addsSet_49 rfl rfl ?_
      refine g_iconst (pc := 50) C (v := (-1 : Int32)) dX8_addsSet_50 (by decide) ?_
      obtain ⟨r51, s51, hc51, h⟩ := hv_b2_some h
      refine g_callV (pc := 51) (σ1 := s51) (v := (some (.long (r51)))) (As := [.int (x1), .int ((-1 : Int32))]) (rest := []) C 0 (vX8_setDeterminant hc51) (cwV 2 C.1.2.2.2.2 gX8_addsSet_X8_setDeterminant rfl rfl rfl (by decide +kernel) ⟨Nat.le_of_ble_eq_true rfl, Nat.le_of_ble_eq_true rfl⟩) (Nat.le_of_ble_eq_true rfl) rfl rfl rfl rfl (Nat.le_of_ble_eq_true rfl) dX8_addsSet_51 ⟨Nat.zero_le _, Nat.zero_le _⟩ ?_
      refine g_st (st' := [.long (r51)]) rfl ?_
      refine g_lstore (pc := 54) C (lv' := [(5, .long (r51)), (0, .ref (a 0)), (1, .int (x1)), (2, .int (x2)), (3, .long (x3))]) rfl dX8_addsSet_54 (Nat.le_of_ble_eq_true rfl) rfl ?_
      refine g_aload_n (pc := 56) C 1 dX8_addsSet_56 rfl rfl ?_
      refine g_dup (pc := 57) C dX8_addsSet_57 rfl ?_
      refine gm_get_0_24 (pc := 58) C iX8_addsSet_X8 qX8_addsSet_F189 dX8_addsSet_58 ?_
      refine g_lload_n (pc := 61) C 4 dX8_addsSet_61 rfl rfl ?_
      refine g_lload (pc := 62) C 0 dX8_addsSet_62 rfl ?_
      refine g_lmul (pc := 64) C dX8_addsSet_64 ?_
      refine g_lload (pc := 65) C 0 dX8_addsSet_65 rfl ?_
      refine g_lmul (pc := 67) C dX8_addsSet_67 ?_
      refine g_ladd (pc := 68) C dX8_addsSet_68 ?_
      obtain ⟨s69, es69, h⟩ := hv_let_some h
      refine gm_put_0_24 (pc := 69) C es69 iX8_addsSet_X8 qX8_addsSet_F189 dX8_addsSet_69 ?_
      refine g_iconst (pc := 72) C (v := (0 : Int32)) dX8_addsSet_72 (by decide) ?_
      refine g_istore (pc := 73) C (lv' := [(7, .int ((0 : Int32))), (5, .long (r51)), (0, .ref (a 0)), (1, .int (x1)), (2, .int (x2)), (3, .long (x3))]) rfl dX8_addsSet_73 (Nat.le_of_ble_eq_true rfl) rfl ?_
      exact g_lv [2, 3, 5, 1, 0] rfl (bX8_addsSet_75 C hr n s69 (x1) (x3) (r51) ((0 : Int32)) h)
    · rw [if_neg c11] at h
      refine g_lload_n (pc := 14) C 3 dX8_addsSet_14 rfl rfl ?_
      refine g_iload_n (pc := 15) C 2 dX8_addsSet_15 rfl rfl ?_
      refine g_iload_n (pc := 16) C 1 dX8_addsSet_16 rfl rfl ?_
      refine g_iconst (pc := 17) C (v := (-1 : Int32)) dX8_addsSet_17 (by decide) ?_
      refine g_ixor (pc := 18) C dX8_addsSet_18 ?_
      refine g_iand (pc := 19) C dX8_addsSet_19 ?_
      refine g_iload (pc := 20) C 4 dX8_addsSet_20 rfl ?_
      obtain ⟨r22, s22, hc22, h⟩ := hv_b2_some h
      refine g_callS (pc := 22) (σ1 := s22) (v := (some (.int (r22)))) (As := [.int ((x2) &&& ((x1) ^^^ ((-1 : Int32)))), .int (x5)]) (rest := [.long (x3)]) C (vX8_isOn hc22) (va_cwS 2 C.1.2.2.2.2 gX8_addsSet_X8_isOn rfl rfl rfl (by decide +kernel) ⟨Nat.le_of_ble_eq_true rfl, Nat.le_of_ble_eq_true rfl⟩) rfl rfl (Nat.le_of_ble_eq_true rfl) dX8_addsSet_22 ⟨Nat.zero_le _, Nat.zero_le _⟩ ?_
      refine g_st (st' := [.int (r22), .long (x3)]) rfl ?_
      refine g_if_eq (pc := 25) (tgt := 39) C dX8_addsSet_25 (by decide) (fun c25 => ?_) (fun c25 => ?_)
      · rw [if_pos c25] at h
        refine g_lconst (pc := 39) C (v := (1 : Int64)) dX8_addsSet_39 (by decide) ?_
        exact g_lv [0, 1, 2, 4] rfl (bX8_addsSet_40 C hr hr5 s22 (x1) (x2) (x5) ((1 : Int64)) (x3) h)
      · rw [if_neg c25] at h
        refine g_aload_n (pc := 28) C 0 dX8_addsSet_28 rfl rfl ?_
        refine gm_get_0_9 (pc := 29) C iX8_addsSet_X8 qX8_addsSet_F28 dX8_addsSet_29 ?_
        refine g_iload (pc := 32) C 4 dX8_addsSet_32 rfl ?_
        obtain ⟨k34, h⟩ := hv_if_some h
        refine gm_ld_7 (pc := 34) C k34 dX8_addsSet_34 ?_
        refine g_i2l (pc := 35) C dX8_addsSet_35 ?_
        refine g_goto (pc := 36) C (tgt := 40) dX8_addsSet_36 (by decide) ?_
        exact g_lv [0, 1, 2, 4] rfl (bX8_addsSet_40 C hr hr5 s22 (x1) (x2) (x5) ((s22.1 7 (x5).toNatClampNeg).toInt64) (x3) h)
set_option maxHeartbeats 4000000 in
set_option maxRecDepth 20000 in
theorem vX8_addsSet {n : Nat} {σ : hv_St} {p0 : Int32} {p1 : Int32} {o : hv_St} (h : mX8_addsSet n σ p0 p1 = some o) : hv_M l yX8_addsSet wsX8_addsSet rmX8_addsSet D (hv_tys cy) 23 a (hv_ME a cy) [.ref (a 0), .int (p0), .int (p1)] σ none o := by
  refine hv_enter (own := RX8) (cc := cX8_addsSet) (maxL := 8) (ret := none) (by decide) rfl rfl (Nat.le_of_ble_eq_true rfl) ?_
  intro p e s m args below meth c C hr
  unfold mX8_addsSet at h
  refine g_lv [0, 1, 2] (lv' := [(0, .ref (a 0)), (1, .int (p0)), (2, .int (p1))]) rfl ?_
  refine g_lconst (pc := 0) C (v := (1 : Int64)) dX8_addsSet_0 (by decide) ?_
  refine g_lstore_n (pc := 1) C (lv' := [(3, .long ((1 : Int64))), (0, .ref (a 0)), (1, .int (p0)), (2, .int (p1))]) rfl dX8_addsSet_1 rfl (Nat.le_of_ble_eq_true rfl) rfl ?_
  refine g_iconst (pc := 2) C (v := (0 : Int32)) dX8_addsSet_2 (by decide) ?_
  refine g_istore (pc := 3) C (lv' := [(5, .int ((0 : Int32))), (3, .long ((1 : Int64))), (0, .ref (a 0)), (1, .int (p0)), (2, .int (p1))]) rfl dX8_addsSet_3 (Nat.le_of_ble_eq_true rfl) rfl ?_
  exact g_lv [2, 3, 4, 1, 0] rfl (bX8_addsSet_5 C hr n σ (p0) (p1) ((1 : Int64)) ((0 : Int32)) h)
end
