/-! reference, walked: X8_laysSums, X8_cutBy, X8_cut, X8_toldAt, X8_laysJoints, X8_joint, X8_count, X8_of, X8_spareNumber, X8_at -/
section
variable {p : Program} {l : Launch} {e : Env} {s : State} {m : MethodId} {args : Array Value} {below : List Frame} {meth : Method} {c : Code} {D : va_G} {a : Nat → Nat} {cy : ClassId × ClassId × ClassId × ClassId}
abbrev rmX8_laysSums : Room := { frames := 2, cells := 0, slots := 0, locals := 45 }
set_option maxRecDepth 20000 in
theorem qX8_laysSums_F13 : Cond.fieldLink RX8 13 "PinFrameModel" "y" "[I" ∈ wsX8_laysSums := by decide +kernel
set_option maxRecDepth 20000 in
theorem qX8_laysSums_F19 : Cond.fieldLink RX8 19 "PinFrameModel" "loads" "[I" ∈ wsX8_laysSums := by decide +kernel
set_option maxRecDepth 20000 in
theorem qX8_laysSums_F68 : Cond.fieldLink RX8 68 "PinFrameModel" "three" "[I" ∈ wsX8_laysSums := by decide +kernel
set_option maxRecDepth 20000 in
theorem qX8_laysSums_F7 : Cond.fieldLink RX8 7 "PinFrameModel" "x" "[I" ∈ wsX8_laysSums := by decide +kernel
set_option maxRecDepth 20000 in
theorem qX8_laysSums_F71 : Cond.fieldLink RX8 71 "PinFrameModel" "sums" "[J" ∈ wsX8_laysSums := by decide +kernel
set_option maxRecDepth 20000 in
theorem qX8_laysSums_F81 : Cond.fieldLink RX8 81 "PinFrameModel" "pins" "I" ∈ wsX8_laysSums := by decide +kernel
set_option maxRecDepth 20000 in
theorem iX8_laysSums_X8 : ∀ w ∈ u_ws RX8 TX8 35, w ∈ wsX8_laysSums := by decide +kernel
set_option maxHeartbeats 4000000 in
set_option maxRecDepth 20000 in
theorem bX8_laysSums_238 (C : hv_C p s m args meth c cX8_laysSums 4 wsX8_laysSums RX8 D (hv_tys cy)) (hr : meth.sig.returnType = none) {n : Nat} {o : hv_St} {r138 : hv_St → Int32 → Int32 → Option (hv_St)} (hr138 : ∀ (σ : hv_St) (x1 : Int32) (x2 : Int32), r138 σ x1 x2 = some o → hv_G p l e (headSpec wsX8_laysSums rmX8_laysSums).room s m args below meth c 4 D 23 a (hv_ME a cy) 0 0 (hv_MQ D 23 a (hv_ME a cy) below args s none o) σ 138 [(0, .ref (a 0)), (1, .int (x1)), (2, .int (x2))] []) : ∀ (σ : hv_St) (x1 : Int32) (x2 : Int32), kX8_laysSums_238 n r138 σ x1 x2 = some o → hv_G p l e (headSpec wsX8_laysSums rmX8_laysSums).room s m args below meth c 4 D 23 a (hv_ME a cy) 0 0 (hv_MQ D 23 a (hv_ME a cy) below args s none o) σ 238 [(0, .ref (a 0)), (1, .int (x1)), (2, .int (x2))] [] := by
  intro σ x1 x2 h
  unfold kX8_laysSums_238 at h
  refine g_iinc (pc := 238) C 2 (v := x2 + 1) (lv' := [(2, .int (x2 + 1)), (0, .ref (a 0)), (1, .int (x1))]) dX8_laysSums_238 rfl rfl (Nat.le_of_ble_eq_true rfl) rfl ?_
  refine g_goto (pc := 241) C (tgt := 138) dX8_laysSums_241 (by decide) ?_
  exact g_lv [1, 2, 0] rfl (hr138 σ (x1) (x2 + 1) h)
set_option maxHeartbeats 4000000 in
set_option maxRecDepth 20000 in
theorem bX8_laysSums_138 (C : hv_C p s m args meth c cX8_laysSums 4 wsX8_laysSums RX8 D (hv_tys cy)) (hr : meth.sig.returnType = none) {n : Nat} {o : hv_St} : ∀ (i : Nat) (σ : hv_St) (x1 : Int32) (x2 : Int32), kX8_laysSums_138 n i σ x1 x2 = some o → hv_G p l e (headSpec wsX8_laysSums rmX8_laysSums).room s m args below meth c 4 D 23 a (hv_ME a cy) 0 0 (hv_MQ D 23 a (hv_ME a cy) below args s none o) σ 138 [(0, .ref (a 0)), (1, .int (x1)), (2, .int (x2))] [] := by
  intro i
  induction i with
  | zero =>
    intro σ x1 x2 h
    cases h
  | succ i ih =>
    intro σ x1 x2 h
    generalize hg : kX8_laysSums_138 n i = r138 at ih
    have hr138 := ih
    replace h : kX8_laysSums_138_b n r138 σ x1 x2 = some o := by rw [← hg]; exact h
    unfold kX8_laysSums_138_b at h
    refine g_iload_n (pc := 138) C 2 dX8_laysSums_138 rfl rfl ?_
    refine g_aload_n (pc := 139) C 0 dX8_laysSums_139 rfl rfl ?_
    refine gm_get_0_1 (pc := 140) C iX8_laysSums_X8 qX8_laysSums_F81 dX8_laysSums_140 ?_
    refine g_icmp_ge (pc := 143) (tgt := 244) C dX8_laysSums_143 (by decide) (fun c143 => ?_) (fun c143 => ?_)
    · rw [if_pos c143] at h
      cases h
      exact g_vret (pc := 244) C hr dX8_laysSums_244
    · rw [if_neg c143] at h
      refine g_iload_n (pc := 146) C 1 dX8_laysSums_146 rfl rfl ?_
      refine g_iload_n (pc := 147) C 2 dX8_laysSums_147 rfl rfl ?_
      obtain ⟨r148, s148, hc148, h⟩ := hv_b2_some h
      refine g_callS (pc := 148) (σ1 := s148) (v := (some (.int (r148)))) (As := [.int (x1), .int (x2)]) (rest := []) C (vX8_isOn hc148) (va_cwS 2 C.1.2.2.2.2 gX8_laysSums_X8_isOn rfl rfl rfl (by decide +kernel) ⟨Nat.le_of_ble_eq_true rfl, Nat.le_of_ble_eq_true rfl⟩) rfl rfl (Nat.le_of_ble_eq_true rfl) dX8_laysSums_148 ⟨Nat.zero_le _, Nat.zero_le _⟩ ?_
      refine g_st (st' := [.int (r148)]) rfl ?_
      refine g_if_eq (pc := 151) (tgt := 238) C dX8_laysSums_151 (by decide) (fun c151 => ?_) (fun c151 => ?_)
      · rw [if_pos c151] at h
        exact g_lv [0, 1, 2] rfl (bX8_laysSums_238 C hr hr138 s148 (x1) (x2) h)
      · rw [if_neg c151] at h
        refine g_aload_n (pc := 154) C 0 dX8_laysSums_154 rfl rfl ?_
        refine gm_get_0_31 (pc := 155) C iX8_laysSums_X8 qX8_laysSums_F71 dX8_laysSums_155 ?_
        refine g_bipush (pc := 158) C (v := (9 : Int32)) dX8_laysSums_158 (by decide) ?_
        refine g_dup2_11 (pc := 160) C dX8_laysSums_160 rfl rfl ?_
        obtain ⟨k161, h⟩ := hv_if_some h
        refine gm_ld_21 (pc := 161) C k161 dX8_laysSums_161 ?_
        refine g_aload_n (pc := 162) C 0 dX8_laysSums_162 rfl rfl ?_
        refine gm_get_0_5 (pc := 163) C iX8_laysSums_X8 qX8_laysSums_F19 dX8_laysSums_163 ?_
        refine g_iconst (pc := 166) C (v := (2 : Int32)) dX8_laysSums_166 (by decide) ?_
        refine g_iload_n (pc := 167) C 2 dX8_laysSums_167 rfl rfl ?_
        refine g_imul (pc := 168) C dX8_laysSums_168 ?_
        obtain ⟨k169, h⟩ := hv_if_some h
        refine gm_ld_4 (pc := 169) C k169 dX8_laysSums_169 ?_
        refine g_i2l (pc := 170) C dX8_laysSums_170 ?_
        refine g_lsub (pc := 171) C dX8_laysSums_171 ?_
        obtain ⟨k172, h⟩ := hv_if_some h
        obtain ⟨s172, es172, h⟩ := hv_let_some h
        refine gm_st_21 (pc := 172) C es172 k172 dX8_laysSums_172 ?_
        refine g_aload_n (pc := 173) C 0 dX8_laysSums_173 rfl rfl ?_
        refine gm_get_0_31 (pc := 174) C iX8_laysSums_X8 qX8_laysSums_F71 dX8_laysSums_174 ?_
        refine g_bipush (pc := 177) C (v := (10 : Int32)) dX8_laysSums_177 (by decide) ?_
        refine g_dup2_11 (pc := 179) C dX8_laysSums_179 rfl rfl ?_
        obtain ⟨k180, h⟩ := hv_if_some h
        refine gm_ld_21 (pc := 180) C k180 dX8_laysSums_180 ?_
        refine g_aload_n (pc := 181) C 0 dX8_laysSums_181 rfl rfl ?_
        refine gm_get_0_5 (pc := 182) C iX8_laysSums_X8 qX8_laysSums_F19 dX8_laysSums_182 ?_
        refine g_iconst (pc := 185) C (v := (2 : Int32)) dX8_laysSums_185 (by decide) ?_
        refine g_iload_n (pc := 186) C 2 dX8_laysSums_186 rfl rfl ?_
        refine g_imul (pc := 187) C dX8_laysSums_187 ?_
        refine g_iconst (pc := 188) C (v := (1 : Int32)) dX8_laysSums_188 (by decide) ?_
        refine g_iadd (pc := 189) C dX8_laysSums_189 ?_
        obtain ⟨k190, h⟩ := hv_if_some h
        refine gm_ld_4 (pc := 190) C k190 dX8_laysSums_190 ?_
        refine g_i2l (pc := 191) C dX8_laysSums_191 ?_
        refine g_lsub (pc := 192) C dX8_laysSums_192 ?_
        obtain ⟨k193, h⟩ := hv_if_some h
        obtain ⟨s193, es193, h⟩ := hv_let_some h
        refine gm_st_21 (pc := 193) C es193 k193 dX8_laysSums_193 ?_
        refine g_aload_n (pc := 194) C 0 dX8_laysSums_194 rfl rfl ?_
        refine gm_get_0_31 (pc := 195) C iX8_laysSums_X8 qX8_laysSums_F71 dX8_laysSums_195 ?_
        refine g_bipush (pc := 198) C (v := (11 : Int32)) dX8_laysSums_198 (by decide) ?_
        refine g_dup2_11 (pc := 200) C dX8_laysSums_200 rfl rfl ?_
        obtain ⟨k201, h⟩ := hv_if_some h
        refine gm_ld_21 (pc := 201) C k201 dX8_laysSums_201 ?_
        refine g_aload_n (pc := 202) C 0 dX8_laysSums_202 rfl rfl ?_
        refine gm_get_0_2 (pc := 203) C iX8_laysSums_X8 qX8_laysSums_F7 dX8_laysSums_203 ?_
        refine g_iload_n (pc := 206) C 2 dX8_laysSums_206 rfl rfl ?_
        obtain ⟨k207, h⟩ := hv_if_some h
        refine gm_ld_1 (pc := 207) C k207 dX8_laysSums_207 ?_
        refine g_aload_n (pc := 208) C 0 dX8_laysSums_208 rfl rfl ?_
        refine gm_get_0_5 (pc := 209) C iX8_laysSums_X8 qX8_laysSums_F19 dX8_laysSums_209 ?_
        refine g_iconst (pc := 212) C (v := (2 : Int32)) dX8_laysSums_212 (by decide) ?_
        refine g_iload_n (pc := 213) C 2 dX8_laysSums_213 rfl rfl ?_
        refine g_imul (pc := 214) C dX8_laysSums_214 ?_
        refine g_iconst (pc := 215) C (v := (1 : Int32)) dX8_laysSums_215 (by decide) ?_
        refine g_iadd (pc := 216) C dX8_laysSums_216 ?_
        obtain ⟨k217, h⟩ := hv_if_some h
        refine gm_ld_4 (pc := 217) C k217 dX8_laysSums_217 ?_
        refine g_imul (pc := 218) C dX8_laysSums_218 ?_
        refine g_aload_n (pc := 219) C 0 dX8_laysSums_219 rfl rfl ?_
        refine gm_get_0_3 (pc := 220) C iX8_laysSums_X8 qX8_laysSums_F13 dX8_laysSums_220 ?_
        refine g_iload_n (pc := 223) C 2 dX8_laysSums_223 rfl rfl ?_
        obtain ⟨k224, h⟩ := hv_if_some h
        refine gm_ld_2 (pc := 224) C k224 dX8_laysSums_224 ?_
        refine g_aload_n (pc := 225) C 0 dX8_laysSums_225 rfl rfl ?_
        refine gm_get_0_5 (pc := 226) C iX8_laysSums_X8 qX8_laysSums_F19 dX8_laysSums_226 ?_
        refine g_iconst (pc := 229) C (v := (2 : Int32)) dX8_laysSums_229 (by decide) ?_
        refine g_iload_n (pc := 230) C 2 dX8_laysSums_230 rfl rfl ?_
        refine g_imul (pc := 231) C dX8_laysSums_231 ?_
        obtain ⟨k232, h⟩ := hv_if_some h
        refine gm_ld_4 (pc := 232) C k232 dX8_laysSums_232 ?_
        refine g_imul (pc := 233) C dX8_laysSums_233 ?_
        refine g_isub (pc := 234) C dX8_laysSums_234 ?_
        refine g_i2l (pc := 235) C dX8_laysSums_235 ?_
        refine g_lsub (pc := 236) C dX8_laysSums_236 ?_
        obtain ⟨k237, h⟩ := hv_if_some h
        obtain ⟨s237, es237, h⟩ := hv_let_some h
        refine gm_st_21 (pc := 237) C es237 k237 dX8_laysSums_237 ?_
        exact g_lv [0, 1, 2] rfl (bX8_laysSums_238 C hr hr138 s237 (x1) (x2) h)
set_option maxHeartbeats 4000000 in
set_option maxRecDepth 20000 in
theorem bX8_laysSums_117 (C : hv_C p s m args meth c cX8_laysSums 4 wsX8_laysSums RX8 D (hv_tys cy)) (hr : meth.sig.returnType = none) {n : Nat} {o : hv_St} : ∀ (i : Nat) (σ : hv_St) (x1 : Int32) (x2 : Int32), kX8_laysSums_117 n i σ x1 x2 = some o → hv_G p l e (headSpec wsX8_laysSums rmX8_laysSums).room s m args below meth c 4 D 23 a (hv_ME a cy) 0 0 (hv_MQ D 23 a (hv_ME a cy) below args s none o) σ 117 [(0, .ref (a 0)), (1, .int (x1)), (2, .int (x2))] [] := by
  intro i
  induction i with
  | zero =>
    intro σ x1 x2 h
    cases h
  | succ i ih =>
    intro σ x1 x2 h
    generalize hg : kX8_laysSums_117 n i = r117 at ih
    have hr117 := ih
    replace h : kX8_laysSums_117_b n r117 σ x1 x2 = some o := by rw [← hg]; exact h
    unfold kX8_laysSums_117_b at h
    refine g_iload_n (pc := 117) C 2 dX8_laysSums_117 rfl rfl ?_
    refine g_bipush (pc := 118) C (v := (12 : Int32)) dX8_laysSums_118 (by decide) ?_
    refine g_icmp_ge (pc := 120) (tgt := 136) C dX8_laysSums_120 (by decide) (fun c120 => ?_) (fun c120 => ?_)
    · rw [if_pos c120] at h
      refine g_iconst (pc := 136) C (v := (0 : Int32)) dX8_laysSums_136 (by decide) ?_
      refine g_istore_n (pc := 137) C (lv' := [(2, .int ((0 : Int32))), (0, .ref (a 0)), (1, .int (x1))]) rfl dX8_laysSums_137 rfl (Nat.le_of_ble_eq_true rfl) rfl ?_
      exact g_lv [1, 2, 0] rfl (bX8_laysSums_138 C hr n σ (x1) ((0 : Int32)) h)
    · rw [if_neg c120] at h
      refine g_aload_n (pc := 123) C 0 dX8_laysSums_123 rfl rfl ?_
      refine gm_get_0_31 (pc := 124) C iX8_laysSums_X8 qX8_laysSums_F71 dX8_laysSums_124 ?_
      refine g_iload_n (pc := 127) C 2 dX8_laysSums_127 rfl rfl ?_
      refine g_lconst (pc := 128) C (v := (0 : Int64)) dX8_laysSums_128 (by decide) ?_
      obtain ⟨k129, h⟩ := hv_if_some h
      obtain ⟨s129, es129, h⟩ := hv_let_some h
      refine gm_st_21 (pc := 129) C es129 k129 dX8_laysSums_129 ?_
      refine g_iinc (pc := 130) C 2 (v := x2 + 1) (lv' := [(2, .int (x2 + 1)), (0, .ref (a 0)), (1, .int (x1))]) dX8_laysSums_130 rfl rfl (Nat.le_of_ble_eq_true rfl) rfl ?_
      refine g_goto (pc := 133) C (tgt := 117) dX8_laysSums_133 (by decide) ?_
      exact g_lv [1, 2, 0] rfl (hr117 s129 (x1) (x2 + 1) h)
set_option maxHeartbeats 4000000 in
set_option maxRecDepth 20000 in
theorem bX8_laysSums_2 (C : hv_C p s m args meth c cX8_laysSums 4 wsX8_laysSums RX8 D (hv_tys cy)) (hr : meth.sig.returnType = none) {n : Nat} {o : hv_St} : ∀ (i : Nat) (σ : hv_St) (x1 : Int32) (x2 : Int32), kX8_laysSums_2 n i σ x1 x2 = some o → hv_G p l e (headSpec wsX8_laysSums rmX8_laysSums).room s m args below meth c 4 D 23 a (hv_ME a cy) 0 0 (hv_MQ D 23 a (hv_ME a cy) below args s none o) σ 2 [(0, .ref (a 0)), (1, .int (x1)), (2, .int (x2))] [] := by
  intro i
  induction i with
  | zero =>
    intro σ x1 x2 h
    cases h
  | succ i ih =>
    intro σ x1 x2 h
    generalize hg : kX8_laysSums_2 n i = r2 at ih
    have hr2 := ih
    replace h : kX8_laysSums_2_b n r2 σ x1 x2 = some o := by rw [← hg]; exact h
    unfold kX8_laysSums_2_b at h
    refine g_iload_n (pc := 2) C 2 dX8_laysSums_2 rfl rfl ?_
    refine g_iconst (pc := 3) C (v := (3 : Int32)) dX8_laysSums_3 (by decide) ?_
    refine g_icmp_ge (pc := 4) (tgt := 114) C dX8_laysSums_4 (by decide) (fun c4 => ?_) (fun c4 => ?_)
    · rw [if_pos c4] at h
      refine g_bipush (pc := 114) C (v := (9 : Int32)) dX8_laysSums_114 (by decide) ?_
      refine g_istore_n (pc := 116) C (lv' := [(2, .int ((9 : Int32))), (0, .ref (a 0)), (1, .int (x1))]) rfl dX8_laysSums_116 rfl (Nat.le_of_ble_eq_true rfl) rfl ?_
      exact g_lv [1, 2, 0] rfl (bX8_laysSums_117 C hr n σ (x1) ((9 : Int32)) h)
    · rw [if_neg c4] at h
      refine g_aload_n (pc := 7) C 0 dX8_laysSums_7 rfl rfl ?_
      refine g_aload_n (pc := 8) C 0 dX8_laysSums_8 rfl rfl ?_
      refine gm_get_0_30 (pc := 9) C iX8_laysSums_X8 qX8_laysSums_F68 dX8_laysSums_9 ?_
      refine g_iload_n (pc := 12) C 2 dX8_laysSums_12 rfl rfl ?_
      obtain ⟨k13, h⟩ := hv_if_some h
      refine gm_ld_20 (pc := 13) C k13 dX8_laysSums_13 ?_
      refine g_iload_n (pc := 14) C 1 dX8_laysSums_14 rfl rfl ?_
      obtain ⟨r15, s15, hc15, h⟩ := hv_b2_some h
      refine g_callV (pc := 15) (σ1 := s15) (v := (some (.int (r15)))) (As := [.int (σ.1 20 (x2).toNatClampNeg), .int (x1)]) (rest := []) C 0 (vX8_endIn hc15) (cwV 2 C.1.2.2.2.2 gX8_laysSums_X8_endIn rfl rfl rfl (by decide +kernel) ⟨Nat.le_of_ble_eq_true rfl, Nat.le_of_ble_eq_true rfl⟩) (Nat.le_of_ble_eq_true rfl) rfl rfl rfl rfl (Nat.le_of_ble_eq_true rfl) dX8_laysSums_15 ⟨Nat.zero_le _, Nat.zero_le _⟩ ?_
      refine g_st (st' := [.int (r15)]) rfl ?_
      refine g_istore_n (pc := 18) C (lv' := [(3, .int (r15)), (0, .ref (a 0)), (1, .int (x1)), (2, .int (x2))]) rfl dX8_laysSums_18 rfl (Nat.le_of_ble_eq_true rfl) rfl ?_
      refine g_aload_n (pc := 19) C 1 dX8_laysSums_19 rfl rfl ?_
      refine gm_get_0_31 (pc := 20) C iX8_laysSums_X8 qX8_laysSums_F71 dX8_laysSums_20 ?_
      refine g_iconst (pc := 23) C (v := (3 : Int32)) dX8_laysSums_23 (by decide) ?_
      refine g_iload_n (pc := 24) C 3 dX8_laysSums_24 rfl rfl ?_
      refine g_imul (pc := 25) C dX8_laysSums_25 ?_
      refine g_aload_n (pc := 26) C 1 dX8_laysSums_26 rfl rfl ?_
      refine g_aload_n (pc := 27) C 1 dX8_laysSums_27 rfl rfl ?_
      refine gm_get_0_30 (pc := 28) C iX8_laysSums_X8 qX8_laysSums_F68 dX8_laysSums_28 ?_
      refine g_iload_n (pc := 31) C 3 dX8_laysSums_31 rfl rfl ?_
      obtain ⟨k32, h⟩ := hv_if_some h
      refine gm_ld_20 (pc := 32) C k32 dX8_laysSums_32 ?_
      refine g_iload_n (pc := 33) C 0 dX8_laysSums_33 rfl rfl ?_
      refine g_iconst (pc := 34) C (v := (0 : Int32)) dX8_laysSums_34 (by decide) ?_
      obtain ⟨r35, s35, hc35, h⟩ := hv_b2_some h
      refine g_callV (pc := 35) (σ1 := s35) (v := (some (.int (r35)))) (As := [.int (s15.1 20 (x2).toNatClampNeg), .int (r15), .int ((0 : Int32))]) (rest := [.int (((3 : Int32)) * (x2)), .ref (a 21)]) C 0 (vX8_brings hc35) (cwV 3 C.1.2.2.2.2 gX8_laysSums_X8_brings rfl rfl rfl (by decide +kernel) ⟨Nat.le_of_ble_eq_true rfl, Nat.le_of_ble_eq_true rfl⟩) (Nat.le_of_ble_eq_true rfl) rfl rfl rfl rfl (Nat.le_of_ble_eq_true rfl) dX8_laysSums_35 ⟨Nat.zero_le _, Nat.zero_le _⟩ ?_
      refine g_st (st' := [.int (r35), .int (((3 : Int32)) * (x2)), .ref (a 21)]) rfl ?_
      refine g_i2l (pc := 38) C dX8_laysSums_38 ?_
      obtain ⟨k39, h⟩ := hv_if_some h
      obtain ⟨s39, es39, h⟩ := hv_let_some h
      refine gm_st_21 (pc := 39) C es39 k39 dX8_laysSums_39 ?_
      refine g_aload_n (pc := 40) C 1 dX8_laysSums_40 rfl rfl ?_
      refine gm_get_0_31 (pc := 41) C iX8_laysSums_X8 qX8_laysSums_F71 dX8_laysSums_41 ?_
      refine g_iconst (pc := 44) C (v := (3 : Int32)) dX8_laysSums_44 (by decide) ?_
      refine g_iload_n (pc := 45) C 3 dX8_laysSums_45 rfl rfl ?_
      refine g_imul (pc := 46) C dX8_laysSums_46 ?_
      refine g_iconst (pc := 47) C (v := (1 : Int32)) dX8_laysSums_47 (by decide) ?_
      refine g_iadd (pc := 48) C dX8_laysSums_48 ?_
      refine g_aload_n (pc := 49) C 1 dX8_laysSums_49 rfl rfl ?_
      refine g_aload_n (pc := 50) C 1 dX8_laysSums_50 rfl rfl ?_
      refine gm_get_0_30 (pc := 51) C iX8_laysSums_X8 qX8_laysSums_F68 dX8_laysSums_51 ?_
      refine g_iload_n (pc := 54) C 3 dX8_laysSums_54 rfl rfl ?_
      obtain ⟨k55, h⟩ := hv_if_some h
      refine gm_ld_20 (pc := 55) C k55 dX8_laysSums_55 ?_
      refine g_iload_n (pc := 56) C 0 dX8_laysSums_56 rfl rfl ?_
      refine g_iconst (pc := 57) C (v := (1 : Int32)) dX8_laysSums_57 (by decide) ?_
      obtain ⟨r58, s58, hc58, h⟩ := hv_b2_some h
      refine g_callV (pc := 58) (σ1 := s58) (v := (some (.int (r58)))) (As := [.int (s39.1 20 (x2).toNatClampNeg), .int (r15), .int ((1 : Int32))]) (rest := [.int ((((3 : Int32)) * (x2)) + ((1 : Int32))), .ref (a 21)]) C 0 (vX8_brings hc58) (cwV 3 C.1.2.2.2.2 gX8_laysSums_X8_brings rfl rfl rfl (by decide +kernel) ⟨Nat.le_of_ble_eq_true rfl, Nat.le_of_ble_eq_true rfl⟩) (Nat.le_of_ble_eq_true rfl) rfl rfl rfl rfl (Nat.le_of_ble_eq_true rfl) dX8_laysSums_58 ⟨Nat.zero_le _, Nat.zero_le _⟩ ?_
      refine g_st (st' := [.int (r58), .int ((((3 : Int32)) * (x2)) + ((1 : Int32))), .ref (a 21)]) rfl ?_
      refine g_i2l (pc := 61) C dX8_laysSums_61 ?_
      obtain ⟨k62, h⟩ := hv_if_some h
      obtain ⟨s62, es62, h⟩ := hv_let_some h
      refine gm_st_21 (pc := 62) C es62 k62 dX8_laysSums_62 ?_
      refine g_aload_n (pc := 63) C 1 dX8_laysSums_63 rfl rfl ?_
      refine gm_get_0_31 (pc := 64) C iX8_laysSums_X8 qX8_laysSums_F71 dX8_laysSums_64 ?_
      refine g_iconst (pc := 67) C (v := (3 : Int32)) dX8_laysSums_67 (by decide) ?_
      refine g_iload_n (pc := 68) C 3 dX8_laysSums_68 rfl rfl ?_
      refine g_imul (pc := 69) C dX8_laysSums_69 ?_
      refine g_iconst (pc := 70) C (v := (2 : Int32)) dX8_laysSums_70 (by decide) ?_
      refine g_iadd (pc := 71) C dX8_laysSums_71 ?_
      refine g_aload_n (pc := 72) C 1 dX8_laysSums_72 rfl rfl ?_
      refine gm_get_0_2 (pc := 73) C iX8_laysSums_X8 qX8_laysSums_F7 dX8_laysSums_73 ?_
      refine g_iload_n (pc := 76) C 0 dX8_laysSums_76 rfl rfl ?_
      obtain ⟨k77, h⟩ := hv_if_some h
      refine gm_ld_1 (pc := 77) C k77 dX8_laysSums_77 ?_
      refine g_i2l (pc := 78) C dX8_laysSums_78 ?_
      refine g_aload_n (pc := 79) C 1 dX8_laysSums_79 rfl rfl ?_
      refine gm_get_0_31 (pc := 80) C iX8_laysSums_X8 qX8_laysSums_F71 dX8_laysSums_80 ?_
      refine g_iconst (pc := 83) C (v := (3 : Int32)) dX8_laysSums_83 (by decide) ?_
      refine g_iload_n (pc := 84) C 3 dX8_laysSums_84 rfl rfl ?_
      refine g_imul (pc := 85) C dX8_laysSums_85 ?_
      refine g_iconst (pc := 86) C (v := (1 : Int32)) dX8_laysSums_86 (by decide) ?_
      refine g_iadd (pc := 87) C dX8_laysSums_87 ?_
      obtain ⟨k88, h⟩ := hv_if_some h
      refine gm_ld_21 (pc := 88) C k88 dX8_laysSums_88 ?_
      refine g_lmul (pc := 89) C dX8_laysSums_89 ?_
      refine g_aload_n (pc := 90) C 1 dX8_laysSums_90 rfl rfl ?_
      refine gm_get_0_3 (pc := 91) C iX8_laysSums_X8 qX8_laysSums_F13 dX8_laysSums_91 ?_
      refine g_iload_n (pc := 94) C 0 dX8_laysSums_94 rfl rfl ?_
      obtain ⟨k95, h⟩ := hv_if_some h
      refine gm_ld_2 (pc := 95) C k95 dX8_laysSums_95 ?_
      refine g_i2l (pc := 96) C dX8_laysSums_96 ?_
      refine g_aload_n (pc := 97) C 1 dX8_laysSums_97 rfl rfl ?_
      refine gm_get_0_31 (pc := 98) C iX8_laysSums_X8 qX8_laysSums_F71 dX8_laysSums_98 ?_
      refine g_iconst (pc := 101) C (v := (3 : Int32)) dX8_laysSums_101 (by decide) ?_
      refine g_iload_n (pc := 102) C 3 dX8_laysSums_102 rfl rfl ?_
      refine g_imul (pc := 103) C dX8_laysSums_103 ?_
      obtain ⟨k104, h⟩ := hv_if_some h
      refine gm_ld_21 (pc := 104) C k104 dX8_laysSums_104 ?_
      refine g_lmul (pc := 105) C dX8_laysSums_105 ?_
      refine g_lsub (pc := 106) C dX8_laysSums_106 ?_
      obtain ⟨k107, h⟩ := hv_if_some h
      obtain ⟨s107, es107, h⟩ := hv_let_some h
      refine gm_st_21 (pc := 107) C es107 k107 dX8_laysSums_107 ?_
      refine g_iinc (pc := 108) C 3 (v := x2 + 1) (lv' := [(2, .int (x2 + 1)), (3, .int (r15)), (0, .ref (a 0)), (1, .int (x1))]) dX8_laysSums_108 rfl rfl (Nat.le_of_ble_eq_true rfl) rfl ?_
      refine g_goto (pc := 111) C (tgt := 2) dX8_laysSums_111 (by decide) ?_
      exact g_lv [2, 3, 0] rfl (hr2 s107 (x1) (x2 + 1) h)
set_option maxHeartbeats 4000000 in
set_option maxRecDepth 20000 in
theorem vX8_laysSums {n : Nat} {σ : hv_St} {p0 : Int32} {o : hv_St} (h : mX8_laysSums n σ p0 = some o) : hv_M l yX8_laysSums wsX8_laysSums rmX8_laysSums D (hv_tys cy) 23 a (hv_ME a cy) [.ref (a 0), .int (p0)] σ none o := by
  refine hv_enter (own := RX8) (cc := cX8_laysSums) (maxL := 4) (ret := none) (by decide) rfl rfl (Nat.le_of_ble_eq_true rfl) ?_
  intro p e s m args below meth c C hr
  unfold mX8_laysSums at h
  refine g_lv [0, 1] (lv' := [(0, .ref (a 0)), (1, .int (p0))]) rfl ?_
  refine g_iconst (pc := 0) C (v := (0 : Int32)) dX8_laysSums_0 (by decide) ?_
  refine g_istore_n (pc := 1) C (lv' := [(2, .int ((0 : Int32))), (0, .ref (a 0)), (1, .int (p0))]) rfl dX8_laysSums_1 rfl (Nat.le_of_ble_eq_true rfl) rfl ?_
  exact g_lv [1, 2, 0] rfl (bX8_laysSums_2 C hr n σ (p0) ((0 : Int32)) h)
abbrev rmX8_cutBy : Room := { frames := 2, cells := 0, slots := 0, locals := 55 }
set_option maxRecDepth 20000 in
theorem qX8_cutBy_F46 : Cond.fieldLink RX8 46 "PinFrameModel" "cell" "[J" ∈ wsX8_cutBy := by decide +kernel
set_option maxRecDepth 20000 in
theorem qX8_cutBy_F71 : Cond.fieldLink RX8 71 "PinFrameModel" "sums" "[J" ∈ wsX8_cutBy := by decide +kernel
set_option maxRecDepth 20000 in
theorem iX8_cutBy_X8 : ∀ w ∈ u_ws RX8 TX8 35, w ∈ wsX8_cutBy := by decide +kernel
set_option maxHeartbeats 4000000 in
set_option maxRecDepth 20000 in
theorem bX8_cutBy_21 (C : hv_C p s m args meth c cX8_cutBy 5 wsX8_cutBy RX8 D (hv_tys cy)) (hr : meth.sig.returnType = (some .long)) {n : Nat} {o : Int64 × hv_St} {r2 : hv_St → Int32 → Int32 → Option (Int64 × hv_St)} (hr2 : ∀ (σ : hv_St) (x1 : Int32) (x2 : Int32), r2 σ x1 x2 = some o → hv_G p l e (headSpec wsX8_cutBy rmX8_cutBy).room s m args below meth c 5 D 23 a (hv_ME a cy) 0 0 (hv_MQ D 23 a (hv_ME a cy) below args s (some (.long o.1)) o.2) σ 2 [(0, .ref (a 0)), (1, .int (x1)), (2, .int (x2))] []) : ∀ (i : Nat) (σ : hv_St) (x1 : Int32) (x2 : Int32) (x3 : Int32) (x4 : Int32), kX8_cutBy_21 n r2 i σ x1 x2 x3 x4 = some o → hv_G p l e (headSpec wsX8_cutBy rmX8_cutBy).room s m args below meth c 5 D 23 a (hv_ME a cy) 0 0 (hv_MQ D 23 a (hv_ME a cy) below args s (some (.long o.1)) o.2) σ 21 [(0, .ref (a 0)), (1, .int (x1)), (2, .int (x2)), (3, .int (x3)), (4, .int (x4))] [] := by
  intro i
  induction i with
  | zero =>
    intro σ x1 x2 x3 x4 h
    cases h
  | succ i ih =>
    intro σ x1 x2 x3 x4 h
    generalize hg : kX8_cutBy_21 n r2 i = r21 at ih
    have hr21 := ih
    replace h : kX8_cutBy_21_b n r2 r21 σ x1 x2 x3 x4 = some o := by rw [← hg]; exact h
    unfold kX8_cutBy_21_b at h
    refine g_iload (pc := 21) C 4 dX8_cutBy_21 rfl ?_
    refine g_iconst (pc := 23) C (v := (3 : Int32)) dX8_cutBy_23 (by decide) ?_
    refine g_icmp_ge (pc := 24) (tgt := 56) C dX8_cutBy_24 (by decide) (fun c24 => ?_) (fun c24 => ?_)
    · rw [if_pos c24] at h
      refine g_iinc (pc := 56) C 2 (v := x2 + 1) (lv' := [(2, .int (x2 + 1)), (0, .ref (a 0)), (1, .int (x1)), (3, .int (x3)), (4, .int (x4))]) dX8_cutBy_56 rfl rfl (Nat.le_of_ble_eq_true rfl) rfl ?_
      refine g_goto (pc := 59) C (tgt := 2) dX8_cutBy_59 (by decide) ?_
      exact g_lv [1, 2, 0] rfl (hr2 σ (x1) (x2 + 1) h)
    · rw [if_neg c24] at h
      refine g_aload_n (pc := 27) C 0 dX8_cutBy_27 rfl rfl ?_
      refine gm_get_0_19 (pc := 28) C iX8_cutBy_X8 qX8_cutBy_F46 dX8_cutBy_28 ?_
      refine g_bipush (pc := 31) C (v := (12 : Int32)) dX8_cutBy_31 (by decide) ?_
      refine g_iload (pc := 33) C 4 dX8_cutBy_33 rfl ?_
      refine g_imul (pc := 35) C dX8_cutBy_35 ?_
      refine g_iload_n (pc := 36) C 2 dX8_cutBy_36 rfl rfl ?_
      refine g_iadd (pc := 37) C dX8_cutBy_37 ?_
      refine g_aload_n (pc := 38) C 0 dX8_cutBy_38 rfl rfl ?_
      refine gm_get_0_31 (pc := 39) C iX8_cutBy_X8 qX8_cutBy_F71 dX8_cutBy_39 ?_
      refine g_iconst (pc := 42) C (v := (3 : Int32)) dX8_cutBy_42 (by decide) ?_
      refine g_iload_n (pc := 43) C 3 dX8_cutBy_43 rfl rfl ?_
      refine g_imul (pc := 44) C dX8_cutBy_44 ?_
      refine g_iload (pc := 45) C 4 dX8_cutBy_45 rfl ?_
      refine g_iadd (pc := 47) C dX8_cutBy_47 ?_
      obtain ⟨k48, h⟩ := hv_if_some h
      refine gm_ld_21 (pc := 48) C k48 dX8_cutBy_48 ?_
      obtain ⟨k49, h⟩ := hv_if_some h
      obtain ⟨s49, es49, h⟩ := hv_let_some h
      refine gm_st_13 (pc := 49) C es49 k49 dX8_cutBy_49 ?_
      refine g_iinc (pc := 50) C 4 (v := x4 + 1) (lv' := [(4, .int (x4 + 1)), (0, .ref (a 0)), (1, .int (x1)), (2, .int (x2)), (3, .int (x3))]) dX8_cutBy_50 rfl rfl (Nat.le_of_ble_eq_true rfl) rfl ?_
      refine g_goto (pc := 53) C (tgt := 21) dX8_cutBy_53 (by decide) ?_
      exact g_lv [1, 2, 3, 4, 0] rfl (hr21 s49 (x1) (x2) (x3) (x4 + 1) h)
set_option maxHeartbeats 4000000 in
set_option maxRecDepth 20000 in
theorem bX8_cutBy_17 (C : hv_C p s m args meth c cX8_cutBy 5 wsX8_cutBy RX8 D (hv_tys cy)) (hr : meth.sig.returnType = (some .long)) {n : Nat} {o : Int64 × hv_St} {r2 : hv_St → Int32 → Int32 → Option (Int64 × hv_St)} (hr2 : ∀ (σ : hv_St) (x1 : Int32) (x2 : Int32), r2 σ x1 x2 = some o → hv_G p l e (headSpec wsX8_cutBy rmX8_cutBy).room s m args below meth c 5 D 23 a (hv_ME a cy) 0 0 (hv_MQ D 23 a (hv_ME a cy) below args s (some (.long o.1)) o.2) σ 2 [(0, .ref (a 0)), (1, .int (x1)), (2, .int (x2))] []) : ∀ (σ : hv_St) (x1 : Int32) (x2 : Int32) (z0 : Int32), kX8_cutBy_17 n r2 σ x1 x2 z0 = some o → hv_G p l e (headSpec wsX8_cutBy rmX8_cutBy).room s m args below meth c 5 D 23 a (hv_ME a cy) 0 0 (hv_MQ D 23 a (hv_ME a cy) below args s (some (.long o.1)) o.2) σ 17 [(0, .ref (a 0)), (1, .int (x1)), (2, .int (x2))] [.int (z0)] := by
  intro σ x1 x2 z0 h
  unfold kX8_cutBy_17 at h
  refine g_istore_n (pc := 17) C (lv' := [(3, .int (z0)), (0, .ref (a 0)), (1, .int (x1)), (2, .int (x2))]) rfl dX8_cutBy_17 rfl (Nat.le_of_ble_eq_true rfl) rfl ?_
  refine g_iconst (pc := 18) C (v := (0 : Int32)) dX8_cutBy_18 (by decide) ?_
  refine g_istore (pc := 19) C (lv' := [(4, .int ((0 : Int32))), (3, .int (z0)), (0, .ref (a 0)), (1, .int (x1)), (2, .int (x2))]) rfl dX8_cutBy_19 (Nat.le_of_ble_eq_true rfl) rfl ?_
  exact g_lv [2, 3, 4, 1, 0] rfl (bX8_cutBy_21 C hr hr2 n σ (x1) (x2) (z0) ((0 : Int32)) h)
set_option maxHeartbeats 4000000 in
set_option maxRecDepth 20000 in
theorem bX8_cutBy_2 (C : hv_C p s m args meth c cX8_cutBy 5 wsX8_cutBy RX8 D (hv_tys cy)) (hr : meth.sig.returnType = (some .long)) {n : Nat} {o : Int64 × hv_St} : ∀ (i : Nat) (σ : hv_St) (x1 : Int32) (x2 : Int32), kX8_cutBy_2 n i σ x1 x2 = some o → hv_G p l e (headSpec wsX8_cutBy rmX8_cutBy).room s m args below meth c 5 D 23 a (hv_ME a cy) 0 0 (hv_MQ D 23 a (hv_ME a cy) below args s (some (.long o.1)) o.2) σ 2 [(0, .ref (a 0)), (1, .int (x1)), (2, .int (x2))] [] := by
  intro i
  induction i with
  | zero =>
    intro σ x1 x2 h
    cases h
  | succ i ih =>
    intro σ x1 x2 h
    generalize hg : kX8_cutBy_2 n i = r2 at ih
    have hr2 := ih
    replace h : kX8_cutBy_2_b n r2 σ x1 x2 = some o := by rw [← hg]; exact h
    unfold kX8_cutBy_2_b at h
    refine g_iload_n (pc := 2) C 2 dX8_cutBy_2 rfl rfl ?_
    refine g_iconst (pc := 3) C (v := (3 : Int32)) dX8_cutBy_3 (by decide) ?_
    refine g_icmp_ge (pc := 4) (tgt := 62) C dX8_cutBy_4 (by decide) (fun c4 => ?_) (fun c4 => ?_)
    · rw [if_pos c4] at h
      refine g_aload_n (pc := 62) C 0 dX8_cutBy_62 rfl rfl ?_
      refine g_iconst (pc := 63) C (v := (3 : Int32)) dX8_cutBy_63 (by decide) ?_
      obtain ⟨r64, s64, hc64, h⟩ := hv_b2_some h
      refine g_callV (pc := 64) (σ1 := s64) (v := (some (.long (r64)))) (As := [.int ((3 : Int32))]) (rest := []) C 0 (vX8_determinant hc64) (cwV 1 C.1.2.2.2.2 gX8_cutBy_X8_determinant rfl rfl rfl (by decide +kernel) ⟨Nat.le_of_ble_eq_true rfl, Nat.le_of_ble_eq_true rfl⟩) (Nat.le_of_ble_eq_true rfl) rfl rfl rfl rfl (Nat.le_of_ble_eq_true rfl) dX8_cutBy_64 ⟨Nat.zero_le _, Nat.zero_le _⟩ ?_
      refine g_st (st' := [.long (r64)]) rfl ?_
      cases h
      exact g_lret (pc := 67) C hr dX8_cutBy_67
    · rw [if_neg c4] at h
      refine g_iload_n (pc := 7) C 2 dX8_cutBy_7 rfl rfl ?_
      refine g_iload_n (pc := 8) C 1 dX8_cutBy_8 rfl rfl ?_
      refine g_icmp_ne (pc := 9) (tgt := 16) C dX8_cutBy_9 (by decide) (fun c9 => ?_) (fun c9 => ?_)
      · rw [if_neg c9] at h
        refine g_iload_n (pc := 16) C 2 dX8_cutBy_16 rfl rfl ?_
        exact g_lv [0, 1, 2] rfl (bX8_cutBy_17 C hr hr2 σ (x1) (x2) (x2) h)
      · rw [if_pos c9] at h
        refine g_iconst (pc := 12) C (v := (3 : Int32)) dX8_cutBy_12 (by decide) ?_
        refine g_goto (pc := 13) C (tgt := 17) dX8_cutBy_13 (by decide) ?_
        exact g_lv [0, 1, 2] rfl (bX8_cutBy_17 C hr hr2 σ (x1) (x2) ((3 : Int32)) h)
set_option maxHeartbeats 4000000 in
set_option maxRecDepth 20000 in
theorem vX8_cutBy {n : Nat} {σ : hv_St} {p0 : Int32} {o : Int64 × hv_St} (h : mX8_cutBy n σ p0 = some o) : hv_M l yX8_cutBy wsX8_cutBy rmX8_cutBy D (hv_tys cy) 23 a (hv_ME a cy) [.ref (a 0), .int (p0)] σ (some (.long o.1)) o.2 := by
  refine hv_enter (own := RX8) (cc := cX8_cutBy) (maxL := 5) (ret := (some .long)) (by decide) rfl rfl (Nat.le_of_ble_eq_true rfl) ?_
  intro p e s m args below meth c C hr
  unfold mX8_cutBy at h
  refine g_lv [0, 1] (lv' := [(0, .ref (a 0)), (1, .int (p0))]) rfl ?_
  refine g_iconst (pc := 0) C (v := (0 : Int32)) dX8_cutBy_0 (by decide) ?_
  refine g_istore_n (pc := 1) C (lv' := [(2, .int ((0 : Int32))), (0, .ref (a 0)), (1, .int (p0))]) rfl dX8_cutBy_1 rfl (Nat.le_of_ble_eq_true rfl) rfl ?_
  exact g_lv [1, 2, 0] rfl (bX8_cutBy_2 C hr n σ (p0) ((0 : Int32)) h)
abbrev rmX8_cut : Room := { frames := 3, cells := 0, slots := 0, locals := 79 }
set_option maxRecDepth 20000 in
theorem qX8_cut_F68 : Cond.fieldLink RX8 68 "PinFrameModel" "three" "[I" ∈ wsX8_cut := by decide +kernel
set_option maxRecDepth 20000 in
theorem qX8_cut_F77 : Cond.fieldLink RX8 77 "PinFrameModel" "raised" "I" ∈ wsX8_cut := by decide +kernel
set_option maxRecDepth 20000 in
theorem iX8_cut_X8 : ∀ w ∈ u_ws RX8 TX8 35, w ∈ wsX8_cut := by decide +kernel
set_option maxHeartbeats 4000000 in
set_option maxRecDepth 20000 in
theorem bX8_cut_30 (C : hv_C p s m args meth c cX8_cut 7 wsX8_cut RX8 D (hv_tys cy)) (hr : meth.sig.returnType = (some .long)) {n : Nat} {o : Int64 × hv_St} : ∀ (i : Nat) (σ : hv_St) (x2 : Int32) (x3 : Int32) (x4 : Int64) (x6 : Int32), kX8_cut_30 n i σ x2 x3 x4 x6 = some o → hv_G p l e (headSpec wsX8_cut rmX8_cut).room s m args below meth c 7 D 23 a (hv_ME a cy) 0 0 (hv_MQ D 23 a (hv_ME a cy) below args s (some (.long o.1)) o.2) σ 30 [(0, .ref (a 0)), (2, .int (x2)), (3, .int (x3)), (4, .long (x4)), (6, .int (x6))] [] := by
  intro i
  induction i with
  | zero =>
    intro σ x2 x3 x4 x6 h
    cases h
  | succ i ih =>
    intro σ x2 x3 x4 x6 h
    generalize hg : kX8_cut_30 n i = r30 at ih
    have hr30 := ih
    replace h : kX8_cut_30_b n r30 σ x2 x3 x4 x6 = some o := by rw [← hg]; exact h
    unfold kX8_cut_30_b at h
    refine g_iload (pc := 30) C 4 dX8_cut_30 rfl ?_
    refine g_iconst (pc := 32) C (v := (3 : Int32)) dX8_cut_32 (by decide) ?_
    refine g_icmp_ge (pc := 33) (tgt := 78) C dX8_cut_33 (by decide) (fun c33 => ?_) (fun c33 => ?_)
    · rw [if_pos c33] at h
      refine g_lconst (pc := 78) C (v := (0 : Int64)) dX8_cut_78 (by decide) ?_
      cases h
      exact g_lret (pc := 79) C hr dX8_cut_79
    · rw [if_neg c33] at h
      refine g_lload (pc := 36) C 3 dX8_cut_36 rfl ?_
      refine g_lconst (pc := 38) C (v := (0 : Int64)) dX8_cut_38 (by decide) ?_
      refine g_lcmp (pc := 39) C dX8_cut_39 ?_
      refine g_if_eq (pc := 40) (tgt := 78) C dX8_cut_40 (by decide) (fun c40 => ?_) (fun c40 => ?_)
      · rw [if_pos c40] at h
        refine g_lconst (pc := 78) C (v := (0 : Int64)) dX8_cut_78 (by decide) ?_
        cases h
        exact g_lret (pc := 79) C hr dX8_cut_79
      · rw [if_neg c40] at h
        refine g_aload_n (pc := 43) C 0 dX8_cut_43 rfl rfl ?_
        refine gm_get_0_30 (pc := 44) C iX8_cut_X8 qX8_cut_F68 dX8_cut_44 ?_
        refine g_iload (pc := 47) C 4 dX8_cut_47 rfl ?_
        obtain ⟨k49, h⟩ := hv_if_some h
        refine gm_ld_20 (pc := 49) C k49 dX8_cut_49 ?_
        refine g_iload_n (pc := 50) C 1 dX8_cut_50 rfl rfl ?_
        refine g_icmp_ne (pc := 51) (tgt := 72) C dX8_cut_51 (by decide) (fun c51 => ?_) (fun c51 => ?_)
        · rw [if_neg c51] at h
          refine g_iinc (pc := 72) C 4 (v := x6 + 1) (lv' := [(6, .int (x6 + 1)), (0, .ref (a 0)), (2, .int (x2)), (3, .int (x3)), (4, .long (x4))]) dX8_cut_72 rfl rfl (Nat.le_of_ble_eq_true rfl) rfl ?_
          refine g_goto (pc := 75) C (tgt := 30) dX8_cut_75 (by decide) ?_
          exact g_lv [1, 2, 3, 4, 0] rfl (hr30 σ (x2) (x3) (x4) (x6 + 1) h)
        · rw [if_pos c51] at h
          refine g_aload_n (pc := 54) C 0 dX8_cut_54 rfl rfl ?_
          refine g_iconst (pc := 55) C (v := (0 : Int32)) dX8_cut_55 (by decide) ?_
          obtain ⟨s56, es56, h⟩ := hv_let_some h
          refine gm_put_0_0 (pc := 56) C es56 iX8_cut_X8 qX8_cut_F77 dX8_cut_56 ?_
          refine g_aload_n (pc := 59) C 0 dX8_cut_59 rfl rfl ?_
          refine g_iload (pc := 60) C 4 dX8_cut_60 rfl ?_
          obtain ⟨r62, s62, hc62, h⟩ := hv_b2_some h
          refine g_callV (pc := 62) (σ1 := s62) (v := (some (.long (r62)))) (As := [.int (x6)]) (rest := []) C 0 (vX8_cutBy hc62) (cwV 1 C.1.2.2.2.2 gX8_cut_X8_cutBy rfl rfl rfl (by decide +kernel) ⟨Nat.le_of_ble_eq_true rfl, Nat.le_of_ble_eq_true rfl⟩) (Nat.le_of_ble_eq_true rfl) rfl rfl rfl rfl (Nat.le_of_ble_eq_true rfl) dX8_cut_62 ⟨Nat.zero_le _, Nat.zero_le _⟩ ?_
          refine g_st (st' := [.long (r62)]) rfl ?_
          refine g_lload (pc := 65) C 3 dX8_cut_65 rfl ?_
          refine g_iload_n (pc := 67) C 2 dX8_cut_67 rfl rfl ?_
          obtain ⟨r68, s68, hc68, h⟩ := hv_b2_some h
          refine g_callS (pc := 68) (σ1 := s68) (v := (some (.long (r68)))) (As := [.long (r62), .long (x4), .int (x3)]) (rest := []) C (vX8_told hc68) (va_cwS 3 C.1.2.2.2.2 gX8_cut_X8_told rfl rfl rfl (by decide +kernel) ⟨Nat.le_of_ble_eq_true rfl, Nat.le_of_ble_eq_true rfl⟩) rfl rfl (Nat.le_of_ble_eq_true rfl) dX8_cut_68 ⟨Nat.zero_le _, Nat.zero_le _⟩ ?_
          refine g_st (st' := [.long (r68)]) rfl ?_
          cases h
          exact g_lret (pc := 71) C hr dX8_cut_71
set_option maxHeartbeats 4000000 in
set_option maxRecDepth 20000 in
theorem vX8_cut {n : Nat} {σ : hv_St} {p0 : Int32} {p1 : Int32} {p2 : Int32} {o : Int64 × hv_St} (h : mX8_cut n σ p0 p1 p2 = some o) : hv_M l yX8_cut wsX8_cut rmX8_cut D (hv_tys cy) 23 a (hv_ME a cy) [.ref (a 0), .int (p0), .int (p1), .int (p2)] σ (some (.long o.1)) o.2 := by
  refine hv_enter (own := RX8) (cc := cX8_cut) (maxL := 7) (ret := (some .long)) (by decide) rfl rfl (Nat.le_of_ble_eq_true rfl) ?_
  intro p e s m args below meth c C hr
  unfold mX8_cut at h
  refine g_lv [0, 1, 2, 3] (lv' := [(0, .ref (a 0)), (1, .int (p0)), (2, .int (p1)), (3, .int (p2))]) rfl ?_
  refine g_aload_n (pc := 0) C 0 dX8_cut_0 rfl rfl ?_
  refine g_iconst (pc := 1) C (v := (1 : Int32)) dX8_cut_1 (by decide) ?_
  obtain ⟨s2, es2, h⟩ := hv_let_some h
  refine gm_put_0_0 (pc := 2) C es2 iX8_cut_X8 qX8_cut_F77 dX8_cut_2 ?_
  refine g_aload_n (pc := 5) C 0 dX8_cut_5 rfl rfl ?_
  refine g_iload_n (pc := 6) C 1 dX8_cut_6 rfl rfl ?_
  obtain ⟨r7, s7, hc7, h⟩ := hv_b2_some h
  refine g_callV (pc := 7) (σ1 := s7) (v := (some (.int (r7)))) (As := [.int (p0)]) (rest := []) C 0 (vX8_cuts hc7) (cwV 1 C.1.2.2.2.2 gX8_cut_X8_cuts rfl rfl rfl (by decide +kernel) ⟨Nat.le_of_ble_eq_true rfl, Nat.le_of_ble_eq_true rfl⟩) (Nat.le_of_ble_eq_true rfl) rfl rfl rfl rfl (Nat.le_of_ble_eq_true rfl) dX8_cut_7 ⟨Nat.zero_le _, Nat.zero_le _⟩ ?_
  refine g_st (st' := [.int (r7)]) rfl ?_
  refine g_if_ne (pc := 10) (tgt := 15) C dX8_cut_10 (by decide) (fun c10 => ?_) (fun c10 => ?_)
  · rw [if_neg c10] at h
    refine g_aload_n (pc := 15) C 0 dX8_cut_15 rfl rfl ?_
    refine g_iload_n (pc := 16) C 1 dX8_cut_16 rfl rfl ?_
    obtain ⟨s17, hc17, h⟩ := hv_bd_some h
    refine g_callV (pc := 17) (σ1 := s17) (v := none) (As := [.int (p0)]) (rest := []) C 0 (vX8_laysSums hc17) (cwV 1 C.1.2.2.2.2 gX8_cut_X8_laysSums rfl rfl rfl (by decide +kernel) ⟨Nat.le_of_ble_eq_true rfl, Nat.le_of_ble_eq_true rfl⟩) (Nat.le_of_ble_eq_true rfl) rfl rfl rfl rfl (Nat.le_of_ble_eq_true rfl) dX8_cut_17 ⟨Nat.zero_le _, Nat.zero_le _⟩ ?_
    refine g_st (st' := []) rfl ?_
    refine g_aload_n (pc := 20) C 0 dX8_cut_20 rfl rfl ?_
    refine g_iconst (pc := 21) C (v := (-1 : Int32)) dX8_cut_21 (by decide) ?_
    obtain ⟨r22, s22, hc22, h⟩ := hv_b2_some h
    refine g_callV (pc := 22) (σ1 := s22) (v := (some (.long (r22)))) (As := [.int ((-1 : Int32))]) (rest := []) C 0 (vX8_cutBy hc22) (cwV 1 C.1.2.2.2.2 gX8_cut_X8_cutBy rfl rfl rfl (by decide +kernel) ⟨Nat.le_of_ble_eq_true rfl, Nat.le_of_ble_eq_true rfl⟩) (Nat.le_of_ble_eq_true rfl) rfl rfl rfl rfl (Nat.le_of_ble_eq_true rfl) dX8_cut_22 ⟨Nat.zero_le _, Nat.zero_le _⟩ ?_
    refine g_st (st' := [.long (r22)]) rfl ?_
    refine g_lstore (pc := 25) C (lv' := [(4, .long (r22)), (0, .ref (a 0)), (1, .int (p0)), (2, .int (p1)), (3, .int (p2))]) rfl dX8_cut_25 (Nat.le_of_ble_eq_true rfl) rfl ?_
    refine g_iconst (pc := 27) C (v := (0 : Int32)) dX8_cut_27 (by decide) ?_
    refine g_istore (pc := 28) C (lv' := [(6, .int ((0 : Int32))), (4, .long (r22)), (0, .ref (a 0)), (1, .int (p0)), (2, .int (p1)), (3, .int (p2))]) rfl dX8_cut_28 (Nat.le_of_ble_eq_true rfl) rfl ?_
    exact g_lv [2, 4, 5, 1, 0] rfl (bX8_cut_30 C hr n s22 (p1) (p2) (r22) ((0 : Int32)) h)
  · rw [if_pos c10] at h
    refine g_lconst (pc := 13) C (v := (0 : Int64)) dX8_cut_13 (by decide) ?_
    cases h
    exact g_lret (pc := 14) C hr dX8_cut_14
abbrev rmX8_toldAt : Room := { frames := 1, cells := 0, slots := 0, locals := 26 }
set_option maxRecDepth 20000 in
theorem qX8_toldAt_F107 : Cond.fieldLink RX8 107 "PinFrameModel" "on" "I" ∈ wsX8_toldAt := by decide +kernel
set_option maxRecDepth 20000 in
theorem qX8_toldAt_F16 : Cond.fieldLink RX8 16 "PinFrameModel" "held" "[I" ∈ wsX8_toldAt := by decide +kernel
set_option maxRecDepth 20000 in
theorem qX8_toldAt_F22 : Cond.fieldLink RX8 22 "PinFrameModel" "one" "[I" ∈ wsX8_toldAt := by decide +kernel
set_option maxRecDepth 20000 in
theorem qX8_toldAt_F245 : Cond.fieldLink RX8 245 "PinFrameModel" "known" "I" ∈ wsX8_toldAt := by decide +kernel
set_option maxRecDepth 20000 in
theorem qX8_toldAt_F25 : Cond.fieldLink RX8 25 "PinFrameModel" "other" "[I" ∈ wsX8_toldAt := by decide +kernel
set_option maxRecDepth 20000 in
theorem qX8_toldAt_F88 : Cond.fieldLink RX8 88 "PinFrameModel" "bars" "I" ∈ wsX8_toldAt := by decide +kernel
set_option maxRecDepth 20000 in
theorem iX8_toldAt_X8 : ∀ w ∈ u_ws RX8 TX8 35, w ∈ wsX8_toldAt := by decide +kernel
set_option maxHeartbeats 4000000 in
set_option maxRecDepth 20000 in
theorem bX8_toldAt_194 (C : hv_C p s m args meth c cX8_toldAt 5 wsX8_toldAt RX8 D (hv_tys cy)) (hr : meth.sig.returnType = (some .int)) {n : Nat} {o : Int32 × hv_St} : ∀ (i : Nat) (σ : hv_St) (x1 : Int32) (x2 : Int32) (x3 : Int32) (x4 : Int32), kX8_toldAt_194 n i σ x1 x2 x3 x4 = some o → hv_G p l e (headSpec wsX8_toldAt rmX8_toldAt).room s m args below meth c 5 D 23 a (hv_ME a cy) 0 0 (hv_MQ D 23 a (hv_ME a cy) below args s (some (.int o.1)) o.2) σ 194 [(0, .ref (a 0)), (1, .int (x1)), (2, .int (x2)), (3, .int (x3)), (4, .int (x4))] [] := by
  intro i
  induction i with
  | zero =>
    intro σ x1 x2 x3 x4 h
    cases h
  | succ i ih =>
    intro σ x1 x2 x3 x4 h
    generalize hg : kX8_toldAt_194 n i = r194 at ih
    have hr194 := ih
    replace h : kX8_toldAt_194_b n r194 σ x1 x2 x3 x4 = some o := by rw [← hg]; exact h
    unfold kX8_toldAt_194_b at h
    refine g_iload_n (pc := 194) C 2 dX8_toldAt_194 rfl rfl ?_
    refine g_iload (pc := 195) C 4 dX8_toldAt_195 rfl ?_
    obtain ⟨r197, s197, hc197, h⟩ := hv_b2_some h
    refine g_callS (pc := 197) (σ1 := s197) (v := (some (.int (r197)))) (As := [.int (x2), .int (x4)]) (rest := []) C (vX8_isOn hc197) (va_cwS 2 C.1.2.2.2.2 gX8_toldAt_X8_isOn rfl rfl rfl (by decide +kernel) ⟨Nat.le_of_ble_eq_true rfl, Nat.le_of_ble_eq_true rfl⟩) rfl rfl (Nat.le_of_ble_eq_true rfl) dX8_toldAt_197 ⟨Nat.zero_le _, Nat.zero_le _⟩ ?_
    refine g_st (st' := [.int (r197)]) rfl ?_
    refine g_if_ne (pc := 200) (tgt := 209) C dX8_toldAt_200 (by decide) (fun c200 => ?_) (fun c200 => ?_)
    · rw [if_neg c200] at h
      refine g_aload_n (pc := 209) C 0 dX8_toldAt_209 rfl rfl ?_
      refine g_iload_n (pc := 210) C 3 dX8_toldAt_210 rfl rfl ?_
      refine g_iload_n (pc := 211) C 1 dX8_toldAt_211 rfl rfl ?_
      refine g_iconst (pc := 212) C (v := (0 : Int32)) dX8_toldAt_212 (by decide) ?_
      obtain ⟨r213, s213, hc213, h⟩ := hv_b2_some h
      refine g_callV (pc := 213) (σ1 := s213) (v := (some (.int (r213)))) (As := [.int (x3), .int (x1), .int ((0 : Int32))]) (rest := []) C 0 (vX8_brings hc213) (cwV 3 C.1.2.2.2.2 gX8_toldAt_X8_brings rfl rfl rfl (by decide +kernel) ⟨Nat.le_of_ble_eq_true rfl, Nat.le_of_ble_eq_true rfl⟩) (Nat.le_of_ble_eq_true rfl) rfl rfl rfl rfl (Nat.le_of_ble_eq_true rfl) dX8_toldAt_213 ⟨Nat.zero_le _, Nat.zero_le _⟩ ?_
      refine g_st (st' := [.int (r213)]) rfl ?_
      refine g_aload_n (pc := 216) C 0 dX8_toldAt_216 rfl rfl ?_
      refine g_iload (pc := 217) C 4 dX8_toldAt_217 rfl ?_
      refine g_iload_n (pc := 219) C 1 dX8_toldAt_219 rfl rfl ?_
      refine g_iconst (pc := 220) C (v := (1 : Int32)) dX8_toldAt_220 (by decide) ?_
      obtain ⟨r221, s221, hc221, h⟩ := hv_b2_some h
      refine g_callV (pc := 221) (σ1 := s221) (v := (some (.int (r221)))) (As := [.int (x4), .int (x1), .int ((1 : Int32))]) (rest := [.int (r213)]) C 0 (vX8_brings hc221) (cwV 3 C.1.2.2.2.2 gX8_toldAt_X8_brings rfl rfl rfl (by decide +kernel) ⟨Nat.le_of_ble_eq_true rfl, Nat.le_of_ble_eq_true rfl⟩) (Nat.le_of_ble_eq_true rfl) rfl rfl rfl rfl (Nat.le_of_ble_eq_true rfl) dX8_toldAt_221 ⟨Nat.zero_le _, Nat.zero_le _⟩ ?_
      refine g_st (st' := [.int (r221), .int (r213)]) rfl ?_
      refine g_imul (pc := 224) C dX8_toldAt_224 ?_
      refine g_aload_n (pc := 225) C 0 dX8_toldAt_225 rfl rfl ?_
      refine g_iload_n (pc := 226) C 3 dX8_toldAt_226 rfl rfl ?_
      refine g_iload_n (pc := 227) C 1 dX8_toldAt_227 rfl rfl ?_
      refine g_iconst (pc := 228) C (v := (1 : Int32)) dX8_toldAt_228 (by decide) ?_
      obtain ⟨r229, s229, hc229, h⟩ := hv_b2_some h
      refine g_callV (pc := 229) (σ1 := s229) (v := (some (.int (r229)))) (As := [.int (x3), .int (x1), .int ((1 : Int32))]) (rest := [.int ((r213) * (r221))]) C 0 (vX8_brings hc229) (cwV 3 C.1.2.2.2.2 gX8_toldAt_X8_brings rfl rfl rfl (by decide +kernel) ⟨Nat.le_of_ble_eq_true rfl, Nat.le_of_ble_eq_true rfl⟩) (Nat.le_of_ble_eq_true rfl) rfl rfl rfl rfl (Nat.le_of_ble_eq_true rfl) dX8_toldAt_229 ⟨Nat.zero_le _, Nat.zero_le _⟩ ?_
      refine g_st (st' := [.int (r229), .int ((r213) * (r221))]) rfl ?_
      refine g_aload_n (pc := 232) C 0 dX8_toldAt_232 rfl rfl ?_
      refine g_iload (pc := 233) C 4 dX8_toldAt_233 rfl ?_
      refine g_iload_n (pc := 235) C 1 dX8_toldAt_235 rfl rfl ?_
      refine g_iconst (pc := 236) C (v := (0 : Int32)) dX8_toldAt_236 (by decide) ?_
      obtain ⟨r237, s237, hc237, h⟩ := hv_b2_some h
      refine g_callV (pc := 237) (σ1 := s237) (v := (some (.int (r237)))) (As := [.int (x4), .int (x1), .int ((0 : Int32))]) (rest := [.int (r229), .int ((r213) * (r221))]) C 0 (vX8_brings hc237) (cwV 3 C.1.2.2.2.2 gX8_toldAt_X8_brings rfl rfl rfl (by decide +kernel) ⟨Nat.le_of_ble_eq_true rfl, Nat.le_of_ble_eq_true rfl⟩) (Nat.le_of_ble_eq_true rfl) rfl rfl rfl rfl (Nat.le_of_ble_eq_true rfl) dX8_toldAt_237 ⟨Nat.zero_le _, Nat.zero_le _⟩ ?_
      refine g_st (st' := [.int (r237), .int (r229), .int ((r213) * (r221))]) rfl ?_
      refine g_imul (pc := 240) C dX8_toldAt_240 ?_
      refine g_icmp_eq (pc := 241) (tgt := 248) C dX8_toldAt_241 (by decide) (fun c241 => ?_) (fun c241 => ?_)
      · rw [if_pos c241] at h
        refine g_iconst (pc := 248) C (v := (0 : Int32)) dX8_toldAt_248 (by decide) ?_
        cases h
        exact g_iret (pc := 249) C hr dX8_toldAt_249
      · rw [if_neg c241] at h
        refine g_iload_n (pc := 244) C 2 dX8_toldAt_244 rfl rfl ?_
        refine g_goto (pc := 245) C (tgt := 249) dX8_toldAt_245 (by decide) ?_
        cases h
        exact g_iret (pc := 249) C hr dX8_toldAt_249
    · rw [if_pos c200] at h
      refine g_iinc (pc := 203) C 4 (v := x4 + 1) (lv' := [(4, .int (x4 + 1)), (0, .ref (a 0)), (1, .int (x1)), (2, .int (x2)), (3, .int (x3))]) dX8_toldAt_203 rfl rfl (Nat.le_of_ble_eq_true rfl) rfl ?_
      refine g_goto (pc := 206) C (tgt := 194) dX8_toldAt_206 (by decide) ?_
      exact g_lv [1, 2, 3, 4, 0] rfl (hr194 s197 (x1) (x2) (x3) (x4 + 1) h)
set_option maxHeartbeats 4000000 in
set_option maxRecDepth 20000 in
theorem bX8_toldAt_175 (C : hv_C p s m args meth c cX8_toldAt 5 wsX8_toldAt RX8 D (hv_tys cy)) (hr : meth.sig.returnType = (some .int)) {n : Nat} {o : Int32 × hv_St} : ∀ (i : Nat) (σ : hv_St) (x1 : Int32) (x2 : Int32) (x3 : Int32), kX8_toldAt_175 n i σ x1 x2 x3 = some o → hv_G p l e (headSpec wsX8_toldAt rmX8_toldAt).room s m args below meth c 5 D 23 a (hv_ME a cy) 0 0 (hv_MQ D 23 a (hv_ME a cy) below args s (some (.int o.1)) o.2) σ 175 [(0, .ref (a 0)), (1, .int (x1)), (2, .int (x2)), (3, .int (x3))] [] := by
  intro i
  induction i with
  | zero =>
    intro σ x1 x2 x3 h
    cases h
  | succ i ih =>
    intro σ x1 x2 x3 h
    generalize hg : kX8_toldAt_175 n i = r175 at ih
    have hr175 := ih
    replace h : kX8_toldAt_175_b n r175 σ x1 x2 x3 = some o := by rw [← hg]; exact h
    unfold kX8_toldAt_175_b at h
    refine g_iload_n (pc := 175) C 2 dX8_toldAt_175 rfl rfl ?_
    refine g_iload_n (pc := 176) C 3 dX8_toldAt_176 rfl rfl ?_
    obtain ⟨r177, s177, hc177, h⟩ := hv_b2_some h
    refine g_callS (pc := 177) (σ1 := s177) (v := (some (.int (r177)))) (As := [.int (x2), .int (x3)]) (rest := []) C (vX8_isOn hc177) (va_cwS 2 C.1.2.2.2.2 gX8_toldAt_X8_isOn rfl rfl rfl (by decide +kernel) ⟨Nat.le_of_ble_eq_true rfl, Nat.le_of_ble_eq_true rfl⟩) rfl rfl (Nat.le_of_ble_eq_true rfl) dX8_toldAt_177 ⟨Nat.zero_le _, Nat.zero_le _⟩ ?_
    refine g_st (st' := [.int (r177)]) rfl ?_
    refine g_if_ne (pc := 180) (tgt := 189) C dX8_toldAt_180 (by decide) (fun c180 => ?_) (fun c180 => ?_)
    · rw [if_neg c180] at h
      refine g_iload_n (pc := 189) C 3 dX8_toldAt_189 rfl rfl ?_
      refine g_iconst (pc := 190) C (v := (1 : Int32)) dX8_toldAt_190 (by decide) ?_
      refine g_iadd (pc := 191) C dX8_toldAt_191 ?_
      obtain ⟨y4_192, ey4_192, h⟩ := hv_let_some h
      refine g_istore (pc := 192) C (lv' := [(4, .int (y4_192)), (0, .ref (a 0)), (1, .int (x1)), (2, .int (x2)), (3, .int (x3))]) ey4_192 dX8_toldAt_192 (Nat.le_of_ble_eq_true rfl) rfl ?_
      exact g_lv [1, 2, 3, 4, 0] rfl (bX8_toldAt_194 C hr n s177 (x1) (x2) (x3) (y4_192) h)
    · rw [if_pos c180] at h
      refine g_iinc (pc := 183) C 3 (v := x3 + 1) (lv' := [(3, .int (x3 + 1)), (0, .ref (a 0)), (1, .int (x1)), (2, .int (x2))]) dX8_toldAt_183 rfl rfl (Nat.le_of_ble_eq_true rfl) rfl ?_
      refine g_goto (pc := 186) C (tgt := 175) dX8_toldAt_186 (by decide) ?_
      exact g_lv [1, 2, 3, 0] rfl (hr175 s177 (x1) (x2) (x3 + 1) h)
set_option maxHeartbeats 4000000 in
set_option maxRecDepth 20000 in
theorem bX8_toldAt_141 (C : hv_C p s m args meth c cX8_toldAt 5 wsX8_toldAt RX8 D (hv_tys cy)) (hr : meth.sig.returnType = (some .int)) {n : Nat} {o : Int32 × hv_St} : ∀ (σ : hv_St) (x2 : Int32) (z0 : Int32), kX8_toldAt_141 n σ x2 z0 = some o → hv_G p l e (headSpec wsX8_toldAt rmX8_toldAt).room s m args below meth c 5 D 23 a (hv_ME a cy) 0 0 (hv_MQ D 23 a (hv_ME a cy) below args s (some (.int o.1)) o.2) σ 141 [(2, .int (x2))] [.int (z0)] := by
  intro σ x2 z0 h
  unfold kX8_toldAt_141 at h
  refine g_istore (pc := 141) C (lv' := [(4, .int (z0)), (2, .int (x2))]) rfl dX8_toldAt_141 (Nat.le_of_ble_eq_true rfl) rfl ?_
  refine g_iload (pc := 143) C 0 dX8_toldAt_143 rfl ?_
  refine g_if_eq (pc := 145) (tgt := 152) C dX8_toldAt_145 (by decide) (fun c145 => ?_) (fun c145 => ?_)
  · rw [if_pos c145] at h
    refine g_iconst (pc := 152) C (v := (0 : Int32)) dX8_toldAt_152 (by decide) ?_
    cases h
    exact g_iret (pc := 153) C hr dX8_toldAt_153
  · rw [if_neg c145] at h
    refine g_iload_n (pc := 148) C 1 dX8_toldAt_148 rfl rfl ?_
    refine g_goto (pc := 149) C (tgt := 153) dX8_toldAt_149 (by decide) ?_
    cases h
    exact g_iret (pc := 153) C hr dX8_toldAt_153
set_option maxHeartbeats 4000000 in
set_option maxRecDepth 20000 in
theorem bX8_toldAt_136 (C : hv_C p s m args meth c cX8_toldAt 5 wsX8_toldAt RX8 D (hv_tys cy)) (hr : meth.sig.returnType = (some .int)) {n : Nat} {o : Int32 × hv_St} : ∀ (σ : hv_St) (x2 : Int32), kX8_toldAt_136 n σ x2 = some o → hv_G p l e (headSpec wsX8_toldAt rmX8_toldAt).room s m args below meth c 5 D 23 a (hv_ME a cy) 0 0 (hv_MQ D 23 a (hv_ME a cy) below args s (some (.int o.1)) o.2) σ 136 [(2, .int (x2))] [] := by
  intro σ x2 h
  unfold kX8_toldAt_136 at h
  refine g_iconst (pc := 136) C (v := (1 : Int32)) dX8_toldAt_136 (by decide) ?_
  refine g_goto (pc := 137) C (tgt := 141) dX8_toldAt_137 (by decide) ?_
  exact g_lv [0] rfl (bX8_toldAt_141 C hr σ (x2) ((1 : Int32)) h)
set_option maxHeartbeats 4000000 in
set_option maxRecDepth 20000 in
theorem bX8_toldAt_140 (C : hv_C p s m args meth c cX8_toldAt 5 wsX8_toldAt RX8 D (hv_tys cy)) (hr : meth.sig.returnType = (some .int)) {n : Nat} {o : Int32 × hv_St} : ∀ (σ : hv_St) (x2 : Int32), kX8_toldAt_140 n σ x2 = some o → hv_G p l e (headSpec wsX8_toldAt rmX8_toldAt).room s m args below meth c 5 D 23 a (hv_ME a cy) 0 0 (hv_MQ D 23 a (hv_ME a cy) below args s (some (.int o.1)) o.2) σ 140 [(2, .int (x2))] [] := by
  intro σ x2 h
  unfold kX8_toldAt_140 at h
  refine g_iconst (pc := 140) C (v := (0 : Int32)) dX8_toldAt_140 (by decide) ?_
  exact g_lv [0] rfl (bX8_toldAt_141 C hr σ (x2) ((0 : Int32)) h)
set_option maxHeartbeats 4000000 in
set_option maxRecDepth 20000 in
theorem bX8_toldAt_113 (C : hv_C p s m args meth c cX8_toldAt 5 wsX8_toldAt RX8 D (hv_tys cy)) (hr : meth.sig.returnType = (some .int)) {n : Nat} {o : Int32 × hv_St} : ∀ (σ : hv_St) (x1 : Int32) (x2 : Int32) (x3 : Int32), kX8_toldAt_113 n σ x1 x2 x3 = some o → hv_G p l e (headSpec wsX8_toldAt rmX8_toldAt).room s m args below meth c 5 D 23 a (hv_ME a cy) 0 0 (hv_MQ D 23 a (hv_ME a cy) below args s (some (.int o.1)) o.2) σ 113 [(0, .ref (a 0)), (1, .int (x1)), (2, .int (x2)), (3, .int (x3))] [] := by
  intro σ x1 x2 x3 h
  unfold kX8_toldAt_113 at h
  refine g_aload_n (pc := 113) C 0 dX8_toldAt_113 rfl rfl ?_
  refine gm_get_0_4 (pc := 114) C iX8_toldAt_X8 qX8_toldAt_F16 dX8_toldAt_114 ?_
  refine g_iload_n (pc := 117) C 1 dX8_toldAt_117 rfl rfl ?_
  obtain ⟨k118, h⟩ := hv_if_some h
  refine gm_ld_3 (pc := 118) C k118 dX8_toldAt_118 ?_
  refine g_iconst (pc := 119) C (v := (1 : Int32)) dX8_toldAt_119 (by decide) ?_
  obtain ⟨r120, s120, hc120, h⟩ := hv_b2_some h
  refine g_callS (pc := 120) (σ1 := s120) (v := (some (.int (r120)))) (As := [.int (σ.1 3 (x1).toNatClampNeg), .int ((1 : Int32))]) (rest := []) C (vX8_isOn hc120) (va_cwS 2 C.1.2.2.2.2 gX8_toldAt_X8_isOn rfl rfl rfl (by decide +kernel) ⟨Nat.le_of_ble_eq_true rfl, Nat.le_of_ble_eq_true rfl⟩) rfl rfl (Nat.le_of_ble_eq_true rfl) dX8_toldAt_120 ⟨Nat.zero_le _, Nat.zero_le _⟩ ?_
  refine g_st (st' := [.int (r120)]) rfl ?_
  refine g_if_ne (pc := 123) (tgt := 140) C dX8_toldAt_123 (by decide) (fun c123 => ?_) (fun c123 => ?_)
  · rw [if_neg c123] at h
    exact g_lv [2] rfl (bX8_toldAt_140 C hr s120 (x2) h)
  · rw [if_pos c123] at h
    refine g_aload_n (pc := 126) C 0 dX8_toldAt_126 rfl rfl ?_
    refine g_iload_n (pc := 127) C 3 dX8_toldAt_127 rfl rfl ?_
    refine g_iload_n (pc := 128) C 1 dX8_toldAt_128 rfl rfl ?_
    refine g_iconst (pc := 129) C (v := (1 : Int32)) dX8_toldAt_129 (by decide) ?_
    obtain ⟨r130, s130, hc130, h⟩ := hv_b2_some h
    refine g_callV (pc := 130) (σ1 := s130) (v := (some (.int (r130)))) (As := [.int (x3), .int (x1), .int ((1 : Int32))]) (rest := []) C 0 (vX8_brings hc130) (cwV 3 C.1.2.2.2.2 gX8_toldAt_X8_brings rfl rfl rfl (by decide +kernel) ⟨Nat.le_of_ble_eq_true rfl, Nat.le_of_ble_eq_true rfl⟩) (Nat.le_of_ble_eq_true rfl) rfl rfl rfl rfl (Nat.le_of_ble_eq_true rfl) dX8_toldAt_130 ⟨Nat.zero_le _, Nat.zero_le _⟩ ?_
    refine g_st (st' := [.int (r130)]) rfl ?_
    refine g_if_eq (pc := 133) (tgt := 140) C dX8_toldAt_133 (by decide) (fun c133 => ?_) (fun c133 => ?_)
    · rw [if_pos c133] at h
      exact g_lv [2] rfl (bX8_toldAt_140 C hr s130 (x2) h)
    · rw [if_neg c133] at h
      exact g_lv [2] rfl (bX8_toldAt_136 C hr s130 (x2) h)
set_option maxHeartbeats 4000000 in
set_option maxRecDepth 20000 in
theorem bX8_toldAt_76 (C : hv_C p s m args meth c cX8_toldAt 5 wsX8_toldAt RX8 D (hv_tys cy)) (hr : meth.sig.returnType = (some .int)) {n : Nat} {o : Int32 × hv_St} : ∀ (i : Nat) (σ : hv_St) (x1 : Int32) (x2 : Int32) (x3 : Int32), kX8_toldAt_76 n i σ x1 x2 x3 = some o → hv_G p l e (headSpec wsX8_toldAt rmX8_toldAt).room s m args below meth c 5 D 23 a (hv_ME a cy) 0 0 (hv_MQ D 23 a (hv_ME a cy) below args s (some (.int o.1)) o.2) σ 76 [(0, .ref (a 0)), (1, .int (x1)), (2, .int (x2)), (3, .int (x3))] [] := by
  intro i
  induction i with
  | zero =>
    intro σ x1 x2 x3 h
    cases h
  | succ i ih =>
    intro σ x1 x2 x3 h
    generalize hg : kX8_toldAt_76 n i = r76 at ih
    have hr76 := ih
    replace h : kX8_toldAt_76_b n r76 σ x1 x2 x3 = some o := by rw [← hg]; exact h
    unfold kX8_toldAt_76_b at h
    refine g_iload_n (pc := 76) C 2 dX8_toldAt_76 rfl rfl ?_
    refine g_iload_n (pc := 77) C 3 dX8_toldAt_77 rfl rfl ?_
    obtain ⟨r78, s78, hc78, h⟩ := hv_b2_some h
    refine g_callS (pc := 78) (σ1 := s78) (v := (some (.int (r78)))) (As := [.int (x2), .int (x3)]) (rest := []) C (vX8_isOn hc78) (va_cwS 2 C.1.2.2.2.2 gX8_toldAt_X8_isOn rfl rfl rfl (by decide +kernel) ⟨Nat.le_of_ble_eq_true rfl, Nat.le_of_ble_eq_true rfl⟩) rfl rfl (Nat.le_of_ble_eq_true rfl) dX8_toldAt_78 ⟨Nat.zero_le _, Nat.zero_le _⟩ ?_
    refine g_st (st' := [.int (r78)]) rfl ?_
    refine g_if_ne (pc := 81) (tgt := 90) C dX8_toldAt_81 (by decide) (fun c81 => ?_) (fun c81 => ?_)
    · rw [if_neg c81] at h
      refine g_aload_n (pc := 90) C 0 dX8_toldAt_90 rfl rfl ?_
      refine gm_get_0_4 (pc := 91) C iX8_toldAt_X8 qX8_toldAt_F16 dX8_toldAt_91 ?_
      refine g_iload_n (pc := 94) C 1 dX8_toldAt_94 rfl rfl ?_
      obtain ⟨k95, h⟩ := hv_if_some h
      refine gm_ld_3 (pc := 95) C k95 dX8_toldAt_95 ?_
      refine g_iconst (pc := 96) C (v := (0 : Int32)) dX8_toldAt_96 (by decide) ?_
      obtain ⟨r97, s97, hc97, h⟩ := hv_b2_some h
      refine g_callS (pc := 97) (σ1 := s97) (v := (some (.int (r97)))) (As := [.int (s78.1 3 (x1).toNatClampNeg), .int ((0 : Int32))]) (rest := []) C (vX8_isOn hc97) (va_cwS 2 C.1.2.2.2.2 gX8_toldAt_X8_isOn rfl rfl rfl (by decide +kernel) ⟨Nat.le_of_ble_eq_true rfl, Nat.le_of_ble_eq_true rfl⟩) rfl rfl (Nat.le_of_ble_eq_true rfl) dX8_toldAt_97 ⟨Nat.zero_le _, Nat.zero_le _⟩ ?_
      refine g_st (st' := [.int (r97)]) rfl ?_
      refine g_if_ne (pc := 100) (tgt := 113) C dX8_toldAt_100 (by decide) (fun c100 => ?_) (fun c100 => ?_)
      · rw [if_neg c100] at h
        exact g_lv [0, 1, 2, 3] rfl (bX8_toldAt_113 C hr s97 (x1) (x2) (x3) h)
      · rw [if_pos c100] at h
        refine g_aload_n (pc := 103) C 0 dX8_toldAt_103 rfl rfl ?_
        refine g_iload_n (pc := 104) C 3 dX8_toldAt_104 rfl rfl ?_
        refine g_iload_n (pc := 105) C 1 dX8_toldAt_105 rfl rfl ?_
        refine g_iconst (pc := 106) C (v := (0 : Int32)) dX8_toldAt_106 (by decide) ?_
        obtain ⟨r107, s107, hc107, h⟩ := hv_b2_some h
        refine g_callV (pc := 107) (σ1 := s107) (v := (some (.int (r107)))) (As := [.int (x3), .int (x1), .int ((0 : Int32))]) (rest := []) C 0 (vX8_brings hc107) (cwV 3 C.1.2.2.2.2 gX8_toldAt_X8_brings rfl rfl rfl (by decide +kernel) ⟨Nat.le_of_ble_eq_true rfl, Nat.le_of_ble_eq_true rfl⟩) (Nat.le_of_ble_eq_true rfl) rfl rfl rfl rfl (Nat.le_of_ble_eq_true rfl) dX8_toldAt_107 ⟨Nat.zero_le _, Nat.zero_le _⟩ ?_
        refine g_st (st' := [.int (r107)]) rfl ?_
        refine g_if_ne (pc := 110) (tgt := 136) C dX8_toldAt_110 (by decide) (fun c110 => ?_) (fun c110 => ?_)
        · rw [if_neg c110] at h
          exact g_lv [2] rfl (bX8_toldAt_136 C hr s107 (x2) h)
        · rw [if_pos c110] at h
          exact g_lv [0, 1, 2, 3] rfl (bX8_toldAt_113 C hr s107 (x1) (x2) (x3) h)
    · rw [if_pos c81] at h
      refine g_iinc (pc := 84) C 3 (v := x3 + 1) (lv' := [(3, .int (x3 + 1)), (0, .ref (a 0)), (1, .int (x1)), (2, .int (x2))]) dX8_toldAt_84 rfl rfl (Nat.le_of_ble_eq_true rfl) rfl ?_
      refine g_goto (pc := 87) C (tgt := 76) dX8_toldAt_87 (by decide) ?_
      exact g_lv [1, 2, 3, 0] rfl (hr76 s78 (x1) (x2) (x3 + 1) h)
set_option maxHeartbeats 4000000 in
set_option maxRecDepth 20000 in
theorem bX8_toldAt_58 (C : hv_C p s m args meth c cX8_toldAt 5 wsX8_toldAt RX8 D (hv_tys cy)) (hr : meth.sig.returnType = (some .int)) {n : Nat} {o : Int32 × hv_St} {r4 : hv_St → Int32 → Int32 → Int32 → Option (Int32 × hv_St)} (hr4 : ∀ (σ : hv_St) (x1 : Int32) (x2 : Int32) (x3 : Int32), r4 σ x1 x2 x3 = some o → hv_G p l e (headSpec wsX8_toldAt rmX8_toldAt).room s m args below meth c 5 D 23 a (hv_ME a cy) 0 0 (hv_MQ D 23 a (hv_ME a cy) below args s (some (.int o.1)) o.2) σ 4 [(0, .ref (a 0)), (1, .int (x1)), (2, .int (x2)), (3, .int (x3))] []) : ∀ (σ : hv_St) (x1 : Int32) (x3 : Int32) (z0 : Int32) (z1 : Int32), kX8_toldAt_58 n r4 σ x1 x3 z0 z1 = some o → hv_G p l e (headSpec wsX8_toldAt rmX8_toldAt).room s m args below meth c 5 D 23 a (hv_ME a cy) 0 0 (hv_MQ D 23 a (hv_ME a cy) below args s (some (.int o.1)) o.2) σ 58 [(0, .ref (a 0)), (1, .int (x1)), (3, .int (x3))] [.int (z0), .int (z1)] := by
  intro σ x1 x3 z0 z1 h
  unfold kX8_toldAt_58 at h
  refine g_ior (pc := 58) C dX8_toldAt_58 ?_
  obtain ⟨y2_59, ey2_59, h⟩ := hv_let_some h
  refine g_istore_n (pc := 59) C (lv' := [(2, .int (y2_59)), (0, .ref (a 0)), (1, .int (x1)), (3, .int (x3))]) ey2_59 dX8_toldAt_59 rfl (Nat.le_of_ble_eq_true rfl) rfl ?_
  refine g_iinc (pc := 60) C 3 (v := x3 + 1) (lv' := [(3, .int (x3 + 1)), (2, .int (y2_59)), (0, .ref (a 0)), (1, .int (x1))]) dX8_toldAt_60 rfl rfl (Nat.le_of_ble_eq_true rfl) rfl ?_
  refine g_goto (pc := 63) C (tgt := 4) dX8_toldAt_63 (by decide) ?_
  exact g_lv [2, 3, 1, 0] rfl (hr4 σ (x1) (y2_59) (x3 + 1) h)
set_option maxHeartbeats 4000000 in
set_option maxRecDepth 20000 in
theorem bX8_toldAt_57 (C : hv_C p s m args meth c cX8_toldAt 5 wsX8_toldAt RX8 D (hv_tys cy)) (hr : meth.sig.returnType = (some .int)) {n : Nat} {o : Int32 × hv_St} {r4 : hv_St → Int32 → Int32 → Int32 → Option (Int32 × hv_St)} (hr4 : ∀ (σ : hv_St) (x1 : Int32) (x2 : Int32) (x3 : Int32), r4 σ x1 x2 x3 = some o → hv_G p l e (headSpec wsX8_toldAt rmX8_toldAt).room s m args below meth c 5 D 23 a (hv_ME a cy) 0 0 (hv_MQ D 23 a (hv_ME a cy) below args s (some (.int o.1)) o.2) σ 4 [(0, .ref (a 0)), (1, .int (x1)), (2, .int (x2)), (3, .int (x3))] []) : ∀ (σ : hv_St) (x1 : Int32) (x3 : Int32) (z0 : Int32), kX8_toldAt_57 n r4 σ x1 x3 z0 = some o → hv_G p l e (headSpec wsX8_toldAt rmX8_toldAt).room s m args below meth c 5 D 23 a (hv_ME a cy) 0 0 (hv_MQ D 23 a (hv_ME a cy) below args s (some (.int o.1)) o.2) σ 57 [(0, .ref (a 0)), (1, .int (x1)), (3, .int (x3))] [.int (z0)] := by
  intro σ x1 x3 z0 h
  unfold kX8_toldAt_57 at h
  refine g_iconst (pc := 57) C (v := (0 : Int32)) dX8_toldAt_57 (by decide) ?_
  exact g_lv [0, 1, 2] rfl (bX8_toldAt_58 C hr hr4 σ (x1) (x3) ((0 : Int32)) (z0) h)
set_option maxHeartbeats 4000000 in
set_option maxRecDepth 20000 in
theorem bX8_toldAt_51 (C : hv_C p s m args meth c cX8_toldAt 5 wsX8_toldAt RX8 D (hv_tys cy)) (hr : meth.sig.returnType = (some .int)) {n : Nat} {o : Int32 × hv_St} {r4 : hv_St → Int32 → Int32 → Int32 → Option (Int32 × hv_St)} (hr4 : ∀ (σ : hv_St) (x1 : Int32) (x2 : Int32) (x3 : Int32), r4 σ x1 x2 x3 = some o → hv_G p l e (headSpec wsX8_toldAt rmX8_toldAt).room s m args below meth c 5 D 23 a (hv_ME a cy) 0 0 (hv_MQ D 23 a (hv_ME a cy) below args s (some (.int o.1)) o.2) σ 4 [(0, .ref (a 0)), (1, .int (x1)), (2, .int (x2)), (3, .int (x3))] []) : ∀ (σ : hv_St) (x1 : Int32) (x3 : Int32) (z0 : Int32), kX8_toldAt_51 n r4 σ x1 x3 z0 = some o → hv_G p l e (headSpec wsX8_toldAt rmX8_toldAt).room s m args below meth c 5 D 23 a (hv_ME a cy) 0 0 (hv_MQ D 23 a (hv_ME a cy) below args s (some (.int o.1)) o.2) σ 51 [(0, .ref (a 0)), (1, .int (x1)), (3, .int (x3))] [.int (z0)] := by
  intro σ x1 x3 z0 h
  unfold kX8_toldAt_51 at h
  refine g_iconst (pc := 51) C (v := (1 : Int32)) dX8_toldAt_51 (by decide) ?_
  refine g_iload_n (pc := 52) C 2 dX8_toldAt_52 rfl rfl ?_
  refine g_ishl (pc := 53) C dX8_toldAt_53 ?_
  refine g_goto (pc := 54) C (tgt := 58) dX8_toldAt_54 (by decide) ?_
  exact g_lv [0, 1, 2] rfl (bX8_toldAt_58 C hr hr4 σ (x1) (x3) (((1 : Int32)) <<< ((x3) &&& 31)) (z0) h)
set_option maxHeartbeats 4000000 in
set_option maxRecDepth 20000 in
theorem bX8_toldAt_4 (C : hv_C p s m args meth c cX8_toldAt 5 wsX8_toldAt RX8 D (hv_tys cy)) (hr : meth.sig.returnType = (some .int)) {n : Nat} {o : Int32 × hv_St} : ∀ (i : Nat) (σ : hv_St) (x1 : Int32) (x2 : Int32) (x3 : Int32), kX8_toldAt_4 n i σ x1 x2 x3 = some o → hv_G p l e (headSpec wsX8_toldAt rmX8_toldAt).room s m args below meth c 5 D 23 a (hv_ME a cy) 0 0 (hv_MQ D 23 a (hv_ME a cy) below args s (some (.int o.1)) o.2) σ 4 [(0, .ref (a 0)), (1, .int (x1)), (2, .int (x2)), (3, .int (x3))] [] := by
  intro i
  induction i with
  | zero =>
    intro σ x1 x2 x3 h
    cases h
  | succ i ih =>
    intro σ x1 x2 x3 h
    generalize hg : kX8_toldAt_4 n i = r4 at ih
    have hr4 := ih
    replace h : kX8_toldAt_4_b n r4 σ x1 x2 x3 = some o := by rw [← hg]; exact h
    unfold kX8_toldAt_4_b at h
    refine g_iload_n (pc := 4) C 3 dX8_toldAt_4 rfl rfl ?_
    refine g_aload_n (pc := 5) C 0 dX8_toldAt_5 rfl rfl ?_
    refine gm_get_0_6 (pc := 6) C iX8_toldAt_X8 qX8_toldAt_F88 dX8_toldAt_6 ?_
    refine g_icmp_ge (pc := 9) (tgt := 66) C dX8_toldAt_9 (by decide) (fun c9 => ?_) (fun c9 => ?_)
    · rw [if_pos c9] at h
      refine g_iload_n (pc := 66) C 2 dX8_toldAt_66 rfl rfl ?_
      obtain ⟨r67, s67, hc67, h⟩ := hv_b2_some h
      refine g_callS (pc := 67) (σ1 := s67) (v := (some (.int (r67)))) (As := [.int (x2)]) (rest := []) C (vX8_bits hc67) (va_cwS 1 C.1.2.2.2.2 gX8_toldAt_X8_bits rfl rfl rfl (by decide +kernel) ⟨Nat.le_of_ble_eq_true rfl, Nat.le_of_ble_eq_true rfl⟩) rfl rfl (Nat.le_of_ble_eq_true rfl) dX8_toldAt_67 ⟨Nat.zero_le _, Nat.zero_le _⟩ ?_
      refine g_st (st' := [.int (r67)]) rfl ?_
      refine g_iconst (pc := 70) C (v := (1 : Int32)) dX8_toldAt_70 (by decide) ?_
      refine g_icmp_ne (pc := 71) (tgt := 154) C dX8_toldAt_71 (by decide) (fun c71 => ?_) (fun c71 => ?_)
      · rw [if_neg c71] at h
        refine g_iload_n (pc := 154) C 2 dX8_toldAt_154 rfl rfl ?_
        obtain ⟨r155, s155, hc155, h⟩ := hv_b2_some h
        refine g_callS (pc := 155) (σ1 := s155) (v := (some (.int (r155)))) (As := [.int (x2)]) (rest := []) C (vX8_bits hc155) (va_cwS 1 C.1.2.2.2.2 gX8_toldAt_X8_bits rfl rfl rfl (by decide +kernel) ⟨Nat.le_of_ble_eq_true rfl, Nat.le_of_ble_eq_true rfl⟩) rfl rfl (Nat.le_of_ble_eq_true rfl) dX8_toldAt_155 ⟨Nat.zero_le _, Nat.zero_le _⟩ ?_
        refine g_st (st' := [.int (r155)]) rfl ?_
        refine g_iconst (pc := 158) C (v := (2 : Int32)) dX8_toldAt_158 (by decide) ?_
        refine g_icmp_ne (pc := 159) (tgt := 171) C dX8_toldAt_159 (by decide) (fun c159 => ?_) (fun c159 => ?_)
        · rw [if_neg c159] at h
          refine g_iconst (pc := 171) C (v := (0 : Int32)) dX8_toldAt_171 (by decide) ?_
          cases h
          exact g_iret (pc := 172) C hr dX8_toldAt_172
        · rw [if_pos c159] at h
          refine g_aload_n (pc := 162) C 0 dX8_toldAt_162 rfl rfl ?_
          refine gm_get_0_4 (pc := 163) C iX8_toldAt_X8 qX8_toldAt_F16 dX8_toldAt_163 ?_
          refine g_iload_n (pc := 166) C 1 dX8_toldAt_166 rfl rfl ?_
          obtain ⟨k167, h⟩ := hv_if_some h
          refine gm_ld_3 (pc := 167) C k167 dX8_toldAt_167 ?_
          refine g_if_eq (pc := 168) (tgt := 173) C dX8_toldAt_168 (by decide) (fun c168 => ?_) (fun c168 => ?_)
          · rw [if_pos c168] at h
            refine g_iconst (pc := 173) C (v := (0 : Int32)) dX8_toldAt_173 (by decide) ?_
            refine g_istore_n (pc := 174) C (lv' := [(3, .int ((0 : Int32))), (0, .ref (a 0)), (1, .int (x1)), (2, .int (x2))]) rfl dX8_toldAt_174 rfl (Nat.le_of_ble_eq_true rfl) rfl ?_
            exact g_lv [1, 2, 3, 0] rfl (bX8_toldAt_175 C hr n s155 (x1) (x2) ((0 : Int32)) h)
          · rw [if_neg c168] at h
            refine g_iconst (pc := 171) C (v := (0 : Int32)) dX8_toldAt_171 (by decide) ?_
            cases h
            exact g_iret (pc := 172) C hr dX8_toldAt_172
      · rw [if_pos c71] at h
        refine g_iconst (pc := 74) C (v := (0 : Int32)) dX8_toldAt_74 (by decide) ?_
        refine g_istore_n (pc := 75) C (lv' := [(3, .int ((0 : Int32))), (0, .ref (a 0)), (1, .int (x1)), (2, .int (x2))]) rfl dX8_toldAt_75 rfl (Nat.le_of_ble_eq_true rfl) rfl ?_
        exact g_lv [1, 2, 3, 0] rfl (bX8_toldAt_76 C hr n s67 (x1) (x2) ((0 : Int32)) h)
    · rw [if_neg c9] at h
      refine g_iload_n (pc := 12) C 2 dX8_toldAt_12 rfl rfl ?_
      refine g_aload_n (pc := 13) C 0 dX8_toldAt_13 rfl rfl ?_
      refine gm_get_0_11 (pc := 14) C iX8_toldAt_X8 qX8_toldAt_F107 dX8_toldAt_14 ?_
      refine g_aload_n (pc := 17) C 0 dX8_toldAt_17 rfl rfl ?_
      refine gm_get_0_32 (pc := 18) C iX8_toldAt_X8 qX8_toldAt_F245 dX8_toldAt_18 ?_
      refine g_iconst (pc := 21) C (v := (-1 : Int32)) dX8_toldAt_21 (by decide) ?_
      refine g_ixor (pc := 22) C dX8_toldAt_22 ?_
      refine g_iand (pc := 23) C dX8_toldAt_23 ?_
      refine g_iload_n (pc := 24) C 3 dX8_toldAt_24 rfl rfl ?_
      obtain ⟨r25, s25, hc25, h⟩ := hv_b2_some h
      refine g_callS (pc := 25) (σ1 := s25) (v := (some (.int (r25)))) (As := [.int ((σ.1 0 11) &&& ((σ.1 0 32) ^^^ ((-1 : Int32)))), .int (x3)]) (rest := [.int (x2)]) C (vX8_isOn hc25) (va_cwS 2 C.1.2.2.2.2 gX8_toldAt_X8_isOn rfl rfl rfl (by decide +kernel) ⟨Nat.le_of_ble_eq_true rfl, Nat.le_of_ble_eq_true rfl⟩) rfl rfl (Nat.le_of_ble_eq_true rfl) dX8_toldAt_25 ⟨Nat.zero_le _, Nat.zero_le _⟩ ?_
      refine g_st (st' := [.int (r25), .int (x2)]) rfl ?_
      refine g_if_eq (pc := 28) (tgt := 57) C dX8_toldAt_28 (by decide) (fun c28 => ?_) (fun c28 => ?_)
      · rw [if_pos c28] at h
        exact g_lv [0, 1, 3] rfl (bX8_toldAt_57 C hr hr4 s25 (x1) (x3) (x2) h)
      · rw [if_neg c28] at h
        refine g_aload_n (pc := 31) C 0 dX8_toldAt_31 rfl rfl ?_
        refine gm_get_0_7 (pc := 32) C iX8_toldAt_X8 qX8_toldAt_F22 dX8_toldAt_32 ?_
        refine g_iload_n (pc := 35) C 3 dX8_toldAt_35 rfl rfl ?_
        obtain ⟨k36, h⟩ := hv_if_some h
        refine gm_ld_5 (pc := 36) C k36 dX8_toldAt_36 ?_
        refine g_iload_n (pc := 37) C 1 dX8_toldAt_37 rfl rfl ?_
        refine g_icmp_eq (pc := 38) (tgt := 51) C dX8_toldAt_38 (by decide) (fun c38 => ?_) (fun c38 => ?_)
        · rw [if_pos c38] at h
          exact g_lv [0, 1, 3] rfl (bX8_toldAt_51 C hr hr4 s25 (x1) (x3) (x2) h)
        · rw [if_neg c38] at h
          refine g_aload_n (pc := 41) C 0 dX8_toldAt_41 rfl rfl ?_
          refine gm_get_0_8 (pc := 42) C iX8_toldAt_X8 qX8_toldAt_F25 dX8_toldAt_42 ?_
          refine g_iload_n (pc := 45) C 3 dX8_toldAt_45 rfl rfl ?_
          obtain ⟨k46, h⟩ := hv_if_some h
          refine gm_ld_6 (pc := 46) C k46 dX8_toldAt_46 ?_
          refine g_iload_n (pc := 47) C 1 dX8_toldAt_47 rfl rfl ?_
          refine g_icmp_ne (pc := 48) (tgt := 57) C dX8_toldAt_48 (by decide) (fun c48 => ?_) (fun c48 => ?_)
          · rw [if_neg c48] at h
            exact g_lv [0, 1, 3] rfl (bX8_toldAt_57 C hr hr4 s25 (x1) (x3) (x2) h)
          · rw [if_pos c48] at h
            exact g_lv [0, 1, 3] rfl (bX8_toldAt_51 C hr hr4 s25 (x1) (x3) (x2) h)
set_option maxHeartbeats 4000000 in
set_option maxRecDepth 20000 in
theorem vX8_toldAt {n : Nat} {σ : hv_St} {p0 : Int32} {o : Int32 × hv_St} (h : mX8_toldAt n σ p0 = some o) : hv_M l yX8_toldAt wsX8_toldAt rmX8_toldAt D (hv_tys cy) 23 a (hv_ME a cy) [.ref (a 0), .int (p0)] σ (some (.int o.1)) o.2 := by
  refine hv_enter (own := RX8) (cc := cX8_toldAt) (maxL := 5) (ret := (some .int)) (by decide) rfl rfl (Nat.le_of_ble_eq_true rfl) ?_
  intro p e s m args below meth c C hr
  unfold mX8_toldAt at h
  refine g_lv [0, 1] (lv' := [(0, .ref (a 0)), (1, .int (p0))]) rfl ?_
  refine g_iconst (pc := 0) C (v := (0 : Int32)) dX8_toldAt_0 (by decide) ?_
  refine g_istore_n (pc := 1) C (lv' := [(2, .int ((0 : Int32))), (0, .ref (a 0)), (1, .int (p0))]) rfl dX8_toldAt_1 rfl (Nat.le_of_ble_eq_true rfl) rfl ?_
  refine g_iconst (pc := 2) C (v := (0 : Int32)) dX8_toldAt_2 (by decide) ?_
  refine g_istore_n (pc := 3) C (lv' := [(3, .int ((0 : Int32))), (2, .int ((0 : Int32))), (0, .ref (a 0)), (1, .int (p0))]) rfl dX8_toldAt_3 rfl (Nat.le_of_ble_eq_true rfl) rfl ?_
  exact g_lv [2, 3, 1, 0] rfl (bX8_toldAt_4 C hr n σ (p0) ((0 : Int32)) ((0 : Int32)) h)
abbrev rmX8_laysJoints : Room := { frames := 2, cells := 0, slots := 0, locals := 50 }
set_option maxRecDepth 20000 in
theorem qX8_laysJoints_F245 : Cond.fieldLink RX8 245 "PinFrameModel" "known" "I" ∈ wsX8_laysJoints := by decide +kernel
set_option maxRecDepth 20000 in
theorem qX8_laysJoints_F248 : Cond.fieldLink RX8 248 "PinFrameModel" "doneMany" "I" ∈ wsX8_laysJoints := by decide +kernel
set_option maxRecDepth 20000 in
theorem qX8_laysJoints_F74 : Cond.fieldLink RX8 74 "PinFrameModel" "done" "[I" ∈ wsX8_laysJoints := by decide +kernel
set_option maxRecDepth 20000 in
theorem qX8_laysJoints_F81 : Cond.fieldLink RX8 81 "PinFrameModel" "pins" "I" ∈ wsX8_laysJoints := by decide +kernel
set_option maxRecDepth 20000 in
theorem iX8_laysJoints_X8 : ∀ w ∈ u_ws RX8 TX8 35, w ∈ wsX8_laysJoints := by decide +kernel
set_option maxHeartbeats 4000000 in
set_option maxRecDepth 20000 in
theorem bX8_laysJoints_39 (C : hv_C p s m args meth c cX8_laysJoints 4 wsX8_laysJoints RX8 D (hv_tys cy)) (hr : meth.sig.returnType = none) {n : Nat} {o : hv_St} {r14 : hv_St → Int32 → Int32 → Option (hv_St)} (hr14 : ∀ (σ : hv_St) (x1 : Int32) (x2 : Int32), r14 σ x1 x2 = some o → hv_G p l e (headSpec wsX8_laysJoints rmX8_laysJoints).room s m args below meth c 4 D 23 a (hv_ME a cy) 0 0 (hv_MQ D 23 a (hv_ME a cy) below args s none o) σ 14 [(0, .ref (a 0)), (1, .int (x1)), (2, .int (x2))] []) : ∀ (σ : hv_St) (x1 : Int32) (x2 : Int32) (z0 : Int32), kX8_laysJoints_39 n r14 σ x1 x2 z0 = some o → hv_G p l e (headSpec wsX8_laysJoints rmX8_laysJoints).room s m args below meth c 4 D 23 a (hv_ME a cy) 0 0 (hv_MQ D 23 a (hv_ME a cy) below args s none o) σ 39 [(0, .ref (a 0)), (1, .int (x1)), (2, .int (x2))] [.int (z0)] := by
  intro σ x1 x2 z0 h
  unfold kX8_laysJoints_39 at h
  refine g_istore_n (pc := 39) C (lv' := [(3, .int (z0)), (0, .ref (a 0)), (1, .int (x1)), (2, .int (x2))]) rfl dX8_laysJoints_39 rfl (Nat.le_of_ble_eq_true rfl) rfl ?_
  refine g_iload_n (pc := 40) C 0 dX8_laysJoints_40 rfl rfl ?_
  refine g_if_ne (pc := 41) (tgt := 50) C dX8_laysJoints_41 (by decide) (fun c41 => ?_) (fun c41 => ?_)
  · rw [if_neg c41] at h
    refine g_aload_n (pc := 50) C 1 dX8_laysJoints_50 rfl rfl ?_
    refine g_dup (pc := 51) C dX8_laysJoints_51 rfl ?_
    refine gm_get_0_32 (pc := 52) C iX8_laysJoints_X8 qX8_laysJoints_F245 dX8_laysJoints_52 ?_
    refine g_iload_n (pc := 55) C 0 dX8_laysJoints_55 rfl rfl ?_
    refine g_ior (pc := 56) C dX8_laysJoints_56 ?_
    obtain ⟨s57, es57, h⟩ := hv_let_some h
    refine gm_put_0_32 (pc := 57) C es57 iX8_laysJoints_X8 qX8_laysJoints_F245 dX8_laysJoints_57 ?_
    refine g_iload_n (pc := 60) C 2 dX8_laysJoints_60 rfl rfl ?_
    refine g_iconst (pc := 61) C (v := (1 : Int32)) dX8_laysJoints_61 (by decide) ?_
    refine g_iload_n (pc := 62) C 3 dX8_laysJoints_62 rfl rfl ?_
    refine g_ishl (pc := 63) C dX8_laysJoints_63 ?_
    refine g_ior (pc := 64) C dX8_laysJoints_64 ?_
    obtain ⟨y1_65, ey1_65, h⟩ := hv_let_some h
    refine g_istore_n (pc := 65) C (lv' := [(1, .int (y1_65)), (3, .int (z0)), (0, .ref (a 0)), (2, .int (x2))]) ey1_65 dX8_laysJoints_65 rfl (Nat.le_of_ble_eq_true rfl) rfl ?_
    refine g_aload_n (pc := 66) C 2 dX8_laysJoints_66 rfl rfl ?_
    refine gm_get_0_33 (pc := 67) C iX8_laysJoints_X8 qX8_laysJoints_F74 dX8_laysJoints_67 ?_
    refine g_aload_n (pc := 70) C 2 dX8_laysJoints_70 rfl rfl ?_
    refine gm_get_0_34 (pc := 71) C iX8_laysJoints_X8 qX8_laysJoints_F248 dX8_laysJoints_71 ?_
    refine g_iload_n (pc := 74) C 3 dX8_laysJoints_74 rfl rfl ?_
    obtain ⟨k75, h⟩ := hv_if_some h
    obtain ⟨s75, es75, h⟩ := hv_let_some h
    refine gm_st_22 (pc := 75) C es75 k75 dX8_laysJoints_75 ?_
    refine g_aload_n (pc := 76) C 2 dX8_laysJoints_76 rfl rfl ?_
    refine g_dup (pc := 77) C dX8_laysJoints_77 rfl ?_
    refine gm_get_0_34 (pc := 78) C iX8_laysJoints_X8 qX8_laysJoints_F248 dX8_laysJoints_78 ?_
    refine g_iconst (pc := 81) C (v := (1 : Int32)) dX8_laysJoints_81 (by decide) ?_
    refine g_iadd (pc := 82) C dX8_laysJoints_82 ?_
    obtain ⟨s83, es83, h⟩ := hv_let_some h
    refine gm_put_0_34 (pc := 83) C es83 iX8_laysJoints_X8 qX8_laysJoints_F248 dX8_laysJoints_83 ?_
    refine g_iconst (pc := 86) C (v := (0 : Int32)) dX8_laysJoints_86 (by decide) ?_
    refine g_istore_n (pc := 87) C (lv' := [(2, .int ((0 : Int32))), (1, .int (y1_65)), (3, .int (z0)), (0, .ref (a 0))]) rfl dX8_laysJoints_87 rfl (Nat.le_of_ble_eq_true rfl) rfl ?_
    refine g_goto (pc := 88) C (tgt := 14) dX8_laysJoints_88 (by decide) ?_
    exact g_lv [3, 1, 0] rfl (hr14 s83 (y1_65) ((0 : Int32)) h)
  · rw [if_pos c41] at h
    refine g_iinc (pc := 44) C 3 (v := x2 + 1) (lv' := [(2, .int (x2 + 1)), (3, .int (z0)), (0, .ref (a 0)), (1, .int (x1))]) dX8_laysJoints_44 rfl rfl (Nat.le_of_ble_eq_true rfl) rfl ?_
    refine g_goto (pc := 47) C (tgt := 14) dX8_laysJoints_47 (by decide) ?_
    exact g_lv [2, 3, 0] rfl (hr14 σ (x1) (x2 + 1) h)
set_option maxHeartbeats 4000000 in
set_option maxRecDepth 20000 in
theorem bX8_laysJoints_14 (C : hv_C p s m args meth c cX8_laysJoints 4 wsX8_laysJoints RX8 D (hv_tys cy)) (hr : meth.sig.returnType = none) {n : Nat} {o : hv_St} : ∀ (i : Nat) (σ : hv_St) (x1 : Int32) (x2 : Int32), kX8_laysJoints_14 n i σ x1 x2 = some o → hv_G p l e (headSpec wsX8_laysJoints rmX8_laysJoints).room s m args below meth c 4 D 23 a (hv_ME a cy) 0 0 (hv_MQ D 23 a (hv_ME a cy) below args s none o) σ 14 [(0, .ref (a 0)), (1, .int (x1)), (2, .int (x2))] [] := by
  intro i
  induction i with
  | zero =>
    intro σ x1 x2 h
    cases h
  | succ i ih =>
    intro σ x1 x2 h
    generalize hg : kX8_laysJoints_14 n i = r14 at ih
    have hr14 := ih
    replace h : kX8_laysJoints_14_b n r14 σ x1 x2 = some o := by rw [← hg]; exact h
    unfold kX8_laysJoints_14_b at h
    refine g_iload_n (pc := 14) C 2 dX8_laysJoints_14 rfl rfl ?_
    refine g_aload_n (pc := 15) C 0 dX8_laysJoints_15 rfl rfl ?_
    refine gm_get_0_1 (pc := 16) C iX8_laysJoints_X8 qX8_laysJoints_F81 dX8_laysJoints_16 ?_
    refine g_icmp_ge (pc := 19) (tgt := 91) C dX8_laysJoints_19 (by decide) (fun c19 => ?_) (fun c19 => ?_)
    · rw [if_pos c19] at h
      cases h
      exact g_vret (pc := 91) C hr dX8_laysJoints_91
    · rw [if_neg c19] at h
      refine g_iload_n (pc := 22) C 1 dX8_laysJoints_22 rfl rfl ?_
      refine g_iload_n (pc := 23) C 2 dX8_laysJoints_23 rfl rfl ?_
      obtain ⟨r24, s24, hc24, h⟩ := hv_b2_some h
      refine g_callS (pc := 24) (σ1 := s24) (v := (some (.int (r24)))) (As := [.int (x1), .int (x2)]) (rest := []) C (vX8_isOn hc24) (va_cwS 2 C.1.2.2.2.2 gX8_laysJoints_X8_isOn rfl rfl rfl (by decide +kernel) ⟨Nat.le_of_ble_eq_true rfl, Nat.le_of_ble_eq_true rfl⟩) rfl rfl (Nat.le_of_ble_eq_true rfl) dX8_laysJoints_24 ⟨Nat.zero_le _, Nat.zero_le _⟩ ?_
      refine g_st (st' := [.int (r24)]) rfl ?_
      refine g_if_eq (pc := 27) (tgt := 34) C dX8_laysJoints_27 (by decide) (fun c27 => ?_) (fun c27 => ?_)
      · rw [if_pos c27] at h
        refine g_aload_n (pc := 34) C 0 dX8_laysJoints_34 rfl rfl ?_
        refine g_iload_n (pc := 35) C 2 dX8_laysJoints_35 rfl rfl ?_
        obtain ⟨r36, s36, hc36, h⟩ := hv_b2_some h
        refine g_callV (pc := 36) (σ1 := s36) (v := (some (.int (r36)))) (As := [.int (x2)]) (rest := []) C 0 (vX8_toldAt hc36) (cwV 1 C.1.2.2.2.2 gX8_laysJoints_X8_toldAt rfl rfl rfl (by decide +kernel) ⟨Nat.le_of_ble_eq_true rfl, Nat.le_of_ble_eq_true rfl⟩) (Nat.le_of_ble_eq_true rfl) rfl rfl rfl rfl (Nat.le_of_ble_eq_true rfl) dX8_laysJoints_36 ⟨Nat.zero_le _, Nat.zero_le _⟩ ?_
        refine g_st (st' := [.int (r36)]) rfl ?_
        exact g_lv [0, 1, 2] rfl (bX8_laysJoints_39 C hr hr14 s36 (x1) (x2) (r36) h)
      · rw [if_neg c27] at h
        refine g_iconst (pc := 30) C (v := (0 : Int32)) dX8_laysJoints_30 (by decide) ?_
        refine g_goto (pc := 31) C (tgt := 39) dX8_laysJoints_31 (by decide) ?_
        exact g_lv [0, 1, 2] rfl (bX8_laysJoints_39 C hr hr14 s24 (x1) (x2) ((0 : Int32)) h)
set_option maxHeartbeats 4000000 in
set_option maxRecDepth 20000 in
theorem vX8_laysJoints {n : Nat} {σ : hv_St} {o : hv_St} (h : mX8_laysJoints n σ = some o) : hv_M l yX8_laysJoints wsX8_laysJoints rmX8_laysJoints D (hv_tys cy) 23 a (hv_ME a cy) [.ref (a 0)] σ none o := by
  refine hv_enter (own := RX8) (cc := cX8_laysJoints) (maxL := 4) (ret := none) (by decide) rfl rfl (Nat.le_of_ble_eq_true rfl) ?_
  intro p e s m args below meth c C hr
  unfold mX8_laysJoints at h
  refine g_lv [0] (lv' := [(0, .ref (a 0))]) rfl ?_
  refine g_aload_n (pc := 0) C 0 dX8_laysJoints_0 rfl rfl ?_
  refine g_iconst (pc := 1) C (v := (0 : Int32)) dX8_laysJoints_1 (by decide) ?_
  obtain ⟨s2, es2, h⟩ := hv_let_some h
  refine gm_put_0_32 (pc := 2) C es2 iX8_laysJoints_X8 qX8_laysJoints_F245 dX8_laysJoints_2 ?_
  refine g_aload_n (pc := 5) C 0 dX8_laysJoints_5 rfl rfl ?_
  refine g_iconst (pc := 6) C (v := (0 : Int32)) dX8_laysJoints_6 (by decide) ?_
  obtain ⟨s7, es7, h⟩ := hv_let_some h
  refine gm_put_0_34 (pc := 7) C es7 iX8_laysJoints_X8 qX8_laysJoints_F248 dX8_laysJoints_7 ?_
  refine g_iconst (pc := 10) C (v := (0 : Int32)) dX8_laysJoints_10 (by decide) ?_
  refine g_istore_n (pc := 11) C (lv' := [(1, .int ((0 : Int32))), (0, .ref (a 0))]) rfl dX8_laysJoints_11 rfl (Nat.le_of_ble_eq_true rfl) rfl ?_
  refine g_iconst (pc := 12) C (v := (0 : Int32)) dX8_laysJoints_12 (by decide) ?_
  refine g_istore_n (pc := 13) C (lv' := [(2, .int ((0 : Int32))), (1, .int ((0 : Int32))), (0, .ref (a 0))]) rfl dX8_laysJoints_13 rfl (Nat.le_of_ble_eq_true rfl) rfl ?_
  exact g_lv [2, 1, 0] rfl (bX8_laysJoints_14 C hr n s7 ((0 : Int32)) ((0 : Int32)) h)
abbrev rmX8_joint : Room := { frames := 3, cells := 0, slots := 0, locals := 73 }
set_option maxRecDepth 20000 in
theorem qX8_joint_F248 : Cond.fieldLink RX8 248 "PinFrameModel" "doneMany" "I" ∈ wsX8_joint := by decide +kernel
set_option maxRecDepth 20000 in
theorem qX8_joint_F74 : Cond.fieldLink RX8 74 "PinFrameModel" "done" "[I" ∈ wsX8_joint := by decide +kernel
set_option maxRecDepth 20000 in
theorem qX8_joint_F77 : Cond.fieldLink RX8 77 "PinFrameModel" "raised" "I" ∈ wsX8_joint := by decide +kernel
set_option maxRecDepth 20000 in
theorem iX8_joint_X8 : ∀ w ∈ u_ws RX8 TX8 35, w ∈ wsX8_joint := by decide +kernel
set_option maxHeartbeats 4000000 in
set_option maxRecDepth 20000 in
theorem vX8_joint {n : Nat} {σ : hv_St} {p0 : Int32} {o : Int32 × hv_St} (h : mX8_joint n σ p0 = some o) : hv_M l yX8_joint wsX8_joint rmX8_joint D (hv_tys cy) 23 a (hv_ME a cy) [.ref (a 0), .int (p0)] σ (some (.int o.1)) o.2 := by
  refine hv_enter (own := RX8) (cc := cX8_joint) (maxL := 2) (ret := (some .int)) (by decide) rfl rfl (Nat.le_of_ble_eq_true rfl) ?_
  intro p e s m args below meth c C hr
  unfold mX8_joint at h
  refine g_lv [0, 1] (lv' := [(0, .ref (a 0)), (1, .int (p0))]) rfl ?_
  refine g_aload_n (pc := 0) C 0 dX8_joint_0 rfl rfl ?_
  refine g_iconst (pc := 1) C (v := (0 : Int32)) dX8_joint_1 (by decide) ?_
  obtain ⟨s2, es2, h⟩ := hv_let_some h
  refine gm_put_0_0 (pc := 2) C es2 iX8_joint_X8 qX8_joint_F77 dX8_joint_2 ?_
  refine g_aload_n (pc := 5) C 0 dX8_joint_5 rfl rfl ?_
  obtain ⟨s6, hc6, h⟩ := hv_bd_some h
  refine g_callV (pc := 6) (σ1 := s6) (v := none) (As := []) (rest := []) C 0 (vX8_laysJoints hc6) (cwV 0 C.1.2.2.2.2 gX8_joint_X8_laysJoints rfl rfl rfl (by decide +kernel) ⟨Nat.le_of_ble_eq_true rfl, Nat.le_of_ble_eq_true rfl⟩) (Nat.le_of_ble_eq_true rfl) rfl rfl rfl rfl (Nat.le_of_ble_eq_true rfl) dX8_joint_6 ⟨Nat.zero_le _, Nat.zero_le _⟩ ?_
  refine g_st (st' := []) rfl ?_
  refine g_iload_n (pc := 9) C 1 dX8_joint_9 rfl rfl ?_
  refine g_i2l (pc := 10) C dX8_joint_10 ?_
  refine g_lconst (pc := 11) C (v := (0 : Int64)) dX8_joint_11 (by decide) ?_
  refine g_aload_n (pc := 12) C 0 dX8_joint_12 rfl rfl ?_
  refine gm_get_0_34 (pc := 13) C iX8_joint_X8 qX8_joint_F248 dX8_joint_13 ?_
  refine g_iconst (pc := 16) C (v := (1 : Int32)) dX8_joint_16 (by decide) ?_
  refine g_isub (pc := 17) C dX8_joint_17 ?_
  refine g_i2l (pc := 18) C dX8_joint_18 ?_
  obtain ⟨r19, s19, hc19, h⟩ := hv_b2_some h
  refine g_callS (pc := 19) (σ1 := s19) (v := (some (.int (r19)))) (As := [.long ((p0).toInt64), .long ((0 : Int64)), .long (((s6.1 0 34) - ((1 : Int32))).toInt64)]) (rest := []) C (vX8_in hc19) (va_cwS 3 C.1.2.2.2.2 gX8_joint_X8_in rfl rfl rfl (by decide +kernel) ⟨Nat.le_of_ble_eq_true rfl, Nat.le_of_ble_eq_true rfl⟩) rfl rfl (Nat.le_of_ble_eq_true rfl) dX8_joint_19 ⟨Nat.zero_le _, Nat.zero_le _⟩ ?_
  refine g_st (st' := [.int (r19)]) rfl ?_
  refine g_if_eq (pc := 22) (tgt := 34) C dX8_joint_22 (by decide) (fun c22 => ?_) (fun c22 => ?_)
  · rw [if_pos c22] at h
    refine g_iconst (pc := 34) C (v := (-1 : Int32)) dX8_joint_34 (by decide) ?_
    cases h
    exact g_iret (pc := 35) C hr dX8_joint_35
  · rw [if_neg c22] at h
    refine g_aload_n (pc := 25) C 0 dX8_joint_25 rfl rfl ?_
    refine gm_get_0_33 (pc := 26) C iX8_joint_X8 qX8_joint_F74 dX8_joint_26 ?_
    refine g_iload_n (pc := 29) C 1 dX8_joint_29 rfl rfl ?_
    obtain ⟨k30, h⟩ := hv_if_some h
    refine gm_ld_22 (pc := 30) C k30 dX8_joint_30 ?_
    refine g_goto (pc := 31) C (tgt := 35) dX8_joint_31 (by decide) ?_
    cases h
    exact g_iret (pc := 35) C hr dX8_joint_35
abbrev rmX8_count : Room := { frames := 6, cells := 0, slots := 0, locals := 147 }
set_option maxRecDepth 20000 in
theorem qX8_count_F107 : Cond.fieldLink RX8 107 "PinFrameModel" "on" "I" ∈ wsX8_count := by decide +kernel
set_option maxRecDepth 20000 in
theorem qX8_count_F122 : Cond.fieldLink RX8 122 "PinFrameModel" "decks" "I" ∈ wsX8_count := by decide +kernel
set_option maxRecDepth 20000 in
theorem qX8_count_F127 : Cond.fieldLink RX8 127 "PinFrameModel" "weights" "I" ∈ wsX8_count := by decide +kernel
set_option maxRecDepth 20000 in
theorem qX8_count_F130 : Cond.fieldLink RX8 130 "PinFrameModel" "free" "I" ∈ wsX8_count := by decide +kernel
set_option maxRecDepth 20000 in
theorem qX8_count_F152 : Cond.fieldLink RX8 152 "PinFrameModel" "base" "I" ∈ wsX8_count := by decide +kernel
set_option maxRecDepth 20000 in
theorem qX8_count_F155 : Cond.fieldLink RX8 155 "PinFrameModel" "spares" "I" ∈ wsX8_count := by decide +kernel
set_option maxRecDepth 20000 in
theorem qX8_count_F245 : Cond.fieldLink RX8 245 "PinFrameModel" "known" "I" ∈ wsX8_count := by decide +kernel
set_option maxRecDepth 20000 in
theorem qX8_count_F77 : Cond.fieldLink RX8 77 "PinFrameModel" "raised" "I" ∈ wsX8_count := by decide +kernel
set_option maxRecDepth 20000 in
theorem qX8_count_F81 : Cond.fieldLink RX8 81 "PinFrameModel" "pins" "I" ∈ wsX8_count := by decide +kernel
set_option maxRecDepth 20000 in
theorem qX8_count_F88 : Cond.fieldLink RX8 88 "PinFrameModel" "bars" "I" ∈ wsX8_count := by decide +kernel
set_option maxRecDepth 20000 in
theorem iX8_count_X8 : ∀ w ∈ u_ws RX8 TX8 35, w ∈ wsX8_count := by decide +kernel
set_option maxHeartbeats 4000000 in
set_option maxRecDepth 20000 in
theorem vX8_count {n : Nat} {σ : hv_St} {p0 : Int32} {o : Int32 × hv_St} (h : mX8_count n σ p0 = some o) : hv_M l yX8_count wsX8_count rmX8_count D (hv_tys cy) 23 a (hv_ME a cy) [.ref (a 0), .int (p0)] σ (some (.int o.1)) o.2 := by
  refine hv_enter (own := RX8) (cc := cX8_count) (maxL := 3) (ret := (some .int)) (by decide) rfl rfl (Nat.le_of_ble_eq_true rfl) ?_
  intro p e s m args below meth c C hr
  unfold mX8_count at h
  refine g_lv [0, 1] (lv' := [(0, .ref (a 0)), (1, .int (p0))]) rfl ?_
  refine g_aload_n (pc := 0) C 0 dX8_count_0 rfl rfl ?_
  refine g_iconst (pc := 1) C (v := (0 : Int32)) dX8_count_1 (by decide) ?_
  obtain ⟨s2, es2, h⟩ := hv_let_some h
  refine gm_put_0_0 (pc := 2) C es2 iX8_count_X8 qX8_count_F77 dX8_count_2 ?_
  refine g_aload_n (pc := 5) C 0 dX8_count_5 rfl rfl ?_
  refine g_aload_n (pc := 6) C 0 dX8_count_6 rfl rfl ?_
  refine gm_get_0_11 (pc := 7) C iX8_count_X8 qX8_count_F107 dX8_count_7 ?_
  obtain ⟨r10, s10, hc10, h⟩ := hv_b2_some h
  refine g_callV (pc := 10) (σ1 := s10) (v := (some (.int (r10)))) (As := [.int (s2.1 0 11)]) (rest := []) C 0 (vX8_kindOf hc10) (cwV 1 C.1.2.2.2.2 gX8_count_X8_kindOf rfl rfl rfl (by decide +kernel) ⟨Nat.le_of_ble_eq_true rfl, Nat.le_of_ble_eq_true rfl⟩) (Nat.le_of_ble_eq_true rfl) rfl rfl rfl rfl (Nat.le_of_ble_eq_true rfl) dX8_count_10 ⟨Nat.zero_le _, Nat.zero_le _⟩ ?_
  refine g_st (st' := [.int (r10)]) rfl ?_
  refine g_istore_n (pc := 13) C (lv' := [(2, .int (r10)), (0, .ref (a 0)), (1, .int (p0))]) rfl dX8_count_13 rfl (Nat.le_of_ble_eq_true rfl) rfl ?_
  refine g_aload_n (pc := 14) C 1 dX8_count_14 rfl rfl ?_
  obtain ⟨s15, hc15, h⟩ := hv_bd_some h
  refine g_callV (pc := 15) (σ1 := s15) (v := none) (As := []) (rest := []) C 0 (vX8_laysJoints hc15) (cwV 0 C.1.2.2.2.2 gX8_count_X8_laysJoints rfl rfl rfl (by decide +kernel) ⟨Nat.le_of_ble_eq_true rfl, Nat.le_of_ble_eq_true rfl⟩) (Nat.le_of_ble_eq_true rfl) rfl rfl rfl rfl (Nat.le_of_ble_eq_true rfl) dX8_count_15 ⟨Nat.zero_le _, Nat.zero_le _⟩ ?_
  refine g_st (st' := []) rfl ?_
  refine g_iload_n (pc := 18) C 2 dX8_count_18 rfl rfl ?_
  by_cases c19_0 : p0 = (0 : Int32)
  · rw [if_pos c19_0] at h
    refine g_tableIn (pc := 19) (tgt := 76) C dX8_count_19 (by rw [c19_0] <;> decide) (by rw [c19_0] <;> decide) (by rw [c19_0] <;> rfl) (by decide) ?_
    refine g_aload_n (pc := 76) C 1 dX8_count_76 rfl rfl ?_
    refine gm_get_0_1 (pc := 77) C iX8_count_X8 qX8_count_F81 dX8_count_77 ?_
    cases h
    exact g_iret (pc := 80) C hr dX8_count_80
  · rw [if_neg c19_0] at h
    by_cases c19_1 : p0 = (1 : Int32)
    · rw [if_pos c19_1] at h
      refine g_tableIn (pc := 19) (tgt := 81) C dX8_count_19 (by rw [c19_1] <;> decide) (by rw [c19_1] <;> decide) (by rw [c19_1] <;> rfl) (by decide) ?_
      refine g_aload_n (pc := 81) C 1 dX8_count_81 rfl rfl ?_
      refine gm_get_0_6 (pc := 82) C iX8_count_X8 qX8_count_F88 dX8_count_82 ?_
      cases h
      exact g_iret (pc := 85) C hr dX8_count_85
    · rw [if_neg c19_1] at h
      by_cases c19_2 : p0 = (2 : Int32)
      · rw [if_pos c19_2] at h
        refine g_tableIn (pc := 19) (tgt := 86) C dX8_count_19 (by rw [c19_2] <;> decide) (by rw [c19_2] <;> decide) (by rw [c19_2] <;> rfl) (by decide) ?_
        refine g_aload_n (pc := 86) C 1 dX8_count_86 rfl rfl ?_
        refine gm_get_0_11 (pc := 87) C iX8_count_X8 qX8_count_F107 dX8_count_87 ?_
        cases h
        exact g_iret (pc := 90) C hr dX8_count_90
      · rw [if_neg c19_2] at h
        by_cases c19_3 : p0 = (3 : Int32)
        · rw [if_pos c19_3] at h
          refine g_tableIn (pc := 19) (tgt := 91) C dX8_count_19 (by rw [c19_3] <;> decide) (by rw [c19_3] <;> decide) (by rw [c19_3] <;> rfl) (by decide) ?_
          refine g_aload_n (pc := 91) C 1 dX8_count_91 rfl rfl ?_
          refine gm_get_0_18 (pc := 92) C iX8_count_X8 qX8_count_F130 dX8_count_92 ?_
          cases h
          exact g_iret (pc := 95) C hr dX8_count_95
        · rw [if_neg c19_3] at h
          by_cases c19_4 : p0 = (4 : Int32)
          · rw [if_pos c19_4] at h
            refine g_tableIn (pc := 19) (tgt := 96) C dX8_count_19 (by rw [c19_4] <;> decide) (by rw [c19_4] <;> decide) (by rw [c19_4] <;> rfl) (by decide) ?_
            refine g_iload_n (pc := 96) C 0 dX8_count_96 rfl rfl ?_
            cases h
            exact g_iret (pc := 97) C hr dX8_count_97
          · rw [if_neg c19_4] at h
            by_cases c19_5 : p0 = (5 : Int32)
            · rw [if_pos c19_5] at h
              refine g_tableIn (pc := 19) (tgt := 98) C dX8_count_19 (by rw [c19_5] <;> decide) (by rw [c19_5] <;> decide) (by rw [c19_5] <;> rfl) (by decide) ?_
              refine g_aload_n (pc := 98) C 1 dX8_count_98 rfl rfl ?_
              refine gm_get_0_20 (pc := 99) C iX8_count_X8 qX8_count_F152 dX8_count_99 ?_
              cases h
              exact g_iret (pc := 102) C hr dX8_count_102
            · rw [if_neg c19_5] at h
              by_cases c19_6 : p0 = (6 : Int32)
              · rw [if_pos c19_6] at h
                refine g_tableIn (pc := 19) (tgt := 103) C dX8_count_19 (by rw [c19_6] <;> decide) (by rw [c19_6] <;> decide) (by rw [c19_6] <;> rfl) (by decide) ?_
                refine g_aload_n (pc := 103) C 1 dX8_count_103 rfl rfl ?_
                refine gm_get_0_21 (pc := 104) C iX8_count_X8 qX8_count_F155 dX8_count_104 ?_
                cases h
                exact g_iret (pc := 107) C hr dX8_count_107
              · rw [if_neg c19_6] at h
                by_cases c19_7 : p0 = (7 : Int32)
                · rw [if_pos c19_7] at h
                  refine g_tableIn (pc := 19) (tgt := 108) C dX8_count_19 (by rw [c19_7] <;> decide) (by rw [c19_7] <;> decide) (by rw [c19_7] <;> rfl) (by decide) ?_
                  refine g_aload_n (pc := 108) C 1 dX8_count_108 rfl rfl ?_
                  refine gm_get_0_18 (pc := 109) C iX8_count_X8 qX8_count_F130 dX8_count_109 ?_
                  refine g_aload_n (pc := 112) C 1 dX8_count_112 rfl rfl ?_
                  refine gm_get_0_20 (pc := 113) C iX8_count_X8 qX8_count_F152 dX8_count_113 ?_
                  obtain ⟨r116, s116, hc116, h⟩ := hv_b2_some h
                  refine g_callS (pc := 116) (σ1 := s116) (v := (some (.int (r116)))) (As := [.int (s15.1 0 20)]) (rest := [.int (s15.1 0 18)]) C (vX8_bits hc116) (va_cwS 1 C.1.2.2.2.2 gX8_count_X8_bits rfl rfl rfl (by decide +kernel) ⟨Nat.le_of_ble_eq_true rfl, Nat.le_of_ble_eq_true rfl⟩) rfl rfl (Nat.le_of_ble_eq_true rfl) dX8_count_116 ⟨Nat.zero_le _, Nat.zero_le _⟩ ?_
                  refine g_st (st' := [.int (r116), .int (s15.1 0 18)]) rfl ?_
                  refine g_isub (pc := 119) C dX8_count_119 ?_
                  cases h
                  exact g_iret (pc := 120) C hr dX8_count_120
                · rw [if_neg c19_7] at h
                  by_cases c19_8 : p0 = (8 : Int32)
                  · rw [if_pos c19_8] at h
                    refine g_tableIn (pc := 19) (tgt := 121) C dX8_count_19 (by rw [c19_8] <;> decide) (by rw [c19_8] <;> decide) (by rw [c19_8] <;> rfl) (by decide) ?_
                    refine g_aload_n (pc := 121) C 1 dX8_count_121 rfl rfl ?_
                    refine gm_get_0_13 (pc := 122) C iX8_count_X8 qX8_count_F122 dX8_count_122 ?_
                    cases h
                    exact g_iret (pc := 125) C hr dX8_count_125
                  · rw [if_neg c19_8] at h
                    by_cases c19_9 : p0 = (9 : Int32)
                    · rw [if_pos c19_9] at h
                      refine g_tableIn (pc := 19) (tgt := 126) C dX8_count_19 (by rw [c19_9] <;> decide) (by rw [c19_9] <;> decide) (by rw [c19_9] <;> rfl) (by decide) ?_
                      refine g_aload_n (pc := 126) C 1 dX8_count_126 rfl rfl ?_
                      refine gm_get_0_15 (pc := 127) C iX8_count_X8 qX8_count_F127 dX8_count_127 ?_
                      cases h
                      exact g_iret (pc := 130) C hr dX8_count_130
                    · rw [if_neg c19_9] at h
                      by_cases c19_10 : p0 = (10 : Int32)
                      · rw [if_pos c19_10] at h
                        refine g_tableIn (pc := 19) (tgt := 131) C dX8_count_19 (by rw [c19_10] <;> decide) (by rw [c19_10] <;> decide) (by rw [c19_10] <;> rfl) (by decide) ?_
                        refine g_aload_n (pc := 131) C 1 dX8_count_131 rfl rfl ?_
                        refine gm_get_0_32 (pc := 132) C iX8_count_X8 qX8_count_F245 dX8_count_132 ?_
                        cases h
                        exact g_iret (pc := 135) C hr dX8_count_135
                      · rw [if_neg c19_10] at h
                        have nc19_0 := lv_neT c19_0 (a := 0) (by decide)
                        have nc19_1 := lv_neT c19_1 (a := 1) (by decide)
                        have nc19_2 := lv_neT c19_2 (a := 2) (by decide)
                        have nc19_3 := lv_neT c19_3 (a := 3) (by decide)
                        have nc19_4 := lv_neT c19_4 (a := 4) (by decide)
                        have nc19_5 := lv_neT c19_5 (a := 5) (by decide)
                        have nc19_6 := lv_neT c19_6 (a := 6) (by decide)
                        have nc19_7 := lv_neT c19_7 (a := 7) (by decide)
                        have nc19_8 := lv_neT c19_8 (a := 8) (by decide)
                        have nc19_9 := lv_neT c19_9 (a := 9) (by decide)
                        have nc19_10 := lv_neT c19_10 (a := 10) (by decide)
                        refine g_tableOut (pc := 19) (tgt := 136) C dX8_count_19 (by omega) (by decide) ?_
                        refine g_iconst (pc := 136) C (v := (-1 : Int32)) dX8_count_136 (by decide) ?_
                        cases h
                        exact g_iret (pc := 137) C hr dX8_count_137
abbrev rmX8_of : Room := { frames := 2, cells := 0, slots := 0, locals := 46 }
set_option maxRecDepth 20000 in
theorem qX8_of_F107 : Cond.fieldLink RX8 107 "PinFrameModel" "on" "I" ∈ wsX8_of := by decide +kernel
set_option maxRecDepth 20000 in
theorem qX8_of_F13 : Cond.fieldLink RX8 13 "PinFrameModel" "y" "[I" ∈ wsX8_of := by decide +kernel
set_option maxRecDepth 20000 in
theorem qX8_of_F16 : Cond.fieldLink RX8 16 "PinFrameModel" "held" "[I" ∈ wsX8_of := by decide +kernel
set_option maxRecDepth 20000 in
theorem qX8_of_F19 : Cond.fieldLink RX8 19 "PinFrameModel" "loads" "[I" ∈ wsX8_of := by decide +kernel
set_option maxRecDepth 20000 in
theorem qX8_of_F22 : Cond.fieldLink RX8 22 "PinFrameModel" "one" "[I" ∈ wsX8_of := by decide +kernel
set_option maxRecDepth 20000 in
theorem qX8_of_F25 : Cond.fieldLink RX8 25 "PinFrameModel" "other" "[I" ∈ wsX8_of := by decide +kernel
set_option maxRecDepth 20000 in
theorem qX8_of_F7 : Cond.fieldLink RX8 7 "PinFrameModel" "x" "[I" ∈ wsX8_of := by decide +kernel
set_option maxRecDepth 20000 in
theorem qX8_of_F77 : Cond.fieldLink RX8 77 "PinFrameModel" "raised" "I" ∈ wsX8_of := by decide +kernel
set_option maxRecDepth 20000 in
theorem qX8_of_F88 : Cond.fieldLink RX8 88 "PinFrameModel" "bars" "I" ∈ wsX8_of := by decide +kernel
set_option maxRecDepth 20000 in
theorem qX8_of_L257 : Cond.constantLong RX8 257 (5) ∈ wsX8_of := by decide +kernel
set_option maxRecDepth 20000 in
theorem iX8_of_X8 : ∀ w ∈ u_ws RX8 TX8 35, w ∈ wsX8_of := by decide +kernel
set_option maxHeartbeats 4000000 in
set_option maxRecDepth 20000 in
theorem bX8_of_163 (C : hv_C p s m args meth c cX8_of 5 wsX8_of RX8 D (hv_tys cy)) (hr : meth.sig.returnType = (some .int)) {n : Nat} {o : Int32 × hv_St} {r111 : hv_St → Int32 → Int32 → Int32 → Option (Int32 × hv_St)} (hr111 : ∀ (σ : hv_St) (x1 : Int32) (x3 : Int32) (x4 : Int32), r111 σ x1 x3 x4 = some o → hv_G p l e (headSpec wsX8_of rmX8_of).room s m args below meth c 5 D 23 a (hv_ME a cy) 0 0 (hv_MQ D 23 a (hv_ME a cy) below args s (some (.int o.1)) o.2) σ 111 [(0, .ref (a 0)), (1, .int (x1)), (3, .int (x3)), (4, .int (x4))] []) : ∀ (σ : hv_St) (x1 : Int32) (x4 : Int32) (z0 : Int32) (z1 : Int32), kX8_of_163 n r111 σ x1 x4 z0 z1 = some o → hv_G p l e (headSpec wsX8_of rmX8_of).room s m args below meth c 5 D 23 a (hv_ME a cy) 0 0 (hv_MQ D 23 a (hv_ME a cy) below args s (some (.int o.1)) o.2) σ 163 [(0, .ref (a 0)), (1, .int (x1)), (4, .int (x4))] [.int (z0), .int (z1)] := by
  intro σ x1 x4 z0 z1 h
  unfold kX8_of_163 at h
  refine g_ior (pc := 163) C dX8_of_163 ?_
  obtain ⟨y3_164, ey3_164, h⟩ := hv_let_some h
  refine g_istore_n (pc := 164) C (lv' := [(3, .int (y3_164)), (0, .ref (a 0)), (1, .int (x1)), (4, .int (x4))]) ey3_164 dX8_of_164 rfl (Nat.le_of_ble_eq_true rfl) rfl ?_
  refine g_iinc (pc := 165) C 3 (v := x4 + 1) (lv' := [(4, .int (x4 + 1)), (3, .int (y3_164)), (0, .ref (a 0)), (1, .int (x1))]) dX8_of_165 rfl rfl (Nat.le_of_ble_eq_true rfl) rfl ?_
  refine g_goto (pc := 168) C (tgt := 111) dX8_of_168 (by decide) ?_
  exact g_lv [2, 3, 1, 0] rfl (hr111 σ (x1) (y3_164) (x4 + 1) h)
set_option maxHeartbeats 4000000 in
set_option maxRecDepth 20000 in
theorem bX8_of_162 (C : hv_C p s m args meth c cX8_of 5 wsX8_of RX8 D (hv_tys cy)) (hr : meth.sig.returnType = (some .int)) {n : Nat} {o : Int32 × hv_St} {r111 : hv_St → Int32 → Int32 → Int32 → Option (Int32 × hv_St)} (hr111 : ∀ (σ : hv_St) (x1 : Int32) (x3 : Int32) (x4 : Int32), r111 σ x1 x3 x4 = some o → hv_G p l e (headSpec wsX8_of rmX8_of).room s m args below meth c 5 D 23 a (hv_ME a cy) 0 0 (hv_MQ D 23 a (hv_ME a cy) below args s (some (.int o.1)) o.2) σ 111 [(0, .ref (a 0)), (1, .int (x1)), (3, .int (x3)), (4, .int (x4))] []) : ∀ (σ : hv_St) (x1 : Int32) (x4 : Int32) (z0 : Int32), kX8_of_162 n r111 σ x1 x4 z0 = some o → hv_G p l e (headSpec wsX8_of rmX8_of).room s m args below meth c 5 D 23 a (hv_ME a cy) 0 0 (hv_MQ D 23 a (hv_ME a cy) below args s (some (.int o.1)) o.2) σ 162 [(0, .ref (a 0)), (1, .int (x1)), (4, .int (x4))] [.int (z0)] := by
  intro σ x1 x4 z0 h
  unfold kX8_of_162 at h
  refine g_iconst (pc := 162) C (v := (0 : Int32)) dX8_of_162 (by decide) ?_
  exact g_lv [0, 1, 2] rfl (bX8_of_163 C hr hr111 σ (x1) (x4) ((0 : Int32)) (z0) h)
set_option maxHeartbeats 4000000 in
set_option maxRecDepth 20000 in
theorem bX8_of_155 (C : hv_C p s m args meth c cX8_of 5 wsX8_of RX8 D (hv_tys cy)) (hr : meth.sig.returnType = (some .int)) {n : Nat} {o : Int32 × hv_St} {r111 : hv_St → Int32 → Int32 → Int32 → Option (Int32 × hv_St)} (hr111 : ∀ (σ : hv_St) (x1 : Int32) (x3 : Int32) (x4 : Int32), r111 σ x1 x3 x4 = some o → hv_G p l e (headSpec wsX8_of rmX8_of).room s m args below meth c 5 D 23 a (hv_ME a cy) 0 0 (hv_MQ D 23 a (hv_ME a cy) below args s (some (.int o.1)) o.2) σ 111 [(0, .ref (a 0)), (1, .int (x1)), (3, .int (x3)), (4, .int (x4))] []) : ∀ (σ : hv_St) (x1 : Int32) (x4 : Int32) (z0 : Int32), kX8_of_155 n r111 σ x1 x4 z0 = some o → hv_G p l e (headSpec wsX8_of rmX8_of).room s m args below meth c 5 D 23 a (hv_ME a cy) 0 0 (hv_MQ D 23 a (hv_ME a cy) below args s (some (.int o.1)) o.2) σ 155 [(0, .ref (a 0)), (1, .int (x1)), (4, .int (x4))] [.int (z0)] := by
  intro σ x1 x4 z0 h
  unfold kX8_of_155 at h
  refine g_iconst (pc := 155) C (v := (1 : Int32)) dX8_of_155 (by decide) ?_
  refine g_iload (pc := 156) C 2 dX8_of_156 rfl ?_
  refine g_ishl (pc := 158) C dX8_of_158 ?_
  refine g_goto (pc := 159) C (tgt := 163) dX8_of_159 (by decide) ?_
  exact g_lv [0, 1, 2] rfl (bX8_of_163 C hr hr111 σ (x1) (x4) (((1 : Int32)) <<< ((x4) &&& 31)) (z0) h)
set_option maxHeartbeats 4000000 in
set_option maxRecDepth 20000 in
theorem bX8_of_111 (C : hv_C p s m args meth c cX8_of 5 wsX8_of RX8 D (hv_tys cy)) (hr : meth.sig.returnType = (some .int)) {n : Nat} {o : Int32 × hv_St} : ∀ (i : Nat) (σ : hv_St) (x1 : Int32) (x3 : Int32) (x4 : Int32), kX8_of_111 n i σ x1 x3 x4 = some o → hv_G p l e (headSpec wsX8_of rmX8_of).room s m args below meth c 5 D 23 a (hv_ME a cy) 0 0 (hv_MQ D 23 a (hv_ME a cy) below args s (some (.int o.1)) o.2) σ 111 [(0, .ref (a 0)), (1, .int (x1)), (3, .int (x3)), (4, .int (x4))] [] := by
  intro i
  induction i with
  | zero =>
    intro σ x1 x3 x4 h
    cases h
  | succ i ih =>
    intro σ x1 x3 x4 h
    generalize hg : kX8_of_111 n i = r111 at ih
    have hr111 := ih
    replace h : kX8_of_111_b n r111 σ x1 x3 x4 = some o := by rw [← hg]; exact h
    unfold kX8_of_111_b at h
    refine g_iload (pc := 111) C 3 dX8_of_111 rfl ?_
    refine g_aload_n (pc := 113) C 0 dX8_of_113 rfl rfl ?_
    refine gm_get_0_6 (pc := 114) C iX8_of_X8 qX8_of_F88 dX8_of_114 ?_
    refine g_icmp_ge (pc := 117) (tgt := 171) C dX8_of_117 (by decide) (fun c117 => ?_) (fun c117 => ?_)
    · rw [if_pos c117] at h
      refine g_iload_n (pc := 171) C 2 dX8_of_171 rfl rfl ?_
      cases h
      exact g_iret (pc := 172) C hr dX8_of_172
    · rw [if_neg c117] at h
      refine g_iload_n (pc := 120) C 2 dX8_of_120 rfl rfl ?_
      refine g_aload_n (pc := 121) C 0 dX8_of_121 rfl rfl ?_
      refine gm_get_0_11 (pc := 122) C iX8_of_X8 qX8_of_F107 dX8_of_122 ?_
      refine g_iload (pc := 125) C 3 dX8_of_125 rfl ?_
      obtain ⟨r127, s127, hc127, h⟩ := hv_b2_some h
      refine g_callS (pc := 127) (σ1 := s127) (v := (some (.int (r127)))) (As := [.int (σ.1 0 11), .int (x4)]) (rest := [.int (x3)]) C (vX8_isOn hc127) (va_cwS 2 C.1.2.2.2.2 gX8_of_X8_isOn rfl rfl rfl (by decide +kernel) ⟨Nat.le_of_ble_eq_true rfl, Nat.le_of_ble_eq_true rfl⟩) rfl rfl (Nat.le_of_ble_eq_true rfl) dX8_of_127 ⟨Nat.zero_le _, Nat.zero_le _⟩ ?_
      refine g_st (st' := [.int (r127), .int (x3)]) rfl ?_
      refine g_if_eq (pc := 130) (tgt := 162) C dX8_of_130 (by decide) (fun c130 => ?_) (fun c130 => ?_)
      · rw [if_pos c130] at h
        exact g_lv [0, 1, 3] rfl (bX8_of_162 C hr hr111 s127 (x1) (x4) (x3) h)
      · rw [if_neg c130] at h
        refine g_aload_n (pc := 133) C 0 dX8_of_133 rfl rfl ?_
        refine gm_get_0_7 (pc := 134) C iX8_of_X8 qX8_of_F22 dX8_of_134 ?_
        refine g_iload (pc := 137) C 3 dX8_of_137 rfl ?_
        obtain ⟨k139, h⟩ := hv_if_some h
        refine gm_ld_5 (pc := 139) C k139 dX8_of_139 ?_
        refine g_iload_n (pc := 140) C 1 dX8_of_140 rfl rfl ?_
        refine g_icmp_eq (pc := 141) (tgt := 155) C dX8_of_141 (by decide) (fun c141 => ?_) (fun c141 => ?_)
        · rw [if_pos c141] at h
          exact g_lv [0, 1, 3] rfl (bX8_of_155 C hr hr111 s127 (x1) (x4) (x3) h)
        · rw [if_neg c141] at h
          refine g_aload_n (pc := 144) C 0 dX8_of_144 rfl rfl ?_
          refine gm_get_0_8 (pc := 145) C iX8_of_X8 qX8_of_F25 dX8_of_145 ?_
          refine g_iload (pc := 148) C 3 dX8_of_148 rfl ?_
          obtain ⟨k150, h⟩ := hv_if_some h
          refine gm_ld_6 (pc := 150) C k150 dX8_of_150 ?_
          refine g_iload_n (pc := 151) C 1 dX8_of_151 rfl rfl ?_
          refine g_icmp_ne (pc := 152) (tgt := 162) C dX8_of_152 (by decide) (fun c152 => ?_) (fun c152 => ?_)
          · rw [if_neg c152] at h
            exact g_lv [0, 1, 3] rfl (bX8_of_162 C hr hr111 s127 (x1) (x4) (x3) h)
          · rw [if_pos c152] at h
            exact g_lv [0, 1, 3] rfl (bX8_of_155 C hr hr111 s127 (x1) (x4) (x3) h)
set_option maxHeartbeats 4000000 in
set_option maxRecDepth 20000 in
theorem bX8_of_86 (C : hv_C p s m args meth c cX8_of 5 wsX8_of RX8 D (hv_tys cy)) (hr : meth.sig.returnType = (some .int)) {n : Nat} {o : Int32 × hv_St} : ∀ (σ : hv_St) (x1 : Int32) (x2 : Int32), kX8_of_86 n σ x1 x2 = some o → hv_G p l e (headSpec wsX8_of rmX8_of).room s m args below meth c 5 D 23 a (hv_ME a cy) 0 0 (hv_MQ D 23 a (hv_ME a cy) below args s (some (.int o.1)) o.2) σ 86 [(0, .ref (a 0)), (1, .int (x1)), (2, .int (x2))] [] := by
  intro σ x1 x2 h
  unfold kX8_of_86 at h
  refine g_aload_n (pc := 86) C 0 dX8_of_86 rfl rfl ?_
  refine gm_get_0_5 (pc := 87) C iX8_of_X8 qX8_of_F19 dX8_of_87 ?_
  refine g_iconst (pc := 90) C (v := (2 : Int32)) dX8_of_90 (by decide) ?_
  refine g_iload_n (pc := 91) C 1 dX8_of_91 rfl rfl ?_
  refine g_imul (pc := 92) C dX8_of_92 ?_
  refine g_iload_n (pc := 93) C 2 dX8_of_93 rfl rfl ?_
  refine g_iadd (pc := 94) C dX8_of_94 ?_
  refine g_iconst (pc := 95) C (v := (2 : Int32)) dX8_of_95 (by decide) ?_
  refine g_isub (pc := 96) C dX8_of_96 ?_
  obtain ⟨k97, h⟩ := hv_if_some h
  refine gm_ld_4 (pc := 97) C k97 dX8_of_97 ?_
  cases h
  exact g_iret (pc := 98) C hr dX8_of_98
set_option maxHeartbeats 4000000 in
set_option maxRecDepth 20000 in
theorem bX8_of_26 (C : hv_C p s m args meth c cX8_of 5 wsX8_of RX8 D (hv_tys cy)) (hr : meth.sig.returnType = (some .int)) {n : Nat} {o : Int32 × hv_St} : ∀ (σ : hv_St) (x1 : Int32) (x2 : Int32) (z0 : Int32), kX8_of_26 n σ x1 x2 z0 = some o → hv_G p l e (headSpec wsX8_of rmX8_of).room s m args below meth c 5 D 23 a (hv_ME a cy) 0 0 (hv_MQ D 23 a (hv_ME a cy) below args s (some (.int o.1)) o.2) σ 26 [(0, .ref (a 0)), (1, .int (x1)), (2, .int (x2))] [.int (z0), .ref (a 0)] := by
  intro σ x1 x2 z0 h
  unfold kX8_of_26 at h
  obtain ⟨s26, es26, h⟩ := hv_let_some h
  refine gm_put_0_0 (pc := 26) C es26 iX8_of_X8 qX8_of_F77 dX8_of_26 ?_
  refine g_aload_n (pc := 29) C 0 dX8_of_29 rfl rfl ?_
  refine gm_get_0_0 (pc := 30) C iX8_of_X8 qX8_of_F77 dX8_of_30 ?_
  refine g_if_le (pc := 33) (tgt := 38) C dX8_of_33 (by decide) (fun c33 => ?_) (fun c33 => ?_)
  · rw [if_pos c33] at h
    refine g_iload_n (pc := 38) C 2 dX8_of_38 rfl rfl ?_
    by_cases c39_0 : x2 = (0 : Int32)
    · rw [if_pos c39_0] at h
      refine g_tableIn (pc := 39) (tgt := 72) C dX8_of_39 (by rw [c39_0] <;> decide) (by rw [c39_0] <;> decide) (by rw [c39_0] <;> rfl) (by decide) ?_
      refine g_aload_n (pc := 72) C 0 dX8_of_72 rfl rfl ?_
      refine gm_get_0_2 (pc := 73) C iX8_of_X8 qX8_of_F7 dX8_of_73 ?_
      refine g_iload_n (pc := 76) C 1 dX8_of_76 rfl rfl ?_
      obtain ⟨k77, h⟩ := hv_if_some h
      refine gm_ld_1 (pc := 77) C k77 dX8_of_77 ?_
      cases h
      exact g_iret (pc := 78) C hr dX8_of_78
    · rw [if_neg c39_0] at h
      by_cases c39_1 : x2 = (1 : Int32)
      · rw [if_pos c39_1] at h
        refine g_tableIn (pc := 39) (tgt := 79) C dX8_of_39 (by rw [c39_1] <;> decide) (by rw [c39_1] <;> decide) (by rw [c39_1] <;> rfl) (by decide) ?_
        refine g_aload_n (pc := 79) C 0 dX8_of_79 rfl rfl ?_
        refine gm_get_0_3 (pc := 80) C iX8_of_X8 qX8_of_F13 dX8_of_80 ?_
        refine g_iload_n (pc := 83) C 1 dX8_of_83 rfl rfl ?_
        obtain ⟨k84, h⟩ := hv_if_some h
        refine gm_ld_2 (pc := 84) C k84 dX8_of_84 ?_
        cases h
        exact g_iret (pc := 85) C hr dX8_of_85
      · rw [if_neg c39_1] at h
        by_cases c39_2 : x2 = (2 : Int32)
        · rw [if_pos c39_2] at h
          refine g_tableIn (pc := 39) (tgt := 86) C dX8_of_39 (by rw [c39_2] <;> decide) (by rw [c39_2] <;> decide) (by rw [c39_2] <;> rfl) (by decide) ?_
          exact g_lv [0, 1, 2] rfl (bX8_of_86 C hr s26 (x1) (x2) h)
        · rw [if_neg c39_2] at h
          by_cases c39_3 : x2 = (3 : Int32)
          · rw [if_pos c39_3] at h
            refine g_tableIn (pc := 39) (tgt := 86) C dX8_of_39 (by rw [c39_3] <;> decide) (by rw [c39_3] <;> decide) (by rw [c39_3] <;> rfl) (by decide) ?_
            exact g_lv [0, 1, 2] rfl (bX8_of_86 C hr s26 (x1) (x2) h)
          · rw [if_neg c39_3] at h
            by_cases c39_4 : x2 = (4 : Int32)
            · rw [if_pos c39_4] at h
              refine g_tableIn (pc := 39) (tgt := 99) C dX8_of_39 (by rw [c39_4] <;> decide) (by rw [c39_4] <;> decide) (by rw [c39_4] <;> rfl) (by decide) ?_
              refine g_aload_n (pc := 99) C 0 dX8_of_99 rfl rfl ?_
              refine gm_get_0_4 (pc := 100) C iX8_of_X8 qX8_of_F16 dX8_of_100 ?_
              refine g_iload_n (pc := 103) C 1 dX8_of_103 rfl rfl ?_
              obtain ⟨k104, h⟩ := hv_if_some h
              refine gm_ld_3 (pc := 104) C k104 dX8_of_104 ?_
              cases h
              exact g_iret (pc := 105) C hr dX8_of_105
            · rw [if_neg c39_4] at h
              have nc39_0 := lv_neT c39_0 (a := 0) (by decide)
              have nc39_1 := lv_neT c39_1 (a := 1) (by decide)
              have nc39_2 := lv_neT c39_2 (a := 2) (by decide)
              have nc39_3 := lv_neT c39_3 (a := 3) (by decide)
              have nc39_4 := lv_neT c39_4 (a := 4) (by decide)
              refine g_tableOut (pc := 39) (tgt := 106) C dX8_of_39 (by omega) (by decide) ?_
              refine g_iconst (pc := 106) C (v := (0 : Int32)) dX8_of_106 (by decide) ?_
              refine g_istore_n (pc := 107) C (lv' := [(3, .int ((0 : Int32))), (0, .ref (a 0)), (1, .int (x1)), (2, .int (x2))]) rfl dX8_of_107 rfl (Nat.le_of_ble_eq_true rfl) rfl ?_
              refine g_iconst (pc := 108) C (v := (0 : Int32)) dX8_of_108 (by decide) ?_
              refine g_istore (pc := 109) C (lv' := [(4, .int ((0 : Int32))), (3, .int ((0 : Int32))), (0, .ref (a 0)), (1, .int (x1)), (2, .int (x2))]) rfl dX8_of_109 (Nat.le_of_ble_eq_true rfl) rfl ?_
              exact g_lv [2, 3, 1, 0] rfl (bX8_of_111 C hr n s26 (x1) ((0 : Int32)) ((0 : Int32)) h)
  · rw [if_neg c33] at h
    refine g_iconst (pc := 36) C (v := (0 : Int32)) dX8_of_36 (by decide) ?_
    cases h
    exact g_iret (pc := 37) C hr dX8_of_37
set_option maxHeartbeats 4000000 in
set_option maxRecDepth 20000 in
theorem bX8_of_25 (C : hv_C p s m args meth c cX8_of 5 wsX8_of RX8 D (hv_tys cy)) (hr : meth.sig.returnType = (some .int)) {n : Nat} {o : Int32 × hv_St} : ∀ (σ : hv_St) (x1 : Int32) (x2 : Int32), kX8_of_25 n σ x1 x2 = some o → hv_G p l e (headSpec wsX8_of rmX8_of).room s m args below meth c 5 D 23 a (hv_ME a cy) 0 0 (hv_MQ D 23 a (hv_ME a cy) below args s (some (.int o.1)) o.2) σ 25 [(0, .ref (a 0)), (1, .int (x1)), (2, .int (x2))] [.ref (a 0)] := by
  intro σ x1 x2 h
  unfold kX8_of_25 at h
  refine g_iconst (pc := 25) C (v := (1 : Int32)) dX8_of_25 (by decide) ?_
  exact g_lv [0, 1, 2] rfl (bX8_of_26 C hr σ (x1) (x2) ((1 : Int32)) h)
set_option maxHeartbeats 4000000 in
set_option maxRecDepth 20000 in
theorem vX8_of {n : Nat} {σ : hv_St} {p0 : Int32} {p1 : Int32} {o : Int32 × hv_St} (h : mX8_of n σ p0 p1 = some o) : hv_M l yX8_of wsX8_of rmX8_of D (hv_tys cy) 23 a (hv_ME a cy) [.ref (a 0), .int (p0), .int (p1)] σ (some (.int o.1)) o.2 := by
  refine hv_enter (own := RX8) (cc := cX8_of) (maxL := 5) (ret := (some .int)) (by decide) rfl rfl (Nat.le_of_ble_eq_true rfl) ?_
  intro p e s m args below meth c C hr
  unfold mX8_of at h
  refine g_lv [0, 1, 2] (lv' := [(0, .ref (a 0)), (1, .int (p0)), (2, .int (p1))]) rfl ?_
  refine g_aload_n (pc := 0) C 0 dX8_of_0 rfl rfl ?_
  refine g_aload_n (pc := 1) C 0 dX8_of_1 rfl rfl ?_
  refine g_iload_n (pc := 2) C 1 dX8_of_2 rfl rfl ?_
  obtain ⟨r3, s3, hc3, h⟩ := hv_b2_some h
  refine g_callV (pc := 3) (σ1 := s3) (v := (some (.int (r3)))) (As := [.int (p0)]) (rest := [.ref (a 0)]) C 0 (vX8_isPin hc3) (cwV 1 C.1.2.2.2.2 gX8_of_X8_isPin rfl rfl rfl (by decide +kernel) ⟨Nat.le_of_ble_eq_true rfl, Nat.le_of_ble_eq_true rfl⟩) (Nat.le_of_ble_eq_true rfl) rfl rfl rfl rfl (Nat.le_of_ble_eq_true rfl) dX8_of_3 ⟨Nat.zero_le _, Nat.zero_le _⟩ ?_
  refine g_st (st' := [.int (r3), .ref (a 0)]) rfl ?_
  refine g_if_eq (pc := 6) (tgt := 25) C dX8_of_6 (by decide) (fun c6 => ?_) (fun c6 => ?_)
  · rw [if_pos c6] at h
    exact g_lv [0, 1, 2] rfl (bX8_of_25 C hr s3 (p0) (p1) h)
  · rw [if_neg c6] at h
    refine g_iload_n (pc := 9) C 2 dX8_of_9 rfl rfl ?_
    refine g_i2l (pc := 10) C dX8_of_10 ?_
    refine g_lconst (pc := 11) C (v := (0 : Int64)) dX8_of_11 (by decide) ?_
    refine g_ldc2 (pc := 12) C (v := (5 : Int64)) qX8_of_L257 dX8_of_12 ?_
    obtain ⟨r15, s15, hc15, h⟩ := hv_b2_some h
    refine g_callS (pc := 15) (σ1 := s15) (v := (some (.int (r15)))) (As := [.long ((p1).toInt64), .long ((0 : Int64)), .long ((5 : Int64))]) (rest := [.ref (a 0)]) C (vX8_in hc15) (va_cwS 3 C.1.2.2.2.2 gX8_of_X8_in rfl rfl rfl (by decide +kernel) ⟨Nat.le_of_ble_eq_true rfl, Nat.le_of_ble_eq_true rfl⟩) rfl rfl (Nat.le_of_ble_eq_true rfl) dX8_of_15 ⟨Nat.zero_le _, Nat.zero_le _⟩ ?_
    refine g_st (st' := [.int (r15), .ref (a 0)]) rfl ?_
    refine g_if_eq (pc := 18) (tgt := 25) C dX8_of_18 (by decide) (fun c18 => ?_) (fun c18 => ?_)
    · rw [if_pos c18] at h
      exact g_lv [0, 1, 2] rfl (bX8_of_25 C hr s15 (p0) (p1) h)
    · rw [if_neg c18] at h
      refine g_iconst (pc := 21) C (v := (0 : Int32)) dX8_of_21 (by decide) ?_
      refine g_goto (pc := 22) C (tgt := 26) dX8_of_22 (by decide) ?_
      exact g_lv [0, 1, 2] rfl (bX8_of_26 C hr s15 (p0) (p1) ((0 : Int32)) h)
abbrev rmX8_spareNumber : Room := { frames := 5, cells := 0, slots := 0, locals := 126 }
set_option maxRecDepth 20000 in
theorem qX8_spareNumber_F107 : Cond.fieldLink RX8 107 "PinFrameModel" "on" "I" ∈ wsX8_spareNumber := by decide +kernel
set_option maxRecDepth 20000 in
theorem qX8_spareNumber_F155 : Cond.fieldLink RX8 155 "PinFrameModel" "spares" "I" ∈ wsX8_spareNumber := by decide +kernel
set_option maxRecDepth 20000 in
theorem iX8_spareNumber_X8 : ∀ w ∈ u_ws RX8 TX8 35, w ∈ wsX8_spareNumber := by decide +kernel
set_option maxHeartbeats 4000000 in
set_option maxRecDepth 20000 in
theorem vX8_spareNumber {n : Nat} {σ : hv_St} {p0 : Int32} {o : Int32 × hv_St} (h : mX8_spareNumber n σ p0 = some o) : hv_M l yX8_spareNumber wsX8_spareNumber rmX8_spareNumber D (hv_tys cy) 23 a (hv_ME a cy) [.ref (a 0), .int (p0)] σ (some (.int o.1)) o.2 := by
  refine hv_enter (own := RX8) (cc := cX8_spareNumber) (maxL := 2) (ret := (some .int)) (by decide) rfl rfl (Nat.le_of_ble_eq_true rfl) ?_
  intro p e s m args below meth c C hr
  unfold mX8_spareNumber at h
  refine g_lv [0, 1] (lv' := [(0, .ref (a 0)), (1, .int (p0))]) rfl ?_
  refine g_aload_n (pc := 0) C 0 dX8_spareNumber_0 rfl rfl ?_
  refine g_aload_n (pc := 1) C 0 dX8_spareNumber_1 rfl rfl ?_
  refine gm_get_0_11 (pc := 2) C iX8_spareNumber_X8 qX8_spareNumber_F107 dX8_spareNumber_2 ?_
  obtain ⟨s5, hc5, h⟩ := hv_bd_some h
  refine g_callV (pc := 5) (σ1 := s5) (v := none) (As := [.int (σ.1 0 11)]) (rest := []) C 0 (vX8_laysBase hc5) (cwV 1 C.1.2.2.2.2 gX8_spareNumber_X8_laysBase rfl rfl rfl (by decide +kernel) ⟨Nat.le_of_ble_eq_true rfl, Nat.le_of_ble_eq_true rfl⟩) (Nat.le_of_ble_eq_true rfl) rfl rfl rfl rfl (Nat.le_of_ble_eq_true rfl) dX8_spareNumber_5 ⟨Nat.zero_le _, Nat.zero_le _⟩ ?_
  refine g_st (st' := []) rfl ?_
  refine g_aload_n (pc := 8) C 0 dX8_spareNumber_8 rfl rfl ?_
  refine gm_get_0_21 (pc := 9) C iX8_spareNumber_X8 qX8_spareNumber_F155 dX8_spareNumber_9 ?_
  refine g_iload_n (pc := 12) C 1 dX8_spareNumber_12 rfl rfl ?_
  obtain ⟨r13, s13, hc13, h⟩ := hv_b2_some h
  refine g_callS (pc := 13) (σ1 := s13) (v := (some (.int (r13)))) (As := [.int (s5.1 0 21), .int (p0)]) (rest := []) C (vX8_isOn hc13) (va_cwS 2 C.1.2.2.2.2 gX8_spareNumber_X8_isOn rfl rfl rfl (by decide +kernel) ⟨Nat.le_of_ble_eq_true rfl, Nat.le_of_ble_eq_true rfl⟩) rfl rfl (Nat.le_of_ble_eq_true rfl) dX8_spareNumber_13 ⟨Nat.zero_le _, Nat.zero_le _⟩ ?_
  refine g_st (st' := [.int (r13)]) rfl ?_
  refine g_if_eq (pc := 16) (tgt := 35) C dX8_spareNumber_16 (by decide) (fun c16 => ?_) (fun c16 => ?_)
  · rw [if_pos c16] at h
    refine g_iconst (pc := 35) C (v := (-1 : Int32)) dX8_spareNumber_35 (by decide) ?_
    cases h
    exact g_iret (pc := 36) C hr dX8_spareNumber_36
  · rw [if_neg c16] at h
    refine g_aload_n (pc := 19) C 0 dX8_spareNumber_19 rfl rfl ?_
    refine gm_get_0_21 (pc := 20) C iX8_spareNumber_X8 qX8_spareNumber_F155 dX8_spareNumber_20 ?_
    refine g_iconst (pc := 23) C (v := (1 : Int32)) dX8_spareNumber_23 (by decide) ?_
    refine g_iload_n (pc := 24) C 1 dX8_spareNumber_24 rfl rfl ?_
    refine g_ishl (pc := 25) C dX8_spareNumber_25 ?_
    refine g_iconst (pc := 26) C (v := (1 : Int32)) dX8_spareNumber_26 (by decide) ?_
    refine g_isub (pc := 27) C dX8_spareNumber_27 ?_
    refine g_iand (pc := 28) C dX8_spareNumber_28 ?_
    obtain ⟨r29, s29, hc29, h⟩ := hv_b2_some h
    refine g_callS (pc := 29) (σ1 := s29) (v := (some (.int (r29)))) (As := [.int ((s13.1 0 21) &&& ((((1 : Int32)) <<< ((p0) &&& 31)) - ((1 : Int32))))]) (rest := []) C (vX8_bits hc29) (va_cwS 1 C.1.2.2.2.2 gX8_spareNumber_X8_bits rfl rfl rfl (by decide +kernel) ⟨Nat.le_of_ble_eq_true rfl, Nat.le_of_ble_eq_true rfl⟩) rfl rfl (Nat.le_of_ble_eq_true rfl) dX8_spareNumber_29 ⟨Nat.zero_le _, Nat.zero_le _⟩ ?_
    refine g_st (st' := [.int (r29)]) rfl ?_
    refine g_goto (pc := 32) C (tgt := 36) dX8_spareNumber_32 (by decide) ?_
    cases h
    exact g_iret (pc := 36) C hr dX8_spareNumber_36
abbrev rmX8_at : Room := { frames := 6, cells := 0, slots := 0, locals := 147 }
set_option maxRecDepth 20000 in
theorem qX8_at_F107 : Cond.fieldLink RX8 107 "PinFrameModel" "on" "I" ∈ wsX8_at := by decide +kernel
set_option maxRecDepth 20000 in
theorem qX8_at_F22 : Cond.fieldLink RX8 22 "PinFrameModel" "one" "[I" ∈ wsX8_at := by decide +kernel
set_option maxRecDepth 20000 in
theorem qX8_at_F25 : Cond.fieldLink RX8 25 "PinFrameModel" "other" "[I" ∈ wsX8_at := by decide +kernel
set_option maxRecDepth 20000 in
theorem qX8_at_F28 : Cond.fieldLink RX8 28 "PinFrameModel" "give" "[I" ∈ wsX8_at := by decide +kernel
set_option maxRecDepth 20000 in
theorem qX8_at_F31 : Cond.fieldLink RX8 31 "PinFrameModel" "strength" "[I" ∈ wsX8_at := by decide +kernel
set_option maxRecDepth 20000 in
theorem qX8_at_F77 : Cond.fieldLink RX8 77 "PinFrameModel" "raised" "I" ∈ wsX8_at := by decide +kernel
set_option maxRecDepth 20000 in
theorem qX8_at_L257 : Cond.constantLong RX8 257 (5) ∈ wsX8_at := by decide +kernel
set_option maxRecDepth 20000 in
theorem iX8_at_X8 : ∀ w ∈ u_ws RX8 TX8 35, w ∈ wsX8_at := by decide +kernel
set_option maxHeartbeats 4000000 in
set_option maxRecDepth 20000 in
theorem bX8_at_26 (C : hv_C p s m args meth c cX8_at 3 wsX8_at RX8 D (hv_tys cy)) (hr : meth.sig.returnType = (some .int)) {n : Nat} {o : Int32 × hv_St} : ∀ (σ : hv_St) (x1 : Int32) (x2 : Int32) (z0 : Int32), kX8_at_26 n σ x1 x2 z0 = some o → hv_G p l e (headSpec wsX8_at rmX8_at).room s m args below meth c 3 D 23 a (hv_ME a cy) 0 0 (hv_MQ D 23 a (hv_ME a cy) below args s (some (.int o.1)) o.2) σ 26 [(0, .ref (a 0)), (1, .int (x1)), (2, .int (x2))] [.int (z0), .ref (a 0)] := by
  intro σ x1 x2 z0 h
  unfold kX8_at_26 at h
  obtain ⟨s26, es26, h⟩ := hv_let_some h
  refine gm_put_0_0 (pc := 26) C es26 iX8_at_X8 qX8_at_F77 dX8_at_26 ?_
  refine g_aload_n (pc := 29) C 0 dX8_at_29 rfl rfl ?_
  refine gm_get_0_0 (pc := 30) C iX8_at_X8 qX8_at_F77 dX8_at_30 ?_
  refine g_if_le (pc := 33) (tgt := 38) C dX8_at_33 (by decide) (fun c33 => ?_) (fun c33 => ?_)
  · rw [if_pos c33] at h
    refine g_iload_n (pc := 38) C 2 dX8_at_38 rfl rfl ?_
    by_cases c39_0 : x2 = (0 : Int32)
    · rw [if_pos c39_0] at h
      refine g_tableIn (pc := 39) (tgt := 72) C dX8_at_39 (by rw [c39_0] <;> decide) (by rw [c39_0] <;> decide) (by rw [c39_0] <;> rfl) (by decide) ?_
      refine g_aload_n (pc := 72) C 0 dX8_at_72 rfl rfl ?_
      refine gm_get_0_7 (pc := 73) C iX8_at_X8 qX8_at_F22 dX8_at_73 ?_
      refine g_iload_n (pc := 76) C 1 dX8_at_76 rfl rfl ?_
      obtain ⟨k77, h⟩ := hv_if_some h
      refine gm_ld_5 (pc := 77) C k77 dX8_at_77 ?_
      cases h
      exact g_iret (pc := 78) C hr dX8_at_78
    · rw [if_neg c39_0] at h
      by_cases c39_1 : x2 = (1 : Int32)
      · rw [if_pos c39_1] at h
        refine g_tableIn (pc := 39) (tgt := 79) C dX8_at_39 (by rw [c39_1] <;> decide) (by rw [c39_1] <;> decide) (by rw [c39_1] <;> rfl) (by decide) ?_
        refine g_aload_n (pc := 79) C 0 dX8_at_79 rfl rfl ?_
        refine gm_get_0_8 (pc := 80) C iX8_at_X8 qX8_at_F25 dX8_at_80 ?_
        refine g_iload_n (pc := 83) C 1 dX8_at_83 rfl rfl ?_
        obtain ⟨k84, h⟩ := hv_if_some h
        refine gm_ld_6 (pc := 84) C k84 dX8_at_84 ?_
        cases h
        exact g_iret (pc := 85) C hr dX8_at_85
      · rw [if_neg c39_1] at h
        by_cases c39_2 : x2 = (2 : Int32)
        · rw [if_pos c39_2] at h
          refine g_tableIn (pc := 39) (tgt := 86) C dX8_at_39 (by rw [c39_2] <;> decide) (by rw [c39_2] <;> decide) (by rw [c39_2] <;> rfl) (by decide) ?_
          refine g_aload_n (pc := 86) C 0 dX8_at_86 rfl rfl ?_
          refine gm_get_0_9 (pc := 87) C iX8_at_X8 qX8_at_F28 dX8_at_87 ?_
          refine g_iload_n (pc := 90) C 1 dX8_at_90 rfl rfl ?_
          obtain ⟨k91, h⟩ := hv_if_some h
          refine gm_ld_7 (pc := 91) C k91 dX8_at_91 ?_
          cases h
          exact g_iret (pc := 92) C hr dX8_at_92
        · rw [if_neg c39_2] at h
          by_cases c39_3 : x2 = (3 : Int32)
          · rw [if_pos c39_3] at h
            refine g_tableIn (pc := 39) (tgt := 93) C dX8_at_39 (by rw [c39_3] <;> decide) (by rw [c39_3] <;> decide) (by rw [c39_3] <;> rfl) (by decide) ?_
            refine g_aload_n (pc := 93) C 0 dX8_at_93 rfl rfl ?_
            refine gm_get_0_10 (pc := 94) C iX8_at_X8 qX8_at_F31 dX8_at_94 ?_
            refine g_iload_n (pc := 97) C 1 dX8_at_97 rfl rfl ?_
            obtain ⟨k98, h⟩ := hv_if_some h
            refine gm_ld_8 (pc := 98) C k98 dX8_at_98 ?_
            cases h
            exact g_iret (pc := 99) C hr dX8_at_99
          · rw [if_neg c39_3] at h
            by_cases c39_4 : x2 = (4 : Int32)
            · rw [if_pos c39_4] at h
              refine g_tableIn (pc := 39) (tgt := 100) C dX8_at_39 (by rw [c39_4] <;> decide) (by rw [c39_4] <;> decide) (by rw [c39_4] <;> rfl) (by decide) ?_
              refine g_aload_n (pc := 100) C 0 dX8_at_100 rfl rfl ?_
              refine gm_get_0_11 (pc := 101) C iX8_at_X8 qX8_at_F107 dX8_at_101 ?_
              refine g_iload_n (pc := 104) C 1 dX8_at_104 rfl rfl ?_
              refine g_ishr (pc := 105) C dX8_at_105 ?_
              refine g_iconst (pc := 106) C (v := (1 : Int32)) dX8_at_106 (by decide) ?_
              refine g_iand (pc := 107) C dX8_at_107 ?_
              cases h
              exact g_iret (pc := 108) C hr dX8_at_108
            · rw [if_neg c39_4] at h
              have nc39_0 := lv_neT c39_0 (a := 0) (by decide)
              have nc39_1 := lv_neT c39_1 (a := 1) (by decide)
              have nc39_2 := lv_neT c39_2 (a := 2) (by decide)
              have nc39_3 := lv_neT c39_3 (a := 3) (by decide)
              have nc39_4 := lv_neT c39_4 (a := 4) (by decide)
              refine g_tableOut (pc := 39) (tgt := 109) C dX8_at_39 (by omega) (by decide) ?_
              refine g_aload_n (pc := 109) C 0 dX8_at_109 rfl rfl ?_
              refine g_iload_n (pc := 110) C 1 dX8_at_110 rfl rfl ?_
              obtain ⟨r111, s111, hc111, h⟩ := hv_b2_some h
              refine g_callV (pc := 111) (σ1 := s111) (v := (some (.int (r111)))) (As := [.int (x1)]) (rest := []) C 0 (vX8_spareNumber hc111) (cwV 1 C.1.2.2.2.2 gX8_at_X8_spareNumber rfl rfl rfl (by decide +kernel) ⟨Nat.le_of_ble_eq_true rfl, Nat.le_of_ble_eq_true rfl⟩) (Nat.le_of_ble_eq_true rfl) rfl rfl rfl rfl (Nat.le_of_ble_eq_true rfl) dX8_at_111 ⟨Nat.zero_le _, Nat.zero_le _⟩ ?_
              refine g_st (st' := [.int (r111)]) rfl ?_
              cases h
              exact g_iret (pc := 114) C hr dX8_at_114
  · rw [if_neg c33] at h
    refine g_iconst (pc := 36) C (v := (0 : Int32)) dX8_at_36 (by decide) ?_
    cases h
    exact g_iret (pc := 37) C hr dX8_at_37
set_option maxHeartbeats 4000000 in
set_option maxRecDepth 20000 in
theorem bX8_at_25 (C : hv_C p s m args meth c cX8_at 3 wsX8_at RX8 D (hv_tys cy)) (hr : meth.sig.returnType = (some .int)) {n : Nat} {o : Int32 × hv_St} : ∀ (σ : hv_St) (x1 : Int32) (x2 : Int32), kX8_at_25 n σ x1 x2 = some o → hv_G p l e (headSpec wsX8_at rmX8_at).room s m args below meth c 3 D 23 a (hv_ME a cy) 0 0 (hv_MQ D 23 a (hv_ME a cy) below args s (some (.int o.1)) o.2) σ 25 [(0, .ref (a 0)), (1, .int (x1)), (2, .int (x2))] [.ref (a 0)] := by
  intro σ x1 x2 h
  unfold kX8_at_25 at h
  refine g_iconst (pc := 25) C (v := (1 : Int32)) dX8_at_25 (by decide) ?_
  exact g_lv [0, 1, 2] rfl (bX8_at_26 C hr σ (x1) (x2) ((1 : Int32)) h)
set_option maxHeartbeats 4000000 in
set_option maxRecDepth 20000 in
theorem vX8_at {n : Nat} {σ : hv_St} {p0 : Int32} {p1 : Int32} {o : Int32 × hv_St} (h : mX8_at n σ p0 p1 = some o) : hv_M l yX8_at wsX8_at rmX8_at D (hv_tys cy) 23 a (hv_ME a cy) [.ref (a 0), .int (p0), .int (p1)] σ (some (.int o.1)) o.2 := by
  refine hv_enter (own := RX8) (cc := cX8_at) (maxL := 3) (ret := (some .int)) (by decide) rfl rfl (Nat.le_of_ble_eq_true rfl) ?_
  intro p e s m args below meth c C hr
  unfold mX8_at at h
  refine g_lv [0, 1, 2] (lv' := [(0, .ref (a 0)), (1, .int (p0)), (2, .int (p1))]) rfl ?_
  refine g_aload_n (pc := 0) C 0 dX8_at_0 rfl rfl ?_
  refine g_aload_n (pc := 1) C 0 dX8_at_1 rfl rfl ?_
  refine g_iload_n (pc := 2) C 1 dX8_at_2 rfl rfl ?_
  obtain ⟨r3, s3, hc3, h⟩ := hv_b2_some h
  refine g_callV (pc := 3) (σ1 := s3) (v := (some (.int (r3)))) (As := [.int (p0)]) (rest := [.ref (a 0)]) C 0 (vX8_isBar hc3) (cwV 1 C.1.2.2.2.2 gX8_at_X8_isBar rfl rfl rfl (by decide +kernel) ⟨Nat.le_of_ble_eq_true rfl, Nat.le_of_ble_eq_true rfl⟩) (Nat.le_of_ble_eq_true rfl) rfl rfl rfl rfl (Nat.le_of_ble_eq_true rfl) dX8_at_3 ⟨Nat.zero_le _, Nat.zero_le _⟩ ?_
  refine g_st (st' := [.int (r3), .ref (a 0)]) rfl ?_
  refine g_if_eq (pc := 6) (tgt := 25) C dX8_at_6 (by decide) (fun c6 => ?_) (fun c6 => ?_)
  · rw [if_pos c6] at h
    exact g_lv [0, 1, 2] rfl (bX8_at_25 C hr s3 (p0) (p1) h)
  · rw [if_neg c6] at h
    refine g_iload_n (pc := 9) C 2 dX8_at_9 rfl rfl ?_
    refine g_i2l (pc := 10) C dX8_at_10 ?_
    refine g_lconst (pc := 11) C (v := (0 : Int64)) dX8_at_11 (by decide) ?_
    refine g_ldc2 (pc := 12) C (v := (5 : Int64)) qX8_at_L257 dX8_at_12 ?_
    obtain ⟨r15, s15, hc15, h⟩ := hv_b2_some h
    refine g_callS (pc := 15) (σ1 := s15) (v := (some (.int (r15)))) (As := [.long ((p1).toInt64), .long ((0 : Int64)), .long ((5 : Int64))]) (rest := [.ref (a 0)]) C (vX8_in hc15) (va_cwS 3 C.1.2.2.2.2 gX8_at_X8_in rfl rfl rfl (by decide +kernel) ⟨Nat.le_of_ble_eq_true rfl, Nat.le_of_ble_eq_true rfl⟩) rfl rfl (Nat.le_of_ble_eq_true rfl) dX8_at_15 ⟨Nat.zero_le _, Nat.zero_le _⟩ ?_
    refine g_st (st' := [.int (r15), .ref (a 0)]) rfl ?_
    refine g_if_eq (pc := 18) (tgt := 25) C dX8_at_18 (by decide) (fun c18 => ?_) (fun c18 => ?_)
    · rw [if_pos c18] at h
      exact g_lv [0, 1, 2] rfl (bX8_at_25 C hr s15 (p0) (p1) h)
    · rw [if_neg c18] at h
      refine g_iconst (pc := 21) C (v := (0 : Int32)) dX8_at_21 (by decide) ?_
      refine g_goto (pc := 22) C (tgt := 26) dX8_at_22 (by decide) ?_
      exact g_lv [0, 1, 2] rfl (bX8_at_26 C hr s15 (p0) (p1) ((0 : Int32)) h)
end
