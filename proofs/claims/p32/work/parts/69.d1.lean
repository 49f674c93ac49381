/-! begins, walked: the rest -/
section
variable {p : Program} {l : Launch} {e : Env} {s : State} {m : MethodId} {args : Array Value} {below : List Frame} {meth : Method} {c : Code} {D : va_G} {cy : ClassId × ClassId × ClassId × ClassId} {A : Nat → Prop} {a b : Nat → Nat} {d0 : Nat}
set_option maxHeartbeats 4000000 in
set_option maxRecDepth 20000 in
theorem bQ_begins_228 (hflag : l.stackTraces = false) (C : hv_C p s m args meth c cL_begins 13 wsL_begins RL D (hv_tys cy)) (hA : ∀ q, s.heap.size ≤ q → A q) (hT : hv_TA A s) (hb : b 0 = d0) (hr : meth.sig.returnType = (some (.object "PinFrameLaw$Told"))) {n : Nat} {o : hv_St × hv_St} {r174 : hv_St → hv_St → Int32 → Int32 → Int32 → Option (hv_St × hv_St)} {C174 : Nat} (hr174 : ∀ (κ : Nat) (σ τ : hv_St) (x4 : Int32) (x5 : Int32) (x6 : Int32), κ + C174 ≤ 8 → r174 σ τ x4 x5 x6 = some o → hv_J p l e (headSpec wsL_begins rmQ_begins).room s m args below meth c 13 D A κ (12 * κ) (MQ below (lv_Q D (lv_N a cy d0 o) A) args s 8 (12 * 8) A) (hv_W 55 a (hv_XE a cy) (σ) ++ (hv_W 9 b (hv_TE b cy) (τ) ++ [])) 174 [(0, .ref (a 0)), (1, .ref (b 0)), (3, .ref (b 1)), (4, .int (x4)), (5, .int (x5)), (6, .int (x6))] []) : ∀ (i κ : Nat) (σ τ : hv_St) (x4 : Int32) (x5 : Int32) (x6 : Int32) (x7 : Int32) (x8 : Int32), κ + ((0 + C174)) ≤ 8 → kQ_begins_228 n r174 i σ τ x4 x5 x6 x7 x8 = some o → hv_J p l e (headSpec wsL_begins rmQ_begins).room s m args below meth c 13 D A κ (12 * κ) (MQ below (lv_Q D (lv_N a cy d0 o) A) args s 8 (12 * 8) A) (hv_W 55 a (hv_XE a cy) (σ) ++ (hv_W 9 b (hv_TE b cy) (τ) ++ [])) 228 [(0, .ref (a 0)), (1, .ref (b 0)), (3, .ref (b 1)), (4, .int (x4)), (5, .int (x5)), (6, .int (x6)), (7, .int (x7)), (8, .int (x8))] [] := by
  intro i
  induction i with
  | zero =>
    intro κ σ τ x4 x5 x6 x7 x8 hκ h
    cases h
  | succ i ih =>
    intro κ σ τ x4 x5 x6 x7 x8 hκ h
    generalize hg : kQ_begins_228 n r174 i = r228 at ih
    have hr228 := ih
    replace h : kQ_begins_228_b n r174 r228 σ τ x4 x5 x6 x7 x8 = some o := by rw [← hg]; exact h
    unfold kQ_begins_228_b at h
    refine r_iload (pc := 228) C 7 dL_begins_228 rfl ?_
    refine r_iconst (pc := 230) C (v := (2 : Int32)) dL_begins_230 (by decide) ?_
    refine r_icmp_ge (pc := 231) (tgt := 268) C dL_begins_231 (by decide) (fun c231 => ?_) (fun c231 => ?_)
    · rw [if_pos c231] at h
      refine r_aload_n (pc := 268) C 2 dL_begins_268 rfl rfl ?_
      refine rt_get_2 (pc := 269) C iL_begins_X9 (List.mem_of_getElem? (i := 13) rfl) dL_begins_269 ?_
      refine r_iload (pc := 272) C 5 dL_begins_272 rfl ?_
      refine r_iload (pc := 274) C 6 dL_begins_274 rfl ?_
      obtain ⟨k276, h⟩ := hv_if_some h
      obtain ⟨t276, et276, h⟩ := hv_let_some h
      refine rt_st_4 (pc := 276) C et276 k276 dL_begins_276 ?_
      refine r_iinc (pc := 277) C 5 (v := (x6) + 1) (lv' := [(6, .int ((x6) + 1)), (0, .ref (a 0)), (1, .ref (b 0)), (3, .ref (b 1)), (4, .int (x4)), (5, .int (x5)), (7, .int (x7)), (8, .int (x8))]) dL_begins_277 rfl rfl (Nat.le_of_ble_eq_true rfl) rfl ?_
      refine r_goto (pc := 280) C (tgt := 174) dL_begins_280 (by decide) ?_
      have K9 := hr174 κ (σ) (t276) (x4) (x5) ((x6) + 1) (by omega) h
      exact r_lv [1, 2, 3, 4, 5, 0] rfl K9
    · rw [if_neg c231] at h
      refine r_iload (pc := 234) C 6 dL_begins_234 rfl ?_
      refine r_iload (pc := 236) C 7 dL_begins_236 rfl ?_
      refine r_ishr (pc := 238) C dL_begins_238 ?_
      refine r_iconst (pc := 239) C (v := (1 : Int32)) dL_begins_239 (by decide) ?_
      refine r_iand (pc := 240) C dL_begins_240 ?_
      refine r_iconst (pc := 241) C (v := (1 : Int32)) dL_begins_241 (by decide) ?_
      refine r_icmp_ne (pc := 242) (tgt := 262) C dL_begins_242 (by decide) (fun c242 => ?_) (fun c242 => ?_)
      · rw [if_neg c242] at h
        have K9 := bQ_begins_262 (e := e) (below := below) (a := a) (b := b) (n := n) hflag C hA hT hb hr hr174 hr228 κ (σ) (τ) (x4) (x5) (x6) (x7) (x8) (by omega) h
        exact r_lv [0, 1, 2, 3, 4, 5, 6, 7] rfl K9
      · rw [if_pos c242] at h
        refine r_aload_n (pc := 245) C 0 dL_begins_245 rfl rfl ?_
        refine r_iload (pc := 246) C 5 dL_begins_246 rfl ?_
        refine r_iload (pc := 248) C 7 dL_begins_248 rfl ?_
        refine r_iconst (pc := 250) C (v := (1 : Int32)) dL_begins_250 (by decide) ?_
        obtain ⟨r251, s251, hc251, h⟩ := hv_b2_some h
        refine r_callV0 (pc := 251) (τ := s251) (v := some (.int (r251))) (As := [.int (x6), .int (x8), .int ((1 : Int32))]) (rest := []) C hA 0 (vX7_hold hc251) (cwV 3 C.1.2.2.2.2 gL_begins_X7_hold rfl rfl rfl (by decide +kernel) ⟨(Nat.le_of_ble_eq_true rfl), (Nat.le_of_ble_eq_true rfl)⟩) (Nat.le_of_ble_eq_true rfl) rfl rfl rfl rfl (Nat.le_of_ble_eq_true rfl) dL_begins_251 (lv_cl0 (MC := 8) (need := 0) (by omega)) ?_
        refine r_st (st' := [.int (r251)]) rfl ?_
        refine r_if_ne (pc := 254) (tgt := 259) C dL_begins_254 (by decide) (fun c254 => ?_) (fun c254 => ?_)
        · rw [if_neg c254] at h
          refine r_iinc (pc := 259) C 4 (v := (x5) + (-1)) (lv' := [(5, .int ((x5) + (-1))), (0, .ref (a 0)), (1, .ref (b 0)), (3, .ref (b 1)), (4, .int (x4)), (6, .int (x6)), (7, .int (x7)), (8, .int (x8))]) dL_begins_259 rfl rfl (Nat.le_of_ble_eq_true rfl) rfl ?_
          have K9 := bQ_begins_262 (e := e) (below := below) (a := a) (b := b) (n := n) hflag C hA hT hb hr hr174 hr228 κ (s251) (τ) (x4) ((x5) + (-1)) (x6) (x7) (x8) (by omega) h
          exact r_lv [1, 2, 3, 4, 0, 5, 6, 7] rfl K9
        · rw [if_pos c254] at h
          cases h
set_option maxHeartbeats 4000000 in
set_option maxRecDepth 20000 in
theorem bQ_begins_223 (hflag : l.stackTraces = false) (C : hv_C p s m args meth c cL_begins 13 wsL_begins RL D (hv_tys cy)) (hA : ∀ q, s.heap.size ≤ q → A q) (hT : hv_TA A s) (hb : b 0 = d0) (hr : meth.sig.returnType = (some (.object "PinFrameLaw$Told"))) {n : Nat} {o : hv_St × hv_St} {r174 : hv_St → hv_St → Int32 → Int32 → Int32 → Option (hv_St × hv_St)} {C174 : Nat} (hr174 : ∀ (κ : Nat) (σ τ : hv_St) (x4 : Int32) (x5 : Int32) (x6 : Int32), κ + C174 ≤ 8 → r174 σ τ x4 x5 x6 = some o → hv_J p l e (headSpec wsL_begins rmQ_begins).room s m args below meth c 13 D A κ (12 * κ) (MQ below (lv_Q D (lv_N a cy d0 o) A) args s 8 (12 * 8) A) (hv_W 55 a (hv_XE a cy) (σ) ++ (hv_W 9 b (hv_TE b cy) (τ) ++ [])) 174 [(0, .ref (a 0)), (1, .ref (b 0)), (3, .ref (b 1)), (4, .int (x4)), (5, .int (x5)), (6, .int (x6))] []) : ∀ (κ : Nat) (σ τ : hv_St) (x4 : Int32) (x5 : Int32) (x6 : Int32) (z0 : Int32), κ + (0 + C174) ≤ 8 → kQ_begins_223 n r174 σ τ x4 x5 x6 z0 = some o → hv_J p l e (headSpec wsL_begins rmQ_begins).room s m args below meth c 13 D A κ (12 * κ) (MQ below (lv_Q D (lv_N a cy d0 o) A) args s 8 (12 * 8) A) (hv_W 55 a (hv_XE a cy) (σ) ++ (hv_W 9 b (hv_TE b cy) (τ) ++ [])) 223 [(0, .ref (a 0)), (1, .ref (b 0)), (3, .ref (b 1)), (4, .int (x4)), (5, .int (x5)), (6, .int (x6))] [.int (z0)] := by
  intro κ σ τ x4 x5 x6 z0 hκ h
  unfold kQ_begins_223 at h
  refine r_istore (pc := 223) C (lv' := [(7, .int (z0)), (0, .ref (a 0)), (1, .ref (b 0)), (3, .ref (b 1)), (4, .int (x4)), (5, .int (x5)), (6, .int (x6))]) rfl dL_begins_223 (Nat.le_of_ble_eq_true rfl) rfl ?_
  refine r_iconst (pc := 225) C (v := (0 : Int32)) dL_begins_225 (by decide) ?_
  refine r_istore (pc := 226) C (lv' := [(8, .int ((0 : Int32))), (7, .int (z0)), (0, .ref (a 0)), (1, .ref (b 0)), (3, .ref (b 1)), (4, .int (x4)), (5, .int (x5)), (6, .int (x6))]) rfl dL_begins_226 (Nat.le_of_ble_eq_true rfl) rfl ?_
  have K9 := bQ_begins_228 (e := e) (below := below) (a := a) (b := b) (n := n) hflag C hA hT hb hr hr174 n κ (σ) (τ) (x4) (x5) (x6) (z0) ((0 : Int32)) (by omega) h
  exact r_lv [2, 3, 4, 5, 6, 7, 1, 0] rfl K9
set_option maxHeartbeats 4000000 in
set_option maxRecDepth 20000 in
theorem bQ_begins_174 (hflag : l.stackTraces = false) (C : hv_C p s m args meth c cL_begins 13 wsL_begins RL D (hv_tys cy)) (hA : ∀ q, s.heap.size ≤ q → A q) (hT : hv_TA A s) (hb : b 0 = d0) (hr : meth.sig.returnType = (some (.object "PinFrameLaw$Told"))) {n : Nat} {o : hv_St × hv_St} : ∀ (i κ : Nat) (σ τ : hv_St) (x4 : Int32) (x5 : Int32) (x6 : Int32), κ + (0) ≤ 8 → kQ_begins_174 n i σ τ x4 x5 x6 = some o → hv_J p l e (headSpec wsL_begins rmQ_begins).room s m args below meth c 13 D A κ (12 * κ) (MQ below (lv_Q D (lv_N a cy d0 o) A) args s 8 (12 * 8) A) (hv_W 55 a (hv_XE a cy) (σ) ++ (hv_W 9 b (hv_TE b cy) (τ) ++ [])) 174 [(0, .ref (a 0)), (1, .ref (b 0)), (3, .ref (b 1)), (4, .int (x4)), (5, .int (x5)), (6, .int (x6))] [] := by
  intro i
  induction i with
  | zero =>
    intro κ σ τ x4 x5 x6 hκ h
    cases h
  | succ i ih =>
    intro κ σ τ x4 x5 x6 hκ h
    generalize hg : kQ_begins_174 n i = r174 at ih
    have hr174 := ih
    replace h : kQ_begins_174_b n r174 σ τ x4 x5 x6 = some o := by rw [← hg]; exact h
    unfold kQ_begins_174_b at h
    refine r_iload (pc := 174) C 5 dL_begins_174 rfl ?_
    refine r_iload (pc := 176) C 3 dL_begins_176 rfl ?_
    refine r_icmp_ge (pc := 178) (tgt := 283) C dL_begins_178 (by decide) (fun c178 => ?_) (fun c178 => ?_)
    · rw [if_pos c178] at h
      refine r_bipush (pc := 283) C (v := (11 : Int32)) dL_begins_283 (by decide) ?_
      refine r_iload (pc := 285) C 4 dL_begins_285 rfl ?_
      refine r_aload_n (pc := 287) C 1 dL_begins_287 rfl rfl ?_
      refine r_iconst (pc := 288) C (v := (3 : Int32)) dL_begins_288 (by decide) ?_
      obtain ⟨r289, s289, hc289, h⟩ := hv_b2_some h
      refine r_callV (pc := 289) (τ := s289) (v := some (.int (r289))) (As := [.int ((3 : Int32))]) (rest := [.int (x5), .int ((11 : Int32))]) C hA 0 (vX8_next hc289) (cwV 1 C.1.2.2.2.2 gL_begins_X8_next rfl rfl rfl (by decide +kernel) ⟨(Nat.le_of_ble_eq_true rfl), (Nat.le_of_ble_eq_true rfl)⟩) (Nat.le_of_ble_eq_true rfl) rfl rfl rfl rfl (Nat.le_of_ble_eq_true rfl) dL_begins_289 (lv_cl0 (MC := 8) (need := 0) (by omega)) ?_
      refine r_st (st' := [.int (r289), .int (x5), .int ((11 : Int32))]) rfl ?_
      refine r_iadd (pc := 292) C dL_begins_292 ?_
      refine r_mmin (pc := 293) C qL_begins_ML69 qL_begins_MS69 qL_begins_MI69 qL_begins_MC69 (Nat.le_of_ble_eq_true rfl) (Nat.le_of_ble_eq_true rfl) (lv_cl0 (MC := 8) (need := 0) (by omega)) dL_begins_293 ?_
      obtain ⟨y_293, ey_293, h⟩ := hv_let_some h
      rw [← ey_293]
      refine r_istore (pc := 296) C (lv' := [(6, .int (y_293)), (0, .ref (a 0)), (1, .ref (b 0)), (3, .ref (b 1)), (4, .int (x4)), (5, .int (x5))]) rfl dL_begins_296 (Nat.le_of_ble_eq_true rfl) rfl ?_
      refine r_iconst (pc := 298) C (v := (0 : Int32)) dL_begins_298 (by decide) ?_
      refine r_istore (pc := 299) C (lv' := [(7, .int ((0 : Int32))), (6, .int (y_293)), (0, .ref (a 0)), (1, .ref (b 0)), (3, .ref (b 1)), (4, .int (x4)), (5, .int (x5))]) rfl dL_begins_299 (Nat.le_of_ble_eq_true rfl) rfl ?_
      have K9 := bQ_begins_301 (e := e) (below := below) (a := a) (b := b) (n := n) hflag C hA hT hb hr n κ (σ) (s289) (x4) (x5) (y_293) ((0 : Int32)) (by omega) h
      exact r_lv [2, 3, 4, 5, 6, 1, 0] rfl K9
    · rw [if_neg c178] at h
      refine r_iload (pc := 181) C 5 dL_begins_181 rfl ?_
      refine r_if_ne (pc := 183) (tgt := 190) C dL_begins_183 (by decide) (fun c183 => ?_) (fun c183 => ?_)
      · rw [if_neg c183] at h
        refine r_iload (pc := 190) C 5 dL_begins_190 rfl ?_
        refine r_iconst (pc := 192) C (v := (1 : Int32)) dL_begins_192 (by decide) ?_
        refine r_icmp_ne (pc := 193) (tgt := 206) C dL_begins_193 (by decide) (fun c193 => ?_) (fun c193 => ?_)
        · rw [if_neg c193] at h
          refine r_aload_n (pc := 206) C 1 dL_begins_206 rfl rfl ?_
          refine r_iconst (pc := 207) C (v := (5 : Int32)) dL_begins_207 (by decide) ?_
          obtain ⟨r208, s208, hc208, h⟩ := hv_b2_some h
          refine r_callV (pc := 208) (τ := s208) (v := some (.int (r208))) (As := [.int ((5 : Int32))]) (rest := []) C hA 0 (vX8_next hc208) (cwV 1 C.1.2.2.2.2 gL_begins_X8_next rfl rfl rfl (by decide +kernel) ⟨(Nat.le_of_ble_eq_true rfl), (Nat.le_of_ble_eq_true rfl)⟩) (Nat.le_of_ble_eq_true rfl) rfl rfl rfl rfl (Nat.le_of_ble_eq_true rfl) dL_begins_208 (lv_cl0 (MC := 8) (need := 0) (by omega)) ?_
          refine r_st (st' := [.int (r208)]) rfl ?_
          refine r_if_ne (pc := 211) (tgt := 222) C dL_begins_211 (by decide) (fun c211 => ?_) (fun c211 => ?_)
          · rw [if_neg c211] at h
            refine r_iconst (pc := 222) C (v := (0 : Int32)) dL_begins_222 (by decide) ?_
            have K9 := bQ_begins_223 (e := e) (below := below) (a := a) (b := b) (n := n) hflag C hA hT hb hr hr174 κ (σ) (s208) (x4) (x5) (x6) ((0 : Int32)) (by omega) h
            exact r_lv [0, 1, 2, 3, 4, 5] rfl K9
          · rw [if_pos c211] at h
            refine r_aload_n (pc := 214) C 1 dL_begins_214 rfl rfl ?_
            refine r_iconst (pc := 215) C (v := (4 : Int32)) dL_begins_215 (by decide) ?_
            obtain ⟨r216, s216, hc216, h⟩ := hv_b2_some h
            refine r_callV (pc := 216) (τ := s216) (v := some (.int (r216))) (As := [.int ((4 : Int32))]) (rest := []) C hA 0 (vX8_next hc216) (cwV 1 C.1.2.2.2.2 gL_begins_X8_next rfl rfl rfl (by decide +kernel) ⟨(Nat.le_of_ble_eq_true rfl), (Nat.le_of_ble_eq_true rfl)⟩) (Nat.le_of_ble_eq_true rfl) rfl rfl rfl rfl (Nat.le_of_ble_eq_true rfl) dL_begins_216 (lv_cl0 (MC := 8) (need := 0) (by omega)) ?_
            refine r_st (st' := [.int (r216)]) rfl ?_
            refine r_goto (pc := 219) C (tgt := 223) dL_begins_219 (by decide) ?_
            have K9 := bQ_begins_223 (e := e) (below := below) (a := a) (b := b) (n := n) hflag C hA hT hb hr hr174 κ (σ) (s216) (x4) (x5) (x6) (r216) (by omega) h
            exact r_lv [0, 1, 2, 3, 4, 5] rfl K9
        · rw [if_pos c193] at h
          refine r_iconst (pc := 196) C (v := (1 : Int32)) dL_begins_196 (by decide) ?_
          refine r_aload_n (pc := 197) C 1 dL_begins_197 rfl rfl ?_
          refine r_iconst (pc := 198) C (v := (3 : Int32)) dL_begins_198 (by decide) ?_
          obtain ⟨r199, s199, hc199, h⟩ := hv_b2_some h
          refine r_callV (pc := 199) (τ := s199) (v := some (.int (r199))) (As := [.int ((3 : Int32))]) (rest := [.int ((1 : Int32))]) C hA 0 (vX8_next hc199) (cwV 1 C.1.2.2.2.2 gL_begins_X8_next rfl rfl rfl (by decide +kernel) ⟨(Nat.le_of_ble_eq_true rfl), (Nat.le_of_ble_eq_true rfl)⟩) (Nat.le_of_ble_eq_true rfl) rfl rfl rfl rfl (Nat.le_of_ble_eq_true rfl) dL_begins_199 (lv_cl0 (MC := 8) (need := 0) (by omega)) ?_
          refine r_st (st' := [.int (r199), .int ((1 : Int32))]) rfl ?_
          refine r_iadd (pc := 202) C dL_begins_202 ?_
          refine r_goto (pc := 203) C (tgt := 223) dL_begins_203 (by decide) ?_
          have K9 := bQ_begins_223 (e := e) (below := below) (a := a) (b := b) (n := n) hflag C hA hT hb hr hr174 κ (σ) (s199) (x4) (x5) (x6) (((1 : Int32)) + (r199)) (by omega) h
          exact r_lv [0, 1, 2, 3, 4, 5] rfl K9
      · rw [if_pos c183] at h
        refine r_iconst (pc := 186) C (v := (3 : Int32)) dL_begins_186 (by decide) ?_
        refine r_goto (pc := 187) C (tgt := 223) dL_begins_187 (by decide) ?_
        have K9 := bQ_begins_223 (e := e) (below := below) (a := a) (b := b) (n := n) hflag C hA hT hb hr hr174 κ (σ) (τ) (x4) (x5) (x6) ((3 : Int32)) (by omega) h
        exact r_lv [0, 1, 2, 3, 4, 5] rfl K9
set_option maxHeartbeats 4000000 in
set_option maxRecDepth 20000 in
theorem bQ_begins_162 (hflag : l.stackTraces = false) (C : hv_C p s m args meth c cL_begins 13 wsL_begins RL D (hv_tys cy)) (hA : ∀ q, s.heap.size ≤ q → A q) (hT : hv_TA A s) (hb : b 0 = d0) (hr : meth.sig.returnType = (some (.object "PinFrameLaw$Told"))) {n : Nat} {o : hv_St × hv_St} {r19 : hv_St → hv_St → Int32 → Option (hv_St × hv_St)} {C19 : Nat} (hr19 : ∀ (κ : Nat) (σ τ : hv_St) (x4 : Int32), κ + C19 ≤ 8 → r19 σ τ x4 = some o → hv_J p l e (headSpec wsL_begins rmQ_begins).room s m args below meth c 13 D A κ (12 * κ) (MQ below (lv_Q D (lv_N a cy d0 o) A) args s 8 (12 * 8) A) (hv_W 55 a (hv_XE a cy) (σ) ++ (hv_W 9 b (hv_TE b cy) (τ) ++ [])) 19 [(0, .ref (a 0)), (1, .ref (b 0)), (3, .ref (b 1)), (4, .int (x4))] []) : ∀ (κ : Nat) (σ τ : hv_St) (x4 : Int32), κ + (0 + C19) ≤ 8 → kQ_begins_162 n r19 σ τ x4 = some o → hv_J p l e (headSpec wsL_begins rmQ_begins).room s m args below meth c 13 D A κ (12 * κ) (MQ below (lv_Q D (lv_N a cy d0 o) A) args s 8 (12 * 8) A) (hv_W 55 a (hv_XE a cy) (σ) ++ (hv_W 9 b (hv_TE b cy) (τ) ++ [])) 162 [(0, .ref (a 0)), (1, .ref (b 0)), (3, .ref (b 1)), (4, .int (x4))] [] := by
  intro κ σ τ x4 hκ h
  unfold kQ_begins_162 at h
  refine r_goto (pc := 162) C (tgt := 19) dL_begins_162 (by decide) ?_
  have K9 := hr19 κ (σ) (τ) (x4) (by omega) h
  exact r_lv [0, 1, 2, 3] rfl K9
set_option maxHeartbeats 4000000 in
set_option maxRecDepth 20000 in
theorem bQ_begins_124 (hflag : l.stackTraces = false) (C : hv_C p s m args meth c cL_begins 13 wsL_begins RL D (hv_tys cy)) (hA : ∀ q, s.heap.size ≤ q → A q) (hT : hv_TA A s) (hb : b 0 = d0) (hr : meth.sig.returnType = (some (.object "PinFrameLaw$Told"))) {n : Nat} {o : hv_St × hv_St} {r19 : hv_St → hv_St → Int32 → Option (hv_St × hv_St)} {C19 : Nat} (hr19 : ∀ (κ : Nat) (σ τ : hv_St) (x4 : Int32), κ + C19 ≤ 8 → r19 σ τ x4 = some o → hv_J p l e (headSpec wsL_begins rmQ_begins).room s m args below meth c 13 D A κ (12 * κ) (MQ below (lv_Q D (lv_N a cy d0 o) A) args s 8 (12 * 8) A) (hv_W 55 a (hv_XE a cy) (σ) ++ (hv_W 9 b (hv_TE b cy) (τ) ++ [])) 19 [(0, .ref (a 0)), (1, .ref (b 0)), (3, .ref (b 1)), (4, .int (x4))] []) : ∀ (κ : Nat) (σ τ : hv_St) (x4 : Int32) (x5 : Int32) (x6 : Int32) (x7 : Int32) (x8 : Int32) (z0 : Int32) (z1 : Int32), κ + (0 + C19) ≤ 8 → kQ_begins_124 n r19 σ τ x4 x5 x6 x7 x8 z0 z1 = some o → hv_J p l e (headSpec wsL_begins rmQ_begins).room s m args below meth c 13 D A κ (12 * κ) (MQ below (lv_Q D (lv_N a cy d0 o) A) args s 8 (12 * 8) A) (hv_W 55 a (hv_XE a cy) (σ) ++ (hv_W 9 b (hv_TE b cy) (τ) ++ [])) 124 [(0, .ref (a 0)), (1, .ref (b 0)), (3, .ref (b 1)), (4, .int (x4)), (5, .int (x5)), (6, .int (x6)), (7, .int (x7)), (8, .int (x8))] [.int (z0), .int (z1)] := by
  intro κ σ τ x4 x5 x6 x7 x8 z0 z1 hκ h
  unfold kQ_begins_124 at h
  refine r_icmp_eq (pc := 124) (tgt := 129) C dL_begins_124 (by decide) (fun c124 => ?_) (fun c124 => ?_)
  · rw [if_pos c124] at h
    refine r_iload (pc := 129) C 6 dL_begins_129 rfl ?_
    refine r_if_eq (pc := 131) (tgt := 162) C dL_begins_131 (by decide) (fun c131 => ?_) (fun c131 => ?_)
    · rw [if_pos c131] at h
      have K9 := bQ_begins_162 (e := e) (below := below) (a := a) (b := b) (n := n) hflag C hA hT hb hr hr19 κ (σ) (τ) (x4) (by omega) h
      exact r_lv [0, 1, 2, 3] rfl K9
    · rw [if_neg c131] at h
      refine r_aload_n (pc := 134) C 2 dL_begins_134 rfl rfl ?_
      refine rt_get_0 (pc := 135) C iL_begins_X9 (List.mem_of_getElem? (i := 11) rfl) dL_begins_135 ?_
      refine r_iload (pc := 138) C 7 dL_begins_138 rfl ?_
      refine r_iload (pc := 140) C 4 dL_begins_140 rfl ?_
      obtain ⟨k142, h⟩ := hv_if_some h
      obtain ⟨t142, et142, h⟩ := hv_let_some h
      refine rt_st_2 (pc := 142) C et142 k142 dL_begins_142 ?_
      refine r_aload_n (pc := 143) C 2 dL_begins_143 rfl rfl ?_
      refine rt_get_1 (pc := 144) C iL_begins_X9 (List.mem_of_getElem? (i := 12) rfl) dL_begins_144 ?_
      refine r_iload (pc := 147) C 7 dL_begins_147 rfl ?_
      refine r_iload (pc := 149) C 5 dL_begins_149 rfl ?_
      obtain ⟨k151, h⟩ := hv_if_some h
      obtain ⟨t151, et151, h⟩ := hv_let_some h
      refine rt_st_3 (pc := 151) C et151 k151 dL_begins_151 ?_
      refine r_aload_n (pc := 152) C 2 dL_begins_152 rfl rfl ?_
      refine r_dup (pc := 153) C dL_begins_153 rfl ?_
      refine rt_get_7 (pc := 154) C iL_begins_X9 (List.mem_of_getElem? (i := 18) rfl) dL_begins_154 ?_
      refine r_iconst (pc := 157) C (v := (1 : Int32)) dL_begins_157 (by decide) ?_
      refine r_iadd (pc := 158) C dL_begins_158 ?_
      obtain ⟨t159, et159, h⟩ := hv_let_some h
      refine rt_put_7 (pc := 159) C et159 iL_begins_X9 (List.mem_of_getElem? (i := 18) rfl) dL_begins_159 ?_
      have K9 := bQ_begins_162 (e := e) (below := below) (a := a) (b := b) (n := n) hflag C hA hT hb hr hr19 κ (σ) (t159) (x4) (by omega) h
      exact r_lv [0, 1, 2, 3] rfl K9
  · rw [if_neg c124] at h
    cases h
set_option maxHeartbeats 4000000 in
set_option maxRecDepth 20000 in
theorem bQ_begins_91 (hflag : l.stackTraces = false) (C : hv_C p s m args meth c cL_begins 13 wsL_begins RL D (hv_tys cy)) (hA : ∀ q, s.heap.size ≤ q → A q) (hT : hv_TA A s) (hb : b 0 = d0) (hr : meth.sig.returnType = (some (.object "PinFrameLaw$Told"))) {n : Nat} {o : hv_St × hv_St} {r19 : hv_St → hv_St → Int32 → Option (hv_St × hv_St)} {r48 : hv_St → hv_St → Int32 → Int32 → Int32 → Int32 → Int32 → Option (hv_St × hv_St)} {C19 : Nat} {C48 : Nat} (hr19 : ∀ (κ : Nat) (σ τ : hv_St) (x4 : Int32), κ + C19 ≤ 8 → r19 σ τ x4 = some o → hv_J p l e (headSpec wsL_begins rmQ_begins).room s m args below meth c 13 D A κ (12 * κ) (MQ below (lv_Q D (lv_N a cy d0 o) A) args s 8 (12 * 8) A) (hv_W 55 a (hv_XE a cy) (σ) ++ (hv_W 9 b (hv_TE b cy) (τ) ++ [])) 19 [(0, .ref (a 0)), (1, .ref (b 0)), (3, .ref (b 1)), (4, .int (x4))] []) (hr48 : ∀ (κ : Nat) (σ τ : hv_St) (x4 : Int32) (x5 : Int32) (x6 : Int32) (x7 : Int32) (x8 : Int32), κ + C48 ≤ 8 → r48 σ τ x4 x5 x6 x7 x8 = some o → hv_J p l e (headSpec wsL_begins rmQ_begins).room s m args below meth c 13 D A κ (12 * κ) (MQ below (lv_Q D (lv_N a cy d0 o) A) args s 8 (12 * 8) A) (hv_W 55 a (hv_XE a cy) (σ) ++ (hv_W 9 b (hv_TE b cy) (τ) ++ [])) 48 [(0, .ref (a 0)), (1, .ref (b 0)), (3, .ref (b 1)), (4, .int (x4)), (5, .int (x5)), (6, .int (x6)), (7, .int (x7)), (8, .int (x8))] []) : ∀ (κ : Nat) (σ τ : hv_St) (x4 : Int32) (x5 : Int32) (x6 : Int32) (x8 : Int32) (z0 : Int32), κ + (0 + C48) ≤ 8 → kQ_begins_91 n r19 r48 σ τ x4 x5 x6 x8 z0 = some o → hv_J p l e (headSpec wsL_begins rmQ_begins).room s m args below meth c 13 D A κ (12 * κ) (MQ below (lv_Q D (lv_N a cy d0 o) A) args s 8 (12 * 8) A) (hv_W 55 a (hv_XE a cy) (σ) ++ (hv_W 9 b (hv_TE b cy) (τ) ++ [])) 91 [(0, .ref (a 0)), (1, .ref (b 0)), (3, .ref (b 1)), (4, .int (x4)), (5, .int (x5)), (6, .int (x6)), (8, .int (x8))] [.int (z0)] := by
  intro κ σ τ x4 x5 x6 x8 z0 hκ h
  unfold kQ_begins_91 at h
  refine r_istore (pc := 91) C (lv' := [(7, .int (z0)), (0, .ref (a 0)), (1, .ref (b 0)), (3, .ref (b 1)), (4, .int (x4)), (5, .int (x5)), (6, .int (x6)), (8, .int (x8))]) rfl dL_begins_91 (Nat.le_of_ble_eq_true rfl) rfl ?_
  refine r_iinc (pc := 93) C 7 (v := (x8) + 1) (lv' := [(8, .int ((x8) + 1)), (7, .int (z0)), (0, .ref (a 0)), (1, .ref (b 0)), (3, .ref (b 1)), (4, .int (x4)), (5, .int (x5)), (6, .int (x6))]) dL_begins_93 rfl rfl (Nat.le_of_ble_eq_true rfl) rfl ?_
  refine r_goto (pc := 96) C (tgt := 48) dL_begins_96 (by decide) ?_
  have K9 := hr48 κ (σ) (τ) (x4) (x5) (x6) (z0) ((x8) + 1) (by omega) h
  exact r_lv [2, 3, 4, 5, 6, 7, 1, 0] rfl K9
set_option maxHeartbeats 4000000 in
set_option maxRecDepth 20000 in
theorem bQ_begins_90 (hflag : l.stackTraces = false) (C : hv_C p s m args meth c cL_begins 13 wsL_begins RL D (hv_tys cy)) (hA : ∀ q, s.heap.size ≤ q → A q) (hT : hv_TA A s) (hb : b 0 = d0) (hr : meth.sig.returnType = (some (.object "PinFrameLaw$Told"))) {n : Nat} {o : hv_St × hv_St} {r19 : hv_St → hv_St → Int32 → Option (hv_St × hv_St)} {r48 : hv_St → hv_St → Int32 → Int32 → Int32 → Int32 → Int32 → Option (hv_St × hv_St)} {C19 : Nat} {C48 : Nat} (hr19 : ∀ (κ : Nat) (σ τ : hv_St) (x4 : Int32), κ + C19 ≤ 8 → r19 σ τ x4 = some o → hv_J p l e (headSpec wsL_begins rmQ_begins).room s m args below meth c 13 D A κ (12 * κ) (MQ below (lv_Q D (lv_N a cy d0 o) A) args s 8 (12 * 8) A) (hv_W 55 a (hv_XE a cy) (σ) ++ (hv_W 9 b (hv_TE b cy) (τ) ++ [])) 19 [(0, .ref (a 0)), (1, .ref (b 0)), (3, .ref (b 1)), (4, .int (x4))] []) (hr48 : ∀ (κ : Nat) (σ τ : hv_St) (x4 : Int32) (x5 : Int32) (x6 : Int32) (x7 : Int32) (x8 : Int32), κ + C48 ≤ 8 → r48 σ τ x4 x5 x6 x7 x8 = some o → hv_J p l e (headSpec wsL_begins rmQ_begins).room s m args below meth c 13 D A κ (12 * κ) (MQ below (lv_Q D (lv_N a cy d0 o) A) args s 8 (12 * 8) A) (hv_W 55 a (hv_XE a cy) (σ) ++ (hv_W 9 b (hv_TE b cy) (τ) ++ [])) 48 [(0, .ref (a 0)), (1, .ref (b 0)), (3, .ref (b 1)), (4, .int (x4)), (5, .int (x5)), (6, .int (x6)), (7, .int (x7)), (8, .int (x8))] []) : ∀ (κ : Nat) (σ τ : hv_St) (x4 : Int32) (x5 : Int32) (x6 : Int32) (x8 : Int32), κ + (0 + C48) ≤ 8 → kQ_begins_90 n r19 r48 σ τ x4 x5 x6 x8 = some o → hv_J p l e (headSpec wsL_begins rmQ_begins).room s m args below meth c 13 D A κ (12 * κ) (MQ below (lv_Q D (lv_N a cy d0 o) A) args s 8 (12 * 8) A) (hv_W 55 a (hv_XE a cy) (σ) ++ (hv_W 9 b (hv_TE b cy) (τ) ++ [])) 90 [(0, .ref (a 0)), (1, .ref (b 0)), (3, .ref (b 1)), (4, .int (x4)), (5, .int (x5)), (6, .int (x6)), (8, .int (x8))] [] := by
  intro κ σ τ x4 x5 x6 x8 hκ h
  unfold kQ_begins_90 at h
  refine r_iconst (pc := 90) C (v := (0 : Int32)) dL_begins_90 (by decide) ?_
  have K9 := bQ_begins_91 (e := e) (below := below) (a := a) (b := b) (n := n) hflag C hA hT hb hr hr19 hr48 κ (σ) (τ) (x4) (x5) (x6) (x8) ((0 : Int32)) (by omega) h
  exact r_lv [0, 1, 2, 3, 4, 5, 6] rfl K9
set_option maxHeartbeats 4000000 in
set_option maxRecDepth 20000 in
theorem bQ_begins_86 (hflag : l.stackTraces = false) (C : hv_C p s m args meth c cL_begins 13 wsL_begins RL D (hv_tys cy)) (hA : ∀ q, s.heap.size ≤ q → A q) (hT : hv_TA A s) (hb : b 0 = d0) (hr : meth.sig.returnType = (some (.object "PinFrameLaw$Told"))) {n : Nat} {o : hv_St × hv_St} {r19 : hv_St → hv_St → Int32 → Option (hv_St × hv_St)} {r48 : hv_St → hv_St → Int32 → Int32 → Int32 → Int32 → Int32 → Option (hv_St × hv_St)} {C19 : Nat} {C48 : Nat} (hr19 : ∀ (κ : Nat) (σ τ : hv_St) (x4 : Int32), κ + C19 ≤ 8 → r19 σ τ x4 = some o → hv_J p l e (headSpec wsL_begins rmQ_begins).room s m args below meth c 13 D A κ (12 * κ) (MQ below (lv_Q D (lv_N a cy d0 o) A) args s 8 (12 * 8) A) (hv_W 55 a (hv_XE a cy) (σ) ++ (hv_W 9 b (hv_TE b cy) (τ) ++ [])) 19 [(0, .ref (a 0)), (1, .ref (b 0)), (3, .ref (b 1)), (4, .int (x4))] []) (hr48 : ∀ (κ : Nat) (σ τ : hv_St) (x4 : Int32) (x5 : Int32) (x6 : Int32) (x7 : Int32) (x8 : Int32), κ + C48 ≤ 8 → r48 σ τ x4 x5 x6 x7 x8 = some o → hv_J p l e (headSpec wsL_begins rmQ_begins).room s m args below meth c 13 D A κ (12 * κ) (MQ below (lv_Q D (lv_N a cy d0 o) A) args s 8 (12 * 8) A) (hv_W 55 a (hv_XE a cy) (σ) ++ (hv_W 9 b (hv_TE b cy) (τ) ++ [])) 48 [(0, .ref (a 0)), (1, .ref (b 0)), (3, .ref (b 1)), (4, .int (x4)), (5, .int (x5)), (6, .int (x6)), (7, .int (x7)), (8, .int (x8))] []) : ∀ (κ : Nat) (σ τ : hv_St) (x4 : Int32) (x5 : Int32) (x6 : Int32) (x8 : Int32), κ + (0 + C48) ≤ 8 → kQ_begins_86 n r19 r48 σ τ x4 x5 x6 x8 = some o → hv_J p l e (headSpec wsL_begins rmQ_begins).room s m args below meth c 13 D A κ (12 * κ) (MQ below (lv_Q D (lv_N a cy d0 o) A) args s 8 (12 * 8) A) (hv_W 55 a (hv_XE a cy) (σ) ++ (hv_W 9 b (hv_TE b cy) (τ) ++ [])) 86 [(0, .ref (a 0)), (1, .ref (b 0)), (3, .ref (b 1)), (4, .int (x4)), (5, .int (x5)), (6, .int (x6)), (8, .int (x8))] [] := by
  intro κ σ τ x4 x5 x6 x8 hκ h
  unfold kQ_begins_86 at h
  refine r_iconst (pc := 86) C (v := (1 : Int32)) dL_begins_86 (by decide) ?_
  refine r_goto (pc := 87) C (tgt := 91) dL_begins_87 (by decide) ?_
  have K9 := bQ_begins_91 (e := e) (below := below) (a := a) (b := b) (n := n) hflag C hA hT hb hr hr19 hr48 κ (σ) (τ) (x4) (x5) (x6) (x8) ((1 : Int32)) (by omega) h
  exact r_lv [0, 1, 2, 3, 4, 5, 6] rfl K9
set_option maxHeartbeats 4000000 in
set_option maxRecDepth 20000 in
theorem bQ_begins_48 (hflag : l.stackTraces = false) (C : hv_C p s m args meth c cL_begins 13 wsL_begins RL D (hv_tys cy)) (hA : ∀ q, s.heap.size ≤ q → A q) (hT : hv_TA A s) (hb : b 0 = d0) (hr : meth.sig.returnType = (some (.object "PinFrameLaw$Told"))) {n : Nat} {o : hv_St × hv_St} {r19 : hv_St → hv_St → Int32 → Option (hv_St × hv_St)} {C19 : Nat} (hr19 : ∀ (κ : Nat) (σ τ : hv_St) (x4 : Int32), κ + C19 ≤ 8 → r19 σ τ x4 = some o → hv_J p l e (headSpec wsL_begins rmQ_begins).room s m args below meth c 13 D A κ (12 * κ) (MQ below (lv_Q D (lv_N a cy d0 o) A) args s 8 (12 * 8) A) (hv_W 55 a (hv_XE a cy) (σ) ++ (hv_W 9 b (hv_TE b cy) (τ) ++ [])) 19 [(0, .ref (a 0)), (1, .ref (b 0)), (3, .ref (b 1)), (4, .int (x4))] []) : ∀ (i κ : Nat) (σ τ : hv_St) (x4 : Int32) (x5 : Int32) (x6 : Int32) (x7 : Int32) (x8 : Int32), κ + ((0 + C19)) ≤ 8 → kQ_begins_48 n r19 i σ τ x4 x5 x6 x7 x8 = some o → hv_J p l e (headSpec wsL_begins rmQ_begins).room s m args below meth c 13 D A κ (12 * κ) (MQ below (lv_Q D (lv_N a cy d0 o) A) args s 8 (12 * 8) A) (hv_W 55 a (hv_XE a cy) (σ) ++ (hv_W 9 b (hv_TE b cy) (τ) ++ [])) 48 [(0, .ref (a 0)), (1, .ref (b 0)), (3, .ref (b 1)), (4, .int (x4)), (5, .int (x5)), (6, .int (x6)), (7, .int (x7)), (8, .int (x8))] [] := by
  intro i
  induction i with
  | zero =>
    intro κ σ τ x4 x5 x6 x7 x8 hκ h
    cases h
  | succ i ih =>
    intro κ σ τ x4 x5 x6 x7 x8 hκ h
    generalize hg : kQ_begins_48 n r19 i = r48 at ih
    have hr48 := ih
    replace h : kQ_begins_48_b n r19 r48 σ τ x4 x5 x6 x7 x8 = some o := by rw [← hg]; exact h
    unfold kQ_begins_48_b at h
    refine r_iload (pc := 48) C 7 dL_begins_48 rfl ?_
    refine r_aload_n (pc := 50) C 2 dL_begins_50 rfl rfl ?_
    refine rt_get_7 (pc := 51) C iL_begins_X9 (List.mem_of_getElem? (i := 18) rfl) dL_begins_51 ?_
    refine r_icmp_ge (pc := 54) (tgt := 99) C dL_begins_54 (by decide) (fun c54 => ?_) (fun c54 => ?_)
    · rw [if_pos c54] at h
      refine r_aload_n (pc := 99) C 0 dL_begins_99 rfl rfl ?_
      refine r_iload (pc := 100) C 4 dL_begins_100 rfl ?_
      refine r_iload (pc := 102) C 5 dL_begins_102 rfl ?_
      obtain ⟨r104, s104, hc104, h⟩ := hv_b2_some h
      refine r_callV0 (pc := 104) (τ := s104) (v := some (.int (r104))) (As := [.int (x5), .int (x6)]) (rest := []) C hA 0 (vX7_pin hc104) (cwV 2 C.1.2.2.2.2 gL_begins_X7_pin rfl rfl rfl (by decide +kernel) ⟨(Nat.le_of_ble_eq_true rfl), (Nat.le_of_ble_eq_true rfl)⟩) (Nat.le_of_ble_eq_true rfl) rfl rfl rfl rfl (Nat.le_of_ble_eq_true rfl) dL_begins_104 (lv_cl0 (MC := 8) (need := 0) (by omega)) ?_
      refine r_st (st' := [.int (r104)]) rfl ?_
      refine r_istore (pc := 107) C (lv' := [(8, .int (r104)), (0, .ref (a 0)), (1, .ref (b 0)), (3, .ref (b 1)), (4, .int (x4)), (5, .int (x5)), (6, .int (x6)), (7, .int (x7))]) rfl dL_begins_107 (Nat.le_of_ble_eq_true rfl) rfl ?_
      refine r_iload (pc := 109) C 0 dL_begins_109 rfl ?_
      refine r_iload (pc := 111) C 7 dL_begins_111 rfl ?_
      refine r_if_eq (pc := 113) (tgt := 123) C dL_begins_113 (by decide) (fun c113 => ?_) (fun c113 => ?_)
      · rw [if_pos c113] at h
        refine r_iconst (pc := 123) C (v := (-1 : Int32)) dL_begins_123 (by decide) ?_
        have K9 := bQ_begins_124 (e := e) (below := below) (a := a) (b := b) (n := n) hflag C hA hT hb hr hr19 κ (s104) (τ) (x4) (x5) (x6) (x7) (r104) ((-1 : Int32)) (r104) (by omega) h
        exact r_lv [1, 2, 3, 4, 5, 6, 7, 0] rfl K9
      · rw [if_neg c113] at h
        refine r_aload_n (pc := 116) C 3 dL_begins_116 rfl rfl ?_
        refine rt_get_7 (pc := 117) C iL_begins_X9 (List.mem_of_getElem? (i := 18) rfl) dL_begins_117 ?_
        refine r_goto (pc := 120) C (tgt := 124) dL_begins_120 (by decide) ?_
        have K9 := bQ_begins_124 (e := e) (below := below) (a := a) (b := b) (n := n) hflag C hA hT hb hr hr19 κ (s104) (τ) (x4) (x5) (x6) (x7) (r104) ((τ).1 1 7) (r104) (by omega) h
        exact r_lv [1, 2, 3, 4, 5, 6, 7, 0] rfl K9
    · rw [if_neg c54] at h
      refine r_iload (pc := 57) C 6 dL_begins_57 rfl ?_
      refine r_if_eq (pc := 59) (tgt := 90) C dL_begins_59 (by decide) (fun c59 => ?_) (fun c59 => ?_)
      · rw [if_pos c59] at h
        have K9 := bQ_begins_90 (e := e) (below := below) (a := a) (b := b) (n := n) hflag C hA hT hb hr hr19 hr48 κ (σ) (τ) (x4) (x5) (x6) (x8) (by omega) h
        exact r_lv [0, 1, 2, 3, 4, 5, 7] rfl K9
      · rw [if_neg c59] at h
        refine r_aload_n (pc := 62) C 2 dL_begins_62 rfl rfl ?_
        refine rt_get_0 (pc := 63) C iL_begins_X9 (List.mem_of_getElem? (i := 11) rfl) dL_begins_63 ?_
        refine r_iload (pc := 66) C 7 dL_begins_66 rfl ?_
        obtain ⟨k68, h⟩ := hv_if_some h
        refine rt_ld_2 (pc := 68) C k68 dL_begins_68 ?_
        refine r_iload (pc := 69) C 4 dL_begins_69 rfl ?_
        refine r_icmp_ne (pc := 71) (tgt := 86) C dL_begins_71 (by decide) (fun c71 => ?_) (fun c71 => ?_)
        · rw [if_neg c71] at h
          have K9 := bQ_begins_86 (e := e) (below := below) (a := a) (b := b) (n := n) hflag C hA hT hb hr hr19 hr48 κ (σ) (τ) (x4) (x5) (x6) (x8) (by omega) h
          exact r_lv [0, 1, 2, 3, 4, 5, 7] rfl K9
        · rw [if_pos c71] at h
          refine r_aload_n (pc := 74) C 2 dL_begins_74 rfl rfl ?_
          refine rt_get_1 (pc := 75) C iL_begins_X9 (List.mem_of_getElem? (i := 12) rfl) dL_begins_75 ?_
          refine r_iload (pc := 78) C 7 dL_begins_78 rfl ?_
          obtain ⟨k80, h⟩ := hv_if_some h
          refine rt_ld_3 (pc := 80) C k80 dL_begins_80 ?_
          refine r_iload (pc := 81) C 5 dL_begins_81 rfl ?_
          refine r_icmp_eq (pc := 83) (tgt := 90) C dL_begins_83 (by decide) (fun c83 => ?_) (fun c83 => ?_)
          · rw [if_pos c83] at h
            have K9 := bQ_begins_90 (e := e) (below := below) (a := a) (b := b) (n := n) hflag C hA hT hb hr hr19 hr48 κ (σ) (τ) (x4) (x5) (x6) (x8) (by omega) h
            exact r_lv [0, 1, 2, 3, 4, 5, 7] rfl K9
          · rw [if_neg c83] at h
            have K9 := bQ_begins_86 (e := e) (below := below) (a := a) (b := b) (n := n) hflag C hA hT hb hr hr19 hr48 κ (σ) (τ) (x4) (x5) (x6) (x8) (by omega) h
            exact r_lv [0, 1, 2, 3, 4, 5, 7] rfl K9
set_option maxHeartbeats 4000000 in
set_option maxRecDepth 20000 in
theorem bQ_begins_19 (hflag : l.stackTraces = false) (C : hv_C p s m args meth c cL_begins 13 wsL_begins RL D (hv_tys cy)) (hA : ∀ q, s.heap.size ≤ q → A q) (hT : hv_TA A s) (hb : b 0 = d0) (hr : meth.sig.returnType = (some (.object "PinFrameLaw$Told"))) {n : Nat} {o : hv_St × hv_St} : ∀ (i κ : Nat) (σ τ : hv_St) (x4 : Int32), κ + (0) ≤ 8 → kQ_begins_19 n i σ τ x4 = some o → hv_J p l e (headSpec wsL_begins rmQ_begins).room s m args below meth c 13 D A κ (12 * κ) (MQ below (lv_Q D (lv_N a cy d0 o) A) args s 8 (12 * 8) A) (hv_W 55 a (hv_XE a cy) (σ) ++ (hv_W 9 b (hv_TE b cy) (τ) ++ [])) 19 [(0, .ref (a 0)), (1, .ref (b 0)), (3, .ref (b 1)), (4, .int (x4))] [] := by
  intro i
  induction i with
  | zero =>
    intro κ σ τ x4 hκ h
    cases h
  | succ i ih =>
    intro κ σ τ x4 hκ h
    generalize hg : kQ_begins_19 n i = r19 at ih
    have hr19 := ih
    replace h : kQ_begins_19_b n r19 σ τ x4 = some o := by rw [← hg]; exact h
    unfold kQ_begins_19_b at h
    refine r_aload_n (pc := 19) C 2 dL_begins_19 rfl rfl ?_
    refine rt_get_7 (pc := 20) C iL_begins_X9 (List.mem_of_getElem? (i := 18) rfl) dL_begins_20 ?_
    refine r_iload (pc := 23) C 3 dL_begins_23 rfl ?_
    refine r_icmp_ge (pc := 25) (tgt := 165) C dL_begins_25 (by decide) (fun c25 => ?_) (fun c25 => ?_)
    · rw [if_pos c25] at h
      refine r_iconst (pc := 165) C (v := (2 : Int32)) dL_begins_165 (by decide) ?_
      refine r_iload (pc := 166) C 3 dL_begins_166 rfl ?_
      refine r_imul (pc := 168) C dL_begins_168 ?_
      obtain ⟨y5_169, ey5_169, h⟩ := hv_let_some h
      refine r_istore (pc := 169) C (lv' := [(5, .int (y5_169)), (0, .ref (a 0)), (1, .ref (b 0)), (3, .ref (b 1)), (4, .int (x4))]) ey5_169 dL_begins_169 (Nat.le_of_ble_eq_true rfl) rfl ?_
      refine r_iconst (pc := 171) C (v := (0 : Int32)) dL_begins_171 (by decide) ?_
      refine r_istore (pc := 172) C (lv' := [(6, .int ((0 : Int32))), (5, .int (y5_169)), (0, .ref (a 0)), (1, .ref (b 0)), (3, .ref (b 1)), (4, .int (x4))]) rfl dL_begins_172 (Nat.le_of_ble_eq_true rfl) rfl ?_
      have K9 := bQ_begins_174 (e := e) (below := below) (a := a) (b := b) (n := n) hflag C hA hT hb hr n κ (σ) (τ) (x4) (y5_169) ((0 : Int32)) (by omega) h
      exact r_lv [2, 3, 4, 5, 1, 0] rfl K9
    · rw [if_neg c25] at h
      refine r_aload_n (pc := 28) C 1 dL_begins_28 rfl rfl ?_
      refine r_iconst (pc := 29) C (v := (4 : Int32)) dL_begins_29 (by decide) ?_
      obtain ⟨r30, s30, hc30, h⟩ := hv_b2_some h
      refine r_callV (pc := 30) (τ := s30) (v := some (.int (r30))) (As := [.int ((4 : Int32))]) (rest := []) C hA 0 (vX8_next hc30) (cwV 1 C.1.2.2.2.2 gL_begins_X8_next rfl rfl rfl (by decide +kernel) ⟨(Nat.le_of_ble_eq_true rfl), (Nat.le_of_ble_eq_true rfl)⟩) (Nat.le_of_ble_eq_true rfl) rfl rfl rfl rfl (Nat.le_of_ble_eq_true rfl) dL_begins_30 (lv_cl0 (MC := 8) (need := 0) (by omega)) ?_
      refine r_st (st' := [.int (r30)]) rfl ?_
      refine r_istore (pc := 33) C (lv' := [(5, .int (r30)), (0, .ref (a 0)), (1, .ref (b 0)), (3, .ref (b 1)), (4, .int (x4))]) rfl dL_begins_33 (Nat.le_of_ble_eq_true rfl) rfl ?_
      refine r_aload_n (pc := 35) C 2 dL_begins_35 rfl rfl ?_
      refine r_iconst (pc := 36) C (v := (3 : Int32)) dL_begins_36 (by decide) ?_
      obtain ⟨r37, s37, hc37, h⟩ := hv_b2_some h
      refine r_callV (pc := 37) (τ := s37) (v := some (.int (r37))) (As := [.int ((3 : Int32))]) (rest := []) C hA 0 (vX8_next hc37) (cwV 1 C.1.2.2.2.2 gL_begins_X8_next rfl rfl rfl (by decide +kernel) ⟨(Nat.le_of_ble_eq_true rfl), (Nat.le_of_ble_eq_true rfl)⟩) (Nat.le_of_ble_eq_true rfl) rfl rfl rfl rfl (Nat.le_of_ble_eq_true rfl) dL_begins_37 (lv_cl0 (MC := 8) (need := 0) (by omega)) ?_
      refine r_st (st' := [.int (r37)]) rfl ?_
      refine r_istore (pc := 40) C (lv' := [(6, .int (r37)), (5, .int (r30)), (0, .ref (a 0)), (1, .ref (b 0)), (3, .ref (b 1)), (4, .int (x4))]) rfl dL_begins_40 (Nat.le_of_ble_eq_true rfl) rfl ?_
      refine r_iconst (pc := 42) C (v := (1 : Int32)) dL_begins_42 (by decide) ?_
      refine r_istore (pc := 43) C (lv' := [(7, .int ((1 : Int32))), (6, .int (r37)), (5, .int (r30)), (0, .ref (a 0)), (1, .ref (b 0)), (3, .ref (b 1)), (4, .int (x4))]) rfl dL_begins_43 (Nat.le_of_ble_eq_true rfl) rfl ?_
      refine r_iconst (pc := 45) C (v := (0 : Int32)) dL_begins_45 (by decide) ?_
      refine r_istore (pc := 46) C (lv' := [(8, .int ((0 : Int32))), (7, .int ((1 : Int32))), (6, .int (r37)), (5, .int (r30)), (0, .ref (a 0)), (1, .ref (b 0)), (3, .ref (b 1)), (4, .int (x4))]) rfl dL_begins_46 (Nat.le_of_ble_eq_true rfl) rfl ?_
      have K9 := bQ_begins_48 (e := e) (below := below) (a := a) (b := b) (n := n) hflag C hA hT hb hr hr19 n κ (σ) (s37) (x4) (r30) (r37) ((1 : Int32)) ((0 : Int32)) (by omega) h
      exact r_lv [4, 5, 6, 7, 3, 2, 1, 0] rfl K9
set_option maxHeartbeats 4000000 in
set_option maxRecDepth 20000 in
theorem bQ_begins_7 (hflag : l.stackTraces = false) (C : hv_C p s m args meth c cL_begins 13 wsL_begins RL D (hv_tys cy)) (hA : ∀ q, s.heap.size ≤ q → A q) (hT : hv_TA A s) (hb : b 0 = d0) (hr : meth.sig.returnType = (some (.object "PinFrameLaw$Told"))) {n : Nat} {o : hv_St × hv_St} : ∀ (κ : Nat) (σ τ : hv_St) (p2 : Int32), κ + 0 ≤ 8 → mQ_begins n σ τ p2 = some o → hv_J p l e (headSpec wsL_begins rmQ_begins).room s m args below meth c 13 D A κ (12 * κ) (MQ below (lv_Q D (lv_N a cy d0 o) A) args s 8 (12 * 8) A) (hv_W 55 a (hv_XE a cy) (σ) ++ (hv_W 9 b (hv_TE b cy) (τ) ++ [])) 7 [(0, .ref (a 0)), (1, .ref (b 0)), (2, .int (p2))] [.ref (b 1)] := by
  intro κ σ τ p2 hκ h
  unfold mQ_begins at h
  refine r_astore_n (pc := 7) C (lv' := [(3, .ref (b 1)), (0, .ref (a 0)), (1, .ref (b 0)), (2, .int (p2))]) rfl dL_begins_7 rfl (Nat.le_of_ble_eq_true rfl) rfl ?_
  refine r_iconst (pc := 8) C (v := (3 : Int32)) dL_begins_8 (by decide) ?_
  refine r_aload_n (pc := 9) C 2 dL_begins_9 rfl rfl ?_
  refine r_iload_n (pc := 10) C 3 dL_begins_10 rfl rfl ?_
  refine r_iconst (pc := 11) C (v := (2 : Int32)) dL_begins_11 (by decide) ?_
  refine r_isub (pc := 12) C dL_begins_12 ?_
  obtain ⟨r13, s13, hc13, h⟩ := hv_b2_some h
  refine r_callV (pc := 13) (τ := s13) (v := some (.int (r13))) (As := [.int ((p2) - ((2 : Int32)))]) (rest := [.int ((3 : Int32))]) C hA 0 (vX8_next hc13) (cwV 1 C.1.2.2.2.2 gL_begins_X8_next rfl rfl rfl (by decide +kernel) ⟨(Nat.le_of_ble_eq_true rfl), (Nat.le_of_ble_eq_true rfl)⟩) (Nat.le_of_ble_eq_true rfl) rfl rfl rfl rfl (Nat.le_of_ble_eq_true rfl) dL_begins_13 (lv_cl0 (MC := 8) (need := 0) (by omega)) ?_
  refine r_st (st' := [.int (r13), .int ((3 : Int32))]) rfl ?_
  refine r_iadd (pc := 16) C dL_begins_16 ?_
  obtain ⟨y4_17, ey4_17, h⟩ := hv_let_some h
  refine r_istore (pc := 17) C (lv' := [(4, .int (y4_17)), (3, .ref (b 1)), (0, .ref (a 0)), (1, .ref (b 0)), (2, .int (p2))]) ey4_17 dL_begins_17 (Nat.le_of_ble_eq_true rfl) rfl ?_
  have K9 := bQ_begins_19 (e := e) (below := below) (a := a) (b := b) (n := n) hflag C hA hT hb hr n κ (σ) (s13) (y4_17) (by omega) h
  exact r_lv [2, 3, 1, 0] rfl K9
def hv_b0 (d q : Nat) (u : Nat → Nat) : Nat → Nat := fun k => if k = 0 then d else if k = 1 then q else u (k - 2)
theorem hv_told0 (cy : ClassId × ClassId × ClassId × ClassId) (d q : Nat) (x : Int32) (u : Nat → Nat) : [(d, (.inr (8, [.int x]) : va_E))] ++ wX9_init cy q u = hv_W 9 (hv_b0 d q u) (hv_TE (hv_b0 d q u) cy) (hv_sI hv_0 0 0 x) := by
  rfl
set_option maxHeartbeats 4000000 in
set_option maxRecDepth 20000 in
theorem vQ_begins (hflag : l.stackTraces = false) {n : Nat} {σ : hv_St} {x p2 : Int32} {o : hv_St × hv_St} (h : mQ_begins n σ (hv_sI hv_0 0 0 x) p2 = some o) : lv_M l yL_begins wsL_begins rmQ_begins D cy 8 (12 * 8) [.ref (a 0), .ref d0, .int p2] (hv_W 55 a (hv_XE a cy) σ ++ [(d0, .inr (8, [.int x]))]) (lv_N a cy d0 o) := by
  refine lv_enter (own := RL) (cc := cL_begins) (maxL := 13) (ret := (some (.object "PinFrameLaw$Told"))) (by decide) rfl rfl (Nat.le_of_ble_eq_true rfl) ?_
  intro p e s m args below meth c A C hA hT hr
  refine j_new (pc := 0) (T := TX9) (ty0 := tyX9) (ci := 9) (fs := [.null, .null, .null, .null, .null, .null, .null, .int 0, .int 0, .int 0]) ⟨C, hA, hT.2⟩ iL_begins_X9 tyX9_ok qL_begins_C38 qL_begins_NX9 qL_begins_SX9 rfl (fun j hj => match j, hj with | 0, _ => rfl | 1, _ => rfl | 2, _ => rfl | 3, _ => rfl | 4, _ => rfl | 5, _ => rfl | 6, _ => rfl | 7, _ => rfl | 8, _ => rfl | 9, _ => rfl | j + 10, hj => absurd hj (by omega)) (Nat.le_of_ble_eq_true rfl) (Nat.le_of_ble_eq_true rfl) dL_begins_0 (fun q => ?_)
  refine r_dup (pc := 3) C dL_begins_3 rfl ?_
  refine r_iniN (pc := 4) (As := []) (rest := [.ref q]) C hA hT vX9_init ⟨va_cnB 0 C.1.2.2.2.2 gL_begins_X9_init_n40 rfl rfl rfl (C.2.1.2 _ (List.mem_of_getElem? (i := 10) rfl)) (C.1.2.2.2.2 _ qL_begins_SX9) (by decide +kernel) ⟨(Nat.le_of_ble_eq_true rfl), (Nat.le_of_ble_eq_true rfl)⟩, rfl, C.1.2.2.2.2 _ qL_begins_IX9⟩ rfl rfl (Nat.le_of_ble_eq_true rfl) dL_begins_4 ⟨(Nat.le_of_ble_eq_true rfl), (Nat.le_of_ble_eq_true rfl)⟩ (fun u => ?_)
  refine r_ws (ws' := hv_W 55 a (hv_XE a cy) σ ++ (hv_W 9 (hv_b0 d0 q u) (hv_TE (hv_b0 d0 q u) cy) (hv_sI hv_0 0 0 x) ++ [])) (by rw [List.append_nil, ← hv_told0, List.append_assoc]) ?_
  refine r_wide (k := 8) (n := 12 * 8) (by decide) (by decide) ?_
  exact r_lv [0, 1, 2] rfl (bQ_begins_7 (b := hv_b0 d0 q u) hflag C hA hT rfl hr 8 σ (hv_sI hv_0 0 0 x) p2 (by decide) h)
end
