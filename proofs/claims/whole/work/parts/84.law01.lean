/-! the law walked, 1 -/
section
variable {p : Program} {l : Launch} {e : Env} {s : State} {m : MethodId} {below : List Frame} {meth : Method} {c : Code} {D : va_G} {a : Nat → Nat} {cy : ClassId × ClassId × ClassId × ClassId} {b L : Nat} {xs : Nat → Int32} {cells slots : Nat}
set_option maxHeartbeats 4000000 in
set_option maxRecDepth 20000 in
theorem bL_law_1339 (hflag : l.stackTraces = false) (CL : hv_CL p s m meth c D cy a b L xs) (hcl : cells + 2 ≤ room_1.cells ∧ slots + 12 ≤ room_1.slots) {n : Nat} {r23 : hv_St → Int32 → Option Unit} (hr23 : ∀ (σ : hv_St) (x4 : Int32), r23 σ x4 = some () → hv_G p l e room_1 s m #[Value.ref b] below meth c 8 D 79 a (hv_LE a cy) (cells + 2) (slots + 12) (lw_Z below #[Value.ref b] s) σ 23 [(0, .ref b), (1, .ref (a 0)), (2, .ref (a 56)), (3, .ref (a 55)), (4, .int (x4))] []) : ∀ (σ : hv_St) (x4 : Int32), kL_law_1339 n L xs r23 σ x4 = some () → hv_G p l e room_1 s m #[Value.ref b] below meth c 8 D 79 a (hv_LE a cy) (cells + 2) (slots + 12) (lw_Z below #[Value.ref b] s) σ 1339 [(0, .ref b), (1, .ref (a 0)), (2, .ref (a 56)), (3, .ref (a 55)), (4, .int (x4))] [] := by
  intro σ x4 h
  have C := CL.1
  unfold kL_law_1339 at h
  refine g_goto (pc := 1339) C (tgt := 1699) dL_law_1339 (by decide) ?_
  exact g_lv [0, 1, 2, 3, 4] rfl (bL_law_1699 hflag CL hcl hr23 σ (x4) h)
set_option maxHeartbeats 4000000 in
set_option maxRecDepth 20000 in
theorem bL_law_1307 (hflag : l.stackTraces = false) (CL : hv_CL p s m meth c D cy a b L xs) (hcl : cells + 2 ≤ room_1.cells ∧ slots + 12 ≤ room_1.slots) {n : Nat} {r23 : hv_St → Int32 → Option Unit} (hr23 : ∀ (σ : hv_St) (x4 : Int32), r23 σ x4 = some () → hv_G p l e room_1 s m #[Value.ref b] below meth c 8 D 79 a (hv_LE a cy) (cells + 2) (slots + 12) (lw_Z below #[Value.ref b] s) σ 23 [(0, .ref b), (1, .ref (a 0)), (2, .ref (a 56)), (3, .ref (a 55)), (4, .int (x4))] []) : ∀ (σ : hv_St) (x4 : Int32) (x5 : Int32) (z0 : Int32) (z1 : Int32) (z2 : Int32), kL_law_1307 n L xs r23 σ x4 x5 z0 z1 z2 = some () → hv_G p l e room_1 s m #[Value.ref b] below meth c 8 D 79 a (hv_LE a cy) (cells + 2) (slots + 12) (lw_Z below #[Value.ref b] s) σ 1307 [(0, .ref b), (1, .ref (a 0)), (2, .ref (a 56)), (3, .ref (a 55)), (4, .int (x4)), (5, .int (x5))] [.int (z0), .int (z1), .int (z2), .ref (a 56)] := by
  intro σ x4 x5 z0 z1 z2 h
  have C := CL.1
  unfold kL_law_1307 at h
  obtain ⟨r1307, t1307, hc1307, h⟩ := hv_b2_some h
  refine g_subV (pc := 1307) (cells := cells + 2) (slots := slots + 12) (o := 56) (X2 := hv_ME (fun i => a (i + 56)) cy) (n := 23) (τ := t1307) (v := some (.long (r1307))) (As := [.int (z2), .int (z1), .int (z0)]) (rest := []) C 0 (hv_LE_M a cy) (Nat.le_of_ble_eq_true rfl) (vX8_cut (a := fun i => a (i + 56)) hc1307) (cwV 3 C.1.2.2.2.2 gL_law_X8_cut rfl rfl rfl (by decide +kernel) ⟨Nat.le_of_ble_eq_true rfl, Nat.le_of_ble_eq_true rfl⟩) (Nat.le_of_ble_eq_true rfl) rfl rfl rfl rfl (Nat.le_of_ble_eq_true rfl) dL_law_1307 (hv_cl 2 hcl (by decide)) ?_
  refine g_st (st' := [.long (r1307)]) rfl ?_
  refine g_lstore (pc := 1310) C (lv' := [(6, .long (r1307)), (0, .ref b), (1, .ref (a 0)), (2, .ref (a 56)), (3, .ref (a 55)), (4, .int (x4)), (5, .int (x5))]) rfl dL_law_1310 (Nat.le_of_ble_eq_true rfl) rfl ?_
  refine g_aload_n (pc := 1312) C 3 dL_law_1312 rfl rfl ?_
  obtain ⟨r1313, t1313, hc1313, h⟩ := hv_b2_some h
  refine g_subV (pc := 1313) (cells := cells + 2) (slots := slots + 12) (o := 56) (X2 := hv_ME (fun i => a (i + 56)) cy) (n := 23) (τ := t1313) (v := some (.int (r1313))) (As := []) (rest := []) C 0 (hv_LE_M a cy) (Nat.le_of_ble_eq_true rfl) (vX8_thrown (a := fun i => a (i + 56)) hc1313) (cwV 0 C.1.2.2.2.2 gL_law_X8_thrown rfl rfl rfl (by decide +kernel) ⟨Nat.le_of_ble_eq_true rfl, Nat.le_of_ble_eq_true rfl⟩) (Nat.le_of_ble_eq_true rfl) rfl rfl rfl rfl (Nat.le_of_ble_eq_true rfl) dL_law_1313 (hv_cl 2 hcl (by decide)) ?_
  refine g_st (st' := [.int (r1313)]) rfl ?_
  refine g_iload (pc := 1316) C 6 dL_law_1316 rfl ?_
  refine g_icmp_eq (pc := 1318) (tgt := 1323) C dL_law_1318 (by decide) (fun c1318 => ?_) (fun c1318 => ?_)
  · rw [if_pos c1318] at h
    refine g_iload (pc := 1323) C 6 dL_law_1323 rfl ?_
    refine g_if_ne (pc := 1325) (tgt := 1339) C dL_law_1325 (by decide) (fun c1325 => ?_) (fun c1325 => ?_)
    · rw [if_neg c1325] at h
      exact g_lv [1, 2, 3, 4, 5] rfl (bL_law_1339 hflag CL hcl hr23 (hv_mg 56 23 ((hv_mg 56 23 (σ) t1307)) t1313) (x4) h)
    · rw [if_pos c1325] at h
      refine g_aload_n (pc := 1328) C 4 dL_law_1328 rfl rfl ?_
      refine g_iconst (pc := 1329) C (v := (0 : Int32)) dL_law_1329 (by decide) ?_
      refine g_lald (pc := 1330) C 55 1 (cA := cy.2.1) (n := 1) (Nat.le_of_ble_eq_true rfl) rfl rfl (by decide) dL_law_1330 ?_
      refine g_lload (pc := 1331) C 0 dL_law_1331 rfl ?_
      refine g_lcmp (pc := 1333) C dL_law_1333 ?_
      refine g_if_eq (pc := 1334) (tgt := 1339) C dL_law_1334 (by decide) (fun c1334 => ?_) (fun c1334 => ?_)
      · rw [if_pos c1334] at h
        exact g_lv [1, 2, 3, 4, 5] rfl (bL_law_1339 hflag CL hcl hr23 (hv_mg 56 23 ((hv_mg 56 23 (σ) t1307)) t1313) (x4) h)
      · rw [if_neg c1334] at h
        cases h
  · rw [if_neg c1318] at h
    cases h
set_option maxHeartbeats 4000000 in
set_option maxRecDepth 20000 in
theorem bL_law_1274 (hflag : l.stackTraces = false) (CL : hv_CL p s m meth c D cy a b L xs) (hcl : cells + 2 ≤ room_1.cells ∧ slots + 12 ≤ room_1.slots) {n : Nat} {r23 : hv_St → Int32 → Option Unit} (hr23 : ∀ (σ : hv_St) (x4 : Int32), r23 σ x4 = some () → hv_G p l e room_1 s m #[Value.ref b] below meth c 8 D 79 a (hv_LE a cy) (cells + 2) (slots + 12) (lw_Z below #[Value.ref b] s) σ 23 [(0, .ref b), (1, .ref (a 0)), (2, .ref (a 56)), (3, .ref (a 55)), (4, .int (x4))] []) : ∀ (σ : hv_St) (x4 : Int32) (z0 : Int32) (z1 : Int32) (z2 : Int32), kL_law_1274 n L xs r23 σ x4 z0 z1 z2 = some () → hv_G p l e room_1 s m #[Value.ref b] below meth c 8 D 79 a (hv_LE a cy) cells slots (lw_Z below #[Value.ref b] s) σ 1274 [(0, .ref b), (1, .ref (a 0)), (2, .ref (a 56)), (3, .ref (a 55)), (4, .int (x4))] [.int (z0), .int (z1), .int (z2), .ref (a 0)] := by
  intro σ x4 z0 z1 z2 h
  have C := CL.1
  unfold kL_law_1274 at h
  refine g_aload_n (pc := 1274) C 3 dL_law_1274 rfl rfl ?_
  obtain ⟨r1275, t1275, hc1275, h⟩ := hv_b2_some h
  refine g_callW (pc := 1275) (cells := cells) (slots := slots) (X2 := hv_XO (fun i => a (i + 0)) cy) (n := 56) (τ := t1275) (v := some (.int (r1275))) (As := [.ref (a 0), .int (z2), .int (z1), .int (z0), .ref (a 55)]) (rest := []) C CL.2.1 (hv_LE_O a cy) (Nat.le_of_ble_eq_true rfl) (vL_cut (a := fun i => a (i + 0)) hflag hc1275) (vx_cwSW 5 C.1.2.2.2.2 gL_law_L_cut rfl rfl rfl (by decide +kernel) ⟨Nat.le_of_ble_eq_true rfl, Nat.le_of_ble_eq_true rfl⟩) rfl rfl (Nat.le_of_ble_eq_true rfl) dL_law_1275 (hv_cl 2 hcl (by decide)) ?_
  refine g_st (st' := [.int (r1275)]) rfl ?_
  refine g_istore (pc := 1278) C (lv' := [(5, .int (r1275)), (0, .ref b), (1, .ref (a 0)), (2, .ref (a 56)), (3, .ref (a 55)), (4, .int (x4))]) rfl dL_law_1278 (Nat.le_of_ble_eq_true rfl) rfl ?_
  refine g_aload_n (pc := 1280) C 3 dL_law_1280 rfl rfl ?_
  refine g_aload_n (pc := 1281) C 1 dL_law_1281 rfl rfl ?_
  refine g_iload (pc := 1282) C 5 dL_law_1282 rfl ?_
  refine g_iconst (pc := 1284) C (v := (1 : Int32)) dL_law_1284 (by decide) ?_
  refine g_iadd (pc := 1285) C dL_law_1285 ?_
  obtain ⟨k1286, h⟩ := hv_if_some h
  refine g_sld (pc := 1286) CL k1286 dL_law_1286 ?_
  refine g_aload_n (pc := 1287) C 1 dL_law_1287 rfl rfl ?_
  refine g_iload (pc := 1288) C 5 dL_law_1288 rfl ?_
  refine g_iconst (pc := 1290) C (v := (2 : Int32)) dL_law_1290 (by decide) ?_
  refine g_iadd (pc := 1291) C dL_law_1291 ?_
  obtain ⟨k1292, h⟩ := hv_if_some h
  refine g_sld (pc := 1292) CL k1292 dL_law_1292 ?_
  refine g_aload_n (pc := 1293) C 1 dL_law_1293 rfl rfl ?_
  refine g_iload (pc := 1294) C 5 dL_law_1294 rfl ?_
  refine g_iconst (pc := 1296) C (v := (3 : Int32)) dL_law_1296 (by decide) ?_
  refine g_iadd (pc := 1297) C dL_law_1297 ?_
  obtain ⟨k1298, h⟩ := hv_if_some h
  refine g_sld (pc := 1298) CL k1298 dL_law_1298 ?_
  refine g_if_eq (pc := 1299) (tgt := 1306) C dL_law_1299 (by decide) (fun c1299 => ?_) (fun c1299 => ?_)
  · rw [if_pos c1299] at h
    refine g_iconst (pc := 1306) C (v := (0 : Int32)) dL_law_1306 (by decide) ?_
    exact g_lv [1, 2, 3, 4, 5, 0] rfl (bL_law_1307 hflag CL hcl hr23 (hv_mg 0 56 (σ) t1275) (x4) (r1275) ((0 : Int32)) (xs ((x4) + ((2 : Int32))).toNatClampNeg) (xs ((x4) + ((1 : Int32))).toNatClampNeg) h)
  · rw [if_neg c1299] at h
    refine g_iconst (pc := 1302) C (v := (1 : Int32)) dL_law_1302 (by decide) ?_
    refine g_goto (pc := 1303) C (tgt := 1307) dL_law_1303 (by decide) ?_
    exact g_lv [1, 2, 3, 4, 5, 0] rfl (bL_law_1307 hflag CL hcl hr23 (hv_mg 0 56 (σ) t1275) (x4) (r1275) ((1 : Int32)) (xs ((x4) + ((2 : Int32))).toNatClampNeg) (xs ((x4) + ((1 : Int32))).toNatClampNeg) h)
set_option maxHeartbeats 4000000 in
set_option maxRecDepth 20000 in
theorem bL_law_1247 (hflag : l.stackTraces = false) (CL : hv_CL p s m meth c D cy a b L xs) (hcl : cells + 2 ≤ room_1.cells ∧ slots + 12 ≤ room_1.slots) {n : Nat} {r23 : hv_St → Int32 → Option Unit} (hr23 : ∀ (σ : hv_St) (x4 : Int32), r23 σ x4 = some () → hv_G p l e room_1 s m #[Value.ref b] below meth c 8 D 79 a (hv_LE a cy) (cells + 2) (slots + 12) (lw_Z below #[Value.ref b] s) σ 23 [(0, .ref b), (1, .ref (a 0)), (2, .ref (a 56)), (3, .ref (a 55)), (4, .int (x4))] []) : ∀ (σ : hv_St) (x4 : Int32), kL_law_1247 n L xs r23 σ x4 = some () → hv_G p l e room_1 s m #[Value.ref b] below meth c 8 D 79 a (hv_LE a cy) cells slots (lw_Z below #[Value.ref b] s) σ 1247 [(0, .ref b), (1, .ref (a 0)), (2, .ref (a 56)), (3, .ref (a 55)), (4, .int (x4))] [] := by
  intro σ x4 h
  have C := CL.1
  unfold kL_law_1247 at h
  refine g_aload_n (pc := 1247) C 1 dL_law_1247 rfl rfl ?_
  refine g_aload_n (pc := 1248) C 0 dL_law_1248 rfl rfl ?_
  refine g_iload (pc := 1249) C 4 dL_law_1249 rfl ?_
  refine g_iconst (pc := 1251) C (v := (1 : Int32)) dL_law_1251 (by decide) ?_
  refine g_iadd (pc := 1252) C dL_law_1252 ?_
  obtain ⟨k1253, h⟩ := hv_if_some h
  refine g_sld (pc := 1253) CL k1253 dL_law_1253 ?_
  refine g_aload_n (pc := 1254) C 0 dL_law_1254 rfl rfl ?_
  refine g_iload (pc := 1255) C 4 dL_law_1255 rfl ?_
  refine g_iconst (pc := 1257) C (v := (2 : Int32)) dL_law_1257 (by decide) ?_
  refine g_iadd (pc := 1258) C dL_law_1258 ?_
  obtain ⟨k1259, h⟩ := hv_if_some h
  refine g_sld (pc := 1259) CL k1259 dL_law_1259 ?_
  refine g_aload_n (pc := 1260) C 0 dL_law_1260 rfl rfl ?_
  refine g_iload (pc := 1261) C 4 dL_law_1261 rfl ?_
  refine g_iconst (pc := 1263) C (v := (3 : Int32)) dL_law_1263 (by decide) ?_
  refine g_iadd (pc := 1264) C dL_law_1264 ?_
  obtain ⟨k1265, h⟩ := hv_if_some h
  refine g_sld (pc := 1265) CL k1265 dL_law_1265 ?_
  refine g_if_eq (pc := 1266) (tgt := 1273) C dL_law_1266 (by decide) (fun c1266 => ?_) (fun c1266 => ?_)
  · rw [if_pos c1266] at h
    refine g_iconst (pc := 1273) C (v := (0 : Int32)) dL_law_1273 (by decide) ?_
    exact g_lv [0, 1, 2, 3, 4] rfl (bL_law_1274 hflag CL hcl hr23 σ (x4) ((0 : Int32)) (xs ((x4) + ((2 : Int32))).toNatClampNeg) (xs ((x4) + ((1 : Int32))).toNatClampNeg) h)
  · rw [if_neg c1266] at h
    refine g_iconst (pc := 1269) C (v := (1 : Int32)) dL_law_1269 (by decide) ?_
    refine g_goto (pc := 1270) C (tgt := 1274) dL_law_1270 (by decide) ?_
    exact g_lv [0, 1, 2, 3, 4] rfl (bL_law_1274 hflag CL hcl hr23 σ (x4) ((1 : Int32)) (xs ((x4) + ((2 : Int32))).toNatClampNeg) (xs ((x4) + ((1 : Int32))).toNatClampNeg) h)
set_option maxHeartbeats 4000000 in
set_option maxRecDepth 20000 in
theorem bL_law_1244 (hflag : l.stackTraces = false) (CL : hv_CL p s m meth c D cy a b L xs) (hcl : cells + 2 ≤ room_1.cells ∧ slots + 12 ≤ room_1.slots) {n : Nat} {r23 : hv_St → Int32 → Option Unit} (hr23 : ∀ (σ : hv_St) (x4 : Int32), r23 σ x4 = some () → hv_G p l e room_1 s m #[Value.ref b] below meth c 8 D 79 a (hv_LE a cy) (cells + 2) (slots + 12) (lw_Z below #[Value.ref b] s) σ 23 [(0, .ref b), (1, .ref (a 0)), (2, .ref (a 56)), (3, .ref (a 55)), (4, .int (x4))] []) : ∀ (σ : hv_St) (x4 : Int32), kL_law_1244 n L xs r23 σ x4 = some () → hv_G p l e room_1 s m #[Value.ref b] below meth c 8 D 79 a (hv_LE a cy) (cells + 2) (slots + 12) (lw_Z below #[Value.ref b] s) σ 1244 [(0, .ref b), (1, .ref (a 0)), (2, .ref (a 56)), (3, .ref (a 55)), (4, .int (x4))] [] := by
  intro σ x4 h
  have C := CL.1
  unfold kL_law_1244 at h
  refine g_goto (pc := 1244) C (tgt := 1699) dL_law_1244 (by decide) ?_
  exact g_lv [0, 1, 2, 3, 4] rfl (bL_law_1699 hflag CL hcl hr23 σ (x4) h)
set_option maxHeartbeats 4000000 in
set_option maxRecDepth 20000 in
theorem bL_law_1212 (hflag : l.stackTraces = false) (CL : hv_CL p s m meth c D cy a b L xs) (hcl : cells + 2 ≤ room_1.cells ∧ slots + 12 ≤ room_1.slots) {n : Nat} {r23 : hv_St → Int32 → Option Unit} (hr23 : ∀ (σ : hv_St) (x4 : Int32), r23 σ x4 = some () → hv_G p l e room_1 s m #[Value.ref b] below meth c 8 D 79 a (hv_LE a cy) (cells + 2) (slots + 12) (lw_Z below #[Value.ref b] s) σ 23 [(0, .ref b), (1, .ref (a 0)), (2, .ref (a 56)), (3, .ref (a 55)), (4, .int (x4))] []) : ∀ (σ : hv_St) (x4 : Int32) (x5 : Int32) (z0 : Int32) (z1 : Int32) (z2 : Int32) (z3 : Int32), kL_law_1212 n L xs r23 σ x4 x5 z0 z1 z2 z3 = some () → hv_G p l e room_1 s m #[Value.ref b] below meth c 8 D 79 a (hv_LE a cy) (cells + 2) (slots + 12) (lw_Z below #[Value.ref b] s) σ 1212 [(0, .ref b), (1, .ref (a 0)), (2, .ref (a 56)), (3, .ref (a 55)), (4, .int (x4)), (5, .int (x5))] [.int (z0), .int (z1), .int (z2), .int (z3), .ref (a 56)] := by
  intro σ x4 x5 z0 z1 z2 z3 h
  have C := CL.1
  unfold kL_law_1212 at h
  obtain ⟨r1212, t1212, hc1212, h⟩ := hv_b2_some h
  refine g_subV (pc := 1212) (cells := cells + 2) (slots := slots + 12) (o := 56) (X2 := hv_ME (fun i => a (i + 56)) cy) (n := 23) (τ := t1212) (v := some (.long (r1212))) (As := [.int (z3), .int (z2), .int (z1), .int (z0)]) (rest := []) C 0 (hv_LE_M a cy) (Nat.le_of_ble_eq_true rfl) (vX8_influence (a := fun i => a (i + 56)) hc1212) (cwV 4 C.1.2.2.2.2 gL_law_X8_influence rfl rfl rfl (by decide +kernel) ⟨Nat.le_of_ble_eq_true rfl, Nat.le_of_ble_eq_true rfl⟩) (Nat.le_of_ble_eq_true rfl) rfl rfl rfl rfl (Nat.le_of_ble_eq_true rfl) dL_law_1212 (hv_cl 2 hcl (by decide)) ?_
  refine g_st (st' := [.long (r1212)]) rfl ?_
  refine g_lstore (pc := 1215) C (lv' := [(6, .long (r1212)), (0, .ref b), (1, .ref (a 0)), (2, .ref (a 56)), (3, .ref (a 55)), (4, .int (x4)), (5, .int (x5))]) rfl dL_law_1215 (Nat.le_of_ble_eq_true rfl) rfl ?_
  refine g_aload_n (pc := 1217) C 3 dL_law_1217 rfl rfl ?_
  obtain ⟨r1218, t1218, hc1218, h⟩ := hv_b2_some h
  refine g_subV (pc := 1218) (cells := cells + 2) (slots := slots + 12) (o := 56) (X2 := hv_ME (fun i => a (i + 56)) cy) (n := 23) (τ := t1218) (v := some (.int (r1218))) (As := []) (rest := []) C 0 (hv_LE_M a cy) (Nat.le_of_ble_eq_true rfl) (vX8_thrown (a := fun i => a (i + 56)) hc1218) (cwV 0 C.1.2.2.2.2 gL_law_X8_thrown rfl rfl rfl (by decide +kernel) ⟨Nat.le_of_ble_eq_true rfl, Nat.le_of_ble_eq_true rfl⟩) (Nat.le_of_ble_eq_true rfl) rfl rfl rfl rfl (Nat.le_of_ble_eq_true rfl) dL_law_1218 (hv_cl 2 hcl (by decide)) ?_
  refine g_st (st' := [.int (r1218)]) rfl ?_
  refine g_iload (pc := 1221) C 6 dL_law_1221 rfl ?_
  refine g_icmp_eq (pc := 1223) (tgt := 1228) C dL_law_1223 (by decide) (fun c1223 => ?_) (fun c1223 => ?_)
  · rw [if_pos c1223] at h
    refine g_iload (pc := 1228) C 6 dL_law_1228 rfl ?_
    refine g_if_ne (pc := 1230) (tgt := 1244) C dL_law_1230 (by decide) (fun c1230 => ?_) (fun c1230 => ?_)
    · rw [if_neg c1230] at h
      exact g_lv [1, 2, 3, 4, 5] rfl (bL_law_1244 hflag CL hcl hr23 (hv_mg 56 23 ((hv_mg 56 23 (σ) t1212)) t1218) (x4) h)
    · rw [if_pos c1230] at h
      refine g_aload_n (pc := 1233) C 4 dL_law_1233 rfl rfl ?_
      refine g_iconst (pc := 1234) C (v := (0 : Int32)) dL_law_1234 (by decide) ?_
      refine g_lald (pc := 1235) C 55 1 (cA := cy.2.1) (n := 1) (Nat.le_of_ble_eq_true rfl) rfl rfl (by decide) dL_law_1235 ?_
      refine g_lload (pc := 1236) C 0 dL_law_1236 rfl ?_
      refine g_lcmp (pc := 1238) C dL_law_1238 ?_
      refine g_if_eq (pc := 1239) (tgt := 1244) C dL_law_1239 (by decide) (fun c1239 => ?_) (fun c1239 => ?_)
      · rw [if_pos c1239] at h
        exact g_lv [1, 2, 3, 4, 5] rfl (bL_law_1244 hflag CL hcl hr23 (hv_mg 56 23 ((hv_mg 56 23 (σ) t1212)) t1218) (x4) h)
      · rw [if_neg c1239] at h
        cases h
  · rw [if_neg c1223] at h
    cases h
set_option maxHeartbeats 4000000 in
set_option maxRecDepth 20000 in
theorem bL_law_1173 (hflag : l.stackTraces = false) (CL : hv_CL p s m meth c D cy a b L xs) (hcl : cells + 2 ≤ room_1.cells ∧ slots + 12 ≤ room_1.slots) {n : Nat} {r23 : hv_St → Int32 → Option Unit} (hr23 : ∀ (σ : hv_St) (x4 : Int32), r23 σ x4 = some () → hv_G p l e room_1 s m #[Value.ref b] below meth c 8 D 79 a (hv_LE a cy) (cells + 2) (slots + 12) (lw_Z below #[Value.ref b] s) σ 23 [(0, .ref b), (1, .ref (a 0)), (2, .ref (a 56)), (3, .ref (a 55)), (4, .int (x4))] []) : ∀ (σ : hv_St) (x4 : Int32) (z0 : Int32) (z1 : Int32) (z2 : Int32) (z3 : Int32), kL_law_1173 n L xs r23 σ x4 z0 z1 z2 z3 = some () → hv_G p l e room_1 s m #[Value.ref b] below meth c 8 D 79 a (hv_LE a cy) cells slots (lw_Z below #[Value.ref b] s) σ 1173 [(0, .ref b), (1, .ref (a 0)), (2, .ref (a 56)), (3, .ref (a 55)), (4, .int (x4))] [.int (z0), .int (z1), .int (z2), .int (z3), .ref (a 0)] := by
  intro σ x4 z0 z1 z2 z3 h
  have C := CL.1
  unfold kL_law_1173 at h
  refine g_aload_n (pc := 1173) C 3 dL_law_1173 rfl rfl ?_
  obtain ⟨r1174, t1174, hc1174, h⟩ := hv_b2_some h
  refine g_callW (pc := 1174) (cells := cells) (slots := slots) (X2 := hv_XO (fun i => a (i + 0)) cy) (n := 56) (τ := t1174) (v := some (.int (r1174))) (As := [.ref (a 0), .int (z3), .int (z2), .int (z1), .int (z0), .ref (a 55)]) (rest := []) C CL.2.1 (hv_LE_O a cy) (Nat.le_of_ble_eq_true rfl) (vL_influence (a := fun i => a (i + 0)) hflag hc1174) (vx_cwSW 6 C.1.2.2.2.2 gL_law_L_influence rfl rfl rfl (by decide +kernel) ⟨Nat.le_of_ble_eq_true rfl, Nat.le_of_ble_eq_true rfl⟩) rfl rfl (Nat.le_of_ble_eq_true rfl) dL_law_1174 (hv_cl 2 hcl (by decide)) ?_
  refine g_st (st' := [.int (r1174)]) rfl ?_
  refine g_istore (pc := 1177) C (lv' := [(5, .int (r1174)), (0, .ref b), (1, .ref (a 0)), (2, .ref (a 56)), (3, .ref (a 55)), (4, .int (x4))]) rfl dL_law_1177 (Nat.le_of_ble_eq_true rfl) rfl ?_
  refine g_aload_n (pc := 1179) C 3 dL_law_1179 rfl rfl ?_
  refine g_aload_n (pc := 1180) C 1 dL_law_1180 rfl rfl ?_
  refine g_iload (pc := 1181) C 5 dL_law_1181 rfl ?_
  refine g_iconst (pc := 1183) C (v := (1 : Int32)) dL_law_1183 (by decide) ?_
  refine g_iadd (pc := 1184) C dL_law_1184 ?_
  obtain ⟨k1185, h⟩ := hv_if_some h
  refine g_sld (pc := 1185) CL k1185 dL_law_1185 ?_
  refine g_aload_n (pc := 1186) C 1 dL_law_1186 rfl rfl ?_
  refine g_iload (pc := 1187) C 5 dL_law_1187 rfl ?_
  refine g_iconst (pc := 1189) C (v := (2 : Int32)) dL_law_1189 (by decide) ?_
  refine g_iadd (pc := 1190) C dL_law_1190 ?_
  obtain ⟨k1191, h⟩ := hv_if_some h
  refine g_sld (pc := 1191) CL k1191 dL_law_1191 ?_
  refine g_aload_n (pc := 1192) C 1 dL_law_1192 rfl rfl ?_
  refine g_iload (pc := 1193) C 5 dL_law_1193 rfl ?_
  refine g_iconst (pc := 1195) C (v := (3 : Int32)) dL_law_1195 (by decide) ?_
  refine g_iadd (pc := 1196) C dL_law_1196 ?_
  obtain ⟨k1197, h⟩ := hv_if_some h
  refine g_sld (pc := 1197) CL k1197 dL_law_1197 ?_
  refine g_aload_n (pc := 1198) C 1 dL_law_1198 rfl rfl ?_
  refine g_iload (pc := 1199) C 5 dL_law_1199 rfl ?_
  refine g_iconst (pc := 1201) C (v := (4 : Int32)) dL_law_1201 (by decide) ?_
  refine g_iadd (pc := 1202) C dL_law_1202 ?_
  obtain ⟨k1203, h⟩ := hv_if_some h
  refine g_sld (pc := 1203) CL k1203 dL_law_1203 ?_
  refine g_if_eq (pc := 1204) (tgt := 1211) C dL_law_1204 (by decide) (fun c1204 => ?_) (fun c1204 => ?_)
  · rw [if_pos c1204] at h
    refine g_iconst (pc := 1211) C (v := (0 : Int32)) dL_law_1211 (by decide) ?_
    exact g_lv [1, 2, 3, 4, 5, 0] rfl (bL_law_1212 hflag CL hcl hr23 (hv_mg 0 56 (σ) t1174) (x4) (r1174) ((0 : Int32)) (xs ((x4) + ((3 : Int32))).toNatClampNeg) (xs ((x4) + ((2 : Int32))).toNatClampNeg) (xs ((x4) + ((1 : Int32))).toNatClampNeg) h)
  · rw [if_neg c1204] at h
    refine g_iconst (pc := 1207) C (v := (1 : Int32)) dL_law_1207 (by decide) ?_
    refine g_goto (pc := 1208) C (tgt := 1212) dL_law_1208 (by decide) ?_
    exact g_lv [1, 2, 3, 4, 5, 0] rfl (bL_law_1212 hflag CL hcl hr23 (hv_mg 0 56 (σ) t1174) (x4) (r1174) ((1 : Int32)) (xs ((x4) + ((3 : Int32))).toNatClampNeg) (xs ((x4) + ((2 : Int32))).toNatClampNeg) (xs ((x4) + ((1 : Int32))).toNatClampNeg) h)
set_option maxHeartbeats 4000000 in
set_option maxRecDepth 20000 in
theorem bL_law_1140 (hflag : l.stackTraces = false) (CL : hv_CL p s m meth c D cy a b L xs) (hcl : cells + 2 ≤ room_1.cells ∧ slots + 12 ≤ room_1.slots) {n : Nat} {r23 : hv_St → Int32 → Option Unit} (hr23 : ∀ (σ : hv_St) (x4 : Int32), r23 σ x4 = some () → hv_G p l e room_1 s m #[Value.ref b] below meth c 8 D 79 a (hv_LE a cy) (cells + 2) (slots + 12) (lw_Z below #[Value.ref b] s) σ 23 [(0, .ref b), (1, .ref (a 0)), (2, .ref (a 56)), (3, .ref (a 55)), (4, .int (x4))] []) : ∀ (σ : hv_St) (x4 : Int32), kL_law_1140 n L xs r23 σ x4 = some () → hv_G p l e room_1 s m #[Value.ref b] below meth c 8 D 79 a (hv_LE a cy) cells slots (lw_Z below #[Value.ref b] s) σ 1140 [(0, .ref b), (1, .ref (a 0)), (2, .ref (a 56)), (3, .ref (a 55)), (4, .int (x4))] [] := by
  intro σ x4 h
  have C := CL.1
  unfold kL_law_1140 at h
  refine g_aload_n (pc := 1140) C 1 dL_law_1140 rfl rfl ?_
  refine g_aload_n (pc := 1141) C 0 dL_law_1141 rfl rfl ?_
  refine g_iload (pc := 1142) C 4 dL_law_1142 rfl ?_
  refine g_iconst (pc := 1144) C (v := (1 : Int32)) dL_law_1144 (by decide) ?_
  refine g_iadd (pc := 1145) C dL_law_1145 ?_
  obtain ⟨k1146, h⟩ := hv_if_some h
  refine g_sld (pc := 1146) CL k1146 dL_law_1146 ?_
  refine g_aload_n (pc := 1147) C 0 dL_law_1147 rfl rfl ?_
  refine g_iload (pc := 1148) C 4 dL_law_1148 rfl ?_
  refine g_iconst (pc := 1150) C (v := (2 : Int32)) dL_law_1150 (by decide) ?_
  refine g_iadd (pc := 1151) C dL_law_1151 ?_
  obtain ⟨k1152, h⟩ := hv_if_some h
  refine g_sld (pc := 1152) CL k1152 dL_law_1152 ?_
  refine g_aload_n (pc := 1153) C 0 dL_law_1153 rfl rfl ?_
  refine g_iload (pc := 1154) C 4 dL_law_1154 rfl ?_
  refine g_iconst (pc := 1156) C (v := (3 : Int32)) dL_law_1156 (by decide) ?_
  refine g_iadd (pc := 1157) C dL_law_1157 ?_
  obtain ⟨k1158, h⟩ := hv_if_some h
  refine g_sld (pc := 1158) CL k1158 dL_law_1158 ?_
  refine g_aload_n (pc := 1159) C 0 dL_law_1159 rfl rfl ?_
  refine g_iload (pc := 1160) C 4 dL_law_1160 rfl ?_
  refine g_iconst (pc := 1162) C (v := (4 : Int32)) dL_law_1162 (by decide) ?_
  refine g_iadd (pc := 1163) C dL_law_1163 ?_
  obtain ⟨k1164, h⟩ := hv_if_some h
  refine g_sld (pc := 1164) CL k1164 dL_law_1164 ?_
  refine g_if_eq (pc := 1165) (tgt := 1172) C dL_law_1165 (by decide) (fun c1165 => ?_) (fun c1165 => ?_)
  · rw [if_pos c1165] at h
    refine g_iconst (pc := 1172) C (v := (0 : Int32)) dL_law_1172 (by decide) ?_
    exact g_lv [0, 1, 2, 3, 4] rfl (bL_law_1173 hflag CL hcl hr23 σ (x4) ((0 : Int32)) (xs ((x4) + ((3 : Int32))).toNatClampNeg) (xs ((x4) + ((2 : Int32))).toNatClampNeg) (xs ((x4) + ((1 : Int32))).toNatClampNeg) h)
  · rw [if_neg c1165] at h
    refine g_iconst (pc := 1168) C (v := (1 : Int32)) dL_law_1168 (by decide) ?_
    refine g_goto (pc := 1169) C (tgt := 1173) dL_law_1169 (by decide) ?_
    exact g_lv [0, 1, 2, 3, 4] rfl (bL_law_1173 hflag CL hcl hr23 σ (x4) ((1 : Int32)) (xs ((x4) + ((3 : Int32))).toNatClampNeg) (xs ((x4) + ((2 : Int32))).toNatClampNeg) (xs ((x4) + ((1 : Int32))).toNatClampNeg) h)
set_option maxHeartbeats 4000000 in
set_option maxRecDepth 20000 in
theorem bL_law_1137 (hflag : l.stackTraces = false) (CL : hv_CL p s m meth c D cy a b L xs) (hcl : cells + 2 ≤ room_1.cells ∧ slots + 12 ≤ room_1.slots) {n : Nat} {r23 : hv_St → Int32 → Option Unit} (hr23 : ∀ (σ : hv_St) (x4 : Int32), r23 σ x4 = some () → hv_G p l e room_1 s m #[Value.ref b] below meth c 8 D 79 a (hv_LE a cy) (cells + 2) (slots + 12) (lw_Z below #[Value.ref b] s) σ 23 [(0, .ref b), (1, .ref (a 0)), (2, .ref (a 56)), (3, .ref (a 55)), (4, .int (x4))] []) : ∀ (σ : hv_St) (x4 : Int32), kL_law_1137 n L xs r23 σ x4 = some () → hv_G p l e room_1 s m #[Value.ref b] below meth c 8 D 79 a (hv_LE a cy) (cells + 2) (slots + 12) (lw_Z below #[Value.ref b] s) σ 1137 [(0, .ref b), (1, .ref (a 0)), (2, .ref (a 56)), (3, .ref (a 55)), (4, .int (x4))] [] := by
  intro σ x4 h
  have C := CL.1
  unfold kL_law_1137 at h
  refine g_goto (pc := 1137) C (tgt := 1699) dL_law_1137 (by decide) ?_
  exact g_lv [0, 1, 2, 3, 4] rfl (bL_law_1699 hflag CL hcl hr23 σ (x4) h)
set_option maxHeartbeats 4000000 in
set_option maxRecDepth 20000 in
theorem bL_law_1105 (hflag : l.stackTraces = false) (CL : hv_CL p s m meth c D cy a b L xs) (hcl : cells + 2 ≤ room_1.cells ∧ slots + 12 ≤ room_1.slots) {n : Nat} {r23 : hv_St → Int32 → Option Unit} (hr23 : ∀ (σ : hv_St) (x4 : Int32), r23 σ x4 = some () → hv_G p l e room_1 s m #[Value.ref b] below meth c 8 D 79 a (hv_LE a cy) (cells + 2) (slots + 12) (lw_Z below #[Value.ref b] s) σ 23 [(0, .ref b), (1, .ref (a 0)), (2, .ref (a 56)), (3, .ref (a 55)), (4, .int (x4))] []) : ∀ (σ : hv_St) (x4 : Int32) (x5 : Int32) (z0 : Int32) (z1 : Int32) (z2 : Int32), kL_law_1105 n L xs r23 σ x4 x5 z0 z1 z2 = some () → hv_G p l e room_1 s m #[Value.ref b] below meth c 8 D 79 a (hv_LE a cy) (cells + 2) (slots + 12) (lw_Z below #[Value.ref b] s) σ 1105 [(0, .ref b), (1, .ref (a 0)), (2, .ref (a 56)), (3, .ref (a 55)), (4, .int (x4)), (5, .int (x5))] [.int (z0), .int (z1), .int (z2), .ref (a 56)] := by
  intro σ x4 x5 z0 z1 z2 h
  have C := CL.1
  unfold kL_law_1105 at h
  obtain ⟨r1105, t1105, hc1105, h⟩ := hv_b2_some h
  refine g_subV (pc := 1105) (cells := cells + 2) (slots := slots + 12) (o := 56) (X2 := hv_ME (fun i => a (i + 56)) cy) (n := 23) (τ := t1105) (v := some (.long (r1105))) (As := [.int (z2), .int (z1), .int (z0)]) (rest := []) C 0 (hv_LE_M a cy) (Nat.le_of_ble_eq_true rfl) (vX8_force (a := fun i => a (i + 56)) hc1105) (cwV 3 C.1.2.2.2.2 gL_law_X8_force rfl rfl rfl (by decide +kernel) ⟨Nat.le_of_ble_eq_true rfl, Nat.le_of_ble_eq_true rfl⟩) (Nat.le_of_ble_eq_true rfl) rfl rfl rfl rfl (Nat.le_of_ble_eq_true rfl) dL_law_1105 (hv_cl 2 hcl (by decide)) ?_
  refine g_st (st' := [.long (r1105)]) rfl ?_
  refine g_lstore (pc := 1108) C (lv' := [(6, .long (r1105)), (0, .ref b), (1, .ref (a 0)), (2, .ref (a 56)), (3, .ref (a 55)), (4, .int (x4)), (5, .int (x5))]) rfl dL_law_1108 (Nat.le_of_ble_eq_true rfl) rfl ?_
  refine g_aload_n (pc := 1110) C 3 dL_law_1110 rfl rfl ?_
  obtain ⟨r1111, t1111, hc1111, h⟩ := hv_b2_some h
  refine g_subV (pc := 1111) (cells := cells + 2) (slots := slots + 12) (o := 56) (X2 := hv_ME (fun i => a (i + 56)) cy) (n := 23) (τ := t1111) (v := some (.int (r1111))) (As := []) (rest := []) C 0 (hv_LE_M a cy) (Nat.le_of_ble_eq_true rfl) (vX8_thrown (a := fun i => a (i + 56)) hc1111) (cwV 0 C.1.2.2.2.2 gL_law_X8_thrown rfl rfl rfl (by decide +kernel) ⟨Nat.le_of_ble_eq_true rfl, Nat.le_of_ble_eq_true rfl⟩) (Nat.le_of_ble_eq_true rfl) rfl rfl rfl rfl (Nat.le_of_ble_eq_true rfl) dL_law_1111 (hv_cl 2 hcl (by decide)) ?_
  refine g_st (st' := [.int (r1111)]) rfl ?_
  refine g_iload (pc := 1114) C 6 dL_law_1114 rfl ?_
  refine g_icmp_eq (pc := 1116) (tgt := 1121) C dL_law_1116 (by decide) (fun c1116 => ?_) (fun c1116 => ?_)
  · rw [if_pos c1116] at h
    refine g_iload (pc := 1121) C 6 dL_law_1121 rfl ?_
    refine g_if_ne (pc := 1123) (tgt := 1137) C dL_law_1123 (by decide) (fun c1123 => ?_) (fun c1123 => ?_)
    · rw [if_neg c1123] at h
      exact g_lv [1, 2, 3, 4, 5] rfl (bL_law_1137 hflag CL hcl hr23 (hv_mg 56 23 ((hv_mg 56 23 (σ) t1105)) t1111) (x4) h)
    · rw [if_pos c1123] at h
      refine g_aload_n (pc := 1126) C 4 dL_law_1126 rfl rfl ?_
      refine g_iconst (pc := 1127) C (v := (0 : Int32)) dL_law_1127 (by decide) ?_
      refine g_lald (pc := 1128) C 55 1 (cA := cy.2.1) (n := 1) (Nat.le_of_ble_eq_true rfl) rfl rfl (by decide) dL_law_1128 ?_
      refine g_lload (pc := 1129) C 0 dL_law_1129 rfl ?_
      refine g_lcmp (pc := 1131) C dL_law_1131 ?_
      refine g_if_eq (pc := 1132) (tgt := 1137) C dL_law_1132 (by decide) (fun c1132 => ?_) (fun c1132 => ?_)
      · rw [if_pos c1132] at h
        exact g_lv [1, 2, 3, 4, 5] rfl (bL_law_1137 hflag CL hcl hr23 (hv_mg 56 23 ((hv_mg 56 23 (σ) t1105)) t1111) (x4) h)
      · rw [if_neg c1132] at h
        cases h
  · rw [if_neg c1116] at h
    cases h
set_option maxHeartbeats 4000000 in
set_option maxRecDepth 20000 in
theorem bL_law_1072 (hflag : l.stackTraces = false) (CL : hv_CL p s m meth c D cy a b L xs) (hcl : cells + 2 ≤ room_1.cells ∧ slots + 12 ≤ room_1.slots) {n : Nat} {r23 : hv_St → Int32 → Option Unit} (hr23 : ∀ (σ : hv_St) (x4 : Int32), r23 σ x4 = some () → hv_G p l e room_1 s m #[Value.ref b] below meth c 8 D 79 a (hv_LE a cy) (cells + 2) (slots + 12) (lw_Z below #[Value.ref b] s) σ 23 [(0, .ref b), (1, .ref (a 0)), (2, .ref (a 56)), (3, .ref (a 55)), (4, .int (x4))] []) : ∀ (σ : hv_St) (x4 : Int32) (z0 : Int32) (z1 : Int32) (z2 : Int32), kL_law_1072 n L xs r23 σ x4 z0 z1 z2 = some () → hv_G p l e room_1 s m #[Value.ref b] below meth c 8 D 79 a (hv_LE a cy) cells slots (lw_Z below #[Value.ref b] s) σ 1072 [(0, .ref b), (1, .ref (a 0)), (2, .ref (a 56)), (3, .ref (a 55)), (4, .int (x4))] [.int (z0), .int (z1), .int (z2), .ref (a 0)] := by
  intro σ x4 z0 z1 z2 h
  have C := CL.1
  unfold kL_law_1072 at h
  refine g_aload_n (pc := 1072) C 3 dL_law_1072 rfl rfl ?_
  obtain ⟨r1073, t1073, hc1073, h⟩ := hv_b2_some h
  refine g_callW (pc := 1073) (cells := cells) (slots := slots) (X2 := hv_XO (fun i => a (i + 0)) cy) (n := 56) (τ := t1073) (v := some (.int (r1073))) (As := [.ref (a 0), .int (z2), .int (z1), .int (z0), .ref (a 55)]) (rest := []) C CL.2.1 (hv_LE_O a cy) (Nat.le_of_ble_eq_true rfl) (vL_force (a := fun i => a (i + 0)) hflag hc1073) (vx_cwSW 5 C.1.2.2.2.2 gL_law_L_force rfl rfl rfl (by decide +kernel) ⟨Nat.le_of_ble_eq_true rfl, Nat.le_of_ble_eq_true rfl⟩) rfl rfl (Nat.le_of_ble_eq_true rfl) dL_law_1073 (hv_cl 2 hcl (by decide)) ?_
  refine g_st (st' := [.int (r1073)]) rfl ?_
  refine g_istore (pc := 1076) C (lv' := [(5, .int (r1073)), (0, .ref b), (1, .ref (a 0)), (2, .ref (a 56)), (3, .ref (a 55)), (4, .int (x4))]) rfl dL_law_1076 (Nat.le_of_ble_eq_true rfl) rfl ?_
  refine g_aload_n (pc := 1078) C 3 dL_law_1078 rfl rfl ?_
  refine g_aload_n (pc := 1079) C 1 dL_law_1079 rfl rfl ?_
  refine g_iload (pc := 1080) C 5 dL_law_1080 rfl ?_
  refine g_iconst (pc := 1082) C (v := (1 : Int32)) dL_law_1082 (by decide) ?_
  refine g_iadd (pc := 1083) C dL_law_1083 ?_
  obtain ⟨k1084, h⟩ := hv_if_some h
  refine g_sld (pc := 1084) CL k1084 dL_law_1084 ?_
  refine g_aload_n (pc := 1085) C 1 dL_law_1085 rfl rfl ?_
  refine g_iload (pc := 1086) C 5 dL_law_1086 rfl ?_
  refine g_iconst (pc := 1088) C (v := (2 : Int32)) dL_law_1088 (by decide) ?_
  refine g_iadd (pc := 1089) C dL_law_1089 ?_
  obtain ⟨k1090, h⟩ := hv_if_some h
  refine g_sld (pc := 1090) CL k1090 dL_law_1090 ?_
  refine g_aload_n (pc := 1091) C 1 dL_law_1091 rfl rfl ?_
  refine g_iload (pc := 1092) C 5 dL_law_1092 rfl ?_
  refine g_iconst (pc := 1094) C (v := (3 : Int32)) dL_law_1094 (by decide) ?_
  refine g_iadd (pc := 1095) C dL_law_1095 ?_
  obtain ⟨k1096, h⟩ := hv_if_some h
  refine g_sld (pc := 1096) CL k1096 dL_law_1096 ?_
  refine g_if_eq (pc := 1097) (tgt := 1104) C dL_law_1097 (by decide) (fun c1097 => ?_) (fun c1097 => ?_)
  · rw [if_pos c1097] at h
    refine g_iconst (pc := 1104) C (v := (0 : Int32)) dL_law_1104 (by decide) ?_
    exact g_lv [1, 2, 3, 4, 5, 0] rfl (bL_law_1105 hflag CL hcl hr23 (hv_mg 0 56 (σ) t1073) (x4) (r1073) ((0 : Int32)) (xs ((x4) + ((2 : Int32))).toNatClampNeg) (xs ((x4) + ((1 : Int32))).toNatClampNeg) h)
  · rw [if_neg c1097] at h
    refine g_iconst (pc := 1100) C (v := (1 : Int32)) dL_law_1100 (by decide) ?_
    refine g_goto (pc := 1101) C (tgt := 1105) dL_law_1101 (by decide) ?_
    exact g_lv [1, 2, 3, 4, 5, 0] rfl (bL_law_1105 hflag CL hcl hr23 (hv_mg 0 56 (σ) t1073) (x4) (r1073) ((1 : Int32)) (xs ((x4) + ((2 : Int32))).toNatClampNeg) (xs ((x4) + ((1 : Int32))).toNatClampNeg) h)
set_option maxHeartbeats 4000000 in
set_option maxRecDepth 20000 in
theorem bL_law_1045 (hflag : l.stackTraces = false) (CL : hv_CL p s m meth c D cy a b L xs) (hcl : cells + 2 ≤ room_1.cells ∧ slots + 12 ≤ room_1.slots) {n : Nat} {r23 : hv_St → Int32 → Option Unit} (hr23 : ∀ (σ : hv_St) (x4 : Int32), r23 σ x4 = some () → hv_G p l e room_1 s m #[Value.ref b] below meth c 8 D 79 a (hv_LE a cy) (cells + 2) (slots + 12) (lw_Z below #[Value.ref b] s) σ 23 [(0, .ref b), (1, .ref (a 0)), (2, .ref (a 56)), (3, .ref (a 55)), (4, .int (x4))] []) : ∀ (σ : hv_St) (x4 : Int32), kL_law_1045 n L xs r23 σ x4 = some () → hv_G p l e room_1 s m #[Value.ref b] below meth c 8 D 79 a (hv_LE a cy) cells slots (lw_Z below #[Value.ref b] s) σ 1045 [(0, .ref b), (1, .ref (a 0)), (2, .ref (a 56)), (3, .ref (a 55)), (4, .int (x4))] [] := by
  intro σ x4 h
  have C := CL.1
  unfold kL_law_1045 at h
  refine g_aload_n (pc := 1045) C 1 dL_law_1045 rfl rfl ?_
  refine g_aload_n (pc := 1046) C 0 dL_law_1046 rfl rfl ?_
  refine g_iload (pc := 1047) C 4 dL_law_1047 rfl ?_
  refine g_iconst (pc := 1049) C (v := (1 : Int32)) dL_law_1049 (by decide) ?_
  refine g_iadd (pc := 1050) C dL_law_1050 ?_
  obtain ⟨k1051, h⟩ := hv_if_some h
  refine g_sld (pc := 1051) CL k1051 dL_law_1051 ?_
  refine g_aload_n (pc := 1052) C 0 dL_law_1052 rfl rfl ?_
  refine g_iload (pc := 1053) C 4 dL_law_1053 rfl ?_
  refine g_iconst (pc := 1055) C (v := (2 : Int32)) dL_law_1055 (by decide) ?_
  refine g_iadd (pc := 1056) C dL_law_1056 ?_
  obtain ⟨k1057, h⟩ := hv_if_some h
  refine g_sld (pc := 1057) CL k1057 dL_law_1057 ?_
  refine g_aload_n (pc := 1058) C 0 dL_law_1058 rfl rfl ?_
  refine g_iload (pc := 1059) C 4 dL_law_1059 rfl ?_
  refine g_iconst (pc := 1061) C (v := (3 : Int32)) dL_law_1061 (by decide) ?_
  refine g_iadd (pc := 1062) C dL_law_1062 ?_
  obtain ⟨k1063, h⟩ := hv_if_some h
  refine g_sld (pc := 1063) CL k1063 dL_law_1063 ?_
  refine g_if_eq (pc := 1064) (tgt := 1071) C dL_law_1064 (by decide) (fun c1064 => ?_) (fun c1064 => ?_)
  · rw [if_pos c1064] at h
    refine g_iconst (pc := 1071) C (v := (0 : Int32)) dL_law_1071 (by decide) ?_
    exact g_lv [0, 1, 2, 3, 4] rfl (bL_law_1072 hflag CL hcl hr23 σ (x4) ((0 : Int32)) (xs ((x4) + ((2 : Int32))).toNatClampNeg) (xs ((x4) + ((1 : Int32))).toNatClampNeg) h)
  · rw [if_neg c1064] at h
    refine g_iconst (pc := 1067) C (v := (1 : Int32)) dL_law_1067 (by decide) ?_
    refine g_goto (pc := 1068) C (tgt := 1072) dL_law_1068 (by decide) ?_
    exact g_lv [0, 1, 2, 3, 4] rfl (bL_law_1072 hflag CL hcl hr23 σ (x4) ((1 : Int32)) (xs ((x4) + ((2 : Int32))).toNatClampNeg) (xs ((x4) + ((1 : Int32))).toNatClampNeg) h)
set_option maxHeartbeats 4000000 in
set_option maxRecDepth 20000 in
theorem bL_law_1042 (hflag : l.stackTraces = false) (CL : hv_CL p s m meth c D cy a b L xs) (hcl : cells + 2 ≤ room_1.cells ∧ slots + 12 ≤ room_1.slots) {n : Nat} {r23 : hv_St → Int32 → Option Unit} (hr23 : ∀ (σ : hv_St) (x4 : Int32), r23 σ x4 = some () → hv_G p l e room_1 s m #[Value.ref b] below meth c 8 D 79 a (hv_LE a cy) (cells + 2) (slots + 12) (lw_Z below #[Value.ref b] s) σ 23 [(0, .ref b), (1, .ref (a 0)), (2, .ref (a 56)), (3, .ref (a 55)), (4, .int (x4))] []) : ∀ (σ : hv_St) (x4 : Int32), kL_law_1042 n L xs r23 σ x4 = some () → hv_G p l e room_1 s m #[Value.ref b] below meth c 8 D 79 a (hv_LE a cy) (cells + 1) (slots + 6) (lw_Z below #[Value.ref b] s) σ 1042 [(0, .ref b), (1, .ref (a 0)), (2, .ref (a 56)), (3, .ref (a 55)), (4, .int (x4))] [] := by
  intro σ x4 h
  have C := CL.1
  unfold kL_law_1042 at h
  refine g_goto (pc := 1042) C (tgt := 1699) dL_law_1042 (by decide) ?_
  refine g_widen (cells := cells + 1) (slots := slots + 6) (k := cells + 2) (n := slots + 12) (by omega) (by omega) ?_
  exact g_lv [0, 1, 2, 3, 4] rfl (bL_law_1699 hflag CL hcl hr23 σ (x4) h)
set_option maxHeartbeats 4000000 in
set_option maxRecDepth 20000 in
theorem bL_law_1010 (hflag : l.stackTraces = false) (CL : hv_CL p s m meth c D cy a b L xs) (hcl : cells + 2 ≤ room_1.cells ∧ slots + 12 ≤ room_1.slots) {n : Nat} {r23 : hv_St → Int32 → Option Unit} (hr23 : ∀ (σ : hv_St) (x4 : Int32), r23 σ x4 = some () → hv_G p l e room_1 s m #[Value.ref b] below meth c 8 D 79 a (hv_LE a cy) (cells + 2) (slots + 12) (lw_Z below #[Value.ref b] s) σ 23 [(0, .ref b), (1, .ref (a 0)), (2, .ref (a 56)), (3, .ref (a 55)), (4, .int (x4))] []) : ∀ (σ : hv_St) (x4 : Int32) (x5 : Int32) (z0 : Int32) (z1 : Int32) (z2 : Int32), kL_law_1010 n L xs r23 σ x4 x5 z0 z1 z2 = some () → hv_G p l e room_1 s m #[Value.ref b] below meth c 8 D 79 a (hv_LE a cy) (cells + 1) (slots + 6) (lw_Z below #[Value.ref b] s) σ 1010 [(0, .ref b), (1, .ref (a 0)), (2, .ref (a 56)), (3, .ref (a 55)), (4, .int (x4)), (5, .int (x5))] [.int (z0), .int (z1), .int (z2), .ref (a 56)] := by
  intro σ x4 x5 z0 z1 z2 h
  have C := CL.1
  unfold kL_law_1010 at h
  obtain ⟨r1010, t1010, hc1010, h⟩ := hv_b2_some h
  refine g_subV (pc := 1010) (cells := cells + 1) (slots := slots + 6) (o := 56) (X2 := hv_ME (fun i => a (i + 56)) cy) (n := 23) (τ := t1010) (v := some (.long (r1010))) (As := [.int (z2), .int (z1), .int (z0)]) (rest := []) C 0 (hv_LE_M a cy) (Nat.le_of_ble_eq_true rfl) (vX8_flex (a := fun i => a (i + 56)) hc1010) (cwV 3 C.1.2.2.2.2 gL_law_X8_flex rfl rfl rfl (by decide +kernel) ⟨Nat.le_of_ble_eq_true rfl, Nat.le_of_ble_eq_true rfl⟩) (Nat.le_of_ble_eq_true rfl) rfl rfl rfl rfl (Nat.le_of_ble_eq_true rfl) dL_law_1010 (hv_cl 1 hcl (by decide)) ?_
  refine g_st (st' := [.long (r1010)]) rfl ?_
  refine g_lstore (pc := 1013) C (lv' := [(6, .long (r1010)), (0, .ref b), (1, .ref (a 0)), (2, .ref (a 56)), (3, .ref (a 55)), (4, .int (x4)), (5, .int (x5))]) rfl dL_law_1013 (Nat.le_of_ble_eq_true rfl) rfl ?_
  refine g_aload_n (pc := 1015) C 3 dL_law_1015 rfl rfl ?_
  obtain ⟨r1016, t1016, hc1016, h⟩ := hv_b2_some h
  refine g_subV (pc := 1016) (cells := cells + 1) (slots := slots + 6) (o := 56) (X2 := hv_ME (fun i => a (i + 56)) cy) (n := 23) (τ := t1016) (v := some (.int (r1016))) (As := []) (rest := []) C 0 (hv_LE_M a cy) (Nat.le_of_ble_eq_true rfl) (vX8_thrown (a := fun i => a (i + 56)) hc1016) (cwV 0 C.1.2.2.2.2 gL_law_X8_thrown rfl rfl rfl (by decide +kernel) ⟨Nat.le_of_ble_eq_true rfl, Nat.le_of_ble_eq_true rfl⟩) (Nat.le_of_ble_eq_true rfl) rfl rfl rfl rfl (Nat.le_of_ble_eq_true rfl) dL_law_1016 (hv_cl 1 hcl (by decide)) ?_
  refine g_st (st' := [.int (r1016)]) rfl ?_
  refine g_iload (pc := 1019) C 6 dL_law_1019 rfl ?_
  refine g_icmp_eq (pc := 1021) (tgt := 1026) C dL_law_1021 (by decide) (fun c1021 => ?_) (fun c1021 => ?_)
  · rw [if_pos c1021] at h
    refine g_iload (pc := 1026) C 6 dL_law_1026 rfl ?_
    refine g_if_ne (pc := 1028) (tgt := 1042) C dL_law_1028 (by decide) (fun c1028 => ?_) (fun c1028 => ?_)
    · rw [if_neg c1028] at h
      exact g_lv [1, 2, 3, 4, 5] rfl (bL_law_1042 hflag CL hcl hr23 (hv_mg 56 23 ((hv_mg 56 23 (σ) t1010)) t1016) (x4) h)
    · rw [if_pos c1028] at h
      refine g_aload_n (pc := 1031) C 4 dL_law_1031 rfl rfl ?_
      refine g_iconst (pc := 1032) C (v := (0 : Int32)) dL_law_1032 (by decide) ?_
      refine g_lald (pc := 1033) C 55 1 (cA := cy.2.1) (n := 1) (Nat.le_of_ble_eq_true rfl) rfl rfl (by decide) dL_law_1033 ?_
      refine g_lload (pc := 1034) C 0 dL_law_1034 rfl ?_
      refine g_lcmp (pc := 1036) C dL_law_1036 ?_
      refine g_if_eq (pc := 1037) (tgt := 1042) C dL_law_1037 (by decide) (fun c1037 => ?_) (fun c1037 => ?_)
      · rw [if_pos c1037] at h
        exact g_lv [1, 2, 3, 4, 5] rfl (bL_law_1042 hflag CL hcl hr23 (hv_mg 56 23 ((hv_mg 56 23 (σ) t1010)) t1016) (x4) h)
      · rw [if_neg c1037] at h
        cases h
  · rw [if_neg c1021] at h
    cases h
set_option maxHeartbeats 4000000 in
set_option maxRecDepth 20000 in
theorem bL_law_977 (hflag : l.stackTraces = false) (CL : hv_CL p s m meth c D cy a b L xs) (hcl : cells + 2 ≤ room_1.cells ∧ slots + 12 ≤ room_1.slots) {n : Nat} {r23 : hv_St → Int32 → Option Unit} (hr23 : ∀ (σ : hv_St) (x4 : Int32), r23 σ x4 = some () → hv_G p l e room_1 s m #[Value.ref b] below meth c 8 D 79 a (hv_LE a cy) (cells + 2) (slots + 12) (lw_Z below #[Value.ref b] s) σ 23 [(0, .ref b), (1, .ref (a 0)), (2, .ref (a 56)), (3, .ref (a 55)), (4, .int (x4))] []) : ∀ (σ : hv_St) (x4 : Int32) (z0 : Int32) (z1 : Int32) (z2 : Int32), kL_law_977 n L xs r23 σ x4 z0 z1 z2 = some () → hv_G p l e room_1 s m #[Value.ref b] below meth c 8 D 79 a (hv_LE a cy) cells slots (lw_Z below #[Value.ref b] s) σ 977 [(0, .ref b), (1, .ref (a 0)), (2, .ref (a 56)), (3, .ref (a 55)), (4, .int (x4))] [.int (z0), .int (z1), .int (z2), .ref (a 0)] := by
  intro σ x4 z0 z1 z2 h
  have C := CL.1
  unfold kL_law_977 at h
  refine g_aload_n (pc := 977) C 3 dL_law_977 rfl rfl ?_
  obtain ⟨r978, t978, hc978, h⟩ := hv_b2_some h
  refine g_callW (pc := 978) (cells := cells) (slots := slots) (X2 := hv_XO (fun i => a (i + 0)) cy) (n := 56) (τ := t978) (v := some (.int (r978))) (As := [.ref (a 0), .int (z2), .int (z1), .int (z0), .ref (a 55)]) (rest := []) C CL.2.1 (hv_LE_O a cy) (Nat.le_of_ble_eq_true rfl) (vL_flex (a := fun i => a (i + 0)) hflag hc978) (vx_cwSW 5 C.1.2.2.2.2 gL_law_L_flex rfl rfl rfl (by decide +kernel) ⟨Nat.le_of_ble_eq_true rfl, Nat.le_of_ble_eq_true rfl⟩) rfl rfl (Nat.le_of_ble_eq_true rfl) dL_law_978 (hv_cl 1 hcl (by decide)) ?_
  refine g_st (st' := [.int (r978)]) rfl ?_
  refine g_istore (pc := 981) C (lv' := [(5, .int (r978)), (0, .ref b), (1, .ref (a 0)), (2, .ref (a 56)), (3, .ref (a 55)), (4, .int (x4))]) rfl dL_law_981 (Nat.le_of_ble_eq_true rfl) rfl ?_
  refine g_aload_n (pc := 983) C 3 dL_law_983 rfl rfl ?_
  refine g_aload_n (pc := 984) C 1 dL_law_984 rfl rfl ?_
  refine g_iload (pc := 985) C 5 dL_law_985 rfl ?_
  refine g_iconst (pc := 987) C (v := (1 : Int32)) dL_law_987 (by decide) ?_
  refine g_iadd (pc := 988) C dL_law_988 ?_
  obtain ⟨k989, h⟩ := hv_if_some h
  refine g_sld (pc := 989) CL k989 dL_law_989 ?_
  refine g_aload_n (pc := 990) C 1 dL_law_990 rfl rfl ?_
  refine g_iload (pc := 991) C 5 dL_law_991 rfl ?_
  refine g_iconst (pc := 993) C (v := (2 : Int32)) dL_law_993 (by decide) ?_
  refine g_iadd (pc := 994) C dL_law_994 ?_
  obtain ⟨k995, h⟩ := hv_if_some h
  refine g_sld (pc := 995) CL k995 dL_law_995 ?_
  refine g_aload_n (pc := 996) C 1 dL_law_996 rfl rfl ?_
  refine g_iload (pc := 997) C 5 dL_law_997 rfl ?_
  refine g_iconst (pc := 999) C (v := (3 : Int32)) dL_law_999 (by decide) ?_
  refine g_iadd (pc := 1000) C dL_law_1000 ?_
  obtain ⟨k1001, h⟩ := hv_if_some h
  refine g_sld (pc := 1001) CL k1001 dL_law_1001 ?_
  refine g_if_eq (pc := 1002) (tgt := 1009) C dL_law_1002 (by decide) (fun c1002 => ?_) (fun c1002 => ?_)
  · rw [if_pos c1002] at h
    refine g_iconst (pc := 1009) C (v := (0 : Int32)) dL_law_1009 (by decide) ?_
    exact g_lv [1, 2, 3, 4, 5, 0] rfl (bL_law_1010 hflag CL hcl hr23 (hv_mg 0 56 (σ) t978) (x4) (r978) ((0 : Int32)) (xs ((x4) + ((2 : Int32))).toNatClampNeg) (xs ((x4) + ((1 : Int32))).toNatClampNeg) h)
  · rw [if_neg c1002] at h
    refine g_iconst (pc := 1005) C (v := (1 : Int32)) dL_law_1005 (by decide) ?_
    refine g_goto (pc := 1006) C (tgt := 1010) dL_law_1006 (by decide) ?_
    exact g_lv [1, 2, 3, 4, 5, 0] rfl (bL_law_1010 hflag CL hcl hr23 (hv_mg 0 56 (σ) t978) (x4) (r978) ((1 : Int32)) (xs ((x4) + ((2 : Int32))).toNatClampNeg) (xs ((x4) + ((1 : Int32))).toNatClampNeg) h)
set_option maxHeartbeats 4000000 in
set_option maxRecDepth 20000 in
theorem bL_law_950 (hflag : l.stackTraces = false) (CL : hv_CL p s m meth c D cy a b L xs) (hcl : cells + 2 ≤ room_1.cells ∧ slots + 12 ≤ room_1.slots) {n : Nat} {r23 : hv_St → Int32 → Option Unit} (hr23 : ∀ (σ : hv_St) (x4 : Int32), r23 σ x4 = some () → hv_G p l e room_1 s m #[Value.ref b] below meth c 8 D 79 a (hv_LE a cy) (cells + 2) (slots + 12) (lw_Z below #[Value.ref b] s) σ 23 [(0, .ref b), (1, .ref (a 0)), (2, .ref (a 56)), (3, .ref (a 55)), (4, .int (x4))] []) : ∀ (σ : hv_St) (x4 : Int32), kL_law_950 n L xs r23 σ x4 = some () → hv_G p l e room_1 s m #[Value.ref b] below meth c 8 D 79 a (hv_LE a cy) cells slots (lw_Z below #[Value.ref b] s) σ 950 [(0, .ref b), (1, .ref (a 0)), (2, .ref (a 56)), (3, .ref (a 55)), (4, .int (x4))] [] := by
  intro σ x4 h
  have C := CL.1
  unfold kL_law_950 at h
  refine g_aload_n (pc := 950) C 1 dL_law_950 rfl rfl ?_
  refine g_aload_n (pc := 951) C 0 dL_law_951 rfl rfl ?_
  refine g_iload (pc := 952) C 4 dL_law_952 rfl ?_
  refine g_iconst (pc := 954) C (v := (1 : Int32)) dL_law_954 (by decide) ?_
  refine g_iadd (pc := 955) C dL_law_955 ?_
  obtain ⟨k956, h⟩ := hv_if_some h
  refine g_sld (pc := 956) CL k956 dL_law_956 ?_
  refine g_aload_n (pc := 957) C 0 dL_law_957 rfl rfl ?_
  refine g_iload (pc := 958) C 4 dL_law_958 rfl ?_
  refine g_iconst (pc := 960) C (v := (2 : Int32)) dL_law_960 (by decide) ?_
  refine g_iadd (pc := 961) C dL_law_961 ?_
  obtain ⟨k962, h⟩ := hv_if_some h
  refine g_sld (pc := 962) CL k962 dL_law_962 ?_
  refine g_aload_n (pc := 963) C 0 dL_law_963 rfl rfl ?_
  refine g_iload (pc := 964) C 4 dL_law_964 rfl ?_
  refine g_iconst (pc := 966) C (v := (3 : Int32)) dL_law_966 (by decide) ?_
  refine g_iadd (pc := 967) C dL_law_967 ?_
  obtain ⟨k968, h⟩ := hv_if_some h
  refine g_sld (pc := 968) CL k968 dL_law_968 ?_
  refine g_if_eq (pc := 969) (tgt := 976) C dL_law_969 (by decide) (fun c969 => ?_) (fun c969 => ?_)
  · rw [if_pos c969] at h
    refine g_iconst (pc := 976) C (v := (0 : Int32)) dL_law_976 (by decide) ?_
    exact g_lv [0, 1, 2, 3, 4] rfl (bL_law_977 hflag CL hcl hr23 σ (x4) ((0 : Int32)) (xs ((x4) + ((2 : Int32))).toNatClampNeg) (xs ((x4) + ((1 : Int32))).toNatClampNeg) h)
  · rw [if_neg c969] at h
    refine g_iconst (pc := 972) C (v := (1 : Int32)) dL_law_972 (by decide) ?_
    refine g_goto (pc := 973) C (tgt := 977) dL_law_973 (by decide) ?_
    exact g_lv [0, 1, 2, 3, 4] rfl (bL_law_977 hflag CL hcl hr23 σ (x4) ((1 : Int32)) (xs ((x4) + ((2 : Int32))).toNatClampNeg) (xs ((x4) + ((1 : Int32))).toNatClampNeg) h)
set_option maxHeartbeats 4000000 in
set_option maxRecDepth 20000 in
theorem bL_law_947 (hflag : l.stackTraces = false) (CL : hv_CL p s m meth c D cy a b L xs) (hcl : cells + 2 ≤ room_1.cells ∧ slots + 12 ≤ room_1.slots) {n : Nat} {r23 : hv_St → Int32 → Option Unit} (hr23 : ∀ (σ : hv_St) (x4 : Int32), r23 σ x4 = some () → hv_G p l e room_1 s m #[Value.ref b] below meth c 8 D 79 a (hv_LE a cy) (cells + 2) (slots + 12) (lw_Z below #[Value.ref b] s) σ 23 [(0, .ref b), (1, .ref (a 0)), (2, .ref (a 56)), (3, .ref (a 55)), (4, .int (x4))] []) : ∀ (σ : hv_St) (x4 : Int32), kL_law_947 n L xs r23 σ x4 = some () → hv_G p l e room_1 s m #[Value.ref b] below meth c 8 D 79 a (hv_LE a cy) (cells + 1) (slots + 6) (lw_Z below #[Value.ref b] s) σ 947 [(0, .ref b), (1, .ref (a 0)), (2, .ref (a 56)), (3, .ref (a 55)), (4, .int (x4))] [] := by
  intro σ x4 h
  have C := CL.1
  unfold kL_law_947 at h
  refine g_goto (pc := 947) C (tgt := 1699) dL_law_947 (by decide) ?_
  refine g_widen (cells := cells + 1) (slots := slots + 6) (k := cells + 2) (n := slots + 12) (by omega) (by omega) ?_
  exact g_lv [0, 1, 2, 3, 4] rfl (bL_law_1699 hflag CL hcl hr23 σ (x4) h)
set_option maxHeartbeats 4000000 in
set_option maxRecDepth 20000 in
theorem bL_law_915 (hflag : l.stackTraces = false) (CL : hv_CL p s m meth c D cy a b L xs) (hcl : cells + 2 ≤ room_1.cells ∧ slots + 12 ≤ room_1.slots) {n : Nat} {r23 : hv_St → Int32 → Option Unit} (hr23 : ∀ (σ : hv_St) (x4 : Int32), r23 σ x4 = some () → hv_G p l e room_1 s m #[Value.ref b] below meth c 8 D 79 a (hv_LE a cy) (cells + 2) (slots + 12) (lw_Z below #[Value.ref b] s) σ 23 [(0, .ref b), (1, .ref (a 0)), (2, .ref (a 56)), (3, .ref (a 55)), (4, .int (x4))] []) : ∀ (σ : hv_St) (x4 : Int32) (x5 : Int32) (z0 : Int32) (z1 : Int32) (z2 : Int32), kL_law_915 n L xs r23 σ x4 x5 z0 z1 z2 = some () → hv_G p l e room_1 s m #[Value.ref b] below meth c 8 D 79 a (hv_LE a cy) (cells + 1) (slots + 6) (lw_Z below #[Value.ref b] s) σ 915 [(0, .ref b), (1, .ref (a 0)), (2, .ref (a 56)), (3, .ref (a 55)), (4, .int (x4)), (5, .int (x5))] [.int (z0), .int (z1), .int (z2), .ref (a 56)] := by
  intro σ x4 x5 z0 z1 z2 h
  have C := CL.1
  unfold kL_law_915 at h
  obtain ⟨r915, t915, hc915, h⟩ := hv_b2_some h
  refine g_subV (pc := 915) (cells := cells + 1) (slots := slots + 6) (o := 56) (X2 := hv_ME (fun i => a (i + 56)) cy) (n := 23) (τ := t915) (v := some (.long (r915))) (As := [.int (z2), .int (z1), .int (z0)]) (rest := []) C 0 (hv_LE_M a cy) (Nat.le_of_ble_eq_true rfl) (vX8_state (a := fun i => a (i + 56)) hc915) (cwV 3 C.1.2.2.2.2 gL_law_X8_state rfl rfl rfl (by decide +kernel) ⟨Nat.le_of_ble_eq_true rfl, Nat.le_of_ble_eq_true rfl⟩) (Nat.le_of_ble_eq_true rfl) rfl rfl rfl rfl (Nat.le_of_ble_eq_true rfl) dL_law_915 (hv_cl 1 hcl (by decide)) ?_
  refine g_st (st' := [.long (r915)]) rfl ?_
  refine g_lstore (pc := 918) C (lv' := [(6, .long (r915)), (0, .ref b), (1, .ref (a 0)), (2, .ref (a 56)), (3, .ref (a 55)), (4, .int (x4)), (5, .int (x5))]) rfl dL_law_918 (Nat.le_of_ble_eq_true rfl) rfl ?_
  refine g_aload_n (pc := 920) C 3 dL_law_920 rfl rfl ?_
  obtain ⟨r921, t921, hc921, h⟩ := hv_b2_some h
  refine g_subV (pc := 921) (cells := cells + 1) (slots := slots + 6) (o := 56) (X2 := hv_ME (fun i => a (i + 56)) cy) (n := 23) (τ := t921) (v := some (.int (r921))) (As := []) (rest := []) C 0 (hv_LE_M a cy) (Nat.le_of_ble_eq_true rfl) (vX8_thrown (a := fun i => a (i + 56)) hc921) (cwV 0 C.1.2.2.2.2 gL_law_X8_thrown rfl rfl rfl (by decide +kernel) ⟨Nat.le_of_ble_eq_true rfl, Nat.le_of_ble_eq_true rfl⟩) (Nat.le_of_ble_eq_true rfl) rfl rfl rfl rfl (Nat.le_of_ble_eq_true rfl) dL_law_921 (hv_cl 1 hcl (by decide)) ?_
  refine g_st (st' := [.int (r921)]) rfl ?_
  refine g_iload (pc := 924) C 6 dL_law_924 rfl ?_
  refine g_icmp_eq (pc := 926) (tgt := 931) C dL_law_926 (by decide) (fun c926 => ?_) (fun c926 => ?_)
  · rw [if_pos c926] at h
    refine g_iload (pc := 931) C 6 dL_law_931 rfl ?_
    refine g_if_ne (pc := 933) (tgt := 947) C dL_law_933 (by decide) (fun c933 => ?_) (fun c933 => ?_)
    · rw [if_neg c933] at h
      exact g_lv [1, 2, 3, 4, 5] rfl (bL_law_947 hflag CL hcl hr23 (hv_mg 56 23 ((hv_mg 56 23 (σ) t915)) t921) (x4) h)
    · rw [if_pos c933] at h
      refine g_aload_n (pc := 936) C 4 dL_law_936 rfl rfl ?_
      refine g_iconst (pc := 937) C (v := (0 : Int32)) dL_law_937 (by decide) ?_
      refine g_lald (pc := 938) C 55 1 (cA := cy.2.1) (n := 1) (Nat.le_of_ble_eq_true rfl) rfl rfl (by decide) dL_law_938 ?_
      refine g_lload (pc := 939) C 0 dL_law_939 rfl ?_
      refine g_lcmp (pc := 941) C dL_law_941 ?_
      refine g_if_eq (pc := 942) (tgt := 947) C dL_law_942 (by decide) (fun c942 => ?_) (fun c942 => ?_)
      · rw [if_pos c942] at h
        exact g_lv [1, 2, 3, 4, 5] rfl (bL_law_947 hflag CL hcl hr23 (hv_mg 56 23 ((hv_mg 56 23 (σ) t915)) t921) (x4) h)
      · rw [if_neg c942] at h
        cases h
  · rw [if_neg c926] at h
    cases h
end
