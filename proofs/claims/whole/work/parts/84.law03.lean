/-! the law walked, 3 -/
section
variable {p : Program} {l : Launch} {e : Env} {s : State} {m : MethodId} {below : List Frame} {meth : Method} {c : Code} {D : va_G} {a : Nat → Nat} {cy : ClassId × ClassId × ClassId × ClassId} {b L : Nat} {xs : Nat → Int32} {cells slots : Nat}
set_option maxHeartbeats 4000000 in
set_option maxRecDepth 20000 in
theorem bL_law_421 (hflag : l.stackTraces = false) (CL : hv_CL p s m meth c D cy a b L xs) (hcl : cells + 2 ≤ room_1.cells ∧ slots + 12 ≤ room_1.slots) {n : Nat} {r23 : hv_St → Int32 → Option Unit} (hr23 : ∀ (σ : hv_St) (x4 : Int32), r23 σ x4 = some () → hv_G p l e room_1 s m #[Value.ref b] below meth c 8 D 79 a (hv_LE a cy) (cells + 2) (slots + 12) (lw_Z below #[Value.ref b] s) σ 23 [(0, .ref b), (1, .ref (a 0)), (2, .ref (a 56)), (3, .ref (a 55)), (4, .int (x4))] []) : ∀ (σ : hv_St) (x4 : Int32), kL_law_421 n L xs r23 σ x4 = some () → hv_G p l e room_1 s m #[Value.ref b] below meth c 8 D 79 a (hv_LE a cy) cells slots (lw_Z below #[Value.ref b] s) σ 421 [(0, .ref b), (1, .ref (a 0)), (2, .ref (a 56)), (3, .ref (a 55)), (4, .int (x4))] [] := by
  intro σ x4 h
  have C := CL.1
  unfold kL_law_421 at h
  refine g_aload_n (pc := 421) C 1 dL_law_421 rfl rfl ?_
  refine g_aload_n (pc := 422) C 0 dL_law_422 rfl rfl ?_
  refine g_iload (pc := 423) C 4 dL_law_423 rfl ?_
  refine g_iconst (pc := 425) C (v := (1 : Int32)) dL_law_425 (by decide) ?_
  refine g_iadd (pc := 426) C dL_law_426 ?_
  obtain ⟨k427, h⟩ := hv_if_some h
  refine g_sld (pc := 427) CL k427 dL_law_427 ?_
  refine g_aload_n (pc := 428) C 0 dL_law_428 rfl rfl ?_
  refine g_iload (pc := 429) C 4 dL_law_429 rfl ?_
  refine g_iconst (pc := 431) C (v := (2 : Int32)) dL_law_431 (by decide) ?_
  refine g_iadd (pc := 432) C dL_law_432 ?_
  obtain ⟨k433, h⟩ := hv_if_some h
  refine g_sld (pc := 433) CL k433 dL_law_433 ?_
  refine g_aload_n (pc := 434) C 0 dL_law_434 rfl rfl ?_
  refine g_iload (pc := 435) C 4 dL_law_435 rfl ?_
  refine g_iconst (pc := 437) C (v := (3 : Int32)) dL_law_437 (by decide) ?_
  refine g_iadd (pc := 438) C dL_law_438 ?_
  obtain ⟨k439, h⟩ := hv_if_some h
  refine g_sld (pc := 439) CL k439 dL_law_439 ?_
  refine g_if_eq (pc := 440) (tgt := 447) C dL_law_440 (by decide) (fun c440 => ?_) (fun c440 => ?_)
  · rw [if_pos c440] at h
    refine g_iconst (pc := 447) C (v := (0 : Int32)) dL_law_447 (by decide) ?_
    exact g_lv [0, 1, 2, 3, 4] rfl (bL_law_448 hflag CL hcl hr23 σ (x4) ((0 : Int32)) (xs ((x4) + ((2 : Int32))).toNatClampNeg) (xs ((x4) + ((1 : Int32))).toNatClampNeg) h)
  · rw [if_neg c440] at h
    refine g_iconst (pc := 443) C (v := (1 : Int32)) dL_law_443 (by decide) ?_
    refine g_goto (pc := 444) C (tgt := 448) dL_law_444 (by decide) ?_
    exact g_lv [0, 1, 2, 3, 4] rfl (bL_law_448 hflag CL hcl hr23 σ (x4) ((1 : Int32)) (xs ((x4) + ((2 : Int32))).toNatClampNeg) (xs ((x4) + ((1 : Int32))).toNatClampNeg) h)
set_option maxHeartbeats 4000000 in
set_option maxRecDepth 20000 in
theorem bL_law_407 (hflag : l.stackTraces = false) (CL : hv_CL p s m meth c D cy a b L xs) (hcl : cells + 2 ≤ room_1.cells ∧ slots + 12 ≤ room_1.slots) {n : Nat} {r23 : hv_St → Int32 → Option Unit} (hr23 : ∀ (σ : hv_St) (x4 : Int32), r23 σ x4 = some () → hv_G p l e room_1 s m #[Value.ref b] below meth c 8 D 79 a (hv_LE a cy) (cells + 2) (slots + 12) (lw_Z below #[Value.ref b] s) σ 23 [(0, .ref b), (1, .ref (a 0)), (2, .ref (a 56)), (3, .ref (a 55)), (4, .int (x4))] []) : ∀ (σ : hv_St) (x4 : Int32) (z0 : Int32) (z1 : Int32) (z3 : Int32), kL_law_407 n L xs r23 σ x4 z0 z1 z3 = some () → hv_G p l e room_1 s m #[Value.ref b] below meth c 8 D 79 a (hv_LE a cy) cells slots (lw_Z below #[Value.ref b] s) σ 407 [(0, .ref b), (1, .ref (a 0)), (2, .ref (a 56)), (3, .ref (a 55)), (4, .int (x4))] [.int (z0), .int (z1), .ref (a 56), .int (z3)] := by
  intro σ x4 z0 z1 z3 h
  have C := CL.1
  unfold kL_law_407 at h
  refine g_aload_n (pc := 407) C 0 dL_law_407 rfl rfl ?_
  refine g_iload (pc := 408) C 4 dL_law_408 rfl ?_
  refine g_iconst (pc := 410) C (v := (3 : Int32)) dL_law_410 (by decide) ?_
  refine g_iadd (pc := 411) C dL_law_411 ?_
  obtain ⟨k412, h⟩ := hv_if_some h
  refine g_sld (pc := 412) CL k412 dL_law_412 ?_
  obtain ⟨r413, t413, hc413, h⟩ := hv_b2_some h
  refine g_subV (pc := 413) (cells := cells) (slots := slots) (o := 56) (X2 := hv_ME (fun i => a (i + 56)) cy) (n := 23) (τ := t413) (v := some (.int (r413))) (As := [.int (z1), .int (z0), .int (xs ((x4) + ((3 : Int32))).toNatClampNeg)]) (rest := [.int (z3)]) C 0 (hv_LE_M a cy) (Nat.le_of_ble_eq_true rfl) (vX8_alter (a := fun i => a (i + 56)) hc413) (cwV 3 C.1.2.2.2.2 gL_law_X8_alter rfl rfl rfl (by decide +kernel) ⟨Nat.le_of_ble_eq_true rfl, Nat.le_of_ble_eq_true rfl⟩) (Nat.le_of_ble_eq_true rfl) rfl rfl rfl rfl (Nat.le_of_ble_eq_true rfl) dL_law_413 (hv_cl 0 hcl (by decide)) ?_
  refine g_st (st' := [.int (r413), .int (z3)]) rfl ?_
  refine g_icmp_eq (pc := 416) (tgt := 1699) C dL_law_416 (by decide) (fun c416 => ?_) (fun c416 => ?_)
  · rw [if_pos c416] at h
    refine g_widen (cells := cells) (slots := slots) (k := cells + 2) (n := slots + 12) (by omega) (by omega) ?_
    exact g_lv [0, 1, 2, 3, 4] rfl (bL_law_1699 hflag CL hcl hr23 (hv_mg 56 23 (σ) t413) (x4) h)
  · rw [if_neg c416] at h
    cases h
set_option maxHeartbeats 4000000 in
set_option maxRecDepth 20000 in
theorem bL_law_377 (hflag : l.stackTraces = false) (CL : hv_CL p s m meth c D cy a b L xs) (hcl : cells + 2 ≤ room_1.cells ∧ slots + 12 ≤ room_1.slots) {n : Nat} {r23 : hv_St → Int32 → Option Unit} (hr23 : ∀ (σ : hv_St) (x4 : Int32), r23 σ x4 = some () → hv_G p l e room_1 s m #[Value.ref b] below meth c 8 D 79 a (hv_LE a cy) (cells + 2) (slots + 12) (lw_Z below #[Value.ref b] s) σ 23 [(0, .ref b), (1, .ref (a 0)), (2, .ref (a 56)), (3, .ref (a 55)), (4, .int (x4))] []) : ∀ (σ : hv_St) (x4 : Int32) (z0 : Int32) (z1 : Int32), kL_law_377 n L xs r23 σ x4 z0 z1 = some () → hv_G p l e room_1 s m #[Value.ref b] below meth c 8 D 79 a (hv_LE a cy) cells slots (lw_Z below #[Value.ref b] s) σ 377 [(0, .ref b), (1, .ref (a 0)), (2, .ref (a 56)), (3, .ref (a 55)), (4, .int (x4))] [.int (z0), .int (z1), .ref (a 0)] := by
  intro σ x4 z0 z1 h
  have C := CL.1
  unfold kL_law_377 at h
  refine g_aload_n (pc := 377) C 0 dL_law_377 rfl rfl ?_
  refine g_iload (pc := 378) C 4 dL_law_378 rfl ?_
  refine g_iconst (pc := 380) C (v := (3 : Int32)) dL_law_380 (by decide) ?_
  refine g_iadd (pc := 381) C dL_law_381 ?_
  obtain ⟨k382, h⟩ := hv_if_some h
  refine g_sld (pc := 382) CL k382 dL_law_382 ?_
  obtain ⟨r383, t383, hc383, h⟩ := hv_b2_some h
  refine g_subV (pc := 383) (cells := cells) (slots := slots) (o := 0) (X2 := hv_XE (fun i => a (i + 0)) cy) (n := 55) (τ := t383) (v := some (.int (r383))) (As := [.int (z1), .int (z0), .int (xs ((x4) + ((3 : Int32))).toNatClampNeg)]) (rest := []) C 0 (hv_LE_X a cy) (Nat.le_of_ble_eq_true rfl) (vX7_alter (a := fun i => a (i + 0)) hc383) (cwV 3 C.1.2.2.2.2 gL_law_X7_alter rfl rfl rfl (by decide +kernel) ⟨Nat.le_of_ble_eq_true rfl, Nat.le_of_ble_eq_true rfl⟩) (Nat.le_of_ble_eq_true rfl) rfl rfl rfl rfl (Nat.le_of_ble_eq_true rfl) dL_law_383 (hv_cl 0 hcl (by decide)) ?_
  refine g_st (st' := [.int (r383)]) rfl ?_
  refine g_aload_n (pc := 386) C 2 dL_law_386 rfl rfl ?_
  refine g_aload_n (pc := 387) C 0 dL_law_387 rfl rfl ?_
  refine g_iload (pc := 388) C 4 dL_law_388 rfl ?_
  refine g_iconst (pc := 390) C (v := (1 : Int32)) dL_law_390 (by decide) ?_
  refine g_iadd (pc := 391) C dL_law_391 ?_
  obtain ⟨k392, h⟩ := hv_if_some h
  refine g_sld (pc := 392) CL k392 dL_law_392 ?_
  refine g_aload_n (pc := 393) C 0 dL_law_393 rfl rfl ?_
  refine g_iload (pc := 394) C 4 dL_law_394 rfl ?_
  refine g_iconst (pc := 396) C (v := (2 : Int32)) dL_law_396 (by decide) ?_
  refine g_iadd (pc := 397) C dL_law_397 ?_
  obtain ⟨k398, h⟩ := hv_if_some h
  refine g_sld (pc := 398) CL k398 dL_law_398 ?_
  refine g_if_eq (pc := 399) (tgt := 406) C dL_law_399 (by decide) (fun c399 => ?_) (fun c399 => ?_)
  · rw [if_pos c399] at h
    refine g_iconst (pc := 406) C (v := (0 : Int32)) dL_law_406 (by decide) ?_
    exact g_lv [0, 1, 2, 3, 4] rfl (bL_law_407 hflag CL hcl hr23 (hv_mg 0 55 (σ) t383) (x4) ((0 : Int32)) (xs ((x4) + ((1 : Int32))).toNatClampNeg) (r383) h)
  · rw [if_neg c399] at h
    refine g_iconst (pc := 402) C (v := (1 : Int32)) dL_law_402 (by decide) ?_
    refine g_goto (pc := 403) C (tgt := 407) dL_law_403 (by decide) ?_
    exact g_lv [0, 1, 2, 3, 4] rfl (bL_law_407 hflag CL hcl hr23 (hv_mg 0 55 (σ) t383) (x4) ((1 : Int32)) (xs ((x4) + ((1 : Int32))).toNatClampNeg) (r383) h)
set_option maxHeartbeats 4000000 in
set_option maxRecDepth 20000 in
theorem bL_law_356 (hflag : l.stackTraces = false) (CL : hv_CL p s m meth c D cy a b L xs) (hcl : cells + 2 ≤ room_1.cells ∧ slots + 12 ≤ room_1.slots) {n : Nat} {r23 : hv_St → Int32 → Option Unit} (hr23 : ∀ (σ : hv_St) (x4 : Int32), r23 σ x4 = some () → hv_G p l e room_1 s m #[Value.ref b] below meth c 8 D 79 a (hv_LE a cy) (cells + 2) (slots + 12) (lw_Z below #[Value.ref b] s) σ 23 [(0, .ref b), (1, .ref (a 0)), (2, .ref (a 56)), (3, .ref (a 55)), (4, .int (x4))] []) : ∀ (σ : hv_St) (x4 : Int32), kL_law_356 n L xs r23 σ x4 = some () → hv_G p l e room_1 s m #[Value.ref b] below meth c 8 D 79 a (hv_LE a cy) cells slots (lw_Z below #[Value.ref b] s) σ 356 [(0, .ref b), (1, .ref (a 0)), (2, .ref (a 56)), (3, .ref (a 55)), (4, .int (x4))] [] := by
  intro σ x4 h
  have C := CL.1
  unfold kL_law_356 at h
  refine g_aload_n (pc := 356) C 1 dL_law_356 rfl rfl ?_
  refine g_aload_n (pc := 357) C 0 dL_law_357 rfl rfl ?_
  refine g_iload (pc := 358) C 4 dL_law_358 rfl ?_
  refine g_iconst (pc := 360) C (v := (1 : Int32)) dL_law_360 (by decide) ?_
  refine g_iadd (pc := 361) C dL_law_361 ?_
  obtain ⟨k362, h⟩ := hv_if_some h
  refine g_sld (pc := 362) CL k362 dL_law_362 ?_
  refine g_aload_n (pc := 363) C 0 dL_law_363 rfl rfl ?_
  refine g_iload (pc := 364) C 4 dL_law_364 rfl ?_
  refine g_iconst (pc := 366) C (v := (2 : Int32)) dL_law_366 (by decide) ?_
  refine g_iadd (pc := 367) C dL_law_367 ?_
  obtain ⟨k368, h⟩ := hv_if_some h
  refine g_sld (pc := 368) CL k368 dL_law_368 ?_
  refine g_if_eq (pc := 369) (tgt := 376) C dL_law_369 (by decide) (fun c369 => ?_) (fun c369 => ?_)
  · rw [if_pos c369] at h
    refine g_iconst (pc := 376) C (v := (0 : Int32)) dL_law_376 (by decide) ?_
    exact g_lv [0, 1, 2, 3, 4] rfl (bL_law_377 hflag CL hcl hr23 σ (x4) ((0 : Int32)) (xs ((x4) + ((1 : Int32))).toNatClampNeg) h)
  · rw [if_neg c369] at h
    refine g_iconst (pc := 372) C (v := (1 : Int32)) dL_law_372 (by decide) ?_
    refine g_goto (pc := 373) C (tgt := 377) dL_law_373 (by decide) ?_
    exact g_lv [0, 1, 2, 3, 4] rfl (bL_law_377 hflag CL hcl hr23 σ (x4) ((1 : Int32)) (xs ((x4) + ((1 : Int32))).toNatClampNeg) h)
set_option maxHeartbeats 4000000 in
set_option maxRecDepth 20000 in
theorem bL_law_348 (hflag : l.stackTraces = false) (CL : hv_CL p s m meth c D cy a b L xs) (hcl : cells + 2 ≤ room_1.cells ∧ slots + 12 ≤ room_1.slots) {n : Nat} {r23 : hv_St → Int32 → Option Unit} (hr23 : ∀ (σ : hv_St) (x4 : Int32), r23 σ x4 = some () → hv_G p l e room_1 s m #[Value.ref b] below meth c 8 D 79 a (hv_LE a cy) (cells + 2) (slots + 12) (lw_Z below #[Value.ref b] s) σ 23 [(0, .ref b), (1, .ref (a 0)), (2, .ref (a 56)), (3, .ref (a 55)), (4, .int (x4))] []) : ∀ (σ : hv_St) (x4 : Int32) (z0 : Int32) (z1 : Int32) (z3 : Int32), kL_law_348 n L xs r23 σ x4 z0 z1 z3 = some () → hv_G p l e room_1 s m #[Value.ref b] below meth c 8 D 79 a (hv_LE a cy) cells slots (lw_Z below #[Value.ref b] s) σ 348 [(0, .ref b), (1, .ref (a 0)), (2, .ref (a 56)), (3, .ref (a 55)), (4, .int (x4))] [.int (z0), .int (z1), .ref (a 56), .int (z3)] := by
  intro σ x4 z0 z1 z3 h
  have C := CL.1
  unfold kL_law_348 at h
  obtain ⟨r348, t348, hc348, h⟩ := hv_b2_some h
  refine g_subV (pc := 348) (cells := cells) (slots := slots) (o := 56) (X2 := hv_ME (fun i => a (i + 56)) cy) (n := 23) (τ := t348) (v := some (.int (r348))) (As := [.int (z1), .int (z0)]) (rest := [.int (z3)]) C 0 (hv_LE_M a cy) (Nat.le_of_ble_eq_true rfl) (vX8_turn (a := fun i => a (i + 56)) hc348) (cwV 2 C.1.2.2.2.2 gL_law_X8_turn rfl rfl rfl (by decide +kernel) ⟨Nat.le_of_ble_eq_true rfl, Nat.le_of_ble_eq_true rfl⟩) (Nat.le_of_ble_eq_true rfl) rfl rfl rfl rfl (Nat.le_of_ble_eq_true rfl) dL_law_348 (hv_cl 0 hcl (by decide)) ?_
  refine g_st (st' := [.int (r348), .int (z3)]) rfl ?_
  refine g_icmp_eq (pc := 351) (tgt := 1699) C dL_law_351 (by decide) (fun c351 => ?_) (fun c351 => ?_)
  · rw [if_pos c351] at h
    refine g_widen (cells := cells) (slots := slots) (k := cells + 2) (n := slots + 12) (by omega) (by omega) ?_
    exact g_lv [0, 1, 2, 3, 4] rfl (bL_law_1699 hflag CL hcl hr23 (hv_mg 56 23 (σ) t348) (x4) h)
  · rw [if_neg c351] at h
    cases h
set_option maxHeartbeats 4000000 in
set_option maxRecDepth 20000 in
theorem bL_law_324 (hflag : l.stackTraces = false) (CL : hv_CL p s m meth c D cy a b L xs) (hcl : cells + 2 ≤ room_1.cells ∧ slots + 12 ≤ room_1.slots) {n : Nat} {r23 : hv_St → Int32 → Option Unit} (hr23 : ∀ (σ : hv_St) (x4 : Int32), r23 σ x4 = some () → hv_G p l e room_1 s m #[Value.ref b] below meth c 8 D 79 a (hv_LE a cy) (cells + 2) (slots + 12) (lw_Z below #[Value.ref b] s) σ 23 [(0, .ref b), (1, .ref (a 0)), (2, .ref (a 56)), (3, .ref (a 55)), (4, .int (x4))] []) : ∀ (σ : hv_St) (x4 : Int32) (z0 : Int32) (z1 : Int32), kL_law_324 n L xs r23 σ x4 z0 z1 = some () → hv_G p l e room_1 s m #[Value.ref b] below meth c 8 D 79 a (hv_LE a cy) cells slots (lw_Z below #[Value.ref b] s) σ 324 [(0, .ref b), (1, .ref (a 0)), (2, .ref (a 56)), (3, .ref (a 55)), (4, .int (x4))] [.int (z0), .int (z1), .ref (a 0)] := by
  intro σ x4 z0 z1 h
  have C := CL.1
  unfold kL_law_324 at h
  obtain ⟨r324, t324, hc324, h⟩ := hv_b2_some h
  refine g_subV (pc := 324) (cells := cells) (slots := slots) (o := 0) (X2 := hv_XE (fun i => a (i + 0)) cy) (n := 55) (τ := t324) (v := some (.int (r324))) (As := [.int (z1), .int (z0)]) (rest := []) C 0 (hv_LE_X a cy) (Nat.le_of_ble_eq_true rfl) (vX7_turn (a := fun i => a (i + 0)) hc324) (cwV 2 C.1.2.2.2.2 gL_law_X7_turn rfl rfl rfl (by decide +kernel) ⟨Nat.le_of_ble_eq_true rfl, Nat.le_of_ble_eq_true rfl⟩) (Nat.le_of_ble_eq_true rfl) rfl rfl rfl rfl (Nat.le_of_ble_eq_true rfl) dL_law_324 (hv_cl 0 hcl (by decide)) ?_
  refine g_st (st' := [.int (r324)]) rfl ?_
  refine g_aload_n (pc := 327) C 2 dL_law_327 rfl rfl ?_
  refine g_aload_n (pc := 328) C 0 dL_law_328 rfl rfl ?_
  refine g_iload (pc := 329) C 4 dL_law_329 rfl ?_
  refine g_iconst (pc := 331) C (v := (1 : Int32)) dL_law_331 (by decide) ?_
  refine g_iadd (pc := 332) C dL_law_332 ?_
  obtain ⟨k333, h⟩ := hv_if_some h
  refine g_sld (pc := 333) CL k333 dL_law_333 ?_
  refine g_aload_n (pc := 334) C 0 dL_law_334 rfl rfl ?_
  refine g_iload (pc := 335) C 4 dL_law_335 rfl ?_
  refine g_iconst (pc := 337) C (v := (2 : Int32)) dL_law_337 (by decide) ?_
  refine g_iadd (pc := 338) C dL_law_338 ?_
  obtain ⟨k339, h⟩ := hv_if_some h
  refine g_sld (pc := 339) CL k339 dL_law_339 ?_
  refine g_if_eq (pc := 340) (tgt := 347) C dL_law_340 (by decide) (fun c340 => ?_) (fun c340 => ?_)
  · rw [if_pos c340] at h
    refine g_iconst (pc := 347) C (v := (0 : Int32)) dL_law_347 (by decide) ?_
    exact g_lv [0, 1, 2, 3, 4] rfl (bL_law_348 hflag CL hcl hr23 (hv_mg 0 55 (σ) t324) (x4) ((0 : Int32)) (xs ((x4) + ((1 : Int32))).toNatClampNeg) (r324) h)
  · rw [if_neg c340] at h
    refine g_iconst (pc := 343) C (v := (1 : Int32)) dL_law_343 (by decide) ?_
    refine g_goto (pc := 344) C (tgt := 348) dL_law_344 (by decide) ?_
    exact g_lv [0, 1, 2, 3, 4] rfl (bL_law_348 hflag CL hcl hr23 (hv_mg 0 55 (σ) t324) (x4) ((1 : Int32)) (xs ((x4) + ((1 : Int32))).toNatClampNeg) (r324) h)
set_option maxHeartbeats 4000000 in
set_option maxRecDepth 20000 in
theorem bL_law_303 (hflag : l.stackTraces = false) (CL : hv_CL p s m meth c D cy a b L xs) (hcl : cells + 2 ≤ room_1.cells ∧ slots + 12 ≤ room_1.slots) {n : Nat} {r23 : hv_St → Int32 → Option Unit} (hr23 : ∀ (σ : hv_St) (x4 : Int32), r23 σ x4 = some () → hv_G p l e room_1 s m #[Value.ref b] below meth c 8 D 79 a (hv_LE a cy) (cells + 2) (slots + 12) (lw_Z below #[Value.ref b] s) σ 23 [(0, .ref b), (1, .ref (a 0)), (2, .ref (a 56)), (3, .ref (a 55)), (4, .int (x4))] []) : ∀ (σ : hv_St) (x4 : Int32), kL_law_303 n L xs r23 σ x4 = some () → hv_G p l e room_1 s m #[Value.ref b] below meth c 8 D 79 a (hv_LE a cy) cells slots (lw_Z below #[Value.ref b] s) σ 303 [(0, .ref b), (1, .ref (a 0)), (2, .ref (a 56)), (3, .ref (a 55)), (4, .int (x4))] [] := by
  intro σ x4 h
  have C := CL.1
  unfold kL_law_303 at h
  refine g_aload_n (pc := 303) C 1 dL_law_303 rfl rfl ?_
  refine g_aload_n (pc := 304) C 0 dL_law_304 rfl rfl ?_
  refine g_iload (pc := 305) C 4 dL_law_305 rfl ?_
  refine g_iconst (pc := 307) C (v := (1 : Int32)) dL_law_307 (by decide) ?_
  refine g_iadd (pc := 308) C dL_law_308 ?_
  obtain ⟨k309, h⟩ := hv_if_some h
  refine g_sld (pc := 309) CL k309 dL_law_309 ?_
  refine g_aload_n (pc := 310) C 0 dL_law_310 rfl rfl ?_
  refine g_iload (pc := 311) C 4 dL_law_311 rfl ?_
  refine g_iconst (pc := 313) C (v := (2 : Int32)) dL_law_313 (by decide) ?_
  refine g_iadd (pc := 314) C dL_law_314 ?_
  obtain ⟨k315, h⟩ := hv_if_some h
  refine g_sld (pc := 315) CL k315 dL_law_315 ?_
  refine g_if_eq (pc := 316) (tgt := 323) C dL_law_316 (by decide) (fun c316 => ?_) (fun c316 => ?_)
  · rw [if_pos c316] at h
    refine g_iconst (pc := 323) C (v := (0 : Int32)) dL_law_323 (by decide) ?_
    exact g_lv [0, 1, 2, 3, 4] rfl (bL_law_324 hflag CL hcl hr23 σ (x4) ((0 : Int32)) (xs ((x4) + ((1 : Int32))).toNatClampNeg) h)
  · rw [if_neg c316] at h
    refine g_iconst (pc := 319) C (v := (1 : Int32)) dL_law_319 (by decide) ?_
    refine g_goto (pc := 320) C (tgt := 324) dL_law_320 (by decide) ?_
    exact g_lv [0, 1, 2, 3, 4] rfl (bL_law_324 hflag CL hcl hr23 σ (x4) ((1 : Int32)) (xs ((x4) + ((1 : Int32))).toNatClampNeg) h)
set_option maxHeartbeats 4000000 in
set_option maxRecDepth 20000 in
theorem bL_law_254 (hflag : l.stackTraces = false) (CL : hv_CL p s m meth c D cy a b L xs) (hcl : cells + 2 ≤ room_1.cells ∧ slots + 12 ≤ room_1.slots) {n : Nat} {r23 : hv_St → Int32 → Option Unit} (hr23 : ∀ (σ : hv_St) (x4 : Int32), r23 σ x4 = some () → hv_G p l e room_1 s m #[Value.ref b] below meth c 8 D 79 a (hv_LE a cy) (cells + 2) (slots + 12) (lw_Z below #[Value.ref b] s) σ 23 [(0, .ref b), (1, .ref (a 0)), (2, .ref (a 56)), (3, .ref (a 55)), (4, .int (x4))] []) : ∀ (σ : hv_St) (x4 : Int32), kL_law_254 n L xs r23 σ x4 = some () → hv_G p l e room_1 s m #[Value.ref b] below meth c 8 D 79 a (hv_LE a cy) cells slots (lw_Z below #[Value.ref b] s) σ 254 [(0, .ref b), (1, .ref (a 0)), (2, .ref (a 56)), (3, .ref (a 55)), (4, .int (x4))] [] := by
  intro σ x4 h
  have C := CL.1
  unfold kL_law_254 at h
  refine g_aload_n (pc := 254) C 1 dL_law_254 rfl rfl ?_
  refine g_aload_n (pc := 255) C 0 dL_law_255 rfl rfl ?_
  refine g_iload (pc := 256) C 4 dL_law_256 rfl ?_
  refine g_iconst (pc := 258) C (v := (1 : Int32)) dL_law_258 (by decide) ?_
  refine g_iadd (pc := 259) C dL_law_259 ?_
  obtain ⟨k260, h⟩ := hv_if_some h
  refine g_sld (pc := 260) CL k260 dL_law_260 ?_
  refine g_aload_n (pc := 261) C 0 dL_law_261 rfl rfl ?_
  refine g_iload (pc := 262) C 4 dL_law_262 rfl ?_
  refine g_iconst (pc := 264) C (v := (2 : Int32)) dL_law_264 (by decide) ?_
  refine g_iadd (pc := 265) C dL_law_265 ?_
  obtain ⟨k266, h⟩ := hv_if_some h
  refine g_sld (pc := 266) CL k266 dL_law_266 ?_
  refine g_aload_n (pc := 267) C 0 dL_law_267 rfl rfl ?_
  refine g_iload (pc := 268) C 4 dL_law_268 rfl ?_
  refine g_iconst (pc := 270) C (v := (3 : Int32)) dL_law_270 (by decide) ?_
  refine g_iadd (pc := 271) C dL_law_271 ?_
  obtain ⟨k272, h⟩ := hv_if_some h
  refine g_sld (pc := 272) CL k272 dL_law_272 ?_
  obtain ⟨r273, t273, hc273, h⟩ := hv_b2_some h
  refine g_subV (pc := 273) (cells := cells) (slots := slots) (o := 0) (X2 := hv_XE (fun i => a (i + 0)) cy) (n := 55) (τ := t273) (v := some (.int (r273))) (As := [.int (xs ((x4) + ((1 : Int32))).toNatClampNeg), .int (xs ((x4) + ((2 : Int32))).toNatClampNeg), .int (xs ((x4) + ((3 : Int32))).toNatClampNeg)]) (rest := []) C 0 (hv_LE_X a cy) (Nat.le_of_ble_eq_true rfl) (vX7_bar (a := fun i => a (i + 0)) hc273) (cwV 3 C.1.2.2.2.2 gL_law_X7_bar rfl rfl rfl (by decide +kernel) ⟨Nat.le_of_ble_eq_true rfl, Nat.le_of_ble_eq_true rfl⟩) (Nat.le_of_ble_eq_true rfl) rfl rfl rfl rfl (Nat.le_of_ble_eq_true rfl) dL_law_273 (hv_cl 0 hcl (by decide)) ?_
  refine g_st (st' := [.int (r273)]) rfl ?_
  refine g_aload_n (pc := 276) C 2 dL_law_276 rfl rfl ?_
  refine g_aload_n (pc := 277) C 0 dL_law_277 rfl rfl ?_
  refine g_iload (pc := 278) C 4 dL_law_278 rfl ?_
  refine g_iconst (pc := 280) C (v := (1 : Int32)) dL_law_280 (by decide) ?_
  refine g_iadd (pc := 281) C dL_law_281 ?_
  obtain ⟨k282, h⟩ := hv_if_some h
  refine g_sld (pc := 282) CL k282 dL_law_282 ?_
  refine g_aload_n (pc := 283) C 0 dL_law_283 rfl rfl ?_
  refine g_iload (pc := 284) C 4 dL_law_284 rfl ?_
  refine g_iconst (pc := 286) C (v := (2 : Int32)) dL_law_286 (by decide) ?_
  refine g_iadd (pc := 287) C dL_law_287 ?_
  obtain ⟨k288, h⟩ := hv_if_some h
  refine g_sld (pc := 288) CL k288 dL_law_288 ?_
  refine g_aload_n (pc := 289) C 0 dL_law_289 rfl rfl ?_
  refine g_iload (pc := 290) C 4 dL_law_290 rfl ?_
  refine g_iconst (pc := 292) C (v := (3 : Int32)) dL_law_292 (by decide) ?_
  refine g_iadd (pc := 293) C dL_law_293 ?_
  obtain ⟨k294, h⟩ := hv_if_some h
  refine g_sld (pc := 294) CL k294 dL_law_294 ?_
  obtain ⟨r295, t295, hc295, h⟩ := hv_b2_some h
  refine g_subV (pc := 295) (cells := cells) (slots := slots) (o := 56) (X2 := hv_ME (fun i => a (i + 56)) cy) (n := 23) (τ := t295) (v := some (.int (r295))) (As := [.int (xs ((x4) + ((1 : Int32))).toNatClampNeg), .int (xs ((x4) + ((2 : Int32))).toNatClampNeg), .int (xs ((x4) + ((3 : Int32))).toNatClampNeg)]) (rest := [.int (r273)]) C 0 (hv_LE_M a cy) (Nat.le_of_ble_eq_true rfl) (vX8_bar (a := fun i => a (i + 56)) hc295) (cwV 3 C.1.2.2.2.2 gL_law_X8_bar rfl rfl rfl (by decide +kernel) ⟨Nat.le_of_ble_eq_true rfl, Nat.le_of_ble_eq_true rfl⟩) (Nat.le_of_ble_eq_true rfl) rfl rfl rfl rfl (Nat.le_of_ble_eq_true rfl) dL_law_295 (hv_cl 0 hcl (by decide)) ?_
  refine g_st (st' := [.int (r295), .int (r273)]) rfl ?_
  refine g_icmp_eq (pc := 298) (tgt := 1699) C dL_law_298 (by decide) (fun c298 => ?_) (fun c298 => ?_)
  · rw [if_pos c298] at h
    refine g_widen (cells := cells) (slots := slots) (k := cells + 2) (n := slots + 12) (by omega) (by omega) ?_
    exact g_lv [0, 1, 2, 3, 4] rfl (bL_law_1699 hflag CL hcl hr23 (hv_mg 56 23 ((hv_mg 0 55 (σ) t273)) t295) (x4) h)
  · rw [if_neg c298] at h
    cases h
set_option maxHeartbeats 4000000 in
set_option maxRecDepth 20000 in
theorem bL_law_205 (hflag : l.stackTraces = false) (CL : hv_CL p s m meth c D cy a b L xs) (hcl : cells + 2 ≤ room_1.cells ∧ slots + 12 ≤ room_1.slots) {n : Nat} {r23 : hv_St → Int32 → Option Unit} (hr23 : ∀ (σ : hv_St) (x4 : Int32), r23 σ x4 = some () → hv_G p l e room_1 s m #[Value.ref b] below meth c 8 D 79 a (hv_LE a cy) (cells + 2) (slots + 12) (lw_Z below #[Value.ref b] s) σ 23 [(0, .ref b), (1, .ref (a 0)), (2, .ref (a 56)), (3, .ref (a 55)), (4, .int (x4))] []) : ∀ (σ : hv_St) (x4 : Int32), kL_law_205 n L xs r23 σ x4 = some () → hv_G p l e room_1 s m #[Value.ref b] below meth c 8 D 79 a (hv_LE a cy) cells slots (lw_Z below #[Value.ref b] s) σ 205 [(0, .ref b), (1, .ref (a 0)), (2, .ref (a 56)), (3, .ref (a 55)), (4, .int (x4))] [] := by
  intro σ x4 h
  have C := CL.1
  unfold kL_law_205 at h
  refine g_aload_n (pc := 205) C 1 dL_law_205 rfl rfl ?_
  refine g_aload_n (pc := 206) C 0 dL_law_206 rfl rfl ?_
  refine g_iload (pc := 207) C 4 dL_law_207 rfl ?_
  refine g_iconst (pc := 209) C (v := (1 : Int32)) dL_law_209 (by decide) ?_
  refine g_iadd (pc := 210) C dL_law_210 ?_
  obtain ⟨k211, h⟩ := hv_if_some h
  refine g_sld (pc := 211) CL k211 dL_law_211 ?_
  refine g_aload_n (pc := 212) C 0 dL_law_212 rfl rfl ?_
  refine g_iload (pc := 213) C 4 dL_law_213 rfl ?_
  refine g_iconst (pc := 215) C (v := (2 : Int32)) dL_law_215 (by decide) ?_
  refine g_iadd (pc := 216) C dL_law_216 ?_
  obtain ⟨k217, h⟩ := hv_if_some h
  refine g_sld (pc := 217) CL k217 dL_law_217 ?_
  refine g_aload_n (pc := 218) C 0 dL_law_218 rfl rfl ?_
  refine g_iload (pc := 219) C 4 dL_law_219 rfl ?_
  refine g_iconst (pc := 221) C (v := (3 : Int32)) dL_law_221 (by decide) ?_
  refine g_iadd (pc := 222) C dL_law_222 ?_
  obtain ⟨k223, h⟩ := hv_if_some h
  refine g_sld (pc := 223) CL k223 dL_law_223 ?_
  obtain ⟨r224, t224, hc224, h⟩ := hv_b2_some h
  refine g_subV (pc := 224) (cells := cells) (slots := slots) (o := 0) (X2 := hv_XE (fun i => a (i + 0)) cy) (n := 55) (τ := t224) (v := some (.int (r224))) (As := [.int (xs ((x4) + ((1 : Int32))).toNatClampNeg), .int (xs ((x4) + ((2 : Int32))).toNatClampNeg), .int (xs ((x4) + ((3 : Int32))).toNatClampNeg)]) (rest := []) C 0 (hv_LE_X a cy) (Nat.le_of_ble_eq_true rfl) (vX7_place (a := fun i => a (i + 0)) hc224) (cwV 3 C.1.2.2.2.2 gL_law_X7_place rfl rfl rfl (by decide +kernel) ⟨Nat.le_of_ble_eq_true rfl, Nat.le_of_ble_eq_true rfl⟩) (Nat.le_of_ble_eq_true rfl) rfl rfl rfl rfl (Nat.le_of_ble_eq_true rfl) dL_law_224 (hv_cl 0 hcl (by decide)) ?_
  refine g_st (st' := [.int (r224)]) rfl ?_
  refine g_aload_n (pc := 227) C 2 dL_law_227 rfl rfl ?_
  refine g_aload_n (pc := 228) C 0 dL_law_228 rfl rfl ?_
  refine g_iload (pc := 229) C 4 dL_law_229 rfl ?_
  refine g_iconst (pc := 231) C (v := (1 : Int32)) dL_law_231 (by decide) ?_
  refine g_iadd (pc := 232) C dL_law_232 ?_
  obtain ⟨k233, h⟩ := hv_if_some h
  refine g_sld (pc := 233) CL k233 dL_law_233 ?_
  refine g_aload_n (pc := 234) C 0 dL_law_234 rfl rfl ?_
  refine g_iload (pc := 235) C 4 dL_law_235 rfl ?_
  refine g_iconst (pc := 237) C (v := (2 : Int32)) dL_law_237 (by decide) ?_
  refine g_iadd (pc := 238) C dL_law_238 ?_
  obtain ⟨k239, h⟩ := hv_if_some h
  refine g_sld (pc := 239) CL k239 dL_law_239 ?_
  refine g_aload_n (pc := 240) C 0 dL_law_240 rfl rfl ?_
  refine g_iload (pc := 241) C 4 dL_law_241 rfl ?_
  refine g_iconst (pc := 243) C (v := (3 : Int32)) dL_law_243 (by decide) ?_
  refine g_iadd (pc := 244) C dL_law_244 ?_
  obtain ⟨k245, h⟩ := hv_if_some h
  refine g_sld (pc := 245) CL k245 dL_law_245 ?_
  obtain ⟨r246, t246, hc246, h⟩ := hv_b2_some h
  refine g_subV (pc := 246) (cells := cells) (slots := slots) (o := 56) (X2 := hv_ME (fun i => a (i + 56)) cy) (n := 23) (τ := t246) (v := some (.int (r246))) (As := [.int (xs ((x4) + ((1 : Int32))).toNatClampNeg), .int (xs ((x4) + ((2 : Int32))).toNatClampNeg), .int (xs ((x4) + ((3 : Int32))).toNatClampNeg)]) (rest := [.int (r224)]) C 0 (hv_LE_M a cy) (Nat.le_of_ble_eq_true rfl) (vX8_place (a := fun i => a (i + 56)) hc246) (cwV 3 C.1.2.2.2.2 gL_law_X8_place rfl rfl rfl (by decide +kernel) ⟨Nat.le_of_ble_eq_true rfl, Nat.le_of_ble_eq_true rfl⟩) (Nat.le_of_ble_eq_true rfl) rfl rfl rfl rfl (Nat.le_of_ble_eq_true rfl) dL_law_246 (hv_cl 0 hcl (by decide)) ?_
  refine g_st (st' := [.int (r246), .int (r224)]) rfl ?_
  refine g_icmp_eq (pc := 249) (tgt := 1699) C dL_law_249 (by decide) (fun c249 => ?_) (fun c249 => ?_)
  · rw [if_pos c249] at h
    refine g_widen (cells := cells) (slots := slots) (k := cells + 2) (n := slots + 12) (by omega) (by omega) ?_
    exact g_lv [0, 1, 2, 3, 4] rfl (bL_law_1699 hflag CL hcl hr23 (hv_mg 56 23 ((hv_mg 0 55 (σ) t224)) t246) (x4) h)
  · rw [if_neg c249] at h
    cases h
set_option maxHeartbeats 4000000 in
set_option maxRecDepth 20000 in
theorem bL_law_168 (hflag : l.stackTraces = false) (CL : hv_CL p s m meth c D cy a b L xs) (hcl : cells + 2 ≤ room_1.cells ∧ slots + 12 ≤ room_1.slots) {n : Nat} {r23 : hv_St → Int32 → Option Unit} (hr23 : ∀ (σ : hv_St) (x4 : Int32), r23 σ x4 = some () → hv_G p l e room_1 s m #[Value.ref b] below meth c 8 D 79 a (hv_LE a cy) (cells + 2) (slots + 12) (lw_Z below #[Value.ref b] s) σ 23 [(0, .ref b), (1, .ref (a 0)), (2, .ref (a 56)), (3, .ref (a 55)), (4, .int (x4))] []) : ∀ (σ : hv_St) (x4 : Int32), kL_law_168 n L xs r23 σ x4 = some () → hv_G p l e room_1 s m #[Value.ref b] below meth c 8 D 79 a (hv_LE a cy) cells slots (lw_Z below #[Value.ref b] s) σ 168 [(0, .ref b), (1, .ref (a 0)), (2, .ref (a 56)), (3, .ref (a 55)), (4, .int (x4))] [] := by
  intro σ x4 h
  have C := CL.1
  unfold kL_law_168 at h
  refine g_aload_n (pc := 168) C 1 dL_law_168 rfl rfl ?_
  refine g_aload_n (pc := 169) C 0 dL_law_169 rfl rfl ?_
  refine g_iload (pc := 170) C 4 dL_law_170 rfl ?_
  refine g_iconst (pc := 172) C (v := (1 : Int32)) dL_law_172 (by decide) ?_
  refine g_iadd (pc := 173) C dL_law_173 ?_
  obtain ⟨k174, h⟩ := hv_if_some h
  refine g_sld (pc := 174) CL k174 dL_law_174 ?_
  refine g_aload_n (pc := 175) C 0 dL_law_175 rfl rfl ?_
  refine g_iload (pc := 176) C 4 dL_law_176 rfl ?_
  refine g_iconst (pc := 178) C (v := (2 : Int32)) dL_law_178 (by decide) ?_
  refine g_iadd (pc := 179) C dL_law_179 ?_
  obtain ⟨k180, h⟩ := hv_if_some h
  refine g_sld (pc := 180) CL k180 dL_law_180 ?_
  obtain ⟨r181, t181, hc181, h⟩ := hv_b2_some h
  refine g_subV (pc := 181) (cells := cells) (slots := slots) (o := 0) (X2 := hv_XE (fun i => a (i + 0)) cy) (n := 55) (τ := t181) (v := some (.int (r181))) (As := [.int (xs ((x4) + ((1 : Int32))).toNatClampNeg), .int (xs ((x4) + ((2 : Int32))).toNatClampNeg)]) (rest := []) C 0 (hv_LE_X a cy) (Nat.le_of_ble_eq_true rfl) (vX7_pin (a := fun i => a (i + 0)) hc181) (cwV 2 C.1.2.2.2.2 gL_law_X7_pin rfl rfl rfl (by decide +kernel) ⟨Nat.le_of_ble_eq_true rfl, Nat.le_of_ble_eq_true rfl⟩) (Nat.le_of_ble_eq_true rfl) rfl rfl rfl rfl (Nat.le_of_ble_eq_true rfl) dL_law_181 (hv_cl 0 hcl (by decide)) ?_
  refine g_st (st' := [.int (r181)]) rfl ?_
  refine g_aload_n (pc := 184) C 2 dL_law_184 rfl rfl ?_
  refine g_aload_n (pc := 185) C 0 dL_law_185 rfl rfl ?_
  refine g_iload (pc := 186) C 4 dL_law_186 rfl ?_
  refine g_iconst (pc := 188) C (v := (1 : Int32)) dL_law_188 (by decide) ?_
  refine g_iadd (pc := 189) C dL_law_189 ?_
  obtain ⟨k190, h⟩ := hv_if_some h
  refine g_sld (pc := 190) CL k190 dL_law_190 ?_
  refine g_aload_n (pc := 191) C 0 dL_law_191 rfl rfl ?_
  refine g_iload (pc := 192) C 4 dL_law_192 rfl ?_
  refine g_iconst (pc := 194) C (v := (2 : Int32)) dL_law_194 (by decide) ?_
  refine g_iadd (pc := 195) C dL_law_195 ?_
  obtain ⟨k196, h⟩ := hv_if_some h
  refine g_sld (pc := 196) CL k196 dL_law_196 ?_
  obtain ⟨r197, t197, hc197, h⟩ := hv_b2_some h
  refine g_subV (pc := 197) (cells := cells) (slots := slots) (o := 56) (X2 := hv_ME (fun i => a (i + 56)) cy) (n := 23) (τ := t197) (v := some (.int (r197))) (As := [.int (xs ((x4) + ((1 : Int32))).toNatClampNeg), .int (xs ((x4) + ((2 : Int32))).toNatClampNeg)]) (rest := [.int (r181)]) C 0 (hv_LE_M a cy) (Nat.le_of_ble_eq_true rfl) (vX8_pin (a := fun i => a (i + 56)) hc197) (cwV 2 C.1.2.2.2.2 gL_law_X8_pin rfl rfl rfl (by decide +kernel) ⟨Nat.le_of_ble_eq_true rfl, Nat.le_of_ble_eq_true rfl⟩) (Nat.le_of_ble_eq_true rfl) rfl rfl rfl rfl (Nat.le_of_ble_eq_true rfl) dL_law_197 (hv_cl 0 hcl (by decide)) ?_
  refine g_st (st' := [.int (r197), .int (r181)]) rfl ?_
  refine g_icmp_eq (pc := 200) (tgt := 1699) C dL_law_200 (by decide) (fun c200 => ?_) (fun c200 => ?_)
  · rw [if_pos c200] at h
    refine g_widen (cells := cells) (slots := slots) (k := cells + 2) (n := slots + 12) (by omega) (by omega) ?_
    exact g_lv [0, 1, 2, 3, 4] rfl (bL_law_1699 hflag CL hcl hr23 (hv_mg 56 23 ((hv_mg 0 55 (σ) t181)) t197) (x4) h)
  · rw [if_neg c200] at h
    cases h
set_option maxHeartbeats 4000000 in
set_option maxRecDepth 20000 in
theorem bL_law_23 (hflag : l.stackTraces = false) (CL : hv_CL p s m meth c D cy a b L xs) {n : Nat} : ∀ (i cells slots : Nat), (cells + 2 * i ≤ room_1.cells ∧ slots + 12 * i ≤ room_1.slots) → ∀ (σ : hv_St) (x4 : Int32), kL_law_23 n L xs i σ x4 = some () → hv_G p l e room_1 s m #[Value.ref b] below meth c 8 D 79 a (hv_LE a cy) cells slots (lw_Z below #[Value.ref b] s) σ 23 [(0, .ref b), (1, .ref (a 0)), (2, .ref (a 56)), (3, .ref (a 55)), (4, .int (x4))] [] := by
  intro i
  induction i with
  | zero =>
    intro cells slots hcl σ x4 h
    cases h
  | succ i ih =>
    intro cells slots hcl0 σ x4 h
    have hcl : cells + 2 ≤ room_1.cells ∧ slots + 12 ≤ room_1.slots := by omega
    have C := CL.1
    have hr23 := ih (cells + 2) (slots + 12) (by omega)
    generalize hg : kL_law_23 n L xs i = r23 at hr23
    replace h : kL_law_23_b n L xs r23 σ x4 = some () := by rw [← hg]; exact h
    unfold kL_law_23_b at h
    refine g_iload (pc := 23) C 4 dL_law_23 rfl ?_
    refine g_aload_n (pc := 25) C 0 dL_law_25 rfl rfl ?_
    refine g_slen (pc := 26) CL dL_law_26 ?_
    refine g_iconst (pc := 27) C (v := (5 : Int32)) dL_law_27 (by decide) ?_
    refine g_isub (pc := 28) C dL_law_28 ?_
    refine g_icmp_gt (pc := 29) (tgt := 1705) C dL_law_29 (by decide) (fun c29 => ?_) (fun c29 => ?_)
    · rw [if_pos c29] at h
      refine g_iconst (pc := 1705) C (v := (1 : Int32)) dL_law_1705 (by decide) ?_
      exact g_lawret (pc := 1706) CL hcl dL_law_1706
    · rw [if_neg c29] at h
      refine g_aload_n (pc := 32) C 0 dL_law_32 rfl rfl ?_
      refine g_iload (pc := 33) C 4 dL_law_33 rfl ?_
      obtain ⟨k35, h⟩ := hv_if_some h
      refine g_sld (pc := 35) CL k35 dL_law_35 ?_
      refine g_bipush (pc := 36) C (v := (31 : Int32)) dL_law_36 (by decide) ?_
      refine g_iand (pc := 38) C dL_law_38 ?_
      obtain ⟨y_39, ey_39, h⟩ := hv_let_some h
      refine g_nm ey_39 ?_
      by_cases c39_0 : y_39 = (0 : Int32)
      · rw [if_pos c39_0] at h
        refine g_tableIn (pc := 39) (tgt := 168) C dL_law_39 (by rw [c39_0] <;> decide) (by rw [c39_0] <;> decide) (by rw [c39_0] <;> rfl) (by decide) ?_
        exact g_lv [0, 1, 2, 3, 4] rfl (bL_law_168 hflag CL hcl hr23 σ (x4) h)
      · rw [if_neg c39_0] at h
        by_cases c39_1 : y_39 = (1 : Int32)
        · rw [if_pos c39_1] at h
          refine g_tableIn (pc := 39) (tgt := 205) C dL_law_39 (by rw [c39_1] <;> decide) (by rw [c39_1] <;> decide) (by rw [c39_1] <;> rfl) (by decide) ?_
          exact g_lv [0, 1, 2, 3, 4] rfl (bL_law_205 hflag CL hcl hr23 σ (x4) h)
        · rw [if_neg c39_1] at h
          by_cases c39_2 : y_39 = (2 : Int32)
          · rw [if_pos c39_2] at h
            refine g_tableIn (pc := 39) (tgt := 254) C dL_law_39 (by rw [c39_2] <;> decide) (by rw [c39_2] <;> decide) (by rw [c39_2] <;> rfl) (by decide) ?_
            exact g_lv [0, 1, 2, 3, 4] rfl (bL_law_254 hflag CL hcl hr23 σ (x4) h)
          · rw [if_neg c39_2] at h
            by_cases c39_3 : y_39 = (3 : Int32)
            · rw [if_pos c39_3] at h
              refine g_tableIn (pc := 39) (tgt := 303) C dL_law_39 (by rw [c39_3] <;> decide) (by rw [c39_3] <;> decide) (by rw [c39_3] <;> rfl) (by decide) ?_
              exact g_lv [0, 1, 2, 3, 4] rfl (bL_law_303 hflag CL hcl hr23 σ (x4) h)
            · rw [if_neg c39_3] at h
              by_cases c39_4 : y_39 = (4 : Int32)
              · rw [if_pos c39_4] at h
                refine g_tableIn (pc := 39) (tgt := 356) C dL_law_39 (by rw [c39_4] <;> decide) (by rw [c39_4] <;> decide) (by rw [c39_4] <;> rfl) (by decide) ?_
                exact g_lv [0, 1, 2, 3, 4] rfl (bL_law_356 hflag CL hcl hr23 σ (x4) h)
              · rw [if_neg c39_4] at h
                by_cases c39_5 : y_39 = (5 : Int32)
                · rw [if_pos c39_5] at h
                  refine g_tableIn (pc := 39) (tgt := 421) C dL_law_39 (by rw [c39_5] <;> decide) (by rw [c39_5] <;> decide) (by rw [c39_5] <;> rfl) (by decide) ?_
                  exact g_lv [0, 1, 2, 3, 4] rfl (bL_law_421 hflag CL hcl hr23 σ (x4) h)
                · rw [if_neg c39_5] at h
                  by_cases c39_6 : y_39 = (6 : Int32)
                  · rw [if_pos c39_6] at h
                    refine g_tableIn (pc := 39) (tgt := 486) C dL_law_39 (by rw [c39_6] <;> decide) (by rw [c39_6] <;> decide) (by rw [c39_6] <;> rfl) (by decide) ?_
                    exact g_lv [0, 1, 2, 3, 4] rfl (bL_law_486 hflag CL hcl hr23 σ (x4) h)
                  · rw [if_neg c39_6] at h
                    by_cases c39_7 : y_39 = (7 : Int32)
                    · rw [if_pos c39_7] at h
                      refine g_tableIn (pc := 39) (tgt := 535) C dL_law_39 (by rw [c39_7] <;> decide) (by rw [c39_7] <;> decide) (by rw [c39_7] <;> rfl) (by decide) ?_
                      exact g_lv [0, 1, 2, 3, 4] rfl (bL_law_535 hflag CL hcl hr23 σ (x4) h)
                    · rw [if_neg c39_7] at h
                      by_cases c39_8 : y_39 = (8 : Int32)
                      · rw [if_pos c39_8] at h
                        refine g_tableIn (pc := 39) (tgt := 548) C dL_law_39 (by rw [c39_8] <;> decide) (by rw [c39_8] <;> decide) (by rw [c39_8] <;> rfl) (by decide) ?_
                        exact g_lv [0, 1, 2, 3, 4] rfl (bL_law_548 hflag CL hcl hr23 σ (x4) h)
                      · rw [if_neg c39_8] at h
                        by_cases c39_9 : y_39 = (9 : Int32)
                        · rw [if_pos c39_9] at h
                          refine g_tableIn (pc := 39) (tgt := 573) C dL_law_39 (by rw [c39_9] <;> decide) (by rw [c39_9] <;> decide) (by rw [c39_9] <;> rfl) (by decide) ?_
                          exact g_lv [0, 1, 2, 3, 4] rfl (bL_law_573 hflag CL hcl hr23 σ (x4) h)
                        · rw [if_neg c39_9] at h
                          by_cases c39_10 : y_39 = (10 : Int32)
                          · rw [if_pos c39_10] at h
                            refine g_tableIn (pc := 39) (tgt := 586) C dL_law_39 (by rw [c39_10] <;> decide) (by rw [c39_10] <;> decide) (by rw [c39_10] <;> rfl) (by decide) ?_
                            exact g_lv [0, 1, 2, 3, 4] rfl (bL_law_586 hflag CL hcl hr23 σ (x4) h)
                          · rw [if_neg c39_10] at h
                            by_cases c39_11 : y_39 = (11 : Int32)
                            · rw [if_pos c39_11] at h
                              refine g_tableIn (pc := 39) (tgt := 611) C dL_law_39 (by rw [c39_11] <;> decide) (by rw [c39_11] <;> decide) (by rw [c39_11] <;> rfl) (by decide) ?_
                              exact g_lv [0, 1, 2, 3, 4] rfl (bL_law_611 hflag CL hcl hr23 σ (x4) h)
                            · rw [if_neg c39_11] at h
                              by_cases c39_12 : y_39 = (12 : Int32)
                              · rw [if_pos c39_12] at h
                                refine g_tableIn (pc := 39) (tgt := 636) C dL_law_39 (by rw [c39_12] <;> decide) (by rw [c39_12] <;> decide) (by rw [c39_12] <;> rfl) (by decide) ?_
                                exact g_lv [0, 1, 2, 3, 4] rfl (bL_law_636 hflag CL hcl hr23 σ (x4) h)
                              · rw [if_neg c39_12] at h
                                by_cases c39_13 : y_39 = (13 : Int32)
                                · rw [if_pos c39_13] at h
                                  refine g_tableIn (pc := 39) (tgt := 704) C dL_law_39 (by rw [c39_13] <;> decide) (by rw [c39_13] <;> decide) (by rw [c39_13] <;> rfl) (by decide) ?_
                                  exact g_lv [0, 1, 2, 3, 4] rfl (bL_law_704 hflag CL hcl hr23 σ (x4) h)
                                · rw [if_neg c39_13] at h
                                  by_cases c39_14 : y_39 = (14 : Int32)
                                  · rw [if_pos c39_14] at h
                                    refine g_tableIn (pc := 39) (tgt := 772) C dL_law_39 (by rw [c39_14] <;> decide) (by rw [c39_14] <;> decide) (by rw [c39_14] <;> rfl) (by decide) ?_
                                    exact g_lv [0, 1, 2, 3, 4] rfl (bL_law_772 hflag CL hcl hr23 σ (x4) h)
                                  · rw [if_neg c39_14] at h
                                    by_cases c39_15 : y_39 = (15 : Int32)
                                    · rw [if_pos c39_15] at h
                                      refine g_tableIn (pc := 39) (tgt := 855) C dL_law_39 (by rw [c39_15] <;> decide) (by rw [c39_15] <;> decide) (by rw [c39_15] <;> rfl) (by decide) ?_
                                      exact g_lv [0, 1, 2, 3, 4] rfl (bL_law_855 hflag CL hcl hr23 σ (x4) h)
                                    · rw [if_neg c39_15] at h
                                      by_cases c39_16 : y_39 = (16 : Int32)
                                      · rw [if_pos c39_16] at h
                                        refine g_tableIn (pc := 39) (tgt := 950) C dL_law_39 (by rw [c39_16] <;> decide) (by rw [c39_16] <;> decide) (by rw [c39_16] <;> rfl) (by decide) ?_
                                        exact g_lv [0, 1, 2, 3, 4] rfl (bL_law_950 hflag CL hcl hr23 σ (x4) h)
                                      · rw [if_neg c39_16] at h
                                        by_cases c39_17 : y_39 = (17 : Int32)
                                        · rw [if_pos c39_17] at h
                                          refine g_tableIn (pc := 39) (tgt := 1045) C dL_law_39 (by rw [c39_17] <;> decide) (by rw [c39_17] <;> decide) (by rw [c39_17] <;> rfl) (by decide) ?_
                                          exact g_lv [0, 1, 2, 3, 4] rfl (bL_law_1045 hflag CL hcl hr23 σ (x4) h)
                                        · rw [if_neg c39_17] at h
                                          by_cases c39_18 : y_39 = (18 : Int32)
                                          · rw [if_pos c39_18] at h
                                            refine g_tableIn (pc := 39) (tgt := 1140) C dL_law_39 (by rw [c39_18] <;> decide) (by rw [c39_18] <;> decide) (by rw [c39_18] <;> rfl) (by decide) ?_
                                            exact g_lv [0, 1, 2, 3, 4] rfl (bL_law_1140 hflag CL hcl hr23 σ (x4) h)
                                          · rw [if_neg c39_18] at h
                                            by_cases c39_19 : y_39 = (19 : Int32)
                                            · rw [if_pos c39_19] at h
                                              refine g_tableIn (pc := 39) (tgt := 1247) C dL_law_39 (by rw [c39_19] <;> decide) (by rw [c39_19] <;> decide) (by rw [c39_19] <;> rfl) (by decide) ?_
                                              exact g_lv [0, 1, 2, 3, 4] rfl (bL_law_1247 hflag CL hcl hr23 σ (x4) h)
                                            · rw [if_neg c39_19] at h
                                              by_cases c39_20 : y_39 = (20 : Int32)
                                              · rw [if_pos c39_20] at h
                                                refine g_tableIn (pc := 39) (tgt := 1342) C dL_law_39 (by rw [c39_20] <;> decide) (by rw [c39_20] <;> decide) (by rw [c39_20] <;> rfl) (by decide) ?_
                                                exact g_lv [0, 1, 2, 3, 4] rfl (bL_law_1342 hflag CL hcl hr23 σ (x4) h)
                                              · rw [if_neg c39_20] at h
                                                by_cases c39_21 : y_39 = (21 : Int32)
                                                · rw [if_pos c39_21] at h
                                                  refine g_tableIn (pc := 39) (tgt := 1367) C dL_law_39 (by rw [c39_21] <;> decide) (by rw [c39_21] <;> decide) (by rw [c39_21] <;> rfl) (by decide) ?_
                                                  exact g_lv [0, 1, 2, 3, 4] rfl (bL_law_1367 hflag CL hcl hr23 σ (x4) h)
                                                · rw [if_neg c39_21] at h
                                                  by_cases c39_22 : y_39 = (22 : Int32)
                                                  · rw [if_pos c39_22] at h
                                                    refine g_tableIn (pc := 39) (tgt := 1392) C dL_law_39 (by rw [c39_22] <;> decide) (by rw [c39_22] <;> decide) (by rw [c39_22] <;> rfl) (by decide) ?_
                                                    exact g_lv [0, 1, 2, 3, 4] rfl (bL_law_1392 hflag CL hcl hr23 σ (x4) h)
                                                  · rw [if_neg c39_22] at h
                                                    by_cases c39_23 : y_39 = (23 : Int32)
                                                    · rw [if_pos c39_23] at h
                                                      refine g_tableIn (pc := 39) (tgt := 1405) C dL_law_39 (by rw [c39_23] <;> decide) (by rw [c39_23] <;> decide) (by rw [c39_23] <;> rfl) (by decide) ?_
                                                      exact g_lv [0, 1, 2, 3, 4] rfl (bL_law_1405 hflag CL hcl hr23 σ (x4) h)
                                                    · rw [if_neg c39_23] at h
                                                      by_cases c39_24 : y_39 = (24 : Int32)
                                                      · rw [if_pos c39_24] at h
                                                        refine g_tableIn (pc := 39) (tgt := 1500) C dL_law_39 (by rw [c39_24] <;> decide) (by rw [c39_24] <;> decide) (by rw [c39_24] <;> rfl) (by decide) ?_
                                                        exact g_lv [0, 1, 2, 3, 4] rfl (bL_law_1500 hflag CL hcl hr23 σ (x4) h)
                                                      · rw [if_neg c39_24] at h
                                                        by_cases c39_25 : y_39 = (25 : Int32)
                                                        · rw [if_pos c39_25] at h
                                                          refine g_tableIn (pc := 39) (tgt := 1525) C dL_law_39 (by rw [c39_25] <;> decide) (by rw [c39_25] <;> decide) (by rw [c39_25] <;> rfl) (by decide) ?_
                                                          exact g_lv [0, 1, 2, 3, 4] rfl (bL_law_1525 hflag CL hcl hr23 σ (x4) h)
                                                        · rw [if_neg c39_25] at h
                                                          by_cases c39_26 : y_39 = (26 : Int32)
                                                          · rw [if_pos c39_26] at h
                                                            refine g_tableIn (pc := 39) (tgt := 1550) C dL_law_39 (by rw [c39_26] <;> decide) (by rw [c39_26] <;> decide) (by rw [c39_26] <;> rfl) (by decide) ?_
                                                            exact g_lv [0, 1, 2, 3, 4] rfl (bL_law_1550 hflag CL hcl hr23 σ (x4) h)
                                                          · rw [if_neg c39_26] at h
                                                            by_cases c39_27 : y_39 = (27 : Int32)
                                                            · rw [if_pos c39_27] at h
                                                              refine g_tableIn (pc := 39) (tgt := 1645) C dL_law_39 (by rw [c39_27] <;> decide) (by rw [c39_27] <;> decide) (by rw [c39_27] <;> rfl) (by decide) ?_
                                                              exact g_lv [0, 1, 2, 3, 4] rfl (bL_law_1645 hflag CL hcl hr23 σ (x4) h)
                                                            · rw [if_neg c39_27] at h
                                                              by_cases c39_28 : y_39 = (28 : Int32)
                                                              · rw [if_pos c39_28] at h
                                                                refine g_tableIn (pc := 39) (tgt := 1658) C dL_law_39 (by rw [c39_28] <;> decide) (by rw [c39_28] <;> decide) (by rw [c39_28] <;> rfl) (by decide) ?_
                                                                exact g_lv [0, 1, 2, 3, 4] rfl (bL_law_1658 hflag CL hcl hr23 σ (x4) h)
                                                              · rw [if_neg c39_28] at h
                                                                have nc39_0 := lv_neT c39_0 (a := 0) (by decide)
                                                                have nc39_1 := lv_neT c39_1 (a := 1) (by decide)
                                                                have nc39_2 := lv_neT c39_2 (a := 2) (by decide)
                                                                have nc39_3 := lv_neT c39_3 (a := 3) (by decide)
                                                                have nc39_4 := lv_neT c39_4 (a := 4) (by decide)
                                                                have nc39_5 := lv_neT c39_5 (a := 5) (by decide)
                                                                have nc39_6 := lv_neT c39_6 (a := 6) (by decide)
                                                                have nc39_7 := lv_neT c39_7 (a := 7) (by decide)
                                                                have nc39_8 := lv_neT c39_8 (a := 8) (by decide)
                                                                have nc39_9 := lv_neT c39_9 (a := 9) (by decide)
                                                                have nc39_10 := lv_neT c39_10 (a := 10) (by decide)
                                                                have nc39_11 := lv_neT c39_11 (a := 11) (by decide)
                                                                have nc39_12 := lv_neT c39_12 (a := 12) (by decide)
                                                                have nc39_13 := lv_neT c39_13 (a := 13) (by decide)
                                                                have nc39_14 := lv_neT c39_14 (a := 14) (by decide)
                                                                have nc39_15 := lv_neT c39_15 (a := 15) (by decide)
                                                                have nc39_16 := lv_neT c39_16 (a := 16) (by decide)
                                                                have nc39_17 := lv_neT c39_17 (a := 17) (by decide)
                                                                have nc39_18 := lv_neT c39_18 (a := 18) (by decide)
                                                                have nc39_19 := lv_neT c39_19 (a := 19) (by decide)
                                                                have nc39_20 := lv_neT c39_20 (a := 20) (by decide)
                                                                have nc39_21 := lv_neT c39_21 (a := 21) (by decide)
                                                                have nc39_22 := lv_neT c39_22 (a := 22) (by decide)
                                                                have nc39_23 := lv_neT c39_23 (a := 23) (by decide)
                                                                have nc39_24 := lv_neT c39_24 (a := 24) (by decide)
                                                                have nc39_25 := lv_neT c39_25 (a := 25) (by decide)
                                                                have nc39_26 := lv_neT c39_26 (a := 26) (by decide)
                                                                have nc39_27 := lv_neT c39_27 (a := 27) (by decide)
                                                                have nc39_28 := lv_neT c39_28 (a := 28) (by decide)
                                                                refine g_tableOut (pc := 39) (tgt := 1699) C dL_law_39 (by omega) (by decide) ?_
                                                                refine g_widen (cells := cells) (slots := slots) (k := cells + 2) (n := slots + 12) (by omega) (by omega) ?_
                                                                exact g_lv [0, 1, 2, 3, 4] rfl (bL_law_1699 hflag CL hcl hr23 σ (x4) h)
end
