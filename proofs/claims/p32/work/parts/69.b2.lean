/-! L_areStates, walked -/
section
variable {p : Program} {l : Launch} {e : Env} {s : State} {m : MethodId} {args : Array Value} {below : List Frame} {meth : Method} {c : Code} {D : va_G} {cy : ClassId × ClassId × ClassId × ClassId} {A : Nat → Prop} {a b : Nat → Nat} {d0 : Nat}
abbrev rmQ_areStates : Room := { frames := 9, cells := 6093, slots := 12 * 6093, locals := 188 }
def kQ_areStates_434 (n : Nat) (r359 : hv_St → hv_St → Int32 → Int32 → Option (hv_St × hv_St)) (r373 : hv_St → hv_St → Int32 → Int32 → (Int64 × Int64) → Int32 → Option (hv_St × hv_St)) (σ τ : hv_St) (x2 : Int32) (x3 : Int32) (x5 : Int32) (z0 : Int64 × Int64) : Option (hv_St × hv_St) := r373 (σ) (τ) (x2) (x3) (z0) ((x5) + 1)
def kQ_areStates_373_b (n : Nat) (r359 : hv_St → hv_St → Int32 → Int32 → Option (hv_St × hv_St)) (r373 : hv_St → hv_St → Int32 → Int32 → (Int64 × Int64) → Int32 → Option (hv_St × hv_St)) (σ τ : hv_St) (x2 : Int32) (x3 : Int32) (x4 : Int64 × Int64) (x5 : Int32) : Option (hv_St × hv_St) := if (τ).1 1 8 ≤ x5 then (if lg_cmp ((x4).1) ((0 : Int64)) = 0 then (r359 (σ) (τ) (x2) ((x3) + 1)) else (none)) else (hv_b2 (mL_isOn n hv_0 ((τ).1 1 9) (x5)) fun r388 _ => if r388 = 0 then (kQ_areStates_434 n r359 r373 (σ) (τ) (x2) (x3) (x5) (x4)) else (hv_if (hv_ok (x5) 11) (hv_b2 (mQ_pull n (σ) (x5)) fun r410 s410 => hv_ox r410 (none) (fun x410 => hv_bd (mQ_times n ((((τ).1 8 (x5).toNatClampNeg).toInt64, (1 : Int64))) (x410)) fun r413 => hv_b2 (mQ_state n (s410) (x3) (x5)) fun r420 s420 => hv_ox r420 (none) (fun x420 => hv_bd (mQ_times n (r413) (x420)) fun r423 => hv_bd (mQ_plus n (x4) (r423)) fun r426 => kQ_areStates_434 n r359 r373 (s420) (τ) (x2) (x3) (x5) (r426))))))
def kQ_areStates_373 (n : Nat) (r359 : hv_St → hv_St → Int32 → Int32 → Option (hv_St × hv_St)) : Nat → hv_St → hv_St → Int32 → Int32 → (Int64 × Int64) → Int32 → Option (hv_St × hv_St)
  | 0 => fun _ _ _ _ _ _ => none
  | i + 1 => kQ_areStates_373_b n r359 (kQ_areStates_373 n r359 i)
def kQ_areStates_359_b (n : Nat) (r359 : hv_St → hv_St → Int32 → Int32 → Option (hv_St × hv_St)) (σ τ : hv_St) (x2 : Int32) (x3 : Int32) : Option (hv_St × hv_St) := if x2 ≤ x3 then (hv_b2 (mQ_state n (σ) (x2) ((0 : Int32))) fun r462 s462 => hv_ox r462 (hv_b2 (mQ_state n (s462) ((-2 : Int32)) ((0 : Int32))) fun r472 s472 => hv_ox r472 (some ((s472), (τ))) (fun x472 => none)) (fun x462 => none)) else (kQ_areStates_373 n r359 12 (σ) (τ) (x2) (x3) (((0 : Int64), (1 : Int64))) ((0 : Int32)))
def kQ_areStates_359 (n : Nat) : Nat → hv_St → hv_St → Int32 → Int32 → Option (hv_St × hv_St)
  | 0 => fun _ _ _ _ => none
  | i + 1 => kQ_areStates_359_b n (kQ_areStates_359 n i)
def kQ_areStates_351 (n : Nat) (r179 : hv_St → hv_St → Int32 → Int32 → Option (hv_St × hv_St)) (σ τ : hv_St) (x2 : Int32) (x3 : Int32) : Option (hv_St × hv_St) := r179 (σ) (τ) (x2) ((x3) + 1)
def kQ_areStates_304 (n : Nat) (r179 : hv_St → hv_St → Int32 → Int32 → Option (hv_St × hv_St)) (r228 : hv_St → hv_St → Int32 → Int32 → (Int64 × Int64) → Int32 → Option (hv_St × hv_St)) (σ τ : hv_St) (x2 : Int32) (x3 : Int32) (x4 : Int64 × Int64) (x5 : Int32) : Option (hv_St × hv_St) := r228 (σ) (τ) (x2) (x3) (x4) ((x5) + 1)
def kQ_areStates_298 (n : Nat) (r179 : hv_St → hv_St → Int32 → Int32 → Option (hv_St × hv_St)) (r228 : hv_St → hv_St → Int32 → Int32 → (Int64 × Int64) → Int32 → Option (hv_St × hv_St)) (σ τ : hv_St) (x2 : Int32) (x3 : Int32) (x4 : Int64 × Int64) (x5 : Int32) (z0 : Int64) (z1 : Int64) : Option (hv_St × hv_St) := if lg_cmp (z1) (z0) = 0 then (kQ_areStates_304 n r179 r228 (σ) (τ) (x2) (x3) (x4) (x5)) else (none)
def kQ_areStates_228_b (n : Nat) (r179 : hv_St → hv_St → Int32 → Int32 → Option (hv_St × hv_St)) (r228 : hv_St → hv_St → Int32 → Int32 → (Int64 × Int64) → Int32 → Option (hv_St × hv_St)) (σ τ : hv_St) (x2 : Int32) (x3 : Int32) (x4 : Int64 × Int64) (x5 : Int32) : Option (hv_St × hv_St) := if x2 ≤ x5 then (hv_b2 (mQ_pull n (σ) (x3)) fun r312 s312 => hv_ox r312 (none) (fun x312 => hv_bd (mQ_isLeast n (x312)) fun r319 => if r319 = 0 then (none) else (if lg_cmp ((x4).1) ((x312).1) = 0 then (if lg_cmp ((x4).2) ((x312).2) = 0 then (kQ_areStates_351 n r179 (s312) (τ) (x2) (x3)) else (none)) else (none)))) else (hv_b2 (mQ_state n (σ) (x5) (x3)) fun r240 s240 => hv_ox r240 (hv_b2 (mL_spareAt n (s240) (x5)) fun r247 s247 => hv_b2 (mQ_pull n (s247) (r247)) fun r250 s250 => hv_ox r250 (none) (fun x250 => none)) (fun x240 => hv_b2 (mL_spareAt n (s240) (x5)) fun r247 s247 => hv_b2 (mQ_pull n (s247) (r247)) fun r250 s250 => hv_ox r250 (none) (fun x250 => hv_bd (mQ_times n (x240) (x250)) fun r253 => hv_bd (mQ_plus n (x4) (r253)) fun r256 => hv_b2 (mX7_count n (s250) ((6 : Int32))) fun r264 s264 => hv_b2 (mL_isOn n hv_0 (r264) (x3)) fun r268 _ => if r268 = 0 then (kQ_areStates_304 n r179 r228 (s264) (τ) (x2) (x3) (r256) (x5)) else (hv_b2 (mQ_state n (s264) (x5) (x3)) fun r278 s278 => hv_ox r278 (none) (fun x278 => hv_b2 (mL_spareAt n (s278) (x5)) fun r286 s286 => if r286 = x3 then (kQ_areStates_298 n r179 r228 (s286) (τ) (x2) (x3) (r256) (x5) ((1 : Int64)) ((x278).1)) else (kQ_areStates_298 n r179 r228 (s286) (τ) (x2) (x3) (r256) (x5) ((0 : Int64)) ((x278).1)))))))
def kQ_areStates_228 (n : Nat) (r179 : hv_St → hv_St → Int32 → Int32 → Option (hv_St × hv_St)) : Nat → hv_St → hv_St → Int32 → Int32 → (Int64 × Int64) → Int32 → Option (hv_St × hv_St)
  | 0 => fun _ _ _ _ _ _ => none
  | i + 1 => kQ_areStates_228_b n r179 (kQ_areStates_228 n r179 i)
def kQ_areStates_179_b (n : Nat) (r179 : hv_St → hv_St → Int32 → Int32 → Option (hv_St × hv_St)) (σ τ : hv_St) (x2 : Int32) (x3 : Int32) : Option (hv_St × hv_St) := if (τ).1 1 8 ≤ x3 then (kQ_areStates_359 n 3 (σ) (τ) (x2) ((0 : Int32))) else (hv_b2 (mL_isOn n hv_0 ((τ).1 1 9) (x3)) fun r192 _ => if r192 = 0 then (hv_b2 (mQ_pull n (σ) (x3)) fun r200 s200 => hv_ox r200 (hv_b2 (mQ_state n (s200) ((-1 : Int32)) (x3)) fun r209 s209 => hv_ox r209 (kQ_areStates_351 n r179 (s209) (τ) (x2) (x3)) (fun x209 => none)) (fun x200 => none)) else (hv_b2 (mQ_state n (σ) ((-1 : Int32)) (x3)) fun r220 s220 => hv_ox r220 (none) (fun x220 => kQ_areStates_228 n r179 3 (s220) (τ) (x2) (x3) (x220) ((0 : Int32)))))
def kQ_areStates_179 (n : Nat) : Nat → hv_St → hv_St → Int32 → Int32 → Option (hv_St × hv_St)
  | 0 => fun _ _ _ _ => none
  | i + 1 => kQ_areStates_179_b n (kQ_areStates_179 n i)
def kQ_areStates_159 (n : Nat) (r12 : hv_St → hv_St → Int32 → Int32 → Option (hv_St × hv_St)) (r20 : hv_St → hv_St → Int32 → Int32 → Int32 → Option (hv_St × hv_St)) (r32 : hv_St → hv_St → Int32 → Int32 → Int32 → Int32 → Option (hv_St × hv_St)) (σ τ : hv_St) (x2 : Int32) (x3 : Int32) (x4 : Int32) (x5 : Int32) : Option (hv_St × hv_St) := r32 (σ) (τ) (x2) (x3) (x4) ((x5) + 1)
def kQ_areStates_140 (n : Nat) (r12 : hv_St → hv_St → Int32 → Int32 → Option (hv_St × hv_St)) (r20 : hv_St → hv_St → Int32 → Int32 → Int32 → Option (hv_St × hv_St)) (r32 : hv_St → hv_St → Int32 → Int32 → Int32 → Int32 → Option (hv_St × hv_St)) (r85 : hv_St → hv_St → Int32 → Int32 → Int32 → Int32 → (Int64 × Int64) → Int32 → Option (hv_St × hv_St)) (σ τ : hv_St) (x2 : Int32) (x3 : Int32) (x4 : Int32) (x5 : Int32) (x7 : Int32) (z0 : Int64 × Int64) : Option (hv_St × hv_St) := r85 (σ) (τ) (x2) (x3) (x4) (x5) (z0) ((x7) + 1)
def kQ_areStates_85_b (n : Nat) (r12 : hv_St → hv_St → Int32 → Int32 → Option (hv_St × hv_St)) (r20 : hv_St → hv_St → Int32 → Int32 → Int32 → Option (hv_St × hv_St)) (r32 : hv_St → hv_St → Int32 → Int32 → Int32 → Int32 → Option (hv_St × hv_St)) (r85 : hv_St → hv_St → Int32 → Int32 → Int32 → Int32 → (Int64 × Int64) → Int32 → Option (hv_St × hv_St)) (σ τ : hv_St) (x2 : Int32) (x3 : Int32) (x4 : Int32) (x5 : Int32) (x6 : Int64 × Int64) (x7 : Int32) : Option (hv_St × hv_St) := if (τ).1 1 8 ≤ x7 then (if lg_cmp ((x6).1) ((0 : Int64)) = 0 then (kQ_areStates_159 n r12 r20 r32 (σ) (τ) (x2) (x3) (x4) (x5)) else (none)) else (hv_b2 (mL_isOn n hv_0 ((τ).1 1 9) (x7)) fun r100 _ => if r100 = 0 then (kQ_areStates_140 n r12 r20 r32 r85 (σ) (τ) (x2) (x3) (x4) (x5) (x7) (x6)) else (hv_b2 (mQ_state n (σ) (x3) (x7)) fun r112 s112 => hv_ox r112 (hv_b2 (mL_brings n (τ) (x7) (x4) (x5)) fun r122 s122 => none) (fun x112 => hv_b2 (mL_brings n (τ) (x7) (x4) (x5)) fun r122 s122 => hv_bd (mQ_times n (x112) (((r122).toInt64, (1 : Int64)))) fun r129 => hv_bd (mQ_plus n (x6) (r129)) fun r132 => kQ_areStates_140 n r12 r20 r32 r85 (s112) (s122) (x2) (x3) (x4) (x5) (x7) (r132))))
def kQ_areStates_85 (n : Nat) (r12 : hv_St → hv_St → Int32 → Int32 → Option (hv_St × hv_St)) (r20 : hv_St → hv_St → Int32 → Int32 → Int32 → Option (hv_St × hv_St)) (r32 : hv_St → hv_St → Int32 → Int32 → Int32 → Int32 → Option (hv_St × hv_St)) : Nat → hv_St → hv_St → Int32 → Int32 → Int32 → Int32 → (Int64 × Int64) → Int32 → Option (hv_St × hv_St)
  | 0 => fun _ _ _ _ _ _ _ _ => none
  | i + 1 => kQ_areStates_85_b n r12 r20 r32 (kQ_areStates_85 n r12 r20 r32 i)
def kQ_areStates_77 (n : Nat) (r12 : hv_St → hv_St → Int32 → Int32 → Option (hv_St × hv_St)) (r20 : hv_St → hv_St → Int32 → Int32 → Int32 → Option (hv_St × hv_St)) (r32 : hv_St → hv_St → Int32 → Int32 → Int32 → Int32 → Option (hv_St × hv_St)) (σ τ : hv_St) (x2 : Int32) (x3 : Int32) (x4 : Int32) (x5 : Int32) (z0 : Int64) : Option (hv_St × hv_St) := kQ_areStates_85 n r12 r20 r32 12 (σ) (τ) (x2) (x3) (x4) (x5) ((z0, (1 : Int64))) ((0 : Int32))
def kQ_areStates_32_b (n : Nat) (r12 : hv_St → hv_St → Int32 → Int32 → Option (hv_St × hv_St)) (r20 : hv_St → hv_St → Int32 → Int32 → Int32 → Option (hv_St × hv_St)) (r32 : hv_St → hv_St → Int32 → Int32 → Int32 → Int32 → Option (hv_St × hv_St)) (σ τ : hv_St) (x2 : Int32) (x3 : Int32) (x4 : Int32) (x5 : Int32) : Option (hv_St × hv_St) := if (2 : Int32) ≤ x5 then (r20 (σ) (τ) (x2) (x3) ((x4) + 1)) else (hv_if (hv_ok (x4) 6) (hv_b2 (mL_isOn n hv_0 ((τ).1 4 (x4).toNatClampNeg) (x5)) fun r47 _ => if r47 = 0 then (if 0 ≤ x3 then (kQ_areStates_77 n r12 r20 r32 (σ) (τ) (x2) (x3) (x4) (x5) ((0 : Int64))) else (hv_if (hv_ok ((((2 : Int32)) * (x4)) + (x5)) 12) (kQ_areStates_77 n r12 r20 r32 (σ) (τ) (x2) (x3) (x4) (x5) (((τ).1 5 ((((2 : Int32)) * (x4)) + (x5)).toNatClampNeg).toInt64)))) else (kQ_areStates_159 n r12 r20 r32 (σ) (τ) (x2) (x3) (x4) (x5))))
def kQ_areStates_32 (n : Nat) (r12 : hv_St → hv_St → Int32 → Int32 → Option (hv_St × hv_St)) (r20 : hv_St → hv_St → Int32 → Int32 → Int32 → Option (hv_St × hv_St)) : Nat → hv_St → hv_St → Int32 → Int32 → Int32 → Int32 → Option (hv_St × hv_St)
  | 0 => fun _ _ _ _ _ _ => none
  | i + 1 => kQ_areStates_32_b n r12 r20 (kQ_areStates_32 n r12 r20 i)
def kQ_areStates_20_b (n : Nat) (r12 : hv_St → hv_St → Int32 → Int32 → Option (hv_St × hv_St)) (r20 : hv_St → hv_St → Int32 → Int32 → Int32 → Option (hv_St × hv_St)) (σ τ : hv_St) (x2 : Int32) (x3 : Int32) (x4 : Int32) : Option (hv_St × hv_St) := if (τ).1 1 7 ≤ x4 then (r12 (σ) (τ) (x2) ((x3) + 1)) else (kQ_areStates_32 n r12 r20 3 (σ) (τ) (x2) (x3) (x4) ((0 : Int32)))
def kQ_areStates_20 (n : Nat) (r12 : hv_St → hv_St → Int32 → Int32 → Option (hv_St × hv_St)) : Nat → hv_St → hv_St → Int32 → Int32 → Int32 → Option (hv_St × hv_St)
  | 0 => fun _ _ _ _ _ => none
  | i + 1 => kQ_areStates_20_b n r12 (kQ_areStates_20 n r12 i)
def kQ_areStates_12_b (n : Nat) (r12 : hv_St → hv_St → Int32 → Int32 → Option (hv_St × hv_St)) (σ τ : hv_St) (x2 : Int32) (x3 : Int32) : Option (hv_St × hv_St) := if x2 ≤ x3 then (kQ_areStates_179 n 12 (σ) (τ) (x2) ((0 : Int32))) else (kQ_areStates_20 n r12 6 (σ) (τ) (x2) (x3) ((0 : Int32)))
def kQ_areStates_12 (n : Nat) : Nat → hv_St → hv_St → Int32 → Int32 → Option (hv_St × hv_St)
  | 0 => fun _ _ _ _ => none
  | i + 1 => kQ_areStates_12_b n (kQ_areStates_12 n i)
def mQ_areStates (n : Nat) (σ τ : hv_St) : Option (hv_St × hv_St) := hv_b2 (mX7_count n (σ) ((6 : Int32))) fun r3 s3 => hv_b2 (mJ6_bitCount_0f7a4 n (s3) (r3)) fun r6 s6 => kQ_areStates_12 n 4 (s6) (τ) (r6) ((-1 : Int32))
set_option maxRecDepth 20000 in
theorem iL_areStates_X9 : ∀ w ∈ u_ws RX9 TX9 10, w ∈ wsL_areStates := by decide +kernel
set_option maxHeartbeats 4000000 in
set_option maxRecDepth 20000 in
theorem bQ_areStates_434 (hflag : l.stackTraces = false) (C : hv_C p s m args meth c cL_areStates 8 wsL_areStates RL D (hv_tys cy)) (hA : ∀ q, s.heap.size ≤ q → A q) (hT : hv_TA A s) (hr : meth.sig.returnType = (some .boolean)) {n : Nat} {o : hv_St × hv_St} {r359 : hv_St → hv_St → Int32 → Int32 → Option (hv_St × hv_St)} {r373 : hv_St → hv_St → Int32 → Int32 → (Int64 × Int64) → Int32 → Option (hv_St × hv_St)} {C359 : Nat} {C373 : Nat} (hr359 : ∀ (κ : Nat) (σ τ : hv_St) (x2 : Int32) (x3 : Int32), κ + C359 ≤ 6093 → r359 σ τ x2 x3 = some o → hv_J p l e (headSpec wsL_areStates rmQ_areStates).room s m args below meth c 8 D A κ (12 * κ) (MQ below (lv_Q D (lv_val (some (.int (1 : Int32))) (hv_W 55 a (hv_XE a cy) o.1 ++ hv_W 9 b (hv_TE b cy) o.2)) A) args s 6093 (12 * 6093) A) (hv_W 55 a (hv_XE a cy) (σ) ++ (hv_W 9 b (hv_TE b cy) (τ) ++ [])) 359 [(0, .ref (a 0)), (1, .ref (b 1)), (2, .int (x2)), (3, .int (x3))] []) (hr373 : ∀ (κ : Nat) (σ τ : hv_St) (x2 : Int32) (x3 : Int32) (x4 : Int64 × Int64) (x5 : Int32) (q4 : Nat), κ + C373 ≤ 6093 → r373 σ τ x2 x3 x4 x5 = some o → hv_J p l e (headSpec wsL_areStates rmQ_areStates).room s m args below meth c 8 D A κ (12 * κ) (MQ below (lv_Q D (lv_val (some (.int (1 : Int32))) (hv_W 55 a (hv_XE a cy) o.1 ++ hv_W 9 b (hv_TE b cy) o.2)) A) args s 6093 (12 * 6093) A) (hv_W 55 a (hv_XE a cy) (σ) ++ (hv_W 9 b (hv_TE b cy) (τ) ++ [(q4, hv_row cy (x4).1 (x4).2)])) 373 [(0, .ref (a 0)), (1, .ref (b 1)), (2, .int (x2)), (3, .int (x3)), (4, .ref q4), (5, .int (x5))] []) : ∀ (κ : Nat) (σ τ : hv_St) (x2 : Int32) (x3 : Int32) (x5 : Int32) (z0 : Int64 × Int64) (qz0 : Nat), κ + (0 + C373) ≤ 6093 → kQ_areStates_434 n r359 r373 σ τ x2 x3 x5 z0 = some o → hv_J p l e (headSpec wsL_areStates rmQ_areStates).room s m args below meth c 8 D A κ (12 * κ) (MQ below (lv_Q D (lv_val (some (.int (1 : Int32))) (hv_W 55 a (hv_XE a cy) o.1 ++ hv_W 9 b (hv_TE b cy) o.2)) A) args s 6093 (12 * 6093) A) (hv_W 55 a (hv_XE a cy) (σ) ++ (hv_W 9 b (hv_TE b cy) (τ) ++ [(qz0, hv_row cy (z0).1 (z0).2)])) 434 [(0, .ref (a 0)), (1, .ref (b 1)), (2, .int (x2)), (3, .int (x3)), (5, .int (x5))] [.ref qz0] := by
  intro κ σ τ x2 x3 x5 z0 qz0 hκ h
  unfold kQ_areStates_434 at h
  refine r_astore (pc := 434) C (lv' := [(4, .ref qz0), (0, .ref (a 0)), (1, .ref (b 1)), (2, .int (x2)), (3, .int (x3)), (5, .int (x5))]) rfl dL_areStates_434 (Nat.le_of_ble_eq_true rfl) rfl ?_
  refine r_iinc (pc := 436) C 5 (v := (x5) + 1) (lv' := [(5, .int ((x5) + 1)), (4, .ref qz0), (0, .ref (a 0)), (1, .ref (b 1)), (2, .int (x2)), (3, .int (x3))]) dL_areStates_436 rfl rfl (Nat.le_of_ble_eq_true rfl) rfl ?_
  refine r_goto (pc := 439) C (tgt := 373) dL_areStates_439 (by decide) ?_
  have K9 := hr373 κ (σ) (τ) (x2) (x3) (z0) ((x5) + 1) qz0 (by omega) h
  exact r_lv [2, 3, 4, 5, 1, 0] rfl K9
set_option maxHeartbeats 4000000 in
set_option maxRecDepth 20000 in
theorem bQ_areStates_373 (hflag : l.stackTraces = false) (C : hv_C p s m args meth c cL_areStates 8 wsL_areStates RL D (hv_tys cy)) (hA : ∀ q, s.heap.size ≤ q → A q) (hT : hv_TA A s) (hr : meth.sig.returnType = (some .boolean)) {n : Nat} {o : hv_St × hv_St} {r359 : hv_St → hv_St → Int32 → Int32 → Option (hv_St × hv_St)} {C359 : Nat} (hr359 : ∀ (κ : Nat) (σ τ : hv_St) (x2 : Int32) (x3 : Int32), κ + C359 ≤ 6093 → r359 σ τ x2 x3 = some o → hv_J p l e (headSpec wsL_areStates rmQ_areStates).room s m args below meth c 8 D A κ (12 * κ) (MQ below (lv_Q D (lv_val (some (.int (1 : Int32))) (hv_W 55 a (hv_XE a cy) o.1 ++ hv_W 9 b (hv_TE b cy) o.2)) A) args s 6093 (12 * 6093) A) (hv_W 55 a (hv_XE a cy) (σ) ++ (hv_W 9 b (hv_TE b cy) (τ) ++ [])) 359 [(0, .ref (a 0)), (1, .ref (b 1)), (2, .int (x2)), (3, .int (x3))] []) : ∀ (i κ : Nat) (σ τ : hv_St) (x2 : Int32) (x3 : Int32) (x4 : Int64 × Int64) (x5 : Int32) (q4 : Nat), κ + (i * 10 + (0 + C359)) ≤ 6093 → kQ_areStates_373 n r359 i σ τ x2 x3 x4 x5 = some o → hv_J p l e (headSpec wsL_areStates rmQ_areStates).room s m args below meth c 8 D A κ (12 * κ) (MQ below (lv_Q D (lv_val (some (.int (1 : Int32))) (hv_W 55 a (hv_XE a cy) o.1 ++ hv_W 9 b (hv_TE b cy) o.2)) A) args s 6093 (12 * 6093) A) (hv_W 55 a (hv_XE a cy) (σ) ++ (hv_W 9 b (hv_TE b cy) (τ) ++ [(q4, hv_row cy (x4).1 (x4).2)])) 373 [(0, .ref (a 0)), (1, .ref (b 1)), (2, .int (x2)), (3, .int (x3)), (4, .ref q4), (5, .int (x5))] [] := by
  intro i
  induction i with
  | zero =>
    intro κ σ τ x2 x3 x4 x5 q4 hκ h
    cases h
  | succ i ih =>
    intro κ σ τ x2 x3 x4 x5 q4 hκ h
    generalize hg : kQ_areStates_373 n r359 i = r373 at ih
    have hr373 := ih
    rw [Nat.succ_mul] at hκ
    generalize eC9 : i * 10 + (0 + C359) = C9 at hr373
    replace h : kQ_areStates_373_b n r359 r373 σ τ x2 x3 x4 x5 = some o := by rw [← hg]; exact h
    unfold kQ_areStates_373_b at h
    refine r_iload (pc := 373) C 5 dL_areStates_373 rfl ?_
    refine r_aload_n (pc := 375) C 1 dL_areStates_375 rfl rfl ?_
    refine rt_get_8 (pc := 376) C iL_areStates_X9 (List.mem_of_getElem? (i := 19) rfl) dL_areStates_376 ?_
    refine r_icmp_ge (pc := 379) (tgt := 442) C dL_areStates_379 (by decide) (fun c379 => ?_) (fun c379 => ?_)
    · rw [if_pos c379] at h
      refine r_aload (pc := 442) C 4 dL_areStates_442 rfl ?_
      refine r_iconst (pc := 444) C (v := (0 : Int32)) dL_areStates_444 (by decide) ?_
      refine r_row0 (pc := 445) C (u := (x4).1) (v := (x4).2) (lv_mem 0 rfl) dL_areStates_445 ?_
      refine r_lconst (pc := 446) C (v := (0 : Int64)) dL_areStates_446 (by decide) ?_
      refine r_lcmp (pc := 447) C dL_areStates_447 ?_
      refine r_if_eq (pc := 448) (tgt := 453) C dL_areStates_448 (by decide) (fun c448 => ?_) (fun c448 => ?_)
      · rw [if_pos c448] at h
        refine r_iinc (pc := 453) C 3 (v := (x3) + 1) (lv' := [(3, .int ((x3) + 1)), (0, .ref (a 0)), (1, .ref (b 1)), (2, .int (x2)), (4, .ref q4), (5, .int (x5))]) dL_areStates_453 rfl rfl (Nat.le_of_ble_eq_true rfl) rfl ?_
        refine r_goto (pc := 456) C (tgt := 359) dL_areStates_456 (by decide) ?_
        refine r_sub (ws' := hv_W 55 a (hv_XE a cy) (σ) ++ (hv_W 9 b (hv_TE b cy) (τ) ++ [])) (lv_keep2 (.cons _ .slnil)) ?_
        have K9 := hr359 κ (σ) (τ) (x2) ((x3) + 1) (by omega) h
        exact r_lv [1, 2, 3, 0] rfl K9
      · rw [if_neg c448] at h
        cases h
    · rw [if_neg c379] at h
      refine r_aload_n (pc := 382) C 1 dL_areStates_382 rfl rfl ?_
      refine rt_get_9 (pc := 383) C iL_areStates_X9 (List.mem_of_getElem? (i := 20) rfl) dL_areStates_383 ?_
      refine r_iload (pc := 386) C 5 dL_areStates_386 rfl ?_
      obtain ⟨r388, s388, hc388, h⟩ := hv_b2_some h
      refine r_callP (pc := 388) (v := some (.int (r388))) (As := [.int ((τ).1 1 9), .int (x5)]) (rest := []) C hA (vL_isOn (a := fun _ => 0) hc388) (va_cwS 2 C.1.2.2.2.2 gL_areStates_L_isOn rfl rfl rfl (by decide +kernel) ⟨(Nat.le_of_ble_eq_true rfl), (Nat.le_of_ble_eq_true rfl)⟩) rfl rfl (Nat.le_of_ble_eq_true rfl) dL_areStates_388 (lv_cl0 (MC := 6093) (need := 0) (by omega)) ?_
      refine r_st (st' := [.int (r388)]) rfl ?_
      refine r_if_eq (pc := 391) (tgt := 432) C dL_areStates_391 (by decide) (fun c391 => ?_) (fun c391 => ?_)
      · rw [if_pos c391] at h
        refine r_aload (pc := 432) C 4 dL_areStates_432 rfl ?_
        have K9 := bQ_areStates_434 (e := e) (below := below) (a := a) (b := b) (n := n) hflag C hA hT hr hr359 hr373 κ (σ) (τ) (x2) (x3) (x5) (x4) q4 (by omega) h
        exact r_lv [0, 1, 2, 3, 5] rfl K9
      · rw [if_neg c391] at h
        refine r_aload (pc := 394) C 4 dL_areStates_394 rfl ?_
        refine r_aload_n (pc := 396) C 1 dL_areStates_396 rfl rfl ?_
        refine rt_get_6 (pc := 397) C iL_areStates_X9 (List.mem_of_getElem? (i := 17) rfl) dL_areStates_397 ?_
        refine r_iload (pc := 400) C 5 dL_areStates_400 rfl ?_
        obtain ⟨k402, h⟩ := hv_if_some h
        refine rt_ld_8 (pc := 402) C k402 dL_areStates_402 ?_
        refine r_i2l (pc := 403) C dL_areStates_403 ?_
        refine r_callO (pc := 404) (ps := []) (As := [.long (((τ).1 8 (x5).toNatClampNeg).toInt64)]) (rest := [.ref q4]) C hA (List.forall_mem_nil _) (vQ_whole (n := n) rfl) (va_cwS 1 C.1.2.2.2.2 gL_areStates_L_whole rfl rfl rfl (by decide +kernel) ⟨(Nat.le_of_ble_eq_true rfl), (Nat.le_of_ble_eq_true rfl)⟩) rfl rfl (Nat.le_of_ble_eq_true rfl) dL_areStates_404 (lv_cl (MC := 6093) (need := 1) (by omega) (Nat.le_refl _)) (fun v w hR => ?_)
        refine r_tw ?_
        obtain ⟨q404, rfl, rfl⟩ := hR
        refine r_st (st' := [.ref q404, .ref q4]) rfl ?_
        refine r_sub (ws' := hv_W 55 a (hv_XE a cy) (σ) ++ (hv_W 9 b (hv_TE b cy) (τ) ++ [(q4, hv_row cy (x4).1 (x4).2), (q404, hv_row cy ((((τ).1 8 (x5).toNatClampNeg).toInt64, (1 : Int64))).1 ((((τ).1 8 (x5).toNatClampNeg).toInt64, (1 : Int64))).2)])) (lv_keep (.cons_cons _ (.cons_cons _ .slnil))) ?_
        refine r_aload_n (pc := 407) C 0 dL_areStates_407 rfl rfl ?_
        refine r_iload (pc := 408) C 5 dL_areStates_408 rfl ?_
        obtain ⟨r410, s410, hc410, h⟩ := hv_b2_some h
        refine r_callMW (pc := 410) (wc := hv_W 55 a (hv_XE a cy) (σ)) (As := [.ref (a 0), .int (x5)]) (rest := [.ref q404, .ref q4]) C hA hT (vQ_pull hflag hc410) (vx_cwSW 2 C.1.2.2.2.2 gL_areStates_L_pull rfl rfl rfl (by decide +kernel) ⟨(Nat.le_of_ble_eq_true rfl), (Nat.le_of_ble_eq_true rfl)⟩) rfl rfl (Nat.le_of_ble_eq_true rfl) dL_areStates_410 (lv_cl (MC := 6093) (need := 3) (by omega) (Nat.le_refl _)) (fun v w hR => ?_)
        refine r_tw ?_
        rcases hv_ox_some h with ⟨e410, h9⟩ | ⟨x410, e410, h9⟩
        · clear h
          subst e410
          have h := h9
          obtain ⟨rfl, rfl⟩ := hR
          refine r_st (st' := [.null, .ref q404, .ref q4]) rfl ?_
          cases h
        · clear h
          subst e410
          have h := h9
          obtain ⟨q410, rfl, rfl⟩ := hR
          refine r_perm lv_rot ?_
          refine r_st (st' := [.ref q410, .ref q404, .ref q4]) rfl ?_
          refine r_sub (ws' := hv_W 55 a (hv_XE a cy) (s410) ++ (hv_W 9 b (hv_TE b cy) (τ) ++ [(q4, hv_row cy (x4).1 (x4).2), (q404, hv_row cy ((((τ).1 8 (x5).toNatClampNeg).toInt64, (1 : Int64))).1 ((((τ).1 8 (x5).toNatClampNeg).toInt64, (1 : Int64))).2), (q410, hv_row cy (x410).1 (x410).2)])) (lv_keep2 (.cons_cons _ (.cons_cons _ (.cons_cons _ .slnil)))) ?_
          obtain ⟨r413, hc413, h⟩ := hv_bd_some h
          refine r_callO (pc := 413) (ps := [(q404, hv_row cy ((((τ).1 8 (x5).toNatClampNeg).toInt64, (1 : Int64))).1 ((((τ).1 8 (x5).toNatClampNeg).toInt64, (1 : Int64))).2), (q410, hv_row cy (x410).1 (x410).2)]) (As := [.ref q404, .ref q410]) (rest := [.ref q4]) C hA (List.forall_mem_cons.mpr ⟨lv_mem 1 rfl, (List.forall_mem_cons.mpr ⟨lv_mem 2 rfl, List.forall_mem_nil _⟩)⟩) (vQ_times hc413) (va_cwS 2 C.1.2.2.2.2 gL_areStates_L_times rfl rfl rfl (by decide +kernel) ⟨(Nat.le_of_ble_eq_true rfl), (Nat.le_of_ble_eq_true rfl)⟩) rfl rfl (Nat.le_of_ble_eq_true rfl) dL_areStates_413 (lv_cl (MC := 6093) (need := 1) (by omega) (Nat.le_refl _)) (fun v w hR => ?_)
          refine r_tw ?_
          obtain ⟨q413, rfl, rfl⟩ := hR
          refine r_st (st' := [.ref q413, .ref q4]) rfl ?_
          refine r_sub (ws' := hv_W 55 a (hv_XE a cy) (s410) ++ (hv_W 9 b (hv_TE b cy) (τ) ++ [(q4, hv_row cy (x4).1 (x4).2), (q413, hv_row cy (r413).1 (r413).2)])) (lv_keep (.cons_cons _ (.cons _ (.cons _ (.cons_cons _ .slnil))))) ?_
          refine r_aload_n (pc := 416) C 0 dL_areStates_416 rfl rfl ?_
          refine r_iload_n (pc := 417) C 3 dL_areStates_417 rfl rfl ?_
          refine r_iload (pc := 418) C 5 dL_areStates_418 rfl ?_
          obtain ⟨r420, s420, hc420, h⟩ := hv_b2_some h
          refine r_callMW (pc := 420) (wc := hv_W 55 a (hv_XE a cy) (s410)) (As := [.ref (a 0), .int (x3), .int (x5)]) (rest := [.ref q413, .ref q4]) C hA hT (vQ_state hflag hc420) (vx_cwSW 3 C.1.2.2.2.2 gL_areStates_L_state rfl rfl rfl (by decide +kernel) ⟨(Nat.le_of_ble_eq_true rfl), (Nat.le_of_ble_eq_true rfl)⟩) rfl rfl (Nat.le_of_ble_eq_true rfl) dL_areStates_420 (lv_cl (MC := 6093) (need := 3) (by omega) (Nat.le_refl _)) (fun v w hR => ?_)
          refine r_tw ?_
          rcases hv_ox_some h with ⟨e420, h9⟩ | ⟨x420, e420, h9⟩
          · clear h
            subst e420
            have h := h9
            obtain ⟨rfl, rfl⟩ := hR
            refine r_st (st' := [.null, .ref q413, .ref q4]) rfl ?_
            cases h
          · clear h
            subst e420
            have h := h9
            obtain ⟨q420, rfl, rfl⟩ := hR
            refine r_perm lv_rot ?_
            refine r_st (st' := [.ref q420, .ref q413, .ref q4]) rfl ?_
            refine r_sub (ws' := hv_W 55 a (hv_XE a cy) (s420) ++ (hv_W 9 b (hv_TE b cy) (τ) ++ [(q4, hv_row cy (x4).1 (x4).2), (q413, hv_row cy (r413).1 (r413).2), (q420, hv_row cy (x420).1 (x420).2)])) (lv_keep2 (.cons_cons _ (.cons_cons _ (.cons_cons _ .slnil)))) ?_
            obtain ⟨r423, hc423, h⟩ := hv_bd_some h
            refine r_callO (pc := 423) (ps := [(q413, hv_row cy (r413).1 (r413).2), (q420, hv_row cy (x420).1 (x420).2)]) (As := [.ref q413, .ref q420]) (rest := [.ref q4]) C hA (List.forall_mem_cons.mpr ⟨lv_mem 1 rfl, (List.forall_mem_cons.mpr ⟨lv_mem 2 rfl, List.forall_mem_nil _⟩)⟩) (vQ_times hc423) (va_cwS 2 C.1.2.2.2.2 gL_areStates_L_times rfl rfl rfl (by decide +kernel) ⟨(Nat.le_of_ble_eq_true rfl), (Nat.le_of_ble_eq_true rfl)⟩) rfl rfl (Nat.le_of_ble_eq_true rfl) dL_areStates_423 (lv_cl (MC := 6093) (need := 1) (by omega) (Nat.le_refl _)) (fun v w hR => ?_)
            refine r_tw ?_
            obtain ⟨q423, rfl, rfl⟩ := hR
            refine r_st (st' := [.ref q423, .ref q4]) rfl ?_
            refine r_sub (ws' := hv_W 55 a (hv_XE a cy) (s420) ++ (hv_W 9 b (hv_TE b cy) (τ) ++ [(q4, hv_row cy (x4).1 (x4).2), (q423, hv_row cy (r423).1 (r423).2)])) (lv_keep (.cons_cons _ (.cons _ (.cons _ (.cons_cons _ .slnil))))) ?_
            obtain ⟨r426, hc426, h⟩ := hv_bd_some h
            refine r_callO (pc := 426) (ps := [(q4, hv_row cy (x4).1 (x4).2), (q423, hv_row cy (r423).1 (r423).2)]) (As := [.ref q4, .ref q423]) (rest := []) C hA (List.forall_mem_cons.mpr ⟨lv_mem 0 rfl, (List.forall_mem_cons.mpr ⟨lv_mem 1 rfl, List.forall_mem_nil _⟩)⟩) (vQ_plus hc426) (va_cwS 2 C.1.2.2.2.2 gL_areStates_L_plus rfl rfl rfl (by decide +kernel) ⟨(Nat.le_of_ble_eq_true rfl), (Nat.le_of_ble_eq_true rfl)⟩) rfl rfl (Nat.le_of_ble_eq_true rfl) dL_areStates_426 (lv_cl (MC := 6093) (need := 1) (by omega) (Nat.le_refl _)) (fun v w hR => ?_)
            refine r_tw ?_
            obtain ⟨q426, rfl, rfl⟩ := hR
            refine r_st (st' := [.ref q426]) rfl ?_
            refine r_sub (ws' := hv_W 55 a (hv_XE a cy) (s420) ++ (hv_W 9 b (hv_TE b cy) (τ) ++ [(q426, hv_row cy (r426).1 (r426).2)])) (lv_keep (.cons _ (.cons _ (.cons_cons _ .slnil)))) ?_
            refine r_goto (pc := 429) C (tgt := 434) dL_areStates_429 (by decide) ?_
            have K9 := bQ_areStates_434 (e := e) (below := below) (a := a) (b := b) (n := n) hflag C hA hT hr hr359 hr373 ((((((κ + 1) + 3) + 1) + 3) + 1) + 1) (s420) (τ) (x2) (x3) (x5) (r426) q426 (by omega) h
            exact r_lv [0, 1, 2, 3, 5] rfl K9
set_option maxHeartbeats 4000000 in
set_option maxRecDepth 20000 in
theorem bQ_areStates_359 (hflag : l.stackTraces = false) (C : hv_C p s m args meth c cL_areStates 8 wsL_areStates RL D (hv_tys cy)) (hA : ∀ q, s.heap.size ≤ q → A q) (hT : hv_TA A s) (hr : meth.sig.returnType = (some .boolean)) {n : Nat} {o : hv_St × hv_St} : ∀ (i κ : Nat) (σ τ : hv_St) (x2 : Int32) (x3 : Int32), κ + (i * 121 + 6) ≤ 6093 → kQ_areStates_359 n i σ τ x2 x3 = some o → hv_J p l e (headSpec wsL_areStates rmQ_areStates).room s m args below meth c 8 D A κ (12 * κ) (MQ below (lv_Q D (lv_val (some (.int (1 : Int32))) (hv_W 55 a (hv_XE a cy) o.1 ++ hv_W 9 b (hv_TE b cy) o.2)) A) args s 6093 (12 * 6093) A) (hv_W 55 a (hv_XE a cy) (σ) ++ (hv_W 9 b (hv_TE b cy) (τ) ++ [])) 359 [(0, .ref (a 0)), (1, .ref (b 1)), (2, .int (x2)), (3, .int (x3))] [] := by
  intro i
  induction i with
  | zero =>
    intro κ σ τ x2 x3 hκ h
    cases h
  | succ i ih =>
    intro κ σ τ x2 x3 hκ h
    generalize hg : kQ_areStates_359 n i = r359 at ih
    have hr359 := ih
    rw [Nat.succ_mul] at hκ
    generalize eC9 : i * 121 + 6 = C9 at hr359
    replace h : kQ_areStates_359_b n r359 σ τ x2 x3 = some o := by rw [← hg]; exact h
    unfold kQ_areStates_359_b at h
    refine r_iload_n (pc := 359) C 3 dL_areStates_359 rfl rfl ?_
    refine r_iload_n (pc := 360) C 2 dL_areStates_360 rfl rfl ?_
    refine r_icmp_ge (pc := 361) (tgt := 459) C dL_areStates_361 (by decide) (fun c361 => ?_) (fun c361 => ?_)
    · rw [if_pos c361] at h
      refine r_aload_n (pc := 459) C 0 dL_areStates_459 rfl rfl ?_
      refine r_iload_n (pc := 460) C 2 dL_areStates_460 rfl rfl ?_
      refine r_iconst (pc := 461) C (v := (0 : Int32)) dL_areStates_461 (by decide) ?_
      obtain ⟨r462, s462, hc462, h⟩ := hv_b2_some h
      refine r_callMW (pc := 462) (wc := hv_W 55 a (hv_XE a cy) (σ)) (As := [.ref (a 0), .int (x2), .int ((0 : Int32))]) (rest := []) C hA hT (vQ_state hflag hc462) (vx_cwSW 3 C.1.2.2.2.2 gL_areStates_L_state rfl rfl rfl (by decide +kernel) ⟨(Nat.le_of_ble_eq_true rfl), (Nat.le_of_ble_eq_true rfl)⟩) rfl rfl (Nat.le_of_ble_eq_true rfl) dL_areStates_462 (lv_cl (MC := 6093) (need := 3) (by omega) (Nat.le_refl _)) (fun v w hR => ?_)
      refine r_tw ?_
      rcases hv_ox_some h with ⟨e462, h9⟩ | ⟨x462, e462, h9⟩
      · clear h
        subst e462
        have h := h9
        obtain ⟨rfl, rfl⟩ := hR
        refine r_st (st' := [.null]) rfl ?_
        refine r_ifnonnullN (pc := 465) C dL_areStates_465 ?_
        refine r_aload_n (pc := 468) C 0 dL_areStates_468 rfl rfl ?_
        refine r_bipush (pc := 469) C (v := (-2 : Int32)) dL_areStates_469 (by decide) ?_
        refine r_iconst (pc := 471) C (v := (0 : Int32)) dL_areStates_471 (by decide) ?_
        obtain ⟨r472, s472, hc472, h⟩ := hv_b2_some h
        refine r_callMW (pc := 472) (wc := hv_W 55 a (hv_XE a cy) (s462)) (As := [.ref (a 0), .int ((-2 : Int32)), .int ((0 : Int32))]) (rest := []) C hA hT (vQ_state hflag hc472) (vx_cwSW 3 C.1.2.2.2.2 gL_areStates_L_state rfl rfl rfl (by decide +kernel) ⟨(Nat.le_of_ble_eq_true rfl), (Nat.le_of_ble_eq_true rfl)⟩) rfl rfl (Nat.le_of_ble_eq_true rfl) dL_areStates_472 (lv_cl (MC := 6093) (need := 3) (by omega) (Nat.le_refl _)) (fun v w hR => ?_)
        refine r_tw ?_
        rcases hv_ox_some h with ⟨e472, h9⟩ | ⟨x472, e472, h9⟩
        · clear h
          subst e472
          have h := h9
          obtain ⟨rfl, rfl⟩ := hR
          refine r_st (st' := [.null]) rfl ?_
          refine r_ifnonnullN (pc := 475) C dL_areStates_475 ?_
          refine r_iconst (pc := 478) C (v := (1 : Int32)) dL_areStates_478 (by decide) ?_
          refine r_goto (pc := 479) C (tgt := 483) dL_areStates_479 (by decide) ?_
          cases h
          exact r_zret (pc := 483) C lv_drop ⟨rfl, rfl⟩ hr (by decide) dL_areStates_483 (by omega) (by omega)
        · clear h
          subst e472
          have h := h9
          obtain ⟨q472, rfl, rfl⟩ := hR
          refine r_perm lv_rot ?_
          refine r_st (st' := [.ref q472]) rfl ?_
          refine r_sub (ws' := hv_W 55 a (hv_XE a cy) (s472) ++ (hv_W 9 b (hv_TE b cy) (τ) ++ [(q472, hv_row cy (x472).1 (x472).2)])) (lv_keep2 (.cons_cons _ .slnil)) ?_
          refine r_ifnonnull (pc := 475) C (tgt := 482) dL_areStates_475 (by decide) ?_
          cases h
      · clear h
        subst e462
        have h := h9
        obtain ⟨q462, rfl, rfl⟩ := hR
        refine r_perm lv_rot ?_
        refine r_st (st' := [.ref q462]) rfl ?_
        refine r_sub (ws' := hv_W 55 a (hv_XE a cy) (s462) ++ (hv_W 9 b (hv_TE b cy) (τ) ++ [(q462, hv_row cy (x462).1 (x462).2)])) (lv_keep2 (.cons_cons _ .slnil)) ?_
        refine r_ifnonnull (pc := 465) C (tgt := 482) dL_areStates_465 (by decide) ?_
        cases h
    · rw [if_neg c361] at h
      refine r_lconst (pc := 364) C (v := (0 : Int64)) dL_areStates_364 (by decide) ?_
      refine r_callO (pc := 365) (ps := []) (As := [.long ((0 : Int64))]) (rest := []) C hA (List.forall_mem_nil _) (vQ_whole (n := n) rfl) (va_cwS 1 C.1.2.2.2.2 gL_areStates_L_whole rfl rfl rfl (by decide +kernel) ⟨(Nat.le_of_ble_eq_true rfl), (Nat.le_of_ble_eq_true rfl)⟩) rfl rfl (Nat.le_of_ble_eq_true rfl) dL_areStates_365 (lv_cl (MC := 6093) (need := 1) (by omega) (Nat.le_refl _)) (fun v w hR => ?_)
      refine r_tw ?_
      obtain ⟨q365, rfl, rfl⟩ := hR
      refine r_st (st' := [.ref q365]) rfl ?_
      refine r_sub (ws' := hv_W 55 a (hv_XE a cy) (σ) ++ (hv_W 9 b (hv_TE b cy) (τ) ++ [(q365, hv_row cy (((0 : Int64), (1 : Int64))).1 (((0 : Int64), (1 : Int64))).2)])) (lv_keep (.cons_cons _ .slnil)) ?_
      refine r_astore (pc := 368) C (lv' := [(4, .ref q365), (0, .ref (a 0)), (1, .ref (b 1)), (2, .int (x2)), (3, .int (x3))]) rfl dL_areStates_368 (Nat.le_of_ble_eq_true rfl) rfl ?_
      refine r_iconst (pc := 370) C (v := (0 : Int32)) dL_areStates_370 (by decide) ?_
      refine r_istore (pc := 371) C (lv' := [(5, .int ((0 : Int32))), (4, .ref q365), (0, .ref (a 0)), (1, .ref (b 1)), (2, .int (x2)), (3, .int (x3))]) rfl dL_areStates_371 (Nat.le_of_ble_eq_true rfl) rfl ?_
      have K9 := bQ_areStates_373 (e := e) (below := below) (a := a) (b := b) (n := n) hflag C hA hT hr hr359 12 (κ + 1) (σ) (τ) (x2) (x3) (((0 : Int64), (1 : Int64))) ((0 : Int32)) q365 (by omega) h
      exact r_lv [2, 3, 4, 5, 1, 0] rfl K9
set_option maxHeartbeats 4000000 in
set_option maxRecDepth 20000 in
theorem bQ_areStates_351 (hflag : l.stackTraces = false) (C : hv_C p s m args meth c cL_areStates 8 wsL_areStates RL D (hv_tys cy)) (hA : ∀ q, s.heap.size ≤ q → A q) (hT : hv_TA A s) (hr : meth.sig.returnType = (some .boolean)) {n : Nat} {o : hv_St × hv_St} {r179 : hv_St → hv_St → Int32 → Int32 → Option (hv_St × hv_St)} {C179 : Nat} (hr179 : ∀ (κ : Nat) (σ τ : hv_St) (x2 : Int32) (x3 : Int32), κ + C179 ≤ 6093 → r179 σ τ x2 x3 = some o → hv_J p l e (headSpec wsL_areStates rmQ_areStates).room s m args below meth c 8 D A κ (12 * κ) (MQ below (lv_Q D (lv_val (some (.int (1 : Int32))) (hv_W 55 a (hv_XE a cy) o.1 ++ hv_W 9 b (hv_TE b cy) o.2)) A) args s 6093 (12 * 6093) A) (hv_W 55 a (hv_XE a cy) (σ) ++ (hv_W 9 b (hv_TE b cy) (τ) ++ [])) 179 [(0, .ref (a 0)), (1, .ref (b 1)), (2, .int (x2)), (3, .int (x3))] []) : ∀ (κ : Nat) (σ τ : hv_St) (x2 : Int32) (x3 : Int32), κ + (0 + C179) ≤ 6093 → kQ_areStates_351 n r179 σ τ x2 x3 = some o → hv_J p l e (headSpec wsL_areStates rmQ_areStates).room s m args below meth c 8 D A κ (12 * κ) (MQ below (lv_Q D (lv_val (some (.int (1 : Int32))) (hv_W 55 a (hv_XE a cy) o.1 ++ hv_W 9 b (hv_TE b cy) o.2)) A) args s 6093 (12 * 6093) A) (hv_W 55 a (hv_XE a cy) (σ) ++ (hv_W 9 b (hv_TE b cy) (τ) ++ [])) 351 [(0, .ref (a 0)), (1, .ref (b 1)), (2, .int (x2)), (3, .int (x3))] [] := by
  intro κ σ τ x2 x3 hκ h
  unfold kQ_areStates_351 at h
  refine r_iinc (pc := 351) C 3 (v := (x3) + 1) (lv' := [(3, .int ((x3) + 1)), (0, .ref (a 0)), (1, .ref (b 1)), (2, .int (x2))]) dL_areStates_351 rfl rfl (Nat.le_of_ble_eq_true rfl) rfl ?_
  refine r_goto (pc := 354) C (tgt := 179) dL_areStates_354 (by decide) ?_
  have K9 := hr179 κ (σ) (τ) (x2) ((x3) + 1) (by omega) h
  exact r_lv [1, 2, 3, 0] rfl K9
set_option maxHeartbeats 4000000 in
set_option maxRecDepth 20000 in
theorem bQ_areStates_304 (hflag : l.stackTraces = false) (C : hv_C p s m args meth c cL_areStates 8 wsL_areStates RL D (hv_tys cy)) (hA : ∀ q, s.heap.size ≤ q → A q) (hT : hv_TA A s) (hr : meth.sig.returnType = (some .boolean)) {n : Nat} {o : hv_St × hv_St} {r179 : hv_St → hv_St → Int32 → Int32 → Option (hv_St × hv_St)} {r228 : hv_St → hv_St → Int32 → Int32 → (Int64 × Int64) → Int32 → Option (hv_St × hv_St)} {C179 : Nat} {C228 : Nat} (hr179 : ∀ (κ : Nat) (σ τ : hv_St) (x2 : Int32) (x3 : Int32), κ + C179 ≤ 6093 → r179 σ τ x2 x3 = some o → hv_J p l e (headSpec wsL_areStates rmQ_areStates).room s m args below meth c 8 D A κ (12 * κ) (MQ below (lv_Q D (lv_val (some (.int (1 : Int32))) (hv_W 55 a (hv_XE a cy) o.1 ++ hv_W 9 b (hv_TE b cy) o.2)) A) args s 6093 (12 * 6093) A) (hv_W 55 a (hv_XE a cy) (σ) ++ (hv_W 9 b (hv_TE b cy) (τ) ++ [])) 179 [(0, .ref (a 0)), (1, .ref (b 1)), (2, .int (x2)), (3, .int (x3))] []) (hr228 : ∀ (κ : Nat) (σ τ : hv_St) (x2 : Int32) (x3 : Int32) (x4 : Int64 × Int64) (x5 : Int32) (q4 : Nat), κ + C228 ≤ 6093 → r228 σ τ x2 x3 x4 x5 = some o → hv_J p l e (headSpec wsL_areStates rmQ_areStates).room s m args below meth c 8 D A κ (12 * κ) (MQ below (lv_Q D (lv_val (some (.int (1 : Int32))) (hv_W 55 a (hv_XE a cy) o.1 ++ hv_W 9 b (hv_TE b cy) o.2)) A) args s 6093 (12 * 6093) A) (hv_W 55 a (hv_XE a cy) (σ) ++ (hv_W 9 b (hv_TE b cy) (τ) ++ [(q4, hv_row cy (x4).1 (x4).2)])) 228 [(0, .ref (a 0)), (1, .ref (b 1)), (2, .int (x2)), (3, .int (x3)), (4, .ref q4), (5, .int (x5))] []) : ∀ (κ : Nat) (σ τ : hv_St) (x2 : Int32) (x3 : Int32) (x4 : Int64 × Int64) (x5 : Int32) (q4 : Nat), κ + (0 + C228) ≤ 6093 → kQ_areStates_304 n r179 r228 σ τ x2 x3 x4 x5 = some o → hv_J p l e (headSpec wsL_areStates rmQ_areStates).room s m args below meth c 8 D A κ (12 * κ) (MQ below (lv_Q D (lv_val (some (.int (1 : Int32))) (hv_W 55 a (hv_XE a cy) o.1 ++ hv_W 9 b (hv_TE b cy) o.2)) A) args s 6093 (12 * 6093) A) (hv_W 55 a (hv_XE a cy) (σ) ++ (hv_W 9 b (hv_TE b cy) (τ) ++ [(q4, hv_row cy (x4).1 (x4).2)])) 304 [(0, .ref (a 0)), (1, .ref (b 1)), (2, .int (x2)), (3, .int (x3)), (4, .ref q4), (5, .int (x5))] [] := by
  intro κ σ τ x2 x3 x4 x5 q4 hκ h
  unfold kQ_areStates_304 at h
  refine r_iinc (pc := 304) C 5 (v := (x5) + 1) (lv' := [(5, .int ((x5) + 1)), (0, .ref (a 0)), (1, .ref (b 1)), (2, .int (x2)), (3, .int (x3)), (4, .ref q4)]) dL_areStates_304 rfl rfl (Nat.le_of_ble_eq_true rfl) rfl ?_
  refine r_goto (pc := 307) C (tgt := 228) dL_areStates_307 (by decide) ?_
  have K9 := hr228 κ (σ) (τ) (x2) (x3) (x4) ((x5) + 1) q4 (by omega) h
  exact r_lv [1, 2, 3, 4, 5, 0] rfl K9
set_option maxHeartbeats 4000000 in
set_option maxRecDepth 20000 in
theorem bQ_areStates_298 (hflag : l.stackTraces = false) (C : hv_C p s m args meth c cL_areStates 8 wsL_areStates RL D (hv_tys cy)) (hA : ∀ q, s.heap.size ≤ q → A q) (hT : hv_TA A s) (hr : meth.sig.returnType = (some .boolean)) {n : Nat} {o : hv_St × hv_St} {r179 : hv_St → hv_St → Int32 → Int32 → Option (hv_St × hv_St)} {r228 : hv_St → hv_St → Int32 → Int32 → (Int64 × Int64) → Int32 → Option (hv_St × hv_St)} {C179 : Nat} {C228 : Nat} (hr179 : ∀ (κ : Nat) (σ τ : hv_St) (x2 : Int32) (x3 : Int32), κ + C179 ≤ 6093 → r179 σ τ x2 x3 = some o → hv_J p l e (headSpec wsL_areStates rmQ_areStates).room s m args below meth c 8 D A κ (12 * κ) (MQ below (lv_Q D (lv_val (some (.int (1 : Int32))) (hv_W 55 a (hv_XE a cy) o.1 ++ hv_W 9 b (hv_TE b cy) o.2)) A) args s 6093 (12 * 6093) A) (hv_W 55 a (hv_XE a cy) (σ) ++ (hv_W 9 b (hv_TE b cy) (τ) ++ [])) 179 [(0, .ref (a 0)), (1, .ref (b 1)), (2, .int (x2)), (3, .int (x3))] []) (hr228 : ∀ (κ : Nat) (σ τ : hv_St) (x2 : Int32) (x3 : Int32) (x4 : Int64 × Int64) (x5 : Int32) (q4 : Nat), κ + C228 ≤ 6093 → r228 σ τ x2 x3 x4 x5 = some o → hv_J p l e (headSpec wsL_areStates rmQ_areStates).room s m args below meth c 8 D A κ (12 * κ) (MQ below (lv_Q D (lv_val (some (.int (1 : Int32))) (hv_W 55 a (hv_XE a cy) o.1 ++ hv_W 9 b (hv_TE b cy) o.2)) A) args s 6093 (12 * 6093) A) (hv_W 55 a (hv_XE a cy) (σ) ++ (hv_W 9 b (hv_TE b cy) (τ) ++ [(q4, hv_row cy (x4).1 (x4).2)])) 228 [(0, .ref (a 0)), (1, .ref (b 1)), (2, .int (x2)), (3, .int (x3)), (4, .ref q4), (5, .int (x5))] []) : ∀ (κ : Nat) (σ τ : hv_St) (x2 : Int32) (x3 : Int32) (x4 : Int64 × Int64) (x5 : Int32) (z0 : Int64) (z1 : Int64) (q4 : Nat), κ + (0 + C228) ≤ 6093 → kQ_areStates_298 n r179 r228 σ τ x2 x3 x4 x5 z0 z1 = some o → hv_J p l e (headSpec wsL_areStates rmQ_areStates).room s m args below meth c 8 D A κ (12 * κ) (MQ below (lv_Q D (lv_val (some (.int (1 : Int32))) (hv_W 55 a (hv_XE a cy) o.1 ++ hv_W 9 b (hv_TE b cy) o.2)) A) args s 6093 (12 * 6093) A) (hv_W 55 a (hv_XE a cy) (σ) ++ (hv_W 9 b (hv_TE b cy) (τ) ++ [(q4, hv_row cy (x4).1 (x4).2)])) 298 [(0, .ref (a 0)), (1, .ref (b 1)), (2, .int (x2)), (3, .int (x3)), (4, .ref q4), (5, .int (x5))] [.long (z0), .long (z1)] := by
  intro κ σ τ x2 x3 x4 x5 z0 z1 q4 hκ h
  unfold kQ_areStates_298 at h
  refine r_lcmp (pc := 298) C dL_areStates_298 ?_
  refine r_if_eq (pc := 299) (tgt := 304) C dL_areStates_299 (by decide) (fun c299 => ?_) (fun c299 => ?_)
  · rw [if_pos c299] at h
    have K9 := bQ_areStates_304 (e := e) (below := below) (a := a) (b := b) (n := n) hflag C hA hT hr hr179 hr228 κ (σ) (τ) (x2) (x3) (x4) (x5) q4 (by omega) h
    exact r_lv [0, 1, 2, 3, 4, 5] rfl K9
  · rw [if_neg c299] at h
    cases h
set_option maxHeartbeats 4000000 in
set_option maxRecDepth 20000 in
theorem bQ_areStates_228 (hflag : l.stackTraces = false) (C : hv_C p s m args meth c cL_areStates 8 wsL_areStates RL D (hv_tys cy)) (hA : ∀ q, s.heap.size ≤ q → A q) (hT : hv_TA A s) (hr : meth.sig.returnType = (some .boolean)) {n : Nat} {o : hv_St × hv_St} {r179 : hv_St → hv_St → Int32 → Int32 → Option (hv_St × hv_St)} {C179 : Nat} (hr179 : ∀ (κ : Nat) (σ τ : hv_St) (x2 : Int32) (x3 : Int32), κ + C179 ≤ 6093 → r179 σ τ x2 x3 = some o → hv_J p l e (headSpec wsL_areStates rmQ_areStates).room s m args below meth c 8 D A κ (12 * κ) (MQ below (lv_Q D (lv_val (some (.int (1 : Int32))) (hv_W 55 a (hv_XE a cy) o.1 ++ hv_W 9 b (hv_TE b cy) o.2)) A) args s 6093 (12 * 6093) A) (hv_W 55 a (hv_XE a cy) (σ) ++ (hv_W 9 b (hv_TE b cy) (τ) ++ [])) 179 [(0, .ref (a 0)), (1, .ref (b 1)), (2, .int (x2)), (3, .int (x3))] []) : ∀ (i κ : Nat) (σ τ : hv_St) (x2 : Int32) (x3 : Int32) (x4 : Int64 × Int64) (x5 : Int32) (q4 : Nat), κ + (i * 11 + (3 + C179)) ≤ 6093 → kQ_areStates_228 n r179 i σ τ x2 x3 x4 x5 = some o → hv_J p l e (headSpec wsL_areStates rmQ_areStates).room s m args below meth c 8 D A κ (12 * κ) (MQ below (lv_Q D (lv_val (some (.int (1 : Int32))) (hv_W 55 a (hv_XE a cy) o.1 ++ hv_W 9 b (hv_TE b cy) o.2)) A) args s 6093 (12 * 6093) A) (hv_W 55 a (hv_XE a cy) (σ) ++ (hv_W 9 b (hv_TE b cy) (τ) ++ [(q4, hv_row cy (x4).1 (x4).2)])) 228 [(0, .ref (a 0)), (1, .ref (b 1)), (2, .int (x2)), (3, .int (x3)), (4, .ref q4), (5, .int (x5))] [] := by
  intro i
  induction i with
  | zero =>
    intro κ σ τ x2 x3 x4 x5 q4 hκ h
    cases h
  | succ i ih =>
    intro κ σ τ x2 x3 x4 x5 q4 hκ h
    generalize hg : kQ_areStates_228 n r179 i = r228 at ih
    have hr228 := ih
    rw [Nat.succ_mul] at hκ
    generalize eC9 : i * 11 + (3 + C179) = C9 at hr228
    replace h : kQ_areStates_228_b n r179 r228 σ τ x2 x3 x4 x5 = some o := by rw [← hg]; exact h
    unfold kQ_areStates_228_b at h
    refine r_iload (pc := 228) C 5 dL_areStates_228 rfl ?_
    refine r_iload_n (pc := 230) C 2 dL_areStates_230 rfl rfl ?_
    refine r_icmp_ge (pc := 231) (tgt := 310) C dL_areStates_231 (by decide) (fun c231 => ?_) (fun c231 => ?_)
    · rw [if_pos c231] at h
      refine r_aload_n (pc := 310) C 0 dL_areStates_310 rfl rfl ?_
      refine r_iload_n (pc := 311) C 3 dL_areStates_311 rfl rfl ?_
      obtain ⟨r312, s312, hc312, h⟩ := hv_b2_some h
      refine r_callMW (pc := 312) (wc := hv_W 55 a (hv_XE a cy) (σ)) (As := [.ref (a 0), .int (x3)]) (rest := []) C hA hT (vQ_pull hflag hc312) (vx_cwSW 2 C.1.2.2.2.2 gL_areStates_L_pull rfl rfl rfl (by decide +kernel) ⟨(Nat.le_of_ble_eq_true rfl), (Nat.le_of_ble_eq_true rfl)⟩) rfl rfl (Nat.le_of_ble_eq_true rfl) dL_areStates_312 (lv_cl (MC := 6093) (need := 3) (by omega) (Nat.le_refl _)) (fun v w hR => ?_)
      refine r_tw ?_
      rcases hv_ox_some h with ⟨e312, h9⟩ | ⟨x312, e312, h9⟩
      · clear h
        subst e312
        have h := h9
        obtain ⟨rfl, rfl⟩ := hR
        refine r_st (st' := [.null]) rfl ?_
        refine r_astoreN (pc := 315) C (lv' := [(5, .null), (0, .ref (a 0)), (1, .ref (b 1)), (2, .int (x2)), (3, .int (x3)), (4, .ref q4)]) dL_areStates_315 (Nat.le_of_ble_eq_true rfl) rfl ?_
        refine r_aloadN (pc := 317) C 0 dL_areStates_317 rfl ?_
        cases h
      · clear h
        subst e312
        have h := h9
        obtain ⟨q312, rfl, rfl⟩ := hR
        refine r_perm lv_rot ?_
        refine r_st (st' := [.ref q312]) rfl ?_
        refine r_sub (ws' := hv_W 55 a (hv_XE a cy) (s312) ++ (hv_W 9 b (hv_TE b cy) (τ) ++ [(q4, hv_row cy (x4).1 (x4).2), (q312, hv_row cy (x312).1 (x312).2)])) (lv_keep2 (.cons_cons _ (.cons_cons _ .slnil))) ?_
        refine r_astore (pc := 315) C (lv' := [(5, .ref q312), (0, .ref (a 0)), (1, .ref (b 1)), (2, .int (x2)), (3, .int (x3)), (4, .ref q4)]) rfl dL_areStates_315 (Nat.le_of_ble_eq_true rfl) rfl ?_
        refine r_aload (pc := 317) C 0 dL_areStates_317 rfl ?_
        obtain ⟨r319, hc319, h⟩ := hv_bd_some h
        refine r_callO (pc := 319) (ps := [(q312, hv_row cy (x312).1 (x312).2)]) (As := [.ref q312]) (rest := []) C hA (List.forall_mem_cons.mpr ⟨lv_mem 1 rfl, List.forall_mem_nil _⟩) (vQ_isLeast hc319) (va_cwS 1 C.1.2.2.2.2 gL_areStates_L_isLeast rfl rfl rfl (by decide +kernel) ⟨(Nat.le_of_ble_eq_true rfl), (Nat.le_of_ble_eq_true rfl)⟩) rfl rfl (Nat.le_of_ble_eq_true rfl) dL_areStates_319 (lv_cl (MC := 6093) (need := 0) (by omega) (Nat.le_refl _)) (fun v w hR => ?_)
        refine r_tw ?_
        obtain ⟨rfl, rfl⟩ := hR
        refine r_st (st' := [.int (r319)]) rfl ?_
        refine r_sub (ws' := hv_W 55 a (hv_XE a cy) (s312) ++ (hv_W 9 b (hv_TE b cy) (τ) ++ [(q4, hv_row cy (x4).1 (x4).2), (q312, hv_row cy (x312).1 (x312).2)])) (lv_keep (.cons_cons _ (.cons_cons _ .slnil))) ?_
        refine r_if_eq (pc := 322) (tgt := 349) C dL_areStates_322 (by decide) (fun c322 => ?_) (fun c322 => ?_)
        · rw [if_pos c322] at h
          cases h
        · rw [if_neg c322] at h
          refine r_aload (pc := 325) C 5 dL_areStates_325 rfl ?_
          refine r_iconst (pc := 327) C (v := (0 : Int32)) dL_areStates_327 (by decide) ?_
          refine r_row0 (pc := 328) C (u := (x4).1) (v := (x4).2) (lv_mem 0 rfl) dL_areStates_328 ?_
          refine r_aload (pc := 329) C 0 dL_areStates_329 rfl ?_
          refine r_iconst (pc := 331) C (v := (0 : Int32)) dL_areStates_331 (by decide) ?_
          refine r_row0 (pc := 332) C (u := (x312).1) (v := (x312).2) (lv_mem 1 rfl) dL_areStates_332 ?_
          refine r_lcmp (pc := 333) C dL_areStates_333 ?_
          refine r_if_ne (pc := 334) (tgt := 349) C dL_areStates_334 (by decide) (fun c334 => ?_) (fun c334 => ?_)
          · rw [if_neg c334] at h
            cases h
          · rw [if_pos c334] at h
            refine r_aload (pc := 337) C 5 dL_areStates_337 rfl ?_
            refine r_iconst (pc := 339) C (v := (1 : Int32)) dL_areStates_339 (by decide) ?_
            refine r_row1 (pc := 340) C (u := (x4).1) (v := (x4).2) (lv_mem 0 rfl) dL_areStates_340 ?_
            refine r_aload (pc := 341) C 0 dL_areStates_341 rfl ?_
            refine r_iconst (pc := 343) C (v := (1 : Int32)) dL_areStates_343 (by decide) ?_
            refine r_row1 (pc := 344) C (u := (x312).1) (v := (x312).2) (lv_mem 1 rfl) dL_areStates_344 ?_
            refine r_lcmp (pc := 345) C dL_areStates_345 ?_
            refine r_if_eq (pc := 346) (tgt := 351) C dL_areStates_346 (by decide) (fun c346 => ?_) (fun c346 => ?_)
            · rw [if_pos c346] at h
              refine r_sub (ws' := hv_W 55 a (hv_XE a cy) (s312) ++ (hv_W 9 b (hv_TE b cy) (τ) ++ [])) (lv_keep2 (.cons _ (.cons _ .slnil))) ?_
              have K9 := bQ_areStates_351 (e := e) (below := below) (a := a) (b := b) (n := n) hflag C hA hT hr hr179 ((κ + 3) + 0) (s312) (τ) (x2) (x3) (by omega) h
              exact r_lv [1, 2, 3, 4] rfl K9
            · rw [if_neg c346] at h
              cases h
    · rw [if_neg c231] at h
      refine r_aload (pc := 234) C 4 dL_areStates_234 rfl ?_
      refine r_aload_n (pc := 236) C 0 dL_areStates_236 rfl rfl ?_
      refine r_iload (pc := 237) C 5 dL_areStates_237 rfl ?_
      refine r_iload_n (pc := 239) C 3 dL_areStates_239 rfl rfl ?_
      obtain ⟨r240, s240, hc240, h⟩ := hv_b2_some h
      refine r_callMW (pc := 240) (wc := hv_W 55 a (hv_XE a cy) (σ)) (As := [.ref (a 0), .int (x5), .int (x3)]) (rest := [.ref q4]) C hA hT (vQ_state hflag hc240) (vx_cwSW 3 C.1.2.2.2.2 gL_areStates_L_state rfl rfl rfl (by decide +kernel) ⟨(Nat.le_of_ble_eq_true rfl), (Nat.le_of_ble_eq_true rfl)⟩) rfl rfl (Nat.le_of_ble_eq_true rfl) dL_areStates_240 (lv_cl (MC := 6093) (need := 3) (by omega) (Nat.le_refl _)) (fun v w hR => ?_)
      refine r_tw ?_
      rcases hv_ox_some h with ⟨e240, h9⟩ | ⟨x240, e240, h9⟩
      · clear h
        subst e240
        have h := h9
        obtain ⟨rfl, rfl⟩ := hR
        refine r_st (st' := [.null, .ref q4]) rfl ?_
        refine r_aload_n (pc := 243) C 0 dL_areStates_243 rfl rfl ?_
        refine r_aload_n (pc := 244) C 0 dL_areStates_244 rfl rfl ?_
        refine r_iload (pc := 245) C 5 dL_areStates_245 rfl ?_
        obtain ⟨r247, s247, hc247, h⟩ := hv_b2_some h
        refine r_callB0 (pc := 247) (τ := s247) (v := some (.int (r247))) (As := [.ref (a 0), .int (x5)]) (rest := [.ref (a 0), .null, .ref q4]) C hA (vL_spareAt hc247) (va_cwS 2 C.1.2.2.2.2 gL_areStates_L_spareAt rfl rfl rfl (by decide +kernel) ⟨(Nat.le_of_ble_eq_true rfl), (Nat.le_of_ble_eq_true rfl)⟩) rfl rfl (Nat.le_of_ble_eq_true rfl) dL_areStates_247 (lv_cl0 (MC := 6093) (need := 0) (by omega)) ?_
        refine r_st (st' := [.int (r247), .ref (a 0), .null, .ref q4]) rfl ?_
        obtain ⟨r250, s250, hc250, h⟩ := hv_b2_some h
        refine r_callMW (pc := 250) (wc := hv_W 55 a (hv_XE a cy) (s247)) (As := [.ref (a 0), .int (r247)]) (rest := [.null, .ref q4]) C hA hT (vQ_pull hflag hc250) (vx_cwSW 2 C.1.2.2.2.2 gL_areStates_L_pull rfl rfl rfl (by decide +kernel) ⟨(Nat.le_of_ble_eq_true rfl), (Nat.le_of_ble_eq_true rfl)⟩) rfl rfl (Nat.le_of_ble_eq_true rfl) dL_areStates_250 (lv_cl (MC := 6093) (need := 3) (by omega) (Nat.le_refl _)) (fun v w hR => ?_)
        refine r_tw ?_
        rcases hv_ox_some h with ⟨e250, h9⟩ | ⟨x250, e250, h9⟩
        · clear h
          subst e250
          have h := h9
          obtain ⟨rfl, rfl⟩ := hR
          refine r_st (st' := [.null, .null, .ref q4]) rfl ?_
          cases h
        · clear h
          subst e250
          have h := h9
          obtain ⟨q250, rfl, rfl⟩ := hR
          refine r_perm lv_rot ?_
          refine r_st (st' := [.ref q250, .null, .ref q4]) rfl ?_
          refine r_sub (ws' := hv_W 55 a (hv_XE a cy) (s250) ++ (hv_W 9 b (hv_TE b cy) (τ) ++ [(q4, hv_row cy (x4).1 (x4).2), (q250, hv_row cy (x250).1 (x250).2)])) (lv_keep2 (.cons_cons _ (.cons_cons _ .slnil))) ?_
          cases h
      · clear h
        subst e240
        have h := h9
        obtain ⟨q240, rfl, rfl⟩ := hR
        refine r_perm lv_rot ?_
        refine r_st (st' := [.ref q240, .ref q4]) rfl ?_
        refine r_sub (ws' := hv_W 55 a (hv_XE a cy) (s240) ++ (hv_W 9 b (hv_TE b cy) (τ) ++ [(q4, hv_row cy (x4).1 (x4).2), (q240, hv_row cy (x240).1 (x240).2)])) (lv_keep2 (.cons_cons _ (.cons_cons _ .slnil))) ?_
        refine r_aload_n (pc := 243) C 0 dL_areStates_243 rfl rfl ?_
        refine r_aload_n (pc := 244) C 0 dL_areStates_244 rfl rfl ?_
        refine r_iload (pc := 245) C 5 dL_areStates_245 rfl ?_
        obtain ⟨r247, s247, hc247, h⟩ := hv_b2_some h
        refine r_callB0 (pc := 247) (τ := s247) (v := some (.int (r247))) (As := [.ref (a 0), .int (x5)]) (rest := [.ref (a 0), .ref q240, .ref q4]) C hA (vL_spareAt hc247) (va_cwS 2 C.1.2.2.2.2 gL_areStates_L_spareAt rfl rfl rfl (by decide +kernel) ⟨(Nat.le_of_ble_eq_true rfl), (Nat.le_of_ble_eq_true rfl)⟩) rfl rfl (Nat.le_of_ble_eq_true rfl) dL_areStates_247 (lv_cl0 (MC := 6093) (need := 0) (by omega)) ?_
        refine r_st (st' := [.int (r247), .ref (a 0), .ref q240, .ref q4]) rfl ?_
        obtain ⟨r250, s250, hc250, h⟩ := hv_b2_some h
        refine r_callMW (pc := 250) (wc := hv_W 55 a (hv_XE a cy) (s247)) (As := [.ref (a 0), .int (r247)]) (rest := [.ref q240, .ref q4]) C hA hT (vQ_pull hflag hc250) (vx_cwSW 2 C.1.2.2.2.2 gL_areStates_L_pull rfl rfl rfl (by decide +kernel) ⟨(Nat.le_of_ble_eq_true rfl), (Nat.le_of_ble_eq_true rfl)⟩) rfl rfl (Nat.le_of_ble_eq_true rfl) dL_areStates_250 (lv_cl (MC := 6093) (need := 3) (by omega) (Nat.le_refl _)) (fun v w hR => ?_)
        refine r_tw ?_
        rcases hv_ox_some h with ⟨e250, h9⟩ | ⟨x250, e250, h9⟩
        · clear h
          subst e250
          have h := h9
          obtain ⟨rfl, rfl⟩ := hR
          refine r_st (st' := [.null, .ref q240, .ref q4]) rfl ?_
          cases h
        · clear h
          subst e250
          have h := h9
          obtain ⟨q250, rfl, rfl⟩ := hR
          refine r_perm lv_rot ?_
          refine r_st (st' := [.ref q250, .ref q240, .ref q4]) rfl ?_
          refine r_sub (ws' := hv_W 55 a (hv_XE a cy) (s250) ++ (hv_W 9 b (hv_TE b cy) (τ) ++ [(q4, hv_row cy (x4).1 (x4).2), (q240, hv_row cy (x240).1 (x240).2), (q250, hv_row cy (x250).1 (x250).2)])) (lv_keep2 (.cons_cons _ (.cons_cons _ (.cons_cons _ .slnil)))) ?_
          obtain ⟨r253, hc253, h⟩ := hv_bd_some h
          refine r_callO (pc := 253) (ps := [(q240, hv_row cy (x240).1 (x240).2), (q250, hv_row cy (x250).1 (x250).2)]) (As := [.ref q240, .ref q250]) (rest := [.ref q4]) C hA (List.forall_mem_cons.mpr ⟨lv_mem 1 rfl, (List.forall_mem_cons.mpr ⟨lv_mem 2 rfl, List.forall_mem_nil _⟩)⟩) (vQ_times hc253) (va_cwS 2 C.1.2.2.2.2 gL_areStates_L_times rfl rfl rfl (by decide +kernel) ⟨(Nat.le_of_ble_eq_true rfl), (Nat.le_of_ble_eq_true rfl)⟩) rfl rfl (Nat.le_of_ble_eq_true rfl) dL_areStates_253 (lv_cl (MC := 6093) (need := 1) (by omega) (Nat.le_refl _)) (fun v w hR => ?_)
          refine r_tw ?_
          obtain ⟨q253, rfl, rfl⟩ := hR
          refine r_st (st' := [.ref q253, .ref q4]) rfl ?_
          refine r_sub (ws' := hv_W 55 a (hv_XE a cy) (s250) ++ (hv_W 9 b (hv_TE b cy) (τ) ++ [(q4, hv_row cy (x4).1 (x4).2), (q253, hv_row cy (r253).1 (r253).2)])) (lv_keep (.cons_cons _ (.cons _ (.cons _ (.cons_cons _ .slnil))))) ?_
          obtain ⟨r256, hc256, h⟩ := hv_bd_some h
          refine r_callO (pc := 256) (ps := [(q4, hv_row cy (x4).1 (x4).2), (q253, hv_row cy (r253).1 (r253).2)]) (As := [.ref q4, .ref q253]) (rest := []) C hA (List.forall_mem_cons.mpr ⟨lv_mem 0 rfl, (List.forall_mem_cons.mpr ⟨lv_mem 1 rfl, List.forall_mem_nil _⟩)⟩) (vQ_plus hc256) (va_cwS 2 C.1.2.2.2.2 gL_areStates_L_plus rfl rfl rfl (by decide +kernel) ⟨(Nat.le_of_ble_eq_true rfl), (Nat.le_of_ble_eq_true rfl)⟩) rfl rfl (Nat.le_of_ble_eq_true rfl) dL_areStates_256 (lv_cl (MC := 6093) (need := 1) (by omega) (Nat.le_refl _)) (fun v w hR => ?_)
          refine r_tw ?_
          obtain ⟨q256, rfl, rfl⟩ := hR
          refine r_st (st' := [.ref q256]) rfl ?_
          refine r_sub (ws' := hv_W 55 a (hv_XE a cy) (s250) ++ (hv_W 9 b (hv_TE b cy) (τ) ++ [(q256, hv_row cy (r256).1 (r256).2)])) (lv_keep (.cons _ (.cons _ (.cons_cons _ .slnil)))) ?_
          refine r_astore (pc := 259) C (lv' := [(4, .ref q256), (0, .ref (a 0)), (1, .ref (b 1)), (2, .int (x2)), (3, .int (x3)), (5, .int (x5))]) rfl dL_areStates_259 (Nat.le_of_ble_eq_true rfl) rfl ?_
          refine r_aload_n (pc := 261) C 1 dL_areStates_261 rfl rfl ?_
          refine r_bipush (pc := 262) C (v := (6 : Int32)) dL_areStates_262 (by decide) ?_
          obtain ⟨r264, s264, hc264, h⟩ := hv_b2_some h
          refine r_callV0 (pc := 264) (τ := s264) (v := some (.int (r264))) (As := [.int ((6 : Int32))]) (rest := []) C hA 0 (vX7_count hc264) (cwV 1 C.1.2.2.2.2 gL_areStates_X7_count rfl rfl rfl (by decide +kernel) ⟨(Nat.le_of_ble_eq_true rfl), (Nat.le_of_ble_eq_true rfl)⟩) (Nat.le_of_ble_eq_true rfl) rfl rfl rfl rfl (Nat.le_of_ble_eq_true rfl) dL_areStates_264 (lv_cl0 (MC := 6093) (need := 0) (by omega)) ?_
          refine r_st (st' := [.int (r264)]) rfl ?_
          refine r_iload_n (pc := 267) C 4 dL_areStates_267 rfl rfl ?_
          obtain ⟨r268, s268, hc268, h⟩ := hv_b2_some h
          refine r_callP (pc := 268) (v := some (.int (r268))) (As := [.int (r264), .int (x3)]) (rest := []) C hA (vL_isOn (a := fun _ => 0) hc268) (va_cwS 2 C.1.2.2.2.2 gL_areStates_L_isOn rfl rfl rfl (by decide +kernel) ⟨(Nat.le_of_ble_eq_true rfl), (Nat.le_of_ble_eq_true rfl)⟩) rfl rfl (Nat.le_of_ble_eq_true rfl) dL_areStates_268 (lv_cl0 (MC := 6093) (need := 0) (by omega)) ?_
          refine r_st (st' := [.int (r268)]) rfl ?_
          refine r_if_eq (pc := 271) (tgt := 304) C dL_areStates_271 (by decide) (fun c271 => ?_) (fun c271 => ?_)
          · rw [if_pos c271] at h
            have K9 := bQ_areStates_304 (e := e) (below := below) (a := a) (b := b) (n := n) hflag C hA hT hr hr179 hr228 ((((κ + 3) + 3) + 1) + 1) (s264) (τ) (x2) (x3) (r256) (x5) q256 (by omega) h
            exact r_lv [1, 2, 3, 4, 0, 5] rfl K9
          · rw [if_neg c271] at h
            refine r_aload_n (pc := 274) C 1 dL_areStates_274 rfl rfl ?_
            refine r_iload (pc := 275) C 5 dL_areStates_275 rfl ?_
            refine r_iload_n (pc := 277) C 4 dL_areStates_277 rfl rfl ?_
            obtain ⟨r278, s278, hc278, h⟩ := hv_b2_some h
            refine r_callMW (pc := 278) (wc := hv_W 55 a (hv_XE a cy) (s264)) (As := [.ref (a 0), .int (x5), .int (x3)]) (rest := []) C hA hT (vQ_state hflag hc278) (vx_cwSW 3 C.1.2.2.2.2 gL_areStates_L_state rfl rfl rfl (by decide +kernel) ⟨(Nat.le_of_ble_eq_true rfl), (Nat.le_of_ble_eq_true rfl)⟩) rfl rfl (Nat.le_of_ble_eq_true rfl) dL_areStates_278 (lv_cl (MC := 6093) (need := 3) (by omega) (Nat.le_refl _)) (fun v w hR => ?_)
            refine r_tw ?_
            rcases hv_ox_some h with ⟨e278, h9⟩ | ⟨x278, e278, h9⟩
            · clear h
              subst e278
              have h := h9
              obtain ⟨rfl, rfl⟩ := hR
              refine r_st (st' := [.null]) rfl ?_
              refine r_iconst (pc := 281) C (v := (0 : Int32)) dL_areStates_281 (by decide) ?_
              cases h
            · clear h
              subst e278
              have h := h9
              obtain ⟨q278, rfl, rfl⟩ := hR
              refine r_perm lv_rot ?_
              refine r_st (st' := [.ref q278]) rfl ?_
              refine r_sub (ws' := hv_W 55 a (hv_XE a cy) (s278) ++ (hv_W 9 b (hv_TE b cy) (τ) ++ [(q256, hv_row cy (r256).1 (r256).2), (q278, hv_row cy (x278).1 (x278).2)])) (lv_keep2 (.cons_cons _ (.cons_cons _ .slnil))) ?_
              refine r_iconst (pc := 281) C (v := (0 : Int32)) dL_areStates_281 (by decide) ?_
              refine r_row0 (pc := 282) C (u := (x278).1) (v := (x278).2) (lv_mem 1 rfl) dL_areStates_282 ?_
              refine r_aload_n (pc := 283) C 1 dL_areStates_283 rfl rfl ?_
              refine r_iload (pc := 284) C 5 dL_areStates_284 rfl ?_
              obtain ⟨r286, s286, hc286, h⟩ := hv_b2_some h
              refine r_callB0 (pc := 286) (τ := s286) (v := some (.int (r286))) (As := [.ref (a 0), .int (x5)]) (rest := [.long ((x278).1)]) C hA (vL_spareAt hc286) (va_cwS 2 C.1.2.2.2.2 gL_areStates_L_spareAt rfl rfl rfl (by decide +kernel) ⟨(Nat.le_of_ble_eq_true rfl), (Nat.le_of_ble_eq_true rfl)⟩) rfl rfl (Nat.le_of_ble_eq_true rfl) dL_areStates_286 (lv_cl0 (MC := 6093) (need := 0) (by omega)) ?_
              refine r_st (st' := [.int (r286), .long ((x278).1)]) rfl ?_
              refine r_iload_n (pc := 289) C 4 dL_areStates_289 rfl rfl ?_
              refine r_icmp_ne (pc := 290) (tgt := 297) C dL_areStates_290 (by decide) (fun c290 => ?_) (fun c290 => ?_)
              · rw [if_neg c290] at h
                refine r_lconst (pc := 297) C (v := (0 : Int64)) dL_areStates_297 (by decide) ?_
                refine r_sub (ws' := hv_W 55 a (hv_XE a cy) (s286) ++ (hv_W 9 b (hv_TE b cy) (τ) ++ [(q256, hv_row cy (r256).1 (r256).2)])) (lv_keep2 (.cons_cons _ (.cons _ .slnil))) ?_
                have K9 := bQ_areStates_298 (e := e) (below := below) (a := a) (b := b) (n := n) hflag C hA hT hr hr179 hr228 (((((κ + 3) + 3) + 1) + 1) + 3) (s286) (τ) (x2) (x3) (r256) (x5) ((0 : Int64)) ((x278).1) q256 (by omega) h
                exact r_lv [1, 2, 3, 4, 0, 5] rfl K9
              · rw [if_pos c290] at h
                refine r_lconst (pc := 293) C (v := (1 : Int64)) dL_areStates_293 (by decide) ?_
                refine r_goto (pc := 294) C (tgt := 298) dL_areStates_294 (by decide) ?_
                refine r_sub (ws' := hv_W 55 a (hv_XE a cy) (s286) ++ (hv_W 9 b (hv_TE b cy) (τ) ++ [(q256, hv_row cy (r256).1 (r256).2)])) (lv_keep2 (.cons_cons _ (.cons _ .slnil))) ?_
                have K9 := bQ_areStates_298 (e := e) (below := below) (a := a) (b := b) (n := n) hflag C hA hT hr hr179 hr228 (((((κ + 3) + 3) + 1) + 1) + 3) (s286) (τ) (x2) (x3) (r256) (x5) ((1 : Int64)) ((x278).1) q256 (by omega) h
                exact r_lv [1, 2, 3, 4, 0, 5] rfl K9
set_option maxHeartbeats 4000000 in
set_option maxRecDepth 20000 in
theorem bQ_areStates_179 (hflag : l.stackTraces = false) (C : hv_C p s m args meth c cL_areStates 8 wsL_areStates RL D (hv_tys cy)) (hA : ∀ q, s.heap.size ≤ q → A q) (hT : hv_TA A s) (hr : meth.sig.returnType = (some .boolean)) {n : Nat} {o : hv_St × hv_St} : ∀ (i κ : Nat) (σ τ : hv_St) (x2 : Int32) (x3 : Int32), κ + (i * 39 + 369) ≤ 6093 → kQ_areStates_179 n i σ τ x2 x3 = some o → hv_J p l e (headSpec wsL_areStates rmQ_areStates).room s m args below meth c 8 D A κ (12 * κ) (MQ below (lv_Q D (lv_val (some (.int (1 : Int32))) (hv_W 55 a (hv_XE a cy) o.1 ++ hv_W 9 b (hv_TE b cy) o.2)) A) args s 6093 (12 * 6093) A) (hv_W 55 a (hv_XE a cy) (σ) ++ (hv_W 9 b (hv_TE b cy) (τ) ++ [])) 179 [(0, .ref (a 0)), (1, .ref (b 1)), (2, .int (x2)), (3, .int (x3))] [] := by
  intro i
  induction i with
  | zero =>
    intro κ σ τ x2 x3 hκ h
    cases h
  | succ i ih =>
    intro κ σ τ x2 x3 hκ h
    generalize hg : kQ_areStates_179 n i = r179 at ih
    have hr179 := ih
    rw [Nat.succ_mul] at hκ
    generalize eC9 : i * 39 + 369 = C9 at hr179
    replace h : kQ_areStates_179_b n r179 σ τ x2 x3 = some o := by rw [← hg]; exact h
    unfold kQ_areStates_179_b at h
    refine r_iload_n (pc := 179) C 3 dL_areStates_179 rfl rfl ?_
    refine r_aload_n (pc := 180) C 1 dL_areStates_180 rfl rfl ?_
    refine rt_get_8 (pc := 181) C iL_areStates_X9 (List.mem_of_getElem? (i := 19) rfl) dL_areStates_181 ?_
    refine r_icmp_ge (pc := 184) (tgt := 357) C dL_areStates_184 (by decide) (fun c184 => ?_) (fun c184 => ?_)
    · rw [if_pos c184] at h
      refine r_iconst (pc := 357) C (v := (0 : Int32)) dL_areStates_357 (by decide) ?_
      refine r_istore_n (pc := 358) C (lv' := [(3, .int ((0 : Int32))), (0, .ref (a 0)), (1, .ref (b 1)), (2, .int (x2))]) rfl dL_areStates_358 rfl (Nat.le_of_ble_eq_true rfl) rfl ?_
      have K9 := bQ_areStates_359 (e := e) (below := below) (a := a) (b := b) (n := n) hflag C hA hT hr 3 κ (σ) (τ) (x2) ((0 : Int32)) (by omega) h
      exact r_lv [1, 2, 3, 0] rfl K9
    · rw [if_neg c184] at h
      refine r_aload_n (pc := 187) C 1 dL_areStates_187 rfl rfl ?_
      refine rt_get_9 (pc := 188) C iL_areStates_X9 (List.mem_of_getElem? (i := 20) rfl) dL_areStates_188 ?_
      refine r_iload_n (pc := 191) C 3 dL_areStates_191 rfl rfl ?_
      obtain ⟨r192, s192, hc192, h⟩ := hv_b2_some h
      refine r_callP (pc := 192) (v := some (.int (r192))) (As := [.int ((τ).1 1 9), .int (x3)]) (rest := []) C hA (vL_isOn (a := fun _ => 0) hc192) (va_cwS 2 C.1.2.2.2.2 gL_areStates_L_isOn rfl rfl rfl (by decide +kernel) ⟨(Nat.le_of_ble_eq_true rfl), (Nat.le_of_ble_eq_true rfl)⟩) rfl rfl (Nat.le_of_ble_eq_true rfl) dL_areStates_192 (lv_cl0 (MC := 6093) (need := 0) (by omega)) ?_
      refine r_st (st' := [.int (r192)]) rfl ?_
      refine r_if_ne (pc := 195) (tgt := 217) C dL_areStates_195 (by decide) (fun c195 => ?_) (fun c195 => ?_)
      · rw [if_neg c195] at h
        refine r_aload_n (pc := 217) C 0 dL_areStates_217 rfl rfl ?_
        refine r_iconst (pc := 218) C (v := (-1 : Int32)) dL_areStates_218 (by decide) ?_
        refine r_iload_n (pc := 219) C 3 dL_areStates_219 rfl rfl ?_
        obtain ⟨r220, s220, hc220, h⟩ := hv_b2_some h
        refine r_callMW (pc := 220) (wc := hv_W 55 a (hv_XE a cy) (σ)) (As := [.ref (a 0), .int ((-1 : Int32)), .int (x3)]) (rest := []) C hA hT (vQ_state hflag hc220) (vx_cwSW 3 C.1.2.2.2.2 gL_areStates_L_state rfl rfl rfl (by decide +kernel) ⟨(Nat.le_of_ble_eq_true rfl), (Nat.le_of_ble_eq_true rfl)⟩) rfl rfl (Nat.le_of_ble_eq_true rfl) dL_areStates_220 (lv_cl (MC := 6093) (need := 3) (by omega) (Nat.le_refl _)) (fun v w hR => ?_)
        refine r_tw ?_
        rcases hv_ox_some h with ⟨e220, h9⟩ | ⟨x220, e220, h9⟩
        · clear h
          subst e220
          have h := h9
          obtain ⟨rfl, rfl⟩ := hR
          refine r_st (st' := [.null]) rfl ?_
          cases h
        · clear h
          subst e220
          have h := h9
          obtain ⟨q220, rfl, rfl⟩ := hR
          refine r_perm lv_rot ?_
          refine r_st (st' := [.ref q220]) rfl ?_
          refine r_sub (ws' := hv_W 55 a (hv_XE a cy) (s220) ++ (hv_W 9 b (hv_TE b cy) (τ) ++ [(q220, hv_row cy (x220).1 (x220).2)])) (lv_keep2 (.cons_cons _ .slnil)) ?_
          refine r_astore (pc := 223) C (lv' := [(4, .ref q220), (0, .ref (a 0)), (1, .ref (b 1)), (2, .int (x2)), (3, .int (x3))]) rfl dL_areStates_223 (Nat.le_of_ble_eq_true rfl) rfl ?_
          refine r_iconst (pc := 225) C (v := (0 : Int32)) dL_areStates_225 (by decide) ?_
          refine r_istore (pc := 226) C (lv' := [(5, .int ((0 : Int32))), (4, .ref q220), (0, .ref (a 0)), (1, .ref (b 1)), (2, .int (x2)), (3, .int (x3))]) rfl dL_areStates_226 (Nat.le_of_ble_eq_true rfl) rfl ?_
          have K9 := bQ_areStates_228 (e := e) (below := below) (a := a) (b := b) (n := n) hflag C hA hT hr hr179 3 (κ + 3) (s220) (τ) (x2) (x3) (x220) ((0 : Int32)) q220 (by omega) h
          exact r_lv [2, 3, 4, 5, 1, 0] rfl K9
      · rw [if_pos c195] at h
        refine r_aload_n (pc := 198) C 0 dL_areStates_198 rfl rfl ?_
        refine r_iload_n (pc := 199) C 3 dL_areStates_199 rfl rfl ?_
        obtain ⟨r200, s200, hc200, h⟩ := hv_b2_some h
        refine r_callMW (pc := 200) (wc := hv_W 55 a (hv_XE a cy) (σ)) (As := [.ref (a 0), .int (x3)]) (rest := []) C hA hT (vQ_pull hflag hc200) (vx_cwSW 2 C.1.2.2.2.2 gL_areStates_L_pull rfl rfl rfl (by decide +kernel) ⟨(Nat.le_of_ble_eq_true rfl), (Nat.le_of_ble_eq_true rfl)⟩) rfl rfl (Nat.le_of_ble_eq_true rfl) dL_areStates_200 (lv_cl (MC := 6093) (need := 3) (by omega) (Nat.le_refl _)) (fun v w hR => ?_)
        refine r_tw ?_
        rcases hv_ox_some h with ⟨e200, h9⟩ | ⟨x200, e200, h9⟩
        · clear h
          subst e200
          have h := h9
          obtain ⟨rfl, rfl⟩ := hR
          refine r_st (st' := [.null]) rfl ?_
          refine r_ifnonnullN (pc := 203) C dL_areStates_203 ?_
          refine r_aload_n (pc := 206) C 0 dL_areStates_206 rfl rfl ?_
          refine r_iconst (pc := 207) C (v := (-1 : Int32)) dL_areStates_207 (by decide) ?_
          refine r_iload_n (pc := 208) C 3 dL_areStates_208 rfl rfl ?_
          obtain ⟨r209, s209, hc209, h⟩ := hv_b2_some h
          refine r_callMW (pc := 209) (wc := hv_W 55 a (hv_XE a cy) (s200)) (As := [.ref (a 0), .int ((-1 : Int32)), .int (x3)]) (rest := []) C hA hT (vQ_state hflag hc209) (vx_cwSW 3 C.1.2.2.2.2 gL_areStates_L_state rfl rfl rfl (by decide +kernel) ⟨(Nat.le_of_ble_eq_true rfl), (Nat.le_of_ble_eq_true rfl)⟩) rfl rfl (Nat.le_of_ble_eq_true rfl) dL_areStates_209 (lv_cl (MC := 6093) (need := 3) (by omega) (Nat.le_refl _)) (fun v w hR => ?_)
          refine r_tw ?_
          rcases hv_ox_some h with ⟨e209, h9⟩ | ⟨x209, e209, h9⟩
          · clear h
            subst e209
            have h := h9
            obtain ⟨rfl, rfl⟩ := hR
            refine r_st (st' := [.null]) rfl ?_
            refine r_ifnullN (pc := 212) C (tgt := 351) dL_areStates_212 (by decide) ?_
            have K9 := bQ_areStates_351 (e := e) (below := below) (a := a) (b := b) (n := n) hflag C hA hT hr hr179 ((κ + 3) + 3) (s209) (τ) (x2) (x3) (by omega) h
            exact r_lv [0, 1, 2, 3] rfl K9
          · clear h
            subst e209
            have h := h9
            obtain ⟨q209, rfl, rfl⟩ := hR
            refine r_perm lv_rot ?_
            refine r_st (st' := [.ref q209]) rfl ?_
            refine r_sub (ws' := hv_W 55 a (hv_XE a cy) (s209) ++ (hv_W 9 b (hv_TE b cy) (τ) ++ [(q209, hv_row cy (x209).1 (x209).2)])) (lv_keep2 (.cons_cons _ .slnil)) ?_
            refine r_ifnull (pc := 212) C dL_areStates_212 ?_
            cases h
        · clear h
          subst e200
          have h := h9
          obtain ⟨q200, rfl, rfl⟩ := hR
          refine r_perm lv_rot ?_
          refine r_st (st' := [.ref q200]) rfl ?_
          refine r_sub (ws' := hv_W 55 a (hv_XE a cy) (s200) ++ (hv_W 9 b (hv_TE b cy) (τ) ++ [(q200, hv_row cy (x200).1 (x200).2)])) (lv_keep2 (.cons_cons _ .slnil)) ?_
          refine r_ifnonnull (pc := 203) C (tgt := 215) dL_areStates_203 (by decide) ?_
          cases h
set_option maxHeartbeats 4000000 in
set_option maxRecDepth 20000 in
theorem bQ_areStates_159 (hflag : l.stackTraces = false) (C : hv_C p s m args meth c cL_areStates 8 wsL_areStates RL D (hv_tys cy)) (hA : ∀ q, s.heap.size ≤ q → A q) (hT : hv_TA A s) (hr : meth.sig.returnType = (some .boolean)) {n : Nat} {o : hv_St × hv_St} {r12 : hv_St → hv_St → Int32 → Int32 → Option (hv_St × hv_St)} {r20 : hv_St → hv_St → Int32 → Int32 → Int32 → Option (hv_St × hv_St)} {r32 : hv_St → hv_St → Int32 → Int32 → Int32 → Int32 → Option (hv_St × hv_St)} {C12 : Nat} {C20 : Nat} {C32 : Nat} (hr12 : ∀ (κ : Nat) (σ τ : hv_St) (x2 : Int32) (x3 : Int32), κ + C12 ≤ 6093 → r12 σ τ x2 x3 = some o → hv_J p l e (headSpec wsL_areStates rmQ_areStates).room s m args below meth c 8 D A κ (12 * κ) (MQ below (lv_Q D (lv_val (some (.int (1 : Int32))) (hv_W 55 a (hv_XE a cy) o.1 ++ hv_W 9 b (hv_TE b cy) o.2)) A) args s 6093 (12 * 6093) A) (hv_W 55 a (hv_XE a cy) (σ) ++ (hv_W 9 b (hv_TE b cy) (τ) ++ [])) 12 [(0, .ref (a 0)), (1, .ref (b 1)), (2, .int (x2)), (3, .int (x3))] []) (hr20 : ∀ (κ : Nat) (σ τ : hv_St) (x2 : Int32) (x3 : Int32) (x4 : Int32), κ + C20 ≤ 6093 → r20 σ τ x2 x3 x4 = some o → hv_J p l e (headSpec wsL_areStates rmQ_areStates).room s m args below meth c 8 D A κ (12 * κ) (MQ below (lv_Q D (lv_val (some (.int (1 : Int32))) (hv_W 55 a (hv_XE a cy) o.1 ++ hv_W 9 b (hv_TE b cy) o.2)) A) args s 6093 (12 * 6093) A) (hv_W 55 a (hv_XE a cy) (σ) ++ (hv_W 9 b (hv_TE b cy) (τ) ++ [])) 20 [(0, .ref (a 0)), (1, .ref (b 1)), (2, .int (x2)), (3, .int (x3)), (4, .int (x4))] []) (hr32 : ∀ (κ : Nat) (σ τ : hv_St) (x2 : Int32) (x3 : Int32) (x4 : Int32) (x5 : Int32), κ + C32 ≤ 6093 → r32 σ τ x2 x3 x4 x5 = some o → hv_J p l e (headSpec wsL_areStates rmQ_areStates).room s m args below meth c 8 D A κ (12 * κ) (MQ below (lv_Q D (lv_val (some (.int (1 : Int32))) (hv_W 55 a (hv_XE a cy) o.1 ++ hv_W 9 b (hv_TE b cy) o.2)) A) args s 6093 (12 * 6093) A) (hv_W 55 a (hv_XE a cy) (σ) ++ (hv_W 9 b (hv_TE b cy) (τ) ++ [])) 32 [(0, .ref (a 0)), (1, .ref (b 1)), (2, .int (x2)), (3, .int (x3)), (4, .int (x4)), (5, .int (x5))] []) : ∀ (κ : Nat) (σ τ : hv_St) (x2 : Int32) (x3 : Int32) (x4 : Int32) (x5 : Int32), κ + (0 + C32) ≤ 6093 → kQ_areStates_159 n r12 r20 r32 σ τ x2 x3 x4 x5 = some o → hv_J p l e (headSpec wsL_areStates rmQ_areStates).room s m args below meth c 8 D A κ (12 * κ) (MQ below (lv_Q D (lv_val (some (.int (1 : Int32))) (hv_W 55 a (hv_XE a cy) o.1 ++ hv_W 9 b (hv_TE b cy) o.2)) A) args s 6093 (12 * 6093) A) (hv_W 55 a (hv_XE a cy) (σ) ++ (hv_W 9 b (hv_TE b cy) (τ) ++ [])) 159 [(0, .ref (a 0)), (1, .ref (b 1)), (2, .int (x2)), (3, .int (x3)), (4, .int (x4)), (5, .int (x5))] [] := by
  intro κ σ τ x2 x3 x4 x5 hκ h
  unfold kQ_areStates_159 at h
  refine r_iinc (pc := 159) C 5 (v := (x5) + 1) (lv' := [(5, .int ((x5) + 1)), (0, .ref (a 0)), (1, .ref (b 1)), (2, .int (x2)), (3, .int (x3)), (4, .int (x4))]) dL_areStates_159 rfl rfl (Nat.le_of_ble_eq_true rfl) rfl ?_
  refine r_goto (pc := 162) C (tgt := 32) dL_areStates_162 (by decide) ?_
  have K9 := hr32 κ (σ) (τ) (x2) (x3) (x4) ((x5) + 1) (by omega) h
  exact r_lv [1, 2, 3, 4, 5, 0] rfl K9
set_option maxHeartbeats 4000000 in
set_option maxRecDepth 20000 in
theorem bQ_areStates_140 (hflag : l.stackTraces = false) (C : hv_C p s m args meth c cL_areStates 8 wsL_areStates RL D (hv_tys cy)) (hA : ∀ q, s.heap.size ≤ q → A q) (hT : hv_TA A s) (hr : meth.sig.returnType = (some .boolean)) {n : Nat} {o : hv_St × hv_St} {r12 : hv_St → hv_St → Int32 → Int32 → Option (hv_St × hv_St)} {r20 : hv_St → hv_St → Int32 → Int32 → Int32 → Option (hv_St × hv_St)} {r32 : hv_St → hv_St → Int32 → Int32 → Int32 → Int32 → Option (hv_St × hv_St)} {r85 : hv_St → hv_St → Int32 → Int32 → Int32 → Int32 → (Int64 × Int64) → Int32 → Option (hv_St × hv_St)} {C12 : Nat} {C20 : Nat} {C32 : Nat} {C85 : Nat} (hr12 : ∀ (κ : Nat) (σ τ : hv_St) (x2 : Int32) (x3 : Int32), κ + C12 ≤ 6093 → r12 σ τ x2 x3 = some o → hv_J p l e (headSpec wsL_areStates rmQ_areStates).room s m args below meth c 8 D A κ (12 * κ) (MQ below (lv_Q D (lv_val (some (.int (1 : Int32))) (hv_W 55 a (hv_XE a cy) o.1 ++ hv_W 9 b (hv_TE b cy) o.2)) A) args s 6093 (12 * 6093) A) (hv_W 55 a (hv_XE a cy) (σ) ++ (hv_W 9 b (hv_TE b cy) (τ) ++ [])) 12 [(0, .ref (a 0)), (1, .ref (b 1)), (2, .int (x2)), (3, .int (x3))] []) (hr20 : ∀ (κ : Nat) (σ τ : hv_St) (x2 : Int32) (x3 : Int32) (x4 : Int32), κ + C20 ≤ 6093 → r20 σ τ x2 x3 x4 = some o → hv_J p l e (headSpec wsL_areStates rmQ_areStates).room s m args below meth c 8 D A κ (12 * κ) (MQ below (lv_Q D (lv_val (some (.int (1 : Int32))) (hv_W 55 a (hv_XE a cy) o.1 ++ hv_W 9 b (hv_TE b cy) o.2)) A) args s 6093 (12 * 6093) A) (hv_W 55 a (hv_XE a cy) (σ) ++ (hv_W 9 b (hv_TE b cy) (τ) ++ [])) 20 [(0, .ref (a 0)), (1, .ref (b 1)), (2, .int (x2)), (3, .int (x3)), (4, .int (x4))] []) (hr32 : ∀ (κ : Nat) (σ τ : hv_St) (x2 : Int32) (x3 : Int32) (x4 : Int32) (x5 : Int32), κ + C32 ≤ 6093 → r32 σ τ x2 x3 x4 x5 = some o → hv_J p l e (headSpec wsL_areStates rmQ_areStates).room s m args below meth c 8 D A κ (12 * κ) (MQ below (lv_Q D (lv_val (some (.int (1 : Int32))) (hv_W 55 a (hv_XE a cy) o.1 ++ hv_W 9 b (hv_TE b cy) o.2)) A) args s 6093 (12 * 6093) A) (hv_W 55 a (hv_XE a cy) (σ) ++ (hv_W 9 b (hv_TE b cy) (τ) ++ [])) 32 [(0, .ref (a 0)), (1, .ref (b 1)), (2, .int (x2)), (3, .int (x3)), (4, .int (x4)), (5, .int (x5))] []) (hr85 : ∀ (κ : Nat) (σ τ : hv_St) (x2 : Int32) (x3 : Int32) (x4 : Int32) (x5 : Int32) (x6 : Int64 × Int64) (x7 : Int32) (q6 : Nat), κ + C85 ≤ 6093 → r85 σ τ x2 x3 x4 x5 x6 x7 = some o → hv_J p l e (headSpec wsL_areStates rmQ_areStates).room s m args below meth c 8 D A κ (12 * κ) (MQ below (lv_Q D (lv_val (some (.int (1 : Int32))) (hv_W 55 a (hv_XE a cy) o.1 ++ hv_W 9 b (hv_TE b cy) o.2)) A) args s 6093 (12 * 6093) A) (hv_W 55 a (hv_XE a cy) (σ) ++ (hv_W 9 b (hv_TE b cy) (τ) ++ [(q6, hv_row cy (x6).1 (x6).2)])) 85 [(0, .ref (a 0)), (1, .ref (b 1)), (2, .int (x2)), (3, .int (x3)), (4, .int (x4)), (5, .int (x5)), (6, .ref q6), (7, .int (x7))] []) : ∀ (κ : Nat) (σ τ : hv_St) (x2 : Int32) (x3 : Int32) (x4 : Int32) (x5 : Int32) (x7 : Int32) (z0 : Int64 × Int64) (qz0 : Nat), κ + (0 + C85) ≤ 6093 → kQ_areStates_140 n r12 r20 r32 r85 σ τ x2 x3 x4 x5 x7 z0 = some o → hv_J p l e (headSpec wsL_areStates rmQ_areStates).room s m args below meth c 8 D A κ (12 * κ) (MQ below (lv_Q D (lv_val (some (.int (1 : Int32))) (hv_W 55 a (hv_XE a cy) o.1 ++ hv_W 9 b (hv_TE b cy) o.2)) A) args s 6093 (12 * 6093) A) (hv_W 55 a (hv_XE a cy) (σ) ++ (hv_W 9 b (hv_TE b cy) (τ) ++ [(qz0, hv_row cy (z0).1 (z0).2)])) 140 [(0, .ref (a 0)), (1, .ref (b 1)), (2, .int (x2)), (3, .int (x3)), (4, .int (x4)), (5, .int (x5)), (7, .int (x7))] [.ref qz0] := by
  intro κ σ τ x2 x3 x4 x5 x7 z0 qz0 hκ h
  unfold kQ_areStates_140 at h
  refine r_astore (pc := 140) C (lv' := [(6, .ref qz0), (0, .ref (a 0)), (1, .ref (b 1)), (2, .int (x2)), (3, .int (x3)), (4, .int (x4)), (5, .int (x5)), (7, .int (x7))]) rfl dL_areStates_140 (Nat.le_of_ble_eq_true rfl) rfl ?_
  refine r_iinc (pc := 142) C 7 (v := (x7) + 1) (lv' := [(7, .int ((x7) + 1)), (6, .ref qz0), (0, .ref (a 0)), (1, .ref (b 1)), (2, .int (x2)), (3, .int (x3)), (4, .int (x4)), (5, .int (x5))]) dL_areStates_142 rfl rfl (Nat.le_of_ble_eq_true rfl) rfl ?_
  refine r_goto (pc := 145) C (tgt := 85) dL_areStates_145 (by decide) ?_
  have K9 := hr85 κ (σ) (τ) (x2) (x3) (x4) (x5) (z0) ((x7) + 1) qz0 (by omega) h
  exact r_lv [2, 3, 4, 5, 6, 7, 1, 0] rfl K9
set_option maxHeartbeats 4000000 in
set_option maxRecDepth 20000 in
theorem bQ_areStates_85 (hflag : l.stackTraces = false) (C : hv_C p s m args meth c cL_areStates 8 wsL_areStates RL D (hv_tys cy)) (hA : ∀ q, s.heap.size ≤ q → A q) (hT : hv_TA A s) (hr : meth.sig.returnType = (some .boolean)) {n : Nat} {o : hv_St × hv_St} {r12 : hv_St → hv_St → Int32 → Int32 → Option (hv_St × hv_St)} {r20 : hv_St → hv_St → Int32 → Int32 → Int32 → Option (hv_St × hv_St)} {r32 : hv_St → hv_St → Int32 → Int32 → Int32 → Int32 → Option (hv_St × hv_St)} {C12 : Nat} {C20 : Nat} {C32 : Nat} (hr12 : ∀ (κ : Nat) (σ τ : hv_St) (x2 : Int32) (x3 : Int32), κ + C12 ≤ 6093 → r12 σ τ x2 x3 = some o → hv_J p l e (headSpec wsL_areStates rmQ_areStates).room s m args below meth c 8 D A κ (12 * κ) (MQ below (lv_Q D (lv_val (some (.int (1 : Int32))) (hv_W 55 a (hv_XE a cy) o.1 ++ hv_W 9 b (hv_TE b cy) o.2)) A) args s 6093 (12 * 6093) A) (hv_W 55 a (hv_XE a cy) (σ) ++ (hv_W 9 b (hv_TE b cy) (τ) ++ [])) 12 [(0, .ref (a 0)), (1, .ref (b 1)), (2, .int (x2)), (3, .int (x3))] []) (hr20 : ∀ (κ : Nat) (σ τ : hv_St) (x2 : Int32) (x3 : Int32) (x4 : Int32), κ + C20 ≤ 6093 → r20 σ τ x2 x3 x4 = some o → hv_J p l e (headSpec wsL_areStates rmQ_areStates).room s m args below meth c 8 D A κ (12 * κ) (MQ below (lv_Q D (lv_val (some (.int (1 : Int32))) (hv_W 55 a (hv_XE a cy) o.1 ++ hv_W 9 b (hv_TE b cy) o.2)) A) args s 6093 (12 * 6093) A) (hv_W 55 a (hv_XE a cy) (σ) ++ (hv_W 9 b (hv_TE b cy) (τ) ++ [])) 20 [(0, .ref (a 0)), (1, .ref (b 1)), (2, .int (x2)), (3, .int (x3)), (4, .int (x4))] []) (hr32 : ∀ (κ : Nat) (σ τ : hv_St) (x2 : Int32) (x3 : Int32) (x4 : Int32) (x5 : Int32), κ + C32 ≤ 6093 → r32 σ τ x2 x3 x4 x5 = some o → hv_J p l e (headSpec wsL_areStates rmQ_areStates).room s m args below meth c 8 D A κ (12 * κ) (MQ below (lv_Q D (lv_val (some (.int (1 : Int32))) (hv_W 55 a (hv_XE a cy) o.1 ++ hv_W 9 b (hv_TE b cy) o.2)) A) args s 6093 (12 * 6093) A) (hv_W 55 a (hv_XE a cy) (σ) ++ (hv_W 9 b (hv_TE b cy) (τ) ++ [])) 32 [(0, .ref (a 0)), (1, .ref (b 1)), (2, .int (x2)), (3, .int (x3)), (4, .int (x4)), (5, .int (x5))] []) : ∀ (i κ : Nat) (σ τ : hv_St) (x2 : Int32) (x3 : Int32) (x4 : Int32) (x5 : Int32) (x6 : Int64 × Int64) (x7 : Int32) (q6 : Nat), κ + (i * 6 + (0 + C32)) ≤ 6093 → kQ_areStates_85 n r12 r20 r32 i σ τ x2 x3 x4 x5 x6 x7 = some o → hv_J p l e (headSpec wsL_areStates rmQ_areStates).room s m args below meth c 8 D A κ (12 * κ) (MQ below (lv_Q D (lv_val (some (.int (1 : Int32))) (hv_W 55 a (hv_XE a cy) o.1 ++ hv_W 9 b (hv_TE b cy) o.2)) A) args s 6093 (12 * 6093) A) (hv_W 55 a (hv_XE a cy) (σ) ++ (hv_W 9 b (hv_TE b cy) (τ) ++ [(q6, hv_row cy (x6).1 (x6).2)])) 85 [(0, .ref (a 0)), (1, .ref (b 1)), (2, .int (x2)), (3, .int (x3)), (4, .int (x4)), (5, .int (x5)), (6, .ref q6), (7, .int (x7))] [] := by
  intro i
  induction i with
  | zero =>
    intro κ σ τ x2 x3 x4 x5 x6 x7 q6 hκ h
    cases h
  | succ i ih =>
    intro κ σ τ x2 x3 x4 x5 x6 x7 q6 hκ h
    generalize hg : kQ_areStates_85 n r12 r20 r32 i = r85 at ih
    have hr85 := ih
    rw [Nat.succ_mul] at hκ
    generalize eC9 : i * 6 + (0 + C32) = C9 at hr85
    replace h : kQ_areStates_85_b n r12 r20 r32 r85 σ τ x2 x3 x4 x5 x6 x7 = some o := by rw [← hg]; exact h
    unfold kQ_areStates_85_b at h
    refine r_iload (pc := 85) C 7 dL_areStates_85 rfl ?_
    refine r_aload_n (pc := 87) C 1 dL_areStates_87 rfl rfl ?_
    refine rt_get_8 (pc := 88) C iL_areStates_X9 (List.mem_of_getElem? (i := 19) rfl) dL_areStates_88 ?_
    refine r_icmp_ge (pc := 91) (tgt := 148) C dL_areStates_91 (by decide) (fun c91 => ?_) (fun c91 => ?_)
    · rw [if_pos c91] at h
      refine r_aload (pc := 148) C 6 dL_areStates_148 rfl ?_
      refine r_iconst (pc := 150) C (v := (0 : Int32)) dL_areStates_150 (by decide) ?_
      refine r_row0 (pc := 151) C (u := (x6).1) (v := (x6).2) (lv_mem 0 rfl) dL_areStates_151 ?_
      refine r_lconst (pc := 152) C (v := (0 : Int64)) dL_areStates_152 (by decide) ?_
      refine r_lcmp (pc := 153) C dL_areStates_153 ?_
      refine r_if_eq (pc := 154) (tgt := 159) C dL_areStates_154 (by decide) (fun c154 => ?_) (fun c154 => ?_)
      · rw [if_pos c154] at h
        refine r_sub (ws' := hv_W 55 a (hv_XE a cy) (σ) ++ (hv_W 9 b (hv_TE b cy) (τ) ++ [])) (lv_keep2 (.cons _ .slnil)) ?_
        have K9 := bQ_areStates_159 (e := e) (below := below) (a := a) (b := b) (n := n) hflag C hA hT hr hr12 hr20 hr32 κ (σ) (τ) (x2) (x3) (x4) (x5) (by omega) h
        exact r_lv [0, 1, 2, 3, 4, 5] rfl K9
      · rw [if_neg c154] at h
        cases h
    · rw [if_neg c91] at h
      refine r_aload_n (pc := 94) C 1 dL_areStates_94 rfl rfl ?_
      refine rt_get_9 (pc := 95) C iL_areStates_X9 (List.mem_of_getElem? (i := 20) rfl) dL_areStates_95 ?_
      refine r_iload (pc := 98) C 7 dL_areStates_98 rfl ?_
      obtain ⟨r100, s100, hc100, h⟩ := hv_b2_some h
      refine r_callP (pc := 100) (v := some (.int (r100))) (As := [.int ((τ).1 1 9), .int (x7)]) (rest := []) C hA (vL_isOn (a := fun _ => 0) hc100) (va_cwS 2 C.1.2.2.2.2 gL_areStates_L_isOn rfl rfl rfl (by decide +kernel) ⟨(Nat.le_of_ble_eq_true rfl), (Nat.le_of_ble_eq_true rfl)⟩) rfl rfl (Nat.le_of_ble_eq_true rfl) dL_areStates_100 (lv_cl0 (MC := 6093) (need := 0) (by omega)) ?_
      refine r_st (st' := [.int (r100)]) rfl ?_
      refine r_if_eq (pc := 103) (tgt := 138) C dL_areStates_103 (by decide) (fun c103 => ?_) (fun c103 => ?_)
      · rw [if_pos c103] at h
        refine r_aload (pc := 138) C 6 dL_areStates_138 rfl ?_
        have K9 := bQ_areStates_140 (e := e) (below := below) (a := a) (b := b) (n := n) hflag C hA hT hr hr12 hr20 hr32 hr85 κ (σ) (τ) (x2) (x3) (x4) (x5) (x7) (x6) q6 (by omega) h
        exact r_lv [0, 1, 2, 3, 4, 5, 7] rfl K9
      · rw [if_neg c103] at h
        refine r_aload (pc := 106) C 6 dL_areStates_106 rfl ?_
        refine r_aload_n (pc := 108) C 0 dL_areStates_108 rfl rfl ?_
        refine r_iload_n (pc := 109) C 3 dL_areStates_109 rfl rfl ?_
        refine r_iload (pc := 110) C 7 dL_areStates_110 rfl ?_
        obtain ⟨r112, s112, hc112, h⟩ := hv_b2_some h
        refine r_callMW (pc := 112) (wc := hv_W 55 a (hv_XE a cy) (σ)) (As := [.ref (a 0), .int (x3), .int (x7)]) (rest := [.ref q6]) C hA hT (vQ_state hflag hc112) (vx_cwSW 3 C.1.2.2.2.2 gL_areStates_L_state rfl rfl rfl (by decide +kernel) ⟨(Nat.le_of_ble_eq_true rfl), (Nat.le_of_ble_eq_true rfl)⟩) rfl rfl (Nat.le_of_ble_eq_true rfl) dL_areStates_112 (lv_cl (MC := 6093) (need := 3) (by omega) (Nat.le_refl _)) (fun v w hR => ?_)
        refine r_tw ?_
        rcases hv_ox_some h with ⟨e112, h9⟩ | ⟨x112, e112, h9⟩
        · clear h
          subst e112
          have h := h9
          obtain ⟨rfl, rfl⟩ := hR
          refine r_st (st' := [.null, .ref q6]) rfl ?_
          refine r_aload_n (pc := 115) C 1 dL_areStates_115 rfl rfl ?_
          refine r_iload (pc := 116) C 7 dL_areStates_116 rfl ?_
          refine r_iload (pc := 118) C 4 dL_areStates_118 rfl ?_
          refine r_iload (pc := 120) C 5 dL_areStates_120 rfl ?_
          obtain ⟨r122, s122, hc122, h⟩ := hv_b2_some h
          refine r_callB (pc := 122) (τ := s122) (v := some (.int (r122))) (As := [.ref (b 1), .int (x7), .int (x4), .int (x5)]) (rest := [.null, .ref q6]) C hA (vL_brings hc122) (va_cwS 4 C.1.2.2.2.2 gL_areStates_L_brings rfl rfl rfl (by decide +kernel) ⟨(Nat.le_of_ble_eq_true rfl), (Nat.le_of_ble_eq_true rfl)⟩) rfl rfl (Nat.le_of_ble_eq_true rfl) dL_areStates_122 (lv_cl0 (MC := 6093) (need := 0) (by omega)) ?_
          refine r_st (st' := [.int (r122), .null, .ref q6]) rfl ?_
          refine r_i2l (pc := 125) C dL_areStates_125 ?_
          refine r_callO (pc := 126) (ps := []) (As := [.long ((r122).toInt64)]) (rest := [.null, .ref q6]) C hA (List.forall_mem_nil _) (vQ_whole (n := n) rfl) (va_cwS 1 C.1.2.2.2.2 gL_areStates_L_whole rfl rfl rfl (by decide +kernel) ⟨(Nat.le_of_ble_eq_true rfl), (Nat.le_of_ble_eq_true rfl)⟩) rfl rfl (Nat.le_of_ble_eq_true rfl) dL_areStates_126 (lv_cl (MC := 6093) (need := 1) (by omega) (Nat.le_refl _)) (fun v w hR => ?_)
          refine r_tw ?_
          obtain ⟨q126, rfl, rfl⟩ := hR
          refine r_st (st' := [.ref q126, .null, .ref q6]) rfl ?_
          refine r_sub (ws' := hv_W 55 a (hv_XE a cy) (s112) ++ (hv_W 9 b (hv_TE b cy) (s122) ++ [(q6, hv_row cy (x6).1 (x6).2), (q126, hv_row cy (((r122).toInt64, (1 : Int64))).1 (((r122).toInt64, (1 : Int64))).2)])) (lv_keep (.cons_cons _ (.cons_cons _ .slnil))) ?_
          cases h
        · clear h
          subst e112
          have h := h9
          obtain ⟨q112, rfl, rfl⟩ := hR
          refine r_perm lv_rot ?_
          refine r_st (st' := [.ref q112, .ref q6]) rfl ?_
          refine r_sub (ws' := hv_W 55 a (hv_XE a cy) (s112) ++ (hv_W 9 b (hv_TE b cy) (τ) ++ [(q6, hv_row cy (x6).1 (x6).2), (q112, hv_row cy (x112).1 (x112).2)])) (lv_keep2 (.cons_cons _ (.cons_cons _ .slnil))) ?_
          refine r_aload_n (pc := 115) C 1 dL_areStates_115 rfl rfl ?_
          refine r_iload (pc := 116) C 7 dL_areStates_116 rfl ?_
          refine r_iload (pc := 118) C 4 dL_areStates_118 rfl ?_
          refine r_iload (pc := 120) C 5 dL_areStates_120 rfl ?_
          obtain ⟨r122, s122, hc122, h⟩ := hv_b2_some h
          refine r_callB (pc := 122) (τ := s122) (v := some (.int (r122))) (As := [.ref (b 1), .int (x7), .int (x4), .int (x5)]) (rest := [.ref q112, .ref q6]) C hA (vL_brings hc122) (va_cwS 4 C.1.2.2.2.2 gL_areStates_L_brings rfl rfl rfl (by decide +kernel) ⟨(Nat.le_of_ble_eq_true rfl), (Nat.le_of_ble_eq_true rfl)⟩) rfl rfl (Nat.le_of_ble_eq_true rfl) dL_areStates_122 (lv_cl0 (MC := 6093) (need := 0) (by omega)) ?_
          refine r_st (st' := [.int (r122), .ref q112, .ref q6]) rfl ?_
          refine r_i2l (pc := 125) C dL_areStates_125 ?_
          refine r_callO (pc := 126) (ps := []) (As := [.long ((r122).toInt64)]) (rest := [.ref q112, .ref q6]) C hA (List.forall_mem_nil _) (vQ_whole (n := n) rfl) (va_cwS 1 C.1.2.2.2.2 gL_areStates_L_whole rfl rfl rfl (by decide +kernel) ⟨(Nat.le_of_ble_eq_true rfl), (Nat.le_of_ble_eq_true rfl)⟩) rfl rfl (Nat.le_of_ble_eq_true rfl) dL_areStates_126 (lv_cl (MC := 6093) (need := 1) (by omega) (Nat.le_refl _)) (fun v w hR => ?_)
          refine r_tw ?_
          obtain ⟨q126, rfl, rfl⟩ := hR
          refine r_st (st' := [.ref q126, .ref q112, .ref q6]) rfl ?_
          refine r_sub (ws' := hv_W 55 a (hv_XE a cy) (s112) ++ (hv_W 9 b (hv_TE b cy) (s122) ++ [(q6, hv_row cy (x6).1 (x6).2), (q112, hv_row cy (x112).1 (x112).2), (q126, hv_row cy (((r122).toInt64, (1 : Int64))).1 (((r122).toInt64, (1 : Int64))).2)])) (lv_keep (.cons_cons _ (.cons_cons _ (.cons_cons _ .slnil)))) ?_
          obtain ⟨r129, hc129, h⟩ := hv_bd_some h
          refine r_callO (pc := 129) (ps := [(q112, hv_row cy (x112).1 (x112).2), (q126, hv_row cy (((r122).toInt64, (1 : Int64))).1 (((r122).toInt64, (1 : Int64))).2)]) (As := [.ref q112, .ref q126]) (rest := [.ref q6]) C hA (List.forall_mem_cons.mpr ⟨lv_mem 1 rfl, (List.forall_mem_cons.mpr ⟨lv_mem 2 rfl, List.forall_mem_nil _⟩)⟩) (vQ_times hc129) (va_cwS 2 C.1.2.2.2.2 gL_areStates_L_times rfl rfl rfl (by decide +kernel) ⟨(Nat.le_of_ble_eq_true rfl), (Nat.le_of_ble_eq_true rfl)⟩) rfl rfl (Nat.le_of_ble_eq_true rfl) dL_areStates_129 (lv_cl (MC := 6093) (need := 1) (by omega) (Nat.le_refl _)) (fun v w hR => ?_)
          refine r_tw ?_
          obtain ⟨q129, rfl, rfl⟩ := hR
          refine r_st (st' := [.ref q129, .ref q6]) rfl ?_
          refine r_sub (ws' := hv_W 55 a (hv_XE a cy) (s112) ++ (hv_W 9 b (hv_TE b cy) (s122) ++ [(q6, hv_row cy (x6).1 (x6).2), (q129, hv_row cy (r129).1 (r129).2)])) (lv_keep (.cons_cons _ (.cons _ (.cons _ (.cons_cons _ .slnil))))) ?_
          obtain ⟨r132, hc132, h⟩ := hv_bd_some h
          refine r_callO (pc := 132) (ps := [(q6, hv_row cy (x6).1 (x6).2), (q129, hv_row cy (r129).1 (r129).2)]) (As := [.ref q6, .ref q129]) (rest := []) C hA (List.forall_mem_cons.mpr ⟨lv_mem 0 rfl, (List.forall_mem_cons.mpr ⟨lv_mem 1 rfl, List.forall_mem_nil _⟩)⟩) (vQ_plus hc132) (va_cwS 2 C.1.2.2.2.2 gL_areStates_L_plus rfl rfl rfl (by decide +kernel) ⟨(Nat.le_of_ble_eq_true rfl), (Nat.le_of_ble_eq_true rfl)⟩) rfl rfl (Nat.le_of_ble_eq_true rfl) dL_areStates_132 (lv_cl (MC := 6093) (need := 1) (by omega) (Nat.le_refl _)) (fun v w hR => ?_)
          refine r_tw ?_
          obtain ⟨q132, rfl, rfl⟩ := hR
          refine r_st (st' := [.ref q132]) rfl ?_
          refine r_sub (ws' := hv_W 55 a (hv_XE a cy) (s112) ++ (hv_W 9 b (hv_TE b cy) (s122) ++ [(q132, hv_row cy (r132).1 (r132).2)])) (lv_keep (.cons _ (.cons _ (.cons_cons _ .slnil)))) ?_
          refine r_goto (pc := 135) C (tgt := 140) dL_areStates_135 (by decide) ?_
          have K9 := bQ_areStates_140 (e := e) (below := below) (a := a) (b := b) (n := n) hflag C hA hT hr hr12 hr20 hr32 hr85 ((((κ + 3) + 1) + 1) + 1) (s112) (s122) (x2) (x3) (x4) (x5) (x7) (r132) q132 (by omega) h
          exact r_lv [0, 1, 2, 3, 4, 5, 7] rfl K9
set_option maxHeartbeats 4000000 in
set_option maxRecDepth 20000 in
theorem bQ_areStates_77 (hflag : l.stackTraces = false) (C : hv_C p s m args meth c cL_areStates 8 wsL_areStates RL D (hv_tys cy)) (hA : ∀ q, s.heap.size ≤ q → A q) (hT : hv_TA A s) (hr : meth.sig.returnType = (some .boolean)) {n : Nat} {o : hv_St × hv_St} {r12 : hv_St → hv_St → Int32 → Int32 → Option (hv_St × hv_St)} {r20 : hv_St → hv_St → Int32 → Int32 → Int32 → Option (hv_St × hv_St)} {r32 : hv_St → hv_St → Int32 → Int32 → Int32 → Int32 → Option (hv_St × hv_St)} {C12 : Nat} {C20 : Nat} {C32 : Nat} (hr12 : ∀ (κ : Nat) (σ τ : hv_St) (x2 : Int32) (x3 : Int32), κ + C12 ≤ 6093 → r12 σ τ x2 x3 = some o → hv_J p l e (headSpec wsL_areStates rmQ_areStates).room s m args below meth c 8 D A κ (12 * κ) (MQ below (lv_Q D (lv_val (some (.int (1 : Int32))) (hv_W 55 a (hv_XE a cy) o.1 ++ hv_W 9 b (hv_TE b cy) o.2)) A) args s 6093 (12 * 6093) A) (hv_W 55 a (hv_XE a cy) (σ) ++ (hv_W 9 b (hv_TE b cy) (τ) ++ [])) 12 [(0, .ref (a 0)), (1, .ref (b 1)), (2, .int (x2)), (3, .int (x3))] []) (hr20 : ∀ (κ : Nat) (σ τ : hv_St) (x2 : Int32) (x3 : Int32) (x4 : Int32), κ + C20 ≤ 6093 → r20 σ τ x2 x3 x4 = some o → hv_J p l e (headSpec wsL_areStates rmQ_areStates).room s m args below meth c 8 D A κ (12 * κ) (MQ below (lv_Q D (lv_val (some (.int (1 : Int32))) (hv_W 55 a (hv_XE a cy) o.1 ++ hv_W 9 b (hv_TE b cy) o.2)) A) args s 6093 (12 * 6093) A) (hv_W 55 a (hv_XE a cy) (σ) ++ (hv_W 9 b (hv_TE b cy) (τ) ++ [])) 20 [(0, .ref (a 0)), (1, .ref (b 1)), (2, .int (x2)), (3, .int (x3)), (4, .int (x4))] []) (hr32 : ∀ (κ : Nat) (σ τ : hv_St) (x2 : Int32) (x3 : Int32) (x4 : Int32) (x5 : Int32), κ + C32 ≤ 6093 → r32 σ τ x2 x3 x4 x5 = some o → hv_J p l e (headSpec wsL_areStates rmQ_areStates).room s m args below meth c 8 D A κ (12 * κ) (MQ below (lv_Q D (lv_val (some (.int (1 : Int32))) (hv_W 55 a (hv_XE a cy) o.1 ++ hv_W 9 b (hv_TE b cy) o.2)) A) args s 6093 (12 * 6093) A) (hv_W 55 a (hv_XE a cy) (σ) ++ (hv_W 9 b (hv_TE b cy) (τ) ++ [])) 32 [(0, .ref (a 0)), (1, .ref (b 1)), (2, .int (x2)), (3, .int (x3)), (4, .int (x4)), (5, .int (x5))] []) : ∀ (κ : Nat) (σ τ : hv_St) (x2 : Int32) (x3 : Int32) (x4 : Int32) (x5 : Int32) (z0 : Int64), κ + (73 + C32) ≤ 6093 → kQ_areStates_77 n r12 r20 r32 σ τ x2 x3 x4 x5 z0 = some o → hv_J p l e (headSpec wsL_areStates rmQ_areStates).room s m args below meth c 8 D A κ (12 * κ) (MQ below (lv_Q D (lv_val (some (.int (1 : Int32))) (hv_W 55 a (hv_XE a cy) o.1 ++ hv_W 9 b (hv_TE b cy) o.2)) A) args s 6093 (12 * 6093) A) (hv_W 55 a (hv_XE a cy) (σ) ++ (hv_W 9 b (hv_TE b cy) (τ) ++ [])) 77 [(0, .ref (a 0)), (1, .ref (b 1)), (2, .int (x2)), (3, .int (x3)), (4, .int (x4)), (5, .int (x5))] [.long (z0)] := by
  intro κ σ τ x2 x3 x4 x5 z0 hκ h
  unfold kQ_areStates_77 at h
  refine r_callO (pc := 77) (ps := []) (As := [.long (z0)]) (rest := []) C hA (List.forall_mem_nil _) (vQ_whole (n := n) rfl) (va_cwS 1 C.1.2.2.2.2 gL_areStates_L_whole rfl rfl rfl (by decide +kernel) ⟨(Nat.le_of_ble_eq_true rfl), (Nat.le_of_ble_eq_true rfl)⟩) rfl rfl (Nat.le_of_ble_eq_true rfl) dL_areStates_77 (lv_cl (MC := 6093) (need := 1) (by omega) (Nat.le_refl _)) (fun v w hR => ?_)
  refine r_tw ?_
  obtain ⟨q77, rfl, rfl⟩ := hR
  refine r_st (st' := [.ref q77]) rfl ?_
  refine r_sub (ws' := hv_W 55 a (hv_XE a cy) (σ) ++ (hv_W 9 b (hv_TE b cy) (τ) ++ [(q77, hv_row cy ((z0, (1 : Int64))).1 ((z0, (1 : Int64))).2)])) (lv_keep (.cons_cons _ .slnil)) ?_
  refine r_astore (pc := 80) C (lv' := [(6, .ref q77), (0, .ref (a 0)), (1, .ref (b 1)), (2, .int (x2)), (3, .int (x3)), (4, .int (x4)), (5, .int (x5))]) rfl dL_areStates_80 (Nat.le_of_ble_eq_true rfl) rfl ?_
  refine r_iconst (pc := 82) C (v := (0 : Int32)) dL_areStates_82 (by decide) ?_
  refine r_istore (pc := 83) C (lv' := [(7, .int ((0 : Int32))), (6, .ref q77), (0, .ref (a 0)), (1, .ref (b 1)), (2, .int (x2)), (3, .int (x3)), (4, .int (x4)), (5, .int (x5))]) rfl dL_areStates_83 (Nat.le_of_ble_eq_true rfl) rfl ?_
  have K9 := bQ_areStates_85 (e := e) (below := below) (a := a) (b := b) (n := n) hflag C hA hT hr hr12 hr20 hr32 12 (κ + 1) (σ) (τ) (x2) (x3) (x4) (x5) ((z0, (1 : Int64))) ((0 : Int32)) q77 (by omega) h
  exact r_lv [2, 3, 4, 5, 6, 7, 1, 0] rfl K9
set_option maxHeartbeats 4000000 in
set_option maxRecDepth 20000 in
theorem bQ_areStates_32 (hflag : l.stackTraces = false) (C : hv_C p s m args meth c cL_areStates 8 wsL_areStates RL D (hv_tys cy)) (hA : ∀ q, s.heap.size ≤ q → A q) (hT : hv_TA A s) (hr : meth.sig.returnType = (some .boolean)) {n : Nat} {o : hv_St × hv_St} {r12 : hv_St → hv_St → Int32 → Int32 → Option (hv_St × hv_St)} {r20 : hv_St → hv_St → Int32 → Int32 → Int32 → Option (hv_St × hv_St)} {C12 : Nat} {C20 : Nat} (hr12 : ∀ (κ : Nat) (σ τ : hv_St) (x2 : Int32) (x3 : Int32), κ + C12 ≤ 6093 → r12 σ τ x2 x3 = some o → hv_J p l e (headSpec wsL_areStates rmQ_areStates).room s m args below meth c 8 D A κ (12 * κ) (MQ below (lv_Q D (lv_val (some (.int (1 : Int32))) (hv_W 55 a (hv_XE a cy) o.1 ++ hv_W 9 b (hv_TE b cy) o.2)) A) args s 6093 (12 * 6093) A) (hv_W 55 a (hv_XE a cy) (σ) ++ (hv_W 9 b (hv_TE b cy) (τ) ++ [])) 12 [(0, .ref (a 0)), (1, .ref (b 1)), (2, .int (x2)), (3, .int (x3))] []) (hr20 : ∀ (κ : Nat) (σ τ : hv_St) (x2 : Int32) (x3 : Int32) (x4 : Int32), κ + C20 ≤ 6093 → r20 σ τ x2 x3 x4 = some o → hv_J p l e (headSpec wsL_areStates rmQ_areStates).room s m args below meth c 8 D A κ (12 * κ) (MQ below (lv_Q D (lv_val (some (.int (1 : Int32))) (hv_W 55 a (hv_XE a cy) o.1 ++ hv_W 9 b (hv_TE b cy) o.2)) A) args s 6093 (12 * 6093) A) (hv_W 55 a (hv_XE a cy) (σ) ++ (hv_W 9 b (hv_TE b cy) (τ) ++ [])) 20 [(0, .ref (a 0)), (1, .ref (b 1)), (2, .int (x2)), (3, .int (x3)), (4, .int (x4))] []) : ∀ (i κ : Nat) (σ τ : hv_St) (x2 : Int32) (x3 : Int32) (x4 : Int32) (x5 : Int32), κ + (i * 73 + (0 + C20)) ≤ 6093 → kQ_areStates_32 n r12 r20 i σ τ x2 x3 x4 x5 = some o → hv_J p l e (headSpec wsL_areStates rmQ_areStates).room s m args below meth c 8 D A κ (12 * κ) (MQ below (lv_Q D (lv_val (some (.int (1 : Int32))) (hv_W 55 a (hv_XE a cy) o.1 ++ hv_W 9 b (hv_TE b cy) o.2)) A) args s 6093 (12 * 6093) A) (hv_W 55 a (hv_XE a cy) (σ) ++ (hv_W 9 b (hv_TE b cy) (τ) ++ [])) 32 [(0, .ref (a 0)), (1, .ref (b 1)), (2, .int (x2)), (3, .int (x3)), (4, .int (x4)), (5, .int (x5))] [] := by
  intro i
  induction i with
  | zero =>
    intro κ σ τ x2 x3 x4 x5 hκ h
    cases h
  | succ i ih =>
    intro κ σ τ x2 x3 x4 x5 hκ h
    generalize hg : kQ_areStates_32 n r12 r20 i = r32 at ih
    have hr32 := ih
    rw [Nat.succ_mul] at hκ
    generalize eC9 : i * 73 + (0 + C20) = C9 at hr32
    replace h : kQ_areStates_32_b n r12 r20 r32 σ τ x2 x3 x4 x5 = some o := by rw [← hg]; exact h
    unfold kQ_areStates_32_b at h
    refine r_iload (pc := 32) C 5 dL_areStates_32 rfl ?_
    refine r_iconst (pc := 34) C (v := (2 : Int32)) dL_areStates_34 (by decide) ?_
    refine r_icmp_ge (pc := 35) (tgt := 165) C dL_areStates_35 (by decide) (fun c35 => ?_) (fun c35 => ?_)
    · rw [if_pos c35] at h
      refine r_iinc (pc := 165) C 4 (v := (x4) + 1) (lv' := [(4, .int ((x4) + 1)), (0, .ref (a 0)), (1, .ref (b 1)), (2, .int (x2)), (3, .int (x3)), (5, .int (x5))]) dL_areStates_165 rfl rfl (Nat.le_of_ble_eq_true rfl) rfl ?_
      refine r_goto (pc := 168) C (tgt := 20) dL_areStates_168 (by decide) ?_
      have K9 := hr20 κ (σ) (τ) (x2) (x3) ((x4) + 1) (by omega) h
      exact r_lv [1, 2, 3, 4, 0] rfl K9
    · rw [if_neg c35] at h
      refine r_aload_n (pc := 38) C 1 dL_areStates_38 rfl rfl ?_
      refine rt_get_2 (pc := 39) C iL_areStates_X9 (List.mem_of_getElem? (i := 13) rfl) dL_areStates_39 ?_
      refine r_iload (pc := 42) C 4 dL_areStates_42 rfl ?_
      obtain ⟨k44, h⟩ := hv_if_some h
      refine rt_ld_4 (pc := 44) C k44 dL_areStates_44 ?_
      refine r_iload (pc := 45) C 5 dL_areStates_45 rfl ?_
      obtain ⟨r47, s47, hc47, h⟩ := hv_b2_some h
      refine r_callP (pc := 47) (v := some (.int (r47))) (As := [.int ((τ).1 4 (x4).toNatClampNeg), .int (x5)]) (rest := []) C hA (vL_isOn (a := fun _ => 0) hc47) (va_cwS 2 C.1.2.2.2.2 gL_areStates_L_isOn rfl rfl rfl (by decide +kernel) ⟨(Nat.le_of_ble_eq_true rfl), (Nat.le_of_ble_eq_true rfl)⟩) rfl rfl (Nat.le_of_ble_eq_true rfl) dL_areStates_47 (lv_cl0 (MC := 6093) (need := 0) (by omega)) ?_
      refine r_st (st' := [.int (r47)]) rfl ?_
      refine r_if_eq (pc := 50) (tgt := 56) C dL_areStates_50 (by decide) (fun c50 => ?_) (fun c50 => ?_)
      · rw [if_pos c50] at h
        refine r_iload_n (pc := 56) C 3 dL_areStates_56 rfl rfl ?_
        refine r_if_ge (pc := 57) (tgt := 76) C dL_areStates_57 (by decide) (fun c57 => ?_) (fun c57 => ?_)
        · rw [if_pos c57] at h
          refine r_lconst (pc := 76) C (v := (0 : Int64)) dL_areStates_76 (by decide) ?_
          have K9 := bQ_areStates_77 (e := e) (below := below) (a := a) (b := b) (n := n) hflag C hA hT hr hr12 hr20 hr32 κ (σ) (τ) (x2) (x3) (x4) (x5) ((0 : Int64)) (by omega) h
          exact r_lv [0, 1, 2, 3, 4, 5] rfl K9
        · rw [if_neg c57] at h
          refine r_aload_n (pc := 60) C 1 dL_areStates_60 rfl rfl ?_
          refine rt_get_3 (pc := 61) C iL_areStates_X9 (List.mem_of_getElem? (i := 14) rfl) dL_areStates_61 ?_
          refine r_iconst (pc := 64) C (v := (2 : Int32)) dL_areStates_64 (by decide) ?_
          refine r_iload (pc := 65) C 4 dL_areStates_65 rfl ?_
          refine r_imul (pc := 67) C dL_areStates_67 ?_
          refine r_iload (pc := 68) C 5 dL_areStates_68 rfl ?_
          refine r_iadd (pc := 70) C dL_areStates_70 ?_
          obtain ⟨k71, h⟩ := hv_if_some h
          refine rt_ld_5 (pc := 71) C k71 dL_areStates_71 ?_
          refine r_i2l (pc := 72) C dL_areStates_72 ?_
          refine r_goto (pc := 73) C (tgt := 77) dL_areStates_73 (by decide) ?_
          have K9 := bQ_areStates_77 (e := e) (below := below) (a := a) (b := b) (n := n) hflag C hA hT hr hr12 hr20 hr32 κ (σ) (τ) (x2) (x3) (x4) (x5) (((τ).1 5 ((((2 : Int32)) * (x4)) + (x5)).toNatClampNeg).toInt64) (by omega) h
          exact r_lv [0, 1, 2, 3, 4, 5] rfl K9
      · rw [if_neg c50] at h
        refine r_goto (pc := 53) C (tgt := 159) dL_areStates_53 (by decide) ?_
        have K9 := bQ_areStates_159 (e := e) (below := below) (a := a) (b := b) (n := n) hflag C hA hT hr hr12 hr20 hr32 κ (σ) (τ) (x2) (x3) (x4) (x5) (by omega) h
        exact r_lv [0, 1, 2, 3, 4, 5] rfl K9
set_option maxHeartbeats 4000000 in
set_option maxRecDepth 20000 in
theorem bQ_areStates_20 (hflag : l.stackTraces = false) (C : hv_C p s m args meth c cL_areStates 8 wsL_areStates RL D (hv_tys cy)) (hA : ∀ q, s.heap.size ≤ q → A q) (hT : hv_TA A s) (hr : meth.sig.returnType = (some .boolean)) {n : Nat} {o : hv_St × hv_St} {r12 : hv_St → hv_St → Int32 → Int32 → Option (hv_St × hv_St)} {C12 : Nat} (hr12 : ∀ (κ : Nat) (σ τ : hv_St) (x2 : Int32) (x3 : Int32), κ + C12 ≤ 6093 → r12 σ τ x2 x3 = some o → hv_J p l e (headSpec wsL_areStates rmQ_areStates).room s m args below meth c 8 D A κ (12 * κ) (MQ below (lv_Q D (lv_val (some (.int (1 : Int32))) (hv_W 55 a (hv_XE a cy) o.1 ++ hv_W 9 b (hv_TE b cy) o.2)) A) args s 6093 (12 * 6093) A) (hv_W 55 a (hv_XE a cy) (σ) ++ (hv_W 9 b (hv_TE b cy) (τ) ++ [])) 12 [(0, .ref (a 0)), (1, .ref (b 1)), (2, .int (x2)), (3, .int (x3))] []) : ∀ (i κ : Nat) (σ τ : hv_St) (x2 : Int32) (x3 : Int32) (x4 : Int32), κ + (i * 219 + (0 + C12)) ≤ 6093 → kQ_areStates_20 n r12 i σ τ x2 x3 x4 = some o → hv_J p l e (headSpec wsL_areStates rmQ_areStates).room s m args below meth c 8 D A κ (12 * κ) (MQ below (lv_Q D (lv_val (some (.int (1 : Int32))) (hv_W 55 a (hv_XE a cy) o.1 ++ hv_W 9 b (hv_TE b cy) o.2)) A) args s 6093 (12 * 6093) A) (hv_W 55 a (hv_XE a cy) (σ) ++ (hv_W 9 b (hv_TE b cy) (τ) ++ [])) 20 [(0, .ref (a 0)), (1, .ref (b 1)), (2, .int (x2)), (3, .int (x3)), (4, .int (x4))] [] := by
  intro i
  induction i with
  | zero =>
    intro κ σ τ x2 x3 x4 hκ h
    cases h
  | succ i ih =>
    intro κ σ τ x2 x3 x4 hκ h
    generalize hg : kQ_areStates_20 n r12 i = r20 at ih
    have hr20 := ih
    rw [Nat.succ_mul] at hκ
    generalize eC9 : i * 219 + (0 + C12) = C9 at hr20
    replace h : kQ_areStates_20_b n r12 r20 σ τ x2 x3 x4 = some o := by rw [← hg]; exact h
    unfold kQ_areStates_20_b at h
    refine r_iload (pc := 20) C 4 dL_areStates_20 rfl ?_
    refine r_aload_n (pc := 22) C 1 dL_areStates_22 rfl rfl ?_
    refine rt_get_7 (pc := 23) C iL_areStates_X9 (List.mem_of_getElem? (i := 18) rfl) dL_areStates_23 ?_
    refine r_icmp_ge (pc := 26) (tgt := 171) C dL_areStates_26 (by decide) (fun c26 => ?_) (fun c26 => ?_)
    · rw [if_pos c26] at h
      refine r_iinc (pc := 171) C 3 (v := (x3) + 1) (lv' := [(3, .int ((x3) + 1)), (0, .ref (a 0)), (1, .ref (b 1)), (2, .int (x2)), (4, .int (x4))]) dL_areStates_171 rfl rfl (Nat.le_of_ble_eq_true rfl) rfl ?_
      refine r_goto (pc := 174) C (tgt := 12) dL_areStates_174 (by decide) ?_
      have K9 := hr12 κ (σ) (τ) (x2) ((x3) + 1) (by omega) h
      exact r_lv [1, 2, 3, 0] rfl K9
    · rw [if_neg c26] at h
      refine r_iconst (pc := 29) C (v := (0 : Int32)) dL_areStates_29 (by decide) ?_
      refine r_istore (pc := 30) C (lv' := [(5, .int ((0 : Int32))), (0, .ref (a 0)), (1, .ref (b 1)), (2, .int (x2)), (3, .int (x3)), (4, .int (x4))]) rfl dL_areStates_30 (Nat.le_of_ble_eq_true rfl) rfl ?_
      have K9 := bQ_areStates_32 (e := e) (below := below) (a := a) (b := b) (n := n) hflag C hA hT hr hr12 hr20 3 κ (σ) (τ) (x2) (x3) (x4) ((0 : Int32)) (by omega) h
      exact r_lv [1, 2, 3, 4, 5, 0] rfl K9
set_option maxHeartbeats 4000000 in
set_option maxRecDepth 20000 in
theorem bQ_areStates_12 (hflag : l.stackTraces = false) (C : hv_C p s m args meth c cL_areStates 8 wsL_areStates RL D (hv_tys cy)) (hA : ∀ q, s.heap.size ≤ q → A q) (hT : hv_TA A s) (hr : meth.sig.returnType = (some .boolean)) {n : Nat} {o : hv_St × hv_St} : ∀ (i κ : Nat) (σ τ : hv_St) (x2 : Int32) (x3 : Int32), κ + (i * 1314 + 837) ≤ 6093 → kQ_areStates_12 n i σ τ x2 x3 = some o → hv_J p l e (headSpec wsL_areStates rmQ_areStates).room s m args below meth c 8 D A κ (12 * κ) (MQ below (lv_Q D (lv_val (some (.int (1 : Int32))) (hv_W 55 a (hv_XE a cy) o.1 ++ hv_W 9 b (hv_TE b cy) o.2)) A) args s 6093 (12 * 6093) A) (hv_W 55 a (hv_XE a cy) (σ) ++ (hv_W 9 b (hv_TE b cy) (τ) ++ [])) 12 [(0, .ref (a 0)), (1, .ref (b 1)), (2, .int (x2)), (3, .int (x3))] [] := by
  intro i
  induction i with
  | zero =>
    intro κ σ τ x2 x3 hκ h
    cases h
  | succ i ih =>
    intro κ σ τ x2 x3 hκ h
    generalize hg : kQ_areStates_12 n i = r12 at ih
    have hr12 := ih
    rw [Nat.succ_mul] at hκ
    generalize eC9 : i * 1314 + 837 = C9 at hr12
    replace h : kQ_areStates_12_b n r12 σ τ x2 x3 = some o := by rw [← hg]; exact h
    unfold kQ_areStates_12_b at h
    refine r_iload_n (pc := 12) C 3 dL_areStates_12 rfl rfl ?_
    refine r_iload_n (pc := 13) C 2 dL_areStates_13 rfl rfl ?_
    refine r_icmp_ge (pc := 14) (tgt := 177) C dL_areStates_14 (by decide) (fun c14 => ?_) (fun c14 => ?_)
    · rw [if_pos c14] at h
      refine r_iconst (pc := 177) C (v := (0 : Int32)) dL_areStates_177 (by decide) ?_
      refine r_istore_n (pc := 178) C (lv' := [(3, .int ((0 : Int32))), (0, .ref (a 0)), (1, .ref (b 1)), (2, .int (x2))]) rfl dL_areStates_178 rfl (Nat.le_of_ble_eq_true rfl) rfl ?_
      have K9 := bQ_areStates_179 (e := e) (below := below) (a := a) (b := b) (n := n) hflag C hA hT hr 12 κ (σ) (τ) (x2) ((0 : Int32)) (by omega) h
      exact r_lv [1, 2, 3, 0] rfl K9
    · rw [if_neg c14] at h
      refine r_iconst (pc := 17) C (v := (0 : Int32)) dL_areStates_17 (by decide) ?_
      refine r_istore (pc := 18) C (lv' := [(4, .int ((0 : Int32))), (0, .ref (a 0)), (1, .ref (b 1)), (2, .int (x2)), (3, .int (x3))]) rfl dL_areStates_18 (Nat.le_of_ble_eq_true rfl) rfl ?_
      have K9 := bQ_areStates_20 (e := e) (below := below) (a := a) (b := b) (n := n) hflag C hA hT hr hr12 6 κ (σ) (τ) (x2) (x3) ((0 : Int32)) (by omega) h
      exact r_lv [1, 2, 3, 4, 0] rfl K9
set_option maxHeartbeats 4000000 in
set_option maxRecDepth 20000 in
theorem vQ_areStates (hflag : l.stackTraces = false) {n : Nat} {σ τ : hv_St} {o : hv_St × hv_St} (h : mQ_areStates n σ τ = some o) : lv_M l yL_areStates wsL_areStates rmQ_areStates D cy 6093 (12 * 6093) [.ref (a 0), .ref (b 1)] (hv_W 55 a (hv_XE a cy) σ ++ hv_W 9 b (hv_TE b cy) τ) (lv_val (some (.int (1 : Int32))) (hv_W 55 a (hv_XE a cy) o.1 ++ hv_W 9 b (hv_TE b cy) o.2)) := by
  refine lv_enter (own := RL) (cc := cL_areStates) (maxL := 8) (ret := (some .boolean)) (by decide) rfl rfl (Nat.le_of_ble_eq_true rfl) ?_
  intro p e s m args below meth c A C hA hT hr
  refine r_ws lv_nil ?_
  refine r_lv [0, 1] (lv' := [(0, .ref (a 0)), (1, .ref (b 1))]) rfl ?_
  have key : ∀ κ : Nat, κ + 6093 ≤ 6093 → hv_J p l e (headSpec wsL_areStates rmQ_areStates).room s m args below meth c 8 D A κ (12 * κ) (MQ below (lv_Q D (lv_val (some (.int (1 : Int32))) (hv_W 55 a (hv_XE a cy) o.1 ++ hv_W 9 b (hv_TE b cy) o.2)) A) args s 6093 (12 * 6093) A) (hv_W 55 a (hv_XE a cy) (σ) ++ (hv_W 9 b (hv_TE b cy) (τ) ++ [])) 0 [(0, .ref (a 0)), (1, .ref (b 1))] [] := by
    intro κ hκ
    unfold mQ_areStates at h
    refine r_aload_n (pc := 0) C 0 dL_areStates_0 rfl rfl ?_
    refine r_bipush (pc := 1) C (v := (6 : Int32)) dL_areStates_1 (by decide) ?_
    obtain ⟨r3, s3, hc3, h⟩ := hv_b2_some h
    refine r_callV0 (pc := 3) (τ := s3) (v := some (.int (r3))) (As := [.int ((6 : Int32))]) (rest := []) C hA 0 (vX7_count hc3) (cwV 1 C.1.2.2.2.2 gL_areStates_X7_count rfl rfl rfl (by decide +kernel) ⟨(Nat.le_of_ble_eq_true rfl), (Nat.le_of_ble_eq_true rfl)⟩) (Nat.le_of_ble_eq_true rfl) rfl rfl rfl rfl (Nat.le_of_ble_eq_true rfl) dL_areStates_3 (lv_cl0 (MC := 6093) (need := 0) (by omega)) ?_
    refine r_st (st' := [.int (r3)]) rfl ?_
    obtain ⟨r6, s6, hc6, h⟩ := hv_b2_some h
    refine r_callB0 (pc := 6) (τ := s6) (v := some (.int (r6))) (As := [.int (r3)]) (rest := []) C hA (vJ6_bitCount_0f7a4 hc6) (va_cwS 1 C.1.2.2.2.2 gL_areStates_J6_bitCount_0f7a4 rfl rfl rfl (by decide +kernel) ⟨(Nat.le_of_ble_eq_true rfl), (Nat.le_of_ble_eq_true rfl)⟩) rfl rfl (Nat.le_of_ble_eq_true rfl) dL_areStates_6 (lv_cl0 (MC := 6093) (need := 0) (by omega)) ?_
    refine r_st (st' := [.int (r6)]) rfl ?_
    refine r_istore_n (pc := 9) C (lv' := [(2, .int (r6)), (0, .ref (a 0)), (1, .ref (b 1))]) rfl dL_areStates_9 rfl (Nat.le_of_ble_eq_true rfl) rfl ?_
    refine r_iconst (pc := 10) C (v := (-1 : Int32)) dL_areStates_10 (by decide) ?_
    refine r_istore_n (pc := 11) C (lv' := [(3, .int ((-1 : Int32))), (2, .int (r6)), (0, .ref (a 0)), (1, .ref (b 1))]) rfl dL_areStates_11 rfl (Nat.le_of_ble_eq_true rfl) rfl ?_
    have K9 := bQ_areStates_12 (e := e) (below := below) (a := a) (b := b) (n := n) hflag C hA hT hr 4 κ (s6) (τ) (r6) ((-1 : Int32)) (by omega) h
    exact r_lv [2, 3, 1, 0] rfl K9
  exact key 0 (by decide)
end
