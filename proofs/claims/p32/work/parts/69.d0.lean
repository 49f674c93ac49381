/-! begins, walked -/
def lv_N (a : Nat → Nat) (cy : ClassId × ClassId × ClassId × ClassId) (d0 : Nat) (o : hv_St × hv_St) : Option Value → va_W → Prop := fun v w => ∃ b : Nat → Nat, v = some (.ref (b 1)) ∧ w = hv_W 55 a (hv_XE a cy) o.1 ++ hv_W 9 b (hv_TE b cy) o.2 ∧ b 0 = d0
section
variable {p : Program} {l : Launch} {e : Env} {s : State} {m : MethodId} {args : Array Value} {below : List Frame} {meth : Method} {c : Code} {D : va_G} {cy : ClassId × ClassId × ClassId × ClassId} {A : Nat → Prop} {a b : Nat → Nat} {d0 : Nat}
abbrev rmQ_begins : Room := { frames := 7, cells := 8, slots := 12 * 8, locals := 165 }
def kQ_begins_589 (n : Nat) (r533 : hv_St → hv_St → Int32 → Int32 → Int32 → Option (hv_St × hv_St)) (σ τ : hv_St) (x4 : Int32) (x5 : Int32) (x7 : Int32) (z0 : Int32) (z1 : Int32) : Option (hv_St × hv_St) := hv_if (hv_ok (z1) 12) (hv_let (hv_sI (τ) 5 (z1).toNatClampNeg (z0)) fun t589 => hv_if (hv_ok (((2 : Int32)) * (x7)) 12) (hv_if (hv_ok ((((2 : Int32)) * (x7)) + ((1 : Int32))) 12) (hv_b2 (mX7_load n (σ) (x7) ((t589).1 5 (((2 : Int32)) * (x7)).toNatClampNeg) ((t589).1 5 ((((2 : Int32)) * (x7)) + ((1 : Int32))).toNatClampNeg)) fun r613 s613 => if r613 = 0 then (none) else (r533 (s613) (t589) (x4) (x5) ((x7) + 1)))))
def kQ_begins_533_b (n : Nat) (r533 : hv_St → hv_St → Int32 → Int32 → Int32 → Option (hv_St × hv_St)) (σ τ : hv_St) (x4 : Int32) (x5 : Int32) (x7 : Int32) : Option (hv_St × hv_St) := if x4 ≤ x7 then (hv_b2 (mX7_count n (σ) ((0 : Int32))) fun r629 s629 => if r629 = x4 then (hv_b2 (mX7_count n (s629) ((1 : Int32))) fun r639 s639 => if r639 = (τ).1 1 8 then (hv_b2 (mX7_count n (s639) ((2 : Int32))) fun r651 s651 => if r651 = (τ).1 1 9 then (hv_b2 (mX7_count n (s651) ((3 : Int32))) fun r663 s663 => if r663 = x5 then (some ((s663), (τ))) else (none)) else (none)) else (none)) else (none)) else (hv_b2 (mX8_next n (τ) ((19 : Int32))) fun r551 s551 => hv_if (hv_ok (((2 : Int32)) * (x7)) 12) (hv_let (hv_sI (s551) 5 (((2 : Int32)) * (x7)).toNatClampNeg ((r551) - ((9 : Int32)))) fun t557 => hv_b2 (mX8_next n (t557) ((3 : Int32))) fun r570 s570 => if r570 = 0 then (kQ_begins_589 n r533 (σ) (s570) (x4) (x5) (x7) ((0 : Int32)) ((((2 : Int32)) * (x7)) + ((1 : Int32)))) else (hv_b2 (mX8_next n (s570) ((19 : Int32))) fun r583 s583 => kQ_begins_589 n r533 (σ) (s583) (x4) (x5) (x7) ((r583) - ((9 : Int32))) ((((2 : Int32)) * (x7)) + ((1 : Int32))))))
def kQ_begins_533 (n : Nat) : Nat → hv_St → hv_St → Int32 → Int32 → Int32 → Option (hv_St × hv_St)
  | 0 => fun _ _ _ _ _ => none
  | i + 1 => kQ_begins_533_b n (kQ_begins_533 n i)
def kQ_begins_530 (n : Nat) (σ τ : hv_St) (x4 : Int32) (x5 : Int32) : Option (hv_St × hv_St) := kQ_begins_533 n n (σ) (τ) (x4) (x5) ((0 : Int32))
def kQ_begins_524 (n : Nat) (r301 : hv_St → hv_St → Int32 → Int32 → Int32 → Int32 → Option (hv_St × hv_St)) (σ τ : hv_St) (x4 : Int32) (x5 : Int32) (x6 : Int32) (x7 : Int32) : Option (hv_St × hv_St) := r301 (σ) (τ) (x4) (x5) (x6) ((x7) + 1)
def kQ_begins_456 (n : Nat) (r301 : hv_St → hv_St → Int32 → Int32 → Int32 → Int32 → Option (hv_St × hv_St)) (σ τ : hv_St) (x4 : Int32) (x5 : Int32) (x6 : Int32) (x7 : Int32) (x8 : Int32) (x9 : Int32) (x10 : Int32) (x11 : Int32) (z0 : Int32) (z1 : Int32) : Option (hv_St × hv_St) := if z1 = z0 then (if x11 = 0 then (kQ_begins_524 n r301 (σ) (τ) (x4) (x5) (x6) (x7)) else (hv_if (hv_ok ((τ).1 1 8) 11) (hv_let (hv_sI (τ) 6 ((τ).1 1 8).toNatClampNeg (x8)) fun t476 => hv_if (hv_ok ((t476).1 1 8) 11) (hv_let (hv_sI (t476) 7 ((t476).1 1 8).toNatClampNeg (x9)) fun t487 => hv_if (hv_ok ((t487).1 1 8) 11) (hv_let (hv_sI (t487) 8 ((t487).1 1 8).toNatClampNeg (x10)) fun t498 => hv_let (hv_sI (t498) 1 9 (((t498).1 1 9) ||| (((1 : Int32)) <<< (((t498).1 1 8) &&& 31)))) fun t511 => hv_let (hv_sI (t511) 1 8 (((t511).1 1 8) + ((1 : Int32)))) fun t521 => kQ_begins_524 n r301 (σ) (t521) (x4) (x5) (x6) (x7)))))) else (none)
def kQ_begins_425 (n : Nat) (r301 : hv_St → hv_St → Int32 → Int32 → Int32 → Int32 → Option (hv_St × hv_St)) (r358 : hv_St → hv_St → Int32 → Int32 → Int32 → Int32 → Int32 → Int32 → Int32 → Int32 → Int32 → Option (hv_St × hv_St)) (σ τ : hv_St) (x4 : Int32) (x5 : Int32) (x6 : Int32) (x7 : Int32) (x8 : Int32) (x9 : Int32) (x10 : Int32) (x12 : Int32) (z0 : Int32) : Option (hv_St × hv_St) := r358 (σ) (τ) (x4) (x5) (x6) (x7) (x8) (x9) (x10) (z0) ((x12) + 1)
def kQ_begins_424 (n : Nat) (r301 : hv_St → hv_St → Int32 → Int32 → Int32 → Int32 → Option (hv_St × hv_St)) (r358 : hv_St → hv_St → Int32 → Int32 → Int32 → Int32 → Int32 → Int32 → Int32 → Int32 → Int32 → Option (hv_St × hv_St)) (σ τ : hv_St) (x4 : Int32) (x5 : Int32) (x6 : Int32) (x7 : Int32) (x8 : Int32) (x9 : Int32) (x10 : Int32) (x12 : Int32) : Option (hv_St × hv_St) := kQ_begins_425 n r301 r358 (σ) (τ) (x4) (x5) (x6) (x7) (x8) (x9) (x10) (x12) ((0 : Int32))
def kQ_begins_420 (n : Nat) (r301 : hv_St → hv_St → Int32 → Int32 → Int32 → Int32 → Option (hv_St × hv_St)) (r358 : hv_St → hv_St → Int32 → Int32 → Int32 → Int32 → Int32 → Int32 → Int32 → Int32 → Int32 → Option (hv_St × hv_St)) (σ τ : hv_St) (x4 : Int32) (x5 : Int32) (x6 : Int32) (x7 : Int32) (x8 : Int32) (x9 : Int32) (x10 : Int32) (x12 : Int32) : Option (hv_St × hv_St) := kQ_begins_425 n r301 r358 (σ) (τ) (x4) (x5) (x6) (x7) (x8) (x9) (x10) (x12) ((1 : Int32))
def kQ_begins_396 (n : Nat) (r301 : hv_St → hv_St → Int32 → Int32 → Int32 → Int32 → Option (hv_St × hv_St)) (r358 : hv_St → hv_St → Int32 → Int32 → Int32 → Int32 → Int32 → Int32 → Int32 → Int32 → Int32 → Option (hv_St × hv_St)) (σ τ : hv_St) (x4 : Int32) (x5 : Int32) (x6 : Int32) (x7 : Int32) (x8 : Int32) (x9 : Int32) (x10 : Int32) (x12 : Int32) : Option (hv_St × hv_St) := hv_if (hv_ok (x12) 11) (if (τ).1 6 (x12).toNatClampNeg = x9 then (hv_if (hv_ok (x12) 11) (if (τ).1 7 (x12).toNatClampNeg = x8 then (kQ_begins_424 n r301 r358 (σ) (τ) (x4) (x5) (x6) (x7) (x8) (x9) (x10) (x12)) else (kQ_begins_420 n r301 r358 (σ) (τ) (x4) (x5) (x6) (x7) (x8) (x9) (x10) (x12)))) else (kQ_begins_420 n r301 r358 (σ) (τ) (x4) (x5) (x6) (x7) (x8) (x9) (x10) (x12)))
def kQ_begins_358_b (n : Nat) (r301 : hv_St → hv_St → Int32 → Int32 → Int32 → Int32 → Option (hv_St × hv_St)) (r358 : hv_St → hv_St → Int32 → Int32 → Int32 → Int32 → Int32 → Int32 → Int32 → Int32 → Int32 → Option (hv_St × hv_St)) (σ τ : hv_St) (x4 : Int32) (x5 : Int32) (x6 : Int32) (x7 : Int32) (x8 : Int32) (x9 : Int32) (x10 : Int32) (x11 : Int32) (x12 : Int32) : Option (hv_St × hv_St) := if (τ).1 1 8 ≤ x12 then (hv_b2 (mX7_bar n (σ) (x8) (x9) (x10)) fun r440 s440 => if x11 = 0 then (kQ_begins_456 n r301 (s440) (τ) (x4) (x5) (x6) (x7) (x8) (x9) (x10) (x11) ((-1 : Int32)) (r440)) else (kQ_begins_456 n r301 (s440) (τ) (x4) (x5) (x6) (x7) (x8) (x9) (x10) (x11) ((τ).1 1 8) (r440))) else (if x11 = 0 then (kQ_begins_424 n r301 r358 (σ) (τ) (x4) (x5) (x6) (x7) (x8) (x9) (x10) (x12)) else (hv_if (hv_ok (x12) 11) (if (τ).1 6 (x12).toNatClampNeg = x8 then (hv_if (hv_ok (x12) 11) (if (τ).1 7 (x12).toNatClampNeg = x9 then (kQ_begins_424 n r301 r358 (σ) (τ) (x4) (x5) (x6) (x7) (x8) (x9) (x10) (x12)) else (kQ_begins_396 n r301 r358 (σ) (τ) (x4) (x5) (x6) (x7) (x8) (x9) (x10) (x12)))) else (kQ_begins_396 n r301 r358 (σ) (τ) (x4) (x5) (x6) (x7) (x8) (x9) (x10) (x12)))))
def kQ_begins_358 (n : Nat) (r301 : hv_St → hv_St → Int32 → Int32 → Int32 → Int32 → Option (hv_St × hv_St)) : Nat → hv_St → hv_St → Int32 → Int32 → Int32 → Int32 → Int32 → Int32 → Int32 → Int32 → Int32 → Option (hv_St × hv_St)
  | 0 => fun _ _ _ _ _ _ _ _ _ _ _ => none
  | i + 1 => kQ_begins_358_b n r301 (kQ_begins_358 n r301 i)
def kQ_begins_301_b (n : Nat) (r301 : hv_St → hv_St → Int32 → Int32 → Int32 → Int32 → Option (hv_St × hv_St)) (σ τ : hv_St) (x4 : Int32) (x5 : Int32) (x6 : Int32) (x7 : Int32) : Option (hv_St × hv_St) := if (40 : Int32) ≤ x7 then (kQ_begins_530 n (σ) (τ) (x4) (x5)) else (if x6 ≤ (τ).1 1 8 then (kQ_begins_530 n (σ) (τ) (x4) (x5)) else (hv_b2 (mX8_next n (τ) (x4)) fun r320 s320 => hv_b2 (mX8_next n (s320) ((x4) - ((1 : Int32)))) fun r334 s334 => hv_if (decide (¬ x4 = 0)) (hv_let ((((r320) + ((1 : Int32))) + (r334)) - (((r320) + ((1 : Int32))) + (r334)) / (x4) * (x4)) fun y9_341 => hv_b2 (mX8_next n (s334) ((3 : Int32))) fun r346 s346 => hv_let (((1 : Int32)) + (r346)) fun y10_350 => kQ_begins_358 n r301 n (σ) (s346) (x4) (x5) (x6) (x7) (r320) (y9_341) (y10_350) ((1 : Int32)) ((0 : Int32)))))
def kQ_begins_301 (n : Nat) : Nat → hv_St → hv_St → Int32 → Int32 → Int32 → Int32 → Option (hv_St × hv_St)
  | 0 => fun _ _ _ _ _ _ => none
  | i + 1 => kQ_begins_301_b n (kQ_begins_301 n i)
def kQ_begins_262 (n : Nat) (r174 : hv_St → hv_St → Int32 → Int32 → Int32 → Option (hv_St × hv_St)) (r228 : hv_St → hv_St → Int32 → Int32 → Int32 → Int32 → Int32 → Option (hv_St × hv_St)) (σ τ : hv_St) (x4 : Int32) (x5 : Int32) (x6 : Int32) (x7 : Int32) (x8 : Int32) : Option (hv_St × hv_St) := r228 (σ) (τ) (x4) (x5) (x6) (x7) ((x8) + 1)
def kQ_begins_228_b (n : Nat) (r174 : hv_St → hv_St → Int32 → Int32 → Int32 → Option (hv_St × hv_St)) (r228 : hv_St → hv_St → Int32 → Int32 → Int32 → Int32 → Int32 → Option (hv_St × hv_St)) (σ τ : hv_St) (x4 : Int32) (x5 : Int32) (x6 : Int32) (x7 : Int32) (x8 : Int32) : Option (hv_St × hv_St) := if (2 : Int32) ≤ x8 then (hv_if (hv_ok (x6) 6) (hv_let (hv_sI (τ) 4 (x6).toNatClampNeg (x7)) fun t276 => r174 (σ) (t276) (x4) (x5) ((x6) + 1))) else (if ((x7) >>> ((x8) &&& 31)) &&& ((1 : Int32)) = (1 : Int32) then (hv_b2 (mX7_hold n (σ) (x6) (x8) ((1 : Int32))) fun r251 s251 => if r251 = 0 then (none) else (kQ_begins_262 n r174 r228 (s251) (τ) (x4) ((x5) + (-1)) (x6) (x7) (x8))) else (kQ_begins_262 n r174 r228 (σ) (τ) (x4) (x5) (x6) (x7) (x8)))
def kQ_begins_228 (n : Nat) (r174 : hv_St → hv_St → Int32 → Int32 → Int32 → Option (hv_St × hv_St)) : Nat → hv_St → hv_St → Int32 → Int32 → Int32 → Int32 → Int32 → Option (hv_St × hv_St)
  | 0 => fun _ _ _ _ _ _ _ => none
  | i + 1 => kQ_begins_228_b n r174 (kQ_begins_228 n r174 i)
def kQ_begins_223 (n : Nat) (r174 : hv_St → hv_St → Int32 → Int32 → Int32 → Option (hv_St × hv_St)) (σ τ : hv_St) (x4 : Int32) (x5 : Int32) (x6 : Int32) (z0 : Int32) : Option (hv_St × hv_St) := kQ_begins_228 n r174 n (σ) (τ) (x4) (x5) (x6) (z0) ((0 : Int32))
def kQ_begins_174_b (n : Nat) (r174 : hv_St → hv_St → Int32 → Int32 → Int32 → Option (hv_St × hv_St)) (σ τ : hv_St) (x4 : Int32) (x5 : Int32) (x6 : Int32) : Option (hv_St × hv_St) := if x4 ≤ x6 then (hv_b2 (mX8_next n (τ) ((3 : Int32))) fun r289 s289 => hv_let (if (x5) + (r289) < (11 : Int32) then (x5) + (r289) else (11 : Int32)) fun y_293 => kQ_begins_301 n n (σ) (s289) (x4) (x5) (y_293) ((0 : Int32))) else (if x6 = 0 then (kQ_begins_223 n r174 (σ) (τ) (x4) (x5) (x6) ((3 : Int32))) else (if x6 = (1 : Int32) then (hv_b2 (mX8_next n (τ) ((3 : Int32))) fun r199 s199 => kQ_begins_223 n r174 (σ) (s199) (x4) (x5) (x6) (((1 : Int32)) + (r199))) else (hv_b2 (mX8_next n (τ) ((5 : Int32))) fun r208 s208 => if r208 = 0 then (hv_b2 (mX8_next n (s208) ((4 : Int32))) fun r216 s216 => kQ_begins_223 n r174 (σ) (s216) (x4) (x5) (x6) (r216)) else (kQ_begins_223 n r174 (σ) (s208) (x4) (x5) (x6) ((0 : Int32))))))
def kQ_begins_174 (n : Nat) : Nat → hv_St → hv_St → Int32 → Int32 → Int32 → Option (hv_St × hv_St)
  | 0 => fun _ _ _ _ _ => none
  | i + 1 => kQ_begins_174_b n (kQ_begins_174 n i)
def kQ_begins_162 (n : Nat) (r19 : hv_St → hv_St → Int32 → Option (hv_St × hv_St)) (σ τ : hv_St) (x4 : Int32) : Option (hv_St × hv_St) := r19 (σ) (τ) (x4)
def kQ_begins_124 (n : Nat) (r19 : hv_St → hv_St → Int32 → Option (hv_St × hv_St)) (σ τ : hv_St) (x4 : Int32) (x5 : Int32) (x6 : Int32) (x7 : Int32) (x8 : Int32) (z0 : Int32) (z1 : Int32) : Option (hv_St × hv_St) := if z1 = z0 then (if x7 = 0 then (kQ_begins_162 n r19 (σ) (τ) (x4)) else (hv_if (hv_ok (x8) 6) (hv_let (hv_sI (τ) 2 (x8).toNatClampNeg (x5)) fun t142 => hv_if (hv_ok (x8) 6) (hv_let (hv_sI (t142) 3 (x8).toNatClampNeg (x6)) fun t151 => hv_let (hv_sI (t151) 1 7 (((t151).1 1 7) + ((1 : Int32)))) fun t159 => kQ_begins_162 n r19 (σ) (t159) (x4))))) else (none)
def kQ_begins_91 (n : Nat) (r19 : hv_St → hv_St → Int32 → Option (hv_St × hv_St)) (r48 : hv_St → hv_St → Int32 → Int32 → Int32 → Int32 → Int32 → Option (hv_St × hv_St)) (σ τ : hv_St) (x4 : Int32) (x5 : Int32) (x6 : Int32) (x8 : Int32) (z0 : Int32) : Option (hv_St × hv_St) := r48 (σ) (τ) (x4) (x5) (x6) (z0) ((x8) + 1)
def kQ_begins_90 (n : Nat) (r19 : hv_St → hv_St → Int32 → Option (hv_St × hv_St)) (r48 : hv_St → hv_St → Int32 → Int32 → Int32 → Int32 → Int32 → Option (hv_St × hv_St)) (σ τ : hv_St) (x4 : Int32) (x5 : Int32) (x6 : Int32) (x8 : Int32) : Option (hv_St × hv_St) := kQ_begins_91 n r19 r48 (σ) (τ) (x4) (x5) (x6) (x8) ((0 : Int32))
def kQ_begins_86 (n : Nat) (r19 : hv_St → hv_St → Int32 → Option (hv_St × hv_St)) (r48 : hv_St → hv_St → Int32 → Int32 → Int32 → Int32 → Int32 → Option (hv_St × hv_St)) (σ τ : hv_St) (x4 : Int32) (x5 : Int32) (x6 : Int32) (x8 : Int32) : Option (hv_St × hv_St) := kQ_begins_91 n r19 r48 (σ) (τ) (x4) (x5) (x6) (x8) ((1 : Int32))
def kQ_begins_48_b (n : Nat) (r19 : hv_St → hv_St → Int32 → Option (hv_St × hv_St)) (r48 : hv_St → hv_St → Int32 → Int32 → Int32 → Int32 → Int32 → Option (hv_St × hv_St)) (σ τ : hv_St) (x4 : Int32) (x5 : Int32) (x6 : Int32) (x7 : Int32) (x8 : Int32) : Option (hv_St × hv_St) := if (τ).1 1 7 ≤ x8 then (hv_b2 (mX7_pin n (σ) (x5) (x6)) fun r104 s104 => if x7 = 0 then (kQ_begins_124 n r19 (s104) (τ) (x4) (x5) (x6) (x7) (r104) ((-1 : Int32)) (r104)) else (kQ_begins_124 n r19 (s104) (τ) (x4) (x5) (x6) (x7) (r104) ((τ).1 1 7) (r104))) else (if x7 = 0 then (kQ_begins_90 n r19 r48 (σ) (τ) (x4) (x5) (x6) (x8)) else (hv_if (hv_ok (x8) 6) (if (τ).1 2 (x8).toNatClampNeg = x5 then (hv_if (hv_ok (x8) 6) (if (τ).1 3 (x8).toNatClampNeg = x6 then (kQ_begins_90 n r19 r48 (σ) (τ) (x4) (x5) (x6) (x8)) else (kQ_begins_86 n r19 r48 (σ) (τ) (x4) (x5) (x6) (x8)))) else (kQ_begins_86 n r19 r48 (σ) (τ) (x4) (x5) (x6) (x8)))))
def kQ_begins_48 (n : Nat) (r19 : hv_St → hv_St → Int32 → Option (hv_St × hv_St)) : Nat → hv_St → hv_St → Int32 → Int32 → Int32 → Int32 → Int32 → Option (hv_St × hv_St)
  | 0 => fun _ _ _ _ _ _ _ => none
  | i + 1 => kQ_begins_48_b n r19 (kQ_begins_48 n r19 i)
def kQ_begins_19_b (n : Nat) (r19 : hv_St → hv_St → Int32 → Option (hv_St × hv_St)) (σ τ : hv_St) (x4 : Int32) : Option (hv_St × hv_St) := if x4 ≤ (τ).1 1 7 then (hv_let (((2 : Int32)) * (x4)) fun y5_169 => kQ_begins_174 n n (σ) (τ) (x4) (y5_169) ((0 : Int32))) else (hv_b2 (mX8_next n (τ) ((4 : Int32))) fun r30 s30 => hv_b2 (mX8_next n (s30) ((3 : Int32))) fun r37 s37 => kQ_begins_48 n r19 n (σ) (s37) (x4) (r30) (r37) ((1 : Int32)) ((0 : Int32)))
def kQ_begins_19 (n : Nat) : Nat → hv_St → hv_St → Int32 → Option (hv_St × hv_St)
  | 0 => fun _ _ _ => none
  | i + 1 => kQ_begins_19_b n (kQ_begins_19 n i)
def mQ_begins (n : Nat) (σ τ : hv_St) (p2 : Int32) : Option (hv_St × hv_St) := hv_b2 (mX8_next n (τ) ((p2) - ((2 : Int32)))) fun r13 s13 => hv_let (((3 : Int32)) + (r13)) fun y4_17 => kQ_begins_19 n n (σ) (s13) (y4_17)
set_option maxRecDepth 20000 in
theorem qL_begins_MC69 : Cond.code Lib.Math.min.name Lib.Math.min.code 2 (some .int) ∈ wsL_begins := by decide +kernel
set_option maxRecDepth 20000 in
theorem qL_begins_MI69 : Cond.initialized "java/lang/Math" ∈ wsL_begins := by decide +kernel
set_option maxRecDepth 20000 in
theorem qL_begins_ML69 : Cond.methodLink RL 69 Lib.Math.min.name ∈ wsL_begins := by decide +kernel
set_option maxRecDepth 20000 in
theorem qL_begins_MS69 : Cond.static Lib.Math.min.name ∈ wsL_begins := by decide +kernel
set_option maxRecDepth 20000 in
theorem iL_begins_X9 : ∀ w ∈ u_ws RX9 TX9 10, w ∈ wsL_begins := by decide +kernel
set_option maxRecDepth 20000 in
theorem qL_begins_C38 : Cond.classLink RL 38 RX9 ∈ wsL_begins := by decide +kernel
set_option maxRecDepth 20000 in
theorem qL_begins_NX9 : Cond.instantiable RX9 10 ∈ wsL_begins := by decide +kernel
set_option maxRecDepth 20000 in
theorem qL_begins_SX9 : Cond.initialized RX9 ∈ wsL_begins := by decide +kernel
set_option maxRecDepth 20000 in
theorem qL_begins_IX9 : Cond.instanceMethod yX9_init ∈ wsL_begins := by decide +kernel
set_option maxHeartbeats 4000000 in
set_option maxRecDepth 20000 in
theorem bQ_begins_589 (hflag : l.stackTraces = false) (C : hv_C p s m args meth c cL_begins 13 wsL_begins RL D (hv_tys cy)) (hA : ∀ q, s.heap.size ≤ q → A q) (hT : hv_TA A s) (hb : b 0 = d0) (hr : meth.sig.returnType = (some (.object "PinFrameLaw$Told"))) {n : Nat} {o : hv_St × hv_St} {r533 : hv_St → hv_St → Int32 → Int32 → Int32 → Option (hv_St × hv_St)} {C533 : Nat} (hr533 : ∀ (κ : Nat) (σ τ : hv_St) (x4 : Int32) (x5 : Int32) (x7 : Int32), κ + C533 ≤ 8 → r533 σ τ x4 x5 x7 = some o → hv_J p l e (headSpec wsL_begins rmQ_begins).room s m args below meth c 13 D A κ (12 * κ) (MQ below (lv_Q D (lv_N a cy d0 o) A) args s 8 (12 * 8) A) (hv_W 55 a (hv_XE a cy) (σ) ++ (hv_W 9 b (hv_TE b cy) (τ) ++ [])) 533 [(0, .ref (a 0)), (1, .ref (b 0)), (3, .ref (b 1)), (4, .int (x4)), (5, .int (x5)), (7, .int (x7))] []) : ∀ (κ : Nat) (σ τ : hv_St) (x4 : Int32) (x5 : Int32) (x7 : Int32) (z0 : Int32) (z1 : Int32), κ + (0 + C533) ≤ 8 → kQ_begins_589 n r533 σ τ x4 x5 x7 z0 z1 = some o → hv_J p l e (headSpec wsL_begins rmQ_begins).room s m args below meth c 13 D A κ (12 * κ) (MQ below (lv_Q D (lv_N a cy d0 o) A) args s 8 (12 * 8) A) (hv_W 55 a (hv_XE a cy) (σ) ++ (hv_W 9 b (hv_TE b cy) (τ) ++ [])) 589 [(0, .ref (a 0)), (1, .ref (b 0)), (3, .ref (b 1)), (4, .int (x4)), (5, .int (x5)), (7, .int (x7))] [.int (z0), .int (z1), .ref (b 5)] := by
  intro κ σ τ x4 x5 x7 z0 z1 hκ h
  unfold kQ_begins_589 at h
  obtain ⟨k589, h⟩ := hv_if_some h
  obtain ⟨t589, et589, h⟩ := hv_let_some h
  refine rt_st_5 (pc := 589) C et589 k589 dL_begins_589 ?_
  refine r_aload_n (pc := 590) C 0 dL_begins_590 rfl rfl ?_
  refine r_iload (pc := 591) C 5 dL_begins_591 rfl ?_
  refine r_aload_n (pc := 593) C 2 dL_begins_593 rfl rfl ?_
  refine rt_get_3 (pc := 594) C iL_begins_X9 (List.mem_of_getElem? (i := 14) rfl) dL_begins_594 ?_
  refine r_iconst (pc := 597) C (v := (2 : Int32)) dL_begins_597 (by decide) ?_
  refine r_iload (pc := 598) C 5 dL_begins_598 rfl ?_
  refine r_imul (pc := 600) C dL_begins_600 ?_
  obtain ⟨k601, h⟩ := hv_if_some h
  refine rt_ld_5 (pc := 601) C k601 dL_begins_601 ?_
  refine r_aload_n (pc := 602) C 2 dL_begins_602 rfl rfl ?_
  refine rt_get_3 (pc := 603) C iL_begins_X9 (List.mem_of_getElem? (i := 14) rfl) dL_begins_603 ?_
  refine r_iconst (pc := 606) C (v := (2 : Int32)) dL_begins_606 (by decide) ?_
  refine r_iload (pc := 607) C 5 dL_begins_607 rfl ?_
  refine r_imul (pc := 609) C dL_begins_609 ?_
  refine r_iconst (pc := 610) C (v := (1 : Int32)) dL_begins_610 (by decide) ?_
  refine r_iadd (pc := 611) C dL_begins_611 ?_
  obtain ⟨k612, h⟩ := hv_if_some h
  refine rt_ld_5 (pc := 612) C k612 dL_begins_612 ?_
  obtain ⟨r613, s613, hc613, h⟩ := hv_b2_some h
  refine r_callV0 (pc := 613) (τ := s613) (v := some (.int (r613))) (As := [.int (x7), .int ((t589).1 5 (((2 : Int32)) * (x7)).toNatClampNeg), .int ((t589).1 5 ((((2 : Int32)) * (x7)) + ((1 : Int32))).toNatClampNeg)]) (rest := []) C hA 0 (vX7_load hc613) (cwV 3 C.1.2.2.2.2 gL_begins_X7_load rfl rfl rfl (by decide +kernel) ⟨(Nat.le_of_ble_eq_true rfl), (Nat.le_of_ble_eq_true rfl)⟩) (Nat.le_of_ble_eq_true rfl) rfl rfl rfl rfl (Nat.le_of_ble_eq_true rfl) dL_begins_613 (lv_cl0 (MC := 8) (need := 0) (by omega)) ?_
  refine r_st (st' := [.int (r613)]) rfl ?_
  refine r_if_ne (pc := 616) (tgt := 621) C dL_begins_616 (by decide) (fun c616 => ?_) (fun c616 => ?_)
  · rw [if_neg c616] at h
    refine r_iinc (pc := 621) C 5 (v := (x7) + 1) (lv' := [(7, .int ((x7) + 1)), (0, .ref (a 0)), (1, .ref (b 0)), (3, .ref (b 1)), (4, .int (x4)), (5, .int (x5))]) dL_begins_621 rfl rfl (Nat.le_of_ble_eq_true rfl) rfl ?_
    refine r_goto (pc := 624) C (tgt := 533) dL_begins_624 (by decide) ?_
    have K9 := hr533 κ (s613) (t589) (x4) (x5) ((x7) + 1) (by omega) h
    exact r_lv [1, 2, 3, 4, 5, 0] rfl K9
  · rw [if_pos c616] at h
    cases h
set_option maxHeartbeats 4000000 in
set_option maxRecDepth 20000 in
theorem bQ_begins_533 (hflag : l.stackTraces = false) (C : hv_C p s m args meth c cL_begins 13 wsL_begins RL D (hv_tys cy)) (hA : ∀ q, s.heap.size ≤ q → A q) (hT : hv_TA A s) (hb : b 0 = d0) (hr : meth.sig.returnType = (some (.object "PinFrameLaw$Told"))) {n : Nat} {o : hv_St × hv_St} : ∀ (i κ : Nat) (σ τ : hv_St) (x4 : Int32) (x5 : Int32) (x7 : Int32), κ + (0) ≤ 8 → kQ_begins_533 n i σ τ x4 x5 x7 = some o → hv_J p l e (headSpec wsL_begins rmQ_begins).room s m args below meth c 13 D A κ (12 * κ) (MQ below (lv_Q D (lv_N a cy d0 o) A) args s 8 (12 * 8) A) (hv_W 55 a (hv_XE a cy) (σ) ++ (hv_W 9 b (hv_TE b cy) (τ) ++ [])) 533 [(0, .ref (a 0)), (1, .ref (b 0)), (3, .ref (b 1)), (4, .int (x4)), (5, .int (x5)), (7, .int (x7))] [] := by
  intro i
  induction i with
  | zero =>
    intro κ σ τ x4 x5 x7 hκ h
    cases h
  | succ i ih =>
    intro κ σ τ x4 x5 x7 hκ h
    generalize hg : kQ_begins_533 n i = r533 at ih
    have hr533 := ih
    replace h : kQ_begins_533_b n r533 σ τ x4 x5 x7 = some o := by rw [← hg]; exact h
    unfold kQ_begins_533_b at h
    refine r_iload (pc := 533) C 5 dL_begins_533 rfl ?_
    refine r_iload (pc := 535) C 3 dL_begins_535 rfl ?_
    refine r_icmp_ge (pc := 537) (tgt := 627) C dL_begins_537 (by decide) (fun c537 => ?_) (fun c537 => ?_)
    · rw [if_pos c537] at h
      refine r_aload_n (pc := 627) C 0 dL_begins_627 rfl rfl ?_
      refine r_iconst (pc := 628) C (v := (0 : Int32)) dL_begins_628 (by decide) ?_
      obtain ⟨r629, s629, hc629, h⟩ := hv_b2_some h
      refine r_callV0 (pc := 629) (τ := s629) (v := some (.int (r629))) (As := [.int ((0 : Int32))]) (rest := []) C hA 0 (vX7_count hc629) (cwV 1 C.1.2.2.2.2 gL_begins_X7_count rfl rfl rfl (by decide +kernel) ⟨(Nat.le_of_ble_eq_true rfl), (Nat.le_of_ble_eq_true rfl)⟩) (Nat.le_of_ble_eq_true rfl) rfl rfl rfl rfl (Nat.le_of_ble_eq_true rfl) dL_begins_629 (lv_cl0 (MC := 8) (need := 0) (by omega)) ?_
      refine r_st (st' := [.int (r629)]) rfl ?_
      refine r_iload (pc := 632) C 3 dL_begins_632 rfl ?_
      refine r_icmp_ne (pc := 634) (tgt := 675) C dL_begins_634 (by decide) (fun c634 => ?_) (fun c634 => ?_)
      · rw [if_neg c634] at h
        cases h
      · rw [if_pos c634] at h
        refine r_aload_n (pc := 637) C 0 dL_begins_637 rfl rfl ?_
        refine r_iconst (pc := 638) C (v := (1 : Int32)) dL_begins_638 (by decide) ?_
        obtain ⟨r639, s639, hc639, h⟩ := hv_b2_some h
        refine r_callV0 (pc := 639) (τ := s639) (v := some (.int (r639))) (As := [.int ((1 : Int32))]) (rest := []) C hA 0 (vX7_count hc639) (cwV 1 C.1.2.2.2.2 gL_begins_X7_count rfl rfl rfl (by decide +kernel) ⟨(Nat.le_of_ble_eq_true rfl), (Nat.le_of_ble_eq_true rfl)⟩) (Nat.le_of_ble_eq_true rfl) rfl rfl rfl rfl (Nat.le_of_ble_eq_true rfl) dL_begins_639 (lv_cl0 (MC := 8) (need := 0) (by omega)) ?_
        refine r_st (st' := [.int (r639)]) rfl ?_
        refine r_aload_n (pc := 642) C 2 dL_begins_642 rfl rfl ?_
        refine rt_get_8 (pc := 643) C iL_begins_X9 (List.mem_of_getElem? (i := 19) rfl) dL_begins_643 ?_
        refine r_icmp_ne (pc := 646) (tgt := 675) C dL_begins_646 (by decide) (fun c646 => ?_) (fun c646 => ?_)
        · rw [if_neg c646] at h
          cases h
        · rw [if_pos c646] at h
          refine r_aload_n (pc := 649) C 0 dL_begins_649 rfl rfl ?_
          refine r_iconst (pc := 650) C (v := (2 : Int32)) dL_begins_650 (by decide) ?_
          obtain ⟨r651, s651, hc651, h⟩ := hv_b2_some h
          refine r_callV0 (pc := 651) (τ := s651) (v := some (.int (r651))) (As := [.int ((2 : Int32))]) (rest := []) C hA 0 (vX7_count hc651) (cwV 1 C.1.2.2.2.2 gL_begins_X7_count rfl rfl rfl (by decide +kernel) ⟨(Nat.le_of_ble_eq_true rfl), (Nat.le_of_ble_eq_true rfl)⟩) (Nat.le_of_ble_eq_true rfl) rfl rfl rfl rfl (Nat.le_of_ble_eq_true rfl) dL_begins_651 (lv_cl0 (MC := 8) (need := 0) (by omega)) ?_
          refine r_st (st' := [.int (r651)]) rfl ?_
          refine r_aload_n (pc := 654) C 2 dL_begins_654 rfl rfl ?_
          refine rt_get_9 (pc := 655) C iL_begins_X9 (List.mem_of_getElem? (i := 20) rfl) dL_begins_655 ?_
          refine r_icmp_ne (pc := 658) (tgt := 675) C dL_begins_658 (by decide) (fun c658 => ?_) (fun c658 => ?_)
          · rw [if_neg c658] at h
            cases h
          · rw [if_pos c658] at h
            refine r_aload_n (pc := 661) C 0 dL_begins_661 rfl rfl ?_
            refine r_iconst (pc := 662) C (v := (3 : Int32)) dL_begins_662 (by decide) ?_
            obtain ⟨r663, s663, hc663, h⟩ := hv_b2_some h
            refine r_callV0 (pc := 663) (τ := s663) (v := some (.int (r663))) (As := [.int ((3 : Int32))]) (rest := []) C hA 0 (vX7_count hc663) (cwV 1 C.1.2.2.2.2 gL_begins_X7_count rfl rfl rfl (by decide +kernel) ⟨(Nat.le_of_ble_eq_true rfl), (Nat.le_of_ble_eq_true rfl)⟩) (Nat.le_of_ble_eq_true rfl) rfl rfl rfl rfl (Nat.le_of_ble_eq_true rfl) dL_begins_663 (lv_cl0 (MC := 8) (need := 0) (by omega)) ?_
            refine r_st (st' := [.int (r663)]) rfl ?_
            refine r_iload (pc := 666) C 4 dL_begins_666 rfl ?_
            refine r_icmp_ne (pc := 668) (tgt := 675) C dL_begins_668 (by decide) (fun c668 => ?_) (fun c668 => ?_)
            · rw [if_neg c668] at h
              cases h
            · rw [if_pos c668] at h
              refine r_aload_n (pc := 671) C 2 dL_begins_671 rfl rfl ?_
              refine r_goto (pc := 672) C (tgt := 676) dL_begins_672 (by decide) ?_
              cases h
              exact r_aret (pc := 676) C lv_drop ⟨b, rfl, rfl, hb⟩ hr (Or.inl ⟨_, rfl⟩) dL_begins_676 (by omega) (by omega)
    · rw [if_neg c537] at h
      refine r_aload_n (pc := 540) C 2 dL_begins_540 rfl rfl ?_
      refine rt_get_3 (pc := 541) C iL_begins_X9 (List.mem_of_getElem? (i := 14) rfl) dL_begins_541 ?_
      refine r_iconst (pc := 544) C (v := (2 : Int32)) dL_begins_544 (by decide) ?_
      refine r_iload (pc := 545) C 5 dL_begins_545 rfl ?_
      refine r_imul (pc := 547) C dL_begins_547 ?_
      refine r_aload_n (pc := 548) C 1 dL_begins_548 rfl rfl ?_
      refine r_bipush (pc := 549) C (v := (19 : Int32)) dL_begins_549 (by decide) ?_
      obtain ⟨r551, s551, hc551, h⟩ := hv_b2_some h
      refine r_callV (pc := 551) (τ := s551) (v := some (.int (r551))) (As := [.int ((19 : Int32))]) (rest := [.int (((2 : Int32)) * (x7)), .ref (b 5)]) C hA 0 (vX8_next hc551) (cwV 1 C.1.2.2.2.2 gL_begins_X8_next rfl rfl rfl (by decide +kernel) ⟨(Nat.le_of_ble_eq_true rfl), (Nat.le_of_ble_eq_true rfl)⟩) (Nat.le_of_ble_eq_true rfl) rfl rfl rfl rfl (Nat.le_of_ble_eq_true rfl) dL_begins_551 (lv_cl0 (MC := 8) (need := 0) (by omega)) ?_
      refine r_st (st' := [.int (r551), .int (((2 : Int32)) * (x7)), .ref (b 5)]) rfl ?_
      refine r_bipush (pc := 554) C (v := (9 : Int32)) dL_begins_554 (by decide) ?_
      refine r_isub (pc := 556) C dL_begins_556 ?_
      obtain ⟨k557, h⟩ := hv_if_some h
      obtain ⟨t557, et557, h⟩ := hv_let_some h
      refine rt_st_5 (pc := 557) C et557 k557 dL_begins_557 ?_
      refine r_aload_n (pc := 558) C 2 dL_begins_558 rfl rfl ?_
      refine rt_get_3 (pc := 559) C iL_begins_X9 (List.mem_of_getElem? (i := 14) rfl) dL_begins_559 ?_
      refine r_iconst (pc := 562) C (v := (2 : Int32)) dL_begins_562 (by decide) ?_
      refine r_iload (pc := 563) C 5 dL_begins_563 rfl ?_
      refine r_imul (pc := 565) C dL_begins_565 ?_
      refine r_iconst (pc := 566) C (v := (1 : Int32)) dL_begins_566 (by decide) ?_
      refine r_iadd (pc := 567) C dL_begins_567 ?_
      refine r_aload_n (pc := 568) C 1 dL_begins_568 rfl rfl ?_
      refine r_iconst (pc := 569) C (v := (3 : Int32)) dL_begins_569 (by decide) ?_
      obtain ⟨r570, s570, hc570, h⟩ := hv_b2_some h
      refine r_callV (pc := 570) (τ := s570) (v := some (.int (r570))) (As := [.int ((3 : Int32))]) (rest := [.int ((((2 : Int32)) * (x7)) + ((1 : Int32))), .ref (b 5)]) C hA 0 (vX8_next hc570) (cwV 1 C.1.2.2.2.2 gL_begins_X8_next rfl rfl rfl (by decide +kernel) ⟨(Nat.le_of_ble_eq_true rfl), (Nat.le_of_ble_eq_true rfl)⟩) (Nat.le_of_ble_eq_true rfl) rfl rfl rfl rfl (Nat.le_of_ble_eq_true rfl) dL_begins_570 (lv_cl0 (MC := 8) (need := 0) (by omega)) ?_
      refine r_st (st' := [.int (r570), .int ((((2 : Int32)) * (x7)) + ((1 : Int32))), .ref (b 5)]) rfl ?_
      refine r_if_ne (pc := 573) (tgt := 580) C dL_begins_573 (by decide) (fun c573 => ?_) (fun c573 => ?_)
      · rw [if_neg c573] at h
        refine r_aload_n (pc := 580) C 1 dL_begins_580 rfl rfl ?_
        refine r_bipush (pc := 581) C (v := (19 : Int32)) dL_begins_581 (by decide) ?_
        obtain ⟨r583, s583, hc583, h⟩ := hv_b2_some h
        refine r_callV (pc := 583) (τ := s583) (v := some (.int (r583))) (As := [.int ((19 : Int32))]) (rest := [.int ((((2 : Int32)) * (x7)) + ((1 : Int32))), .ref (b 5)]) C hA 0 (vX8_next hc583) (cwV 1 C.1.2.2.2.2 gL_begins_X8_next rfl rfl rfl (by decide +kernel) ⟨(Nat.le_of_ble_eq_true rfl), (Nat.le_of_ble_eq_true rfl)⟩) (Nat.le_of_ble_eq_true rfl) rfl rfl rfl rfl (Nat.le_of_ble_eq_true rfl) dL_begins_583 (lv_cl0 (MC := 8) (need := 0) (by omega)) ?_
        refine r_st (st' := [.int (r583), .int ((((2 : Int32)) * (x7)) + ((1 : Int32))), .ref (b 5)]) rfl ?_
        refine r_bipush (pc := 586) C (v := (9 : Int32)) dL_begins_586 (by decide) ?_
        refine r_isub (pc := 588) C dL_begins_588 ?_
        have K9 := bQ_begins_589 (e := e) (below := below) (a := a) (b := b) (n := n) hflag C hA hT hb hr hr533 κ (σ) (s583) (x4) (x5) (x7) ((r583) - ((9 : Int32))) ((((2 : Int32)) * (x7)) + ((1 : Int32))) (by omega) h
        exact r_lv [0, 1, 2, 3, 4, 5] rfl K9
      · rw [if_pos c573] at h
        refine r_iconst (pc := 576) C (v := (0 : Int32)) dL_begins_576 (by decide) ?_
        refine r_goto (pc := 577) C (tgt := 589) dL_begins_577 (by decide) ?_
        have K9 := bQ_begins_589 (e := e) (below := below) (a := a) (b := b) (n := n) hflag C hA hT hb hr hr533 κ (σ) (s570) (x4) (x5) (x7) ((0 : Int32)) ((((2 : Int32)) * (x7)) + ((1 : Int32))) (by omega) h
        exact r_lv [0, 1, 2, 3, 4, 5] rfl K9
set_option maxHeartbeats 4000000 in
set_option maxRecDepth 20000 in
theorem bQ_begins_530 (hflag : l.stackTraces = false) (C : hv_C p s m args meth c cL_begins 13 wsL_begins RL D (hv_tys cy)) (hA : ∀ q, s.heap.size ≤ q → A q) (hT : hv_TA A s) (hb : b 0 = d0) (hr : meth.sig.returnType = (some (.object "PinFrameLaw$Told"))) {n : Nat} {o : hv_St × hv_St} : ∀ (κ : Nat) (σ τ : hv_St) (x4 : Int32) (x5 : Int32), κ + (0) ≤ 8 → kQ_begins_530 n σ τ x4 x5 = some o → hv_J p l e (headSpec wsL_begins rmQ_begins).room s m args below meth c 13 D A κ (12 * κ) (MQ below (lv_Q D (lv_N a cy d0 o) A) args s 8 (12 * 8) A) (hv_W 55 a (hv_XE a cy) (σ) ++ (hv_W 9 b (hv_TE b cy) (τ) ++ [])) 530 [(0, .ref (a 0)), (1, .ref (b 0)), (3, .ref (b 1)), (4, .int (x4)), (5, .int (x5))] [] := by
  intro κ σ τ x4 x5 hκ h
  unfold kQ_begins_530 at h
  refine r_iconst (pc := 530) C (v := (0 : Int32)) dL_begins_530 (by decide) ?_
  refine r_istore (pc := 531) C (lv' := [(7, .int ((0 : Int32))), (0, .ref (a 0)), (1, .ref (b 0)), (3, .ref (b 1)), (4, .int (x4)), (5, .int (x5))]) rfl dL_begins_531 (Nat.le_of_ble_eq_true rfl) rfl ?_
  have K9 := bQ_begins_533 (e := e) (below := below) (a := a) (b := b) (n := n) hflag C hA hT hb hr n κ (σ) (τ) (x4) (x5) ((0 : Int32)) (by omega) h
  exact r_lv [1, 2, 3, 4, 5, 0] rfl K9
set_option maxHeartbeats 4000000 in
set_option maxRecDepth 20000 in
theorem bQ_begins_524 (hflag : l.stackTraces = false) (C : hv_C p s m args meth c cL_begins 13 wsL_begins RL D (hv_tys cy)) (hA : ∀ q, s.heap.size ≤ q → A q) (hT : hv_TA A s) (hb : b 0 = d0) (hr : meth.sig.returnType = (some (.object "PinFrameLaw$Told"))) {n : Nat} {o : hv_St × hv_St} {r301 : hv_St → hv_St → Int32 → Int32 → Int32 → Int32 → Option (hv_St × hv_St)} {C301 : Nat} (hr301 : ∀ (κ : Nat) (σ τ : hv_St) (x4 : Int32) (x5 : Int32) (x6 : Int32) (x7 : Int32), κ + C301 ≤ 8 → r301 σ τ x4 x5 x6 x7 = some o → hv_J p l e (headSpec wsL_begins rmQ_begins).room s m args below meth c 13 D A κ (12 * κ) (MQ below (lv_Q D (lv_N a cy d0 o) A) args s 8 (12 * 8) A) (hv_W 55 a (hv_XE a cy) (σ) ++ (hv_W 9 b (hv_TE b cy) (τ) ++ [])) 301 [(0, .ref (a 0)), (1, .ref (b 0)), (3, .ref (b 1)), (4, .int (x4)), (5, .int (x5)), (6, .int (x6)), (7, .int (x7))] []) : ∀ (κ : Nat) (σ τ : hv_St) (x4 : Int32) (x5 : Int32) (x6 : Int32) (x7 : Int32), κ + (0 + C301) ≤ 8 → kQ_begins_524 n r301 σ τ x4 x5 x6 x7 = some o → hv_J p l e (headSpec wsL_begins rmQ_begins).room s m args below meth c 13 D A κ (12 * κ) (MQ below (lv_Q D (lv_N a cy d0 o) A) args s 8 (12 * 8) A) (hv_W 55 a (hv_XE a cy) (σ) ++ (hv_W 9 b (hv_TE b cy) (τ) ++ [])) 524 [(0, .ref (a 0)), (1, .ref (b 0)), (3, .ref (b 1)), (4, .int (x4)), (5, .int (x5)), (6, .int (x6)), (7, .int (x7))] [] := by
  intro κ σ τ x4 x5 x6 x7 hκ h
  unfold kQ_begins_524 at h
  refine r_iinc (pc := 524) C 6 (v := (x7) + 1) (lv' := [(7, .int ((x7) + 1)), (0, .ref (a 0)), (1, .ref (b 0)), (3, .ref (b 1)), (4, .int (x4)), (5, .int (x5)), (6, .int (x6))]) dL_begins_524 rfl rfl (Nat.le_of_ble_eq_true rfl) rfl ?_
  refine r_goto (pc := 527) C (tgt := 301) dL_begins_527 (by decide) ?_
  have K9 := hr301 κ (σ) (τ) (x4) (x5) (x6) ((x7) + 1) (by omega) h
  exact r_lv [1, 2, 3, 4, 5, 6, 0] rfl K9
set_option maxHeartbeats 4000000 in
set_option maxRecDepth 20000 in
theorem bQ_begins_456 (hflag : l.stackTraces = false) (C : hv_C p s m args meth c cL_begins 13 wsL_begins RL D (hv_tys cy)) (hA : ∀ q, s.heap.size ≤ q → A q) (hT : hv_TA A s) (hb : b 0 = d0) (hr : meth.sig.returnType = (some (.object "PinFrameLaw$Told"))) {n : Nat} {o : hv_St × hv_St} {r301 : hv_St → hv_St → Int32 → Int32 → Int32 → Int32 → Option (hv_St × hv_St)} {C301 : Nat} (hr301 : ∀ (κ : Nat) (σ τ : hv_St) (x4 : Int32) (x5 : Int32) (x6 : Int32) (x7 : Int32), κ + C301 ≤ 8 → r301 σ τ x4 x5 x6 x7 = some o → hv_J p l e (headSpec wsL_begins rmQ_begins).room s m args below meth c 13 D A κ (12 * κ) (MQ below (lv_Q D (lv_N a cy d0 o) A) args s 8 (12 * 8) A) (hv_W 55 a (hv_XE a cy) (σ) ++ (hv_W 9 b (hv_TE b cy) (τ) ++ [])) 301 [(0, .ref (a 0)), (1, .ref (b 0)), (3, .ref (b 1)), (4, .int (x4)), (5, .int (x5)), (6, .int (x6)), (7, .int (x7))] []) : ∀ (κ : Nat) (σ τ : hv_St) (x4 : Int32) (x5 : Int32) (x6 : Int32) (x7 : Int32) (x8 : Int32) (x9 : Int32) (x10 : Int32) (x11 : Int32) (z0 : Int32) (z1 : Int32), κ + (0 + C301) ≤ 8 → kQ_begins_456 n r301 σ τ x4 x5 x6 x7 x8 x9 x10 x11 z0 z1 = some o → hv_J p l e (headSpec wsL_begins rmQ_begins).room s m args below meth c 13 D A κ (12 * κ) (MQ below (lv_Q D (lv_N a cy d0 o) A) args s 8 (12 * 8) A) (hv_W 55 a (hv_XE a cy) (σ) ++ (hv_W 9 b (hv_TE b cy) (τ) ++ [])) 456 [(0, .ref (a 0)), (1, .ref (b 0)), (3, .ref (b 1)), (4, .int (x4)), (5, .int (x5)), (6, .int (x6)), (7, .int (x7)), (8, .int (x8)), (9, .int (x9)), (10, .int (x10)), (11, .int (x11))] [.int (z0), .int (z1)] := by
  intro κ σ τ x4 x5 x6 x7 x8 x9 x10 x11 z0 z1 hκ h
  unfold kQ_begins_456 at h
  refine r_icmp_eq (pc := 456) (tgt := 461) C dL_begins_456 (by decide) (fun c456 => ?_) (fun c456 => ?_)
  · rw [if_pos c456] at h
    refine r_iload (pc := 461) C 10 dL_begins_461 rfl ?_
    refine r_if_eq (pc := 463) (tgt := 524) C dL_begins_463 (by decide) (fun c463 => ?_) (fun c463 => ?_)
    · rw [if_pos c463] at h
      have K9 := bQ_begins_524 (e := e) (below := below) (a := a) (b := b) (n := n) hflag C hA hT hb hr hr301 κ (σ) (τ) (x4) (x5) (x6) (x7) (by omega) h
      exact r_lv [0, 1, 2, 3, 4, 5, 6] rfl K9
    · rw [if_neg c463] at h
      refine r_aload_n (pc := 466) C 2 dL_begins_466 rfl rfl ?_
      refine rt_get_4 (pc := 467) C iL_begins_X9 (List.mem_of_getElem? (i := 15) rfl) dL_begins_467 ?_
      refine r_aload_n (pc := 470) C 2 dL_begins_470 rfl rfl ?_
      refine rt_get_8 (pc := 471) C iL_begins_X9 (List.mem_of_getElem? (i := 19) rfl) dL_begins_471 ?_
      refine r_iload (pc := 474) C 7 dL_begins_474 rfl ?_
      obtain ⟨k476, h⟩ := hv_if_some h
      obtain ⟨t476, et476, h⟩ := hv_let_some h
      refine rt_st_6 (pc := 476) C et476 k476 dL_begins_476 ?_
      refine r_aload_n (pc := 477) C 2 dL_begins_477 rfl rfl ?_
      refine rt_get_5 (pc := 478) C iL_begins_X9 (List.mem_of_getElem? (i := 16) rfl) dL_begins_478 ?_
      refine r_aload_n (pc := 481) C 2 dL_begins_481 rfl rfl ?_
      refine rt_get_8 (pc := 482) C iL_begins_X9 (List.mem_of_getElem? (i := 19) rfl) dL_begins_482 ?_
      refine r_iload (pc := 485) C 8 dL_begins_485 rfl ?_
      obtain ⟨k487, h⟩ := hv_if_some h
      obtain ⟨t487, et487, h⟩ := hv_let_some h
      refine rt_st_7 (pc := 487) C et487 k487 dL_begins_487 ?_
      refine r_aload_n (pc := 488) C 2 dL_begins_488 rfl rfl ?_
      refine rt_get_6 (pc := 489) C iL_begins_X9 (List.mem_of_getElem? (i := 17) rfl) dL_begins_489 ?_
      refine r_aload_n (pc := 492) C 2 dL_begins_492 rfl rfl ?_
      refine rt_get_8 (pc := 493) C iL_begins_X9 (List.mem_of_getElem? (i := 19) rfl) dL_begins_493 ?_
      refine r_iload (pc := 496) C 9 dL_begins_496 rfl ?_
      obtain ⟨k498, h⟩ := hv_if_some h
      obtain ⟨t498, et498, h⟩ := hv_let_some h
      refine rt_st_8 (pc := 498) C et498 k498 dL_begins_498 ?_
      refine r_aload_n (pc := 499) C 2 dL_begins_499 rfl rfl ?_
      refine r_dup (pc := 500) C dL_begins_500 rfl ?_
      refine rt_get_9 (pc := 501) C iL_begins_X9 (List.mem_of_getElem? (i := 20) rfl) dL_begins_501 ?_
      refine r_iconst (pc := 504) C (v := (1 : Int32)) dL_begins_504 (by decide) ?_
      refine r_aload_n (pc := 505) C 2 dL_begins_505 rfl rfl ?_
      refine rt_get_8 (pc := 506) C iL_begins_X9 (List.mem_of_getElem? (i := 19) rfl) dL_begins_506 ?_
      refine r_ishl (pc := 509) C dL_begins_509 ?_
      refine r_ior (pc := 510) C dL_begins_510 ?_
      obtain ⟨t511, et511, h⟩ := hv_let_some h
      refine rt_put_9 (pc := 511) C et511 iL_begins_X9 (List.mem_of_getElem? (i := 20) rfl) dL_begins_511 ?_
      refine r_aload_n (pc := 514) C 2 dL_begins_514 rfl rfl ?_
      refine r_dup (pc := 515) C dL_begins_515 rfl ?_
      refine rt_get_8 (pc := 516) C iL_begins_X9 (List.mem_of_getElem? (i := 19) rfl) dL_begins_516 ?_
      refine r_iconst (pc := 519) C (v := (1 : Int32)) dL_begins_519 (by decide) ?_
      refine r_iadd (pc := 520) C dL_begins_520 ?_
      obtain ⟨t521, et521, h⟩ := hv_let_some h
      refine rt_put_8 (pc := 521) C et521 iL_begins_X9 (List.mem_of_getElem? (i := 19) rfl) dL_begins_521 ?_
      have K9 := bQ_begins_524 (e := e) (below := below) (a := a) (b := b) (n := n) hflag C hA hT hb hr hr301 κ (σ) (t521) (x4) (x5) (x6) (x7) (by omega) h
      exact r_lv [0, 1, 2, 3, 4, 5, 6] rfl K9
  · rw [if_neg c456] at h
    cases h
set_option maxHeartbeats 4000000 in
set_option maxRecDepth 20000 in
theorem bQ_begins_425 (hflag : l.stackTraces = false) (C : hv_C p s m args meth c cL_begins 13 wsL_begins RL D (hv_tys cy)) (hA : ∀ q, s.heap.size ≤ q → A q) (hT : hv_TA A s) (hb : b 0 = d0) (hr : meth.sig.returnType = (some (.object "PinFrameLaw$Told"))) {n : Nat} {o : hv_St × hv_St} {r301 : hv_St → hv_St → Int32 → Int32 → Int32 → Int32 → Option (hv_St × hv_St)} {r358 : hv_St → hv_St → Int32 → Int32 → Int32 → Int32 → Int32 → Int32 → Int32 → Int32 → Int32 → Option (hv_St × hv_St)} {C301 : Nat} {C358 : Nat} (hr301 : ∀ (κ : Nat) (σ τ : hv_St) (x4 : Int32) (x5 : Int32) (x6 : Int32) (x7 : Int32), κ + C301 ≤ 8 → r301 σ τ x4 x5 x6 x7 = some o → hv_J p l e (headSpec wsL_begins rmQ_begins).room s m args below meth c 13 D A κ (12 * κ) (MQ below (lv_Q D (lv_N a cy d0 o) A) args s 8 (12 * 8) A) (hv_W 55 a (hv_XE a cy) (σ) ++ (hv_W 9 b (hv_TE b cy) (τ) ++ [])) 301 [(0, .ref (a 0)), (1, .ref (b 0)), (3, .ref (b 1)), (4, .int (x4)), (5, .int (x5)), (6, .int (x6)), (7, .int (x7))] []) (hr358 : ∀ (κ : Nat) (σ τ : hv_St) (x4 : Int32) (x5 : Int32) (x6 : Int32) (x7 : Int32) (x8 : Int32) (x9 : Int32) (x10 : Int32) (x11 : Int32) (x12 : Int32), κ + C358 ≤ 8 → r358 σ τ x4 x5 x6 x7 x8 x9 x10 x11 x12 = some o → hv_J p l e (headSpec wsL_begins rmQ_begins).room s m args below meth c 13 D A κ (12 * κ) (MQ below (lv_Q D (lv_N a cy d0 o) A) args s 8 (12 * 8) A) (hv_W 55 a (hv_XE a cy) (σ) ++ (hv_W 9 b (hv_TE b cy) (τ) ++ [])) 358 [(0, .ref (a 0)), (1, .ref (b 0)), (3, .ref (b 1)), (4, .int (x4)), (5, .int (x5)), (6, .int (x6)), (7, .int (x7)), (8, .int (x8)), (9, .int (x9)), (10, .int (x10)), (11, .int (x11)), (12, .int (x12))] []) : ∀ (κ : Nat) (σ τ : hv_St) (x4 : Int32) (x5 : Int32) (x6 : Int32) (x7 : Int32) (x8 : Int32) (x9 : Int32) (x10 : Int32) (x12 : Int32) (z0 : Int32), κ + (0 + C358) ≤ 8 → kQ_begins_425 n r301 r358 σ τ x4 x5 x6 x7 x8 x9 x10 x12 z0 = some o → hv_J p l e (headSpec wsL_begins rmQ_begins).room s m args below meth c 13 D A κ (12 * κ) (MQ below (lv_Q D (lv_N a cy d0 o) A) args s 8 (12 * 8) A) (hv_W 55 a (hv_XE a cy) (σ) ++ (hv_W 9 b (hv_TE b cy) (τ) ++ [])) 425 [(0, .ref (a 0)), (1, .ref (b 0)), (3, .ref (b 1)), (4, .int (x4)), (5, .int (x5)), (6, .int (x6)), (7, .int (x7)), (8, .int (x8)), (9, .int (x9)), (10, .int (x10)), (12, .int (x12))] [.int (z0)] := by
  intro κ σ τ x4 x5 x6 x7 x8 x9 x10 x12 z0 hκ h
  unfold kQ_begins_425 at h
  refine r_istore (pc := 425) C (lv' := [(11, .int (z0)), (0, .ref (a 0)), (1, .ref (b 0)), (3, .ref (b 1)), (4, .int (x4)), (5, .int (x5)), (6, .int (x6)), (7, .int (x7)), (8, .int (x8)), (9, .int (x9)), (10, .int (x10)), (12, .int (x12))]) rfl dL_begins_425 (Nat.le_of_ble_eq_true rfl) rfl ?_
  refine r_iinc (pc := 427) C 11 (v := (x12) + 1) (lv' := [(12, .int ((x12) + 1)), (11, .int (z0)), (0, .ref (a 0)), (1, .ref (b 0)), (3, .ref (b 1)), (4, .int (x4)), (5, .int (x5)), (6, .int (x6)), (7, .int (x7)), (8, .int (x8)), (9, .int (x9)), (10, .int (x10))]) dL_begins_427 rfl rfl (Nat.le_of_ble_eq_true rfl) rfl ?_
  refine r_goto (pc := 430) C (tgt := 358) dL_begins_430 (by decide) ?_
  have K9 := hr358 κ (σ) (τ) (x4) (x5) (x6) (x7) (x8) (x9) (x10) (z0) ((x12) + 1) (by omega) h
  exact r_lv [2, 3, 4, 5, 6, 7, 8, 9, 10, 11, 1, 0] rfl K9
set_option maxHeartbeats 4000000 in
set_option maxRecDepth 20000 in
theorem bQ_begins_424 (hflag : l.stackTraces = false) (C : hv_C p s m args meth c cL_begins 13 wsL_begins RL D (hv_tys cy)) (hA : ∀ q, s.heap.size ≤ q → A q) (hT : hv_TA A s) (hb : b 0 = d0) (hr : meth.sig.returnType = (some (.object "PinFrameLaw$Told"))) {n : Nat} {o : hv_St × hv_St} {r301 : hv_St → hv_St → Int32 → Int32 → Int32 → Int32 → Option (hv_St × hv_St)} {r358 : hv_St → hv_St → Int32 → Int32 → Int32 → Int32 → Int32 → Int32 → Int32 → Int32 → Int32 → Option (hv_St × hv_St)} {C301 : Nat} {C358 : Nat} (hr301 : ∀ (κ : Nat) (σ τ : hv_St) (x4 : Int32) (x5 : Int32) (x6 : Int32) (x7 : Int32), κ + C301 ≤ 8 → r301 σ τ x4 x5 x6 x7 = some o → hv_J p l e (headSpec wsL_begins rmQ_begins).room s m args below meth c 13 D A κ (12 * κ) (MQ below (lv_Q D (lv_N a cy d0 o) A) args s 8 (12 * 8) A) (hv_W 55 a (hv_XE a cy) (σ) ++ (hv_W 9 b (hv_TE b cy) (τ) ++ [])) 301 [(0, .ref (a 0)), (1, .ref (b 0)), (3, .ref (b 1)), (4, .int (x4)), (5, .int (x5)), (6, .int (x6)), (7, .int (x7))] []) (hr358 : ∀ (κ : Nat) (σ τ : hv_St) (x4 : Int32) (x5 : Int32) (x6 : Int32) (x7 : Int32) (x8 : Int32) (x9 : Int32) (x10 : Int32) (x11 : Int32) (x12 : Int32), κ + C358 ≤ 8 → r358 σ τ x4 x5 x6 x7 x8 x9 x10 x11 x12 = some o → hv_J p l e (headSpec wsL_begins rmQ_begins).room s m args below meth c 13 D A κ (12 * κ) (MQ below (lv_Q D (lv_N a cy d0 o) A) args s 8 (12 * 8) A) (hv_W 55 a (hv_XE a cy) (σ) ++ (hv_W 9 b (hv_TE b cy) (τ) ++ [])) 358 [(0, .ref (a 0)), (1, .ref (b 0)), (3, .ref (b 1)), (4, .int (x4)), (5, .int (x5)), (6, .int (x6)), (7, .int (x7)), (8, .int (x8)), (9, .int (x9)), (10, .int (x10)), (11, .int (x11)), (12, .int (x12))] []) : ∀ (κ : Nat) (σ τ : hv_St) (x4 : Int32) (x5 : Int32) (x6 : Int32) (x7 : Int32) (x8 : Int32) (x9 : Int32) (x10 : Int32) (x12 : Int32), κ + (0 + C358) ≤ 8 → kQ_begins_424 n r301 r358 σ τ x4 x5 x6 x7 x8 x9 x10 x12 = some o → hv_J p l e (headSpec wsL_begins rmQ_begins).room s m args below meth c 13 D A κ (12 * κ) (MQ below (lv_Q D (lv_N a cy d0 o) A) args s 8 (12 * 8) A) (hv_W 55 a (hv_XE a cy) (σ) ++ (hv_W 9 b (hv_TE b cy) (τ) ++ [])) 424 [(0, .ref (a 0)), (1, .ref (b 0)), (3, .ref (b 1)), (4, .int (x4)), (5, .int (x5)), (6, .int (x6)), (7, .int (x7)), (8, .int (x8)), (9, .int (x9)), (10, .int (x10)), (12, .int (x12))] [] := by
  intro κ σ τ x4 x5 x6 x7 x8 x9 x10 x12 hκ h
  unfold kQ_begins_424 at h
  refine r_iconst (pc := 424) C (v := (0 : Int32)) dL_begins_424 (by decide) ?_
  have K9 := bQ_begins_425 (e := e) (below := below) (a := a) (b := b) (n := n) hflag C hA hT hb hr hr301 hr358 κ (σ) (τ) (x4) (x5) (x6) (x7) (x8) (x9) (x10) (x12) ((0 : Int32)) (by omega) h
  exact r_lv [0, 1, 2, 3, 4, 5, 6, 7, 8, 9, 10] rfl K9
set_option maxHeartbeats 4000000 in
set_option maxRecDepth 20000 in
theorem bQ_begins_420 (hflag : l.stackTraces = false) (C : hv_C p s m args meth c cL_begins 13 wsL_begins RL D (hv_tys cy)) (hA : ∀ q, s.heap.size ≤ q → A q) (hT : hv_TA A s) (hb : b 0 = d0) (hr : meth.sig.returnType = (some (.object "PinFrameLaw$Told"))) {n : Nat} {o : hv_St × hv_St} {r301 : hv_St → hv_St → Int32 → Int32 → Int32 → Int32 → Option (hv_St × hv_St)} {r358 : hv_St → hv_St → Int32 → Int32 → Int32 → Int32 → Int32 → Int32 → Int32 → Int32 → Int32 → Option (hv_St × hv_St)} {C301 : Nat} {C358 : Nat} (hr301 : ∀ (κ : Nat) (σ τ : hv_St) (x4 : Int32) (x5 : Int32) (x6 : Int32) (x7 : Int32), κ + C301 ≤ 8 → r301 σ τ x4 x5 x6 x7 = some o → hv_J p l e (headSpec wsL_begins rmQ_begins).room s m args below meth c 13 D A κ (12 * κ) (MQ below (lv_Q D (lv_N a cy d0 o) A) args s 8 (12 * 8) A) (hv_W 55 a (hv_XE a cy) (σ) ++ (hv_W 9 b (hv_TE b cy) (τ) ++ [])) 301 [(0, .ref (a 0)), (1, .ref (b 0)), (3, .ref (b 1)), (4, .int (x4)), (5, .int (x5)), (6, .int (x6)), (7, .int (x7))] []) (hr358 : ∀ (κ : Nat) (σ τ : hv_St) (x4 : Int32) (x5 : Int32) (x6 : Int32) (x7 : Int32) (x8 : Int32) (x9 : Int32) (x10 : Int32) (x11 : Int32) (x12 : Int32), κ + C358 ≤ 8 → r358 σ τ x4 x5 x6 x7 x8 x9 x10 x11 x12 = some o → hv_J p l e (headSpec wsL_begins rmQ_begins).room s m args below meth c 13 D A κ (12 * κ) (MQ below (lv_Q D (lv_N a cy d0 o) A) args s 8 (12 * 8) A) (hv_W 55 a (hv_XE a cy) (σ) ++ (hv_W 9 b (hv_TE b cy) (τ) ++ [])) 358 [(0, .ref (a 0)), (1, .ref (b 0)), (3, .ref (b 1)), (4, .int (x4)), (5, .int (x5)), (6, .int (x6)), (7, .int (x7)), (8, .int (x8)), (9, .int (x9)), (10, .int (x10)), (11, .int (x11)), (12, .int (x12))] []) : ∀ (κ : Nat) (σ τ : hv_St) (x4 : Int32) (x5 : Int32) (x6 : Int32) (x7 : Int32) (x8 : Int32) (x9 : Int32) (x10 : Int32) (x12 : Int32), κ + (0 + C358) ≤ 8 → kQ_begins_420 n r301 r358 σ τ x4 x5 x6 x7 x8 x9 x10 x12 = some o → hv_J p l e (headSpec wsL_begins rmQ_begins).room s m args below meth c 13 D A κ (12 * κ) (MQ below (lv_Q D (lv_N a cy d0 o) A) args s 8 (12 * 8) A) (hv_W 55 a (hv_XE a cy) (σ) ++ (hv_W 9 b (hv_TE b cy) (τ) ++ [])) 420 [(0, .ref (a 0)), (1, .ref (b 0)), (3, .ref (b 1)), (4, .int (x4)), (5, .int (x5)), (6, .int (x6)), (7, .int (x7)), (8, .int (x8)), (9, .int (x9)), (10, .int (x10)), (12, .int (x12))] [] := by
  intro κ σ τ x4 x5 x6 x7 x8 x9 x10 x12 hκ h
  unfold kQ_begins_420 at h
  refine r_iconst (pc := 420) C (v := (1 : Int32)) dL_begins_420 (by decide) ?_
  refine r_goto (pc := 421) C (tgt := 425) dL_begins_421 (by decide) ?_
  have K9 := bQ_begins_425 (e := e) (below := below) (a := a) (b := b) (n := n) hflag C hA hT hb hr hr301 hr358 κ (σ) (τ) (x4) (x5) (x6) (x7) (x8) (x9) (x10) (x12) ((1 : Int32)) (by omega) h
  exact r_lv [0, 1, 2, 3, 4, 5, 6, 7, 8, 9, 10] rfl K9
set_option maxHeartbeats 4000000 in
set_option maxRecDepth 20000 in
theorem bQ_begins_396 (hflag : l.stackTraces = false) (C : hv_C p s m args meth c cL_begins 13 wsL_begins RL D (hv_tys cy)) (hA : ∀ q, s.heap.size ≤ q → A q) (hT : hv_TA A s) (hb : b 0 = d0) (hr : meth.sig.returnType = (some (.object "PinFrameLaw$Told"))) {n : Nat} {o : hv_St × hv_St} {r301 : hv_St → hv_St → Int32 → Int32 → Int32 → Int32 → Option (hv_St × hv_St)} {r358 : hv_St → hv_St → Int32 → Int32 → Int32 → Int32 → Int32 → Int32 → Int32 → Int32 → Int32 → Option (hv_St × hv_St)} {C301 : Nat} {C358 : Nat} (hr301 : ∀ (κ : Nat) (σ τ : hv_St) (x4 : Int32) (x5 : Int32) (x6 : Int32) (x7 : Int32), κ + C301 ≤ 8 → r301 σ τ x4 x5 x6 x7 = some o → hv_J p l e (headSpec wsL_begins rmQ_begins).room s m args below meth c 13 D A κ (12 * κ) (MQ below (lv_Q D (lv_N a cy d0 o) A) args s 8 (12 * 8) A) (hv_W 55 a (hv_XE a cy) (σ) ++ (hv_W 9 b (hv_TE b cy) (τ) ++ [])) 301 [(0, .ref (a 0)), (1, .ref (b 0)), (3, .ref (b 1)), (4, .int (x4)), (5, .int (x5)), (6, .int (x6)), (7, .int (x7))] []) (hr358 : ∀ (κ : Nat) (σ τ : hv_St) (x4 : Int32) (x5 : Int32) (x6 : Int32) (x7 : Int32) (x8 : Int32) (x9 : Int32) (x10 : Int32) (x11 : Int32) (x12 : Int32), κ + C358 ≤ 8 → r358 σ τ x4 x5 x6 x7 x8 x9 x10 x11 x12 = some o → hv_J p l e (headSpec wsL_begins rmQ_begins).room s m args below meth c 13 D A κ (12 * κ) (MQ below (lv_Q D (lv_N a cy d0 o) A) args s 8 (12 * 8) A) (hv_W 55 a (hv_XE a cy) (σ) ++ (hv_W 9 b (hv_TE b cy) (τ) ++ [])) 358 [(0, .ref (a 0)), (1, .ref (b 0)), (3, .ref (b 1)), (4, .int (x4)), (5, .int (x5)), (6, .int (x6)), (7, .int (x7)), (8, .int (x8)), (9, .int (x9)), (10, .int (x10)), (11, .int (x11)), (12, .int (x12))] []) : ∀ (κ : Nat) (σ τ : hv_St) (x4 : Int32) (x5 : Int32) (x6 : Int32) (x7 : Int32) (x8 : Int32) (x9 : Int32) (x10 : Int32) (x12 : Int32), κ + (0 + C358) ≤ 8 → kQ_begins_396 n r301 r358 σ τ x4 x5 x6 x7 x8 x9 x10 x12 = some o → hv_J p l e (headSpec wsL_begins rmQ_begins).room s m args below meth c 13 D A κ (12 * κ) (MQ below (lv_Q D (lv_N a cy d0 o) A) args s 8 (12 * 8) A) (hv_W 55 a (hv_XE a cy) (σ) ++ (hv_W 9 b (hv_TE b cy) (τ) ++ [])) 396 [(0, .ref (a 0)), (1, .ref (b 0)), (3, .ref (b 1)), (4, .int (x4)), (5, .int (x5)), (6, .int (x6)), (7, .int (x7)), (8, .int (x8)), (9, .int (x9)), (10, .int (x10)), (12, .int (x12))] [] := by
  intro κ σ τ x4 x5 x6 x7 x8 x9 x10 x12 hκ h
  unfold kQ_begins_396 at h
  refine r_aload_n (pc := 396) C 2 dL_begins_396 rfl rfl ?_
  refine rt_get_4 (pc := 397) C iL_begins_X9 (List.mem_of_getElem? (i := 15) rfl) dL_begins_397 ?_
  refine r_iload (pc := 400) C 10 dL_begins_400 rfl ?_
  obtain ⟨k402, h⟩ := hv_if_some h
  refine rt_ld_6 (pc := 402) C k402 dL_begins_402 ?_
  refine r_iload (pc := 403) C 8 dL_begins_403 rfl ?_
  refine r_icmp_ne (pc := 405) (tgt := 420) C dL_begins_405 (by decide) (fun c405 => ?_) (fun c405 => ?_)
  · rw [if_neg c405] at h
    have K9 := bQ_begins_420 (e := e) (below := below) (a := a) (b := b) (n := n) hflag C hA hT hb hr hr301 hr358 κ (σ) (τ) (x4) (x5) (x6) (x7) (x8) (x9) (x10) (x12) (by omega) h
    exact r_lv [0, 1, 2, 3, 4, 5, 6, 7, 8, 9, 10] rfl K9
  · rw [if_pos c405] at h
    refine r_aload_n (pc := 408) C 2 dL_begins_408 rfl rfl ?_
    refine rt_get_5 (pc := 409) C iL_begins_X9 (List.mem_of_getElem? (i := 16) rfl) dL_begins_409 ?_
    refine r_iload (pc := 412) C 10 dL_begins_412 rfl ?_
    obtain ⟨k414, h⟩ := hv_if_some h
    refine rt_ld_7 (pc := 414) C k414 dL_begins_414 ?_
    refine r_iload (pc := 415) C 7 dL_begins_415 rfl ?_
    refine r_icmp_eq (pc := 417) (tgt := 424) C dL_begins_417 (by decide) (fun c417 => ?_) (fun c417 => ?_)
    · rw [if_pos c417] at h
      have K9 := bQ_begins_424 (e := e) (below := below) (a := a) (b := b) (n := n) hflag C hA hT hb hr hr301 hr358 κ (σ) (τ) (x4) (x5) (x6) (x7) (x8) (x9) (x10) (x12) (by omega) h
      exact r_lv [0, 1, 2, 3, 4, 5, 6, 7, 8, 9, 10] rfl K9
    · rw [if_neg c417] at h
      have K9 := bQ_begins_420 (e := e) (below := below) (a := a) (b := b) (n := n) hflag C hA hT hb hr hr301 hr358 κ (σ) (τ) (x4) (x5) (x6) (x7) (x8) (x9) (x10) (x12) (by omega) h
      exact r_lv [0, 1, 2, 3, 4, 5, 6, 7, 8, 9, 10] rfl K9
set_option maxHeartbeats 4000000 in
set_option maxRecDepth 20000 in
theorem bQ_begins_358 (hflag : l.stackTraces = false) (C : hv_C p s m args meth c cL_begins 13 wsL_begins RL D (hv_tys cy)) (hA : ∀ q, s.heap.size ≤ q → A q) (hT : hv_TA A s) (hb : b 0 = d0) (hr : meth.sig.returnType = (some (.object "PinFrameLaw$Told"))) {n : Nat} {o : hv_St × hv_St} {r301 : hv_St → hv_St → Int32 → Int32 → Int32 → Int32 → Option (hv_St × hv_St)} {C301 : Nat} (hr301 : ∀ (κ : Nat) (σ τ : hv_St) (x4 : Int32) (x5 : Int32) (x6 : Int32) (x7 : Int32), κ + C301 ≤ 8 → r301 σ τ x4 x5 x6 x7 = some o → hv_J p l e (headSpec wsL_begins rmQ_begins).room s m args below meth c 13 D A κ (12 * κ) (MQ below (lv_Q D (lv_N a cy d0 o) A) args s 8 (12 * 8) A) (hv_W 55 a (hv_XE a cy) (σ) ++ (hv_W 9 b (hv_TE b cy) (τ) ++ [])) 301 [(0, .ref (a 0)), (1, .ref (b 0)), (3, .ref (b 1)), (4, .int (x4)), (5, .int (x5)), (6, .int (x6)), (7, .int (x7))] []) : ∀ (i κ : Nat) (σ τ : hv_St) (x4 : Int32) (x5 : Int32) (x6 : Int32) (x7 : Int32) (x8 : Int32) (x9 : Int32) (x10 : Int32) (x11 : Int32) (x12 : Int32), κ + ((0 + C301)) ≤ 8 → kQ_begins_358 n r301 i σ τ x4 x5 x6 x7 x8 x9 x10 x11 x12 = some o → hv_J p l e (headSpec wsL_begins rmQ_begins).room s m args below meth c 13 D A κ (12 * κ) (MQ below (lv_Q D (lv_N a cy d0 o) A) args s 8 (12 * 8) A) (hv_W 55 a (hv_XE a cy) (σ) ++ (hv_W 9 b (hv_TE b cy) (τ) ++ [])) 358 [(0, .ref (a 0)), (1, .ref (b 0)), (3, .ref (b 1)), (4, .int (x4)), (5, .int (x5)), (6, .int (x6)), (7, .int (x7)), (8, .int (x8)), (9, .int (x9)), (10, .int (x10)), (11, .int (x11)), (12, .int (x12))] [] := by
  intro i
  induction i with
  | zero =>
    intro κ σ τ x4 x5 x6 x7 x8 x9 x10 x11 x12 hκ h
    cases h
  | succ i ih =>
    intro κ σ τ x4 x5 x6 x7 x8 x9 x10 x11 x12 hκ h
    generalize hg : kQ_begins_358 n r301 i = r358 at ih
    have hr358 := ih
    replace h : kQ_begins_358_b n r301 r358 σ τ x4 x5 x6 x7 x8 x9 x10 x11 x12 = some o := by rw [← hg]; exact h
    unfold kQ_begins_358_b at h
    refine r_iload (pc := 358) C 11 dL_begins_358 rfl ?_
    refine r_aload_n (pc := 360) C 2 dL_begins_360 rfl rfl ?_
    refine rt_get_8 (pc := 361) C iL_begins_X9 (List.mem_of_getElem? (i := 19) rfl) dL_begins_361 ?_
    refine r_icmp_ge (pc := 364) (tgt := 433) C dL_begins_364 (by decide) (fun c364 => ?_) (fun c364 => ?_)
    · rw [if_pos c364] at h
      refine r_aload_n (pc := 433) C 0 dL_begins_433 rfl rfl ?_
      refine r_iload (pc := 434) C 7 dL_begins_434 rfl ?_
      refine r_iload (pc := 436) C 8 dL_begins_436 rfl ?_
      refine r_iload (pc := 438) C 9 dL_begins_438 rfl ?_
      obtain ⟨r440, s440, hc440, h⟩ := hv_b2_some h
      refine r_callV0 (pc := 440) (τ := s440) (v := some (.int (r440))) (As := [.int (x8), .int (x9), .int (x10)]) (rest := []) C hA 0 (vX7_bar hc440) (cwV 3 C.1.2.2.2.2 gL_begins_X7_bar rfl rfl rfl (by decide +kernel) ⟨(Nat.le_of_ble_eq_true rfl), (Nat.le_of_ble_eq_true rfl)⟩) (Nat.le_of_ble_eq_true rfl) rfl rfl rfl rfl (Nat.le_of_ble_eq_true rfl) dL_begins_440 (lv_cl0 (MC := 8) (need := 0) (by omega)) ?_
      refine r_st (st' := [.int (r440)]) rfl ?_
      refine r_iload (pc := 443) C 10 dL_begins_443 rfl ?_
      refine r_if_eq (pc := 445) (tgt := 455) C dL_begins_445 (by decide) (fun c445 => ?_) (fun c445 => ?_)
      · rw [if_pos c445] at h
        refine r_iconst (pc := 455) C (v := (-1 : Int32)) dL_begins_455 (by decide) ?_
        have K9 := bQ_begins_456 (e := e) (below := below) (a := a) (b := b) (n := n) hflag C hA hT hb hr hr301 κ (s440) (τ) (x4) (x5) (x6) (x7) (x8) (x9) (x10) (x11) ((-1 : Int32)) (r440) (by omega) h
        exact r_lv [0, 1, 2, 3, 4, 5, 6, 7, 8, 9, 10] rfl K9
      · rw [if_neg c445] at h
        refine r_aload_n (pc := 448) C 2 dL_begins_448 rfl rfl ?_
        refine rt_get_8 (pc := 449) C iL_begins_X9 (List.mem_of_getElem? (i := 19) rfl) dL_begins_449 ?_
        refine r_goto (pc := 452) C (tgt := 456) dL_begins_452 (by decide) ?_
        have K9 := bQ_begins_456 (e := e) (below := below) (a := a) (b := b) (n := n) hflag C hA hT hb hr hr301 κ (s440) (τ) (x4) (x5) (x6) (x7) (x8) (x9) (x10) (x11) ((τ).1 1 8) (r440) (by omega) h
        exact r_lv [0, 1, 2, 3, 4, 5, 6, 7, 8, 9, 10] rfl K9
    · rw [if_neg c364] at h
      refine r_iload (pc := 367) C 10 dL_begins_367 rfl ?_
      refine r_if_eq (pc := 369) (tgt := 424) C dL_begins_369 (by decide) (fun c369 => ?_) (fun c369 => ?_)
      · rw [if_pos c369] at h
        have K9 := bQ_begins_424 (e := e) (below := below) (a := a) (b := b) (n := n) hflag C hA hT hb hr hr301 hr358 κ (σ) (τ) (x4) (x5) (x6) (x7) (x8) (x9) (x10) (x12) (by omega) h
        exact r_lv [0, 1, 2, 3, 4, 5, 6, 7, 8, 9, 11] rfl K9
      · rw [if_neg c369] at h
        refine r_aload_n (pc := 372) C 2 dL_begins_372 rfl rfl ?_
        refine rt_get_4 (pc := 373) C iL_begins_X9 (List.mem_of_getElem? (i := 15) rfl) dL_begins_373 ?_
        refine r_iload (pc := 376) C 11 dL_begins_376 rfl ?_
        obtain ⟨k378, h⟩ := hv_if_some h
        refine rt_ld_6 (pc := 378) C k378 dL_begins_378 ?_
        refine r_iload (pc := 379) C 7 dL_begins_379 rfl ?_
        refine r_icmp_ne (pc := 381) (tgt := 396) C dL_begins_381 (by decide) (fun c381 => ?_) (fun c381 => ?_)
        · rw [if_neg c381] at h
          have K9 := bQ_begins_396 (e := e) (below := below) (a := a) (b := b) (n := n) hflag C hA hT hb hr hr301 hr358 κ (σ) (τ) (x4) (x5) (x6) (x7) (x8) (x9) (x10) (x12) (by omega) h
          exact r_lv [0, 1, 2, 3, 4, 5, 6, 7, 8, 9, 11] rfl K9
        · rw [if_pos c381] at h
          refine r_aload_n (pc := 384) C 2 dL_begins_384 rfl rfl ?_
          refine rt_get_5 (pc := 385) C iL_begins_X9 (List.mem_of_getElem? (i := 16) rfl) dL_begins_385 ?_
          refine r_iload (pc := 388) C 11 dL_begins_388 rfl ?_
          obtain ⟨k390, h⟩ := hv_if_some h
          refine rt_ld_7 (pc := 390) C k390 dL_begins_390 ?_
          refine r_iload (pc := 391) C 8 dL_begins_391 rfl ?_
          refine r_icmp_eq (pc := 393) (tgt := 424) C dL_begins_393 (by decide) (fun c393 => ?_) (fun c393 => ?_)
          · rw [if_pos c393] at h
            have K9 := bQ_begins_424 (e := e) (below := below) (a := a) (b := b) (n := n) hflag C hA hT hb hr hr301 hr358 κ (σ) (τ) (x4) (x5) (x6) (x7) (x8) (x9) (x10) (x12) (by omega) h
            exact r_lv [0, 1, 2, 3, 4, 5, 6, 7, 8, 9, 11] rfl K9
          · rw [if_neg c393] at h
            have K9 := bQ_begins_396 (e := e) (below := below) (a := a) (b := b) (n := n) hflag C hA hT hb hr hr301 hr358 κ (σ) (τ) (x4) (x5) (x6) (x7) (x8) (x9) (x10) (x12) (by omega) h
            exact r_lv [0, 1, 2, 3, 4, 5, 6, 7, 8, 9, 11] rfl K9
set_option maxHeartbeats 4000000 in
set_option maxRecDepth 20000 in
theorem bQ_begins_301 (hflag : l.stackTraces = false) (C : hv_C p s m args meth c cL_begins 13 wsL_begins RL D (hv_tys cy)) (hA : ∀ q, s.heap.size ≤ q → A q) (hT : hv_TA A s) (hb : b 0 = d0) (hr : meth.sig.returnType = (some (.object "PinFrameLaw$Told"))) {n : Nat} {o : hv_St × hv_St} : ∀ (i κ : Nat) (σ τ : hv_St) (x4 : Int32) (x5 : Int32) (x6 : Int32) (x7 : Int32), κ + (0) ≤ 8 → kQ_begins_301 n i σ τ x4 x5 x6 x7 = some o → hv_J p l e (headSpec wsL_begins rmQ_begins).room s m args below meth c 13 D A κ (12 * κ) (MQ below (lv_Q D (lv_N a cy d0 o) A) args s 8 (12 * 8) A) (hv_W 55 a (hv_XE a cy) (σ) ++ (hv_W 9 b (hv_TE b cy) (τ) ++ [])) 301 [(0, .ref (a 0)), (1, .ref (b 0)), (3, .ref (b 1)), (4, .int (x4)), (5, .int (x5)), (6, .int (x6)), (7, .int (x7))] [] := by
  intro i
  induction i with
  | zero =>
    intro κ σ τ x4 x5 x6 x7 hκ h
    cases h
  | succ i ih =>
    intro κ σ τ x4 x5 x6 x7 hκ h
    generalize hg : kQ_begins_301 n i = r301 at ih
    have hr301 := ih
    replace h : kQ_begins_301_b n r301 σ τ x4 x5 x6 x7 = some o := by rw [← hg]; exact h
    unfold kQ_begins_301_b at h
    refine r_iload (pc := 301) C 6 dL_begins_301 rfl ?_
    refine r_bipush (pc := 303) C (v := (40 : Int32)) dL_begins_303 (by decide) ?_
    refine r_icmp_ge (pc := 305) (tgt := 530) C dL_begins_305 (by decide) (fun c305 => ?_) (fun c305 => ?_)
    · rw [if_pos c305] at h
      have K9 := bQ_begins_530 (e := e) (below := below) (a := a) (b := b) (n := n) hflag C hA hT hb hr κ (σ) (τ) (x4) (x5) (by omega) h
      exact r_lv [0, 1, 2, 3, 4] rfl K9
    · rw [if_neg c305] at h
      refine r_aload_n (pc := 308) C 2 dL_begins_308 rfl rfl ?_
      refine rt_get_8 (pc := 309) C iL_begins_X9 (List.mem_of_getElem? (i := 19) rfl) dL_begins_309 ?_
      refine r_iload (pc := 312) C 5 dL_begins_312 rfl ?_
      refine r_icmp_ge (pc := 314) (tgt := 530) C dL_begins_314 (by decide) (fun c314 => ?_) (fun c314 => ?_)
      · rw [if_pos c314] at h
        have K9 := bQ_begins_530 (e := e) (below := below) (a := a) (b := b) (n := n) hflag C hA hT hb hr κ (σ) (τ) (x4) (x5) (by omega) h
        exact r_lv [0, 1, 2, 3, 4] rfl K9
      · rw [if_neg c314] at h
        refine r_aload_n (pc := 317) C 1 dL_begins_317 rfl rfl ?_
        refine r_iload (pc := 318) C 3 dL_begins_318 rfl ?_
        obtain ⟨r320, s320, hc320, h⟩ := hv_b2_some h
        refine r_callV (pc := 320) (τ := s320) (v := some (.int (r320))) (As := [.int (x4)]) (rest := []) C hA 0 (vX8_next hc320) (cwV 1 C.1.2.2.2.2 gL_begins_X8_next rfl rfl rfl (by decide +kernel) ⟨(Nat.le_of_ble_eq_true rfl), (Nat.le_of_ble_eq_true rfl)⟩) (Nat.le_of_ble_eq_true rfl) rfl rfl rfl rfl (Nat.le_of_ble_eq_true rfl) dL_begins_320 (lv_cl0 (MC := 8) (need := 0) (by omega)) ?_
        refine r_st (st' := [.int (r320)]) rfl ?_
        refine r_istore (pc := 323) C (lv' := [(8, .int (r320)), (0, .ref (a 0)), (1, .ref (b 0)), (3, .ref (b 1)), (4, .int (x4)), (5, .int (x5)), (6, .int (x6)), (7, .int (x7))]) rfl dL_begins_323 (Nat.le_of_ble_eq_true rfl) rfl ?_
        refine r_iload (pc := 325) C 0 dL_begins_325 rfl ?_
        refine r_iconst (pc := 327) C (v := (1 : Int32)) dL_begins_327 (by decide) ?_
        refine r_iadd (pc := 328) C dL_begins_328 ?_
        refine r_aload_n (pc := 329) C 2 dL_begins_329 rfl rfl ?_
        refine r_iload (pc := 330) C 4 dL_begins_330 rfl ?_
        refine r_iconst (pc := 332) C (v := (1 : Int32)) dL_begins_332 (by decide) ?_
        refine r_isub (pc := 333) C dL_begins_333 ?_
        obtain ⟨r334, s334, hc334, h⟩ := hv_b2_some h
        refine r_callV (pc := 334) (τ := s334) (v := some (.int (r334))) (As := [.int ((x4) - ((1 : Int32)))]) (rest := [.int ((r320) + ((1 : Int32)))]) C hA 0 (vX8_next hc334) (cwV 1 C.1.2.2.2.2 gL_begins_X8_next rfl rfl rfl (by decide +kernel) ⟨(Nat.le_of_ble_eq_true rfl), (Nat.le_of_ble_eq_true rfl)⟩) (Nat.le_of_ble_eq_true rfl) rfl rfl rfl rfl (Nat.le_of_ble_eq_true rfl) dL_begins_334 (lv_cl0 (MC := 8) (need := 0) (by omega)) ?_
        refine r_st (st' := [.int (r334), .int ((r320) + ((1 : Int32)))]) rfl ?_
        refine r_iadd (pc := 337) C dL_begins_337 ?_
        refine r_iload (pc := 338) C 4 dL_begins_338 rfl ?_
        obtain ⟨k340, h⟩ := hv_if_some h
        refine r_irem (pc := 340) C dL_begins_340 (of_decide_eq_true k340) ?_
        obtain ⟨y9_341, ey9_341, h⟩ := hv_let_some h
        refine r_istore (pc := 341) C (lv' := [(9, .int (y9_341)), (8, .int (r320)), (0, .ref (a 0)), (1, .ref (b 0)), (3, .ref (b 1)), (4, .int (x4)), (5, .int (x5)), (6, .int (x6)), (7, .int (x7))]) ey9_341 dL_begins_341 (Nat.le_of_ble_eq_true rfl) rfl ?_
        refine r_iconst (pc := 343) C (v := (1 : Int32)) dL_begins_343 (by decide) ?_
        refine r_aload_n (pc := 344) C 3 dL_begins_344 rfl rfl ?_
        refine r_iconst (pc := 345) C (v := (3 : Int32)) dL_begins_345 (by decide) ?_
        obtain ⟨r346, s346, hc346, h⟩ := hv_b2_some h
        refine r_callV (pc := 346) (τ := s346) (v := some (.int (r346))) (As := [.int ((3 : Int32))]) (rest := [.int ((1 : Int32))]) C hA 0 (vX8_next hc346) (cwV 1 C.1.2.2.2.2 gL_begins_X8_next rfl rfl rfl (by decide +kernel) ⟨(Nat.le_of_ble_eq_true rfl), (Nat.le_of_ble_eq_true rfl)⟩) (Nat.le_of_ble_eq_true rfl) rfl rfl rfl rfl (Nat.le_of_ble_eq_true rfl) dL_begins_346 (lv_cl0 (MC := 8) (need := 0) (by omega)) ?_
        refine r_st (st' := [.int (r346), .int ((1 : Int32))]) rfl ?_
        refine r_iadd (pc := 349) C dL_begins_349 ?_
        obtain ⟨y10_350, ey10_350, h⟩ := hv_let_some h
        refine r_istore (pc := 350) C (lv' := [(10, .int (y10_350)), (9, .int (y9_341)), (8, .int (r320)), (0, .ref (a 0)), (1, .ref (b 0)), (3, .ref (b 1)), (4, .int (x4)), (5, .int (x5)), (6, .int (x6)), (7, .int (x7))]) ey10_350 dL_begins_350 (Nat.le_of_ble_eq_true rfl) rfl ?_
        refine r_iconst (pc := 352) C (v := (1 : Int32)) dL_begins_352 (by decide) ?_
        refine r_istore (pc := 353) C (lv' := [(11, .int ((1 : Int32))), (10, .int (y10_350)), (9, .int (y9_341)), (8, .int (r320)), (0, .ref (a 0)), (1, .ref (b 0)), (3, .ref (b 1)), (4, .int (x4)), (5, .int (x5)), (6, .int (x6)), (7, .int (x7))]) rfl dL_begins_353 (Nat.le_of_ble_eq_true rfl) rfl ?_
        refine r_iconst (pc := 355) C (v := (0 : Int32)) dL_begins_355 (by decide) ?_
        refine r_istore (pc := 356) C (lv' := [(12, .int ((0 : Int32))), (11, .int ((1 : Int32))), (10, .int (y10_350)), (9, .int (y9_341)), (8, .int (r320)), (0, .ref (a 0)), (1, .ref (b 0)), (3, .ref (b 1)), (4, .int (x4)), (5, .int (x5)), (6, .int (x6)), (7, .int (x7))]) rfl dL_begins_356 (Nat.le_of_ble_eq_true rfl) rfl ?_
        have K9 := bQ_begins_358 (e := e) (below := below) (a := a) (b := b) (n := n) hflag C hA hT hb hr hr301 n κ (σ) (s346) (x4) (x5) (x6) (x7) (r320) (y9_341) (y10_350) ((1 : Int32)) ((0 : Int32)) (by omega) h
        exact r_lv [5, 6, 7, 8, 9, 10, 11, 4, 3, 2, 1, 0] rfl K9
set_option maxHeartbeats 4000000 in
set_option maxRecDepth 20000 in
theorem bQ_begins_262 (hflag : l.stackTraces = false) (C : hv_C p s m args meth c cL_begins 13 wsL_begins RL D (hv_tys cy)) (hA : ∀ q, s.heap.size ≤ q → A q) (hT : hv_TA A s) (hb : b 0 = d0) (hr : meth.sig.returnType = (some (.object "PinFrameLaw$Told"))) {n : Nat} {o : hv_St × hv_St} {r174 : hv_St → hv_St → Int32 → Int32 → Int32 → Option (hv_St × hv_St)} {r228 : hv_St → hv_St → Int32 → Int32 → Int32 → Int32 → Int32 → Option (hv_St × hv_St)} {C174 : Nat} {C228 : Nat} (hr174 : ∀ (κ : Nat) (σ τ : hv_St) (x4 : Int32) (x5 : Int32) (x6 : Int32), κ + C174 ≤ 8 → r174 σ τ x4 x5 x6 = some o → hv_J p l e (headSpec wsL_begins rmQ_begins).room s m args below meth c 13 D A κ (12 * κ) (MQ below (lv_Q D (lv_N a cy d0 o) A) args s 8 (12 * 8) A) (hv_W 55 a (hv_XE a cy) (σ) ++ (hv_W 9 b (hv_TE b cy) (τ) ++ [])) 174 [(0, .ref (a 0)), (1, .ref (b 0)), (3, .ref (b 1)), (4, .int (x4)), (5, .int (x5)), (6, .int (x6))] []) (hr228 : ∀ (κ : Nat) (σ τ : hv_St) (x4 : Int32) (x5 : Int32) (x6 : Int32) (x7 : Int32) (x8 : Int32), κ + C228 ≤ 8 → r228 σ τ x4 x5 x6 x7 x8 = some o → hv_J p l e (headSpec wsL_begins rmQ_begins).room s m args below meth c 13 D A κ (12 * κ) (MQ below (lv_Q D (lv_N a cy d0 o) A) args s 8 (12 * 8) A) (hv_W 55 a (hv_XE a cy) (σ) ++ (hv_W 9 b (hv_TE b cy) (τ) ++ [])) 228 [(0, .ref (a 0)), (1, .ref (b 0)), (3, .ref (b 1)), (4, .int (x4)), (5, .int (x5)), (6, .int (x6)), (7, .int (x7)), (8, .int (x8))] []) : ∀ (κ : Nat) (σ τ : hv_St) (x4 : Int32) (x5 : Int32) (x6 : Int32) (x7 : Int32) (x8 : Int32), κ + (0 + C228) ≤ 8 → kQ_begins_262 n r174 r228 σ τ x4 x5 x6 x7 x8 = some o → hv_J p l e (headSpec wsL_begins rmQ_begins).room s m args below meth c 13 D A κ (12 * κ) (MQ below (lv_Q D (lv_N a cy d0 o) A) args s 8 (12 * 8) A) (hv_W 55 a (hv_XE a cy) (σ) ++ (hv_W 9 b (hv_TE b cy) (τ) ++ [])) 262 [(0, .ref (a 0)), (1, .ref (b 0)), (3, .ref (b 1)), (4, .int (x4)), (5, .int (x5)), (6, .int (x6)), (7, .int (x7)), (8, .int (x8))] [] := by
  intro κ σ τ x4 x5 x6 x7 x8 hκ h
  unfold kQ_begins_262 at h
  refine r_iinc (pc := 262) C 7 (v := (x8) + 1) (lv' := [(8, .int ((x8) + 1)), (0, .ref (a 0)), (1, .ref (b 0)), (3, .ref (b 1)), (4, .int (x4)), (5, .int (x5)), (6, .int (x6)), (7, .int (x7))]) dL_begins_262 rfl rfl (Nat.le_of_ble_eq_true rfl) rfl ?_
  refine r_goto (pc := 265) C (tgt := 228) dL_begins_265 (by decide) ?_
  have K9 := hr228 κ (σ) (τ) (x4) (x5) (x6) (x7) ((x8) + 1) (by omega) h
  exact r_lv [1, 2, 3, 4, 5, 6, 7, 0] rfl K9
end
