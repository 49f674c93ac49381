/-! L_isBalance, walked -/
section
variable {p : Program} {l : Launch} {e : Env} {s : State} {m : MethodId} {args : Array Value} {below : List Frame} {meth : Method} {c : Code} {D : va_G} {cy : ClassId × ClassId × ClassId × ClassId} {A : Nat → Prop} {a b : Nat → Nat} {d0 : Nat}
abbrev rmQ_isBalance : Room := { frames := 9, cells := 1422, slots := 12 * 1422, locals := 192 }
def kQ_isBalance_157 (n : Nat) (r2 : hv_St → hv_St → Int32 → Option (hv_St × hv_St)) (r12 : hv_St → hv_St → Int32 → Int32 → Option (hv_St × hv_St)) (σ τ : hv_St) (x2 : Int32) (x3 : Int32) : Option (hv_St × hv_St) := r12 (σ) (τ) (x2) ((x3) + 1)
def kQ_isBalance_85 (n : Nat) (r2 : hv_St → hv_St → Int32 → Option (hv_St × hv_St)) (r12 : hv_St → hv_St → Int32 → Int32 → Option (hv_St × hv_St)) (r36 : hv_St → hv_St → Int32 → Int32 → (Int64 × Int64) → Int32 → Option (hv_St × hv_St)) (σ τ : hv_St) (x2 : Int32) (x3 : Int32) (x4 : Int64 × Int64) (x5 : Int32) : Option (hv_St × hv_St) := r36 (σ) (τ) (x2) (x3) (x4) ((x5) + 1)
def kQ_isBalance_36_b (n : Nat) (r2 : hv_St → hv_St → Int32 → Option (hv_St × hv_St)) (r12 : hv_St → hv_St → Int32 → Int32 → Option (hv_St × hv_St)) (r36 : hv_St → hv_St → Int32 → Int32 → (Int64 × Int64) → Int32 → Option (hv_St × hv_St)) (σ τ : hv_St) (x2 : Int32) (x3 : Int32) (x4 : Int64 × Int64) (x5 : Int32) : Option (hv_St × hv_St) := if (τ).1 1 8 ≤ x5 then (hv_if (hv_ok (x2) 6) (hv_b2 (mL_isOn n hv_0 ((τ).1 4 (x2).toNatClampNeg) (x3)) fun r98 _ => hv_b2 (mQ_force n (σ) (x2) (x3)) fun r106 s106 => hv_ox r106 (if r98 = 0 then (if lg_cmp ((x4).1) ((0 : Int64)) = 0 then (kQ_isBalance_157 n r2 r12 (s106) (τ) (x2) (x3)) else (none)) else (none)) (fun x106 => if r98 = 0 then (if lg_cmp ((x4).1) ((0 : Int64)) = 0 then (none) else (none)) else (hv_bd (mQ_isLeast n (x106)) fun r118 => if r118 = 0 then (none) else (hv_bd (mQ_plus n (x4) (x106)) fun r128 => if lg_cmp ((r128).1) ((0 : Int64)) = 0 then (kQ_isBalance_157 n r2 r12 (s106) (τ) (x2) (x3)) else (none)))))) else (hv_b2 (mL_isOn n hv_0 ((τ).1 1 9) (x5)) fun r51 _ => if r51 = 0 then (kQ_isBalance_85 n r2 r12 r36 (σ) (τ) (x2) (x3) (x4) (x5)) else (hv_b2 (mQ_pull n (σ) (x5)) fun r62 s62 => hv_ox r62 (hv_b2 (mL_brings n (τ) (x5) (x2) (x3)) fun r70 s70 => none) (fun x62 => hv_b2 (mL_brings n (τ) (x5) (x2) (x3)) fun r70 s70 => hv_bd (mQ_times n (x62) (((r70).toInt64, (1 : Int64)))) fun r77 => hv_bd (mQ_plus n (x4) (r77)) fun r80 => kQ_isBalance_85 n r2 r12 r36 (s62) (s70) (x2) (x3) (r80) (x5))))
def kQ_isBalance_36 (n : Nat) (r2 : hv_St → hv_St → Int32 → Option (hv_St × hv_St)) (r12 : hv_St → hv_St → Int32 → Int32 → Option (hv_St × hv_St)) : Nat → hv_St → hv_St → Int32 → Int32 → (Int64 × Int64) → Int32 → Option (hv_St × hv_St)
  | 0 => fun _ _ _ _ _ _ => none
  | i + 1 => kQ_isBalance_36_b n r2 r12 (kQ_isBalance_36 n r2 r12 i)
def kQ_isBalance_12_b (n : Nat) (r2 : hv_St → hv_St → Int32 → Option (hv_St × hv_St)) (r12 : hv_St → hv_St → Int32 → Int32 → Option (hv_St × hv_St)) (σ τ : hv_St) (x2 : Int32) (x3 : Int32) : Option (hv_St × hv_St) := if (2 : Int32) ≤ x3 then (r2 (σ) (τ) ((x2) + 1)) else (hv_if (hv_ok ((((2 : Int32)) * (x2)) + (x3)) 12) (kQ_isBalance_36 n r2 r12 12 (σ) (τ) (x2) (x3) ((((τ).1 5 ((((2 : Int32)) * (x2)) + (x3)).toNatClampNeg).toInt64, (1 : Int64))) ((0 : Int32))))
def kQ_isBalance_12 (n : Nat) (r2 : hv_St → hv_St → Int32 → Option (hv_St × hv_St)) : Nat → hv_St → hv_St → Int32 → Int32 → Option (hv_St × hv_St)
  | 0 => fun _ _ _ _ => none
  | i + 1 => kQ_isBalance_12_b n r2 (kQ_isBalance_12 n r2 i)
def kQ_isBalance_2_b (n : Nat) (r2 : hv_St → hv_St → Int32 → Option (hv_St × hv_St)) (σ τ : hv_St) (x2 : Int32) : Option (hv_St × hv_St) := if (τ).1 1 7 ≤ x2 then (some ((σ), (τ))) else (kQ_isBalance_12 n r2 3 (σ) (τ) (x2) ((0 : Int32)))
def kQ_isBalance_2 (n : Nat) : Nat → hv_St → hv_St → Int32 → Option (hv_St × hv_St)
  | 0 => fun _ _ _ => none
  | i + 1 => kQ_isBalance_2_b n (kQ_isBalance_2 n i)
def mQ_isBalance (n : Nat) (σ τ : hv_St) : Option (hv_St × hv_St) := kQ_isBalance_2 n 6 (σ) (τ) ((0 : Int32))
set_option maxRecDepth 20000 in
theorem iL_isBalance_X9 : ∀ w ∈ u_ws RX9 TX9 10, w ∈ wsL_isBalance := by decide +kernel
set_option maxHeartbeats 4000000 in
set_option maxRecDepth 20000 in
theorem bQ_isBalance_157 (hflag : l.stackTraces = false) (C : hv_C p s m args meth c cL_isBalance 7 wsL_isBalance RL D (hv_tys cy)) (hA : ∀ q, s.heap.size ≤ q → A q) (hT : hv_TA A s) (hr : meth.sig.returnType = (some .boolean)) {n : Nat} {o : hv_St × hv_St} {r2 : hv_St → hv_St → Int32 → Option (hv_St × hv_St)} {r12 : hv_St → hv_St → Int32 → Int32 → Option (hv_St × hv_St)} {C2 : Nat} {C12 : Nat} (hr2 : ∀ (κ : Nat) (σ τ : hv_St) (x2 : Int32), κ + C2 ≤ 1422 → r2 σ τ x2 = some o → hv_J p l e (headSpec wsL_isBalance rmQ_isBalance).room s m args below meth c 7 D A κ (12 * κ) (MQ below (lv_Q D (lv_val (some (.int (1 : Int32))) (hv_W 55 a (hv_XE a cy) o.1 ++ hv_W 9 b (hv_TE b cy) o.2)) A) args s 1422 (12 * 1422) A) (hv_W 55 a (hv_XE a cy) (σ) ++ (hv_W 9 b (hv_TE b cy) (τ) ++ [])) 2 [(0, .ref (a 0)), (1, .ref (b 1)), (2, .int (x2))] []) (hr12 : ∀ (κ : Nat) (σ τ : hv_St) (x2 : Int32) (x3 : Int32), κ + C12 ≤ 1422 → r12 σ τ x2 x3 = some o → hv_J p l e (headSpec wsL_isBalance rmQ_isBalance).room s m args below meth c 7 D A κ (12 * κ) (MQ below (lv_Q D (lv_val (some (.int (1 : Int32))) (hv_W 55 a (hv_XE a cy) o.1 ++ hv_W 9 b (hv_TE b cy) o.2)) A) args s 1422 (12 * 1422) A) (hv_W 55 a (hv_XE a cy) (σ) ++ (hv_W 9 b (hv_TE b cy) (τ) ++ [])) 12 [(0, .ref (a 0)), (1, .ref (b 1)), (2, .int (x2)), (3, .int (x3))] []) : ∀ (κ : Nat) (σ τ : hv_St) (x2 : Int32) (x3 : Int32), κ + (0 + C12) ≤ 1422 → kQ_isBalance_157 n r2 r12 σ τ x2 x3 = some o → hv_J p l e (headSpec wsL_isBalance rmQ_isBalance).room s m args below meth c 7 D A κ (12 * κ) (MQ below (lv_Q D (lv_val (some (.int (1 : Int32))) (hv_W 55 a (hv_XE a cy) o.1 ++ hv_W 9 b (hv_TE b cy) o.2)) A) args s 1422 (12 * 1422) A) (hv_W 55 a (hv_XE a cy) (σ) ++ (hv_W 9 b (hv_TE b cy) (τ) ++ [])) 157 [(0, .ref (a 0)), (1, .ref (b 1)), (2, .int (x2)), (3, .int (x3))] [] := by
  intro κ σ τ x2 x3 hκ h
  unfold kQ_isBalance_157 at h
  refine r_iinc (pc := 157) C 3 (v := (x3) + 1) (lv' := [(3, .int ((x3) + 1)), (0, .ref (a 0)), (1, .ref (b 1)), (2, .int (x2))]) dL_isBalance_157 rfl rfl (Nat.le_of_ble_eq_true rfl) rfl ?_
  refine r_goto (pc := 160) C (tgt := 12) dL_isBalance_160 (by decide) ?_
  have K9 := hr12 κ (σ) (τ) (x2) ((x3) + 1) (by omega) h
  exact r_lv [1, 2, 3, 0] rfl K9
set_option maxHeartbeats 4000000 in
set_option maxRecDepth 20000 in
theorem bQ_isBalance_85 (hflag : l.stackTraces = false) (C : hv_C p s m args meth c cL_isBalance 7 wsL_isBalance RL D (hv_tys cy)) (hA : ∀ q, s.heap.size ≤ q → A q) (hT : hv_TA A s) (hr : meth.sig.returnType = (some .boolean)) {n : Nat} {o : hv_St × hv_St} {r2 : hv_St → hv_St → Int32 → Option (hv_St × hv_St)} {r12 : hv_St → hv_St → Int32 → Int32 → Option (hv_St × hv_St)} {r36 : hv_St → hv_St → Int32 → Int32 → (Int64 × Int64) → Int32 → Option (hv_St × hv_St)} {C2 : Nat} {C12 : Nat} {C36 : Nat} (hr2 : ∀ (κ : Nat) (σ τ : hv_St) (x2 : Int32), κ + C2 ≤ 1422 → r2 σ τ x2 = some o → hv_J p l e (headSpec wsL_isBalance rmQ_isBalance).room s m args below meth c 7 D A κ (12 * κ) (MQ below (lv_Q D (lv_val (some (.int (1 : Int32))) (hv_W 55 a (hv_XE a cy) o.1 ++ hv_W 9 b (hv_TE b cy) o.2)) A) args s 1422 (12 * 1422) A) (hv_W 55 a (hv_XE a cy) (σ) ++ (hv_W 9 b (hv_TE b cy) (τ) ++ [])) 2 [(0, .ref (a 0)), (1, .ref (b 1)), (2, .int (x2))] []) (hr12 : ∀ (κ : Nat) (σ τ : hv_St) (x2 : Int32) (x3 : Int32), κ + C12 ≤ 1422 → r12 σ τ x2 x3 = some o → hv_J p l e (headSpec wsL_isBalance rmQ_isBalance).room s m args below meth c 7 D A κ (12 * κ) (MQ below (lv_Q D (lv_val (some (.int (1 : Int32))) (hv_W 55 a (hv_XE a cy) o.1 ++ hv_W 9 b (hv_TE b cy) o.2)) A) args s 1422 (12 * 1422) A) (hv_W 55 a (hv_XE a cy) (σ) ++ (hv_W 9 b (hv_TE b cy) (τ) ++ [])) 12 [(0, .ref (a 0)), (1, .ref (b 1)), (2, .int (x2)), (3, .int (x3))] []) (hr36 : ∀ (κ : Nat) (σ τ : hv_St) (x2 : Int32) (x3 : Int32) (x4 : Int64 × Int64) (x5 : Int32) (q4 : Nat), κ + C36 ≤ 1422 → r36 σ τ x2 x3 x4 x5 = some o → hv_J p l e (headSpec wsL_isBalance rmQ_isBalance).room s m args below meth c 7 D A κ (12 * κ) (MQ below (lv_Q D (lv_val (some (.int (1 : Int32))) (hv_W 55 a (hv_XE a cy) o.1 ++ hv_W 9 b (hv_TE b cy) o.2)) A) args s 1422 (12 * 1422) A) (hv_W 55 a (hv_XE a cy) (σ) ++ (hv_W 9 b (hv_TE b cy) (τ) ++ [(q4, hv_row cy (x4).1 (x4).2)])) 36 [(0, .ref (a 0)), (1, .ref (b 1)), (2, .int (x2)), (3, .int (x3)), (4, .ref q4), (5, .int (x5))] []) : ∀ (κ : Nat) (σ τ : hv_St) (x2 : Int32) (x3 : Int32) (x4 : Int64 × Int64) (x5 : Int32) (q4 : Nat), κ + (0 + C36) ≤ 1422 → kQ_isBalance_85 n r2 r12 r36 σ τ x2 x3 x4 x5 = some o → hv_J p l e (headSpec wsL_isBalance rmQ_isBalance).room s m args below meth c 7 D A κ (12 * κ) (MQ below (lv_Q D (lv_val (some (.int (1 : Int32))) (hv_W 55 a (hv_XE a cy) o.1 ++ hv_W 9 b (hv_TE b cy) o.2)) A) args s 1422 (12 * 1422) A) (hv_W 55 a (hv_XE a cy) (σ) ++ (hv_W 9 b (hv_TE b cy) (τ) ++ [(q4, hv_row cy (x4).1 (x4).2)])) 85 [(0, .ref (a 0)), (1, .ref (b 1)), (2, .int (x2)), (3, .int (x3)), (4, .ref q4), (5, .int (x5))] [] := by
  intro κ σ τ x2 x3 x4 x5 q4 hκ h
  unfold kQ_isBalance_85 at h
  refine r_iinc (pc := 85) C 5 (v := (x5) + 1) (lv' := [(5, .int ((x5) + 1)), (0, .ref (a 0)), (1, .ref (b 1)), (2, .int (x2)), (3, .int (x3)), (4, .ref q4)]) dL_isBalance_85 rfl rfl (Nat.le_of_ble_eq_true rfl) rfl ?_
  refine r_goto (pc := 88) C (tgt := 36) dL_isBalance_88 (by decide) ?_
  have K9 := hr36 κ (σ) (τ) (x2) (x3) (x4) ((x5) + 1) q4 (by omega) h
  exact r_lv [1, 2, 3, 4, 5, 0] rfl K9
set_option maxHeartbeats 4000000 in
set_option maxRecDepth 20000 in
theorem bQ_isBalance_36 (hflag : l.stackTraces = false) (C : hv_C p s m args meth c cL_isBalance 7 wsL_isBalance RL D (hv_tys cy)) (hA : ∀ q, s.heap.size ≤ q → A q) (hT : hv_TA A s) (hr : meth.sig.returnType = (some .boolean)) {n : Nat} {o : hv_St × hv_St} {r2 : hv_St → hv_St → Int32 → Option (hv_St × hv_St)} {r12 : hv_St → hv_St → Int32 → Int32 → Option (hv_St × hv_St)} {C2 : Nat} {C12 : Nat} (hr2 : ∀ (κ : Nat) (σ τ : hv_St) (x2 : Int32), κ + C2 ≤ 1422 → r2 σ τ x2 = some o → hv_J p l e (headSpec wsL_isBalance rmQ_isBalance).room s m args below meth c 7 D A κ (12 * κ) (MQ below (lv_Q D (lv_val (some (.int (1 : Int32))) (hv_W 55 a (hv_XE a cy) o.1 ++ hv_W 9 b (hv_TE b cy) o.2)) A) args s 1422 (12 * 1422) A) (hv_W 55 a (hv_XE a cy) (σ) ++ (hv_W 9 b (hv_TE b cy) (τ) ++ [])) 2 [(0, .ref (a 0)), (1, .ref (b 1)), (2, .int (x2))] []) (hr12 : ∀ (κ : Nat) (σ τ : hv_St) (x2 : Int32) (x3 : Int32), κ + C12 ≤ 1422 → r12 σ τ x2 x3 = some o → hv_J p l e (headSpec wsL_isBalance rmQ_isBalance).room s m args below meth c 7 D A κ (12 * κ) (MQ below (lv_Q D (lv_val (some (.int (1 : Int32))) (hv_W 55 a (hv_XE a cy) o.1 ++ hv_W 9 b (hv_TE b cy) o.2)) A) args s 1422 (12 * 1422) A) (hv_W 55 a (hv_XE a cy) (σ) ++ (hv_W 9 b (hv_TE b cy) (τ) ++ [])) 12 [(0, .ref (a 0)), (1, .ref (b 1)), (2, .int (x2)), (3, .int (x3))] []) : ∀ (i κ : Nat) (σ τ : hv_St) (x2 : Int32) (x3 : Int32) (x4 : Int64 × Int64) (x5 : Int32) (q4 : Nat), κ + (i * 6 + (6 + C12)) ≤ 1422 → kQ_isBalance_36 n r2 r12 i σ τ x2 x3 x4 x5 = some o → hv_J p l e (headSpec wsL_isBalance rmQ_isBalance).room s m args below meth c 7 D A κ (12 * κ) (MQ below (lv_Q D (lv_val (some (.int (1 : Int32))) (hv_W 55 a (hv_XE a cy) o.1 ++ hv_W 9 b (hv_TE b cy) o.2)) A) args s 1422 (12 * 1422) A) (hv_W 55 a (hv_XE a cy) (σ) ++ (hv_W 9 b (hv_TE b cy) (τ) ++ [(q4, hv_row cy (x4).1 (x4).2)])) 36 [(0, .ref (a 0)), (1, .ref (b 1)), (2, .int (x2)), (3, .int (x3)), (4, .ref q4), (5, .int (x5))] [] := by
  intro i
  induction i with
  | zero =>
    intro κ σ τ x2 x3 x4 x5 q4 hκ h
    cases h
  | succ i ih =>
    intro κ σ τ x2 x3 x4 x5 q4 hκ h
    generalize hg : kQ_isBalance_36 n r2 r12 i = r36 at ih
    have hr36 := ih
    rw [Nat.succ_mul] at hκ
    generalize eC9 : i * 6 + (6 + C12) = C9 at hr36
    replace h : kQ_isBalance_36_b n r2 r12 r36 σ τ x2 x3 x4 x5 = some o := by rw [← hg]; exact h
    unfold kQ_isBalance_36_b at h
    refine r_iload (pc := 36) C 5 dL_isBalance_36 rfl ?_
    refine r_aload_n (pc := 38) C 1 dL_isBalance_38 rfl rfl ?_
    refine rt_get_8 (pc := 39) C iL_isBalance_X9 (List.mem_of_getElem? (i := 19) rfl) dL_isBalance_39 ?_
    refine r_icmp_ge (pc := 42) (tgt := 91) C dL_isBalance_42 (by decide) (fun c42 => ?_) (fun c42 => ?_)
    · rw [if_pos c42] at h
      refine r_aload_n (pc := 91) C 1 dL_isBalance_91 rfl rfl ?_
      refine rt_get_2 (pc := 92) C iL_isBalance_X9 (List.mem_of_getElem? (i := 13) rfl) dL_isBalance_92 ?_
      refine r_iload_n (pc := 95) C 2 dL_isBalance_95 rfl rfl ?_
      obtain ⟨k96, h⟩ := hv_if_some h
      refine rt_ld_4 (pc := 96) C k96 dL_isBalance_96 ?_
      refine r_iload_n (pc := 97) C 3 dL_isBalance_97 rfl rfl ?_
      obtain ⟨r98, s98, hc98, h⟩ := hv_b2_some h
      refine r_callP (pc := 98) (v := some (.int (r98))) (As := [.int ((τ).1 4 (x2).toNatClampNeg), .int (x3)]) (rest := []) C hA (vL_isOn (a := fun _ => 0) hc98) (va_cwS 2 C.1.2.2.2.2 gL_isBalance_L_isOn rfl rfl rfl (by decide +kernel) ⟨(Nat.le_of_ble_eq_true rfl), (Nat.le_of_ble_eq_true rfl)⟩) rfl rfl (Nat.le_of_ble_eq_true rfl) dL_isBalance_98 (lv_cl0 (MC := 1422) (need := 0) (by omega)) ?_
      refine r_st (st' := [.int (r98)]) rfl ?_
      refine r_istore (pc := 101) C (lv' := [(5, .int (r98)), (0, .ref (a 0)), (1, .ref (b 1)), (2, .int (x2)), (3, .int (x3)), (4, .ref q4)]) rfl dL_isBalance_101 (Nat.le_of_ble_eq_true rfl) rfl ?_
      refine r_aload_n (pc := 103) C 1 dL_isBalance_103 rfl rfl ?_
      refine r_iload_n (pc := 104) C 3 dL_isBalance_104 rfl rfl ?_
      refine r_iload_n (pc := 105) C 4 dL_isBalance_105 rfl rfl ?_
      obtain ⟨r106, s106, hc106, h⟩ := hv_b2_some h
      refine r_callMW (pc := 106) (wc := hv_W 55 a (hv_XE a cy) (σ)) (As := [.ref (a 0), .int (x2), .int (x3)]) (rest := []) C hA hT (vQ_force hflag hc106) (vx_cwSW 3 C.1.2.2.2.2 gL_isBalance_L_force rfl rfl rfl (by decide +kernel) ⟨(Nat.le_of_ble_eq_true rfl), (Nat.le_of_ble_eq_true rfl)⟩) rfl rfl (Nat.le_of_ble_eq_true rfl) dL_isBalance_106 (lv_cl (MC := 1422) (need := 5) (by omega) (Nat.le_refl _)) (fun v w hR => ?_)
      refine r_tw ?_
      rcases hv_ox_some h with ⟨e106, h9⟩ | ⟨x106, e106, h9⟩
      · clear h
        subst e106
        have h := h9
        obtain ⟨rfl, rfl⟩ := hR
        refine r_st (st' := [.null]) rfl ?_
        refine r_astoreN (pc := 109) C (lv' := [(6, .null), (5, .int (r98)), (0, .ref (a 0)), (1, .ref (b 1)), (2, .int (x2)), (3, .int (x3)), (4, .ref q4)]) dL_isBalance_109 (Nat.le_of_ble_eq_true rfl) rfl ?_
        refine r_iload (pc := 111) C 1 dL_isBalance_111 rfl ?_
        refine r_if_eq (pc := 113) (tgt := 141) C dL_isBalance_113 (by decide) (fun c113 => ?_) (fun c113 => ?_)
        · rw [if_pos c113] at h
          refine r_aload (pc := 141) C 6 dL_isBalance_141 rfl ?_
          refine r_iconst (pc := 143) C (v := (0 : Int32)) dL_isBalance_143 (by decide) ?_
          refine r_row0 (pc := 144) C (u := (x4).1) (v := (x4).2) (lv_mem 0 rfl) dL_isBalance_144 ?_
          refine r_lconst (pc := 145) C (v := (0 : Int64)) dL_isBalance_145 (by decide) ?_
          refine r_lcmp (pc := 146) C dL_isBalance_146 ?_
          refine r_if_ne (pc := 147) (tgt := 155) C dL_isBalance_147 (by decide) (fun c147 => ?_) (fun c147 => ?_)
          · rw [if_neg c147] at h
            cases h
          · rw [if_pos c147] at h
            refine r_aloadN (pc := 150) C 0 dL_isBalance_150 rfl ?_
            refine r_ifnullN (pc := 152) C (tgt := 157) dL_isBalance_152 (by decide) ?_
            refine r_sub (ws' := hv_W 55 a (hv_XE a cy) (s106) ++ (hv_W 9 b (hv_TE b cy) (τ) ++ [])) (lv_keep2 (.cons _ .slnil)) ?_
            have K9 := bQ_isBalance_157 (e := e) (below := below) (a := a) (b := b) (n := n) hflag C hA hT hr hr2 hr12 (κ + 5) (s106) (τ) (x2) (x3) (by omega) h
            exact r_lv [2, 3, 4, 5] rfl K9
        · rw [if_neg c113] at h
          refine r_aloadN (pc := 116) C 0 dL_isBalance_116 rfl ?_
          cases h
      · clear h
        subst e106
        have h := h9
        obtain ⟨q106, rfl, rfl⟩ := hR
        refine r_perm lv_rot ?_
        refine r_st (st' := [.ref q106]) rfl ?_
        refine r_sub (ws' := hv_W 55 a (hv_XE a cy) (s106) ++ (hv_W 9 b (hv_TE b cy) (τ) ++ [(q4, hv_row cy (x4).1 (x4).2), (q106, hv_row cy (x106).1 (x106).2)])) (lv_keep2 (.cons_cons _ (.cons_cons _ .slnil))) ?_
        refine r_astore (pc := 109) C (lv' := [(6, .ref q106), (5, .int (r98)), (0, .ref (a 0)), (1, .ref (b 1)), (2, .int (x2)), (3, .int (x3)), (4, .ref q4)]) rfl dL_isBalance_109 (Nat.le_of_ble_eq_true rfl) rfl ?_
        refine r_iload (pc := 111) C 1 dL_isBalance_111 rfl ?_
        refine r_if_eq (pc := 113) (tgt := 141) C dL_isBalance_113 (by decide) (fun c113 => ?_) (fun c113 => ?_)
        · rw [if_pos c113] at h
          refine r_aload (pc := 141) C 6 dL_isBalance_141 rfl ?_
          refine r_iconst (pc := 143) C (v := (0 : Int32)) dL_isBalance_143 (by decide) ?_
          refine r_row0 (pc := 144) C (u := (x4).1) (v := (x4).2) (lv_mem 0 rfl) dL_isBalance_144 ?_
          refine r_lconst (pc := 145) C (v := (0 : Int64)) dL_isBalance_145 (by decide) ?_
          refine r_lcmp (pc := 146) C dL_isBalance_146 ?_
          refine r_if_ne (pc := 147) (tgt := 155) C dL_isBalance_147 (by decide) (fun c147 => ?_) (fun c147 => ?_)
          · rw [if_neg c147] at h
            cases h
          · rw [if_pos c147] at h
            refine r_aload (pc := 150) C 0 dL_isBalance_150 rfl ?_
            refine r_ifnull (pc := 152) C dL_isBalance_152 ?_
            cases h
        · rw [if_neg c113] at h
          refine r_aload (pc := 116) C 0 dL_isBalance_116 rfl ?_
          obtain ⟨r118, hc118, h⟩ := hv_bd_some h
          refine r_callO (pc := 118) (ps := [(q106, hv_row cy (x106).1 (x106).2)]) (As := [.ref q106]) (rest := []) C hA (List.forall_mem_cons.mpr ⟨lv_mem 1 rfl, List.forall_mem_nil _⟩) (vQ_isLeast hc118) (va_cwS 1 C.1.2.2.2.2 gL_isBalance_L_isLeast rfl rfl rfl (by decide +kernel) ⟨(Nat.le_of_ble_eq_true rfl), (Nat.le_of_ble_eq_true rfl)⟩) rfl rfl (Nat.le_of_ble_eq_true rfl) dL_isBalance_118 (lv_cl (MC := 1422) (need := 0) (by omega) (Nat.le_refl _)) (fun v w hR => ?_)
          refine r_tw ?_
          obtain ⟨rfl, rfl⟩ := hR
          refine r_st (st' := [.int (r118)]) rfl ?_
          refine r_sub (ws' := hv_W 55 a (hv_XE a cy) (s106) ++ (hv_W 9 b (hv_TE b cy) (τ) ++ [(q4, hv_row cy (x4).1 (x4).2), (q106, hv_row cy (x106).1 (x106).2)])) (lv_keep (.cons_cons _ (.cons_cons _ .slnil))) ?_
          refine r_if_eq (pc := 121) (tgt := 155) C dL_isBalance_121 (by decide) (fun c121 => ?_) (fun c121 => ?_)
          · rw [if_pos c121] at h
            cases h
          · rw [if_neg c121] at h
            refine r_aload (pc := 124) C 6 dL_isBalance_124 rfl ?_
            refine r_aload (pc := 126) C 0 dL_isBalance_126 rfl ?_
            obtain ⟨r128, hc128, h⟩ := hv_bd_some h
            refine r_callO (pc := 128) (ps := [(q4, hv_row cy (x4).1 (x4).2), (q106, hv_row cy (x106).1 (x106).2)]) (As := [.ref q4, .ref q106]) (rest := []) C hA (List.forall_mem_cons.mpr ⟨lv_mem 0 rfl, (List.forall_mem_cons.mpr ⟨lv_mem 1 rfl, List.forall_mem_nil _⟩)⟩) (vQ_plus hc128) (va_cwS 2 C.1.2.2.2.2 gL_isBalance_L_plus rfl rfl rfl (by decide +kernel) ⟨(Nat.le_of_ble_eq_true rfl), (Nat.le_of_ble_eq_true rfl)⟩) rfl rfl (Nat.le_of_ble_eq_true rfl) dL_isBalance_128 (lv_cl (MC := 1422) (need := 1) (by omega) (Nat.le_refl _)) (fun v w hR => ?_)
            refine r_tw ?_
            obtain ⟨q128, rfl, rfl⟩ := hR
            refine r_st (st' := [.ref q128]) rfl ?_
            refine r_sub (ws' := hv_W 55 a (hv_XE a cy) (s106) ++ (hv_W 9 b (hv_TE b cy) (τ) ++ [(q128, hv_row cy (r128).1 (r128).2)])) (lv_keep (.cons _ (.cons _ (.cons_cons _ .slnil)))) ?_
            refine r_iconst (pc := 131) C (v := (0 : Int32)) dL_isBalance_131 (by decide) ?_
            refine r_row0 (pc := 132) C (u := (r128).1) (v := (r128).2) (lv_mem 0 rfl) dL_isBalance_132 ?_
            refine r_lconst (pc := 133) C (v := (0 : Int64)) dL_isBalance_133 (by decide) ?_
            refine r_lcmp (pc := 134) C dL_isBalance_134 ?_
            refine r_if_eq (pc := 135) (tgt := 157) C dL_isBalance_135 (by decide) (fun c135 => ?_) (fun c135 => ?_)
            · rw [if_pos c135] at h
              refine r_sub (ws' := hv_W 55 a (hv_XE a cy) (s106) ++ (hv_W 9 b (hv_TE b cy) (τ) ++ [])) (lv_keep2 (.cons _ .slnil)) ?_
              have K9 := bQ_isBalance_157 (e := e) (below := below) (a := a) (b := b) (n := n) hflag C hA hT hr hr2 hr12 (((κ + 5) + 0) + 1) (s106) (τ) (x2) (x3) (by omega) h
              exact r_lv [2, 3, 4, 5] rfl K9
            · rw [if_neg c135] at h
              refine r_goto (pc := 138) C (tgt := 155) dL_isBalance_138 (by decide) ?_
              cases h
    · rw [if_neg c42] at h
      refine r_aload_n (pc := 45) C 1 dL_isBalance_45 rfl rfl ?_
      refine rt_get_9 (pc := 46) C iL_isBalance_X9 (List.mem_of_getElem? (i := 20) rfl) dL_isBalance_46 ?_
      refine r_iload (pc := 49) C 5 dL_isBalance_49 rfl ?_
      obtain ⟨r51, s51, hc51, h⟩ := hv_b2_some h
      refine r_callP (pc := 51) (v := some (.int (r51))) (As := [.int ((τ).1 1 9), .int (x5)]) (rest := []) C hA (vL_isOn (a := fun _ => 0) hc51) (va_cwS 2 C.1.2.2.2.2 gL_isBalance_L_isOn rfl rfl rfl (by decide +kernel) ⟨(Nat.le_of_ble_eq_true rfl), (Nat.le_of_ble_eq_true rfl)⟩) rfl rfl (Nat.le_of_ble_eq_true rfl) dL_isBalance_51 (lv_cl0 (MC := 1422) (need := 0) (by omega)) ?_
      refine r_st (st' := [.int (r51)]) rfl ?_
      refine r_if_eq (pc := 54) (tgt := 85) C dL_isBalance_54 (by decide) (fun c54 => ?_) (fun c54 => ?_)
      · rw [if_pos c54] at h
        have K9 := bQ_isBalance_85 (e := e) (below := below) (a := a) (b := b) (n := n) hflag C hA hT hr hr2 hr12 hr36 κ (σ) (τ) (x2) (x3) (x4) (x5) q4 (by omega) h
        exact r_lv [0, 1, 2, 3, 4, 5] rfl K9
      · rw [if_neg c54] at h
        refine r_aload (pc := 57) C 4 dL_isBalance_57 rfl ?_
        refine r_aload_n (pc := 59) C 0 dL_isBalance_59 rfl rfl ?_
        refine r_iload (pc := 60) C 5 dL_isBalance_60 rfl ?_
        obtain ⟨r62, s62, hc62, h⟩ := hv_b2_some h
        refine r_callMW (pc := 62) (wc := hv_W 55 a (hv_XE a cy) (σ)) (As := [.ref (a 0), .int (x5)]) (rest := [.ref q4]) C hA hT (vQ_pull hflag hc62) (vx_cwSW 2 C.1.2.2.2.2 gL_isBalance_L_pull rfl rfl rfl (by decide +kernel) ⟨(Nat.le_of_ble_eq_true rfl), (Nat.le_of_ble_eq_true rfl)⟩) rfl rfl (Nat.le_of_ble_eq_true rfl) dL_isBalance_62 (lv_cl (MC := 1422) (need := 3) (by omega) (Nat.le_refl _)) (fun v w hR => ?_)
        refine r_tw ?_
        rcases hv_ox_some h with ⟨e62, h9⟩ | ⟨x62, e62, h9⟩
        · clear h
          subst e62
          have h := h9
          obtain ⟨rfl, rfl⟩ := hR
          refine r_st (st' := [.null, .ref q4]) rfl ?_
          refine r_aload_n (pc := 65) C 1 dL_isBalance_65 rfl rfl ?_
          refine r_iload (pc := 66) C 5 dL_isBalance_66 rfl ?_
          refine r_iload_n (pc := 68) C 2 dL_isBalance_68 rfl rfl ?_
          refine r_iload_n (pc := 69) C 3 dL_isBalance_69 rfl rfl ?_
          obtain ⟨r70, s70, hc70, h⟩ := hv_b2_some h
          refine r_callB (pc := 70) (τ := s70) (v := some (.int (r70))) (As := [.ref (b 1), .int (x5), .int (x2), .int (x3)]) (rest := [.null, .ref q4]) C hA (vL_brings hc70) (va_cwS 4 C.1.2.2.2.2 gL_isBalance_L_brings rfl rfl rfl (by decide +kernel) ⟨(Nat.le_of_ble_eq_true rfl), (Nat.le_of_ble_eq_true rfl)⟩) rfl rfl (Nat.le_of_ble_eq_true rfl) dL_isBalance_70 (lv_cl0 (MC := 1422) (need := 0) (by omega)) ?_
          refine r_st (st' := [.int (r70), .null, .ref q4]) rfl ?_
          refine r_i2l (pc := 73) C dL_isBalance_73 ?_
          refine r_callO (pc := 74) (ps := []) (As := [.long ((r70).toInt64)]) (rest := [.null, .ref q4]) C hA (List.forall_mem_nil _) (vQ_whole (n := n) rfl) (va_cwS 1 C.1.2.2.2.2 gL_isBalance_L_whole rfl rfl rfl (by decide +kernel) ⟨(Nat.le_of_ble_eq_true rfl), (Nat.le_of_ble_eq_true rfl)⟩) rfl rfl (Nat.le_of_ble_eq_true rfl) dL_isBalance_74 (lv_cl (MC := 1422) (need := 1) (by omega) (Nat.le_refl _)) (fun v w hR => ?_)
          refine r_tw ?_
          obtain ⟨q74, rfl, rfl⟩ := hR
          refine r_st (st' := [.ref q74, .null, .ref q4]) rfl ?_
          refine r_sub (ws' := hv_W 55 a (hv_XE a cy) (s62) ++ (hv_W 9 b (hv_TE b cy) (s70) ++ [(q4, hv_row cy (x4).1 (x4).2), (q74, hv_row cy (((r70).toInt64, (1 : Int64))).1 (((r70).toInt64, (1 : Int64))).2)])) (lv_keep (.cons_cons _ (.cons_cons _ .slnil))) ?_
          cases h
        · clear h
          subst e62
          have h := h9
          obtain ⟨q62, rfl, rfl⟩ := hR
          refine r_perm lv_rot ?_
          refine r_st (st' := [.ref q62, .ref q4]) rfl ?_
          refine r_sub (ws' := hv_W 55 a (hv_XE a cy) (s62) ++ (hv_W 9 b (hv_TE b cy) (τ) ++ [(q4, hv_row cy (x4).1 (x4).2), (q62, hv_row cy (x62).1 (x62).2)])) (lv_keep2 (.cons_cons _ (.cons_cons _ .slnil))) ?_
          refine r_aload_n (pc := 65) C 1 dL_isBalance_65 rfl rfl ?_
          refine r_iload (pc := 66) C 5 dL_isBalance_66 rfl ?_
          refine r_iload_n (pc := 68) C 2 dL_isBalance_68 rfl rfl ?_
          refine r_iload_n (pc := 69) C 3 dL_isBalance_69 rfl rfl ?_
          obtain ⟨r70, s70, hc70, h⟩ := hv_b2_some h
          refine r_callB (pc := 70) (τ := s70) (v := some (.int (r70))) (As := [.ref (b 1), .int (x5), .int (x2), .int (x3)]) (rest := [.ref q62, .ref q4]) C hA (vL_brings hc70) (va_cwS 4 C.1.2.2.2.2 gL_isBalance_L_brings rfl rfl rfl (by decide +kernel) ⟨(Nat.le_of_ble_eq_true rfl), (Nat.le_of_ble_eq_true rfl)⟩) rfl rfl (Nat.le_of_ble_eq_true rfl) dL_isBalance_70 (lv_cl0 (MC := 1422) (need := 0) (by omega)) ?_
          refine r_st (st' := [.int (r70), .ref q62, .ref q4]) rfl ?_
          refine r_i2l (pc := 73) C dL_isBalance_73 ?_
          refine r_callO (pc := 74) (ps := []) (As := [.long ((r70).toInt64)]) (rest := [.ref q62, .ref q4]) C hA (List.forall_mem_nil _) (vQ_whole (n := n) rfl) (va_cwS 1 C.1.2.2.2.2 gL_isBalance_L_whole rfl rfl rfl (by decide +kernel) ⟨(Nat.le_of_ble_eq_true rfl), (Nat.le_of_ble_eq_true rfl)⟩) rfl rfl (Nat.le_of_ble_eq_true rfl) dL_isBalance_74 (lv_cl (MC := 1422) (need := 1) (by omega) (Nat.le_refl _)) (fun v w hR => ?_)
          refine r_tw ?_
          obtain ⟨q74, rfl, rfl⟩ := hR
          refine r_st (st' := [.ref q74, .ref q62, .ref q4]) rfl ?_
          refine r_sub (ws' := hv_W 55 a (hv_XE a cy) (s62) ++ (hv_W 9 b (hv_TE b cy) (s70) ++ [(q4, hv_row cy (x4).1 (x4).2), (q62, hv_row cy (x62).1 (x62).2), (q74, hv_row cy (((r70).toInt64, (1 : Int64))).1 (((r70).toInt64, (1 : Int64))).2)])) (lv_keep (.cons_cons _ (.cons_cons _ (.cons_cons _ .slnil)))) ?_
          obtain ⟨r77, hc77, h⟩ := hv_bd_some h
          refine r_callO (pc := 77) (ps := [(q62, hv_row cy (x62).1 (x62).2), (q74, hv_row cy (((r70).toInt64, (1 : Int64))).1 (((r70).toInt64, (1 : Int64))).2)]) (As := [.ref q62, .ref q74]) (rest := [.ref q4]) C hA (List.forall_mem_cons.mpr ⟨lv_mem 1 rfl, (List.forall_mem_cons.mpr ⟨lv_mem 2 rfl, List.forall_mem_nil _⟩)⟩) (vQ_times hc77) (va_cwS 2 C.1.2.2.2.2 gL_isBalance_L_times rfl rfl rfl (by decide +kernel) ⟨(Nat.le_of_ble_eq_true rfl), (Nat.le_of_ble_eq_true rfl)⟩) rfl rfl (Nat.le_of_ble_eq_true rfl) dL_isBalance_77 (lv_cl (MC := 1422) (need := 1) (by omega) (Nat.le_refl _)) (fun v w hR => ?_)
          refine r_tw ?_
          obtain ⟨q77, rfl, rfl⟩ := hR
          refine r_st (st' := [.ref q77, .ref q4]) rfl ?_
          refine r_sub (ws' := hv_W 55 a (hv_XE a cy) (s62) ++ (hv_W 9 b (hv_TE b cy) (s70) ++ [(q4, hv_row cy (x4).1 (x4).2), (q77, hv_row cy (r77).1 (r77).2)])) (lv_keep (.cons_cons _ (.cons _ (.cons _ (.cons_cons _ .slnil))))) ?_
          obtain ⟨r80, hc80, h⟩ := hv_bd_some h
          refine r_callO (pc := 80) (ps := [(q4, hv_row cy (x4).1 (x4).2), (q77, hv_row cy (r77).1 (r77).2)]) (As := [.ref q4, .ref q77]) (rest := []) C hA (List.forall_mem_cons.mpr ⟨lv_mem 0 rfl, (List.forall_mem_cons.mpr ⟨lv_mem 1 rfl, List.forall_mem_nil _⟩)⟩) (vQ_plus hc80) (va_cwS 2 C.1.2.2.2.2 gL_isBalance_L_plus rfl rfl rfl (by decide +kernel) ⟨(Nat.le_of_ble_eq_true rfl), (Nat.le_of_ble_eq_true rfl)⟩) rfl rfl (Nat.le_of_ble_eq_true rfl) dL_isBalance_80 (lv_cl (MC := 1422) (need := 1) (by omega) (Nat.le_refl _)) (fun v w hR => ?_)
          refine r_tw ?_
          obtain ⟨q80, rfl, rfl⟩ := hR
          refine r_st (st' := [.ref q80]) rfl ?_
          refine r_sub (ws' := hv_W 55 a (hv_XE a cy) (s62) ++ (hv_W 9 b (hv_TE b cy) (s70) ++ [(q80, hv_row cy (r80).1 (r80).2)])) (lv_keep (.cons _ (.cons _ (.cons_cons _ .slnil)))) ?_
          refine r_astore (pc := 83) C (lv' := [(4, .ref q80), (0, .ref (a 0)), (1, .ref (b 1)), (2, .int (x2)), (3, .int (x3)), (5, .int (x5))]) rfl dL_isBalance_83 (Nat.le_of_ble_eq_true rfl) rfl ?_
          have K9 := bQ_isBalance_85 (e := e) (below := below) (a := a) (b := b) (n := n) hflag C hA hT hr hr2 hr12 hr36 ((((κ + 3) + 1) + 1) + 1) (s62) (s70) (x2) (x3) (r80) (x5) q80 (by omega) h
          exact r_lv [1, 2, 3, 4, 0, 5] rfl K9
set_option maxHeartbeats 4000000 in
set_option maxRecDepth 20000 in
theorem bQ_isBalance_12 (hflag : l.stackTraces = false) (C : hv_C p s m args meth c cL_isBalance 7 wsL_isBalance RL D (hv_tys cy)) (hA : ∀ q, s.heap.size ≤ q → A q) (hT : hv_TA A s) (hr : meth.sig.returnType = (some .boolean)) {n : Nat} {o : hv_St × hv_St} {r2 : hv_St → hv_St → Int32 → Option (hv_St × hv_St)} {C2 : Nat} (hr2 : ∀ (κ : Nat) (σ τ : hv_St) (x2 : Int32), κ + C2 ≤ 1422 → r2 σ τ x2 = some o → hv_J p l e (headSpec wsL_isBalance rmQ_isBalance).room s m args below meth c 7 D A κ (12 * κ) (MQ below (lv_Q D (lv_val (some (.int (1 : Int32))) (hv_W 55 a (hv_XE a cy) o.1 ++ hv_W 9 b (hv_TE b cy) o.2)) A) args s 1422 (12 * 1422) A) (hv_W 55 a (hv_XE a cy) (σ) ++ (hv_W 9 b (hv_TE b cy) (τ) ++ [])) 2 [(0, .ref (a 0)), (1, .ref (b 1)), (2, .int (x2))] []) : ∀ (i κ : Nat) (σ τ : hv_St) (x2 : Int32) (x3 : Int32), κ + (i * 79 + (0 + C2)) ≤ 1422 → kQ_isBalance_12 n r2 i σ τ x2 x3 = some o → hv_J p l e (headSpec wsL_isBalance rmQ_isBalance).room s m args below meth c 7 D A κ (12 * κ) (MQ below (lv_Q D (lv_val (some (.int (1 : Int32))) (hv_W 55 a (hv_XE a cy) o.1 ++ hv_W 9 b (hv_TE b cy) o.2)) A) args s 1422 (12 * 1422) A) (hv_W 55 a (hv_XE a cy) (σ) ++ (hv_W 9 b (hv_TE b cy) (τ) ++ [])) 12 [(0, .ref (a 0)), (1, .ref (b 1)), (2, .int (x2)), (3, .int (x3))] [] := by
  intro i
  induction i with
  | zero =>
    intro κ σ τ x2 x3 hκ h
    cases h
  | succ i ih =>
    intro κ σ τ x2 x3 hκ h
    generalize hg : kQ_isBalance_12 n r2 i = r12 at ih
    have hr12 := ih
    rw [Nat.succ_mul] at hκ
    generalize eC9 : i * 79 + (0 + C2) = C9 at hr12
    replace h : kQ_isBalance_12_b n r2 r12 σ τ x2 x3 = some o := by rw [← hg]; exact h
    unfold kQ_isBalance_12_b at h
    refine r_iload_n (pc := 12) C 3 dL_isBalance_12 rfl rfl ?_
    refine r_iconst (pc := 13) C (v := (2 : Int32)) dL_isBalance_13 (by decide) ?_
    refine r_icmp_ge (pc := 14) (tgt := 163) C dL_isBalance_14 (by decide) (fun c14 => ?_) (fun c14 => ?_)
    · rw [if_pos c14] at h
      refine r_iinc (pc := 163) C 2 (v := (x2) + 1) (lv' := [(2, .int ((x2) + 1)), (0, .ref (a 0)), (1, .ref (b 1)), (3, .int (x3))]) dL_isBalance_163 rfl rfl (Nat.le_of_ble_eq_true rfl) rfl ?_
      refine r_goto (pc := 166) C (tgt := 2) dL_isBalance_166 (by decide) ?_
      have K9 := hr2 κ (σ) (τ) ((x2) + 1) (by omega) h
      exact r_lv [1, 2, 0] rfl K9
    · rw [if_neg c14] at h
      refine r_aload_n (pc := 17) C 1 dL_isBalance_17 rfl rfl ?_
      refine rt_get_3 (pc := 18) C iL_isBalance_X9 (List.mem_of_getElem? (i := 14) rfl) dL_isBalance_18 ?_
      refine r_iconst (pc := 21) C (v := (2 : Int32)) dL_isBalance_21 (by decide) ?_
      refine r_iload_n (pc := 22) C 2 dL_isBalance_22 rfl rfl ?_
      refine r_imul (pc := 23) C dL_isBalance_23 ?_
      refine r_iload_n (pc := 24) C 3 dL_isBalance_24 rfl rfl ?_
      refine r_iadd (pc := 25) C dL_isBalance_25 ?_
      obtain ⟨k26, h⟩ := hv_if_some h
      refine rt_ld_5 (pc := 26) C k26 dL_isBalance_26 ?_
      refine r_i2l (pc := 27) C dL_isBalance_27 ?_
      refine r_callO (pc := 28) (ps := []) (As := [.long (((τ).1 5 ((((2 : Int32)) * (x2)) + (x3)).toNatClampNeg).toInt64)]) (rest := []) C hA (List.forall_mem_nil _) (vQ_whole (n := n) rfl) (va_cwS 1 C.1.2.2.2.2 gL_isBalance_L_whole rfl rfl rfl (by decide +kernel) ⟨(Nat.le_of_ble_eq_true rfl), (Nat.le_of_ble_eq_true rfl)⟩) rfl rfl (Nat.le_of_ble_eq_true rfl) dL_isBalance_28 (lv_cl (MC := 1422) (need := 1) (by omega) (Nat.le_refl _)) (fun v w hR => ?_)
      refine r_tw ?_
      obtain ⟨q28, rfl, rfl⟩ := hR
      refine r_st (st' := [.ref q28]) rfl ?_
      refine r_sub (ws' := hv_W 55 a (hv_XE a cy) (σ) ++ (hv_W 9 b (hv_TE b cy) (τ) ++ [(q28, hv_row cy ((((τ).1 5 ((((2 : Int32)) * (x2)) + (x3)).toNatClampNeg).toInt64, (1 : Int64))).1 ((((τ).1 5 ((((2 : Int32)) * (x2)) + (x3)).toNatClampNeg).toInt64, (1 : Int64))).2)])) (lv_keep (.cons_cons _ .slnil)) ?_
      refine r_astore (pc := 31) C (lv' := [(4, .ref q28), (0, .ref (a 0)), (1, .ref (b 1)), (2, .int (x2)), (3, .int (x3))]) rfl dL_isBalance_31 (Nat.le_of_ble_eq_true rfl) rfl ?_
      refine r_iconst (pc := 33) C (v := (0 : Int32)) dL_isBalance_33 (by decide) ?_
      refine r_istore (pc := 34) C (lv' := [(5, .int ((0 : Int32))), (4, .ref q28), (0, .ref (a 0)), (1, .ref (b 1)), (2, .int (x2)), (3, .int (x3))]) rfl dL_isBalance_34 (Nat.le_of_ble_eq_true rfl) rfl ?_
      have K9 := bQ_isBalance_36 (e := e) (below := below) (a := a) (b := b) (n := n) hflag C hA hT hr hr2 hr12 12 (κ + 1) (σ) (τ) (x2) (x3) ((((τ).1 5 ((((2 : Int32)) * (x2)) + (x3)).toNatClampNeg).toInt64, (1 : Int64))) ((0 : Int32)) q28 (by omega) h
      exact r_lv [2, 3, 4, 5, 1, 0] rfl K9
set_option maxHeartbeats 4000000 in
set_option maxRecDepth 20000 in
theorem bQ_isBalance_2 (hflag : l.stackTraces = false) (C : hv_C p s m args meth c cL_isBalance 7 wsL_isBalance RL D (hv_tys cy)) (hA : ∀ q, s.heap.size ≤ q → A q) (hT : hv_TA A s) (hr : meth.sig.returnType = (some .boolean)) {n : Nat} {o : hv_St × hv_St} : ∀ (i κ : Nat) (σ τ : hv_St) (x2 : Int32), κ + (i * 237) ≤ 1422 → kQ_isBalance_2 n i σ τ x2 = some o → hv_J p l e (headSpec wsL_isBalance rmQ_isBalance).room s m args below meth c 7 D A κ (12 * κ) (MQ below (lv_Q D (lv_val (some (.int (1 : Int32))) (hv_W 55 a (hv_XE a cy) o.1 ++ hv_W 9 b (hv_TE b cy) o.2)) A) args s 1422 (12 * 1422) A) (hv_W 55 a (hv_XE a cy) (σ) ++ (hv_W 9 b (hv_TE b cy) (τ) ++ [])) 2 [(0, .ref (a 0)), (1, .ref (b 1)), (2, .int (x2))] [] := by
  intro i
  induction i with
  | zero =>
    intro κ σ τ x2 hκ h
    cases h
  | succ i ih =>
    intro κ σ τ x2 hκ h
    generalize hg : kQ_isBalance_2 n i = r2 at ih
    have hr2 := ih
    rw [Nat.succ_mul] at hκ
    generalize eC9 : i * 237 = C9 at hr2
    replace h : kQ_isBalance_2_b n r2 σ τ x2 = some o := by rw [← hg]; exact h
    unfold kQ_isBalance_2_b at h
    refine r_iload_n (pc := 2) C 2 dL_isBalance_2 rfl rfl ?_
    refine r_aload_n (pc := 3) C 1 dL_isBalance_3 rfl rfl ?_
    refine rt_get_7 (pc := 4) C iL_isBalance_X9 (List.mem_of_getElem? (i := 18) rfl) dL_isBalance_4 ?_
    refine r_icmp_ge (pc := 7) (tgt := 169) C dL_isBalance_7 (by decide) (fun c7 => ?_) (fun c7 => ?_)
    · rw [if_pos c7] at h
      refine r_iconst (pc := 169) C (v := (1 : Int32)) dL_isBalance_169 (by decide) ?_
      cases h
      exact r_zret (pc := 170) C lv_drop ⟨rfl, rfl⟩ hr (by decide) dL_isBalance_170 (by omega) (by omega)
    · rw [if_neg c7] at h
      refine r_iconst (pc := 10) C (v := (0 : Int32)) dL_isBalance_10 (by decide) ?_
      refine r_istore_n (pc := 11) C (lv' := [(3, .int ((0 : Int32))), (0, .ref (a 0)), (1, .ref (b 1)), (2, .int (x2))]) rfl dL_isBalance_11 rfl (Nat.le_of_ble_eq_true rfl) rfl ?_
      have K9 := bQ_isBalance_12 (e := e) (below := below) (a := a) (b := b) (n := n) hflag C hA hT hr hr2 3 κ (σ) (τ) (x2) ((0 : Int32)) (by omega) h
      exact r_lv [1, 2, 3, 0] rfl K9
set_option maxHeartbeats 4000000 in
set_option maxRecDepth 20000 in
theorem vQ_isBalance (hflag : l.stackTraces = false) {n : Nat} {σ τ : hv_St} {o : hv_St × hv_St} (h : mQ_isBalance n σ τ = some o) : lv_M l yL_isBalance wsL_isBalance rmQ_isBalance D cy 1422 (12 * 1422) [.ref (a 0), .ref (b 1)] (hv_W 55 a (hv_XE a cy) σ ++ hv_W 9 b (hv_TE b cy) τ) (lv_val (some (.int (1 : Int32))) (hv_W 55 a (hv_XE a cy) o.1 ++ hv_W 9 b (hv_TE b cy) o.2)) := by
  refine lv_enter (own := RL) (cc := cL_isBalance) (maxL := 7) (ret := (some .boolean)) (by decide) rfl rfl (Nat.le_of_ble_eq_true rfl) ?_
  intro p e s m args below meth c A C hA hT hr
  refine r_ws lv_nil ?_
  refine r_lv [0, 1] (lv' := [(0, .ref (a 0)), (1, .ref (b 1))]) rfl ?_
  have key : ∀ κ : Nat, κ + 1422 ≤ 1422 → hv_J p l e (headSpec wsL_isBalance rmQ_isBalance).room s m args below meth c 7 D A κ (12 * κ) (MQ below (lv_Q D (lv_val (some (.int (1 : Int32))) (hv_W 55 a (hv_XE a cy) o.1 ++ hv_W 9 b (hv_TE b cy) o.2)) A) args s 1422 (12 * 1422) A) (hv_W 55 a (hv_XE a cy) (σ) ++ (hv_W 9 b (hv_TE b cy) (τ) ++ [])) 0 [(0, .ref (a 0)), (1, .ref (b 1))] [] := by
    intro κ hκ
    unfold mQ_isBalance at h
    refine r_iconst (pc := 0) C (v := (0 : Int32)) dL_isBalance_0 (by decide) ?_
    refine r_istore_n (pc := 1) C (lv' := [(2, .int ((0 : Int32))), (0, .ref (a 0)), (1, .ref (b 1))]) rfl dL_isBalance_1 rfl (Nat.le_of_ble_eq_true rfl) rfl ?_
    have K9 := bQ_isBalance_2 (e := e) (below := below) (a := a) (b := b) (n := n) hflag C hA hT hr 6 κ (σ) (τ) ((0 : Int32)) (by omega) h
    exact r_lv [1, 2, 0] rfl K9
  exact key 0 (by decide)
end
