/-! the law's methods that make no cell -/
section
variable {p : Program} {l : Launch} {e : Env} {s : State} {m : MethodId} {args : Array Value} {below : List Frame} {meth : Method} {c : Code} {D : va_G} {a : Nat → Nat} {cy : ClassId × ClassId × ClassId × ClassId}
abbrev rmL_common : Room := { frames := 1, cells := 0, slots := 0, locals := 23 }
def kL_common_12_b (n : Nat) (r12 : hv_St → Int64 → Int64 → Option (Int64 × hv_St)) (σ : hv_St) (x4 : Int64) (x6 : Int64) : Option (Int64 × hv_St) := if lg_cmp (x6) ((0 : Int64)) = 0 then (some (x4, σ)) else (hv_if (decide (¬ x6 = 0)) (hv_let ((x4) - (x4) / (x6) * (x6)) fun y8_24 => r12 σ (x6) (y8_24)))
def kL_common_12 (n : Nat) : Nat → hv_St → Int64 → Int64 → Option (Int64 × hv_St)
  | 0 => fun _ _ _ => none
  | i + 1 => kL_common_12_b n (kL_common_12 n i)
def mL_common (n : Nat) (σ : hv_St) (p0 : Int64) (p1 : Int64) : Option (Int64 × hv_St) := hv_let (if 0 < p0 then p0 else -(p0)) fun y_1 => hv_let (if 0 < p1 then p1 else -(p1)) fun y_7 => kL_common_12 n n σ (y_1) (y_7)
set_option maxRecDepth 20000 in
theorem qL_common_MC22 : Cond.code Lib.MathLoose.abs_long.x Lib.MathLoose.abs_long.code 2 (some .long) ∈ wsL_common := by decide +kernel
set_option maxRecDepth 20000 in
theorem qL_common_MI22 : Cond.initialized "java/lang/Math" ∈ wsL_common := by decide +kernel
set_option maxRecDepth 20000 in
theorem qL_common_ML22 : Cond.methodLink RL 22 Lib.MathLoose.abs_long.x ∈ wsL_common := by decide +kernel
set_option maxRecDepth 20000 in
theorem qL_common_MS22 : Cond.static Lib.MathLoose.abs_long.x ∈ wsL_common := by decide +kernel
set_option maxHeartbeats 4000000 in
set_option maxRecDepth 20000 in
theorem bL_common_12 (C : hv_C p s m args meth c cL_common 10 wsL_common RL D (hv_tys cy)) (hr : meth.sig.returnType = (some .long)) {n : Nat} {o : Int64 × hv_St} : ∀ (i : Nat) (σ : hv_St) (x4 : Int64) (x6 : Int64), kL_common_12 n i σ x4 x6 = some o → hv_G p l e (headSpec wsL_common rmL_common).room s m args below meth c 10 D 0 a (hv_XE a cy) 0 0 (hv_MQ D 0 a (hv_XE a cy) below args s (some (.long o.1)) o.2) σ 12 [(4, .long (x4)), (6, .long (x6))] [] := by
  intro i
  induction i with
  | zero =>
    intro σ x4 x6 h
    cases h
  | succ i ih =>
    intro σ x4 x6 h
    generalize hg : kL_common_12 n i = r12 at ih
    have hr12 := ih
    replace h : kL_common_12_b n r12 σ x4 x6 = some o := by rw [← hg]; exact h
    unfold kL_common_12_b at h
    refine g_lload (pc := 12) C 1 dL_common_12 rfl ?_
    refine g_lconst (pc := 14) C (v := (0 : Int64)) dL_common_14 (by decide) ?_
    refine g_lcmp (pc := 15) C dL_common_15 ?_
    refine g_if_eq (pc := 16) (tgt := 37) C dL_common_16 (by decide) (fun c16 => ?_) (fun c16 => ?_)
    · rw [if_pos c16] at h
      refine g_lload (pc := 37) C 0 dL_common_37 rfl ?_
      cases h
      exact g_lret (pc := 39) C hr dL_common_39
    · rw [if_neg c16] at h
      refine g_lload (pc := 19) C 0 dL_common_19 rfl ?_
      refine g_lload (pc := 21) C 1 dL_common_21 rfl ?_
      obtain ⟨k23, h⟩ := hv_if_some h
      refine g_lrem (pc := 23) C dL_common_23 (of_decide_eq_true k23) ?_
      obtain ⟨y8_24, ey8_24, h⟩ := hv_let_some h
      refine g_lstore (pc := 24) C (lv' := [(8, .long (y8_24)), (4, .long (x4)), (6, .long (x6))]) ey8_24 dL_common_24 (Nat.le_of_ble_eq_true rfl) rfl ?_
      refine g_lload (pc := 26) C 2 dL_common_26 rfl ?_
      refine g_lstore (pc := 28) C (lv' := [(4, .long (x6)), (8, .long (y8_24)), (6, .long (x6))]) rfl dL_common_28 (Nat.le_of_ble_eq_true rfl) rfl ?_
      refine g_lload (pc := 30) C 1 dL_common_30 rfl ?_
      refine g_lstore (pc := 32) C (lv' := [(6, .long (y8_24)), (4, .long (x6)), (8, .long (y8_24))]) rfl dL_common_32 (Nat.le_of_ble_eq_true rfl) rfl ?_
      refine g_goto (pc := 34) C (tgt := 12) dL_common_34 (by decide) ?_
      exact g_lv [1, 0] rfl (hr12 σ (x6) (y8_24) h)
set_option maxHeartbeats 4000000 in
set_option maxRecDepth 20000 in
theorem vL_common {n : Nat} {σ : hv_St} {p0 : Int64} {p1 : Int64} {o : Int64 × hv_St} (h : mL_common n σ p0 p1 = some o) : hv_M l yL_common wsL_common rmL_common D (hv_tys cy) 0 a (hv_XE a cy) [.long (p0), .long (p1)] σ (some (.long o.1)) o.2 := by
  refine hv_enter (own := RL) (cc := cL_common) (maxL := 10) (ret := (some .long)) (by decide) rfl rfl (Nat.le_of_ble_eq_true rfl) ?_
  intro p e s m args below meth c C hr
  unfold mL_common at h
  refine g_lv [0, 1] (lv' := [(0, .long (p0)), (2, .long (p1))]) rfl ?_
  refine g_lload_n (pc := 0) C 0 dL_common_0 rfl rfl ?_
  refine g_mabsL (pc := 1) C qL_common_ML22 qL_common_MS22 qL_common_MI22 qL_common_MC22 (Nat.le_of_ble_eq_true rfl) (Nat.le_of_ble_eq_true rfl) ⟨Nat.zero_le _, Nat.zero_le _⟩ dL_common_1 ?_
  obtain ⟨y_1, ey_1, h⟩ := hv_let_some h
  rw [← ey_1]
  refine g_lstore (pc := 4) C (lv' := [(4, .long (y_1)), (0, .long (p0)), (2, .long (p1))]) rfl dL_common_4 (Nat.le_of_ble_eq_true rfl) rfl ?_
  refine g_lload_n (pc := 6) C 2 dL_common_6 rfl rfl ?_
  refine g_mabsL (pc := 7) C qL_common_ML22 qL_common_MS22 qL_common_MI22 qL_common_MC22 (Nat.le_of_ble_eq_true rfl) (Nat.le_of_ble_eq_true rfl) ⟨Nat.zero_le _, Nat.zero_le _⟩ dL_common_7 ?_
  obtain ⟨y_7, ey_7, h⟩ := hv_let_some h
  rw [← ey_7]
  refine g_lstore (pc := 10) C (lv' := [(6, .long (y_7)), (4, .long (y_1)), (0, .long (p0)), (2, .long (p1))]) rfl dL_common_10 (Nat.le_of_ble_eq_true rfl) rfl ?_
  exact g_lv [1, 0] rfl (bL_common_12 C hr n σ (y_1) (y_7) h)
abbrev rmL_isOn : Room := { frames := 0, cells := 0, slots := 0, locals := 0 }
def mL_isOn (n : Nat) (σ : hv_St) (p0 : Int32) (p1 : Int32) : Option (Int32 × hv_St) := if ((p0) >>> ((p1) &&& 31)) &&& ((1 : Int32)) = (1 : Int32) then (some ((1 : Int32), σ)) else (some ((0 : Int32), σ))
set_option maxHeartbeats 4000000 in
set_option maxRecDepth 20000 in
theorem vL_isOn {n : Nat} {σ : hv_St} {p0 : Int32} {p1 : Int32} {o : Int32 × hv_St} (h : mL_isOn n σ p0 p1 = some o) : hv_M l yL_isOn wsL_isOn rmL_isOn D (hv_tys cy) 0 a (hv_XE a cy) [.int (p0), .int (p1)] σ (some (.int o.1)) o.2 := by
  refine hv_enter (own := RL) (cc := cL_isOn) (maxL := 2) (ret := (some .boolean)) (by decide) rfl rfl (Nat.le_of_ble_eq_true rfl) ?_
  intro p e s m args below meth c C hr
  unfold mL_isOn at h
  refine g_lv [0, 1] (lv' := [(0, .int (p0)), (1, .int (p1))]) rfl ?_
  refine g_iload_n (pc := 0) C 0 dL_isOn_0 rfl rfl ?_
  refine g_iload_n (pc := 1) C 1 dL_isOn_1 rfl rfl ?_
  refine g_ishr (pc := 2) C dL_isOn_2 ?_
  refine g_iconst (pc := 3) C (v := (1 : Int32)) dL_isOn_3 (by decide) ?_
  refine g_iand (pc := 4) C dL_isOn_4 ?_
  refine g_iconst (pc := 5) C (v := (1 : Int32)) dL_isOn_5 (by decide) ?_
  refine g_icmp_ne (pc := 6) (tgt := 13) C dL_isOn_6 (by decide) (fun c6 => ?_) (fun c6 => ?_)
  · rw [if_neg c6] at h
    refine g_iconst (pc := 13) C (v := (0 : Int32)) dL_isOn_13 (by decide) ?_
    cases h
    exact g_zret (pc := 14) (x := (0 : Int32)) C hr (by decide) dL_isOn_14
  · rw [if_pos c6] at h
    refine g_iconst (pc := 9) C (v := (1 : Int32)) dL_isOn_9 (by decide) ?_
    refine g_goto (pc := 10) C (tgt := 14) dL_isOn_10 (by decide) ?_
    cases h
    exact g_zret (pc := 14) (x := (1 : Int32)) C hr (by decide) dL_isOn_14
abbrev rmL_isFirm : Room := { frames := 0, cells := 0, slots := 0, locals := 0 }
def kL_isFirm_13 (n : Nat) (σ : hv_St) : Option (Int32 × hv_St) := some ((0 : Int32), σ)
def mL_isFirm (n : Nat) (σ : hv_St) (p0 : Int32) : Option (Int32 × hv_St) := if p0 ≤ 0 then (kL_isFirm_13 n σ) else (if (4 : Int32) ≤ p0 then (kL_isFirm_13 n σ) else (some ((1 : Int32), σ)))
set_option maxHeartbeats 4000000 in
set_option maxRecDepth 20000 in
theorem bL_isFirm_13 (C : hv_C p s m args meth c cL_isFirm 1 wsL_isFirm RL D (hv_tys cy)) (hr : meth.sig.returnType = (some .boolean)) {n : Nat} {o : Int32 × hv_St} : ∀ (σ : hv_St), kL_isFirm_13 n σ = some o → hv_G p l e (headSpec wsL_isFirm rmL_isFirm).room s m args below meth c 1 D 0 a (hv_XE a cy) 0 0 (hv_MQ D 0 a (hv_XE a cy) below args s (some (.int o.1)) o.2) σ 13 [] [] := by
  intro σ h
  unfold kL_isFirm_13 at h
  refine g_iconst (pc := 13) C (v := (0 : Int32)) dL_isFirm_13 (by decide) ?_
  cases h
  exact g_zret (pc := 14) (x := (0 : Int32)) C hr (by decide) dL_isFirm_14
set_option maxHeartbeats 4000000 in
set_option maxRecDepth 20000 in
theorem vL_isFirm {n : Nat} {σ : hv_St} {p0 : Int32} {o : Int32 × hv_St} (h : mL_isFirm n σ p0 = some o) : hv_M l yL_isFirm wsL_isFirm rmL_isFirm D (hv_tys cy) 0 a (hv_XE a cy) [.int (p0)] σ (some (.int o.1)) o.2 := by
  refine hv_enter (own := RL) (cc := cL_isFirm) (maxL := 1) (ret := (some .boolean)) (by decide) rfl rfl (Nat.le_of_ble_eq_true rfl) ?_
  intro p e s m args below meth c C hr
  unfold mL_isFirm at h
  refine g_lv [0] (lv' := [(0, .int (p0))]) rfl ?_
  refine g_iload_n (pc := 0) C 0 dL_isFirm_0 rfl rfl ?_
  refine g_if_le (pc := 1) (tgt := 13) C dL_isFirm_1 (by decide) (fun c1 => ?_) (fun c1 => ?_)
  · rw [if_pos c1] at h
    exact g_lv [] rfl (bL_isFirm_13 C hr σ h)
  · rw [if_neg c1] at h
    refine g_iload_n (pc := 4) C 0 dL_isFirm_4 rfl rfl ?_
    refine g_iconst (pc := 5) C (v := (4 : Int32)) dL_isFirm_5 (by decide) ?_
    refine g_icmp_ge (pc := 6) (tgt := 13) C dL_isFirm_6 (by decide) (fun c6 => ?_) (fun c6 => ?_)
    · rw [if_pos c6] at h
      exact g_lv [] rfl (bL_isFirm_13 C hr σ h)
    · rw [if_neg c6] at h
      refine g_iconst (pc := 9) C (v := (1 : Int32)) dL_isFirm_9 (by decide) ?_
      refine g_goto (pc := 10) C (tgt := 14) dL_isFirm_10 (by decide) ?_
      cases h
      exact g_zret (pc := 14) (x := (1 : Int32)) C hr (by decide) dL_isFirm_14
abbrev rmL_brings : Room := { frames := 0, cells := 0, slots := 0, locals := 0 }
def kL_brings_75 (n : Nat) (σ : hv_St) (x1 : Int32) (x2 : Int32) (z0 : Int32) : Option (Int32 × hv_St) := hv_if (hv_ok (x1) 11) (if σ.1 6 (x1).toNatClampNeg = x2 then (some (z0, σ)) else (some (-(z0), σ)))
def kL_brings_22 (n : Nat) (σ : hv_St) (x1 : Int32) (x2 : Int32) (x3 : Int32) : Option (Int32 × hv_St) := if x3 = 0 then (hv_if (hv_ok (x1) 11) (hv_if (hv_ok (σ.1 7 (x1).toNatClampNeg) 6) (hv_if (hv_ok (x1) 11) (hv_if (hv_ok (σ.1 6 (x1).toNatClampNeg) 6) (kL_brings_75 n σ (x1) (x2) ((σ.1 2 (σ.1 7 (x1).toNatClampNeg).toNatClampNeg) - (σ.1 2 (σ.1 6 (x1).toNatClampNeg).toNatClampNeg))))))) else (hv_if (hv_ok (x1) 11) (hv_if (hv_ok (σ.1 7 (x1).toNatClampNeg) 6) (hv_if (hv_ok (x1) 11) (hv_if (hv_ok (σ.1 6 (x1).toNatClampNeg) 6) (kL_brings_75 n σ (x1) (x2) ((σ.1 3 (σ.1 7 (x1).toNatClampNeg).toNatClampNeg) - (σ.1 3 (σ.1 6 (x1).toNatClampNeg).toNatClampNeg)))))))
def mL_brings (n : Nat) (σ : hv_St) (p1 : Int32) (p2 : Int32) (p3 : Int32) : Option (Int32 × hv_St) := hv_if (hv_ok (p1) 11) (if σ.1 6 (p1).toNatClampNeg = p2 then (kL_brings_22 n σ (p1) (p2) (p3)) else (hv_if (hv_ok (p1) 11) (if σ.1 7 (p1).toNatClampNeg = p2 then (kL_brings_22 n σ (p1) (p2) (p3)) else (some ((0 : Int32), σ)))))
set_option maxRecDepth 20000 in
theorem iL_brings_X9 : ∀ w ∈ u_ws RX9 TX9 10, w ∈ wsL_brings := by decide +kernel
set_option maxHeartbeats 4000000 in
set_option maxRecDepth 20000 in
theorem bL_brings_75 (C : hv_C p s m args meth c cL_brings 5 wsL_brings RL D (hv_tys cy)) (hr : meth.sig.returnType = (some .int)) {n : Nat} {o : Int32 × hv_St} : ∀ (σ : hv_St) (x1 : Int32) (x2 : Int32) (z0 : Int32), kL_brings_75 n σ x1 x2 z0 = some o → hv_G p l e (headSpec wsL_brings rmL_brings).room s m args below meth c 5 D 9 a (hv_TE a cy) 0 0 (hv_MQ D 9 a (hv_TE a cy) below args s (some (.int o.1)) o.2) σ 75 [(0, .ref (a 1)), (1, .int (x1)), (2, .int (x2))] [.int (z0)] := by
  intro σ x1 x2 z0 h
  unfold kL_brings_75 at h
  refine g_istore (pc := 75) C (lv' := [(4, .int (z0)), (0, .ref (a 1)), (1, .int (x1)), (2, .int (x2))]) rfl dL_brings_75 (Nat.le_of_ble_eq_true rfl) rfl ?_
  refine g_aload_n (pc := 77) C 1 dL_brings_77 rfl rfl ?_
  refine gtN_get_1_4 (pc := 78) C iL_brings_X9 (List.mem_of_getElem? (i := 15) rfl) dL_brings_78 ?_
  refine g_iload_n (pc := 81) C 2 dL_brings_81 rfl rfl ?_
  obtain ⟨k82, h⟩ := hv_if_some h
  refine gt_ld_6 (pc := 82) C k82 dL_brings_82 ?_
  refine g_iload_n (pc := 83) C 3 dL_brings_83 rfl rfl ?_
  refine g_icmp_ne (pc := 84) (tgt := 92) C dL_brings_84 (by decide) (fun c84 => ?_) (fun c84 => ?_)
  · rw [if_neg c84] at h
    refine g_iload (pc := 92) C 0 dL_brings_92 rfl ?_
    refine g_ineg (pc := 94) C dL_brings_94 ?_
    cases h
    exact g_iret (pc := 95) C hr dL_brings_95
  · rw [if_pos c84] at h
    refine g_iload (pc := 87) C 0 dL_brings_87 rfl ?_
    refine g_goto (pc := 89) C (tgt := 95) dL_brings_89 (by decide) ?_
    cases h
    exact g_iret (pc := 95) C hr dL_brings_95
set_option maxHeartbeats 4000000 in
set_option maxRecDepth 20000 in
theorem bL_brings_22 (C : hv_C p s m args meth c cL_brings 5 wsL_brings RL D (hv_tys cy)) (hr : meth.sig.returnType = (some .int)) {n : Nat} {o : Int32 × hv_St} : ∀ (σ : hv_St) (x1 : Int32) (x2 : Int32) (x3 : Int32), kL_brings_22 n σ x1 x2 x3 = some o → hv_G p l e (headSpec wsL_brings rmL_brings).room s m args below meth c 5 D 9 a (hv_TE a cy) 0 0 (hv_MQ D 9 a (hv_TE a cy) below args s (some (.int o.1)) o.2) σ 22 [(0, .ref (a 1)), (1, .int (x1)), (2, .int (x2)), (3, .int (x3))] [] := by
  intro σ x1 x2 x3 h
  unfold kL_brings_22 at h
  refine g_iload_n (pc := 22) C 3 dL_brings_22 rfl rfl ?_
  refine g_if_ne (pc := 23) (tgt := 52) C dL_brings_23 (by decide) (fun c23 => ?_) (fun c23 => ?_)
  · rw [if_neg c23] at h
    refine g_aload_n (pc := 52) C 0 dL_brings_52 rfl rfl ?_
    refine gtN_get_1_1 (pc := 53) C iL_brings_X9 (List.mem_of_getElem? (i := 12) rfl) dL_brings_53 ?_
    refine g_aload_n (pc := 56) C 0 dL_brings_56 rfl rfl ?_
    refine gtN_get_1_5 (pc := 57) C iL_brings_X9 (List.mem_of_getElem? (i := 16) rfl) dL_brings_57 ?_
    refine g_iload_n (pc := 60) C 1 dL_brings_60 rfl rfl ?_
    obtain ⟨k61, h⟩ := hv_if_some h
    refine gt_ld_7 (pc := 61) C k61 dL_brings_61 ?_
    obtain ⟨k62, h⟩ := hv_if_some h
    refine gt_ld_3 (pc := 62) C k62 dL_brings_62 ?_
    refine g_aload_n (pc := 63) C 0 dL_brings_63 rfl rfl ?_
    refine gtN_get_1_1 (pc := 64) C iL_brings_X9 (List.mem_of_getElem? (i := 12) rfl) dL_brings_64 ?_
    refine g_aload_n (pc := 67) C 0 dL_brings_67 rfl rfl ?_
    refine gtN_get_1_4 (pc := 68) C iL_brings_X9 (List.mem_of_getElem? (i := 15) rfl) dL_brings_68 ?_
    refine g_iload_n (pc := 71) C 1 dL_brings_71 rfl rfl ?_
    obtain ⟨k72, h⟩ := hv_if_some h
    refine gt_ld_6 (pc := 72) C k72 dL_brings_72 ?_
    obtain ⟨k73, h⟩ := hv_if_some h
    refine gt_ld_3 (pc := 73) C k73 dL_brings_73 ?_
    refine g_isub (pc := 74) C dL_brings_74 ?_
    exact g_lv [0, 1, 2] rfl (bL_brings_75 C hr σ (x1) (x2) ((σ.1 3 (σ.1 7 (x1).toNatClampNeg).toNatClampNeg) - (σ.1 3 (σ.1 6 (x1).toNatClampNeg).toNatClampNeg)) h)
  · rw [if_pos c23] at h
    refine g_aload_n (pc := 26) C 0 dL_brings_26 rfl rfl ?_
    refine gtN_get_1_0 (pc := 27) C iL_brings_X9 (List.mem_of_getElem? (i := 11) rfl) dL_brings_27 ?_
    refine g_aload_n (pc := 30) C 0 dL_brings_30 rfl rfl ?_
    refine gtN_get_1_5 (pc := 31) C iL_brings_X9 (List.mem_of_getElem? (i := 16) rfl) dL_brings_31 ?_
    refine g_iload_n (pc := 34) C 1 dL_brings_34 rfl rfl ?_
    obtain ⟨k35, h⟩ := hv_if_some h
    refine gt_ld_7 (pc := 35) C k35 dL_brings_35 ?_
    obtain ⟨k36, h⟩ := hv_if_some h
    refine gt_ld_2 (pc := 36) C k36 dL_brings_36 ?_
    refine g_aload_n (pc := 37) C 0 dL_brings_37 rfl rfl ?_
    refine gtN_get_1_0 (pc := 38) C iL_brings_X9 (List.mem_of_getElem? (i := 11) rfl) dL_brings_38 ?_
    refine g_aload_n (pc := 41) C 0 dL_brings_41 rfl rfl ?_
    refine gtN_get_1_4 (pc := 42) C iL_brings_X9 (List.mem_of_getElem? (i := 15) rfl) dL_brings_42 ?_
    refine g_iload_n (pc := 45) C 1 dL_brings_45 rfl rfl ?_
    obtain ⟨k46, h⟩ := hv_if_some h
    refine gt_ld_6 (pc := 46) C k46 dL_brings_46 ?_
    obtain ⟨k47, h⟩ := hv_if_some h
    refine gt_ld_2 (pc := 47) C k47 dL_brings_47 ?_
    refine g_isub (pc := 48) C dL_brings_48 ?_
    refine g_goto (pc := 49) C (tgt := 75) dL_brings_49 (by decide) ?_
    exact g_lv [0, 1, 2] rfl (bL_brings_75 C hr σ (x1) (x2) ((σ.1 2 (σ.1 7 (x1).toNatClampNeg).toNatClampNeg) - (σ.1 2 (σ.1 6 (x1).toNatClampNeg).toNatClampNeg)) h)
set_option maxHeartbeats 4000000 in
set_option maxRecDepth 20000 in
theorem vL_brings {n : Nat} {σ : hv_St} {p1 : Int32} {p2 : Int32} {p3 : Int32} {o : Int32 × hv_St} (h : mL_brings n σ p1 p2 p3 = some o) : hv_M l yL_brings wsL_brings rmL_brings D (hv_tys cy) 9 a (hv_TE a cy) [.ref (a 1), .int (p1), .int (p2), .int (p3)] σ (some (.int o.1)) o.2 := by
  refine hv_enter (own := RL) (cc := cL_brings) (maxL := 5) (ret := (some .int)) (by decide) rfl rfl (Nat.le_of_ble_eq_true rfl) ?_
  intro p e s m args below meth c C hr
  unfold mL_brings at h
  refine g_lv [0, 1, 2, 3] (lv' := [(0, .ref (a 1)), (1, .int (p1)), (2, .int (p2)), (3, .int (p3))]) rfl ?_
  refine g_aload_n (pc := 0) C 0 dL_brings_0 rfl rfl ?_
  refine gtN_get_1_4 (pc := 1) C iL_brings_X9 (List.mem_of_getElem? (i := 15) rfl) dL_brings_1 ?_
  refine g_iload_n (pc := 4) C 1 dL_brings_4 rfl rfl ?_
  obtain ⟨k5, h⟩ := hv_if_some h
  refine gt_ld_6 (pc := 5) C k5 dL_brings_5 ?_
  refine g_iload_n (pc := 6) C 2 dL_brings_6 rfl rfl ?_
  refine g_icmp_eq (pc := 7) (tgt := 22) C dL_brings_7 (by decide) (fun c7 => ?_) (fun c7 => ?_)
  · rw [if_pos c7] at h
    exact g_lv [0, 1, 2, 3] rfl (bL_brings_22 C hr σ (p1) (p2) (p3) h)
  · rw [if_neg c7] at h
    refine g_aload_n (pc := 10) C 0 dL_brings_10 rfl rfl ?_
    refine gtN_get_1_5 (pc := 11) C iL_brings_X9 (List.mem_of_getElem? (i := 16) rfl) dL_brings_11 ?_
    refine g_iload_n (pc := 14) C 1 dL_brings_14 rfl rfl ?_
    obtain ⟨k15, h⟩ := hv_if_some h
    refine gt_ld_7 (pc := 15) C k15 dL_brings_15 ?_
    refine g_iload_n (pc := 16) C 2 dL_brings_16 rfl rfl ?_
    refine g_icmp_eq (pc := 17) (tgt := 22) C dL_brings_17 (by decide) (fun c17 => ?_) (fun c17 => ?_)
    · rw [if_pos c17] at h
      exact g_lv [0, 1, 2, 3] rfl (bL_brings_22 C hr σ (p1) (p2) (p3) h)
    · rw [if_neg c17] at h
      refine g_iconst (pc := 20) C (v := (0 : Int32)) dL_brings_20 (by decide) ?_
      cases h
      exact g_iret (pc := 21) C hr dL_brings_21
abbrev rmX8_next : Room := { frames := 0, cells := 0, slots := 0, locals := 0 }
def mX8_next (n : Nat) (σ : hv_St) (p0 : Int32) : Option (Int32 × hv_St) := hv_let (hv_sI σ 0 0 (((σ.1 0 0) * ((1103515245 : Int32))) + ((12345 : Int32)))) fun s12 => hv_if (decide (¬ p0 = 0)) (some ((((s12.1 0 0).toUInt32 >>> (((16 : Int32)).toUInt32 &&& Int32.toUInt32 31)).toInt32) - (((s12.1 0 0).toUInt32 >>> (((16 : Int32)).toUInt32 &&& Int32.toUInt32 31)).toInt32) / (p0) * (p0), s12))
set_option maxRecDepth 20000 in
theorem qX8_next_F7 : Cond.fieldLink RX8 7 "PinFrameLaw$Draws" "x" "I" ∈ wsX8_next := by decide +kernel
set_option maxRecDepth 20000 in
theorem qX8_next_I13 : Cond.constant RX8 13 (1103515245) ∈ wsX8_next := by decide +kernel
set_option maxRecDepth 20000 in
theorem iX8_next_X8 : ∀ w ∈ u_ws RX8 TX8 1, w ∈ wsX8_next := by decide +kernel
set_option maxHeartbeats 4000000 in
set_option maxRecDepth 20000 in
theorem vX8_next {n : Nat} {σ : hv_St} {p0 : Int32} {o : Int32 × hv_St} (h : mX8_next n σ p0 = some o) : hv_M l yX8_next wsX8_next rmX8_next D (hv_tys cy) 9 a (hv_TE a cy) [.ref (a 0), .int (p0)] σ (some (.int o.1)) o.2 := by
  refine hv_enter (own := RX8) (cc := cX8_next) (maxL := 2) (ret := (some .int)) (by decide) rfl rfl (Nat.le_of_ble_eq_true rfl) ?_
  intro p e s m args below meth c C hr
  unfold mX8_next at h
  refine g_lv [0, 1] (lv' := [(0, .ref (a 0)), (1, .int (p0))]) rfl ?_
  refine g_aload_n (pc := 0) C 0 dX8_next_0 rfl rfl ?_
  refine g_aload_n (pc := 1) C 0 dX8_next_1 rfl rfl ?_
  refine gt_get_0_0 (pc := 2) C iX8_next_X8 qX8_next_F7 dX8_next_2 ?_
  refine g_ldc (pc := 5) C (v := (1103515245 : Int32)) qX8_next_I13 dX8_next_5 ?_
  refine g_imul (pc := 7) C dX8_next_7 ?_
  refine g_sipush (pc := 8) C (v := (12345 : Int32)) dX8_next_8 (by decide) ?_
  refine g_iadd (pc := 11) C dX8_next_11 ?_
  obtain ⟨s12, es12, h⟩ := hv_let_some h
  refine gt_put_0_0 (pc := 12) C es12 iX8_next_X8 qX8_next_F7 dX8_next_12 ?_
  refine g_aload_n (pc := 15) C 0 dX8_next_15 rfl rfl ?_
  refine gt_get_0_0 (pc := 16) C iX8_next_X8 qX8_next_F7 dX8_next_16 ?_
  refine g_bipush (pc := 19) C (v := (16 : Int32)) dX8_next_19 (by decide) ?_
  refine g_iushr (pc := 21) C dX8_next_21 ?_
  refine g_iload_n (pc := 22) C 1 dX8_next_22 rfl rfl ?_
  obtain ⟨k23, h⟩ := hv_if_some h
  refine g_irem (pc := 23) C dX8_next_23 (of_decide_eq_true k23) ?_
  cases h
  exact g_iret (pc := 24) C hr dX8_next_24
abbrev rmL_spareAt : Room := { frames := 7, cells := 0, slots := 0, locals := 165 }
def kL_spareAt_9_b (n : Nat) (r9 : hv_St → Int32 → Int32 → Int32 → Option (Int32 × hv_St)) (σ : hv_St) (x1 : Int32) (x2 : Int32) (x3 : Int32) : Option (Int32 × hv_St) := if x1 ≤ x3 then (hv_b2 (mJ6_numberOfTrailingZeros_0f7a4 n σ (x2)) fun r27 s27 => some (r27, s27)) else (hv_let ((x2) &&& ((x2) - ((1 : Int32)))) fun y2_19 => r9 σ (x1) (y2_19) (x3 + 1))
def kL_spareAt_9 (n : Nat) : Nat → hv_St → Int32 → Int32 → Int32 → Option (Int32 × hv_St)
  | 0 => fun _ _ _ _ => none
  | i + 1 => kL_spareAt_9_b n (kL_spareAt_9 n i)
def mL_spareAt (n : Nat) (σ : hv_St) (p1 : Int32) : Option (Int32 × hv_St) := hv_b2 (mX7_count n σ ((6 : Int32))) fun r3 s3 => kL_spareAt_9 n n s3 (p1) (r3) ((0 : Int32))
set_option maxHeartbeats 4000000 in
set_option maxRecDepth 20000 in
theorem bL_spareAt_9 (C : hv_C p s m args meth c cL_spareAt 4 wsL_spareAt RL D (hv_tys cy)) (hr : meth.sig.returnType = (some .int)) {n : Nat} {o : Int32 × hv_St} : ∀ (i : Nat) (σ : hv_St) (x1 : Int32) (x2 : Int32) (x3 : Int32), kL_spareAt_9 n i σ x1 x2 x3 = some o → hv_G p l e (headSpec wsL_spareAt rmL_spareAt).room s m args below meth c 4 D 55 a (hv_XE a cy) 0 0 (hv_MQ D 55 a (hv_XE a cy) below args s (some (.int o.1)) o.2) σ 9 [(1, .int (x1)), (2, .int (x2)), (3, .int (x3))] [] := by
  intro i
  induction i with
  | zero =>
    intro σ x1 x2 x3 h
    cases h
  | succ i ih =>
    intro σ x1 x2 x3 h
    generalize hg : kL_spareAt_9 n i = r9 at ih
    have hr9 := ih
    replace h : kL_spareAt_9_b n r9 σ x1 x2 x3 = some o := by rw [← hg]; exact h
    unfold kL_spareAt_9_b at h
    refine g_iload_n (pc := 9) C 2 dL_spareAt_9 rfl rfl ?_
    refine g_iload_n (pc := 10) C 0 dL_spareAt_10 rfl rfl ?_
    refine g_icmp_ge (pc := 11) (tgt := 26) C dL_spareAt_11 (by decide) (fun c11 => ?_) (fun c11 => ?_)
    · rw [if_pos c11] at h
      refine g_iload_n (pc := 26) C 1 dL_spareAt_26 rfl rfl ?_
      obtain ⟨r27, s27, hc27, h⟩ := hv_b2_some h
      refine g_callS (pc := 27) (σ1 := s27) (v := (some (.int (r27)))) (As := [.int (x2)]) (rest := []) C (vJ6_numberOfTrailingZeros_0f7a4 hc27) (va_cwS 1 C.1.2.2.2.2 gL_spareAt_J6_numberOfTrailingZeros_0f7a4 rfl rfl rfl (by decide +kernel) ⟨Nat.le_of_ble_eq_true rfl, Nat.le_of_ble_eq_true rfl⟩) rfl rfl (Nat.le_of_ble_eq_true rfl) dL_spareAt_27 ⟨Nat.zero_le _, Nat.zero_le _⟩ ?_
      refine g_st (st' := [.int (r27)]) rfl ?_
      cases h
      exact g_iret (pc := 30) C hr dL_spareAt_30
    · rw [if_neg c11] at h
      refine g_iload_n (pc := 14) C 1 dL_spareAt_14 rfl rfl ?_
      refine g_iload_n (pc := 15) C 1 dL_spareAt_15 rfl rfl ?_
      refine g_iconst (pc := 16) C (v := (1 : Int32)) dL_spareAt_16 (by decide) ?_
      refine g_isub (pc := 17) C dL_spareAt_17 ?_
      refine g_iand (pc := 18) C dL_spareAt_18 ?_
      obtain ⟨y2_19, ey2_19, h⟩ := hv_let_some h
      refine g_istore_n (pc := 19) C (lv' := [(2, .int (y2_19)), (1, .int (x1)), (3, .int (x3))]) ey2_19 dL_spareAt_19 rfl (Nat.le_of_ble_eq_true rfl) rfl ?_
      refine g_iinc (pc := 20) C 2 (v := x3 + 1) (lv' := [(3, .int (x3 + 1)), (2, .int (y2_19)), (1, .int (x1))]) dL_spareAt_20 rfl rfl (Nat.le_of_ble_eq_true rfl) rfl ?_
      refine g_goto (pc := 23) C (tgt := 9) dL_spareAt_23 (by decide) ?_
      exact g_lv [2, 1, 0] rfl (hr9 σ (x1) (y2_19) (x3 + 1) h)
set_option maxHeartbeats 4000000 in
set_option maxRecDepth 20000 in
theorem vL_spareAt {n : Nat} {σ : hv_St} {p1 : Int32} {o : Int32 × hv_St} (h : mL_spareAt n σ p1 = some o) : hv_M l yL_spareAt wsL_spareAt rmL_spareAt D (hv_tys cy) 55 a (hv_XE a cy) [.ref (a 0), .int (p1)] σ (some (.int o.1)) o.2 := by
  refine hv_enter (own := RL) (cc := cL_spareAt) (maxL := 4) (ret := (some .int)) (by decide) rfl rfl (Nat.le_of_ble_eq_true rfl) ?_
  intro p e s m args below meth c C hr
  unfold mL_spareAt at h
  refine g_lv [0, 1] (lv' := [(0, .ref (a 0)), (1, .int (p1))]) rfl ?_
  refine g_aload_n (pc := 0) C 0 dL_spareAt_0 rfl rfl ?_
  refine g_bipush (pc := 1) C (v := (6 : Int32)) dL_spareAt_1 (by decide) ?_
  obtain ⟨r3, s3, hc3, h⟩ := hv_b2_some h
  refine g_callV (pc := 3) (σ1 := s3) (v := (some (.int (r3)))) (As := [.int ((6 : Int32))]) (rest := []) C 0 (vX7_count hc3) (cwV 1 C.1.2.2.2.2 gL_spareAt_X7_count rfl rfl rfl (by decide +kernel) ⟨Nat.le_of_ble_eq_true rfl, Nat.le_of_ble_eq_true rfl⟩) (Nat.le_of_ble_eq_true rfl) rfl rfl rfl rfl (Nat.le_of_ble_eq_true rfl) dL_spareAt_3 ⟨Nat.zero_le _, Nat.zero_le _⟩ ?_
  refine g_st (st' := [.int (r3)]) rfl ?_
  refine g_istore_n (pc := 6) C (lv' := [(2, .int (r3)), (0, .ref (a 0)), (1, .int (p1))]) rfl dL_spareAt_6 rfl (Nat.le_of_ble_eq_true rfl) rfl ?_
  refine g_iconst (pc := 7) C (v := (0 : Int32)) dL_spareAt_7 (by decide) ?_
  refine g_istore_n (pc := 8) C (lv' := [(3, .int ((0 : Int32))), (2, .int (r3)), (0, .ref (a 0)), (1, .int (p1))]) rfl dL_spareAt_8 rfl (Nat.le_of_ble_eq_true rfl) rfl ?_
  exact g_lv [3, 1, 0] rfl (bL_spareAt_9 C hr n s3 (p1) (r3) ((0 : Int32)) h)
end
