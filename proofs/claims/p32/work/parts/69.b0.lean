/-! L_isKind, walked -/
section
variable {p : Program} {l : Launch} {e : Env} {s : State} {m : MethodId} {args : Array Value} {below : List Frame} {meth : Method} {c : Code} {D : va_G} {cy : ClassId × ClassId × ClassId × ClassId} {A : Nat → Prop} {a b : Nat → Nat} {d0 : Nat}
abbrev rmQ_isKind : Room := { frames := 9, cells := 3, slots := 12 * 3, locals := 186 }
def kQ_isKind_150 (n : Nat) (σ τ : hv_St) : Option (hv_St × hv_St) := some ((σ), (τ))
def kQ_isKind_133 (n : Nat) (σ τ : hv_St) : Option (hv_St × hv_St) := hv_b2 (mX7_painted n (σ) ((0 : Int32))) fun r135 s135 => if r135 = (-1 : Int32) then (hv_b2 (mX7_times n (s135) ) fun r143 s143 => if r143 = (-1 : Int32) then (kQ_isKind_150 n (s143) (τ)) else (none)) else (none)
def kQ_isKind_58 (n : Nat) (σ τ : hv_St) (x2 : Int32) (x3 : Int32) (x4 : Int32) (x5 : Int32) (z0 : Int32) : Option (hv_St × hv_St) := if (x2) &&& (x3) = 0 then (if (x2) ||| (x3) = (τ).1 1 9 then (hv_b2 (mJ6_bitCount_0f7a4 n (σ) (x2)) fun r77 s77 => if x4 < r77 then (none) else (if x5 = z0 then (hv_b2 (mX7_count n (s77) ((7 : Int32))) fun r95 s95 => hv_b2 (mJ6_bitCount_0f7a4 n (s95) (x2)) fun r101 s101 => if r95 = (x4) - (r101) then (hv_b2 (mL_isFirm n hv_0 (x5)) fun r112 _ => if r112 = 0 then (if (τ).1 1 8 = 0 then (kQ_isKind_133 n (s101) (τ)) else (hv_b2 (mQ_pull n (s101) ((0 : Int32))) fun r127 s127 => hv_ox r127 (kQ_isKind_133 n (s127) (τ)) (fun x127 => none))) else (kQ_isKind_150 n (s101) (τ))) else (none)) else (none))) else (none)) else (none)
def mQ_isKind (n : Nat) (σ τ : hv_St) : Option (hv_St × hv_St) := hv_b2 (mX7_count n (σ) ((5 : Int32))) fun r2 s2 => hv_b2 (mX7_count n (s2) ((6 : Int32))) fun r9 s9 => hv_b2 (mX7_count n (s9) ((3 : Int32))) fun r15 s15 => hv_b2 (mX7_count n (s15) ((4 : Int32))) fun r22 s22 => hv_b2 (mJ6_bitCount_0f7a4 n (s22) (r2)) fun r28 s28 => if r15 ≤ r28 then (hv_b2 (mJ6_bitCount_0f7a4 n (s28) (r9)) fun r41 s41 => if r41 ≤ (2 : Int32) then (hv_b2 (mJ6_bitCount_0f7a4 n (s41) (r9)) fun r54 s54 => kQ_isKind_58 n (s54) (τ) (r2) (r9) (r15) (r22) (((1 : Int32)) + (r54))) else (kQ_isKind_58 n (s41) (τ) (r2) (r9) (r15) (r22) ((4 : Int32)))) else (kQ_isKind_58 n (s28) (τ) (r2) (r9) (r15) (r22) ((0 : Int32)))
set_option maxRecDepth 20000 in
theorem iL_isKind_X9 : ∀ w ∈ u_ws RX9 TX9 10, w ∈ wsL_isKind := by decide +kernel
set_option maxHeartbeats 4000000 in
set_option maxRecDepth 20000 in
theorem bQ_isKind_150 (hflag : l.stackTraces = false) (C : hv_C p s m args meth c cL_isKind 7 wsL_isKind RL D (hv_tys cy)) (hA : ∀ q, s.heap.size ≤ q → A q) (hT : hv_TA A s) (hr : meth.sig.returnType = (some .boolean)) {n : Nat} {o : hv_St × hv_St} : ∀ (κ : Nat) (σ τ : hv_St), κ + (0) ≤ 3 → kQ_isKind_150 n σ τ = some o → hv_J p l e (headSpec wsL_isKind rmQ_isKind).room s m args below meth c 7 D A κ (12 * κ) (MQ below (lv_Q D (lv_val (some (.int (1 : Int32))) (hv_W 55 a (hv_XE a cy) o.1 ++ hv_W 9 b (hv_TE b cy) o.2)) A) args s 3 (12 * 3) A) (hv_W 55 a (hv_XE a cy) (σ) ++ (hv_W 9 b (hv_TE b cy) (τ) ++ [])) 150 [] [] := by
  intro κ σ τ hκ h
  unfold kQ_isKind_150 at h
  refine r_iconst (pc := 150) C (v := (1 : Int32)) dL_isKind_150 (by decide) ?_
  refine r_goto (pc := 151) C (tgt := 155) dL_isKind_151 (by decide) ?_
  cases h
  exact r_zret (pc := 155) C lv_drop ⟨rfl, rfl⟩ hr (by decide) dL_isKind_155 (by omega) (by omega)
set_option maxHeartbeats 4000000 in
set_option maxRecDepth 20000 in
theorem bQ_isKind_133 (hflag : l.stackTraces = false) (C : hv_C p s m args meth c cL_isKind 7 wsL_isKind RL D (hv_tys cy)) (hA : ∀ q, s.heap.size ≤ q → A q) (hT : hv_TA A s) (hr : meth.sig.returnType = (some .boolean)) {n : Nat} {o : hv_St × hv_St} : ∀ (κ : Nat) (σ τ : hv_St), κ + (0) ≤ 3 → kQ_isKind_133 n σ τ = some o → hv_J p l e (headSpec wsL_isKind rmQ_isKind).room s m args below meth c 7 D A κ (12 * κ) (MQ below (lv_Q D (lv_val (some (.int (1 : Int32))) (hv_W 55 a (hv_XE a cy) o.1 ++ hv_W 9 b (hv_TE b cy) o.2)) A) args s 3 (12 * 3) A) (hv_W 55 a (hv_XE a cy) (σ) ++ (hv_W 9 b (hv_TE b cy) (τ) ++ [])) 133 [(0, .ref (a 0))] [] := by
  intro κ σ τ hκ h
  unfold kQ_isKind_133 at h
  refine r_aload_n (pc := 133) C 0 dL_isKind_133 rfl rfl ?_
  refine r_iconst (pc := 134) C (v := (0 : Int32)) dL_isKind_134 (by decide) ?_
  obtain ⟨r135, s135, hc135, h⟩ := hv_b2_some h
  refine r_callV0 (pc := 135) (τ := s135) (v := some (.int (r135))) (As := [.int ((0 : Int32))]) (rest := []) C hA 0 (vX7_painted hc135) (cwV 1 C.1.2.2.2.2 gL_isKind_X7_painted rfl rfl rfl (by decide +kernel) ⟨(Nat.le_of_ble_eq_true rfl), (Nat.le_of_ble_eq_true rfl)⟩) (Nat.le_of_ble_eq_true rfl) rfl rfl rfl rfl (Nat.le_of_ble_eq_true rfl) dL_isKind_135 (lv_cl0 (MC := 3) (need := 0) (by omega)) ?_
  refine r_st (st' := [.int (r135)]) rfl ?_
  refine r_iconst (pc := 138) C (v := (-1 : Int32)) dL_isKind_138 (by decide) ?_
  refine r_icmp_ne (pc := 139) (tgt := 154) C dL_isKind_139 (by decide) (fun c139 => ?_) (fun c139 => ?_)
  · rw [if_neg c139] at h
    cases h
  · rw [if_pos c139] at h
    refine r_aload_n (pc := 142) C 0 dL_isKind_142 rfl rfl ?_
    obtain ⟨r143, s143, hc143, h⟩ := hv_b2_some h
    refine r_callV0 (pc := 143) (τ := s143) (v := some (.int (r143))) (As := []) (rest := []) C hA 0 (vX7_times hc143) (cwV 0 C.1.2.2.2.2 gL_isKind_X7_times rfl rfl rfl (by decide +kernel) ⟨(Nat.le_of_ble_eq_true rfl), (Nat.le_of_ble_eq_true rfl)⟩) (Nat.le_of_ble_eq_true rfl) rfl rfl rfl rfl (Nat.le_of_ble_eq_true rfl) dL_isKind_143 (lv_cl0 (MC := 3) (need := 0) (by omega)) ?_
    refine r_st (st' := [.int (r143)]) rfl ?_
    refine r_iconst (pc := 146) C (v := (-1 : Int32)) dL_isKind_146 (by decide) ?_
    refine r_icmp_ne (pc := 147) (tgt := 154) C dL_isKind_147 (by decide) (fun c147 => ?_) (fun c147 => ?_)
    · rw [if_neg c147] at h
      cases h
    · rw [if_pos c147] at h
      have K9 := bQ_isKind_150 (e := e) (below := below) (a := a) (b := b) (n := n) hflag C hA hT hr κ (s143) (τ) (by omega) h
      exact r_lv [] rfl K9
set_option maxHeartbeats 4000000 in
set_option maxRecDepth 20000 in
theorem bQ_isKind_58 (hflag : l.stackTraces = false) (C : hv_C p s m args meth c cL_isKind 7 wsL_isKind RL D (hv_tys cy)) (hA : ∀ q, s.heap.size ≤ q → A q) (hT : hv_TA A s) (hr : meth.sig.returnType = (some .boolean)) {n : Nat} {o : hv_St × hv_St} : ∀ (κ : Nat) (σ τ : hv_St) (x2 : Int32) (x3 : Int32) (x4 : Int32) (x5 : Int32) (z0 : Int32), κ + (3) ≤ 3 → kQ_isKind_58 n σ τ x2 x3 x4 x5 z0 = some o → hv_J p l e (headSpec wsL_isKind rmQ_isKind).room s m args below meth c 7 D A κ (12 * κ) (MQ below (lv_Q D (lv_val (some (.int (1 : Int32))) (hv_W 55 a (hv_XE a cy) o.1 ++ hv_W 9 b (hv_TE b cy) o.2)) A) args s 3 (12 * 3) A) (hv_W 55 a (hv_XE a cy) (σ) ++ (hv_W 9 b (hv_TE b cy) (τ) ++ [])) 58 [(0, .ref (a 0)), (1, .ref (b 1)), (2, .int (x2)), (3, .int (x3)), (4, .int (x4)), (5, .int (x5))] [.int (z0)] := by
  intro κ σ τ x2 x3 x4 x5 z0 hκ h
  unfold kQ_isKind_58 at h
  refine r_istore (pc := 58) C (lv' := [(6, .int (z0)), (0, .ref (a 0)), (1, .ref (b 1)), (2, .int (x2)), (3, .int (x3)), (4, .int (x4)), (5, .int (x5))]) rfl dL_isKind_58 (Nat.le_of_ble_eq_true rfl) rfl ?_
  refine r_iload_n (pc := 60) C 3 dL_isKind_60 rfl rfl ?_
  refine r_iload_n (pc := 61) C 4 dL_isKind_61 rfl rfl ?_
  refine r_iand (pc := 62) C dL_isKind_62 ?_
  refine r_if_ne (pc := 63) (tgt := 108) C dL_isKind_63 (by decide) (fun c63 => ?_) (fun c63 => ?_)
  · rw [if_neg c63] at h
    cases h
  · rw [if_pos c63] at h
    refine r_iload_n (pc := 66) C 3 dL_isKind_66 rfl rfl ?_
    refine r_iload_n (pc := 67) C 4 dL_isKind_67 rfl rfl ?_
    refine r_ior (pc := 68) C dL_isKind_68 ?_
    refine r_aload_n (pc := 69) C 2 dL_isKind_69 rfl rfl ?_
    refine rt_get_9 (pc := 70) C iL_isKind_X9 (List.mem_of_getElem? (i := 20) rfl) dL_isKind_70 ?_
    refine r_icmp_ne (pc := 73) (tgt := 108) C dL_isKind_73 (by decide) (fun c73 => ?_) (fun c73 => ?_)
    · rw [if_neg c73] at h
      cases h
    · rw [if_pos c73] at h
      refine r_iload_n (pc := 76) C 3 dL_isKind_76 rfl rfl ?_
      obtain ⟨r77, s77, hc77, h⟩ := hv_b2_some h
      refine r_callB0 (pc := 77) (τ := s77) (v := some (.int (r77))) (As := [.int (x2)]) (rest := []) C hA (vJ6_bitCount_0f7a4 hc77) (va_cwS 1 C.1.2.2.2.2 gL_isKind_J6_bitCount_0f7a4 rfl rfl rfl (by decide +kernel) ⟨(Nat.le_of_ble_eq_true rfl), (Nat.le_of_ble_eq_true rfl)⟩) rfl rfl (Nat.le_of_ble_eq_true rfl) dL_isKind_77 (lv_cl0 (MC := 3) (need := 0) (by omega)) ?_
      refine r_st (st' := [.int (r77)]) rfl ?_
      refine r_iload (pc := 80) C 5 dL_isKind_80 rfl ?_
      refine r_icmp_gt (pc := 82) (tgt := 108) C dL_isKind_82 (by decide) (fun c82 => ?_) (fun c82 => ?_)
      · rw [if_pos c82] at h
        cases h
      · rw [if_neg c82] at h
        refine r_iload (pc := 85) C 6 dL_isKind_85 rfl ?_
        refine r_iload (pc := 87) C 0 dL_isKind_87 rfl ?_
        refine r_icmp_ne (pc := 89) (tgt := 108) C dL_isKind_89 (by decide) (fun c89 => ?_) (fun c89 => ?_)
        · rw [if_neg c89] at h
          cases h
        · rw [if_pos c89] at h
          refine r_aload_n (pc := 92) C 1 dL_isKind_92 rfl rfl ?_
          refine r_bipush (pc := 93) C (v := (7 : Int32)) dL_isKind_93 (by decide) ?_
          obtain ⟨r95, s95, hc95, h⟩ := hv_b2_some h
          refine r_callV0 (pc := 95) (τ := s95) (v := some (.int (r95))) (As := [.int ((7 : Int32))]) (rest := []) C hA 0 (vX7_count hc95) (cwV 1 C.1.2.2.2.2 gL_isKind_X7_count rfl rfl rfl (by decide +kernel) ⟨(Nat.le_of_ble_eq_true rfl), (Nat.le_of_ble_eq_true rfl)⟩) (Nat.le_of_ble_eq_true rfl) rfl rfl rfl rfl (Nat.le_of_ble_eq_true rfl) dL_isKind_95 (lv_cl0 (MC := 3) (need := 0) (by omega)) ?_
          refine r_st (st' := [.int (r95)]) rfl ?_
          refine r_iload (pc := 98) C 5 dL_isKind_98 rfl ?_
          refine r_iload_n (pc := 100) C 3 dL_isKind_100 rfl rfl ?_
          obtain ⟨r101, s101, hc101, h⟩ := hv_b2_some h
          refine r_callB0 (pc := 101) (τ := s101) (v := some (.int (r101))) (As := [.int (x2)]) (rest := [.int (x4), .int (r95)]) C hA (vJ6_bitCount_0f7a4 hc101) (va_cwS 1 C.1.2.2.2.2 gL_isKind_J6_bitCount_0f7a4 rfl rfl rfl (by decide +kernel) ⟨(Nat.le_of_ble_eq_true rfl), (Nat.le_of_ble_eq_true rfl)⟩) rfl rfl (Nat.le_of_ble_eq_true rfl) dL_isKind_101 (lv_cl0 (MC := 3) (need := 0) (by omega)) ?_
          refine r_st (st' := [.int (r101), .int (x4), .int (r95)]) rfl ?_
          refine r_isub (pc := 104) C dL_isKind_104 ?_
          refine r_icmp_eq (pc := 105) (tgt := 110) C dL_isKind_105 (by decide) (fun c105 => ?_) (fun c105 => ?_)
          · rw [if_pos c105] at h
            refine r_iload (pc := 110) C 6 dL_isKind_110 rfl ?_
            obtain ⟨r112, s112, hc112, h⟩ := hv_b2_some h
            refine r_callP (pc := 112) (v := some (.int (r112))) (As := [.int (x5)]) (rest := []) C hA (vL_isFirm (a := fun _ => 0) hc112) (va_cwS 1 C.1.2.2.2.2 gL_isKind_L_isFirm rfl rfl rfl (by decide +kernel) ⟨(Nat.le_of_ble_eq_true rfl), (Nat.le_of_ble_eq_true rfl)⟩) rfl rfl (Nat.le_of_ble_eq_true rfl) dL_isKind_112 (lv_cl0 (MC := 3) (need := 0) (by omega)) ?_
            refine r_st (st' := [.int (r112)]) rfl ?_
            refine r_if_ne (pc := 115) (tgt := 150) C dL_isKind_115 (by decide) (fun c115 => ?_) (fun c115 => ?_)
            · rw [if_neg c115] at h
              have K9 := bQ_isKind_150 (e := e) (below := below) (a := a) (b := b) (n := n) hflag C hA hT hr κ (s101) (τ) (by omega) h
              exact r_lv [] rfl K9
            · rw [if_pos c115] at h
              refine r_aload_n (pc := 118) C 2 dL_isKind_118 rfl rfl ?_
              refine rt_get_8 (pc := 119) C iL_isKind_X9 (List.mem_of_getElem? (i := 19) rfl) dL_isKind_119 ?_
              refine r_if_eq (pc := 122) (tgt := 133) C dL_isKind_122 (by decide) (fun c122 => ?_) (fun c122 => ?_)
              · rw [if_pos c122] at h
                have K9 := bQ_isKind_133 (e := e) (below := below) (a := a) (b := b) (n := n) hflag C hA hT hr κ (s101) (τ) (by omega) h
                exact r_lv [1] rfl K9
              · rw [if_neg c122] at h
                refine r_aload_n (pc := 125) C 1 dL_isKind_125 rfl rfl ?_
                refine r_iconst (pc := 126) C (v := (0 : Int32)) dL_isKind_126 (by decide) ?_
                obtain ⟨r127, s127, hc127, h⟩ := hv_b2_some h
                refine r_callMW (pc := 127) (wc := hv_W 55 a (hv_XE a cy) (s101)) (As := [.ref (a 0), .int ((0 : Int32))]) (rest := []) C hA hT (vQ_pull hflag hc127) (vx_cwSW 2 C.1.2.2.2.2 gL_isKind_L_pull rfl rfl rfl (by decide +kernel) ⟨(Nat.le_of_ble_eq_true rfl), (Nat.le_of_ble_eq_true rfl)⟩) rfl rfl (Nat.le_of_ble_eq_true rfl) dL_isKind_127 (lv_cl (MC := 3) (need := 3) (by omega) (Nat.le_refl _)) (fun v w hR => ?_)
                refine r_tw ?_
                rcases hv_ox_some h with ⟨e127, h9⟩ | ⟨x127, e127, h9⟩
                · clear h
                  subst e127
                  have h := h9
                  obtain ⟨rfl, rfl⟩ := hR
                  refine r_st (st' := [.null]) rfl ?_
                  refine r_ifnonnullN (pc := 130) C dL_isKind_130 ?_
                  have K9 := bQ_isKind_133 (e := e) (below := below) (a := a) (b := b) (n := n) hflag C hA hT hr (κ + 3) (s127) (τ) (by omega) h
                  exact r_lv [1] rfl K9
                · clear h
                  subst e127
                  have h := h9
                  obtain ⟨q127, rfl, rfl⟩ := hR
                  refine r_perm lv_rot ?_
                  refine r_st (st' := [.ref q127]) rfl ?_
                  refine r_sub (ws' := hv_W 55 a (hv_XE a cy) (s127) ++ (hv_W 9 b (hv_TE b cy) (τ) ++ [(q127, hv_row cy (x127).1 (x127).2)])) (lv_keep2 (.cons_cons _ .slnil)) ?_
                  refine r_ifnonnull (pc := 130) C (tgt := 154) dL_isKind_130 (by decide) ?_
                  cases h
          · rw [if_neg c105] at h
            cases h
set_option maxHeartbeats 4000000 in
set_option maxRecDepth 20000 in
theorem vQ_isKind (hflag : l.stackTraces = false) {n : Nat} {σ τ : hv_St} {o : hv_St × hv_St} (h : mQ_isKind n σ τ = some o) : lv_M l yL_isKind wsL_isKind rmQ_isKind D cy 3 (12 * 3) [.ref (a 0), .ref (b 1)] (hv_W 55 a (hv_XE a cy) σ ++ hv_W 9 b (hv_TE b cy) τ) (lv_val (some (.int (1 : Int32))) (hv_W 55 a (hv_XE a cy) o.1 ++ hv_W 9 b (hv_TE b cy) o.2)) := by
  refine lv_enter (own := RL) (cc := cL_isKind) (maxL := 7) (ret := (some .boolean)) (by decide) rfl rfl (Nat.le_of_ble_eq_true rfl) ?_
  intro p e s m args below meth c A C hA hT hr
  refine r_ws lv_nil ?_
  refine r_lv [0, 1] (lv' := [(0, .ref (a 0)), (1, .ref (b 1))]) rfl ?_
  have key : ∀ κ : Nat, κ + 3 ≤ 3 → hv_J p l e (headSpec wsL_isKind rmQ_isKind).room s m args below meth c 7 D A κ (12 * κ) (MQ below (lv_Q D (lv_val (some (.int (1 : Int32))) (hv_W 55 a (hv_XE a cy) o.1 ++ hv_W 9 b (hv_TE b cy) o.2)) A) args s 3 (12 * 3) A) (hv_W 55 a (hv_XE a cy) (σ) ++ (hv_W 9 b (hv_TE b cy) (τ) ++ [])) 0 [(0, .ref (a 0)), (1, .ref (b 1))] [] := by
    intro κ hκ
    unfold mQ_isKind at h
    refine r_aload_n (pc := 0) C 0 dL_isKind_0 rfl rfl ?_
    refine r_iconst (pc := 1) C (v := (5 : Int32)) dL_isKind_1 (by decide) ?_
    obtain ⟨r2, s2, hc2, h⟩ := hv_b2_some h
    refine r_callV0 (pc := 2) (τ := s2) (v := some (.int (r2))) (As := [.int ((5 : Int32))]) (rest := []) C hA 0 (vX7_count hc2) (cwV 1 C.1.2.2.2.2 gL_isKind_X7_count rfl rfl rfl (by decide +kernel) ⟨(Nat.le_of_ble_eq_true rfl), (Nat.le_of_ble_eq_true rfl)⟩) (Nat.le_of_ble_eq_true rfl) rfl rfl rfl rfl (Nat.le_of_ble_eq_true rfl) dL_isKind_2 (lv_cl0 (MC := 3) (need := 0) (by omega)) ?_
    refine r_st (st' := [.int (r2)]) rfl ?_
    refine r_istore_n (pc := 5) C (lv' := [(2, .int (r2)), (0, .ref (a 0)), (1, .ref (b 1))]) rfl dL_isKind_5 rfl (Nat.le_of_ble_eq_true rfl) rfl ?_
    refine r_aload_n (pc := 6) C 1 dL_isKind_6 rfl rfl ?_
    refine r_bipush (pc := 7) C (v := (6 : Int32)) dL_isKind_7 (by decide) ?_
    obtain ⟨r9, s9, hc9, h⟩ := hv_b2_some h
    refine r_callV0 (pc := 9) (τ := s9) (v := some (.int (r9))) (As := [.int ((6 : Int32))]) (rest := []) C hA 0 (vX7_count hc9) (cwV 1 C.1.2.2.2.2 gL_isKind_X7_count rfl rfl rfl (by decide +kernel) ⟨(Nat.le_of_ble_eq_true rfl), (Nat.le_of_ble_eq_true rfl)⟩) (Nat.le_of_ble_eq_true rfl) rfl rfl rfl rfl (Nat.le_of_ble_eq_true rfl) dL_isKind_9 (lv_cl0 (MC := 3) (need := 0) (by omega)) ?_
    refine r_st (st' := [.int (r9)]) rfl ?_
    refine r_istore_n (pc := 12) C (lv' := [(3, .int (r9)), (2, .int (r2)), (0, .ref (a 0)), (1, .ref (b 1))]) rfl dL_isKind_12 rfl (Nat.le_of_ble_eq_true rfl) rfl ?_
    refine r_aload_n (pc := 13) C 2 dL_isKind_13 rfl rfl ?_
    refine r_iconst (pc := 14) C (v := (3 : Int32)) dL_isKind_14 (by decide) ?_
    obtain ⟨r15, s15, hc15, h⟩ := hv_b2_some h
    refine r_callV0 (pc := 15) (τ := s15) (v := some (.int (r15))) (As := [.int ((3 : Int32))]) (rest := []) C hA 0 (vX7_count hc15) (cwV 1 C.1.2.2.2.2 gL_isKind_X7_count rfl rfl rfl (by decide +kernel) ⟨(Nat.le_of_ble_eq_true rfl), (Nat.le_of_ble_eq_true rfl)⟩) (Nat.le_of_ble_eq_true rfl) rfl rfl rfl rfl (Nat.le_of_ble_eq_true rfl) dL_isKind_15 (lv_cl0 (MC := 3) (need := 0) (by omega)) ?_
    refine r_st (st' := [.int (r15)]) rfl ?_
    refine r_istore (pc := 18) C (lv' := [(4, .int (r15)), (3, .int (r9)), (2, .int (r2)), (0, .ref (a 0)), (1, .ref (b 1))]) rfl dL_isKind_18 (Nat.le_of_ble_eq_true rfl) rfl ?_
    refine r_aload_n (pc := 20) C 3 dL_isKind_20 rfl rfl ?_
    refine r_iconst (pc := 21) C (v := (4 : Int32)) dL_isKind_21 (by decide) ?_
    obtain ⟨r22, s22, hc22, h⟩ := hv_b2_some h
    refine r_callV0 (pc := 22) (τ := s22) (v := some (.int (r22))) (As := [.int ((4 : Int32))]) (rest := []) C hA 0 (vX7_count hc22) (cwV 1 C.1.2.2.2.2 gL_isKind_X7_count rfl rfl rfl (by decide +kernel) ⟨(Nat.le_of_ble_eq_true rfl), (Nat.le_of_ble_eq_true rfl)⟩) (Nat.le_of_ble_eq_true rfl) rfl rfl rfl rfl (Nat.le_of_ble_eq_true rfl) dL_isKind_22 (lv_cl0 (MC := 3) (need := 0) (by omega)) ?_
    refine r_st (st' := [.int (r22)]) rfl ?_
    refine r_istore (pc := 25) C (lv' := [(5, .int (r22)), (4, .int (r15)), (3, .int (r9)), (2, .int (r2)), (0, .ref (a 0)), (1, .ref (b 1))]) rfl dL_isKind_25 (Nat.le_of_ble_eq_true rfl) rfl ?_
    refine r_iload_n (pc := 27) C 3 dL_isKind_27 rfl rfl ?_
    obtain ⟨r28, s28, hc28, h⟩ := hv_b2_some h
    refine r_callB0 (pc := 28) (τ := s28) (v := some (.int (r28))) (As := [.int (r2)]) (rest := []) C hA (vJ6_bitCount_0f7a4 hc28) (va_cwS 1 C.1.2.2.2.2 gL_isKind_J6_bitCount_0f7a4 rfl rfl rfl (by decide +kernel) ⟨(Nat.le_of_ble_eq_true rfl), (Nat.le_of_ble_eq_true rfl)⟩) rfl rfl (Nat.le_of_ble_eq_true rfl) dL_isKind_28 (lv_cl0 (MC := 3) (need := 0) (by omega)) ?_
    refine r_st (st' := [.int (r28)]) rfl ?_
    refine r_iload (pc := 31) C 1 dL_isKind_31 rfl ?_
    refine r_icmp_ge (pc := 33) (tgt := 40) C dL_isKind_33 (by decide) (fun c33 => ?_) (fun c33 => ?_)
    · rw [if_pos c33] at h
      refine r_iload_n (pc := 40) C 2 dL_isKind_40 rfl rfl ?_
      obtain ⟨r41, s41, hc41, h⟩ := hv_b2_some h
      refine r_callB0 (pc := 41) (τ := s41) (v := some (.int (r41))) (As := [.int (r9)]) (rest := []) C hA (vJ6_bitCount_0f7a4 hc41) (va_cwS 1 C.1.2.2.2.2 gL_isKind_J6_bitCount_0f7a4 rfl rfl rfl (by decide +kernel) ⟨(Nat.le_of_ble_eq_true rfl), (Nat.le_of_ble_eq_true rfl)⟩) rfl rfl (Nat.le_of_ble_eq_true rfl) dL_isKind_41 (lv_cl0 (MC := 3) (need := 0) (by omega)) ?_
      refine r_st (st' := [.int (r41)]) rfl ?_
      refine r_iconst (pc := 44) C (v := (2 : Int32)) dL_isKind_44 (by decide) ?_
      refine r_icmp_le (pc := 45) (tgt := 52) C dL_isKind_45 (by decide) (fun c45 => ?_) (fun c45 => ?_)
      · rw [if_pos c45] at h
        refine r_iconst (pc := 52) C (v := (1 : Int32)) dL_isKind_52 (by decide) ?_
        refine r_iload_n (pc := 53) C 2 dL_isKind_53 rfl rfl ?_
        obtain ⟨r54, s54, hc54, h⟩ := hv_b2_some h
        refine r_callB0 (pc := 54) (τ := s54) (v := some (.int (r54))) (As := [.int (r9)]) (rest := [.int ((1 : Int32))]) C hA (vJ6_bitCount_0f7a4 hc54) (va_cwS 1 C.1.2.2.2.2 gL_isKind_J6_bitCount_0f7a4 rfl rfl rfl (by decide +kernel) ⟨(Nat.le_of_ble_eq_true rfl), (Nat.le_of_ble_eq_true rfl)⟩) rfl rfl (Nat.le_of_ble_eq_true rfl) dL_isKind_54 (lv_cl0 (MC := 3) (need := 0) (by omega)) ?_
        refine r_st (st' := [.int (r54), .int ((1 : Int32))]) rfl ?_
        refine r_iadd (pc := 57) C dL_isKind_57 ?_
        have K9 := bQ_isKind_58 (e := e) (below := below) (a := a) (b := b) (n := n) hflag C hA hT hr κ (s54) (τ) (r2) (r9) (r15) (r22) (((1 : Int32)) + (r54)) (by omega) h
        exact r_lv [4, 5, 3, 2, 1, 0] rfl K9
      · rw [if_neg c45] at h
        refine r_iconst (pc := 48) C (v := (4 : Int32)) dL_isKind_48 (by decide) ?_
        refine r_goto (pc := 49) C (tgt := 58) dL_isKind_49 (by decide) ?_
        have K9 := bQ_isKind_58 (e := e) (below := below) (a := a) (b := b) (n := n) hflag C hA hT hr κ (s41) (τ) (r2) (r9) (r15) (r22) ((4 : Int32)) (by omega) h
        exact r_lv [4, 5, 3, 2, 1, 0] rfl K9
    · rw [if_neg c33] at h
      refine r_iconst (pc := 36) C (v := (0 : Int32)) dL_isKind_36 (by decide) ?_
      refine r_goto (pc := 37) C (tgt := 58) dL_isKind_37 (by decide) ?_
      have K9 := bQ_isKind_58 (e := e) (below := below) (a := a) (b := b) (n := n) hflag C hA hT hr κ (s28) (τ) (r2) (r9) (r15) (r22) ((0 : Int32)) (by omega) h
      exact r_lv [4, 5, 3, 2, 1, 0] rfl K9
  exact key 0 (by decide)
end
