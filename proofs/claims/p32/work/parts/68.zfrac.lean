/-! the law's fractions -/
section
variable {p : Program} {l : Launch} {e : Env} {s : State} {m : MethodId} {args : Array Value} {below : List Frame} {meth : Method} {c : Code} {D : va_G} {cy : ClassId × ClassId × ClassId × ClassId} {A : Nat → Prop} {a b : Nat → Nat} {d0 : Nat}
abbrev rmQ_told : Room := { frames := 2, cells := 1, slots := 12 * 1, locals := 52 }
def mQ_told (n : Nat) (p0 : Int64) (p1 : Int64) : Option (Int64 × Int64) := hv_b2 (mL_common n hv_0 (p0) (p1)) fun r2 _ => if 0 ≤ lg_cmp (p1) ((0 : Int64)) then (hv_if (decide (¬ r2 = 0)) (hv_if (decide (¬ r2 = 0)) (some (((p0) / (r2), (p1) / (r2)))))) else (hv_if (decide (¬ r2 = 0)) (hv_if (decide (¬ r2 = 0)) (some (((-(p0)) / (r2), (-(p1)) / (r2))))))
set_option maxRecDepth 20000 in
theorem qL_told_A : Cond.arrayClass .long ∈ wsL_told := by decide +kernel
set_option maxHeartbeats 4000000 in
set_option maxRecDepth 20000 in
theorem vQ_told {n : Nat} {p0 : Int64} {p1 : Int64} {o : Int64 × Int64} (h : mQ_told n p0 p1 = some o) : lv_O l yL_told wsL_told rmQ_told D cy 1 (12 * 1) [.long (p0), .long (p1)] [] (lv_row cy o) := by
  refine lv_enterO (own := RL) (cc := cL_told) (maxL := 6) (ret := (some (.array .long))) (by decide) rfl rfl (Nat.le_of_ble_eq_true rfl) ?_
  intro p e s m args below meth c C hps hr
  unfold mQ_told at h
  refine r_lv [0, 1] (lv' := [(0, .long (p0)), (2, .long (p1))]) rfl ?_
  refine r_lload_n (pc := 0) C 0 dL_told_0 rfl rfl ?_
  refine r_lload_n (pc := 1) C 1 dL_told_1 rfl rfl ?_
  obtain ⟨r2, s2, hc2, h⟩ := hv_b2_some h
  refine r_callP (pc := 2) (v := some (.long (r2))) (As := [.long (p0), .long (p1)]) (rest := []) C (fun _ h => h) (vL_common (a := fun _ => 0) hc2) (va_cwS 2 C.1.2.2.2.2 gL_told_L_common rfl rfl rfl (by decide +kernel) ⟨(Nat.le_of_ble_eq_true rfl), (Nat.le_of_ble_eq_true rfl)⟩) rfl rfl (Nat.le_of_ble_eq_true rfl) dL_told_2 ⟨(Nat.le_of_ble_eq_true rfl), (Nat.le_of_ble_eq_true rfl)⟩ ?_
  refine r_st (st' := [.long (r2)]) rfl ?_
  refine r_lstore (pc := 5) C (lv' := [(4, .long (r2)), (0, .long (p0)), (2, .long (p1))]) rfl dL_told_5 (Nat.le_of_ble_eq_true rfl) rfl ?_
  refine r_lload_n (pc := 7) C 2 dL_told_7 rfl rfl ?_
  refine r_lconst (pc := 8) C (v := (0 : Int64)) dL_told_8 (by decide) ?_
  refine r_lcmp (pc := 9) C dL_told_9 ?_
  refine r_if_ge (pc := 10) (tgt := 35) C dL_told_10 (by decide) (fun c10 => ?_) (fun c10 => ?_)
  · rw [if_pos c10] at h
    refine r_iconst (pc := 35) C (v := (2 : Int32)) dL_told_35 (by decide) ?_
    refine r_newl (pc := 36) C (fun _ h => h) qL_told_A (by decide) (by decide) dL_told_36 (fun q36 => ?_)
    refine r_dup (pc := 38) C dL_told_38 rfl ?_
    refine r_iconst (pc := 39) C (v := (0 : Int32)) dL_told_39 (by decide) ?_
    refine r_lload_n (pc := 40) C 1 dL_told_40 rfl rfl ?_
    refine r_lload (pc := 41) C 0 dL_told_41 rfl ?_
    obtain ⟨k43, h⟩ := hv_if_some h
    refine r_ldiv (pc := 43) C dL_told_43 (of_decide_eq_true k43) ?_
    refine r_last (pc := 44) (ws := []) (q := q36) (f' := vp_updL (fun _ => 0) 0 ((p0) / (r2))) C (by decide) rfl dL_told_44 ?_
    refine r_dup (pc := 45) C dL_told_45 rfl ?_
    refine r_iconst (pc := 46) C (v := (1 : Int32)) dL_told_46 (by decide) ?_
    refine r_lload_n (pc := 47) C 2 dL_told_47 rfl rfl ?_
    refine r_lload (pc := 48) C 0 dL_told_48 rfl ?_
    obtain ⟨k50, h⟩ := hv_if_some h
    refine r_ldiv (pc := 50) C dL_told_50 (of_decide_eq_true k50) ?_
    refine r_last (pc := 51) (ws := []) (q := q36) (f' := vp_updL (vp_updL (fun _ => 0) 0 ((p0) / (r2))) 1 ((p1) / (r2))) C (by decide) rfl dL_told_51 ?_
    cases h
    exact r_aret (pc := 52) C (List.Sublist.refl _) ⟨_, rfl, rfl⟩ hr (Or.inr ⟨_, rfl⟩) dL_told_52 (by decide) (by decide)
  · rw [if_neg c10] at h
    refine r_iconst (pc := 13) C (v := (2 : Int32)) dL_told_13 (by decide) ?_
    refine r_newl (pc := 14) C (fun _ h => h) qL_told_A (by decide) (by decide) dL_told_14 (fun q14 => ?_)
    refine r_dup (pc := 16) C dL_told_16 rfl ?_
    refine r_iconst (pc := 17) C (v := (0 : Int32)) dL_told_17 (by decide) ?_
    refine r_lload_n (pc := 18) C 1 dL_told_18 rfl rfl ?_
    refine r_lneg (pc := 19) C dL_told_19 ?_
    refine r_lload (pc := 20) C 0 dL_told_20 rfl ?_
    obtain ⟨k22, h⟩ := hv_if_some h
    refine r_ldiv (pc := 22) C dL_told_22 (of_decide_eq_true k22) ?_
    refine r_last (pc := 23) (ws := []) (q := q14) (f' := vp_updL (fun _ => 0) 0 ((-(p0)) / (r2))) C (by decide) rfl dL_told_23 ?_
    refine r_dup (pc := 24) C dL_told_24 rfl ?_
    refine r_iconst (pc := 25) C (v := (1 : Int32)) dL_told_25 (by decide) ?_
    refine r_lload_n (pc := 26) C 2 dL_told_26 rfl rfl ?_
    refine r_lneg (pc := 27) C dL_told_27 ?_
    refine r_lload (pc := 28) C 0 dL_told_28 rfl ?_
    obtain ⟨k30, h⟩ := hv_if_some h
    refine r_ldiv (pc := 30) C dL_told_30 (of_decide_eq_true k30) ?_
    refine r_last (pc := 31) (ws := []) (q := q14) (f' := vp_updL (vp_updL (fun _ => 0) 0 ((-(p0)) / (r2))) 1 ((-(p1)) / (r2))) C (by decide) rfl dL_told_31 ?_
    refine r_goto (pc := 32) C (tgt := 52) dL_told_32 (by decide) ?_
    cases h
    exact r_aret (pc := 52) C (List.Sublist.refl _) ⟨_, rfl, rfl⟩ hr (Or.inr ⟨_, rfl⟩) dL_told_52 (by decide) (by decide)
abbrev rmQ_plus : Room := { frames := 3, cells := 1, slots := 12 * 1, locals := 77 }
def mQ_plus (n : Nat) (p0 : Int64 × Int64) (p1 : Int64 × Int64) : Option (Int64 × Int64) := hv_b2 (mL_common n hv_0 ((p0).2) ((p1).2)) fun r6 _ => hv_if (decide (¬ r6 = 0)) (hv_if (decide (¬ r6 = 0)) (hv_if (decide (¬ r6 = 0)) (hv_bd (mQ_told n ((((p0).1) * (((p1).2) / (r6))) + (((p1).1) * (((p0).2) / (r6)))) ((((p0).2) / (r6)) * ((p1).2))) fun r38 => some (r38))))
set_option maxHeartbeats 4000000 in
set_option maxRecDepth 20000 in
theorem vQ_plus {n : Nat} {p0 : Int64 × Int64} {p1 : Int64 × Int64} {q0 : Nat} {q1 : Nat} {o : Int64 × Int64} (h : mQ_plus n p0 p1 = some o) : lv_O l yL_plus wsL_plus rmQ_plus D cy 1 (12 * 1) [.ref q0, .ref q1] [(q0, hv_row cy p0.1 p0.2), (q1, hv_row cy p1.1 p1.2)] (lv_row cy o) := by
  refine lv_enterO (own := RL) (cc := cL_plus) (maxL := 4) (ret := (some (.array .long))) (by decide) rfl rfl (Nat.le_of_ble_eq_true rfl) ?_
  intro p e s m args below meth c C hps hr
  unfold mQ_plus at h
  refine r_lv [0, 1] (lv' := [(0, .ref q0), (1, .ref q1)]) rfl ?_
  refine r_aload_n (pc := 0) C 0 dL_plus_0 rfl rfl ?_
  refine r_iconst (pc := 1) C (v := (1 : Int32)) dL_plus_1 (by decide) ?_
  refine r_old1 (pc := 2) C hps (u := (p0).1) (v := (p0).2) (List.mem_cons_self) dL_plus_2 ?_
  refine r_aload_n (pc := 3) C 1 dL_plus_3 rfl rfl ?_
  refine r_iconst (pc := 4) C (v := (1 : Int32)) dL_plus_4 (by decide) ?_
  refine r_old1 (pc := 5) C hps (u := (p1).1) (v := (p1).2) (List.mem_cons_of_mem _ List.mem_cons_self) dL_plus_5 ?_
  obtain ⟨r6, s6, hc6, h⟩ := hv_b2_some h
  refine r_callP (pc := 6) (v := some (.long (r6))) (As := [.long ((p0).2), .long ((p1).2)]) (rest := []) C (fun _ h => h) (vL_common (a := fun _ => 0) hc6) (va_cwS 2 C.1.2.2.2.2 gL_plus_L_common rfl rfl rfl (by decide +kernel) ⟨(Nat.le_of_ble_eq_true rfl), (Nat.le_of_ble_eq_true rfl)⟩) rfl rfl (Nat.le_of_ble_eq_true rfl) dL_plus_6 ⟨(Nat.le_of_ble_eq_true rfl), (Nat.le_of_ble_eq_true rfl)⟩ ?_
  refine r_st (st' := [.long (r6)]) rfl ?_
  refine r_lstore_n (pc := 9) C (lv' := [(2, .long (r6)), (0, .ref q0), (1, .ref q1)]) rfl dL_plus_9 rfl (Nat.le_of_ble_eq_true rfl) rfl ?_
  refine r_aload_n (pc := 10) C 1 dL_plus_10 rfl rfl ?_
  refine r_iconst (pc := 11) C (v := (0 : Int32)) dL_plus_11 (by decide) ?_
  refine r_old0 (pc := 12) C hps (u := (p0).1) (v := (p0).2) (List.mem_cons_self) dL_plus_12 ?_
  refine r_aload_n (pc := 13) C 2 dL_plus_13 rfl rfl ?_
  refine r_iconst (pc := 14) C (v := (1 : Int32)) dL_plus_14 (by decide) ?_
  refine r_old1 (pc := 15) C hps (u := (p1).1) (v := (p1).2) (List.mem_cons_of_mem _ List.mem_cons_self) dL_plus_15 ?_
  refine r_lload_n (pc := 16) C 0 dL_plus_16 rfl rfl ?_
  obtain ⟨k17, h⟩ := hv_if_some h
  refine r_ldiv (pc := 17) C dL_plus_17 (of_decide_eq_true k17) ?_
  refine r_lmul (pc := 18) C dL_plus_18 ?_
  refine r_aload_n (pc := 19) C 2 dL_plus_19 rfl rfl ?_
  refine r_iconst (pc := 20) C (v := (0 : Int32)) dL_plus_20 (by decide) ?_
  refine r_old0 (pc := 21) C hps (u := (p1).1) (v := (p1).2) (List.mem_cons_of_mem _ List.mem_cons_self) dL_plus_21 ?_
  refine r_aload_n (pc := 22) C 1 dL_plus_22 rfl rfl ?_
  refine r_iconst (pc := 23) C (v := (1 : Int32)) dL_plus_23 (by decide) ?_
  refine r_old1 (pc := 24) C hps (u := (p0).1) (v := (p0).2) (List.mem_cons_self) dL_plus_24 ?_
  refine r_lload_n (pc := 25) C 0 dL_plus_25 rfl rfl ?_
  obtain ⟨k26, h⟩ := hv_if_some h
  refine r_ldiv (pc := 26) C dL_plus_26 (of_decide_eq_true k26) ?_
  refine r_lmul (pc := 27) C dL_plus_27 ?_
  refine r_ladd (pc := 28) C dL_plus_28 ?_
  refine r_aload_n (pc := 29) C 1 dL_plus_29 rfl rfl ?_
  refine r_iconst (pc := 30) C (v := (1 : Int32)) dL_plus_30 (by decide) ?_
  refine r_old1 (pc := 31) C hps (u := (p0).1) (v := (p0).2) (List.mem_cons_self) dL_plus_31 ?_
  refine r_lload_n (pc := 32) C 0 dL_plus_32 rfl rfl ?_
  obtain ⟨k33, h⟩ := hv_if_some h
  refine r_ldiv (pc := 33) C dL_plus_33 (of_decide_eq_true k33) ?_
  refine r_aload_n (pc := 34) C 2 dL_plus_34 rfl rfl ?_
  refine r_iconst (pc := 35) C (v := (1 : Int32)) dL_plus_35 (by decide) ?_
  refine r_old1 (pc := 36) C hps (u := (p1).1) (v := (p1).2) (List.mem_cons_of_mem _ List.mem_cons_self) dL_plus_36 ?_
  refine r_lmul (pc := 37) C dL_plus_37 ?_
  obtain ⟨r38, hc38, h⟩ := hv_bd_some h
  refine r_callO (pc := 38) (ps := []) (As := [.long ((((p0).1) * (((p1).2) / (r6))) + (((p1).1) * (((p0).2) / (r6)))), .long ((((p0).2) / (r6)) * ((p1).2))]) (rest := []) C (fun _ h => h) (List.forall_mem_nil _) (vQ_told hc38) (va_cwS 2 C.1.2.2.2.2 gL_plus_L_told rfl rfl rfl (by decide +kernel) ⟨(Nat.le_of_ble_eq_true rfl), (Nat.le_of_ble_eq_true rfl)⟩) rfl rfl (Nat.le_of_ble_eq_true rfl) dL_plus_38 ⟨(Nat.le_of_ble_eq_true rfl), (Nat.le_of_ble_eq_true rfl)⟩ (fun v w hR => ?_)
  obtain ⟨q38, rfl, rfl⟩ := hR
  refine r_st (st' := [.ref q38]) rfl ?_
  refine r_ws (ws' := [(q38, hv_row cy (r38).1 (r38).2)]) rfl ?_
  cases h
  exact r_aret (pc := 41) C (List.Sublist.refl _) ⟨_, rfl, rfl⟩ hr (Or.inr ⟨_, rfl⟩) dL_plus_41 (by decide) (by decide)
abbrev rmQ_times : Room := { frames := 3, cells := 1, slots := 12 * 1, locals := 77 }
def mQ_times (n : Nat) (p0 : Int64 × Int64) (p1 : Int64 × Int64) : Option (Int64 × Int64) := hv_b2 (mL_common n hv_0 ((p0).1) ((p1).2)) fun r6 _ => hv_b2 (mL_common n hv_0 ((p1).1) ((p0).2)) fun r16 _ => hv_if (decide (¬ r6 = 0)) (hv_if (decide (¬ r16 = 0)) (hv_if (decide (¬ r16 = 0)) (hv_if (decide (¬ r6 = 0)) (hv_bd (mQ_told n ((((p0).1) / (r6)) * (((p1).1) / (r16))) ((((p0).2) / (r16)) * (((p1).2) / (r6)))) fun r45 => some (r45)))))
set_option maxHeartbeats 4000000 in
set_option maxRecDepth 20000 in
theorem vQ_times {n : Nat} {p0 : Int64 × Int64} {p1 : Int64 × Int64} {q0 : Nat} {q1 : Nat} {o : Int64 × Int64} (h : mQ_times n p0 p1 = some o) : lv_O l yL_times wsL_times rmQ_times D cy 1 (12 * 1) [.ref q0, .ref q1] [(q0, hv_row cy p0.1 p0.2), (q1, hv_row cy p1.1 p1.2)] (lv_row cy o) := by
  refine lv_enterO (own := RL) (cc := cL_times) (maxL := 6) (ret := (some (.array .long))) (by decide) rfl rfl (Nat.le_of_ble_eq_true rfl) ?_
  intro p e s m args below meth c C hps hr
  unfold mQ_times at h
  refine r_lv [0, 1] (lv' := [(0, .ref q0), (1, .ref q1)]) rfl ?_
  refine r_aload_n (pc := 0) C 0 dL_times_0 rfl rfl ?_
  refine r_iconst (pc := 1) C (v := (0 : Int32)) dL_times_1 (by decide) ?_
  refine r_old0 (pc := 2) C hps (u := (p0).1) (v := (p0).2) (List.mem_cons_self) dL_times_2 ?_
  refine r_aload_n (pc := 3) C 1 dL_times_3 rfl rfl ?_
  refine r_iconst (pc := 4) C (v := (1 : Int32)) dL_times_4 (by decide) ?_
  refine r_old1 (pc := 5) C hps (u := (p1).1) (v := (p1).2) (List.mem_cons_of_mem _ List.mem_cons_self) dL_times_5 ?_
  obtain ⟨r6, s6, hc6, h⟩ := hv_b2_some h
  refine r_callP (pc := 6) (v := some (.long (r6))) (As := [.long ((p0).1), .long ((p1).2)]) (rest := []) C (fun _ h => h) (vL_common (a := fun _ => 0) hc6) (va_cwS 2 C.1.2.2.2.2 gL_times_L_common rfl rfl rfl (by decide +kernel) ⟨(Nat.le_of_ble_eq_true rfl), (Nat.le_of_ble_eq_true rfl)⟩) rfl rfl (Nat.le_of_ble_eq_true rfl) dL_times_6 ⟨(Nat.le_of_ble_eq_true rfl), (Nat.le_of_ble_eq_true rfl)⟩ ?_
  refine r_st (st' := [.long (r6)]) rfl ?_
  refine r_lstore_n (pc := 9) C (lv' := [(2, .long (r6)), (0, .ref q0), (1, .ref q1)]) rfl dL_times_9 rfl (Nat.le_of_ble_eq_true rfl) rfl ?_
  refine r_aload_n (pc := 10) C 2 dL_times_10 rfl rfl ?_
  refine r_iconst (pc := 11) C (v := (0 : Int32)) dL_times_11 (by decide) ?_
  refine r_old0 (pc := 12) C hps (u := (p1).1) (v := (p1).2) (List.mem_cons_of_mem _ List.mem_cons_self) dL_times_12 ?_
  refine r_aload_n (pc := 13) C 1 dL_times_13 rfl rfl ?_
  refine r_iconst (pc := 14) C (v := (1 : Int32)) dL_times_14 (by decide) ?_
  refine r_old1 (pc := 15) C hps (u := (p0).1) (v := (p0).2) (List.mem_cons_self) dL_times_15 ?_
  obtain ⟨r16, s16, hc16, h⟩ := hv_b2_some h
  refine r_callP (pc := 16) (v := some (.long (r16))) (As := [.long ((p1).1), .long ((p0).2)]) (rest := []) C (fun _ h => h) (vL_common (a := fun _ => 0) hc16) (va_cwS 2 C.1.2.2.2.2 gL_times_L_common rfl rfl rfl (by decide +kernel) ⟨(Nat.le_of_ble_eq_true rfl), (Nat.le_of_ble_eq_true rfl)⟩) rfl rfl (Nat.le_of_ble_eq_true rfl) dL_times_16 ⟨(Nat.le_of_ble_eq_true rfl), (Nat.le_of_ble_eq_true rfl)⟩ ?_
  refine r_st (st' := [.long (r16)]) rfl ?_
  refine r_lstore (pc := 19) C (lv' := [(4, .long (r16)), (2, .long (r6)), (0, .ref q0), (1, .ref q1)]) rfl dL_times_19 (Nat.le_of_ble_eq_true rfl) rfl ?_
  refine r_aload_n (pc := 21) C 2 dL_times_21 rfl rfl ?_
  refine r_iconst (pc := 22) C (v := (0 : Int32)) dL_times_22 (by decide) ?_
  refine r_old0 (pc := 23) C hps (u := (p0).1) (v := (p0).2) (List.mem_cons_self) dL_times_23 ?_
  refine r_lload_n (pc := 24) C 1 dL_times_24 rfl rfl ?_
  obtain ⟨k25, h⟩ := hv_if_some h
  refine r_ldiv (pc := 25) C dL_times_25 (of_decide_eq_true k25) ?_
  refine r_aload_n (pc := 26) C 3 dL_times_26 rfl rfl ?_
  refine r_iconst (pc := 27) C (v := (0 : Int32)) dL_times_27 (by decide) ?_
  refine r_old0 (pc := 28) C hps (u := (p1).1) (v := (p1).2) (List.mem_cons_of_mem _ List.mem_cons_self) dL_times_28 ?_
  refine r_lload (pc := 29) C 0 dL_times_29 rfl ?_
  obtain ⟨k31, h⟩ := hv_if_some h
  refine r_ldiv (pc := 31) C dL_times_31 (of_decide_eq_true k31) ?_
  refine r_lmul (pc := 32) C dL_times_32 ?_
  refine r_aload_n (pc := 33) C 2 dL_times_33 rfl rfl ?_
  refine r_iconst (pc := 34) C (v := (1 : Int32)) dL_times_34 (by decide) ?_
  refine r_old1 (pc := 35) C hps (u := (p0).1) (v := (p0).2) (List.mem_cons_self) dL_times_35 ?_
  refine r_lload (pc := 36) C 0 dL_times_36 rfl ?_
  obtain ⟨k38, h⟩ := hv_if_some h
  refine r_ldiv (pc := 38) C dL_times_38 (of_decide_eq_true k38) ?_
  refine r_aload_n (pc := 39) C 3 dL_times_39 rfl rfl ?_
  refine r_iconst (pc := 40) C (v := (1 : Int32)) dL_times_40 (by decide) ?_
  refine r_old1 (pc := 41) C hps (u := (p1).1) (v := (p1).2) (List.mem_cons_of_mem _ List.mem_cons_self) dL_times_41 ?_
  refine r_lload_n (pc := 42) C 1 dL_times_42 rfl rfl ?_
  obtain ⟨k43, h⟩ := hv_if_some h
  refine r_ldiv (pc := 43) C dL_times_43 (of_decide_eq_true k43) ?_
  refine r_lmul (pc := 44) C dL_times_44 ?_
  obtain ⟨r45, hc45, h⟩ := hv_bd_some h
  refine r_callO (pc := 45) (ps := []) (As := [.long ((((p0).1) / (r6)) * (((p1).1) / (r16))), .long ((((p0).2) / (r16)) * (((p1).2) / (r6)))]) (rest := []) C (fun _ h => h) (List.forall_mem_nil _) (vQ_told hc45) (va_cwS 2 C.1.2.2.2.2 gL_times_L_told rfl rfl rfl (by decide +kernel) ⟨(Nat.le_of_ble_eq_true rfl), (Nat.le_of_ble_eq_true rfl)⟩) rfl rfl (Nat.le_of_ble_eq_true rfl) dL_times_45 ⟨(Nat.le_of_ble_eq_true rfl), (Nat.le_of_ble_eq_true rfl)⟩ (fun v w hR => ?_)
  obtain ⟨q45, rfl, rfl⟩ := hR
  refine r_st (st' := [.ref q45]) rfl ?_
  refine r_ws (ws' := [(q45, hv_row cy (r45).1 (r45).2)]) rfl ?_
  cases h
  exact r_aret (pc := 48) C (List.Sublist.refl _) ⟨_, rfl, rfl⟩ hr (Or.inr ⟨_, rfl⟩) dL_times_48 (by decide) (by decide)
abbrev rmQ_whole : Room := { frames := 0, cells := 1, slots := 12 * 1, locals := 0 }
def mQ_whole (n : Nat) (p0 : Int64) : Option (Int64 × Int64) := some ((p0, (1 : Int64)))
set_option maxRecDepth 20000 in
theorem qL_whole_A : Cond.arrayClass .long ∈ wsL_whole := by decide +kernel
set_option maxHeartbeats 4000000 in
set_option maxRecDepth 20000 in
theorem vQ_whole {n : Nat} {p0 : Int64} {o : Int64 × Int64} (h : mQ_whole n p0 = some o) : lv_O l yL_whole wsL_whole rmQ_whole D cy 1 (12 * 1) [.long (p0)] [] (lv_row cy o) := by
  refine lv_enterO (own := RL) (cc := cL_whole) (maxL := 2) (ret := (some (.array .long))) (by decide) rfl rfl (Nat.le_of_ble_eq_true rfl) ?_
  intro p e s m args below meth c C hps hr
  unfold mQ_whole at h
  refine r_lv [0] (lv' := [(0, .long (p0))]) rfl ?_
  refine r_iconst (pc := 0) C (v := (2 : Int32)) dL_whole_0 (by decide) ?_
  refine r_newl (pc := 1) C (fun _ h => h) qL_whole_A (by decide) (by decide) dL_whole_1 (fun q1 => ?_)
  refine r_dup (pc := 3) C dL_whole_3 rfl ?_
  refine r_iconst (pc := 4) C (v := (0 : Int32)) dL_whole_4 (by decide) ?_
  refine r_lload_n (pc := 5) C 0 dL_whole_5 rfl rfl ?_
  refine r_last (pc := 6) (ws := []) (q := q1) (f' := vp_updL (fun _ => 0) 0 (p0)) C (by decide) rfl dL_whole_6 ?_
  refine r_dup (pc := 7) C dL_whole_7 rfl ?_
  refine r_iconst (pc := 8) C (v := (1 : Int32)) dL_whole_8 (by decide) ?_
  refine r_lconst (pc := 9) C (v := (1 : Int64)) dL_whole_9 (by decide) ?_
  refine r_last (pc := 10) (ws := []) (q := q1) (f' := vp_updL (vp_updL (fun _ => 0) 0 (p0)) 1 ((1 : Int64))) C (by decide) rfl dL_whole_10 ?_
  cases h
  exact r_aret (pc := 11) C (List.Sublist.refl _) ⟨_, rfl, rfl⟩ hr (Or.inr ⟨_, rfl⟩) dL_whole_11 (by decide) (by decide)
abbrev rmQ_isLeast : Room := { frames := 2, cells := 0, slots := 12 * 0, locals := 52 }
def mQ_isLeast (n : Nat) (p0 : Int64 × Int64) : Option Int32 := if lg_cmp ((p0).2) ((0 : Int64)) ≤ 0 then (none) else (hv_b2 (mL_common n hv_0 ((p0).1) ((p0).2)) fun r18 _ => if lg_cmp (r18) ((1 : Int64)) = 0 then (some (1 : Int32)) else (none))
set_option maxHeartbeats 4000000 in
set_option maxRecDepth 20000 in
theorem vQ_isLeast {n : Nat} {p0 : Int64 × Int64} {q0 : Nat} {o : Int32} (h : mQ_isLeast n p0 = some o) : lv_O l yL_isLeast wsL_isLeast rmQ_isLeast D cy 0 (12 * 0) [.ref q0] [(q0, hv_row cy p0.1 p0.2)] (lv_val (some (.int o)) []) := by
  refine lv_enterO (own := RL) (cc := cL_isLeast) (maxL := 1) (ret := (some .boolean)) (by decide) rfl rfl (Nat.le_of_ble_eq_true rfl) ?_
  intro p e s m args below meth c C hps hr
  unfold mQ_isLeast at h
  refine r_lv [0] (lv' := [(0, .ref q0)]) rfl ?_
  refine r_aload_n (pc := 0) C 0 dL_isLeast_0 rfl rfl ?_
  refine r_ifnull (pc := 1) C dL_isLeast_1 ?_
  refine r_aload_n (pc := 4) C 0 dL_isLeast_4 rfl rfl ?_
  refine r_iconst (pc := 5) C (v := (1 : Int32)) dL_isLeast_5 (by decide) ?_
  refine r_old1 (pc := 6) C hps (u := (p0).1) (v := (p0).2) (List.mem_cons_self) dL_isLeast_6 ?_
  refine r_lconst (pc := 7) C (v := (0 : Int64)) dL_isLeast_7 (by decide) ?_
  refine r_lcmp (pc := 8) C dL_isLeast_8 ?_
  refine r_if_le (pc := 9) (tgt := 30) C dL_isLeast_9 (by decide) (fun c9 => ?_) (fun c9 => ?_)
  · rw [if_pos c9] at h
    cases h
  · rw [if_neg c9] at h
    refine r_aload_n (pc := 12) C 0 dL_isLeast_12 rfl rfl ?_
    refine r_iconst (pc := 13) C (v := (0 : Int32)) dL_isLeast_13 (by decide) ?_
    refine r_old0 (pc := 14) C hps (u := (p0).1) (v := (p0).2) (List.mem_cons_self) dL_isLeast_14 ?_
    refine r_aload_n (pc := 15) C 0 dL_isLeast_15 rfl rfl ?_
    refine r_iconst (pc := 16) C (v := (1 : Int32)) dL_isLeast_16 (by decide) ?_
    refine r_old1 (pc := 17) C hps (u := (p0).1) (v := (p0).2) (List.mem_cons_self) dL_isLeast_17 ?_
    obtain ⟨r18, s18, hc18, h⟩ := hv_b2_some h
    refine r_callP (pc := 18) (v := some (.long (r18))) (As := [.long ((p0).1), .long ((p0).2)]) (rest := []) C (fun _ h => h) (vL_common (a := fun _ => 0) hc18) (va_cwS 2 C.1.2.2.2.2 gL_isLeast_L_common rfl rfl rfl (by decide +kernel) ⟨(Nat.le_of_ble_eq_true rfl), (Nat.le_of_ble_eq_true rfl)⟩) rfl rfl (Nat.le_of_ble_eq_true rfl) dL_isLeast_18 ⟨(Nat.le_of_ble_eq_true rfl), (Nat.le_of_ble_eq_true rfl)⟩ ?_
    refine r_st (st' := [.long (r18)]) rfl ?_
    refine r_lconst (pc := 21) C (v := (1 : Int64)) dL_isLeast_21 (by decide) ?_
    refine r_lcmp (pc := 22) C dL_isLeast_22 ?_
    refine r_if_ne (pc := 23) (tgt := 30) C dL_isLeast_23 (by decide) (fun c23 => ?_) (fun c23 => ?_)
    · rw [if_neg c23] at h
      cases h
    · rw [if_pos c23] at h
      refine r_iconst (pc := 26) C (v := (1 : Int32)) dL_isLeast_26 (by decide) ?_
      refine r_goto (pc := 27) C (tgt := 31) dL_isLeast_27 (by decide) ?_
      cases h
      exact r_zret (pc := 31) C (List.Sublist.refl _) ⟨rfl, rfl⟩ hr (by decide) dL_isLeast_31 (by decide) (by decide)
end
