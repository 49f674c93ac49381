/-! the law's start: what stands at its entry; its three new things; then the loop -/
def hv_a0 (aX : Nat → Nat) (qo : Nat) (aM : Nat → Nat) : Nat → Nat := fun k => if k < 55 then aX k else if k = 55 then qo else aM (k - 56)
theorem hv_W_start (aX : Nat → Nat) (qo : Nat) (aM : Nat → Nat) (cy : ClassId × ClassId × ClassId × ClassId) : (hv_W 55 aX (hv_XE aX cy) hv_0 ++ [(qo, .inl (cy.2.1, 1, .inr (.inl (fun _ => 0))))]) ++ hv_W 23 aM (hv_ME aM cy) hv_0 = hv_W 79 (hv_a0 aX qo aM) (hv_LE (hv_a0 aX qo aM) cy) hv_0 := by
  have eX : ∀ j, j < 55 → hv_a0 aX qo aM j = aX j := fun j hj => if_pos hj
  have e1 : List.range 79 = (List.range 55 ++ [55]) ++ (List.range 23).map (56 + ·) := by decide
  unfold hv_W
  rw [e1, List.map_append, List.map_append, List.map_map]
  congr 1
  · congr 1
    apply List.map_congr_left
    intro j hj
    have hl : j < 55 := List.mem_range.mp hj
    show (aX j, hv_XE aX cy j _ _) = (hv_a0 aX qo aM j, hv_LE (hv_a0 aX qo aM) cy j _ _)
    rw [eX j hl]
    have e2 : hv_LE (hv_a0 aX qo aM) cy j = hv_XE aX cy j := funext fun f => funext fun g => by
      exact ((hv_LE_X (hv_a0 aX qo aM) cy j hl f g).symm).trans (hv_XE_congr (a := fun i => hv_a0 aX qo aM (i + 0)) (fun i hi => eX i hi) j hl f g)
    rw [e2]
theorem hv_tw_in : ∀ w ∈ hv_tw, w ∈ lw_tbl := by decide +kernel
theorem hv_ns_in : ∀ w ∈ hv_ns, w ∈ lw_tbl := by decide +kernel
theorem hv_lI0 : Cond.instantiable RX0 9 ∈ lw_tbl := by decide +kernel
theorem hv_lI1 : Cond.instantiable RX1 5 ∈ lw_tbl := by decide +kernel
theorem hv_lI2 : Cond.instantiable RX2 2 ∈ lw_tbl := by decide +kernel
theorem hv_lI3 : Cond.instantiable RX3 10 ∈ lw_tbl := by decide +kernel
theorem hv_lI4 : Cond.instantiable RX4 4 ∈ lw_tbl := by decide +kernel
theorem hv_lI5 : Cond.instantiable RX5 7 ∈ lw_tbl := by decide +kernel
theorem hv_lI6 : Cond.instantiable RX6 5 ∈ lw_tbl := by decide +kernel
theorem hv_lI7 : Cond.instantiable RX7 7 ∈ lw_tbl := by decide +kernel
theorem hv_lI8 : Cond.instantiable RX8 35 ∈ lw_tbl := by decide +kernel
theorem hv_lAi : Cond.arrayClass .int ∈ lw_tbl := by decide +kernel
theorem hv_lAj : Cond.arrayClass .long ∈ lw_tbl := by decide +kernel
theorem hv_lAz : Cond.arrayClass .boolean ∈ lw_tbl := by decide +kernel
theorem hv_lAO : Cond.arrayOver (.array .long) ∈ lw_tbl := by decide +kernel
theorem hv_lU : Cond.laysStatic Bundle.tN "UNASSIGNED_STACK" Bundle.steD ∈ lw_tbl := by decide +kernel
theorem hv_lN : Cond.laysStatic Bundle.tN "SUPPRESSED_SENTINEL" Bundle.listD ∈ lw_tbl := by decide +kernel
theorem hv_lT : Cond.initialized Bundle.tN ∈ lw_tbl := by decide +kernel
/-- the layouts and the array classes, of the tables -/
theorem hv_known {s : State} {b : Nat} (hts : ∀ w ∈ lw_tbl, w.before #[Value.ref b] s = true) : ∃ (D : va_G) (cy : ClassId × ClassId × ClassId × ClassId), hv_K D (hv_tys cy) s ∧ va_AOA .long s := by
  obtain ⟨c0, i0, k0⟩ := u_known hts inX0 (hts _ hv_lI0)
  obtain ⟨c1, i1, k1⟩ := u_known hts inX1 (hts _ hv_lI1)
  obtain ⟨c2, i2, k2⟩ := u_known hts inX2 (hts _ hv_lI2)
  obtain ⟨c3, i3, k3⟩ := u_known hts inX3 (hts _ hv_lI3)
  obtain ⟨c4, i4, k4⟩ := u_known hts inX4 (hts _ hv_lI4)
  obtain ⟨c5, i5, k5⟩ := u_known hts inX5 (hts _ hv_lI5)
  obtain ⟨c6, i6, k6⟩ := u_known hts inX6 (hts _ hv_lI6)
  obtain ⟨c7, i7, k7⟩ := u_known hts inX7 (hts _ hv_lI7)
  obtain ⟨c8, i8, k8⟩ := u_known hts inX8 (hts _ hv_lI8)
  obtain ⟨cI, kI, oI, fI, gI, hI⟩ := Cond.arrayClass_spec (hts _ hv_lAi)
  obtain ⟨cJ, kJ, oJ, fJ, gJ, hJ⟩ := Cond.arrayClass_spec (hts _ hv_lAj)
  obtain ⟨cZ, kZ, oZ, fZ, gZ, hZ⟩ := Cond.arrayClass_spec (hts _ hv_lAz)
  obtain ⟨oA, cA, kA, f1, f2, gA, hA, fA⟩ := arrayOverA_spec (hts _ hv_lAO)
  have aI : ArrOfT s cI .int := fun _ _ => ⟨(fun k h => by cases h), kI, gI, oI, hI⟩
  have aJ : ArrOfT s cJ .long := fun _ _ => ⟨(fun k h => by cases h), kJ, gJ, oJ, hJ⟩
  have aZ : ArrOfT s cZ .boolean := fun _ _ => ⟨(fun k h => by cases h), kZ, gZ, oZ, hZ⟩
  have aA : ArrOfT s cA (.array .long) := fun _ _ => ⟨(fun k h => by cases h), kA, gA, oA, hA⟩
  refine ⟨(fun c => match c with | 0 => c0 | 1 => c1 | 2 => c2 | 3 => c3 | 4 => c4 | 5 => c5 | 6 => c6 | 7 => c7 | _ => c8, fun c => match c with | 0 => i0 | 1 => i1 | 2 => i2 | 3 => i3 | 4 => i4 | 5 => i5 | 6 => i6 | 7 => i7 | _ => i8), (cI, cJ, cZ, cA), ⟨⟨fun c q hq => ?_, fun k q hq => ?_⟩, fun w hw => ?_⟩, va_AOA.of (hts _ hv_lAO)⟩
  · match c, hq with
    | 0, hq => cases hq; exact k0
    | 1, hq => cases hq; exact k1
    | 2, hq => cases hq; exact k2
    | 3, hq => cases hq; exact k3
    | 4, hq => cases hq; exact k4
    | 5, hq => cases hq; exact k5
    | 6, hq => cases hq; exact k6
    | 7, hq => cases hq; exact k7
    | 8, hq => cases hq; exact k8
    | c + 9, hq => cases hq
  · match k, hq with
    | 0, hq => cases hq; exact ⟨aI, fI⟩
    | 1, hq => cases hq; exact ⟨aJ, fJ⟩
    | 2, hq => cases hq; exact ⟨aZ, fZ⟩
    | 3, hq => cases hq; exact ⟨aA, fA⟩
    | k + 4, hq => cases hq
  · obtain ⟨x, i, y, q, e9⟩ := hv_ns_form w hw
    have h9 := hts _ (hv_ns_in w hw)
    subst e9
    exact va_Nw.of rfl h9
theorem hv_T0 {s : State} {b : Nat} (hts : ∀ w ∈ lw_tbl, w.before #[Value.ref b] s = true) (hgv : (Jvm.Cond.and given_1 narrow_1).before #[Value.ref b] s = true) {N : Nat} {a : Nat → Nat} (ha : ∀ j, j < N → s.heap.size ≤ a j) : hv_T N a s := by
  have hn : ∀ q : Nat, q < s.heap.size → ¬ hv_A N a s.heap.size q := fun q hq h => by
    rcases h with ⟨j, hj, e1⟩ | h
    · have := ha j hj
      omega
    · omega
  have hs := flat_of_before _ hgv
  refine ⟨vx_Zqof (hts _ hv_lU) (hts _ hv_lT) (hs _ (by decide +kernel)) hn, vx_Zqof (hts _ hv_lN) (hts _ hv_lT) (hs _ (by decide +kernel)) hn, fun w hw => ?_⟩
  have h9 := hts _ (hv_tw_in w hw)
  rcases hv_tw_form w hw with ⟨x, t, e9⟩ | ⟨x, e9⟩
  · subst e9
    exact va_Nw.of rfl h9
  · subst e9
    exact va_Nw.of rfl h9
theorem qL_law_C8 : Cond.classLink RL 8 RX7 ∈ wsL_law := by decide +kernel
theorem qL_law_NX7 : Cond.instantiable RX7 7 ∈ wsL_law := by decide +kernel
theorem qL_law_SX7 : Cond.initialized RX7 ∈ wsL_law := by decide +kernel
theorem qL_law_L45 : Cond.methodLink RL 45 yX7_init ∈ wsL_law := by decide +kernel
theorem qL_law_IX7 : Cond.instanceMethod yX7_init ∈ wsL_law := by decide +kernel
theorem qL_law_C46 : Cond.classLink RL 46 RX8 ∈ wsL_law := by decide +kernel
theorem qL_law_NX8 : Cond.instantiable RX8 35 ∈ wsL_law := by decide +kernel
theorem qL_law_SX8 : Cond.initialized RX8 ∈ wsL_law := by decide +kernel
theorem qL_law_L48 : Cond.methodLink RL 48 yX8_init ∈ wsL_law := by decide +kernel
theorem qL_law_IX8 : Cond.instanceMethod yX8_init ∈ wsL_law := by decide +kernel
theorem qL_law_Along : Cond.arrayClass .long ∈ wsL_law := by decide +kernel
section
variable {p : Program} {l : Launch} {e : Env} {s : State} {m : MethodId} {below : List Frame} {meth : Method} {c : Code}
set_option maxHeartbeats 4000000 in
set_option maxRecDepth 20000 in
theorem hv_start (hflag : l.stackTraces = false) {b L : Nat} {xs : Nat → Int32} (A : lw_At p s m meth c b L xs) {n i : Nat} (hi : i ≤ 100000) (hk : kL_law_23 n L xs i hv_0 0 = some ()) : W p l e room_1 s m #[Value.ref b] below meth c s.heap [] 0 0 (lw_Z below #[Value.ref b] s) (entryFrame m ([Value.ref b] : List Value).toArray 8) := by
  obtain ⟨hx, hb, hr, hml, hown, hts, hX, hbl, hlk, hgv⟩ := A
  obtain ⟨D, cy, hK, hAO⟩ := hv_known hts
  have C0 : hv_C p s m #[Value.ref b] meth c code 8 wsL_law RL D (hv_tys cy) := ⟨⟨hx, hb, hml, hown, fun w hw => hts _ (wsL_law_in w hw)⟩, hK, hlk⟩
  have C : hv_CI p s m #[Value.ref b] meth c code 8 wsL_law RL D cy (fun q => s.heap.size ≤ q) := ⟨C0, fun _ h => h, hAO⟩
  rw [lg_entry_eq]
  have J : hv_J p l e room_1 s m #[Value.ref b] below meth c 8 D (fun q => s.heap.size ≤ q) 0 0 (lw_Z below #[Value.ref b] s) [] 0 [(0, .ref b)] [] := by
    refine j_new (pc := 0) (T := TX7) (ty0 := tyX7) (ci := 7) (fs := [.null, .null, .null, .null, .null, .null, .null]) C inlX7 tyX7_ok qL_law_C8 qL_law_NX7 qL_law_SX7 rfl (fun j hj => match j, hj with | 0, _ => rfl | 1, _ => rfl | 2, _ => rfl | 3, _ => rfl | 4, _ => rfl | 5, _ => rfl | 6, _ => rfl | j + 7, hj => absurd hj (by omega)) (Nat.le_of_ble_eq_true rfl) (Nat.le_of_ble_eq_true rfl) dL_law_0 (fun q0 => ?_)
    refine j_dup (pc := 3) C dL_law_3 rfl ?_
    refine j_call (pc := 4) (wr := []) C 0 [] (vX7_init (h0 := q0)) (cwI 0 C.1.1.2.2.2.2 gL_law_X7_init rfl rfl rfl (C.1.1.2.2.2.2 _ qL_law_SX7) (C.1.1.2.2.2.2 _ qL_law_L45) (C.1.1.2.2.2.2 _ qL_law_IX7) rfl (by decide +kernel) ⟨(Nat.le_of_ble_eq_true rfl), (Nat.le_of_ble_eq_true rfl)⟩) rfl rfl (by decide) (by decide) rfl rfl (Nat.le_of_ble_eq_true rfl) dL_law_4 ⟨(Nat.le_of_ble_eq_true rfl), (Nat.le_of_ble_eq_true rfl)⟩ (fun u4 => ?_)
    refine j_eq (ws' := wX7_init cy q0 u4) rfl ?_
    refine j_astore_n (pc := 7) (lv' := [(1, .ref q0), (0, .ref b)]) C dL_law_7 rfl (Nat.le_of_ble_eq_true rfl) rfl ?_
    refine j_new (pc := 8) (T := TX8) (ty0 := tyX8) (ci := 8) (fs := [.int 0, .int 0, .null, .null, .null, .null, .int 0, .null, .null, .null, .null, .int 0, .null, .int 0, .null, .int 0, .null, .null, .int 0, .null, .int 0, .int 0, .null, .null, .long 0, .null, .null, .null, .null, .long 0, .null, .null, .int 0, .null, .int 0]) C inlX8 tyX8_ok qL_law_C46 qL_law_NX8 qL_law_SX8 rfl (fun j hj => match j, hj with | 0, _ => rfl | 1, _ => rfl | 2, _ => rfl | 3, _ => rfl | 4, _ => rfl | 5, _ => rfl | 6, _ => rfl | 7, _ => rfl | 8, _ => rfl | 9, _ => rfl | 10, _ => rfl | 11, _ => rfl | 12, _ => rfl | 13, _ => rfl | 14, _ => rfl | 15, _ => rfl | 16, _ => rfl | 17, _ => rfl | 18, _ => rfl | 19, _ => rfl | 20, _ => rfl | 21, _ => rfl | 22, _ => rfl | 23, _ => rfl | 24, _ => rfl | 25, _ => rfl | 26, _ => rfl | 27, _ => rfl | 28, _ => rfl | 29, _ => rfl | 30, _ => rfl | 31, _ => rfl | 32, _ => rfl | 33, _ => rfl | 34, _ => rfl | j + 35, hj => absurd hj (by omega)) (Nat.le_of_ble_eq_true rfl) (Nat.le_of_ble_eq_true rfl) dL_law_8 (fun q8 => ?_)
    refine j_dup (pc := 11) C dL_law_11 rfl ?_
    refine j_call (pc := 12) (wr := wX7_init cy q0 u4) C 55 (List.range 55) (vX8_init (h0 := q8)) (cwI 0 C.1.1.2.2.2.2 gL_law_X8_init rfl rfl rfl (C.1.1.2.2.2.2 _ qL_law_SX8) (C.1.1.2.2.2.2 _ qL_law_L48) (C.1.1.2.2.2.2 _ qL_law_IX8) rfl (by decide +kernel) ⟨(Nat.le_of_ble_eq_true rfl), (Nat.le_of_ble_eq_true rfl)⟩) rfl rfl (by decide) (by decide) rfl rfl (Nat.le_of_ble_eq_true rfl) dL_law_12 ⟨(Nat.le_of_ble_eq_true rfl), (Nat.le_of_ble_eq_true rfl)⟩ (fun u12 => ?_)
    refine j_astore_n (pc := 15) (lv' := [(2, .ref q8), (1, .ref q0), (0, .ref b)]) C dL_law_15 rfl (Nat.le_of_ble_eq_true rfl) rfl ?_
    refine j_iconst (pc := 16) (v := (1 : Int32)) C dL_law_16 (by decide) ?_
    refine j_newa (pc := 17) (atype := .long) (ty := .long) (cA0 := cy.2.1) (N' := 1) (a0 := (1, .inr (.inl (fun _ => 0)))) C 1 rfl rfl (fun _ h => h) qL_law_Along (fun _ => rfl) (by decide) (by decide) (Nat.le_of_ble_eq_true rfl) (Nat.le_of_ble_eq_true rfl) (Nat.le_of_ble_eq_true rfl) dL_law_17 (fun qo => ?_)
    refine j_astore_n (pc := 19) (lv' := [(3, .ref qo), (2, .ref q8), (1, .ref q0), (0, .ref b)]) C dL_law_19 rfl (Nat.le_of_ble_eq_true rfl) rfl ?_
    refine j_iconst (pc := 20) (v := (0 : Int32)) C dL_law_20 (by decide) ?_
    intro H locs ls hP hD hS hl
    refine lv_istore (lv' := [(4, .int 0), (3, .ref qo), (2, .ref q8), (1, .ref q0), (0, .ref b)]) C.1.1.1 C.1.1.2.1 dL_law_21 hl (Nat.le_of_ble_eq_true rfl) rfl (fun ls' hl' => ?_)
    have hP2 := hP.swap
    have hD2 := hD.swap
    have eW := hv_W_start (fun k => if k = 0 then q0 else u4 k) qo (fun k => if k = 0 then q8 else u12 k) cy
    generalize ea : hv_a0 (fun k => if k = 0 then q0 else u4 k) qo (fun k => if k = 0 then q8 else u12 k) = a at eW
    have a0 : a 0 = q0 := by rw [← ea]; rfl
    have a55 : a 55 = qo := by rw [← ea]; rfl
    have a56 : a 56 = q8 := by rw [← ea]; rfl
    change va_P D vwCl ((hv_W 55 (fun k => if k = 0 then q0 else u4 k) (hv_XE (fun k => if k = 0 then q0 else u4 k) cy) hv_0 ++ [(qo, .inl (cy.2.1, 1, .inr (.inl (fun _ => 0))))]) ++ hv_W 23 (fun k => if k = 0 then q8 else u12 k) (hv_ME (fun k => if k = 0 then q8 else u12 k) cy) hv_0) H at hP2
    change va_D _ ((hv_W 55 (fun k => if k = 0 then q0 else u4 k) (hv_XE (fun k => if k = 0 then q0 else u4 k) cy) hv_0 ++ [(qo, .inl (cy.2.1, 1, .inr (.inl (fun _ => 0))))]) ++ hv_W 23 (fun k => if k = 0 then q8 else u12 k) (hv_ME (fun k => if k = 0 then q8 else u12 k) cy) hv_0) at hD2
    rw [eW] at hP2 hD2
    have ha : ∀ j, j < 79 → s.heap.size ≤ a j := fun j hj => hD2.2 j _ (hv_W_get hj)
    have CL : hv_CL p s m meth c D cy a b L xs := ⟨C0, hv_T0 hts hgv ha, hX, hbl, ha, hr⟩
    subst a0 a55 a56
    refine bL_law_23 hflag CL i _ _ ⟨?_, ?_⟩ hv_0 0 hk H locs ls' hP2 (hv_D_self hD2) ⟨hS.1, fun q h1 h2 => hS.2.1 q h1 (fun h3 => h2 (Or.inr h3)), fun q hq => Or.inr (hS.2.2 q hq)⟩ (lv_sub hl' [4, 3, 2, 1, 0] rfl)
    · show 0 + 1 + 54 + 1 + 22 + 1 + 2 * i ≤ room_1.cells
      have h3 : 201000 ≤ room_1.cells := Nat.le_of_ble_eq_true rfl
      omega
    · show 0 + 7 + 647 + 35 + 341 + 1 + 12 * i ≤ room_1.slots
      have h4 : 1202000 ≤ room_1.slots := Nat.le_of_ble_eq_true rfl
      omega
  have hP0 : va_P D vwCl [] s.heap := fun k q h => by cases h
  have hD0 : va_D (fun q => s.heap.size ≤ q) ([] : va_W) := ⟨(fun i j p q h => by cases h), (fun k q h => by cases h)⟩
  exact J s.heap [] _ hP0 hD0 va_S.rf (lv_entry [.ref b] (Nat.le_of_ble_eq_true rfl))
end
