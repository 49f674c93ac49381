/-! the law's start: what stands at its entry -/
theorem hv_tw_in : ∀ w ∈ hv_tw, w ∈ lw_tbl := by decide +kernel
theorem hv_ns_in : ∀ w ∈ hv_ns, w ∈ lw_tbl := by decide +kernel
theorem hv_lI0 : Cond.instantiable RX0 9 ∈ lw_tbl := by decide +kernel
theorem hv_lI1 : Cond.instantiable RX1 5 ∈ lw_tbl := by decide +kernel
theorem hv_lI2 : Cond.instantiable RX2 2 ∈ lw_tbl := by decide +kernel
theorem hv_lI3 : Cond.instantiable RX3 10 ∈ lw_tbl := by decide +kernel
theorem hv_lI4 : Cond.instantiable RX4 4 ∈ lw_tbl := by decide +kernel
theorem hv_lI5 : Cond.instantiable RX5 7 ∈ lw_tbl := by decide +kernel
theorem hv_lI6 : Cond.instantiable RX6 5 ∈ lw_tbl := by decide +kernel
theorem hv_lI7 : Cond.instantiable RX7 7 ∈ lw_tbl := by decide +kernel
theorem hv_lI8 : Cond.instantiable RX8 1 ∈ lw_tbl := by decide +kernel
theorem hv_lI9 : Cond.instantiable RX9 10 ∈ lw_tbl := by decide +kernel
theorem hv_lAi : Cond.arrayClass .int ∈ lw_tbl := by decide +kernel
theorem hv_lAj : Cond.arrayClass .long ∈ lw_tbl := by decide +kernel
theorem hv_lAz : Cond.arrayClass .boolean ∈ lw_tbl := by decide +kernel
theorem hv_lAO : Cond.arrayOver (.array .long) ∈ lw_tbl := by decide +kernel
theorem hv_lU : Cond.laysStatic Bundle.tN "UNASSIGNED_STACK" Bundle.steD ∈ lw_tbl := by decide +kernel
theorem hv_lN : Cond.laysStatic Bundle.tN "SUPPRESSED_SENTINEL" Bundle.listD ∈ lw_tbl := by decide +kernel
theorem hv_lT : Cond.initialized Bundle.tN ∈ lw_tbl := by decide +kernel
/-- the layouts and the array classes, of the tables -/
theorem hv_known {s : State} {b : Nat} (hts : ∀ w ∈ lw_tbl, w.before #[Value.ref b] s = true) : ∃ (D : va_G) (cy : ClassId × ClassId × ClassId × ClassId), hv_K D (hv_tys cy) s ∧ va_AOA .long s := by
  obtain ⟨c0, i0, k0⟩ := u_known hts inX0 (hts _ hv_lI0)
  obtain ⟨c1, i1, k1⟩ := u_known hts inX1 (hts _ hv_lI1)
  obtain ⟨c2, i2, k2⟩ := u_known hts inX2 (hts _ hv_lI2)
  obtain ⟨c3, i3, k3⟩ := u_known hts inX3 (hts _ hv_lI3)
  obtain ⟨c4, i4, k4⟩ := u_known hts inX4 (hts _ hv_lI4)
  obtain ⟨c5, i5, k5⟩ := u_known hts inX5 (hts _ hv_lI5)
  obtain ⟨c6, i6, k6⟩ := u_known hts inX6 (hts _ hv_lI6)
  obtain ⟨c7, i7, k7⟩ := u_known hts inX7 (hts _ hv_lI7)
  obtain ⟨c8, i8, k8⟩ := u_known hts inX8 (hts _ hv_lI8)
  obtain ⟨c9, i9, k9⟩ := u_known hts inX9 (hts _ hv_lI9)
  obtain ⟨cI, kI, oI, fI, gI, hI⟩ := Cond.arrayClass_spec (hts _ hv_lAi)
  obtain ⟨cJ, kJ, oJ, fJ, gJ, hJ⟩ := Cond.arrayClass_spec (hts _ hv_lAj)
  obtain ⟨cZ, kZ, oZ, fZ, gZ, hZ⟩ := Cond.arrayClass_spec (hts _ hv_lAz)
  obtain ⟨oA, cA, kA, f1, f2, gA, hA, fA⟩ := arrayOverA_spec (hts _ hv_lAO)
  have aI : ArrOfT s cI .int := fun _ _ => ⟨(fun k h => by cases h), kI, gI, oI, hI⟩
  have aJ : ArrOfT s cJ .long := fun _ _ => ⟨(fun k h => by cases h), kJ, gJ, oJ, hJ⟩
  have aZ : ArrOfT s cZ .boolean := fun _ _ => ⟨(fun k h => by cases h), kZ, gZ, oZ, hZ⟩
  have aA : ArrOfT s cA (.array .long) := fun _ _ => ⟨(fun k h => by cases h), kA, gA, oA, hA⟩
  refine ⟨(fun c => match c with | 0 => c0 | 1 => c1 | 2 => c2 | 3 => c3 | 4 => c4 | 5 => c5 | 6 => c6 | 7 => c7 | 8 => c8 | _ => c9, fun c => match c with | 0 => i0 | 1 => i1 | 2 => i2 | 3 => i3 | 4 => i4 | 5 => i5 | 6 => i6 | 7 => i7 | 8 => i8 | _ => i9), (cI, cJ, cZ, cA), ⟨⟨fun c q hq => ?_, fun k q hq => ?_⟩, fun w hw => ?_⟩, va_AOA.of (hts _ hv_lAO)⟩
  · match c, hq with
    | 0, hq => cases hq; exact k0
    | 1, hq => cases hq; exact k1
    | 2, hq => cases hq; exact k2
    | 3, hq => cases hq; exact k3
    | 4, hq => cases hq; exact k4
    | 5, hq => cases hq; exact k5
    | 6, hq => cases hq; exact k6
    | 7, hq => cases hq; exact k7
    | 8, hq => cases hq; exact k8
    | 9, hq => cases hq; exact k9
    | c + 10, hq => cases hq
  · match k, hq with
    | 0, hq => cases hq; exact ⟨aI, fI⟩
    | 1, hq => cases hq; exact ⟨aJ, fJ⟩
    | 2, hq => cases hq; exact ⟨aZ, fZ⟩
    | 3, hq => cases hq; exact ⟨aA, fA⟩
    | k + 4, hq => cases hq
  · have h9 := hts _ (hv_ns_in w hw)
    rcases hv_ns_form w hw with ⟨x, i, y, q, e9⟩ | ⟨x, i, b9, n9, d9, q, e9⟩
    · subst e9
      exact va_Nw.of rfl h9
    · subst e9
      exact va_Nw.of rfl h9
theorem hv_TA0 {s : State} {b : Nat} (hts : ∀ w ∈ lw_tbl, w.before #[Value.ref b] s = true) (hgv : (Jvm.Cond.and given_1 narrow_1).before #[Value.ref b] s = true) (hAO : va_AOA .long s) : hv_TA (fun q => s.heap.size ≤ q) s := by
  have hn : ∀ q : Nat, q < s.heap.size → ¬ (fun q => s.heap.size ≤ q) q := fun q hq h => by
    have h2 : s.heap.size ≤ q := h
    omega
  have hs := flat_of_before _ hgv
  refine ⟨⟨vx_Zqof (hts _ hv_lU) (hts _ hv_lT) (hs _ (by decide +kernel)) hn, vx_Zqof (hts _ hv_lN) (hts _ hv_lT) (hs _ (by decide +kernel)) hn, fun w hw => ?_⟩, hAO⟩
  have h9 := hts _ (hv_tw_in w hw)
  rcases hv_tw_form w hw with ⟨x, t, e9⟩ | ⟨x, e9⟩
  · subst e9
    exact va_Nw.of rfl h9
  · subst e9
    exact va_Nw.of rfl h9
section
variable {p : Program} {l : Launch} {e : Env} {s : State} {m : MethodId} {below : List Frame} {meth : Method} {c : Code}
set_option maxHeartbeats 4000000 in
set_option maxRecDepth 20000 in
theorem hv_start (hflag : l.stackTraces = false) {bS L : Nat} {xs : Nat → Int32} (A : lw_At p s m meth c bS L xs) {n : Nat} (hk : kQ_law_2 n L xs 7 0 = some ()) : W p l e room_1 s m #[Value.ref bS] below meth c s.heap [] 0 0 (lw_Z below #[Value.ref bS] s) (entryFrame m ([Value.ref bS] : List Value).toArray 8) := by
  obtain ⟨hx, hb, hr, hml, hown, hts, hX, hbl, hlk, hgv⟩ := A
  obtain ⟨D, cy, hK, hAO⟩ := hv_known hts
  have C : hv_C p s m #[Value.ref bS] meth c code 8 wsL_law RL D (hv_tys cy) := ⟨⟨hx, hb, hml, hown, fun w hw => hts _ (wsL_law_in w hw)⟩, hK, hlk⟩
  rw [lg_entry_eq]
  have J : hv_J p l e room_1 s m #[Value.ref bS] below meth c 8 D (fun q => s.heap.size ≤ q) 0 0 (lw_Z below #[Value.ref bS] s) [] 0 [(0, .ref bS)] [] := by
    refine r_iconst (pc := 0) (v := (0 : Int32)) C dL_law_0 (by decide) ?_
    refine r_istore_n (pc := 1) (lv' := [(1, .int 0), (0, .ref bS)]) C rfl dL_law_1 rfl (Nat.le_of_ble_eq_true rfl) rfl ?_
    exact r_lv [1, 0] rfl (bQ_law_2 hflag C (hv_TA0 hts hgv hAO) hX hbl hr 7 0 0 (by decide) hk)
  have hP0 : va_P D vwCl [] s.heap := fun k q h => by cases h
  have hD0 : va_D (fun q => s.heap.size ≤ q) ([] : va_W) := ⟨(fun i j p q h => by cases h), (fun k q h => by cases h)⟩
  exact J s.heap [] _ hP0 hD0 va_S.rf (lv_entry [.ref bS] (Nat.le_of_ble_eq_true rfl))
end
