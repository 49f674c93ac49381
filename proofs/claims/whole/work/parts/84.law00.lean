/-! the law walked, 0 -/
section
variable {p : Program} {l : Launch} {e : Env} {s : State} {m : MethodId} {below : List Frame} {meth : Method} {c : Code} {D : va_G} {a : Nat → Nat} {cy : ClassId × ClassId × ClassId × ClassId} {b L : Nat} {xs : Nat → Int32} {cells slots : Nat}
set_option maxHeartbeats 4000000 in
set_option maxRecDepth 20000 in
theorem bL_law_1699 (hflag : l.stackTraces = false) (CL : hv_CL p s m meth c D cy a b L xs) (hcl : cells + 2 ≤ room_1.cells ∧ slots + 12 ≤ room_1.slots) {n : Nat} {r23 : hv_St → Int32 → Option Unit} (hr23 : ∀ (σ : hv_St) (x4 : Int32), r23 σ x4 = some () → hv_G p l e room_1 s m #[Value.ref b] below meth c 8 D 79 a (hv_LE a cy) (cells + 2) (slots + 12) (lw_Z below #[Value.ref b] s) σ 23 [(0, .ref b), (1, .ref (a 0)), (2, .ref (a 56)), (3, .ref (a 55)), (4, .int (x4))] []) : ∀ (σ : hv_St) (x4 : Int32), kL_law_1699 n L xs r23 σ x4 = some () → hv_G p l e room_1 s m #[Value.ref b] below meth c 8 D 79 a (hv_LE a cy) (cells + 2) (slots + 12) (lw_Z below #[Value.ref b] s) σ 1699 [(0, .ref b), (1, .ref (a 0)), (2, .ref (a 56)), (3, .ref (a 55)), (4, .int (x4))] [] := by
  intro σ x4 h
  have C := CL.1
  unfold kL_law_1699 at h
  refine g_iinc (pc := 1699) C 4 (v := x4 + 5) (lv' := [(4, .int (x4 + 5)), (0, .ref b), (1, .ref (a 0)), (2, .ref (a 56)), (3, .ref (a 55))]) dL_law_1699 rfl rfl (Nat.le_of_ble_eq_true rfl) rfl ?_
  refine g_goto (pc := 1702) C (tgt := 23) dL_law_1702 (by decide) ?_
  refine g_widen (cells := cells + 2) (slots := slots + 12) (k := cells + 2) (n := slots + 12) (by omega) (by omega) ?_
  exact g_lv [1, 2, 3, 4, 0] rfl (hr23 σ (x4 + 5) h)
set_option maxHeartbeats 4000000 in
set_option maxRecDepth 20000 in
theorem bL_law_1691 (hflag : l.stackTraces = false) (CL : hv_CL p s m meth c D cy a b L xs) (hcl : cells + 2 ≤ room_1.cells ∧ slots + 12 ≤ room_1.slots) {n : Nat} {r23 : hv_St → Int32 → Option Unit} (hr23 : ∀ (σ : hv_St) (x4 : Int32), r23 σ x4 = some () → hv_G p l e room_1 s m #[Value.ref b] below meth c 8 D 79 a (hv_LE a cy) (cells + 2) (slots + 12) (lw_Z below #[Value.ref b] s) σ 23 [(0, .ref b), (1, .ref (a 0)), (2, .ref (a 56)), (3, .ref (a 55)), (4, .int (x4))] []) : ∀ (σ : hv_St) (x4 : Int32) (z0 : Int32) (z2 : Int32), kL_law_1691 n L xs r23 σ x4 z0 z2 = some () → hv_G p l e room_1 s m #[Value.ref b] below meth c 8 D 79 a (hv_LE a cy) cells slots (lw_Z below #[Value.ref b] s) σ 1691 [(0, .ref b), (1, .ref (a 0)), (2, .ref (a 56)), (3, .ref (a 55)), (4, .int (x4))] [.int (z0), .ref (a 56), .int (z2)] := by
  intro σ x4 z0 z2 h
  have C := CL.1
  unfold kL_law_1691 at h
  obtain ⟨r1691, t1691, hc1691, h⟩ := hv_b2_some h
  refine g_subV (pc := 1691) (cells := cells) (slots := slots) (o := 56) (X2 := hv_ME (fun i => a (i + 56)) cy) (n := 23) (τ := t1691) (v := some (.int (r1691))) (As := [.int (z0)]) (rest := [.int (z2)]) C 0 (hv_LE_M a cy) (Nat.le_of_ble_eq_true rfl) (vX8_mend (a := fun i => a (i + 56)) hc1691) (cwV 1 C.1.2.2.2.2 gL_law_X8_mend rfl rfl rfl (by decide +kernel) ⟨Nat.le_of_ble_eq_true rfl, Nat.le_of_ble_eq_true rfl⟩) (Nat.le_of_ble_eq_true rfl) rfl rfl rfl rfl (Nat.le_of_ble_eq_true rfl) dL_law_1691 (hv_cl 0 hcl (by decide)) ?_
  refine g_st (st' := [.int (r1691), .int (z2)]) rfl ?_
  refine g_icmp_eq (pc := 1694) (tgt := 1699) C dL_law_1694 (by decide) (fun c1694 => ?_) (fun c1694 => ?_)
  · rw [if_pos c1694] at h
    refine g_widen (cells := cells) (slots := slots) (k := cells + 2) (n := slots + 12) (by omega) (by omega) ?_
    exact g_lv [0, 1, 2, 3, 4] rfl (bL_law_1699 hflag CL hcl hr23 (hv_mg 56 23 (σ) t1691) (x4) h)
  · rw [if_neg c1694] at h
    cases h
set_option maxHeartbeats 4000000 in
set_option maxRecDepth 20000 in
theorem bL_law_1673 (hflag : l.stackTraces = false) (CL : hv_CL p s m meth c D cy a b L xs) (hcl : cells + 2 ≤ room_1.cells ∧ slots + 12 ≤ room_1.slots) {n : Nat} {r23 : hv_St → Int32 → Option Unit} (hr23 : ∀ (σ : hv_St) (x4 : Int32), r23 σ x4 = some () → hv_G p l e room_1 s m #[Value.ref b] below meth c 8 D 79 a (hv_LE a cy) (cells + 2) (slots + 12) (lw_Z below #[Value.ref b] s) σ 23 [(0, .ref b), (1, .ref (a 0)), (2, .ref (a 56)), (3, .ref (a 55)), (4, .int (x4))] []) : ∀ (σ : hv_St) (x4 : Int32) (z0 : Int32), kL_law_1673 n L xs r23 σ x4 z0 = some () → hv_G p l e room_1 s m #[Value.ref b] below meth c 8 D 79 a (hv_LE a cy) cells slots (lw_Z below #[Value.ref b] s) σ 1673 [(0, .ref b), (1, .ref (a 0)), (2, .ref (a 56)), (3, .ref (a 55)), (4, .int (x4))] [.int (z0), .ref (a 0)] := by
  intro σ x4 z0 h
  have C := CL.1
  unfold kL_law_1673 at h
  obtain ⟨r1673, t1673, hc1673, h⟩ := hv_b2_some h
  refine g_subV (pc := 1673) (cells := cells) (slots := slots) (o := 0) (X2 := hv_XE (fun i => a (i + 0)) cy) (n := 55) (τ := t1673) (v := some (.int (r1673))) (As := [.int (z0)]) (rest := []) C 0 (hv_LE_X a cy) (Nat.le_of_ble_eq_true rfl) (vX7_mend (a := fun i => a (i + 0)) hc1673) (cwV 1 C.1.2.2.2.2 gL_law_X7_mend rfl rfl rfl (by decide +kernel) ⟨Nat.le_of_ble_eq_true rfl, Nat.le_of_ble_eq_true rfl⟩) (Nat.le_of_ble_eq_true rfl) rfl rfl rfl rfl (Nat.le_of_ble_eq_true rfl) dL_law_1673 (hv_cl 0 hcl (by decide)) ?_
  refine g_st (st' := [.int (r1673)]) rfl ?_
  refine g_aload_n (pc := 1676) C 2 dL_law_1676 rfl rfl ?_
  refine g_aload_n (pc := 1677) C 0 dL_law_1677 rfl rfl ?_
  refine g_iload (pc := 1678) C 4 dL_law_1678 rfl ?_
  refine g_iconst (pc := 1680) C (v := (1 : Int32)) dL_law_1680 (by decide) ?_
  refine g_iadd (pc := 1681) C dL_law_1681 ?_
  obtain ⟨k1682, h⟩ := hv_if_some h
  refine g_sld (pc := 1682) CL k1682 dL_law_1682 ?_
  refine g_if_eq (pc := 1683) (tgt := 1690) C dL_law_1683 (by decide) (fun c1683 => ?_) (fun c1683 => ?_)
  · rw [if_pos c1683] at h
    refine g_iconst (pc := 1690) C (v := (0 : Int32)) dL_law_1690 (by decide) ?_
    exact g_lv [0, 1, 2, 3, 4] rfl (bL_law_1691 hflag CL hcl hr23 (hv_mg 0 55 (σ) t1673) (x4) ((0 : Int32)) (r1673) h)
  · rw [if_neg c1683] at h
    refine g_iconst (pc := 1686) C (v := (1 : Int32)) dL_law_1686 (by decide) ?_
    refine g_goto (pc := 1687) C (tgt := 1691) dL_law_1687 (by decide) ?_
    exact g_lv [0, 1, 2, 3, 4] rfl (bL_law_1691 hflag CL hcl hr23 (hv_mg 0 55 (σ) t1673) (x4) ((1 : Int32)) (r1673) h)
set_option maxHeartbeats 4000000 in
set_option maxRecDepth 20000 in
theorem bL_law_1658 (hflag : l.stackTraces = false) (CL : hv_CL p s m meth c D cy a b L xs) (hcl : cells + 2 ≤ room_1.cells ∧ slots + 12 ≤ room_1.slots) {n : Nat} {r23 : hv_St → Int32 → Option Unit} (hr23 : ∀ (σ : hv_St) (x4 : Int32), r23 σ x4 = some () → hv_G p l e room_1 s m #[Value.ref b] below meth c 8 D 79 a (hv_LE a cy) (cells + 2) (slots + 12) (lw_Z below #[Value.ref b] s) σ 23 [(0, .ref b), (1, .ref (a 0)), (2, .ref (a 56)), (3, .ref (a 55)), (4, .int (x4))] []) : ∀ (σ : hv_St) (x4 : Int32), kL_law_1658 n L xs r23 σ x4 = some () → hv_G p l e room_1 s m #[Value.ref b] below meth c 8 D 79 a (hv_LE a cy) cells slots (lw_Z below #[Value.ref b] s) σ 1658 [(0, .ref b), (1, .ref (a 0)), (2, .ref (a 56)), (3, .ref (a 55)), (4, .int (x4))] [] := by
  intro σ x4 h
  have C := CL.1
  unfold kL_law_1658 at h
  refine g_aload_n (pc := 1658) C 1 dL_law_1658 rfl rfl ?_
  refine g_aload_n (pc := 1659) C 0 dL_law_1659 rfl rfl ?_
  refine g_iload (pc := 1660) C 4 dL_law_1660 rfl ?_
  refine g_iconst (pc := 1662) C (v := (1 : Int32)) dL_law_1662 (by decide) ?_
  refine g_iadd (pc := 1663) C dL_law_1663 ?_
  obtain ⟨k1664, h⟩ := hv_if_some h
  refine g_sld (pc := 1664) CL k1664 dL_law_1664 ?_
  refine g_if_eq (pc := 1665) (tgt := 1672) C dL_law_1665 (by decide) (fun c1665 => ?_) (fun c1665 => ?_)
  · rw [if_pos c1665] at h
    refine g_iconst (pc := 1672) C (v := (0 : Int32)) dL_law_1672 (by decide) ?_
    exact g_lv [0, 1, 2, 3, 4] rfl (bL_law_1673 hflag CL hcl hr23 σ (x4) ((0 : Int32)) h)
  · rw [if_neg c1665] at h
    refine g_iconst (pc := 1668) C (v := (1 : Int32)) dL_law_1668 (by decide) ?_
    refine g_goto (pc := 1669) C (tgt := 1673) dL_law_1669 (by decide) ?_
    exact g_lv [0, 1, 2, 3, 4] rfl (bL_law_1673 hflag CL hcl hr23 σ (x4) ((1 : Int32)) h)
set_option maxHeartbeats 4000000 in
set_option maxRecDepth 20000 in
theorem bL_law_1645 (hflag : l.stackTraces = false) (CL : hv_CL p s m meth c D cy a b L xs) (hcl : cells + 2 ≤ room_1.cells ∧ slots + 12 ≤ room_1.slots) {n : Nat} {r23 : hv_St → Int32 → Option Unit} (hr23 : ∀ (σ : hv_St) (x4 : Int32), r23 σ x4 = some () → hv_G p l e room_1 s m #[Value.ref b] below meth c 8 D 79 a (hv_LE a cy) (cells + 2) (slots + 12) (lw_Z below #[Value.ref b] s) σ 23 [(0, .ref b), (1, .ref (a 0)), (2, .ref (a 56)), (3, .ref (a 55)), (4, .int (x4))] []) : ∀ (σ : hv_St) (x4 : Int32), kL_law_1645 n L xs r23 σ x4 = some () → hv_G p l e room_1 s m #[Value.ref b] below meth c 8 D 79 a (hv_LE a cy) cells slots (lw_Z below #[Value.ref b] s) σ 1645 [(0, .ref b), (1, .ref (a 0)), (2, .ref (a 56)), (3, .ref (a 55)), (4, .int (x4))] [] := by
  intro σ x4 h
  have C := CL.1
  unfold kL_law_1645 at h
  refine g_aload_n (pc := 1645) C 1 dL_law_1645 rfl rfl ?_
  obtain ⟨r1646, t1646, hc1646, h⟩ := hv_b2_some h
  refine g_subV (pc := 1646) (cells := cells) (slots := slots) (o := 0) (X2 := hv_XE (fun i => a (i + 0)) cy) (n := 55) (τ := t1646) (v := some (.int (r1646))) (As := []) (rest := []) C 0 (hv_LE_X a cy) (Nat.le_of_ble_eq_true rfl) (vX7_keys (a := fun i => a (i + 0)) hc1646) (cwV 0 C.1.2.2.2.2 gL_law_X7_keys rfl rfl rfl (by decide +kernel) ⟨Nat.le_of_ble_eq_true rfl, Nat.le_of_ble_eq_true rfl⟩) (Nat.le_of_ble_eq_true rfl) rfl rfl rfl rfl (Nat.le_of_ble_eq_true rfl) dL_law_1646 (hv_cl 0 hcl (by decide)) ?_
  refine g_st (st' := [.int (r1646)]) rfl ?_
  refine g_aload_n (pc := 1649) C 2 dL_law_1649 rfl rfl ?_
  obtain ⟨r1650, t1650, hc1650, h⟩ := hv_b2_some h
  refine g_subV (pc := 1650) (cells := cells) (slots := slots) (o := 56) (X2 := hv_ME (fun i => a (i + 56)) cy) (n := 23) (τ := t1650) (v := some (.int (r1650))) (As := []) (rest := [.int (r1646)]) C 0 (hv_LE_M a cy) (Nat.le_of_ble_eq_true rfl) (vX8_keys (a := fun i => a (i + 56)) hc1650) (cwV 0 C.1.2.2.2.2 gL_law_X8_keys rfl rfl rfl (by decide +kernel) ⟨Nat.le_of_ble_eq_true rfl, Nat.le_of_ble_eq_true rfl⟩) (Nat.le_of_ble_eq_true rfl) rfl rfl rfl rfl (Nat.le_of_ble_eq_true rfl) dL_law_1650 (hv_cl 0 hcl (by decide)) ?_
  refine g_st (st' := [.int (r1650), .int (r1646)]) rfl ?_
  refine g_icmp_eq (pc := 1653) (tgt := 1699) C dL_law_1653 (by decide) (fun c1653 => ?_) (fun c1653 => ?_)
  · rw [if_pos c1653] at h
    refine g_widen (cells := cells) (slots := slots) (k := cells + 2) (n := slots + 12) (by omega) (by omega) ?_
    exact g_lv [0, 1, 2, 3, 4] rfl (bL_law_1699 hflag CL hcl hr23 (hv_mg 56 23 ((hv_mg 0 55 (σ) t1646)) t1650) (x4) h)
  · rw [if_neg c1653] at h
    cases h
set_option maxHeartbeats 4000000 in
set_option maxRecDepth 20000 in
theorem bL_law_1642 (hflag : l.stackTraces = false) (CL : hv_CL p s m meth c D cy a b L xs) (hcl : cells + 2 ≤ room_1.cells ∧ slots + 12 ≤ room_1.slots) {n : Nat} {r23 : hv_St → Int32 → Option Unit} (hr23 : ∀ (σ : hv_St) (x4 : Int32), r23 σ x4 = some () → hv_G p l e room_1 s m #[Value.ref b] below meth c 8 D 79 a (hv_LE a cy) (cells + 2) (slots + 12) (lw_Z below #[Value.ref b] s) σ 23 [(0, .ref b), (1, .ref (a 0)), (2, .ref (a 56)), (3, .ref (a 55)), (4, .int (x4))] []) : ∀ (σ : hv_St) (x4 : Int32), kL_law_1642 n L xs r23 σ x4 = some () → hv_G p l e room_1 s m #[Value.ref b] below meth c 8 D 79 a (hv_LE a cy) (cells + 2) (slots + 12) (lw_Z below #[Value.ref b] s) σ 1642 [(0, .ref b), (1, .ref (a 0)), (2, .ref (a 56)), (3, .ref (a 55)), (4, .int (x4))] [] := by
  intro σ x4 h
  have C := CL.1
  unfold kL_law_1642 at h
  refine g_goto (pc := 1642) C (tgt := 1699) dL_law_1642 (by decide) ?_
  exact g_lv [0, 1, 2, 3, 4] rfl (bL_law_1699 hflag CL hcl hr23 σ (x4) h)
set_option maxHeartbeats 4000000 in
set_option maxRecDepth 20000 in
theorem bL_law_1610 (hflag : l.stackTraces = false) (CL : hv_CL p s m meth c D cy a b L xs) (hcl : cells + 2 ≤ room_1.cells ∧ slots + 12 ≤ room_1.slots) {n : Nat} {r23 : hv_St → Int32 → Option Unit} (hr23 : ∀ (σ : hv_St) (x4 : Int32), r23 σ x4 = some () → hv_G p l e room_1 s m #[Value.ref b] below meth c 8 D 79 a (hv_LE a cy) (cells + 2) (slots + 12) (lw_Z below #[Value.ref b] s) σ 23 [(0, .ref b), (1, .ref (a 0)), (2, .ref (a 56)), (3, .ref (a 55)), (4, .int (x4))] []) : ∀ (σ : hv_St) (x4 : Int32) (x5 : Int32) (z0 : Int32) (z1 : Int32) (z2 : Int32), kL_law_1610 n L xs r23 σ x4 x5 z0 z1 z2 = some () → hv_G p l e room_1 s m #[Value.ref b] below meth c 8 D 79 a (hv_LE a cy) (cells + 2) (slots + 12) (lw_Z below #[Value.ref b] s) σ 1610 [(0, .ref b), (1, .ref (a 0)), (2, .ref (a 56)), (3, .ref (a 55)), (4, .int (x4)), (5, .int (x5))] [.int (z0), .int (z1), .int (z2), .ref (a 56)] := by
  intro σ x4 x5 z0 z1 z2 h
  have C := CL.1
  unfold kL_law_1610 at h
  obtain ⟨r1610, t1610, hc1610, h⟩ := hv_b2_some h
  refine g_subV (pc := 1610) (cells := cells + 2) (slots := slots + 12) (o := 56) (X2 := hv_ME (fun i => a (i + 56)) cy) (n := 23) (τ := t1610) (v := some (.long (r1610))) (As := [.int (z2), .int (z1), .int (z0)]) (rest := []) C 0 (hv_LE_M a cy) (Nat.le_of_ble_eq_true rfl) (vX8_left (a := fun i => a (i + 56)) hc1610) (cwV 3 C.1.2.2.2.2 gL_law_X8_left rfl rfl rfl (by decide +kernel) ⟨Nat.le_of_ble_eq_true rfl, Nat.le_of_ble_eq_true rfl⟩) (Nat.le_of_ble_eq_true rfl) rfl rfl rfl rfl (Nat.le_of_ble_eq_true rfl) dL_law_1610 (hv_cl 2 hcl (by decide)) ?_
  refine g_st (st' := [.long (r1610)]) rfl ?_
  refine g_lstore (pc := 1613) C (lv' := [(6, .long (r1610)), (0, .ref b), (1, .ref (a 0)), (2, .ref (a 56)), (3, .ref (a 55)), (4, .int (x4)), (5, .int (x5))]) rfl dL_law_1613 (Nat.le_of_ble_eq_true rfl) rfl ?_
  refine g_aload_n (pc := 1615) C 3 dL_law_1615 rfl rfl ?_
  obtain ⟨r1616, t1616, hc1616, h⟩ := hv_b2_some h
  refine g_subV (pc := 1616) (cells := cells + 2) (slots := slots + 12) (o := 56) (X2 := hv_ME (fun i => a (i + 56)) cy) (n := 23) (τ := t1616) (v := some (.int (r1616))) (As := []) (rest := []) C 0 (hv_LE_M a cy) (Nat.le_of_ble_eq_true rfl) (vX8_thrown (a := fun i => a (i + 56)) hc1616) (cwV 0 C.1.2.2.2.2 gL_law_X8_thrown rfl rfl rfl (by decide +kernel) ⟨Nat.le_of_ble_eq_true rfl, Nat.le_of_ble_eq_true rfl⟩) (Nat.le_of_ble_eq_true rfl) rfl rfl rfl rfl (Nat.le_of_ble_eq_true rfl) dL_law_1616 (hv_cl 2 hcl (by decide)) ?_
  refine g_st (st' := [.int (r1616)]) rfl ?_
  refine g_iload (pc := 1619) C 6 dL_law_1619 rfl ?_
  refine g_icmp_eq (pc := 1621) (tgt := 1626) C dL_law_1621 (by decide) (fun c1621 => ?_) (fun c1621 => ?_)
  · rw [if_pos c1621] at h
    refine g_iload (pc := 1626) C 6 dL_law_1626 rfl ?_
    refine g_if_ne (pc := 1628) (tgt := 1642) C dL_law_1628 (by decide) (fun c1628 => ?_) (fun c1628 => ?_)
    · rw [if_neg c1628] at h
      exact g_lv [1, 2, 3, 4, 5] rfl (bL_law_1642 hflag CL hcl hr23 (hv_mg 56 23 ((hv_mg 56 23 (σ) t1610)) t1616) (x4) h)
    · rw [if_pos c1628] at h
      refine g_aload_n (pc := 1631) C 4 dL_law_1631 rfl rfl ?_
      refine g_iconst (pc := 1632) C (v := (0 : Int32)) dL_law_1632 (by decide) ?_
      refine g_lald (pc := 1633) C 55 1 (cA := cy.2.1) (n := 1) (Nat.le_of_ble_eq_true rfl) rfl rfl (by decide) dL_law_1633 ?_
      refine g_lload (pc := 1634) C 0 dL_law_1634 rfl ?_
      refine g_lcmp (pc := 1636) C dL_law_1636 ?_
      refine g_if_eq (pc := 1637) (tgt := 1642) C dL_law_1637 (by decide) (fun c1637 => ?_) (fun c1637 => ?_)
      · rw [if_pos c1637] at h
        exact g_lv [1, 2, 3, 4, 5] rfl (bL_law_1642 hflag CL hcl hr23 (hv_mg 56 23 ((hv_mg 56 23 (σ) t1610)) t1616) (x4) h)
      · rw [if_neg c1637] at h
        cases h
  · rw [if_neg c1621] at h
    cases h
set_option maxHeartbeats 4000000 in
set_option maxRecDepth 20000 in
theorem bL_law_1577 (hflag : l.stackTraces = false) (CL : hv_CL p s m meth c D cy a b L xs) (hcl : cells + 2 ≤ room_1.cells ∧ slots + 12 ≤ room_1.slots) {n : Nat} {r23 : hv_St → Int32 → Option Unit} (hr23 : ∀ (σ : hv_St) (x4 : Int32), r23 σ x4 = some () → hv_G p l e room_1 s m #[Value.ref b] below meth c 8 D 79 a (hv_LE a cy) (cells + 2) (slots + 12) (lw_Z below #[Value.ref b] s) σ 23 [(0, .ref b), (1, .ref (a 0)), (2, .ref (a 56)), (3, .ref (a 55)), (4, .int (x4))] []) : ∀ (σ : hv_St) (x4 : Int32) (z0 : Int32) (z1 : Int32) (z2 : Int32), kL_law_1577 n L xs r23 σ x4 z0 z1 z2 = some () → hv_G p l e room_1 s m #[Value.ref b] below meth c 8 D 79 a (hv_LE a cy) cells slots (lw_Z below #[Value.ref b] s) σ 1577 [(0, .ref b), (1, .ref (a 0)), (2, .ref (a 56)), (3, .ref (a 55)), (4, .int (x4))] [.int (z0), .int (z1), .int (z2), .ref (a 0)] := by
  intro σ x4 z0 z1 z2 h
  have C := CL.1
  unfold kL_law_1577 at h
  refine g_aload_n (pc := 1577) C 3 dL_law_1577 rfl rfl ?_
  obtain ⟨r1578, t1578, hc1578, h⟩ := hv_b2_some h
  refine g_callW (pc := 1578) (cells := cells) (slots := slots) (X2 := hv_XO (fun i => a (i + 0)) cy) (n := 56) (τ := t1578) (v := some (.int (r1578))) (As := [.ref (a 0), .int (z2), .int (z1), .int (z0), .ref (a 55)]) (rest := []) C CL.2.1 (hv_LE_O a cy) (Nat.le_of_ble_eq_true rfl) (vL_left (a := fun i => a (i + 0)) hflag hc1578) (vx_cwSW 5 C.1.2.2.2.2 gL_law_L_left rfl rfl rfl (by decide +kernel) ⟨Nat.le_of_ble_eq_true rfl, Nat.le_of_ble_eq_true rfl⟩) rfl rfl (Nat.le_of_ble_eq_true rfl) dL_law_1578 (hv_cl 2 hcl (by decide)) ?_
  refine g_st (st' := [.int (r1578)]) rfl ?_
  refine g_istore (pc := 1581) C (lv' := [(5, .int (r1578)), (0, .ref b), (1, .ref (a 0)), (2, .ref (a 56)), (3, .ref (a 55)), (4, .int (x4))]) rfl dL_law_1581 (Nat.le_of_ble_eq_true rfl) rfl ?_
  refine g_aload_n (pc := 1583) C 3 dL_law_1583 rfl rfl ?_
  refine g_aload_n (pc := 1584) C 1 dL_law_1584 rfl rfl ?_
  refine g_iload (pc := 1585) C 5 dL_law_1585 rfl ?_
  refine g_iconst (pc := 1587) C (v := (1 : Int32)) dL_law_1587 (by decide) ?_
  refine g_iadd (pc := 1588) C dL_law_1588 ?_
  obtain ⟨k1589, h⟩ := hv_if_some h
  refine g_sld (pc := 1589) CL k1589 dL_law_1589 ?_
  refine g_aload_n (pc := 1590) C 1 dL_law_1590 rfl rfl ?_
  refine g_iload (pc := 1591) C 5 dL_law_1591 rfl ?_
  refine g_iconst (pc := 1593) C (v := (2 : Int32)) dL_law_1593 (by decide) ?_
  refine g_iadd (pc := 1594) C dL_law_1594 ?_
  obtain ⟨k1595, h⟩ := hv_if_some h
  refine g_sld (pc := 1595) CL k1595 dL_law_1595 ?_
  refine g_aload_n (pc := 1596) C 1 dL_law_1596 rfl rfl ?_
  refine g_iload (pc := 1597) C 5 dL_law_1597 rfl ?_
  refine g_iconst (pc := 1599) C (v := (3 : Int32)) dL_law_1599 (by decide) ?_
  refine g_iadd (pc := 1600) C dL_law_1600 ?_
  obtain ⟨k1601, h⟩ := hv_if_some h
  refine g_sld (pc := 1601) CL k1601 dL_law_1601 ?_
  refine g_if_eq (pc := 1602) (tgt := 1609) C dL_law_1602 (by decide) (fun c1602 => ?_) (fun c1602 => ?_)
  · rw [if_pos c1602] at h
    refine g_iconst (pc := 1609) C (v := (0 : Int32)) dL_law_1609 (by decide) ?_
    exact g_lv [1, 2, 3, 4, 5, 0] rfl (bL_law_1610 hflag CL hcl hr23 (hv_mg 0 56 (σ) t1578) (x4) (r1578) ((0 : Int32)) (xs ((x4) + ((2 : Int32))).toNatClampNeg) (xs ((x4) + ((1 : Int32))).toNatClampNeg) h)
  · rw [if_neg c1602] at h
    refine g_iconst (pc := 1605) C (v := (1 : Int32)) dL_law_1605 (by decide) ?_
    refine g_goto (pc := 1606) C (tgt := 1610) dL_law_1606 (by decide) ?_
    exact g_lv [1, 2, 3, 4, 5, 0] rfl (bL_law_1610 hflag CL hcl hr23 (hv_mg 0 56 (σ) t1578) (x4) (r1578) ((1 : Int32)) (xs ((x4) + ((2 : Int32))).toNatClampNeg) (xs ((x4) + ((1 : Int32))).toNatClampNeg) h)
set_option maxHeartbeats 4000000 in
set_option maxRecDepth 20000 in
theorem bL_law_1550 (hflag : l.stackTraces = false) (CL : hv_CL p s m meth c D cy a b L xs) (hcl : cells + 2 ≤ room_1.cells ∧ slots + 12 ≤ room_1.slots) {n : Nat} {r23 : hv_St → Int32 → Option Unit} (hr23 : ∀ (σ : hv_St) (x4 : Int32), r23 σ x4 = some () → hv_G p l e room_1 s m #[Value.ref b] below meth c 8 D 79 a (hv_LE a cy) (cells + 2) (slots + 12) (lw_Z below #[Value.ref b] s) σ 23 [(0, .ref b), (1, .ref (a 0)), (2, .ref (a 56)), (3, .ref (a 55)), (4, .int (x4))] []) : ∀ (σ : hv_St) (x4 : Int32), kL_law_1550 n L xs r23 σ x4 = some () → hv_G p l e room_1 s m #[Value.ref b] below meth c 8 D 79 a (hv_LE a cy) cells slots (lw_Z below #[Value.ref b] s) σ 1550 [(0, .ref b), (1, .ref (a 0)), (2, .ref (a 56)), (3, .ref (a 55)), (4, .int (x4))] [] := by
  intro σ x4 h
  have C := CL.1
  unfold kL_law_1550 at h
  refine g_aload_n (pc := 1550) C 1 dL_law_1550 rfl rfl ?_
  refine g_aload_n (pc := 1551) C 0 dL_law_1551 rfl rfl ?_
  refine g_iload (pc := 1552) C 4 dL_law_1552 rfl ?_
  refine g_iconst (pc := 1554) C (v := (1 : Int32)) dL_law_1554 (by decide) ?_
  refine g_iadd (pc := 1555) C dL_law_1555 ?_
  obtain ⟨k1556, h⟩ := hv_if_some h
  refine g_sld (pc := 1556) CL k1556 dL_law_1556 ?_
  refine g_aload_n (pc := 1557) C 0 dL_law_1557 rfl rfl ?_
  refine g_iload (pc := 1558) C 4 dL_law_1558 rfl ?_
  refine g_iconst (pc := 1560) C (v := (2 : Int32)) dL_law_1560 (by decide) ?_
  refine g_iadd (pc := 1561) C dL_law_1561 ?_
  obtain ⟨k1562, h⟩ := hv_if_some h
  refine g_sld (pc := 1562) CL k1562 dL_law_1562 ?_
  refine g_aload_n (pc := 1563) C 0 dL_law_1563 rfl rfl ?_
  refine g_iload (pc := 1564) C 4 dL_law_1564 rfl ?_
  refine g_iconst (pc := 1566) C (v := (3 : Int32)) dL_law_1566 (by decide) ?_
  refine g_iadd (pc := 1567) C dL_law_1567 ?_
  obtain ⟨k1568, h⟩ := hv_if_some h
  refine g_sld (pc := 1568) CL k1568 dL_law_1568 ?_
  refine g_if_eq (pc := 1569) (tgt := 1576) C dL_law_1569 (by decide) (fun c1569 => ?_) (fun c1569 => ?_)
  · rw [if_pos c1569] at h
    refine g_iconst (pc := 1576) C (v := (0 : Int32)) dL_law_1576 (by decide) ?_
    exact g_lv [0, 1, 2, 3, 4] rfl (bL_law_1577 hflag CL hcl hr23 σ (x4) ((0 : Int32)) (xs ((x4) + ((2 : Int32))).toNatClampNeg) (xs ((x4) + ((1 : Int32))).toNatClampNeg) h)
  · rw [if_neg c1569] at h
    refine g_iconst (pc := 1572) C (v := (1 : Int32)) dL_law_1572 (by decide) ?_
    refine g_goto (pc := 1573) C (tgt := 1577) dL_law_1573 (by decide) ?_
    exact g_lv [0, 1, 2, 3, 4] rfl (bL_law_1577 hflag CL hcl hr23 σ (x4) ((1 : Int32)) (xs ((x4) + ((2 : Int32))).toNatClampNeg) (xs ((x4) + ((1 : Int32))).toNatClampNeg) h)
set_option maxHeartbeats 4000000 in
set_option maxRecDepth 20000 in
theorem bL_law_1525 (hflag : l.stackTraces = false) (CL : hv_CL p s m meth c D cy a b L xs) (hcl : cells + 2 ≤ room_1.cells ∧ slots + 12 ≤ room_1.slots) {n : Nat} {r23 : hv_St → Int32 → Option Unit} (hr23 : ∀ (σ : hv_St) (x4 : Int32), r23 σ x4 = some () → hv_G p l e room_1 s m #[Value.ref b] below meth c 8 D 79 a (hv_LE a cy) (cells + 2) (slots + 12) (lw_Z below #[Value.ref b] s) σ 23 [(0, .ref b), (1, .ref (a 0)), (2, .ref (a 56)), (3, .ref (a 55)), (4, .int (x4))] []) : ∀ (σ : hv_St) (x4 : Int32), kL_law_1525 n L xs r23 σ x4 = some () → hv_G p l e room_1 s m #[Value.ref b] below meth c 8 D 79 a (hv_LE a cy) cells slots (lw_Z below #[Value.ref b] s) σ 1525 [(0, .ref b), (1, .ref (a 0)), (2, .ref (a 56)), (3, .ref (a 55)), (4, .int (x4))] [] := by
  intro σ x4 h
  have C := CL.1
  unfold kL_law_1525 at h
  refine g_aload_n (pc := 1525) C 1 dL_law_1525 rfl rfl ?_
  refine g_aload_n (pc := 1526) C 0 dL_law_1526 rfl rfl ?_
  refine g_iload (pc := 1527) C 4 dL_law_1527 rfl ?_
  refine g_iconst (pc := 1529) C (v := (1 : Int32)) dL_law_1529 (by decide) ?_
  refine g_iadd (pc := 1530) C dL_law_1530 ?_
  obtain ⟨k1531, h⟩ := hv_if_some h
  refine g_sld (pc := 1531) CL k1531 dL_law_1531 ?_
  obtain ⟨r1532, t1532, hc1532, h⟩ := hv_b2_some h
  refine g_subV (pc := 1532) (cells := cells) (slots := slots) (o := 0) (X2 := hv_XE (fun i => a (i + 0)) cy) (n := 55) (τ := t1532) (v := some (.int (r1532))) (As := [.int (xs ((x4) + ((1 : Int32))).toNatClampNeg)]) (rest := []) C 0 (hv_LE_X a cy) (Nat.le_of_ble_eq_true rfl) (vX7_without (a := fun i => a (i + 0)) hc1532) (cwV 1 C.1.2.2.2.2 gL_law_X7_without rfl rfl rfl (by decide +kernel) ⟨Nat.le_of_ble_eq_true rfl, Nat.le_of_ble_eq_true rfl⟩) (Nat.le_of_ble_eq_true rfl) rfl rfl rfl rfl (Nat.le_of_ble_eq_true rfl) dL_law_1532 (hv_cl 0 hcl (by decide)) ?_
  refine g_st (st' := [.int (r1532)]) rfl ?_
  refine g_aload_n (pc := 1535) C 2 dL_law_1535 rfl rfl ?_
  refine g_aload_n (pc := 1536) C 0 dL_law_1536 rfl rfl ?_
  refine g_iload (pc := 1537) C 4 dL_law_1537 rfl ?_
  refine g_iconst (pc := 1539) C (v := (1 : Int32)) dL_law_1539 (by decide) ?_
  refine g_iadd (pc := 1540) C dL_law_1540 ?_
  obtain ⟨k1541, h⟩ := hv_if_some h
  refine g_sld (pc := 1541) CL k1541 dL_law_1541 ?_
  obtain ⟨r1542, t1542, hc1542, h⟩ := hv_b2_some h
  refine g_subV (pc := 1542) (cells := cells) (slots := slots) (o := 56) (X2 := hv_ME (fun i => a (i + 56)) cy) (n := 23) (τ := t1542) (v := some (.int (r1542))) (As := [.int (xs ((x4) + ((1 : Int32))).toNatClampNeg)]) (rest := [.int (r1532)]) C 0 (hv_LE_M a cy) (Nat.le_of_ble_eq_true rfl) (vX8_without (a := fun i => a (i + 56)) hc1542) (cwV 1 C.1.2.2.2.2 gL_law_X8_without rfl rfl rfl (by decide +kernel) ⟨Nat.le_of_ble_eq_true rfl, Nat.le_of_ble_eq_true rfl⟩) (Nat.le_of_ble_eq_true rfl) rfl rfl rfl rfl (Nat.le_of_ble_eq_true rfl) dL_law_1542 (hv_cl 0 hcl (by decide)) ?_
  refine g_st (st' := [.int (r1542), .int (r1532)]) rfl ?_
  refine g_icmp_eq (pc := 1545) (tgt := 1699) C dL_law_1545 (by decide) (fun c1545 => ?_) (fun c1545 => ?_)
  · rw [if_pos c1545] at h
    refine g_widen (cells := cells) (slots := slots) (k := cells + 2) (n := slots + 12) (by omega) (by omega) ?_
    exact g_lv [0, 1, 2, 3, 4] rfl (bL_law_1699 hflag CL hcl hr23 (hv_mg 56 23 ((hv_mg 0 55 (σ) t1532)) t1542) (x4) h)
  · rw [if_neg c1545] at h
    cases h
set_option maxHeartbeats 4000000 in
set_option maxRecDepth 20000 in
theorem bL_law_1500 (hflag : l.stackTraces = false) (CL : hv_CL p s m meth c D cy a b L xs) (hcl : cells + 2 ≤ room_1.cells ∧ slots + 12 ≤ room_1.slots) {n : Nat} {r23 : hv_St → Int32 → Option Unit} (hr23 : ∀ (σ : hv_St) (x4 : Int32), r23 σ x4 = some () → hv_G p l e room_1 s m #[Value.ref b] below meth c 8 D 79 a (hv_LE a cy) (cells + 2) (slots + 12) (lw_Z below #[Value.ref b] s) σ 23 [(0, .ref b), (1, .ref (a 0)), (2, .ref (a 56)), (3, .ref (a 55)), (4, .int (x4))] []) : ∀ (σ : hv_St) (x4 : Int32), kL_law_1500 n L xs r23 σ x4 = some () → hv_G p l e room_1 s m #[Value.ref b] below meth c 8 D 79 a (hv_LE a cy) cells slots (lw_Z below #[Value.ref b] s) σ 1500 [(0, .ref b), (1, .ref (a 0)), (2, .ref (a 56)), (3, .ref (a 55)), (4, .int (x4))] [] := by
  intro σ x4 h
  have C := CL.1
  unfold kL_law_1500 at h
  refine g_aload_n (pc := 1500) C 1 dL_law_1500 rfl rfl ?_
  refine g_aload_n (pc := 1501) C 0 dL_law_1501 rfl rfl ?_
  refine g_iload (pc := 1502) C 4 dL_law_1502 rfl ?_
  refine g_iconst (pc := 1504) C (v := (1 : Int32)) dL_law_1504 (by decide) ?_
  refine g_iadd (pc := 1505) C dL_law_1505 ?_
  obtain ⟨k1506, h⟩ := hv_if_some h
  refine g_sld (pc := 1506) CL k1506 dL_law_1506 ?_
  obtain ⟨r1507, t1507, hc1507, h⟩ := hv_b2_some h
  refine g_subV (pc := 1507) (cells := cells) (slots := slots) (o := 0) (X2 := hv_XE (fun i => a (i + 0)) cy) (n := 55) (τ := t1507) (v := some (.int (r1507))) (As := [.int (xs ((x4) + ((1 : Int32))).toNatClampNeg)]) (rest := []) C 0 (hv_LE_X a cy) (Nat.le_of_ble_eq_true rfl) (vX7_worst (a := fun i => a (i + 0)) hc1507) (cwV 1 C.1.2.2.2.2 gL_law_X7_worst rfl rfl rfl (by decide +kernel) ⟨Nat.le_of_ble_eq_true rfl, Nat.le_of_ble_eq_true rfl⟩) (Nat.le_of_ble_eq_true rfl) rfl rfl rfl rfl (Nat.le_of_ble_eq_true rfl) dL_law_1507 (hv_cl 0 hcl (by decide)) ?_
  refine g_st (st' := [.int (r1507)]) rfl ?_
  refine g_aload_n (pc := 1510) C 2 dL_law_1510 rfl rfl ?_
  refine g_aload_n (pc := 1511) C 0 dL_law_1511 rfl rfl ?_
  refine g_iload (pc := 1512) C 4 dL_law_1512 rfl ?_
  refine g_iconst (pc := 1514) C (v := (1 : Int32)) dL_law_1514 (by decide) ?_
  refine g_iadd (pc := 1515) C dL_law_1515 ?_
  obtain ⟨k1516, h⟩ := hv_if_some h
  refine g_sld (pc := 1516) CL k1516 dL_law_1516 ?_
  obtain ⟨r1517, t1517, hc1517, h⟩ := hv_b2_some h
  refine g_subV (pc := 1517) (cells := cells) (slots := slots) (o := 56) (X2 := hv_ME (fun i => a (i + 56)) cy) (n := 23) (τ := t1517) (v := some (.int (r1517))) (As := [.int (xs ((x4) + ((1 : Int32))).toNatClampNeg)]) (rest := [.int (r1507)]) C 0 (hv_LE_M a cy) (Nat.le_of_ble_eq_true rfl) (vX8_worst (a := fun i => a (i + 56)) hc1517) (cwV 1 C.1.2.2.2.2 gL_law_X8_worst rfl rfl rfl (by decide +kernel) ⟨Nat.le_of_ble_eq_true rfl, Nat.le_of_ble_eq_true rfl⟩) (Nat.le_of_ble_eq_true rfl) rfl rfl rfl rfl (Nat.le_of_ble_eq_true rfl) dL_law_1517 (hv_cl 0 hcl (by decide)) ?_
  refine g_st (st' := [.int (r1517), .int (r1507)]) rfl ?_
  refine g_icmp_eq (pc := 1520) (tgt := 1699) C dL_law_1520 (by decide) (fun c1520 => ?_) (fun c1520 => ?_)
  · rw [if_pos c1520] at h
    refine g_widen (cells := cells) (slots := slots) (k := cells + 2) (n := slots + 12) (by omega) (by omega) ?_
    exact g_lv [0, 1, 2, 3, 4] rfl (bL_law_1699 hflag CL hcl hr23 (hv_mg 56 23 ((hv_mg 0 55 (σ) t1507)) t1517) (x4) h)
  · rw [if_neg c1520] at h
    cases h
set_option maxHeartbeats 4000000 in
set_option maxRecDepth 20000 in
theorem bL_law_1497 (hflag : l.stackTraces = false) (CL : hv_CL p s m meth c D cy a b L xs) (hcl : cells + 2 ≤ room_1.cells ∧ slots + 12 ≤ room_1.slots) {n : Nat} {r23 : hv_St → Int32 → Option Unit} (hr23 : ∀ (σ : hv_St) (x4 : Int32), r23 σ x4 = some () → hv_G p l e room_1 s m #[Value.ref b] below meth c 8 D 79 a (hv_LE a cy) (cells + 2) (slots + 12) (lw_Z below #[Value.ref b] s) σ 23 [(0, .ref b), (1, .ref (a 0)), (2, .ref (a 56)), (3, .ref (a 55)), (4, .int (x4))] []) : ∀ (σ : hv_St) (x4 : Int32), kL_law_1497 n L xs r23 σ x4 = some () → hv_G p l e room_1 s m #[Value.ref b] below meth c 8 D 79 a (hv_LE a cy) (cells + 2) (slots + 12) (lw_Z below #[Value.ref b] s) σ 1497 [(0, .ref b), (1, .ref (a 0)), (2, .ref (a 56)), (3, .ref (a 55)), (4, .int (x4))] [] := by
  intro σ x4 h
  have C := CL.1
  unfold kL_law_1497 at h
  refine g_goto (pc := 1497) C (tgt := 1699) dL_law_1497 (by decide) ?_
  exact g_lv [0, 1, 2, 3, 4] rfl (bL_law_1699 hflag CL hcl hr23 σ (x4) h)
set_option maxHeartbeats 4000000 in
set_option maxRecDepth 20000 in
theorem bL_law_1465 (hflag : l.stackTraces = false) (CL : hv_CL p s m meth c D cy a b L xs) (hcl : cells + 2 ≤ room_1.cells ∧ slots + 12 ≤ room_1.slots) {n : Nat} {r23 : hv_St → Int32 → Option Unit} (hr23 : ∀ (σ : hv_St) (x4 : Int32), r23 σ x4 = some () → hv_G p l e room_1 s m #[Value.ref b] below meth c 8 D 79 a (hv_LE a cy) (cells + 2) (slots + 12) (lw_Z below #[Value.ref b] s) σ 23 [(0, .ref b), (1, .ref (a 0)), (2, .ref (a 56)), (3, .ref (a 55)), (4, .int (x4))] []) : ∀ (σ : hv_St) (x4 : Int32) (x5 : Int32) (z0 : Int32) (z1 : Int32) (z2 : Int32), kL_law_1465 n L xs r23 σ x4 x5 z0 z1 z2 = some () → hv_G p l e room_1 s m #[Value.ref b] below meth c 8 D 79 a (hv_LE a cy) (cells + 2) (slots + 12) (lw_Z below #[Value.ref b] s) σ 1465 [(0, .ref b), (1, .ref (a 0)), (2, .ref (a 56)), (3, .ref (a 55)), (4, .int (x4)), (5, .int (x5))] [.int (z0), .int (z1), .int (z2), .ref (a 56)] := by
  intro σ x4 x5 z0 z1 z2 h
  have C := CL.1
  unfold kL_law_1465 at h
  obtain ⟨r1465, t1465, hc1465, h⟩ := hv_b2_some h
  refine g_subV (pc := 1465) (cells := cells + 2) (slots := slots + 12) (o := 56) (X2 := hv_ME (fun i => a (i + 56)) cy) (n := 23) (τ := t1465) (v := some (.long (r1465))) (As := [.int (z2), .int (z1), .int (z0)]) (rest := []) C 0 (hv_LE_M a cy) (Nat.le_of_ble_eq_true rfl) (vX8_riding (a := fun i => a (i + 56)) hc1465) (cwV 3 C.1.2.2.2.2 gL_law_X8_riding rfl rfl rfl (by decide +kernel) ⟨Nat.le_of_ble_eq_true rfl, Nat.le_of_ble_eq_true rfl⟩) (Nat.le_of_ble_eq_true rfl) rfl rfl rfl rfl (Nat.le_of_ble_eq_true rfl) dL_law_1465 (hv_cl 2 hcl (by decide)) ?_
  refine g_st (st' := [.long (r1465)]) rfl ?_
  refine g_lstore (pc := 1468) C (lv' := [(6, .long (r1465)), (0, .ref b), (1, .ref (a 0)), (2, .ref (a 56)), (3, .ref (a 55)), (4, .int (x4)), (5, .int (x5))]) rfl dL_law_1468 (Nat.le_of_ble_eq_true rfl) rfl ?_
  refine g_aload_n (pc := 1470) C 3 dL_law_1470 rfl rfl ?_
  obtain ⟨r1471, t1471, hc1471, h⟩ := hv_b2_some h
  refine g_subV (pc := 1471) (cells := cells + 2) (slots := slots + 12) (o := 56) (X2 := hv_ME (fun i => a (i + 56)) cy) (n := 23) (τ := t1471) (v := some (.int (r1471))) (As := []) (rest := []) C 0 (hv_LE_M a cy) (Nat.le_of_ble_eq_true rfl) (vX8_thrown (a := fun i => a (i + 56)) hc1471) (cwV 0 C.1.2.2.2.2 gL_law_X8_thrown rfl rfl rfl (by decide +kernel) ⟨Nat.le_of_ble_eq_true rfl, Nat.le_of_ble_eq_true rfl⟩) (Nat.le_of_ble_eq_true rfl) rfl rfl rfl rfl (Nat.le_of_ble_eq_true rfl) dL_law_1471 (hv_cl 2 hcl (by decide)) ?_
  refine g_st (st' := [.int (r1471)]) rfl ?_
  refine g_iload (pc := 1474) C 6 dL_law_1474 rfl ?_
  refine g_icmp_eq (pc := 1476) (tgt := 1481) C dL_law_1476 (by decide) (fun c1476 => ?_) (fun c1476 => ?_)
  · rw [if_pos c1476] at h
    refine g_iload (pc := 1481) C 6 dL_law_1481 rfl ?_
    refine g_if_ne (pc := 1483) (tgt := 1497) C dL_law_1483 (by decide) (fun c1483 => ?_) (fun c1483 => ?_)
    · rw [if_neg c1483] at h
      exact g_lv [1, 2, 3, 4, 5] rfl (bL_law_1497 hflag CL hcl hr23 (hv_mg 56 23 ((hv_mg 56 23 (σ) t1465)) t1471) (x4) h)
    · rw [if_pos c1483] at h
      refine g_aload_n (pc := 1486) C 4 dL_law_1486 rfl rfl ?_
      refine g_iconst (pc := 1487) C (v := (0 : Int32)) dL_law_1487 (by decide) ?_
      refine g_lald (pc := 1488) C 55 1 (cA := cy.2.1) (n := 1) (Nat.le_of_ble_eq_true rfl) rfl rfl (by decide) dL_law_1488 ?_
      refine g_lload (pc := 1489) C 0 dL_law_1489 rfl ?_
      refine g_lcmp (pc := 1491) C dL_law_1491 ?_
      refine g_if_eq (pc := 1492) (tgt := 1497) C dL_law_1492 (by decide) (fun c1492 => ?_) (fun c1492 => ?_)
      · rw [if_pos c1492] at h
        exact g_lv [1, 2, 3, 4, 5] rfl (bL_law_1497 hflag CL hcl hr23 (hv_mg 56 23 ((hv_mg 56 23 (σ) t1465)) t1471) (x4) h)
      · rw [if_neg c1492] at h
        cases h
  · rw [if_neg c1476] at h
    cases h
set_option maxHeartbeats 4000000 in
set_option maxRecDepth 20000 in
theorem bL_law_1432 (hflag : l.stackTraces = false) (CL : hv_CL p s m meth c D cy a b L xs) (hcl : cells + 2 ≤ room_1.cells ∧ slots + 12 ≤ room_1.slots) {n : Nat} {r23 : hv_St → Int32 → Option Unit} (hr23 : ∀ (σ : hv_St) (x4 : Int32), r23 σ x4 = some () → hv_G p l e room_1 s m #[Value.ref b] below meth c 8 D 79 a (hv_LE a cy) (cells + 2) (slots + 12) (lw_Z below #[Value.ref b] s) σ 23 [(0, .ref b), (1, .ref (a 0)), (2, .ref (a 56)), (3, .ref (a 55)), (4, .int (x4))] []) : ∀ (σ : hv_St) (x4 : Int32) (z0 : Int32) (z1 : Int32) (z2 : Int32), kL_law_1432 n L xs r23 σ x4 z0 z1 z2 = some () → hv_G p l e room_1 s m #[Value.ref b] below meth c 8 D 79 a (hv_LE a cy) cells slots (lw_Z below #[Value.ref b] s) σ 1432 [(0, .ref b), (1, .ref (a 0)), (2, .ref (a 56)), (3, .ref (a 55)), (4, .int (x4))] [.int (z0), .int (z1), .int (z2), .ref (a 0)] := by
  intro σ x4 z0 z1 z2 h
  have C := CL.1
  unfold kL_law_1432 at h
  refine g_aload_n (pc := 1432) C 3 dL_law_1432 rfl rfl ?_
  obtain ⟨r1433, t1433, hc1433, h⟩ := hv_b2_some h
  refine g_callW (pc := 1433) (cells := cells) (slots := slots) (X2 := hv_XO (fun i => a (i + 0)) cy) (n := 56) (τ := t1433) (v := some (.int (r1433))) (As := [.ref (a 0), .int (z2), .int (z1), .int (z0), .ref (a 55)]) (rest := []) C CL.2.1 (hv_LE_O a cy) (Nat.le_of_ble_eq_true rfl) (vL_riding (a := fun i => a (i + 0)) hflag hc1433) (vx_cwSW 5 C.1.2.2.2.2 gL_law_L_riding rfl rfl rfl (by decide +kernel) ⟨Nat.le_of_ble_eq_true rfl, Nat.le_of_ble_eq_true rfl⟩) rfl rfl (Nat.le_of_ble_eq_true rfl) dL_law_1433 (hv_cl 2 hcl (by decide)) ?_
  refine g_st (st' := [.int (r1433)]) rfl ?_
  refine g_istore (pc := 1436) C (lv' := [(5, .int (r1433)), (0, .ref b), (1, .ref (a 0)), (2, .ref (a 56)), (3, .ref (a 55)), (4, .int (x4))]) rfl dL_law_1436 (Nat.le_of_ble_eq_true rfl) rfl ?_
  refine g_aload_n (pc := 1438) C 3 dL_law_1438 rfl rfl ?_
  refine g_aload_n (pc := 1439) C 1 dL_law_1439 rfl rfl ?_
  refine g_iload (pc := 1440) C 5 dL_law_1440 rfl ?_
  refine g_iconst (pc := 1442) C (v := (1 : Int32)) dL_law_1442 (by decide) ?_
  refine g_iadd (pc := 1443) C dL_law_1443 ?_
  obtain ⟨k1444, h⟩ := hv_if_some h
  refine g_sld (pc := 1444) CL k1444 dL_law_1444 ?_
  refine g_aload_n (pc := 1445) C 1 dL_law_1445 rfl rfl ?_
  refine g_iload (pc := 1446) C 5 dL_law_1446 rfl ?_
  refine g_iconst (pc := 1448) C (v := (2 : Int32)) dL_law_1448 (by decide) ?_
  refine g_iadd (pc := 1449) C dL_law_1449 ?_
  obtain ⟨k1450, h⟩ := hv_if_some h
  refine g_sld (pc := 1450) CL k1450 dL_law_1450 ?_
  refine g_aload_n (pc := 1451) C 1 dL_law_1451 rfl rfl ?_
  refine g_iload (pc := 1452) C 5 dL_law_1452 rfl ?_
  refine g_iconst (pc := 1454) C (v := (3 : Int32)) dL_law_1454 (by decide) ?_
  refine g_iadd (pc := 1455) C dL_law_1455 ?_
  obtain ⟨k1456, h⟩ := hv_if_some h
  refine g_sld (pc := 1456) CL k1456 dL_law_1456 ?_
  refine g_if_eq (pc := 1457) (tgt := 1464) C dL_law_1457 (by decide) (fun c1457 => ?_) (fun c1457 => ?_)
  · rw [if_pos c1457] at h
    refine g_iconst (pc := 1464) C (v := (0 : Int32)) dL_law_1464 (by decide) ?_
    exact g_lv [1, 2, 3, 4, 5, 0] rfl (bL_law_1465 hflag CL hcl hr23 (hv_mg 0 56 (σ) t1433) (x4) (r1433) ((0 : Int32)) (xs ((x4) + ((2 : Int32))).toNatClampNeg) (xs ((x4) + ((1 : Int32))).toNatClampNeg) h)
  · rw [if_neg c1457] at h
    refine g_iconst (pc := 1460) C (v := (1 : Int32)) dL_law_1460 (by decide) ?_
    refine g_goto (pc := 1461) C (tgt := 1465) dL_law_1461 (by decide) ?_
    exact g_lv [1, 2, 3, 4, 5, 0] rfl (bL_law_1465 hflag CL hcl hr23 (hv_mg 0 56 (σ) t1433) (x4) (r1433) ((1 : Int32)) (xs ((x4) + ((2 : Int32))).toNatClampNeg) (xs ((x4) + ((1 : Int32))).toNatClampNeg) h)
set_option maxHeartbeats 4000000 in
set_option maxRecDepth 20000 in
theorem bL_law_1405 (hflag : l.stackTraces = false) (CL : hv_CL p s m meth c D cy a b L xs) (hcl : cells + 2 ≤ room_1.cells ∧ slots + 12 ≤ room_1.slots) {n : Nat} {r23 : hv_St → Int32 → Option Unit} (hr23 : ∀ (σ : hv_St) (x4 : Int32), r23 σ x4 = some () → hv_G p l e room_1 s m #[Value.ref b] below meth c 8 D 79 a (hv_LE a cy) (cells + 2) (slots + 12) (lw_Z below #[Value.ref b] s) σ 23 [(0, .ref b), (1, .ref (a 0)), (2, .ref (a 56)), (3, .ref (a 55)), (4, .int (x4))] []) : ∀ (σ : hv_St) (x4 : Int32), kL_law_1405 n L xs r23 σ x4 = some () → hv_G p l e room_1 s m #[Value.ref b] below meth c 8 D 79 a (hv_LE a cy) cells slots (lw_Z below #[Value.ref b] s) σ 1405 [(0, .ref b), (1, .ref (a 0)), (2, .ref (a 56)), (3, .ref (a 55)), (4, .int (x4))] [] := by
  intro σ x4 h
  have C := CL.1
  unfold kL_law_1405 at h
  refine g_aload_n (pc := 1405) C 1 dL_law_1405 rfl rfl ?_
  refine g_aload_n (pc := 1406) C 0 dL_law_1406 rfl rfl ?_
  refine g_iload (pc := 1407) C 4 dL_law_1407 rfl ?_
  refine g_iconst (pc := 1409) C (v := (1 : Int32)) dL_law_1409 (by decide) ?_
  refine g_iadd (pc := 1410) C dL_law_1410 ?_
  obtain ⟨k1411, h⟩ := hv_if_some h
  refine g_sld (pc := 1411) CL k1411 dL_law_1411 ?_
  refine g_aload_n (pc := 1412) C 0 dL_law_1412 rfl rfl ?_
  refine g_iload (pc := 1413) C 4 dL_law_1413 rfl ?_
  refine g_iconst (pc := 1415) C (v := (2 : Int32)) dL_law_1415 (by decide) ?_
  refine g_iadd (pc := 1416) C dL_law_1416 ?_
  obtain ⟨k1417, h⟩ := hv_if_some h
  refine g_sld (pc := 1417) CL k1417 dL_law_1417 ?_
  refine g_aload_n (pc := 1418) C 0 dL_law_1418 rfl rfl ?_
  refine g_iload (pc := 1419) C 4 dL_law_1419 rfl ?_
  refine g_iconst (pc := 1421) C (v := (3 : Int32)) dL_law_1421 (by decide) ?_
  refine g_iadd (pc := 1422) C dL_law_1422 ?_
  obtain ⟨k1423, h⟩ := hv_if_some h
  refine g_sld (pc := 1423) CL k1423 dL_law_1423 ?_
  refine g_if_eq (pc := 1424) (tgt := 1431) C dL_law_1424 (by decide) (fun c1424 => ?_) (fun c1424 => ?_)
  · rw [if_pos c1424] at h
    refine g_iconst (pc := 1431) C (v := (0 : Int32)) dL_law_1431 (by decide) ?_
    exact g_lv [0, 1, 2, 3, 4] rfl (bL_law_1432 hflag CL hcl hr23 σ (x4) ((0 : Int32)) (xs ((x4) + ((2 : Int32))).toNatClampNeg) (xs ((x4) + ((1 : Int32))).toNatClampNeg) h)
  · rw [if_neg c1424] at h
    refine g_iconst (pc := 1427) C (v := (1 : Int32)) dL_law_1427 (by decide) ?_
    refine g_goto (pc := 1428) C (tgt := 1432) dL_law_1428 (by decide) ?_
    exact g_lv [0, 1, 2, 3, 4] rfl (bL_law_1432 hflag CL hcl hr23 σ (x4) ((1 : Int32)) (xs ((x4) + ((2 : Int32))).toNatClampNeg) (xs ((x4) + ((1 : Int32))).toNatClampNeg) h)
set_option maxHeartbeats 4000000 in
set_option maxRecDepth 20000 in
theorem bL_law_1392 (hflag : l.stackTraces = false) (CL : hv_CL p s m meth c D cy a b L xs) (hcl : cells + 2 ≤ room_1.cells ∧ slots + 12 ≤ room_1.slots) {n : Nat} {r23 : hv_St → Int32 → Option Unit} (hr23 : ∀ (σ : hv_St) (x4 : Int32), r23 σ x4 = some () → hv_G p l e room_1 s m #[Value.ref b] below meth c 8 D 79 a (hv_LE a cy) (cells + 2) (slots + 12) (lw_Z below #[Value.ref b] s) σ 23 [(0, .ref b), (1, .ref (a 0)), (2, .ref (a 56)), (3, .ref (a 55)), (4, .int (x4))] []) : ∀ (σ : hv_St) (x4 : Int32), kL_law_1392 n L xs r23 σ x4 = some () → hv_G p l e room_1 s m #[Value.ref b] below meth c 8 D 79 a (hv_LE a cy) cells slots (lw_Z below #[Value.ref b] s) σ 1392 [(0, .ref b), (1, .ref (a 0)), (2, .ref (a 56)), (3, .ref (a 55)), (4, .int (x4))] [] := by
  intro σ x4 h
  have C := CL.1
  unfold kL_law_1392 at h
  refine g_aload_n (pc := 1392) C 1 dL_law_1392 rfl rfl ?_
  obtain ⟨r1393, t1393, hc1393, h⟩ := hv_b2_some h
  refine g_subV (pc := 1393) (cells := cells) (slots := slots) (o := 0) (X2 := hv_XE (fun i => a (i + 0)) cy) (n := 55) (τ := t1393) (v := some (.int (r1393))) (As := []) (rest := []) C 0 (hv_LE_X a cy) (Nat.le_of_ble_eq_true rfl) (vX7_times (a := fun i => a (i + 0)) hc1393) (cwV 0 C.1.2.2.2.2 gL_law_X7_times rfl rfl rfl (by decide +kernel) ⟨Nat.le_of_ble_eq_true rfl, Nat.le_of_ble_eq_true rfl⟩) (Nat.le_of_ble_eq_true rfl) rfl rfl rfl rfl (Nat.le_of_ble_eq_true rfl) dL_law_1393 (hv_cl 0 hcl (by decide)) ?_
  refine g_st (st' := [.int (r1393)]) rfl ?_
  refine g_aload_n (pc := 1396) C 2 dL_law_1396 rfl rfl ?_
  obtain ⟨r1397, t1397, hc1397, h⟩ := hv_b2_some h
  refine g_subV (pc := 1397) (cells := cells) (slots := slots) (o := 56) (X2 := hv_ME (fun i => a (i + 56)) cy) (n := 23) (τ := t1397) (v := some (.int (r1397))) (As := []) (rest := [.int (r1393)]) C 0 (hv_LE_M a cy) (Nat.le_of_ble_eq_true rfl) (vX8_times (a := fun i => a (i + 56)) hc1397) (cwV 0 C.1.2.2.2.2 gL_law_X8_times rfl rfl rfl (by decide +kernel) ⟨Nat.le_of_ble_eq_true rfl, Nat.le_of_ble_eq_true rfl⟩) (Nat.le_of_ble_eq_true rfl) rfl rfl rfl rfl (Nat.le_of_ble_eq_true rfl) dL_law_1397 (hv_cl 0 hcl (by decide)) ?_
  refine g_st (st' := [.int (r1397), .int (r1393)]) rfl ?_
  refine g_icmp_eq (pc := 1400) (tgt := 1699) C dL_law_1400 (by decide) (fun c1400 => ?_) (fun c1400 => ?_)
  · rw [if_pos c1400] at h
    refine g_widen (cells := cells) (slots := slots) (k := cells + 2) (n := slots + 12) (by omega) (by omega) ?_
    exact g_lv [0, 1, 2, 3, 4] rfl (bL_law_1699 hflag CL hcl hr23 (hv_mg 56 23 ((hv_mg 0 55 (σ) t1393)) t1397) (x4) h)
  · rw [if_neg c1400] at h
    cases h
set_option maxHeartbeats 4000000 in
set_option maxRecDepth 20000 in
theorem bL_law_1367 (hflag : l.stackTraces = false) (CL : hv_CL p s m meth c D cy a b L xs) (hcl : cells + 2 ≤ room_1.cells ∧ slots + 12 ≤ room_1.slots) {n : Nat} {r23 : hv_St → Int32 → Option Unit} (hr23 : ∀ (σ : hv_St) (x4 : Int32), r23 σ x4 = some () → hv_G p l e room_1 s m #[Value.ref b] below meth c 8 D 79 a (hv_LE a cy) (cells + 2) (slots + 12) (lw_Z below #[Value.ref b] s) σ 23 [(0, .ref b), (1, .ref (a 0)), (2, .ref (a 56)), (3, .ref (a 55)), (4, .int (x4))] []) : ∀ (σ : hv_St) (x4 : Int32), kL_law_1367 n L xs r23 σ x4 = some () → hv_G p l e room_1 s m #[Value.ref b] below meth c 8 D 79 a (hv_LE a cy) cells slots (lw_Z below #[Value.ref b] s) σ 1367 [(0, .ref b), (1, .ref (a 0)), (2, .ref (a 56)), (3, .ref (a 55)), (4, .int (x4))] [] := by
  intro σ x4 h
  have C := CL.1
  unfold kL_law_1367 at h
  refine g_aload_n (pc := 1367) C 1 dL_law_1367 rfl rfl ?_
  refine g_aload_n (pc := 1368) C 0 dL_law_1368 rfl rfl ?_
  refine g_iload (pc := 1369) C 4 dL_law_1369 rfl ?_
  refine g_iconst (pc := 1371) C (v := (1 : Int32)) dL_law_1371 (by decide) ?_
  refine g_iadd (pc := 1372) C dL_law_1372 ?_
  obtain ⟨k1373, h⟩ := hv_if_some h
  refine g_sld (pc := 1373) CL k1373 dL_law_1373 ?_
  obtain ⟨r1374, t1374, hc1374, h⟩ := hv_b2_some h
  refine g_subV (pc := 1374) (cells := cells) (slots := slots) (o := 0) (X2 := hv_XE (fun i => a (i + 0)) cy) (n := 55) (τ := t1374) (v := some (.int (r1374))) (As := [.int (xs ((x4) + ((1 : Int32))).toNatClampNeg)]) (rest := []) C 0 (hv_LE_X a cy) (Nat.le_of_ble_eq_true rfl) (vX7_painted (a := fun i => a (i + 0)) hc1374) (cwV 1 C.1.2.2.2.2 gL_law_X7_painted rfl rfl rfl (by decide +kernel) ⟨Nat.le_of_ble_eq_true rfl, Nat.le_of_ble_eq_true rfl⟩) (Nat.le_of_ble_eq_true rfl) rfl rfl rfl rfl (Nat.le_of_ble_eq_true rfl) dL_law_1374 (hv_cl 0 hcl (by decide)) ?_
  refine g_st (st' := [.int (r1374)]) rfl ?_
  refine g_aload_n (pc := 1377) C 2 dL_law_1377 rfl rfl ?_
  refine g_aload_n (pc := 1378) C 0 dL_law_1378 rfl rfl ?_
  refine g_iload (pc := 1379) C 4 dL_law_1379 rfl ?_
  refine g_iconst (pc := 1381) C (v := (1 : Int32)) dL_law_1381 (by decide) ?_
  refine g_iadd (pc := 1382) C dL_law_1382 ?_
  obtain ⟨k1383, h⟩ := hv_if_some h
  refine g_sld (pc := 1383) CL k1383 dL_law_1383 ?_
  obtain ⟨r1384, t1384, hc1384, h⟩ := hv_b2_some h
  refine g_subV (pc := 1384) (cells := cells) (slots := slots) (o := 56) (X2 := hv_ME (fun i => a (i + 56)) cy) (n := 23) (τ := t1384) (v := some (.int (r1384))) (As := [.int (xs ((x4) + ((1 : Int32))).toNatClampNeg)]) (rest := [.int (r1374)]) C 0 (hv_LE_M a cy) (Nat.le_of_ble_eq_true rfl) (vX8_painted (a := fun i => a (i + 56)) hc1384) (cwV 1 C.1.2.2.2.2 gL_law_X8_painted rfl rfl rfl (by decide +kernel) ⟨Nat.le_of_ble_eq_true rfl, Nat.le_of_ble_eq_true rfl⟩) (Nat.le_of_ble_eq_true rfl) rfl rfl rfl rfl (Nat.le_of_ble_eq_true rfl) dL_law_1384 (hv_cl 0 hcl (by decide)) ?_
  refine g_st (st' := [.int (r1384), .int (r1374)]) rfl ?_
  refine g_icmp_eq (pc := 1387) (tgt := 1699) C dL_law_1387 (by decide) (fun c1387 => ?_) (fun c1387 => ?_)
  · rw [if_pos c1387] at h
    refine g_widen (cells := cells) (slots := slots) (k := cells + 2) (n := slots + 12) (by omega) (by omega) ?_
    exact g_lv [0, 1, 2, 3, 4] rfl (bL_law_1699 hflag CL hcl hr23 (hv_mg 56 23 ((hv_mg 0 55 (σ) t1374)) t1384) (x4) h)
  · rw [if_neg c1387] at h
    cases h
set_option maxHeartbeats 4000000 in
set_option maxRecDepth 20000 in
theorem bL_law_1342 (hflag : l.stackTraces = false) (CL : hv_CL p s m meth c D cy a b L xs) (hcl : cells + 2 ≤ room_1.cells ∧ slots + 12 ≤ room_1.slots) {n : Nat} {r23 : hv_St → Int32 → Option Unit} (hr23 : ∀ (σ : hv_St) (x4 : Int32), r23 σ x4 = some () → hv_G p l e room_1 s m #[Value.ref b] below meth c 8 D 79 a (hv_LE a cy) (cells + 2) (slots + 12) (lw_Z below #[Value.ref b] s) σ 23 [(0, .ref b), (1, .ref (a 0)), (2, .ref (a 56)), (3, .ref (a 55)), (4, .int (x4))] []) : ∀ (σ : hv_St) (x4 : Int32), kL_law_1342 n L xs r23 σ x4 = some () → hv_G p l e room_1 s m #[Value.ref b] below meth c 8 D 79 a (hv_LE a cy) cells slots (lw_Z below #[Value.ref b] s) σ 1342 [(0, .ref b), (1, .ref (a 0)), (2, .ref (a 56)), (3, .ref (a 55)), (4, .int (x4))] [] := by
  intro σ x4 h
  have C := CL.1
  unfold kL_law_1342 at h
  refine g_aload_n (pc := 1342) C 1 dL_law_1342 rfl rfl ?_
  refine g_aload_n (pc := 1343) C 0 dL_law_1343 rfl rfl ?_
  refine g_iload (pc := 1344) C 4 dL_law_1344 rfl ?_
  refine g_iconst (pc := 1346) C (v := (1 : Int32)) dL_law_1346 (by decide) ?_
  refine g_iadd (pc := 1347) C dL_law_1347 ?_
  obtain ⟨k1348, h⟩ := hv_if_some h
  refine g_sld (pc := 1348) CL k1348 dL_law_1348 ?_
  obtain ⟨r1349, t1349, hc1349, h⟩ := hv_b2_some h
  refine g_subV (pc := 1349) (cells := cells) (slots := slots) (o := 0) (X2 := hv_XE (fun i => a (i + 0)) cy) (n := 55) (τ := t1349) (v := some (.int (r1349))) (As := [.int (xs ((x4) + ((1 : Int32))).toNatClampNeg)]) (rest := []) C 0 (hv_LE_X a cy) (Nat.le_of_ble_eq_true rfl) (vX7_joint (a := fun i => a (i + 0)) hc1349) (cwV 1 C.1.2.2.2.2 gL_law_X7_joint rfl rfl rfl (by decide +kernel) ⟨Nat.le_of_ble_eq_true rfl, Nat.le_of_ble_eq_true rfl⟩) (Nat.le_of_ble_eq_true rfl) rfl rfl rfl rfl (Nat.le_of_ble_eq_true rfl) dL_law_1349 (hv_cl 0 hcl (by decide)) ?_
  refine g_st (st' := [.int (r1349)]) rfl ?_
  refine g_aload_n (pc := 1352) C 2 dL_law_1352 rfl rfl ?_
  refine g_aload_n (pc := 1353) C 0 dL_law_1353 rfl rfl ?_
  refine g_iload (pc := 1354) C 4 dL_law_1354 rfl ?_
  refine g_iconst (pc := 1356) C (v := (1 : Int32)) dL_law_1356 (by decide) ?_
  refine g_iadd (pc := 1357) C dL_law_1357 ?_
  obtain ⟨k1358, h⟩ := hv_if_some h
  refine g_sld (pc := 1358) CL k1358 dL_law_1358 ?_
  obtain ⟨r1359, t1359, hc1359, h⟩ := hv_b2_some h
  refine g_subV (pc := 1359) (cells := cells) (slots := slots) (o := 56) (X2 := hv_ME (fun i => a (i + 56)) cy) (n := 23) (τ := t1359) (v := some (.int (r1359))) (As := [.int (xs ((x4) + ((1 : Int32))).toNatClampNeg)]) (rest := [.int (r1349)]) C 0 (hv_LE_M a cy) (Nat.le_of_ble_eq_true rfl) (vX8_joint (a := fun i => a (i + 56)) hc1359) (cwV 1 C.1.2.2.2.2 gL_law_X8_joint rfl rfl rfl (by decide +kernel) ⟨Nat.le_of_ble_eq_true rfl, Nat.le_of_ble_eq_true rfl⟩) (Nat.le_of_ble_eq_true rfl) rfl rfl rfl rfl (Nat.le_of_ble_eq_true rfl) dL_law_1359 (hv_cl 0 hcl (by decide)) ?_
  refine g_st (st' := [.int (r1359), .int (r1349)]) rfl ?_
  refine g_icmp_eq (pc := 1362) (tgt := 1699) C dL_law_1362 (by decide) (fun c1362 => ?_) (fun c1362 => ?_)
  · rw [if_pos c1362] at h
    refine g_widen (cells := cells) (slots := slots) (k := cells + 2) (n := slots + 12) (by omega) (by omega) ?_
    exact g_lv [0, 1, 2, 3, 4] rfl (bL_law_1699 hflag CL hcl hr23 (hv_mg 56 23 ((hv_mg 0 55 (σ) t1349)) t1359) (x4) h)
  · rw [if_neg c1362] at h
    cases h
end
