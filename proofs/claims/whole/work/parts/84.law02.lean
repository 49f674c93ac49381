/-! the law walked, 2 -/
section
variable {p : Program} {l : Launch} {e : Env} {s : State} {m : MethodId} {below : List Frame} {meth : Method} {c : Code} {D : va_G} {a : Nat → Nat} {cy : ClassId × ClassId × ClassId × ClassId} {b L : Nat} {xs : Nat → Int32} {cells slots : Nat}
set_option maxHeartbeats 4000000 in
set_option maxRecDepth 20000 in
theorem bL_law_882 (hflag : l.stackTraces = false) (CL : hv_CL p s m meth c D cy a b L xs) (hcl : cells + 2 ≤ room_1.cells ∧ slots + 12 ≤ room_1.slots) {n : Nat} {r23 : hv_St → Int32 → Option Unit} (hr23 : ∀ (σ : hv_St) (x4 : Int32), r23 σ x4 = some () → hv_G p l e room_1 s m #[Value.ref b] below meth c 8 D 79 a (hv_LE a cy) (cells + 2) (slots + 12) (lw_Z below #[Value.ref b] s) σ 23 [(0, .ref b), (1, .ref (a 0)), (2, .ref (a 56)), (3, .ref (a 55)), (4, .int (x4))] []) : ∀ (σ : hv_St) (x4 : Int32) (z0 : Int32) (z1 : Int32) (z2 : Int32), kL_law_882 n L xs r23 σ x4 z0 z1 z2 = some () → hv_G p l e room_1 s m #[Value.ref b] below meth c 8 D 79 a (hv_LE a cy) cells slots (lw_Z below #[Value.ref b] s) σ 882 [(0, .ref b), (1, .ref (a 0)), (2, .ref (a 56)), (3, .ref (a 55)), (4, .int (x4))] [.int (z0), .int (z1), .int (z2), .ref (a 0)] := by
  intro σ x4 z0 z1 z2 h
  have C := CL.1
  unfold kL_law_882 at h
  refine g_aload_n (pc := 882) C 3 dL_law_882 rfl rfl ?_
  obtain ⟨r883, t883, hc883, h⟩ := hv_b2_some h
  refine g_callW (pc := 883) (cells := cells) (slots := slots) (X2 := hv_XO (fun i => a (i + 0)) cy) (n := 56) (τ := t883) (v := some (.int (r883))) (As := [.ref (a 0), .int (z2), .int (z1), .int (z0), .ref (a 55)]) (rest := []) C CL.2.1 (hv_LE_O a cy) (Nat.le_of_ble_eq_true rfl) (vL_state (a := fun i => a (i + 0)) hflag hc883) (vx_cwSW 5 C.1.2.2.2.2 gL_law_L_state rfl rfl rfl (by decide +kernel) ⟨Nat.le_of_ble_eq_true rfl, Nat.le_of_ble_eq_true rfl⟩) rfl rfl (Nat.le_of_ble_eq_true rfl) dL_law_883 (hv_cl 1 hcl (by decide)) ?_
  refine g_st (st' := [.int (r883)]) rfl ?_
  refine g_istore (pc := 886) C (lv' := [(5, .int (r883)), (0, .ref b), (1, .ref (a 0)), (2, .ref (a 56)), (3, .ref (a 55)), (4, .int (x4))]) rfl dL_law_886 (Nat.le_of_ble_eq_true rfl) rfl ?_
  refine g_aload_n (pc := 888) C 3 dL_law_888 rfl rfl ?_
  refine g_aload_n (pc := 889) C 1 dL_law_889 rfl rfl ?_
  refine g_iload (pc := 890) C 5 dL_law_890 rfl ?_
  refine g_iconst (pc := 892) C (v := (1 : Int32)) dL_law_892 (by decide) ?_
  refine g_iadd (pc := 893) C dL_law_893 ?_
  obtain ⟨k894, h⟩ := hv_if_some h
  refine g_sld (pc := 894) CL k894 dL_law_894 ?_
  refine g_aload_n (pc := 895) C 1 dL_law_895 rfl rfl ?_
  refine g_iload (pc := 896) C 5 dL_law_896 rfl ?_
  refine g_iconst (pc := 898) C (v := (2 : Int32)) dL_law_898 (by decide) ?_
  refine g_iadd (pc := 899) C dL_law_899 ?_
  obtain ⟨k900, h⟩ := hv_if_some h
  refine g_sld (pc := 900) CL k900 dL_law_900 ?_
  refine g_aload_n (pc := 901) C 1 dL_law_901 rfl rfl ?_
  refine g_iload (pc := 902) C 5 dL_law_902 rfl ?_
  refine g_iconst (pc := 904) C (v := (3 : Int32)) dL_law_904 (by decide) ?_
  refine g_iadd (pc := 905) C dL_law_905 ?_
  obtain ⟨k906, h⟩ := hv_if_some h
  refine g_sld (pc := 906) CL k906 dL_law_906 ?_
  refine g_if_eq (pc := 907) (tgt := 914) C dL_law_907 (by decide) (fun c907 => ?_) (fun c907 => ?_)
  · rw [if_pos c907] at h
    refine g_iconst (pc := 914) C (v := (0 : Int32)) dL_law_914 (by decide) ?_
    exact g_lv [1, 2, 3, 4, 5, 0] rfl (bL_law_915 hflag CL hcl hr23 (hv_mg 0 56 (σ) t883) (x4) (r883) ((0 : Int32)) (xs ((x4) + ((2 : Int32))).toNatClampNeg) (xs ((x4) + ((1 : Int32))).toNatClampNeg) h)
  · rw [if_neg c907] at h
    refine g_iconst (pc := 910) C (v := (1 : Int32)) dL_law_910 (by decide) ?_
    refine g_goto (pc := 911) C (tgt := 915) dL_law_911 (by decide) ?_
    exact g_lv [1, 2, 3, 4, 5, 0] rfl (bL_law_915 hflag CL hcl hr23 (hv_mg 0 56 (σ) t883) (x4) (r883) ((1 : Int32)) (xs ((x4) + ((2 : Int32))).toNatClampNeg) (xs ((x4) + ((1 : Int32))).toNatClampNeg) h)
set_option maxHeartbeats 4000000 in
set_option maxRecDepth 20000 in
theorem bL_law_855 (hflag : l.stackTraces = false) (CL : hv_CL p s m meth c D cy a b L xs) (hcl : cells + 2 ≤ room_1.cells ∧ slots + 12 ≤ room_1.slots) {n : Nat} {r23 : hv_St → Int32 → Option Unit} (hr23 : ∀ (σ : hv_St) (x4 : Int32), r23 σ x4 = some () → hv_G p l e room_1 s m #[Value.ref b] below meth c 8 D 79 a (hv_LE a cy) (cells + 2) (slots + 12) (lw_Z below #[Value.ref b] s) σ 23 [(0, .ref b), (1, .ref (a 0)), (2, .ref (a 56)), (3, .ref (a 55)), (4, .int (x4))] []) : ∀ (σ : hv_St) (x4 : Int32), kL_law_855 n L xs r23 σ x4 = some () → hv_G p l e room_1 s m #[Value.ref b] below meth c 8 D 79 a (hv_LE a cy) cells slots (lw_Z below #[Value.ref b] s) σ 855 [(0, .ref b), (1, .ref (a 0)), (2, .ref (a 56)), (3, .ref (a 55)), (4, .int (x4))] [] := by
  intro σ x4 h
  have C := CL.1
  unfold kL_law_855 at h
  refine g_aload_n (pc := 855) C 1 dL_law_855 rfl rfl ?_
  refine g_aload_n (pc := 856) C 0 dL_law_856 rfl rfl ?_
  refine g_iload (pc := 857) C 4 dL_law_857 rfl ?_
  refine g_iconst (pc := 859) C (v := (1 : Int32)) dL_law_859 (by decide) ?_
  refine g_iadd (pc := 860) C dL_law_860 ?_
  obtain ⟨k861, h⟩ := hv_if_some h
  refine g_sld (pc := 861) CL k861 dL_law_861 ?_
  refine g_aload_n (pc := 862) C 0 dL_law_862 rfl rfl ?_
  refine g_iload (pc := 863) C 4 dL_law_863 rfl ?_
  refine g_iconst (pc := 865) C (v := (2 : Int32)) dL_law_865 (by decide) ?_
  refine g_iadd (pc := 866) C dL_law_866 ?_
  obtain ⟨k867, h⟩ := hv_if_some h
  refine g_sld (pc := 867) CL k867 dL_law_867 ?_
  refine g_aload_n (pc := 868) C 0 dL_law_868 rfl rfl ?_
  refine g_iload (pc := 869) C 4 dL_law_869 rfl ?_
  refine g_iconst (pc := 871) C (v := (3 : Int32)) dL_law_871 (by decide) ?_
  refine g_iadd (pc := 872) C dL_law_872 ?_
  obtain ⟨k873, h⟩ := hv_if_some h
  refine g_sld (pc := 873) CL k873 dL_law_873 ?_
  refine g_if_eq (pc := 874) (tgt := 881) C dL_law_874 (by decide) (fun c874 => ?_) (fun c874 => ?_)
  · rw [if_pos c874] at h
    refine g_iconst (pc := 881) C (v := (0 : Int32)) dL_law_881 (by decide) ?_
    exact g_lv [0, 1, 2, 3, 4] rfl (bL_law_882 hflag CL hcl hr23 σ (x4) ((0 : Int32)) (xs ((x4) + ((2 : Int32))).toNatClampNeg) (xs ((x4) + ((1 : Int32))).toNatClampNeg) h)
  · rw [if_neg c874] at h
    refine g_iconst (pc := 877) C (v := (1 : Int32)) dL_law_877 (by decide) ?_
    refine g_goto (pc := 878) C (tgt := 882) dL_law_878 (by decide) ?_
    exact g_lv [0, 1, 2, 3, 4] rfl (bL_law_882 hflag CL hcl hr23 σ (x4) ((1 : Int32)) (xs ((x4) + ((2 : Int32))).toNatClampNeg) (xs ((x4) + ((1 : Int32))).toNatClampNeg) h)
set_option maxHeartbeats 4000000 in
set_option maxRecDepth 20000 in
theorem bL_law_852 (hflag : l.stackTraces = false) (CL : hv_CL p s m meth c D cy a b L xs) (hcl : cells + 2 ≤ room_1.cells ∧ slots + 12 ≤ room_1.slots) {n : Nat} {r23 : hv_St → Int32 → Option Unit} (hr23 : ∀ (σ : hv_St) (x4 : Int32), r23 σ x4 = some () → hv_G p l e room_1 s m #[Value.ref b] below meth c 8 D 79 a (hv_LE a cy) (cells + 2) (slots + 12) (lw_Z below #[Value.ref b] s) σ 23 [(0, .ref b), (1, .ref (a 0)), (2, .ref (a 56)), (3, .ref (a 55)), (4, .int (x4))] []) : ∀ (σ : hv_St) (x4 : Int32), kL_law_852 n L xs r23 σ x4 = some () → hv_G p l e room_1 s m #[Value.ref b] below meth c 8 D 79 a (hv_LE a cy) (cells + 1) (slots + 6) (lw_Z below #[Value.ref b] s) σ 852 [(0, .ref b), (1, .ref (a 0)), (2, .ref (a 56)), (3, .ref (a 55)), (4, .int (x4))] [] := by
  intro σ x4 h
  have C := CL.1
  unfold kL_law_852 at h
  refine g_goto (pc := 852) C (tgt := 1699) dL_law_852 (by decide) ?_
  refine g_widen (cells := cells + 1) (slots := slots + 6) (k := cells + 2) (n := slots + 12) (by omega) (by omega) ?_
  exact g_lv [0, 1, 2, 3, 4] rfl (bL_law_1699 hflag CL hcl hr23 σ (x4) h)
set_option maxHeartbeats 4000000 in
set_option maxRecDepth 20000 in
theorem bL_law_820 (hflag : l.stackTraces = false) (CL : hv_CL p s m meth c D cy a b L xs) (hcl : cells + 2 ≤ room_1.cells ∧ slots + 12 ≤ room_1.slots) {n : Nat} {r23 : hv_St → Int32 → Option Unit} (hr23 : ∀ (σ : hv_St) (x4 : Int32), r23 σ x4 = some () → hv_G p l e room_1 s m #[Value.ref b] below meth c 8 D 79 a (hv_LE a cy) (cells + 2) (slots + 12) (lw_Z below #[Value.ref b] s) σ 23 [(0, .ref b), (1, .ref (a 0)), (2, .ref (a 56)), (3, .ref (a 55)), (4, .int (x4))] []) : ∀ (σ : hv_St) (x4 : Int32) (x5 : Int32) (z0 : Int32) (z1 : Int32), kL_law_820 n L xs r23 σ x4 x5 z0 z1 = some () → hv_G p l e room_1 s m #[Value.ref b] below meth c 8 D 79 a (hv_LE a cy) (cells + 1) (slots + 6) (lw_Z below #[Value.ref b] s) σ 820 [(0, .ref b), (1, .ref (a 0)), (2, .ref (a 56)), (3, .ref (a 55)), (4, .int (x4)), (5, .int (x5))] [.int (z0), .int (z1), .ref (a 56)] := by
  intro σ x4 x5 z0 z1 h
  have C := CL.1
  unfold kL_law_820 at h
  obtain ⟨r820, t820, hc820, h⟩ := hv_b2_some h
  refine g_subV (pc := 820) (cells := cells + 1) (slots := slots + 6) (o := 56) (X2 := hv_ME (fun i => a (i + 56)) cy) (n := 23) (τ := t820) (v := some (.long (r820))) (As := [.int (z1), .int (z0)]) (rest := []) C 0 (hv_LE_M a cy) (Nat.le_of_ble_eq_true rfl) (vX8_pull (a := fun i => a (i + 56)) hc820) (cwV 2 C.1.2.2.2.2 gL_law_X8_pull rfl rfl rfl (by decide +kernel) ⟨Nat.le_of_ble_eq_true rfl, Nat.le_of_ble_eq_true rfl⟩) (Nat.le_of_ble_eq_true rfl) rfl rfl rfl rfl (Nat.le_of_ble_eq_true rfl) dL_law_820 (hv_cl 1 hcl (by decide)) ?_
  refine g_st (st' := [.long (r820)]) rfl ?_
  refine g_lstore (pc := 823) C (lv' := [(6, .long (r820)), (0, .ref b), (1, .ref (a 0)), (2, .ref (a 56)), (3, .ref (a 55)), (4, .int (x4)), (5, .int (x5))]) rfl dL_law_823 (Nat.le_of_ble_eq_true rfl) rfl ?_
  refine g_aload_n (pc := 825) C 3 dL_law_825 rfl rfl ?_
  obtain ⟨r826, t826, hc826, h⟩ := hv_b2_some h
  refine g_subV (pc := 826) (cells := cells + 1) (slots := slots + 6) (o := 56) (X2 := hv_ME (fun i => a (i + 56)) cy) (n := 23) (τ := t826) (v := some (.int (r826))) (As := []) (rest := []) C 0 (hv_LE_M a cy) (Nat.le_of_ble_eq_true rfl) (vX8_thrown (a := fun i => a (i + 56)) hc826) (cwV 0 C.1.2.2.2.2 gL_law_X8_thrown rfl rfl rfl (by decide +kernel) ⟨Nat.le_of_ble_eq_true rfl, Nat.le_of_ble_eq_true rfl⟩) (Nat.le_of_ble_eq_true rfl) rfl rfl rfl rfl (Nat.le_of_ble_eq_true rfl) dL_law_826 (hv_cl 1 hcl (by decide)) ?_
  refine g_st (st' := [.int (r826)]) rfl ?_
  refine g_iload (pc := 829) C 6 dL_law_829 rfl ?_
  refine g_icmp_eq (pc := 831) (tgt := 836) C dL_law_831 (by decide) (fun c831 => ?_) (fun c831 => ?_)
  · rw [if_pos c831] at h
    refine g_iload (pc := 836) C 6 dL_law_836 rfl ?_
    refine g_if_ne (pc := 838) (tgt := 852) C dL_law_838 (by decide) (fun c838 => ?_) (fun c838 => ?_)
    · rw [if_neg c838] at h
      exact g_lv [1, 2, 3, 4, 5] rfl (bL_law_852 hflag CL hcl hr23 (hv_mg 56 23 ((hv_mg 56 23 (σ) t820)) t826) (x4) h)
    · rw [if_pos c838] at h
      refine g_aload_n (pc := 841) C 4 dL_law_841 rfl rfl ?_
      refine g_iconst (pc := 842) C (v := (0 : Int32)) dL_law_842 (by decide) ?_
      refine g_lald (pc := 843) C 55 1 (cA := cy.2.1) (n := 1) (Nat.le_of_ble_eq_true rfl) rfl rfl (by decide) dL_law_843 ?_
      refine g_lload (pc := 844) C 0 dL_law_844 rfl ?_
      refine g_lcmp (pc := 846) C dL_law_846 ?_
      refine g_if_eq (pc := 847) (tgt := 852) C dL_law_847 (by decide) (fun c847 => ?_) (fun c847 => ?_)
      · rw [if_pos c847] at h
        exact g_lv [1, 2, 3, 4, 5] rfl (bL_law_852 hflag CL hcl hr23 (hv_mg 56 23 ((hv_mg 56 23 (σ) t820)) t826) (x4) h)
      · rw [if_neg c847] at h
        cases h
  · rw [if_neg c831] at h
    cases h
set_option maxHeartbeats 4000000 in
set_option maxRecDepth 20000 in
theorem bL_law_793 (hflag : l.stackTraces = false) (CL : hv_CL p s m meth c D cy a b L xs) (hcl : cells + 2 ≤ room_1.cells ∧ slots + 12 ≤ room_1.slots) {n : Nat} {r23 : hv_St → Int32 → Option Unit} (hr23 : ∀ (σ : hv_St) (x4 : Int32), r23 σ x4 = some () → hv_G p l e room_1 s m #[Value.ref b] below meth c 8 D 79 a (hv_LE a cy) (cells + 2) (slots + 12) (lw_Z below #[Value.ref b] s) σ 23 [(0, .ref b), (1, .ref (a 0)), (2, .ref (a 56)), (3, .ref (a 55)), (4, .int (x4))] []) : ∀ (σ : hv_St) (x4 : Int32) (z0 : Int32) (z1 : Int32), kL_law_793 n L xs r23 σ x4 z0 z1 = some () → hv_G p l e room_1 s m #[Value.ref b] below meth c 8 D 79 a (hv_LE a cy) cells slots (lw_Z below #[Value.ref b] s) σ 793 [(0, .ref b), (1, .ref (a 0)), (2, .ref (a 56)), (3, .ref (a 55)), (4, .int (x4))] [.int (z0), .int (z1), .ref (a 0)] := by
  intro σ x4 z0 z1 h
  have C := CL.1
  unfold kL_law_793 at h
  refine g_aload_n (pc := 793) C 3 dL_law_793 rfl rfl ?_
  obtain ⟨r794, t794, hc794, h⟩ := hv_b2_some h
  refine g_callW (pc := 794) (cells := cells) (slots := slots) (X2 := hv_XO (fun i => a (i + 0)) cy) (n := 56) (τ := t794) (v := some (.int (r794))) (As := [.ref (a 0), .int (z1), .int (z0), .ref (a 55)]) (rest := []) C CL.2.1 (hv_LE_O a cy) (Nat.le_of_ble_eq_true rfl) (vL_pull (a := fun i => a (i + 0)) hflag hc794) (vx_cwSW 4 C.1.2.2.2.2 gL_law_L_pull rfl rfl rfl (by decide +kernel) ⟨Nat.le_of_ble_eq_true rfl, Nat.le_of_ble_eq_true rfl⟩) rfl rfl (Nat.le_of_ble_eq_true rfl) dL_law_794 (hv_cl 1 hcl (by decide)) ?_
  refine g_st (st' := [.int (r794)]) rfl ?_
  refine g_istore (pc := 797) C (lv' := [(5, .int (r794)), (0, .ref b), (1, .ref (a 0)), (2, .ref (a 56)), (3, .ref (a 55)), (4, .int (x4))]) rfl dL_law_797 (Nat.le_of_ble_eq_true rfl) rfl ?_
  refine g_aload_n (pc := 799) C 3 dL_law_799 rfl rfl ?_
  refine g_aload_n (pc := 800) C 1 dL_law_800 rfl rfl ?_
  refine g_iload (pc := 801) C 5 dL_law_801 rfl ?_
  refine g_iconst (pc := 803) C (v := (1 : Int32)) dL_law_803 (by decide) ?_
  refine g_iadd (pc := 804) C dL_law_804 ?_
  obtain ⟨k805, h⟩ := hv_if_some h
  refine g_sld (pc := 805) CL k805 dL_law_805 ?_
  refine g_aload_n (pc := 806) C 1 dL_law_806 rfl rfl ?_
  refine g_iload (pc := 807) C 5 dL_law_807 rfl ?_
  refine g_iconst (pc := 809) C (v := (2 : Int32)) dL_law_809 (by decide) ?_
  refine g_iadd (pc := 810) C dL_law_810 ?_
  obtain ⟨k811, h⟩ := hv_if_some h
  refine g_sld (pc := 811) CL k811 dL_law_811 ?_
  refine g_if_eq (pc := 812) (tgt := 819) C dL_law_812 (by decide) (fun c812 => ?_) (fun c812 => ?_)
  · rw [if_pos c812] at h
    refine g_iconst (pc := 819) C (v := (0 : Int32)) dL_law_819 (by decide) ?_
    exact g_lv [1, 2, 3, 4, 5, 0] rfl (bL_law_820 hflag CL hcl hr23 (hv_mg 0 56 (σ) t794) (x4) (r794) ((0 : Int32)) (xs ((x4) + ((1 : Int32))).toNatClampNeg) h)
  · rw [if_neg c812] at h
    refine g_iconst (pc := 815) C (v := (1 : Int32)) dL_law_815 (by decide) ?_
    refine g_goto (pc := 816) C (tgt := 820) dL_law_816 (by decide) ?_
    exact g_lv [1, 2, 3, 4, 5, 0] rfl (bL_law_820 hflag CL hcl hr23 (hv_mg 0 56 (σ) t794) (x4) (r794) ((1 : Int32)) (xs ((x4) + ((1 : Int32))).toNatClampNeg) h)
set_option maxHeartbeats 4000000 in
set_option maxRecDepth 20000 in
theorem bL_law_772 (hflag : l.stackTraces = false) (CL : hv_CL p s m meth c D cy a b L xs) (hcl : cells + 2 ≤ room_1.cells ∧ slots + 12 ≤ room_1.slots) {n : Nat} {r23 : hv_St → Int32 → Option Unit} (hr23 : ∀ (σ : hv_St) (x4 : Int32), r23 σ x4 = some () → hv_G p l e room_1 s m #[Value.ref b] below meth c 8 D 79 a (hv_LE a cy) (cells + 2) (slots + 12) (lw_Z below #[Value.ref b] s) σ 23 [(0, .ref b), (1, .ref (a 0)), (2, .ref (a 56)), (3, .ref (a 55)), (4, .int (x4))] []) : ∀ (σ : hv_St) (x4 : Int32), kL_law_772 n L xs r23 σ x4 = some () → hv_G p l e room_1 s m #[Value.ref b] below meth c 8 D 79 a (hv_LE a cy) cells slots (lw_Z below #[Value.ref b] s) σ 772 [(0, .ref b), (1, .ref (a 0)), (2, .ref (a 56)), (3, .ref (a 55)), (4, .int (x4))] [] := by
  intro σ x4 h
  have C := CL.1
  unfold kL_law_772 at h
  refine g_aload_n (pc := 772) C 1 dL_law_772 rfl rfl ?_
  refine g_aload_n (pc := 773) C 0 dL_law_773 rfl rfl ?_
  refine g_iload (pc := 774) C 4 dL_law_774 rfl ?_
  refine g_iconst (pc := 776) C (v := (1 : Int32)) dL_law_776 (by decide) ?_
  refine g_iadd (pc := 777) C dL_law_777 ?_
  obtain ⟨k778, h⟩ := hv_if_some h
  refine g_sld (pc := 778) CL k778 dL_law_778 ?_
  refine g_aload_n (pc := 779) C 0 dL_law_779 rfl rfl ?_
  refine g_iload (pc := 780) C 4 dL_law_780 rfl ?_
  refine g_iconst (pc := 782) C (v := (2 : Int32)) dL_law_782 (by decide) ?_
  refine g_iadd (pc := 783) C dL_law_783 ?_
  obtain ⟨k784, h⟩ := hv_if_some h
  refine g_sld (pc := 784) CL k784 dL_law_784 ?_
  refine g_if_eq (pc := 785) (tgt := 792) C dL_law_785 (by decide) (fun c785 => ?_) (fun c785 => ?_)
  · rw [if_pos c785] at h
    refine g_iconst (pc := 792) C (v := (0 : Int32)) dL_law_792 (by decide) ?_
    exact g_lv [0, 1, 2, 3, 4] rfl (bL_law_793 hflag CL hcl hr23 σ (x4) ((0 : Int32)) (xs ((x4) + ((1 : Int32))).toNatClampNeg) h)
  · rw [if_neg c785] at h
    refine g_iconst (pc := 788) C (v := (1 : Int32)) dL_law_788 (by decide) ?_
    refine g_goto (pc := 789) C (tgt := 793) dL_law_789 (by decide) ?_
    exact g_lv [0, 1, 2, 3, 4] rfl (bL_law_793 hflag CL hcl hr23 σ (x4) ((1 : Int32)) (xs ((x4) + ((1 : Int32))).toNatClampNeg) h)
set_option maxHeartbeats 4000000 in
set_option maxRecDepth 20000 in
theorem bL_law_769 (hflag : l.stackTraces = false) (CL : hv_CL p s m meth c D cy a b L xs) (hcl : cells + 2 ≤ room_1.cells ∧ slots + 12 ≤ room_1.slots) {n : Nat} {r23 : hv_St → Int32 → Option Unit} (hr23 : ∀ (σ : hv_St) (x4 : Int32), r23 σ x4 = some () → hv_G p l e room_1 s m #[Value.ref b] below meth c 8 D 79 a (hv_LE a cy) (cells + 2) (slots + 12) (lw_Z below #[Value.ref b] s) σ 23 [(0, .ref b), (1, .ref (a 0)), (2, .ref (a 56)), (3, .ref (a 55)), (4, .int (x4))] []) : ∀ (σ : hv_St) (x4 : Int32), kL_law_769 n L xs r23 σ x4 = some () → hv_G p l e room_1 s m #[Value.ref b] below meth c 8 D 79 a (hv_LE a cy) (cells + 2) (slots + 12) (lw_Z below #[Value.ref b] s) σ 769 [(0, .ref b), (1, .ref (a 0)), (2, .ref (a 56)), (3, .ref (a 55)), (4, .int (x4))] [] := by
  intro σ x4 h
  have C := CL.1
  unfold kL_law_769 at h
  refine g_goto (pc := 769) C (tgt := 1699) dL_law_769 (by decide) ?_
  exact g_lv [0, 1, 2, 3, 4] rfl (bL_law_1699 hflag CL hcl hr23 σ (x4) h)
set_option maxHeartbeats 4000000 in
set_option maxRecDepth 20000 in
theorem bL_law_704 (hflag : l.stackTraces = false) (CL : hv_CL p s m meth c D cy a b L xs) (hcl : cells + 2 ≤ room_1.cells ∧ slots + 12 ≤ room_1.slots) {n : Nat} {r23 : hv_St → Int32 → Option Unit} (hr23 : ∀ (σ : hv_St) (x4 : Int32), r23 σ x4 = some () → hv_G p l e room_1 s m #[Value.ref b] below meth c 8 D 79 a (hv_LE a cy) (cells + 2) (slots + 12) (lw_Z below #[Value.ref b] s) σ 23 [(0, .ref b), (1, .ref (a 0)), (2, .ref (a 56)), (3, .ref (a 55)), (4, .int (x4))] []) : ∀ (σ : hv_St) (x4 : Int32), kL_law_704 n L xs r23 σ x4 = some () → hv_G p l e room_1 s m #[Value.ref b] below meth c 8 D 79 a (hv_LE a cy) cells slots (lw_Z below #[Value.ref b] s) σ 704 [(0, .ref b), (1, .ref (a 0)), (2, .ref (a 56)), (3, .ref (a 55)), (4, .int (x4))] [] := by
  intro σ x4 h
  have C := CL.1
  unfold kL_law_704 at h
  refine g_aload_n (pc := 704) C 1 dL_law_704 rfl rfl ?_
  refine g_aload_n (pc := 705) C 0 dL_law_705 rfl rfl ?_
  refine g_iload (pc := 706) C 4 dL_law_706 rfl ?_
  refine g_iconst (pc := 708) C (v := (1 : Int32)) dL_law_708 (by decide) ?_
  refine g_iadd (pc := 709) C dL_law_709 ?_
  obtain ⟨k710, h⟩ := hv_if_some h
  refine g_sld (pc := 710) CL k710 dL_law_710 ?_
  refine g_aload_n (pc := 711) C 0 dL_law_711 rfl rfl ?_
  refine g_iload (pc := 712) C 4 dL_law_712 rfl ?_
  refine g_iconst (pc := 714) C (v := (2 : Int32)) dL_law_714 (by decide) ?_
  refine g_iadd (pc := 715) C dL_law_715 ?_
  obtain ⟨k716, h⟩ := hv_if_some h
  refine g_sld (pc := 716) CL k716 dL_law_716 ?_
  refine g_aload_n (pc := 717) C 3 dL_law_717 rfl rfl ?_
  obtain ⟨r718, t718, hc718, h⟩ := hv_b2_some h
  refine g_callW (pc := 718) (cells := cells) (slots := slots) (X2 := hv_XO (fun i => a (i + 0)) cy) (n := 56) (τ := t718) (v := some (.int (r718))) (As := [.ref (a 0), .int (xs ((x4) + ((1 : Int32))).toNatClampNeg), .int (xs ((x4) + ((2 : Int32))).toNatClampNeg), .ref (a 55)]) (rest := []) C CL.2.1 (hv_LE_O a cy) (Nat.le_of_ble_eq_true rfl) (vL_at (a := fun i => a (i + 0)) hflag hc718) (vx_cwSW 4 C.1.2.2.2.2 gL_law_L_at rfl rfl rfl (by decide +kernel) ⟨Nat.le_of_ble_eq_true rfl, Nat.le_of_ble_eq_true rfl⟩) rfl rfl (Nat.le_of_ble_eq_true rfl) dL_law_718 (hv_cl 2 hcl (by decide)) ?_
  refine g_st (st' := [.int (r718)]) rfl ?_
  refine g_istore (pc := 721) C (lv' := [(5, .int (r718)), (0, .ref b), (1, .ref (a 0)), (2, .ref (a 56)), (3, .ref (a 55)), (4, .int (x4))]) rfl dL_law_721 (Nat.le_of_ble_eq_true rfl) rfl ?_
  refine g_aload_n (pc := 723) C 3 dL_law_723 rfl rfl ?_
  refine g_aload_n (pc := 724) C 1 dL_law_724 rfl rfl ?_
  refine g_iload (pc := 725) C 5 dL_law_725 rfl ?_
  refine g_iconst (pc := 727) C (v := (1 : Int32)) dL_law_727 (by decide) ?_
  refine g_iadd (pc := 728) C dL_law_728 ?_
  obtain ⟨k729, h⟩ := hv_if_some h
  refine g_sld (pc := 729) CL k729 dL_law_729 ?_
  refine g_aload_n (pc := 730) C 1 dL_law_730 rfl rfl ?_
  refine g_iload (pc := 731) C 5 dL_law_731 rfl ?_
  refine g_iconst (pc := 733) C (v := (2 : Int32)) dL_law_733 (by decide) ?_
  refine g_iadd (pc := 734) C dL_law_734 ?_
  obtain ⟨k735, h⟩ := hv_if_some h
  refine g_sld (pc := 735) CL k735 dL_law_735 ?_
  obtain ⟨r736, t736, hc736, h⟩ := hv_b2_some h
  refine g_subV (pc := 736) (cells := cells + 2) (slots := slots + 12) (o := 56) (X2 := hv_ME (fun i => a (i + 56)) cy) (n := 23) (τ := t736) (v := some (.int (r736))) (As := [.int (xs ((x4) + ((1 : Int32))).toNatClampNeg), .int (xs ((x4) + ((2 : Int32))).toNatClampNeg)]) (rest := []) C 0 (hv_LE_M a cy) (Nat.le_of_ble_eq_true rfl) (vX8_at (a := fun i => a (i + 56)) hc736) (cwV 2 C.1.2.2.2.2 gL_law_X8_at rfl rfl rfl (by decide +kernel) ⟨Nat.le_of_ble_eq_true rfl, Nat.le_of_ble_eq_true rfl⟩) (Nat.le_of_ble_eq_true rfl) rfl rfl rfl rfl (Nat.le_of_ble_eq_true rfl) dL_law_736 (hv_cl 2 hcl (by decide)) ?_
  refine g_st (st' := [.int (r736)]) rfl ?_
  refine g_istore (pc := 739) C (lv' := [(6, .int (r736)), (5, .int (r718)), (0, .ref b), (1, .ref (a 0)), (2, .ref (a 56)), (3, .ref (a 55)), (4, .int (x4))]) rfl dL_law_739 (Nat.le_of_ble_eq_true rfl) rfl ?_
  refine g_aload_n (pc := 741) C 4 dL_law_741 rfl rfl ?_
  obtain ⟨r742, t742, hc742, h⟩ := hv_b2_some h
  refine g_subV (pc := 742) (cells := cells + 2) (slots := slots + 12) (o := 56) (X2 := hv_ME (fun i => a (i + 56)) cy) (n := 23) (τ := t742) (v := some (.int (r742))) (As := []) (rest := []) C 0 (hv_LE_M a cy) (Nat.le_of_ble_eq_true rfl) (vX8_thrown (a := fun i => a (i + 56)) hc742) (cwV 0 C.1.2.2.2.2 gL_law_X8_thrown rfl rfl rfl (by decide +kernel) ⟨Nat.le_of_ble_eq_true rfl, Nat.le_of_ble_eq_true rfl⟩) (Nat.le_of_ble_eq_true rfl) rfl rfl rfl rfl (Nat.le_of_ble_eq_true rfl) dL_law_742 (hv_cl 2 hcl (by decide)) ?_
  refine g_st (st' := [.int (r742)]) rfl ?_
  refine g_iload (pc := 745) C 1 dL_law_745 rfl ?_
  refine g_icmp_eq (pc := 747) (tgt := 752) C dL_law_747 (by decide) (fun c747 => ?_) (fun c747 => ?_)
  · rw [if_pos c747] at h
    refine g_iload (pc := 752) C 1 dL_law_752 rfl ?_
    refine g_if_ne (pc := 754) (tgt := 769) C dL_law_754 (by decide) (fun c754 => ?_) (fun c754 => ?_)
    · rw [if_neg c754] at h
      exact g_lv [2, 3, 4, 5, 6] rfl (bL_law_769 hflag CL hcl hr23 (hv_mg 56 23 ((hv_mg 56 23 ((hv_mg 0 56 (σ) t718)) t736)) t742) (x4) h)
    · rw [if_pos c754] at h
      refine g_aload_n (pc := 757) C 5 dL_law_757 rfl rfl ?_
      refine g_iconst (pc := 758) C (v := (0 : Int32)) dL_law_758 (by decide) ?_
      refine g_lald (pc := 759) C 55 1 (cA := cy.2.1) (n := 1) (Nat.le_of_ble_eq_true rfl) rfl rfl (by decide) dL_law_759 ?_
      refine g_iload (pc := 760) C 0 dL_law_760 rfl ?_
      refine g_i2l (pc := 762) C dL_law_762 ?_
      refine g_lcmp (pc := 763) C dL_law_763 ?_
      refine g_if_eq (pc := 764) (tgt := 769) C dL_law_764 (by decide) (fun c764 => ?_) (fun c764 => ?_)
      · rw [if_pos c764] at h
        exact g_lv [2, 3, 4, 5, 6] rfl (bL_law_769 hflag CL hcl hr23 (hv_mg 56 23 ((hv_mg 56 23 ((hv_mg 0 56 (σ) t718)) t736)) t742) (x4) h)
      · rw [if_neg c764] at h
        cases h
  · rw [if_neg c747] at h
    cases h
set_option maxHeartbeats 4000000 in
set_option maxRecDepth 20000 in
theorem bL_law_701 (hflag : l.stackTraces = false) (CL : hv_CL p s m meth c D cy a b L xs) (hcl : cells + 2 ≤ room_1.cells ∧ slots + 12 ≤ room_1.slots) {n : Nat} {r23 : hv_St → Int32 → Option Unit} (hr23 : ∀ (σ : hv_St) (x4 : Int32), r23 σ x4 = some () → hv_G p l e room_1 s m #[Value.ref b] below meth c 8 D 79 a (hv_LE a cy) (cells + 2) (slots + 12) (lw_Z below #[Value.ref b] s) σ 23 [(0, .ref b), (1, .ref (a 0)), (2, .ref (a 56)), (3, .ref (a 55)), (4, .int (x4))] []) : ∀ (σ : hv_St) (x4 : Int32), kL_law_701 n L xs r23 σ x4 = some () → hv_G p l e room_1 s m #[Value.ref b] below meth c 8 D 79 a (hv_LE a cy) (cells + 2) (slots + 12) (lw_Z below #[Value.ref b] s) σ 701 [(0, .ref b), (1, .ref (a 0)), (2, .ref (a 56)), (3, .ref (a 55)), (4, .int (x4))] [] := by
  intro σ x4 h
  have C := CL.1
  unfold kL_law_701 at h
  refine g_goto (pc := 701) C (tgt := 1699) dL_law_701 (by decide) ?_
  exact g_lv [0, 1, 2, 3, 4] rfl (bL_law_1699 hflag CL hcl hr23 σ (x4) h)
set_option maxHeartbeats 4000000 in
set_option maxRecDepth 20000 in
theorem bL_law_636 (hflag : l.stackTraces = false) (CL : hv_CL p s m meth c D cy a b L xs) (hcl : cells + 2 ≤ room_1.cells ∧ slots + 12 ≤ room_1.slots) {n : Nat} {r23 : hv_St → Int32 → Option Unit} (hr23 : ∀ (σ : hv_St) (x4 : Int32), r23 σ x4 = some () → hv_G p l e room_1 s m #[Value.ref b] below meth c 8 D 79 a (hv_LE a cy) (cells + 2) (slots + 12) (lw_Z below #[Value.ref b] s) σ 23 [(0, .ref b), (1, .ref (a 0)), (2, .ref (a 56)), (3, .ref (a 55)), (4, .int (x4))] []) : ∀ (σ : hv_St) (x4 : Int32), kL_law_636 n L xs r23 σ x4 = some () → hv_G p l e room_1 s m #[Value.ref b] below meth c 8 D 79 a (hv_LE a cy) cells slots (lw_Z below #[Value.ref b] s) σ 636 [(0, .ref b), (1, .ref (a 0)), (2, .ref (a 56)), (3, .ref (a 55)), (4, .int (x4))] [] := by
  intro σ x4 h
  have C := CL.1
  unfold kL_law_636 at h
  refine g_aload_n (pc := 636) C 1 dL_law_636 rfl rfl ?_
  refine g_aload_n (pc := 637) C 0 dL_law_637 rfl rfl ?_
  refine g_iload (pc := 638) C 4 dL_law_638 rfl ?_
  refine g_iconst (pc := 640) C (v := (1 : Int32)) dL_law_640 (by decide) ?_
  refine g_iadd (pc := 641) C dL_law_641 ?_
  obtain ⟨k642, h⟩ := hv_if_some h
  refine g_sld (pc := 642) CL k642 dL_law_642 ?_
  refine g_aload_n (pc := 643) C 0 dL_law_643 rfl rfl ?_
  refine g_iload (pc := 644) C 4 dL_law_644 rfl ?_
  refine g_iconst (pc := 646) C (v := (2 : Int32)) dL_law_646 (by decide) ?_
  refine g_iadd (pc := 647) C dL_law_647 ?_
  obtain ⟨k648, h⟩ := hv_if_some h
  refine g_sld (pc := 648) CL k648 dL_law_648 ?_
  refine g_aload_n (pc := 649) C 3 dL_law_649 rfl rfl ?_
  obtain ⟨r650, t650, hc650, h⟩ := hv_b2_some h
  refine g_callW (pc := 650) (cells := cells) (slots := slots) (X2 := hv_XO (fun i => a (i + 0)) cy) (n := 56) (τ := t650) (v := some (.int (r650))) (As := [.ref (a 0), .int (xs ((x4) + ((1 : Int32))).toNatClampNeg), .int (xs ((x4) + ((2 : Int32))).toNatClampNeg), .ref (a 55)]) (rest := []) C CL.2.1 (hv_LE_O a cy) (Nat.le_of_ble_eq_true rfl) (vL_of (a := fun i => a (i + 0)) hflag hc650) (vx_cwSW 4 C.1.2.2.2.2 gL_law_L_of rfl rfl rfl (by decide +kernel) ⟨Nat.le_of_ble_eq_true rfl, Nat.le_of_ble_eq_true rfl⟩) rfl rfl (Nat.le_of_ble_eq_true rfl) dL_law_650 (hv_cl 2 hcl (by decide)) ?_
  refine g_st (st' := [.int (r650)]) rfl ?_
  refine g_istore (pc := 653) C (lv' := [(5, .int (r650)), (0, .ref b), (1, .ref (a 0)), (2, .ref (a 56)), (3, .ref (a 55)), (4, .int (x4))]) rfl dL_law_653 (Nat.le_of_ble_eq_true rfl) rfl ?_
  refine g_aload_n (pc := 655) C 3 dL_law_655 rfl rfl ?_
  refine g_aload_n (pc := 656) C 1 dL_law_656 rfl rfl ?_
  refine g_iload (pc := 657) C 5 dL_law_657 rfl ?_
  refine g_iconst (pc := 659) C (v := (1 : Int32)) dL_law_659 (by decide) ?_
  refine g_iadd (pc := 660) C dL_law_660 ?_
  obtain ⟨k661, h⟩ := hv_if_some h
  refine g_sld (pc := 661) CL k661 dL_law_661 ?_
  refine g_aload_n (pc := 662) C 1 dL_law_662 rfl rfl ?_
  refine g_iload (pc := 663) C 5 dL_law_663 rfl ?_
  refine g_iconst (pc := 665) C (v := (2 : Int32)) dL_law_665 (by decide) ?_
  refine g_iadd (pc := 666) C dL_law_666 ?_
  obtain ⟨k667, h⟩ := hv_if_some h
  refine g_sld (pc := 667) CL k667 dL_law_667 ?_
  obtain ⟨r668, t668, hc668, h⟩ := hv_b2_some h
  refine g_subV (pc := 668) (cells := cells + 2) (slots := slots + 12) (o := 56) (X2 := hv_ME (fun i => a (i + 56)) cy) (n := 23) (τ := t668) (v := some (.int (r668))) (As := [.int (xs ((x4) + ((1 : Int32))).toNatClampNeg), .int (xs ((x4) + ((2 : Int32))).toNatClampNeg)]) (rest := []) C 0 (hv_LE_M a cy) (Nat.le_of_ble_eq_true rfl) (vX8_of (a := fun i => a (i + 56)) hc668) (cwV 2 C.1.2.2.2.2 gL_law_X8_of rfl rfl rfl (by decide +kernel) ⟨Nat.le_of_ble_eq_true rfl, Nat.le_of_ble_eq_true rfl⟩) (Nat.le_of_ble_eq_true rfl) rfl rfl rfl rfl (Nat.le_of_ble_eq_true rfl) dL_law_668 (hv_cl 2 hcl (by decide)) ?_
  refine g_st (st' := [.int (r668)]) rfl ?_
  refine g_istore (pc := 671) C (lv' := [(6, .int (r668)), (5, .int (r650)), (0, .ref b), (1, .ref (a 0)), (2, .ref (a 56)), (3, .ref (a 55)), (4, .int (x4))]) rfl dL_law_671 (Nat.le_of_ble_eq_true rfl) rfl ?_
  refine g_aload_n (pc := 673) C 4 dL_law_673 rfl rfl ?_
  obtain ⟨r674, t674, hc674, h⟩ := hv_b2_some h
  refine g_subV (pc := 674) (cells := cells + 2) (slots := slots + 12) (o := 56) (X2 := hv_ME (fun i => a (i + 56)) cy) (n := 23) (τ := t674) (v := some (.int (r674))) (As := []) (rest := []) C 0 (hv_LE_M a cy) (Nat.le_of_ble_eq_true rfl) (vX8_thrown (a := fun i => a (i + 56)) hc674) (cwV 0 C.1.2.2.2.2 gL_law_X8_thrown rfl rfl rfl (by decide +kernel) ⟨Nat.le_of_ble_eq_true rfl, Nat.le_of_ble_eq_true rfl⟩) (Nat.le_of_ble_eq_true rfl) rfl rfl rfl rfl (Nat.le_of_ble_eq_true rfl) dL_law_674 (hv_cl 2 hcl (by decide)) ?_
  refine g_st (st' := [.int (r674)]) rfl ?_
  refine g_iload (pc := 677) C 1 dL_law_677 rfl ?_
  refine g_icmp_eq (pc := 679) (tgt := 684) C dL_law_679 (by decide) (fun c679 => ?_) (fun c679 => ?_)
  · rw [if_pos c679] at h
    refine g_iload (pc := 684) C 1 dL_law_684 rfl ?_
    refine g_if_ne (pc := 686) (tgt := 701) C dL_law_686 (by decide) (fun c686 => ?_) (fun c686 => ?_)
    · rw [if_neg c686] at h
      exact g_lv [2, 3, 4, 5, 6] rfl (bL_law_701 hflag CL hcl hr23 (hv_mg 56 23 ((hv_mg 56 23 ((hv_mg 0 56 (σ) t650)) t668)) t674) (x4) h)
    · rw [if_pos c686] at h
      refine g_aload_n (pc := 689) C 5 dL_law_689 rfl rfl ?_
      refine g_iconst (pc := 690) C (v := (0 : Int32)) dL_law_690 (by decide) ?_
      refine g_lald (pc := 691) C 55 1 (cA := cy.2.1) (n := 1) (Nat.le_of_ble_eq_true rfl) rfl rfl (by decide) dL_law_691 ?_
      refine g_iload (pc := 692) C 0 dL_law_692 rfl ?_
      refine g_i2l (pc := 694) C dL_law_694 ?_
      refine g_lcmp (pc := 695) C dL_law_695 ?_
      refine g_if_eq (pc := 696) (tgt := 701) C dL_law_696 (by decide) (fun c696 => ?_) (fun c696 => ?_)
      · rw [if_pos c696] at h
        exact g_lv [2, 3, 4, 5, 6] rfl (bL_law_701 hflag CL hcl hr23 (hv_mg 56 23 ((hv_mg 56 23 ((hv_mg 0 56 (σ) t650)) t668)) t674) (x4) h)
      · rw [if_neg c696] at h
        cases h
  · rw [if_neg c679] at h
    cases h
set_option maxHeartbeats 4000000 in
set_option maxRecDepth 20000 in
theorem bL_law_611 (hflag : l.stackTraces = false) (CL : hv_CL p s m meth c D cy a b L xs) (hcl : cells + 2 ≤ room_1.cells ∧ slots + 12 ≤ room_1.slots) {n : Nat} {r23 : hv_St → Int32 → Option Unit} (hr23 : ∀ (σ : hv_St) (x4 : Int32), r23 σ x4 = some () → hv_G p l e room_1 s m #[Value.ref b] below meth c 8 D 79 a (hv_LE a cy) (cells + 2) (slots + 12) (lw_Z below #[Value.ref b] s) σ 23 [(0, .ref b), (1, .ref (a 0)), (2, .ref (a 56)), (3, .ref (a 55)), (4, .int (x4))] []) : ∀ (σ : hv_St) (x4 : Int32), kL_law_611 n L xs r23 σ x4 = some () → hv_G p l e room_1 s m #[Value.ref b] below meth c 8 D 79 a (hv_LE a cy) cells slots (lw_Z below #[Value.ref b] s) σ 611 [(0, .ref b), (1, .ref (a 0)), (2, .ref (a 56)), (3, .ref (a 55)), (4, .int (x4))] [] := by
  intro σ x4 h
  have C := CL.1
  unfold kL_law_611 at h
  refine g_aload_n (pc := 611) C 1 dL_law_611 rfl rfl ?_
  refine g_aload_n (pc := 612) C 0 dL_law_612 rfl rfl ?_
  refine g_iload (pc := 613) C 4 dL_law_613 rfl ?_
  refine g_iconst (pc := 615) C (v := (1 : Int32)) dL_law_615 (by decide) ?_
  refine g_iadd (pc := 616) C dL_law_616 ?_
  obtain ⟨k617, h⟩ := hv_if_some h
  refine g_sld (pc := 617) CL k617 dL_law_617 ?_
  obtain ⟨r618, t618, hc618, h⟩ := hv_b2_some h
  refine g_subV (pc := 618) (cells := cells) (slots := slots) (o := 0) (X2 := hv_XE (fun i => a (i + 0)) cy) (n := 55) (τ := t618) (v := some (.int (r618))) (As := [.int (xs ((x4) + ((1 : Int32))).toNatClampNeg)]) (rest := []) C 0 (hv_LE_X a cy) (Nat.le_of_ble_eq_true rfl) (vX7_count (a := fun i => a (i + 0)) hc618) (cwV 1 C.1.2.2.2.2 gL_law_X7_count rfl rfl rfl (by decide +kernel) ⟨Nat.le_of_ble_eq_true rfl, Nat.le_of_ble_eq_true rfl⟩) (Nat.le_of_ble_eq_true rfl) rfl rfl rfl rfl (Nat.le_of_ble_eq_true rfl) dL_law_618 (hv_cl 0 hcl (by decide)) ?_
  refine g_st (st' := [.int (r618)]) rfl ?_
  refine g_aload_n (pc := 621) C 2 dL_law_621 rfl rfl ?_
  refine g_aload_n (pc := 622) C 0 dL_law_622 rfl rfl ?_
  refine g_iload (pc := 623) C 4 dL_law_623 rfl ?_
  refine g_iconst (pc := 625) C (v := (1 : Int32)) dL_law_625 (by decide) ?_
  refine g_iadd (pc := 626) C dL_law_626 ?_
  obtain ⟨k627, h⟩ := hv_if_some h
  refine g_sld (pc := 627) CL k627 dL_law_627 ?_
  obtain ⟨r628, t628, hc628, h⟩ := hv_b2_some h
  refine g_subV (pc := 628) (cells := cells) (slots := slots) (o := 56) (X2 := hv_ME (fun i => a (i + 56)) cy) (n := 23) (τ := t628) (v := some (.int (r628))) (As := [.int (xs ((x4) + ((1 : Int32))).toNatClampNeg)]) (rest := [.int (r618)]) C 0 (hv_LE_M a cy) (Nat.le_of_ble_eq_true rfl) (vX8_count (a := fun i => a (i + 56)) hc628) (cwV 1 C.1.2.2.2.2 gL_law_X8_count rfl rfl rfl (by decide +kernel) ⟨Nat.le_of_ble_eq_true rfl, Nat.le_of_ble_eq_true rfl⟩) (Nat.le_of_ble_eq_true rfl) rfl rfl rfl rfl (Nat.le_of_ble_eq_true rfl) dL_law_628 (hv_cl 0 hcl (by decide)) ?_
  refine g_st (st' := [.int (r628), .int (r618)]) rfl ?_
  refine g_icmp_eq (pc := 631) (tgt := 1699) C dL_law_631 (by decide) (fun c631 => ?_) (fun c631 => ?_)
  · rw [if_pos c631] at h
    refine g_widen (cells := cells) (slots := slots) (k := cells + 2) (n := slots + 12) (by omega) (by omega) ?_
    exact g_lv [0, 1, 2, 3, 4] rfl (bL_law_1699 hflag CL hcl hr23 (hv_mg 56 23 ((hv_mg 0 55 (σ) t618)) t628) (x4) h)
  · rw [if_neg c631] at h
    cases h
set_option maxHeartbeats 4000000 in
set_option maxRecDepth 20000 in
theorem bL_law_586 (hflag : l.stackTraces = false) (CL : hv_CL p s m meth c D cy a b L xs) (hcl : cells + 2 ≤ room_1.cells ∧ slots + 12 ≤ room_1.slots) {n : Nat} {r23 : hv_St → Int32 → Option Unit} (hr23 : ∀ (σ : hv_St) (x4 : Int32), r23 σ x4 = some () → hv_G p l e room_1 s m #[Value.ref b] below meth c 8 D 79 a (hv_LE a cy) (cells + 2) (slots + 12) (lw_Z below #[Value.ref b] s) σ 23 [(0, .ref b), (1, .ref (a 0)), (2, .ref (a 56)), (3, .ref (a 55)), (4, .int (x4))] []) : ∀ (σ : hv_St) (x4 : Int32), kL_law_586 n L xs r23 σ x4 = some () → hv_G p l e room_1 s m #[Value.ref b] below meth c 8 D 79 a (hv_LE a cy) cells slots (lw_Z below #[Value.ref b] s) σ 586 [(0, .ref b), (1, .ref (a 0)), (2, .ref (a 56)), (3, .ref (a 55)), (4, .int (x4))] [] := by
  intro σ x4 h
  have C := CL.1
  unfold kL_law_586 at h
  refine g_aload_n (pc := 586) C 1 dL_law_586 rfl rfl ?_
  refine g_aload_n (pc := 587) C 0 dL_law_587 rfl rfl ?_
  refine g_iload (pc := 588) C 4 dL_law_588 rfl ?_
  refine g_iconst (pc := 590) C (v := (1 : Int32)) dL_law_590 (by decide) ?_
  refine g_iadd (pc := 591) C dL_law_591 ?_
  obtain ⟨k592, h⟩ := hv_if_some h
  refine g_sld (pc := 592) CL k592 dL_law_592 ?_
  obtain ⟨r593, t593, hc593, h⟩ := hv_b2_some h
  refine g_subV (pc := 593) (cells := cells) (slots := slots) (o := 0) (X2 := hv_XE (fun i => a (i + 0)) cy) (n := 55) (τ := t593) (v := some (.int (r593))) (As := [.int (xs ((x4) + ((1 : Int32))).toNatClampNeg)]) (rest := []) C 0 (hv_LE_X a cy) (Nat.le_of_ble_eq_true rfl) (vX7_train (a := fun i => a (i + 0)) hc593) (cwV 1 C.1.2.2.2.2 gL_law_X7_train rfl rfl rfl (by decide +kernel) ⟨Nat.le_of_ble_eq_true rfl, Nat.le_of_ble_eq_true rfl⟩) (Nat.le_of_ble_eq_true rfl) rfl rfl rfl rfl (Nat.le_of_ble_eq_true rfl) dL_law_593 (hv_cl 0 hcl (by decide)) ?_
  refine g_st (st' := [.int (r593)]) rfl ?_
  refine g_aload_n (pc := 596) C 2 dL_law_596 rfl rfl ?_
  refine g_aload_n (pc := 597) C 0 dL_law_597 rfl rfl ?_
  refine g_iload (pc := 598) C 4 dL_law_598 rfl ?_
  refine g_iconst (pc := 600) C (v := (1 : Int32)) dL_law_600 (by decide) ?_
  refine g_iadd (pc := 601) C dL_law_601 ?_
  obtain ⟨k602, h⟩ := hv_if_some h
  refine g_sld (pc := 602) CL k602 dL_law_602 ?_
  obtain ⟨r603, t603, hc603, h⟩ := hv_b2_some h
  refine g_subV (pc := 603) (cells := cells) (slots := slots) (o := 56) (X2 := hv_ME (fun i => a (i + 56)) cy) (n := 23) (τ := t603) (v := some (.int (r603))) (As := [.int (xs ((x4) + ((1 : Int32))).toNatClampNeg)]) (rest := [.int (r593)]) C 0 (hv_LE_M a cy) (Nat.le_of_ble_eq_true rfl) (vX8_train (a := fun i => a (i + 56)) hc603) (cwV 1 C.1.2.2.2.2 gL_law_X8_train rfl rfl rfl (by decide +kernel) ⟨Nat.le_of_ble_eq_true rfl, Nat.le_of_ble_eq_true rfl⟩) (Nat.le_of_ble_eq_true rfl) rfl rfl rfl rfl (Nat.le_of_ble_eq_true rfl) dL_law_603 (hv_cl 0 hcl (by decide)) ?_
  refine g_st (st' := [.int (r603), .int (r593)]) rfl ?_
  refine g_icmp_eq (pc := 606) (tgt := 1699) C dL_law_606 (by decide) (fun c606 => ?_) (fun c606 => ?_)
  · rw [if_pos c606] at h
    refine g_widen (cells := cells) (slots := slots) (k := cells + 2) (n := slots + 12) (by omega) (by omega) ?_
    exact g_lv [0, 1, 2, 3, 4] rfl (bL_law_1699 hflag CL hcl hr23 (hv_mg 56 23 ((hv_mg 0 55 (σ) t593)) t603) (x4) h)
  · rw [if_neg c606] at h
    cases h
set_option maxHeartbeats 4000000 in
set_option maxRecDepth 20000 in
theorem bL_law_573 (hflag : l.stackTraces = false) (CL : hv_CL p s m meth c D cy a b L xs) (hcl : cells + 2 ≤ room_1.cells ∧ slots + 12 ≤ room_1.slots) {n : Nat} {r23 : hv_St → Int32 → Option Unit} (hr23 : ∀ (σ : hv_St) (x4 : Int32), r23 σ x4 = some () → hv_G p l e room_1 s m #[Value.ref b] below meth c 8 D 79 a (hv_LE a cy) (cells + 2) (slots + 12) (lw_Z below #[Value.ref b] s) σ 23 [(0, .ref b), (1, .ref (a 0)), (2, .ref (a 56)), (3, .ref (a 55)), (4, .int (x4))] []) : ∀ (σ : hv_St) (x4 : Int32), kL_law_573 n L xs r23 σ x4 = some () → hv_G p l e room_1 s m #[Value.ref b] below meth c 8 D 79 a (hv_LE a cy) cells slots (lw_Z below #[Value.ref b] s) σ 573 [(0, .ref b), (1, .ref (a 0)), (2, .ref (a 56)), (3, .ref (a 55)), (4, .int (x4))] [] := by
  intro σ x4 h
  have C := CL.1
  unfold kL_law_573 at h
  refine g_aload_n (pc := 573) C 1 dL_law_573 rfl rfl ?_
  obtain ⟨r574, t574, hc574, h⟩ := hv_b2_some h
  refine g_subV (pc := 574) (cells := cells) (slots := slots) (o := 0) (X2 := hv_XE (fun i => a (i + 0)) cy) (n := 55) (τ := t574) (v := some (.int (r574))) (As := []) (rest := []) C 0 (hv_LE_X a cy) (Nat.le_of_ble_eq_true rfl) (vX7_strip (a := fun i => a (i + 0)) hc574) (cwV 0 C.1.2.2.2.2 gL_law_X7_strip rfl rfl rfl (by decide +kernel) ⟨Nat.le_of_ble_eq_true rfl, Nat.le_of_ble_eq_true rfl⟩) (Nat.le_of_ble_eq_true rfl) rfl rfl rfl rfl (Nat.le_of_ble_eq_true rfl) dL_law_574 (hv_cl 0 hcl (by decide)) ?_
  refine g_st (st' := [.int (r574)]) rfl ?_
  refine g_aload_n (pc := 577) C 2 dL_law_577 rfl rfl ?_
  obtain ⟨r578, t578, hc578, h⟩ := hv_b2_some h
  refine g_subV (pc := 578) (cells := cells) (slots := slots) (o := 56) (X2 := hv_ME (fun i => a (i + 56)) cy) (n := 23) (τ := t578) (v := some (.int (r578))) (As := []) (rest := [.int (r574)]) C 0 (hv_LE_M a cy) (Nat.le_of_ble_eq_true rfl) (vX8_strip (a := fun i => a (i + 56)) hc578) (cwV 0 C.1.2.2.2.2 gL_law_X8_strip rfl rfl rfl (by decide +kernel) ⟨Nat.le_of_ble_eq_true rfl, Nat.le_of_ble_eq_true rfl⟩) (Nat.le_of_ble_eq_true rfl) rfl rfl rfl rfl (Nat.le_of_ble_eq_true rfl) dL_law_578 (hv_cl 0 hcl (by decide)) ?_
  refine g_st (st' := [.int (r578), .int (r574)]) rfl ?_
  refine g_icmp_eq (pc := 581) (tgt := 1699) C dL_law_581 (by decide) (fun c581 => ?_) (fun c581 => ?_)
  · rw [if_pos c581] at h
    refine g_widen (cells := cells) (slots := slots) (k := cells + 2) (n := slots + 12) (by omega) (by omega) ?_
    exact g_lv [0, 1, 2, 3, 4] rfl (bL_law_1699 hflag CL hcl hr23 (hv_mg 56 23 ((hv_mg 0 55 (σ) t574)) t578) (x4) h)
  · rw [if_neg c581] at h
    cases h
set_option maxHeartbeats 4000000 in
set_option maxRecDepth 20000 in
theorem bL_law_548 (hflag : l.stackTraces = false) (CL : hv_CL p s m meth c D cy a b L xs) (hcl : cells + 2 ≤ room_1.cells ∧ slots + 12 ≤ room_1.slots) {n : Nat} {r23 : hv_St → Int32 → Option Unit} (hr23 : ∀ (σ : hv_St) (x4 : Int32), r23 σ x4 = some () → hv_G p l e room_1 s m #[Value.ref b] below meth c 8 D 79 a (hv_LE a cy) (cells + 2) (slots + 12) (lw_Z below #[Value.ref b] s) σ 23 [(0, .ref b), (1, .ref (a 0)), (2, .ref (a 56)), (3, .ref (a 55)), (4, .int (x4))] []) : ∀ (σ : hv_St) (x4 : Int32), kL_law_548 n L xs r23 σ x4 = some () → hv_G p l e room_1 s m #[Value.ref b] below meth c 8 D 79 a (hv_LE a cy) cells slots (lw_Z below #[Value.ref b] s) σ 548 [(0, .ref b), (1, .ref (a 0)), (2, .ref (a 56)), (3, .ref (a 55)), (4, .int (x4))] [] := by
  intro σ x4 h
  have C := CL.1
  unfold kL_law_548 at h
  refine g_aload_n (pc := 548) C 1 dL_law_548 rfl rfl ?_
  refine g_aload_n (pc := 549) C 0 dL_law_549 rfl rfl ?_
  refine g_iload (pc := 550) C 4 dL_law_550 rfl ?_
  refine g_iconst (pc := 552) C (v := (1 : Int32)) dL_law_552 (by decide) ?_
  refine g_iadd (pc := 553) C dL_law_553 ?_
  obtain ⟨k554, h⟩ := hv_if_some h
  refine g_sld (pc := 554) CL k554 dL_law_554 ?_
  obtain ⟨r555, t555, hc555, h⟩ := hv_b2_some h
  refine g_subV (pc := 555) (cells := cells) (slots := slots) (o := 0) (X2 := hv_XE (fun i => a (i + 0)) cy) (n := 55) (τ := t555) (v := some (.int (r555))) (As := [.int (xs ((x4) + ((1 : Int32))).toNatClampNeg)]) (rest := []) C 0 (hv_LE_X a cy) (Nat.le_of_ble_eq_true rfl) (vX7_deck (a := fun i => a (i + 0)) hc555) (cwV 1 C.1.2.2.2.2 gL_law_X7_deck rfl rfl rfl (by decide +kernel) ⟨Nat.le_of_ble_eq_true rfl, Nat.le_of_ble_eq_true rfl⟩) (Nat.le_of_ble_eq_true rfl) rfl rfl rfl rfl (Nat.le_of_ble_eq_true rfl) dL_law_555 (hv_cl 0 hcl (by decide)) ?_
  refine g_st (st' := [.int (r555)]) rfl ?_
  refine g_aload_n (pc := 558) C 2 dL_law_558 rfl rfl ?_
  refine g_aload_n (pc := 559) C 0 dL_law_559 rfl rfl ?_
  refine g_iload (pc := 560) C 4 dL_law_560 rfl ?_
  refine g_iconst (pc := 562) C (v := (1 : Int32)) dL_law_562 (by decide) ?_
  refine g_iadd (pc := 563) C dL_law_563 ?_
  obtain ⟨k564, h⟩ := hv_if_some h
  refine g_sld (pc := 564) CL k564 dL_law_564 ?_
  obtain ⟨r565, t565, hc565, h⟩ := hv_b2_some h
  refine g_subV (pc := 565) (cells := cells) (slots := slots) (o := 56) (X2 := hv_ME (fun i => a (i + 56)) cy) (n := 23) (τ := t565) (v := some (.int (r565))) (As := [.int (xs ((x4) + ((1 : Int32))).toNatClampNeg)]) (rest := [.int (r555)]) C 0 (hv_LE_M a cy) (Nat.le_of_ble_eq_true rfl) (vX8_deck (a := fun i => a (i + 56)) hc565) (cwV 1 C.1.2.2.2.2 gL_law_X8_deck rfl rfl rfl (by decide +kernel) ⟨Nat.le_of_ble_eq_true rfl, Nat.le_of_ble_eq_true rfl⟩) (Nat.le_of_ble_eq_true rfl) rfl rfl rfl rfl (Nat.le_of_ble_eq_true rfl) dL_law_565 (hv_cl 0 hcl (by decide)) ?_
  refine g_st (st' := [.int (r565), .int (r555)]) rfl ?_
  refine g_icmp_eq (pc := 568) (tgt := 1699) C dL_law_568 (by decide) (fun c568 => ?_) (fun c568 => ?_)
  · rw [if_pos c568] at h
    refine g_widen (cells := cells) (slots := slots) (k := cells + 2) (n := slots + 12) (by omega) (by omega) ?_
    exact g_lv [0, 1, 2, 3, 4] rfl (bL_law_1699 hflag CL hcl hr23 (hv_mg 56 23 ((hv_mg 0 55 (σ) t555)) t565) (x4) h)
  · rw [if_neg c568] at h
    cases h
set_option maxHeartbeats 4000000 in
set_option maxRecDepth 20000 in
theorem bL_law_535 (hflag : l.stackTraces = false) (CL : hv_CL p s m meth c D cy a b L xs) (hcl : cells + 2 ≤ room_1.cells ∧ slots + 12 ≤ room_1.slots) {n : Nat} {r23 : hv_St → Int32 → Option Unit} (hr23 : ∀ (σ : hv_St) (x4 : Int32), r23 σ x4 = some () → hv_G p l e room_1 s m #[Value.ref b] below meth c 8 D 79 a (hv_LE a cy) (cells + 2) (slots + 12) (lw_Z below #[Value.ref b] s) σ 23 [(0, .ref b), (1, .ref (a 0)), (2, .ref (a 56)), (3, .ref (a 55)), (4, .int (x4))] []) : ∀ (σ : hv_St) (x4 : Int32), kL_law_535 n L xs r23 σ x4 = some () → hv_G p l e room_1 s m #[Value.ref b] below meth c 8 D 79 a (hv_LE a cy) cells slots (lw_Z below #[Value.ref b] s) σ 535 [(0, .ref b), (1, .ref (a 0)), (2, .ref (a 56)), (3, .ref (a 55)), (4, .int (x4))] [] := by
  intro σ x4 h
  have C := CL.1
  unfold kL_law_535 at h
  refine g_aload_n (pc := 535) C 1 dL_law_535 rfl rfl ?_
  obtain ⟨r536, t536, hc536, h⟩ := hv_b2_some h
  refine g_subV (pc := 536) (cells := cells) (slots := slots) (o := 0) (X2 := hv_XE (fun i => a (i + 0)) cy) (n := 55) (τ := t536) (v := some (.int (r536))) (As := []) (rest := []) C 0 (hv_LE_X a cy) (Nat.le_of_ble_eq_true rfl) (vX7_unload (a := fun i => a (i + 0)) hc536) (cwV 0 C.1.2.2.2.2 gL_law_X7_unload rfl rfl rfl (by decide +kernel) ⟨Nat.le_of_ble_eq_true rfl, Nat.le_of_ble_eq_true rfl⟩) (Nat.le_of_ble_eq_true rfl) rfl rfl rfl rfl (Nat.le_of_ble_eq_true rfl) dL_law_536 (hv_cl 0 hcl (by decide)) ?_
  refine g_st (st' := [.int (r536)]) rfl ?_
  refine g_aload_n (pc := 539) C 2 dL_law_539 rfl rfl ?_
  obtain ⟨r540, t540, hc540, h⟩ := hv_b2_some h
  refine g_subV (pc := 540) (cells := cells) (slots := slots) (o := 56) (X2 := hv_ME (fun i => a (i + 56)) cy) (n := 23) (τ := t540) (v := some (.int (r540))) (As := []) (rest := [.int (r536)]) C 0 (hv_LE_M a cy) (Nat.le_of_ble_eq_true rfl) (vX8_unload (a := fun i => a (i + 56)) hc540) (cwV 0 C.1.2.2.2.2 gL_law_X8_unload rfl rfl rfl (by decide +kernel) ⟨Nat.le_of_ble_eq_true rfl, Nat.le_of_ble_eq_true rfl⟩) (Nat.le_of_ble_eq_true rfl) rfl rfl rfl rfl (Nat.le_of_ble_eq_true rfl) dL_law_540 (hv_cl 0 hcl (by decide)) ?_
  refine g_st (st' := [.int (r540), .int (r536)]) rfl ?_
  refine g_icmp_eq (pc := 543) (tgt := 1699) C dL_law_543 (by decide) (fun c543 => ?_) (fun c543 => ?_)
  · rw [if_pos c543] at h
    refine g_widen (cells := cells) (slots := slots) (k := cells + 2) (n := slots + 12) (by omega) (by omega) ?_
    exact g_lv [0, 1, 2, 3, 4] rfl (bL_law_1699 hflag CL hcl hr23 (hv_mg 56 23 ((hv_mg 0 55 (σ) t536)) t540) (x4) h)
  · rw [if_neg c543] at h
    cases h
set_option maxHeartbeats 4000000 in
set_option maxRecDepth 20000 in
theorem bL_law_486 (hflag : l.stackTraces = false) (CL : hv_CL p s m meth c D cy a b L xs) (hcl : cells + 2 ≤ room_1.cells ∧ slots + 12 ≤ room_1.slots) {n : Nat} {r23 : hv_St → Int32 → Option Unit} (hr23 : ∀ (σ : hv_St) (x4 : Int32), r23 σ x4 = some () → hv_G p l e room_1 s m #[Value.ref b] below meth c 8 D 79 a (hv_LE a cy) (cells + 2) (slots + 12) (lw_Z below #[Value.ref b] s) σ 23 [(0, .ref b), (1, .ref (a 0)), (2, .ref (a 56)), (3, .ref (a 55)), (4, .int (x4))] []) : ∀ (σ : hv_St) (x4 : Int32), kL_law_486 n L xs r23 σ x4 = some () → hv_G p l e room_1 s m #[Value.ref b] below meth c 8 D 79 a (hv_LE a cy) cells slots (lw_Z below #[Value.ref b] s) σ 486 [(0, .ref b), (1, .ref (a 0)), (2, .ref (a 56)), (3, .ref (a 55)), (4, .int (x4))] [] := by
  intro σ x4 h
  have C := CL.1
  unfold kL_law_486 at h
  refine g_aload_n (pc := 486) C 1 dL_law_486 rfl rfl ?_
  refine g_aload_n (pc := 487) C 0 dL_law_487 rfl rfl ?_
  refine g_iload (pc := 488) C 4 dL_law_488 rfl ?_
  refine g_iconst (pc := 490) C (v := (1 : Int32)) dL_law_490 (by decide) ?_
  refine g_iadd (pc := 491) C dL_law_491 ?_
  obtain ⟨k492, h⟩ := hv_if_some h
  refine g_sld (pc := 492) CL k492 dL_law_492 ?_
  refine g_aload_n (pc := 493) C 0 dL_law_493 rfl rfl ?_
  refine g_iload (pc := 494) C 4 dL_law_494 rfl ?_
  refine g_iconst (pc := 496) C (v := (2 : Int32)) dL_law_496 (by decide) ?_
  refine g_iadd (pc := 497) C dL_law_497 ?_
  obtain ⟨k498, h⟩ := hv_if_some h
  refine g_sld (pc := 498) CL k498 dL_law_498 ?_
  refine g_aload_n (pc := 499) C 0 dL_law_499 rfl rfl ?_
  refine g_iload (pc := 500) C 4 dL_law_500 rfl ?_
  refine g_iconst (pc := 502) C (v := (3 : Int32)) dL_law_502 (by decide) ?_
  refine g_iadd (pc := 503) C dL_law_503 ?_
  obtain ⟨k504, h⟩ := hv_if_some h
  refine g_sld (pc := 504) CL k504 dL_law_504 ?_
  obtain ⟨r505, t505, hc505, h⟩ := hv_b2_some h
  refine g_subV (pc := 505) (cells := cells) (slots := slots) (o := 0) (X2 := hv_XE (fun i => a (i + 0)) cy) (n := 55) (τ := t505) (v := some (.int (r505))) (As := [.int (xs ((x4) + ((1 : Int32))).toNatClampNeg), .int (xs ((x4) + ((2 : Int32))).toNatClampNeg), .int (xs ((x4) + ((3 : Int32))).toNatClampNeg)]) (rest := []) C 0 (hv_LE_X a cy) (Nat.le_of_ble_eq_true rfl) (vX7_load (a := fun i => a (i + 0)) hc505) (cwV 3 C.1.2.2.2.2 gL_law_X7_load rfl rfl rfl (by decide +kernel) ⟨Nat.le_of_ble_eq_true rfl, Nat.le_of_ble_eq_true rfl⟩) (Nat.le_of_ble_eq_true rfl) rfl rfl rfl rfl (Nat.le_of_ble_eq_true rfl) dL_law_505 (hv_cl 0 hcl (by decide)) ?_
  refine g_st (st' := [.int (r505)]) rfl ?_
  refine g_aload_n (pc := 508) C 2 dL_law_508 rfl rfl ?_
  refine g_aload_n (pc := 509) C 0 dL_law_509 rfl rfl ?_
  refine g_iload (pc := 510) C 4 dL_law_510 rfl ?_
  refine g_iconst (pc := 512) C (v := (1 : Int32)) dL_law_512 (by decide) ?_
  refine g_iadd (pc := 513) C dL_law_513 ?_
  obtain ⟨k514, h⟩ := hv_if_some h
  refine g_sld (pc := 514) CL k514 dL_law_514 ?_
  refine g_aload_n (pc := 515) C 0 dL_law_515 rfl rfl ?_
  refine g_iload (pc := 516) C 4 dL_law_516 rfl ?_
  refine g_iconst (pc := 518) C (v := (2 : Int32)) dL_law_518 (by decide) ?_
  refine g_iadd (pc := 519) C dL_law_519 ?_
  obtain ⟨k520, h⟩ := hv_if_some h
  refine g_sld (pc := 520) CL k520 dL_law_520 ?_
  refine g_aload_n (pc := 521) C 0 dL_law_521 rfl rfl ?_
  refine g_iload (pc := 522) C 4 dL_law_522 rfl ?_
  refine g_iconst (pc := 524) C (v := (3 : Int32)) dL_law_524 (by decide) ?_
  refine g_iadd (pc := 525) C dL_law_525 ?_
  obtain ⟨k526, h⟩ := hv_if_some h
  refine g_sld (pc := 526) CL k526 dL_law_526 ?_
  obtain ⟨r527, t527, hc527, h⟩ := hv_b2_some h
  refine g_subV (pc := 527) (cells := cells) (slots := slots) (o := 56) (X2 := hv_ME (fun i => a (i + 56)) cy) (n := 23) (τ := t527) (v := some (.int (r527))) (As := [.int (xs ((x4) + ((1 : Int32))).toNatClampNeg), .int (xs ((x4) + ((2 : Int32))).toNatClampNeg), .int (xs ((x4) + ((3 : Int32))).toNatClampNeg)]) (rest := [.int (r505)]) C 0 (hv_LE_M a cy) (Nat.le_of_ble_eq_true rfl) (vX8_load (a := fun i => a (i + 56)) hc527) (cwV 3 C.1.2.2.2.2 gL_law_X8_load rfl rfl rfl (by decide +kernel) ⟨Nat.le_of_ble_eq_true rfl, Nat.le_of_ble_eq_true rfl⟩) (Nat.le_of_ble_eq_true rfl) rfl rfl rfl rfl (Nat.le_of_ble_eq_true rfl) dL_law_527 (hv_cl 0 hcl (by decide)) ?_
  refine g_st (st' := [.int (r527), .int (r505)]) rfl ?_
  refine g_icmp_eq (pc := 530) (tgt := 1699) C dL_law_530 (by decide) (fun c530 => ?_) (fun c530 => ?_)
  · rw [if_pos c530] at h
    refine g_widen (cells := cells) (slots := slots) (k := cells + 2) (n := slots + 12) (by omega) (by omega) ?_
    exact g_lv [0, 1, 2, 3, 4] rfl (bL_law_1699 hflag CL hcl hr23 (hv_mg 56 23 ((hv_mg 0 55 (σ) t505)) t527) (x4) h)
  · rw [if_neg c530] at h
    cases h
set_option maxHeartbeats 4000000 in
set_option maxRecDepth 20000 in
theorem bL_law_478 (hflag : l.stackTraces = false) (CL : hv_CL p s m meth c D cy a b L xs) (hcl : cells + 2 ≤ room_1.cells ∧ slots + 12 ≤ room_1.slots) {n : Nat} {r23 : hv_St → Int32 → Option Unit} (hr23 : ∀ (σ : hv_St) (x4 : Int32), r23 σ x4 = some () → hv_G p l e room_1 s m #[Value.ref b] below meth c 8 D 79 a (hv_LE a cy) (cells + 2) (slots + 12) (lw_Z below #[Value.ref b] s) σ 23 [(0, .ref b), (1, .ref (a 0)), (2, .ref (a 56)), (3, .ref (a 55)), (4, .int (x4))] []) : ∀ (σ : hv_St) (x4 : Int32) (z0 : Int32) (z1 : Int32) (z2 : Int32) (z4 : Int32), kL_law_478 n L xs r23 σ x4 z0 z1 z2 z4 = some () → hv_G p l e room_1 s m #[Value.ref b] below meth c 8 D 79 a (hv_LE a cy) cells slots (lw_Z below #[Value.ref b] s) σ 478 [(0, .ref b), (1, .ref (a 0)), (2, .ref (a 56)), (3, .ref (a 55)), (4, .int (x4))] [.int (z0), .int (z1), .int (z2), .ref (a 56), .int (z4)] := by
  intro σ x4 z0 z1 z2 z4 h
  have C := CL.1
  unfold kL_law_478 at h
  obtain ⟨r478, t478, hc478, h⟩ := hv_b2_some h
  refine g_subV (pc := 478) (cells := cells) (slots := slots) (o := 56) (X2 := hv_ME (fun i => a (i + 56)) cy) (n := 23) (τ := t478) (v := some (.int (r478))) (As := [.int (z2), .int (z1), .int (z0)]) (rest := [.int (z4)]) C 0 (hv_LE_M a cy) (Nat.le_of_ble_eq_true rfl) (vX8_hold (a := fun i => a (i + 56)) hc478) (cwV 3 C.1.2.2.2.2 gL_law_X8_hold rfl rfl rfl (by decide +kernel) ⟨Nat.le_of_ble_eq_true rfl, Nat.le_of_ble_eq_true rfl⟩) (Nat.le_of_ble_eq_true rfl) rfl rfl rfl rfl (Nat.le_of_ble_eq_true rfl) dL_law_478 (hv_cl 0 hcl (by decide)) ?_
  refine g_st (st' := [.int (r478), .int (z4)]) rfl ?_
  refine g_icmp_eq (pc := 481) (tgt := 1699) C dL_law_481 (by decide) (fun c481 => ?_) (fun c481 => ?_)
  · rw [if_pos c481] at h
    refine g_widen (cells := cells) (slots := slots) (k := cells + 2) (n := slots + 12) (by omega) (by omega) ?_
    exact g_lv [0, 1, 2, 3, 4] rfl (bL_law_1699 hflag CL hcl hr23 (hv_mg 56 23 (σ) t478) (x4) h)
  · rw [if_neg c481] at h
    cases h
set_option maxHeartbeats 4000000 in
set_option maxRecDepth 20000 in
theorem bL_law_448 (hflag : l.stackTraces = false) (CL : hv_CL p s m meth c D cy a b L xs) (hcl : cells + 2 ≤ room_1.cells ∧ slots + 12 ≤ room_1.slots) {n : Nat} {r23 : hv_St → Int32 → Option Unit} (hr23 : ∀ (σ : hv_St) (x4 : Int32), r23 σ x4 = some () → hv_G p l e room_1 s m #[Value.ref b] below meth c 8 D 79 a (hv_LE a cy) (cells + 2) (slots + 12) (lw_Z below #[Value.ref b] s) σ 23 [(0, .ref b), (1, .ref (a 0)), (2, .ref (a 56)), (3, .ref (a 55)), (4, .int (x4))] []) : ∀ (σ : hv_St) (x4 : Int32) (z0 : Int32) (z1 : Int32) (z2 : Int32), kL_law_448 n L xs r23 σ x4 z0 z1 z2 = some () → hv_G p l e room_1 s m #[Value.ref b] below meth c 8 D 79 a (hv_LE a cy) cells slots (lw_Z below #[Value.ref b] s) σ 448 [(0, .ref b), (1, .ref (a 0)), (2, .ref (a 56)), (3, .ref (a 55)), (4, .int (x4))] [.int (z0), .int (z1), .int (z2), .ref (a 0)] := by
  intro σ x4 z0 z1 z2 h
  have C := CL.1
  unfold kL_law_448 at h
  obtain ⟨r448, t448, hc448, h⟩ := hv_b2_some h
  refine g_subV (pc := 448) (cells := cells) (slots := slots) (o := 0) (X2 := hv_XE (fun i => a (i + 0)) cy) (n := 55) (τ := t448) (v := some (.int (r448))) (As := [.int (z2), .int (z1), .int (z0)]) (rest := []) C 0 (hv_LE_X a cy) (Nat.le_of_ble_eq_true rfl) (vX7_hold (a := fun i => a (i + 0)) hc448) (cwV 3 C.1.2.2.2.2 gL_law_X7_hold rfl rfl rfl (by decide +kernel) ⟨Nat.le_of_ble_eq_true rfl, Nat.le_of_ble_eq_true rfl⟩) (Nat.le_of_ble_eq_true rfl) rfl rfl rfl rfl (Nat.le_of_ble_eq_true rfl) dL_law_448 (hv_cl 0 hcl (by decide)) ?_
  refine g_st (st' := [.int (r448)]) rfl ?_
  refine g_aload_n (pc := 451) C 2 dL_law_451 rfl rfl ?_
  refine g_aload_n (pc := 452) C 0 dL_law_452 rfl rfl ?_
  refine g_iload (pc := 453) C 4 dL_law_453 rfl ?_
  refine g_iconst (pc := 455) C (v := (1 : Int32)) dL_law_455 (by decide) ?_
  refine g_iadd (pc := 456) C dL_law_456 ?_
  obtain ⟨k457, h⟩ := hv_if_some h
  refine g_sld (pc := 457) CL k457 dL_law_457 ?_
  refine g_aload_n (pc := 458) C 0 dL_law_458 rfl rfl ?_
  refine g_iload (pc := 459) C 4 dL_law_459 rfl ?_
  refine g_iconst (pc := 461) C (v := (2 : Int32)) dL_law_461 (by decide) ?_
  refine g_iadd (pc := 462) C dL_law_462 ?_
  obtain ⟨k463, h⟩ := hv_if_some h
  refine g_sld (pc := 463) CL k463 dL_law_463 ?_
  refine g_aload_n (pc := 464) C 0 dL_law_464 rfl rfl ?_
  refine g_iload (pc := 465) C 4 dL_law_465 rfl ?_
  refine g_iconst (pc := 467) C (v := (3 : Int32)) dL_law_467 (by decide) ?_
  refine g_iadd (pc := 468) C dL_law_468 ?_
  obtain ⟨k469, h⟩ := hv_if_some h
  refine g_sld (pc := 469) CL k469 dL_law_469 ?_
  refine g_if_eq (pc := 470) (tgt := 477) C dL_law_470 (by decide) (fun c470 => ?_) (fun c470 => ?_)
  · rw [if_pos c470] at h
    refine g_iconst (pc := 477) C (v := (0 : Int32)) dL_law_477 (by decide) ?_
    exact g_lv [0, 1, 2, 3, 4] rfl (bL_law_478 hflag CL hcl hr23 (hv_mg 0 55 (σ) t448) (x4) ((0 : Int32)) (xs ((x4) + ((2 : Int32))).toNatClampNeg) (xs ((x4) + ((1 : Int32))).toNatClampNeg) (r448) h)
  · rw [if_neg c470] at h
    refine g_iconst (pc := 473) C (v := (1 : Int32)) dL_law_473 (by decide) ?_
    refine g_goto (pc := 474) C (tgt := 478) dL_law_474 (by decide) ?_
    exact g_lv [0, 1, 2, 3, 4] rfl (bL_law_478 hflag CL hcl hr23 (hv_mg 0 55 (σ) t448) (x4) ((1 : Int32)) (xs ((x4) + ((2 : Int32))).toNatClampNeg) (xs ((x4) + ((1 : Int32))).toNatClampNeg) (r448) h)
end
