/-! the kind; without -/
theorem pc_list {s : Nat} {l : List Nat} (hn : l.Nodup) (h : ∀ b, s.testBit b = true ↔ b ∈ l) (hl : ∀ b ∈ l, b < 12) : pc s = l.length := by
  have p : ((List.range 12).filter (fun j => s.testBit j)).Perm l := (List.perm_ext_iff_of_nodup (List.Pairwise.filter _ List.nodup_range) hn).mpr (fun a => by
    rw [List.mem_filter, List.mem_range, h a]
    exact ⟨fun q => q.2, fun q => ⟨hl a q, q⟩⟩)
  exact p.length_eq
theorem fBase_nd (F : Nat → Nat → Int32) (P S B : Nat) : (fBase F P (fBl S B)).Nodup := List.Sublist.nodup (fBase_sub F P _) (fBl_nd S B)
theorem fBase_mem {F : Nat → Nat → Int32} {P S B j : Nat} (h : j ∈ fBase F P (fBl S B)) : j < B ∧ S.testBit j = true := fBl_mem.mp ((fBase_sub F P _).subset h)
theorem fSp_mem {F : Nat → Nat → Int32} {P B S j : Nat} : j ∈ fSp F P B S ↔ (j < B ∧ S.testBit j = true) ∧ j ∉ fBase F P (fBl S B) := by
  unfold fSp
  rw [List.mem_filter, fBl_mem, decide_eq_true_iff]
theorem fSp_nd (F : Nat → Nat → Int32) (P B S : Nat) : (fSp F P B S).Nodup := List.Pairwise.filter _ (fBl_nd S B)
theorem fSp_lt (F : Nat → Nat → Int32) (P B S : Nat) : List.Pairwise (· < ·) (fSp F P B S) := List.Pairwise.filter _ (fBl_lt S B)
def kdN (N L m : Nat) : Nat := if L < N then 0 else if m ≤ 2 then 1 + m else 4
noncomputable def fKind (F : Nat → Nat → Int32) (P B S : Nat) : Nat := kdN (fN' F P) (fBase F P (fBl S B)).length (fSp F P B S).length
theorem Es_pc {F : Nat → Nat → Int32} {P B S Es : Nat} (hB : B ≤ 11) (h : ∀ b, Es.testBit b = true ↔ (b < B ∧ S.testBit b = true) ∧ b ∉ fBase F P (fBl S B)) : pc Es = (fSp F P B S).length := pc_list (fSp_nd F P B S) (fun b => (h b).trans fSp_mem.symm) (fun b hb => by have := (fSp_mem.mp hb).1.1; omega)
theorem Eb_pc {F : Nat → Nat → Int32} {P B S Eb : Nat} (hB : B ≤ 11) (h : ∀ b, Eb.testBit b = true ↔ b ∈ fBase F P (fBl S B)) : pc Eb = (fBase F P (fBl S B)).length := pc_list (fBase_nd F P S B) h (fun b hb => by have := (fBase_mem hb).1; omega)
theorem fSp_le (F : Nat → Nat → Int32) (P B S : Nat) : (fSp F P B S).length ≤ B := by
  have h1 := List.length_filter_le (fun j => decide (j ∉ fBase F P (fBl S B))) (fBl S B)
  have h2 := List.length_filter_le (fun j => S.testBit j) (List.range B)
  rw [List.length_range] at h2
  exact Nat.le_trans h1 h2
theorem p2048 {B s : Nat} (hB : B ≤ 11) (h : s < 2 ^ B) : s < 2048 := Nat.lt_of_lt_of_le h (Nat.le_trans (Nat.pow_le_pow_right (by decide) hB) (by decide))
theorem x0_kind {n : Nat} {F : Nat → Nat → Int32} {P B O D W : Nat} (hi : hI F P B O D W) {S : Nat} {τ : hv_St} (h : zX F P B S τ) : mX0_kindNumber n τ = some (nI (fKind F P B S), τ) := by
  have hB := hi.2.1.2
  have hP := hi.1.2
  have hl : fN' F P ≤ 2 * P := fL_le F (2 * P)
  have eN : fN' F P = (fL F (2 * P)).length := rfl
  obtain ⟨A, e, ⟨-, -, -, h4, -, h6, h7, -, -⟩, ⟨Eb, Es, -, -, -, s4, s5, s6⟩, -⟩ := h
  have hpc := Es_pc (F := F) (P := P) hB s6
  have hsl := fSp_le F P B S
  unfold mX0_kindNumber fKind kdN
  rw [h6, h7]
  by_cases c : (fBase F P (fBl S B)).length < fN' F P
  · rw [if_pos c, if_neg (nI_ge (by omega) (by omega))]
    rfl
  · rw [if_neg c, if_pos (nI_le (by omega) (by omega)), s4, x_bitCount (p2048 hB s5), hv_b2_e, hv_let_e, hpc, show (1 : Int32) = nI 1 from rfl, nI_add]
    by_cases c2 : (fSp F P B S).length ≤ 2
    · rw [if_pos c2, if_pos (show nI (1 + (fSp F P B S).length) < (4 : Int32) from nI_lt (b := 4) (by omega) (by decide))]
    · rw [if_neg c2, if_neg (show ¬ nI (1 + (fSp F P B S).length) < (4 : Int32) from nI_nlt (b := 4) (by omega) (by omega))]
      rfl
theorem r8_kind {n : Nat} (hn : 12 < n) {F : Nat → Nat → Int32} {P B O D W : Nat} (hi : hI F P B O D W) {S : Nat} {τ : hv_St} (h : zM F P B S τ) : mX8_kind n τ = some (nI (fKind F P B S), τ) := by
  have hB := hi.2.1.2
  have hP := hi.1.2
  have hl : fN' F P ≤ 2 * P := fL_le F (2 * P)
  have eN : fN' F P = (fL F (2 * P)).length := rfl
  obtain ⟨hfr, Eb, Es, s1, s2, s3, s4, s5, s6⟩ := h
  have hpc := Es_pc (F := F) (P := P) hB s6
  have hpb := Eb_pc (F := F) (P := P) hB s3
  have hsl := fSp_le F P B S
  have e2 := p2048 hB s2
  have e5 := p2048 hB s5
  have hbl : (fBase F P (fBl S B)).length ≤ B := by
    have h1 := (fBase_sub F P (fBl S B)).length_le
    have h2 := List.length_filter_le (fun j => S.testBit j) (List.range B)
    rw [List.length_range] at h2
    exact Nat.le_trans h1 h2
  unfold mX8_kind fKind kdN
  rw [s1, r8_bits hn (by omega), hv_b2_e, hfr.1, hpb]
  by_cases c : (fBase F P (fBl S B)).length < fN' F P
  · rw [if_pos c, if_neg (nI_ge (by omega) (by omega))]
    rfl
  · rw [if_neg c, if_pos (nI_le (by omega) (by omega)), s4, r8_bits hn (by omega), hv_b2_e, hpc]
    by_cases c2 : (fSp F P B S).length ≤ 2
    · rw [if_pos c2, if_pos (show nI (fSp F P B S).length ≤ (2 : Int32) from nI_le (b := 2) c2 (by decide)), s4, r8_bits hn (by omega), hv_b2_e, hpc, show (1 : Int32) = nI 1 from rfl, nI_add]
    · rw [if_neg c2, if_neg (show ¬ nI (fSp F P B S).length ≤ (2 : Int32) from nI_ge (a := 2) (by omega) (by omega))]
      rfl
theorem r8_kindOf {n : Nat} (hn : 200 ≤ n) {F : Nat → Nat → Int32} {P B O D W : Nat} (hi : hI F P B O D W) {S : Nat} (hS : S < 2 ^ 31) {σ : hv_St} (hm : rM F σ) : ∃ τ, mX8_kindOf n σ (nI S) = some (nI (fKind F P B S), τ) ∧ rM F τ ∧ zM F P B S τ ∧ fr (fun c => c = 0 ∨ c = 11 ∨ c = 12) (fun k => k = 13) σ τ ∧ ∀ i, i ≠ 18 → i ≠ 20 → i ≠ 21 → τ.1 0 i = σ.1 0 i := by
  obtain ⟨τ, t1, t2, t3, t4, t5⟩ := r8_laysBase hn hi hS hm
  refine ⟨τ, ?_, t2, t3, t4, t5⟩
  unfold mX8_kindOf
  rw [t1, hv_bd_e, r8_kind (by omega) hi t3, hv_b2_e]
theorem i32_andnot (a b : Int32) : a &&& (b ^^^ (-1)) = a ^^^ (a &&& b) := by
  rw [← Int32.toBitVec_inj, Int32.toBitVec_and, Int32.toBitVec_xor, Int32.toBitVec_xor, Int32.toBitVec_and]
  have e : (-1 : Int32).toBitVec = BitVec.allOnes 32 := rfl
  rw [e, BitVec.xor_allOnes]
  apply BitVec.eq_of_getLsbD_eq
  intro i hi
  rw [BitVec.getLsbD_and, BitVec.getLsbD_xor, BitVec.getLsbD_and, BitVec.getLsbD_not, decide_eq_true hi, Bool.true_and]
  cases a.toBitVec.getLsbD i <;> cases b.toBitVec.getLsbD i <;> rfl
def andn (a b : Nat) : Nat := a ^^^ (a &&& b)
theorem nI_andn (a b : Nat) : nI a &&& (nI b ^^^ (-1)) = nI (andn a b) := by
  rw [i32_andnot, nI_and, nI_xor]
  rfl
theorem andn_bit (a b j : Nat) : (andn a b).testBit j = true ↔ a.testBit j = true ∧ ¬ b.testBit j = true := by
  unfold andn
  rw [Nat.testBit_xor, Nat.testBit_and]
  cases a.testBit j <;> cases b.testBit j <;> simp
theorem andn_lt {a b B : Nat} (h : a < 2 ^ B) : andn a b < 2 ^ B := by
  unfold andn
  rw [Nat.and_comm]
  exact Nat.xor_lt_two_pow h (Nat.and_lt_two_pow b h)
theorem rM0 {F : Nat → Nat → Int32} {σ : hv_St} (h : rM F σ) : rM F (hv_sI σ 0 0 0) := rM_sc h (by decide) 0
theorem rX11 {F : Nat → Nat → Int32} {σ τ : hv_St} (h : rX F σ) (q : fr fA11 fB9 σ τ) : rX F τ := rX_fr h q (fun k hk => by rcases hk with rfl | rfl | rfl <;> omega)
theorem op_without {n : Nat} (hn : 200 ≤ n) {F : Nat → Nat → Int32} {P B O D W : Nat} {σX σM : hv_St} (h : hR F P B O D W σX σM) (v : Int32) : ∃ r σX' σM', mX7_without n σX v = some (r, σX') ∧ mX8_without n σM v = some (r, σM') ∧ hR F P B O D W σX' σM' := by
  obtain ⟨hi, hx, hm⟩ := h
  have hB := hi.2.1
  have hB11 := hB.2
  have hO := hi.2.2.1
  have bX : σX.1 1 1 = nI B := hx.1.2.1.trans hB.1
  have oX : σX.1 1 2 = nI O := hx.1.2.2.1.trans hO.1
  have hm0 := rM0 hm
  have bM : (hv_sI σM 0 0 0).1 0 6 = nI B := hm0.1.2.1.trans hB.1
  have oM : (hv_sI σM 0 0 0).1 0 11 = nI O := hm0.1.2.2.1.trans hO.1
  have o31 := p2048 hB11 hO.2
  by_cases hv : fN B v
  · obtain ⟨k, hk, rfl⟩ := hv
    have hb := fB_iff (s := O) (k := k) (by omega) (by omega)
    by_cases hon : O.testBit k = true
    · have hd : andn O (2 ^ k) < 2 ^ 31 := Nat.lt_of_lt_of_le (andn_lt hO.2) (Nat.pow_le_pow_right (by decide) (by omega))
      have ee : nI O &&& (((1 : Int32) <<< (nI k &&& 31)) ^^^ (-1)) = nI (andn O (2 ^ k)) := by rw [nI_shl (by omega), nI_andn]
      obtain ⟨τX, a1, a2, a3, a4⟩ := x0_settle (n := n) (by omega) hi hd hx
      obtain ⟨τM, b1, b2, b3, b4, b5⟩ := r8_kindOf hn hi hd hm0
      refine ⟨nI (fKind F P B (andn O (2 ^ k))), τX, τM, ?_, ?_, hi, a3, b2⟩
      · unfold mX7_without
        rw [(x3_isOn (by omega) bX (nI k)).1 ⟨⟨k, hk, rfl⟩, by rw [oX]; exact hb.mpr hon⟩, hv_b2_e, if_neg (by decide), oX, ee, a1, hv_bd_e, x0_kind hi a4]
        rfl
      · unfold mX8_without kX8_without_41
        rw [hv_let_e, (r8_isBar (by omega) bM (nI k)).1 ⟨k, hk, rfl⟩, hv_b2_e, if_neg (by decide), oM, (r8_isOn _ _).1 (hb.mpr hon), hv_b2_e, if_neg (by decide), oM, ee, b1]
        rfl
    · refine ⟨-1, σX, hv_sI σM 0 0 0, ?_, ?_, hi, hx, hm0⟩
      · unfold mX7_without
        rw [(x3_isOn (by omega) bX (nI k)).2 (fun q => hon (hb.mp (by rw [← oX]; exact q.2))), hv_b2_e, if_pos rfl]
      · unfold mX8_without kX8_without_41
        rw [hv_let_e, (r8_isBar (by omega) bM (nI k)).1 ⟨k, hk, rfl⟩, hv_b2_e, if_neg (by decide), oM, (r8_isOn _ _).2 (fun q => hon (hb.mp q)), hv_b2_e, if_pos rfl]
  · refine ⟨-1, σX, hv_sI σM 0 0 0, ?_, ?_, hi, hx, hm0⟩
    · unfold mX7_without
      rw [(x3_isOn (by omega) bX v).2 (fun q => hv q.1), hv_b2_e, if_pos rfl]
    · unfold mX8_without kX8_without_41
      rw [hv_let_e, (r8_isBar (by omega) bM v).2 hv, hv_b2_e, if_pos rfl]
