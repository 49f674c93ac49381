/-! the generator's numbers -/
def lcF (d : Nat) : Nat := (d * 1103515245 + 12345) % 4294967296
theorem lcF_lt (d : Nat) : lcF d < 4294967296 := Nat.mod_lt _ (by decide)
theorem nI_mod (d : Nat) : nI (d % 4294967296) = nI d := by
  show Int32.ofNat _ = Int32.ofNat _
  rw [← Int32.toBitVec_inj, Int32.toBitVec_ofNat', Int32.toBitVec_ofNat']
  apply BitVec.eq_of_toNat_eq
  rw [BitVec.toNat_ofNat, BitVec.toNat_ofNat]
  exact Nat.mod_mod _ _
theorem nI_hi {u : Nat} (hu : u < 4294967296) : ((nI u).toUInt32 >>> ((16 : Int32).toUInt32 &&& Int32.toUInt32 31)).toInt32 = nI (u / 65536) := by
  have e : (nI u).toUInt32 >>> ((16 : Int32).toUInt32 &&& Int32.toUInt32 31) = UInt32.ofNat (u / 65536) := by
    have e16 : ((16 : Int32).toUInt32 &&& Int32.toUInt32 31) = (16 : UInt32) := by decide
    rw [e16]
    apply UInt32.toNat_inj.mp
    rw [UInt32.toNat_shiftRight]
    have e2 : (nI u).toUInt32.toNat = u := by
      show (UInt32.ofNat u).toNat = u
      rw [UInt32.toNat_ofNat']
      exact Nat.mod_eq_of_lt hu
    rw [e2, UInt32.toNat_ofNat']
    show u >>> 16 = u / 65536 % 2 ^ 32
    rw [Nat.shiftRight_eq_div_pow]
    omega
  rw [e]
  rfl
/-- one draw: a number below m, the generator a step on -/
theorem lc_next {n : Nat} {τ : hv_St} {d m : Nat} (hd : τ.1 0 0 = nI d) (hm : 1 ≤ m) (hm2 : m < 2 ^ 31) : mX8_next n τ (nI m) = some (nI (lcF d / 65536 % m), hv_sI τ 0 0 (nI (lcF d))) := by
  unfold mX8_next
  rw [hv_let_e]
  have e1 : (τ.1 0 0) * (1103515245 : Int32) + (12345 : Int32) = nI (lcF d) := by
    rw [hd, show (1103515245 : Int32) = nI 1103515245 from rfl, show (12345 : Int32) = nI 12345 from rfl, nI_mul', nI_add]
    exact (nI_mod _).symm
  rw [e1]
  have e2 : (hv_sI τ 0 0 (nI (lcF d))).1 0 0 = nI (lcF d) := by
    rw [hv_sI_rd, if_pos rfl]
  have hl := lcF_lt d
  rw [e2, nI_hi hl]
  have hm0 : ¬ nI m = 0 := fun e => by
    have := (nI_eq (b := 0) hm2 (by decide)).mp e
    omega
  rw [hv_if_t (by simp [hm0])]
  rw [pk_rem (by omega) hm hm2]
/-- k steps -/
def itN (f : Nat → Nat) : Nat → Nat → Nat
  | 0, d => d
  | k + 1, d => itN f k (f d)
theorem itN_z (f : Nat → Nat) (d : Nat) : itN f 0 d = d := rfl
theorem itN_s (f : Nat → Nat) (k d : Nat) : itN f (k + 1) d = itN f k (f d) := rfl
theorem itN_add (f : Nat → Nat) (j k : Nat) : ∀ d, itN f (j + k) d = itN f k (itN f j d) := by
  induction j with
  | zero =>
    intro d
    rw [Nat.zero_add, itN_z]
  | succ j ih =>
    intro d
    rw [Nat.succ_add, Nat.succ_eq_add_one, itN_s, itN_s, ih]
def lcI (k d : Nat) : Nat := itN lcF k d
theorem lcI_z (d : Nat) : lcI 0 d = d := itN_z lcF d
theorem lcI_s (k d : Nat) : lcI (k + 1) d = lcI k (lcF d) := itN_s lcF k d
theorem lcI_add (j k d : Nat) : lcI (j + k) d = lcI k (lcI j d) := itN_add lcF j k d
theorem lcI_1 (d : Nat) : lcI 1 d = lcF d := by
  rw [show 1 = 0 + 1 from rfl, lcI_s, lcI_z]
def lcP (k A C : Nat) : Prop := ∀ d, lcI k d = (A * d + C) % 4294967296
theorem lc_lin (A C d M : Nat) : (A * ((A * d + C) % M) + C) % M = (A * A % M * d + (A * C + C) % M) % M := by
  have e1 : (A * ((A * d + C) % M) + C) % M = (A * (A * d + C) + C) % M := by
    rw [Nat.add_mod, Nat.mul_mod_mod, ← Nat.add_mod]
  have e2 : (A * A % M * d + (A * C + C) % M) % M = (A * A * d + (A * C + C)) % M := by
    rw [Nat.add_mod_mod, Nat.add_mod, Nat.mod_mul_mod, ← Nat.add_mod]
  rw [e1, e2, Nat.mul_add, ← Nat.mul_assoc, Nat.add_assoc]
theorem lc_dbl {k k2 A C A' C' : Nat} (h : lcP k A C) (hk : k + k = k2) (hA : A * A % 4294967296 = A') (hC : (A * C + C) % 4294967296 = C') : lcP k2 A' C' := by
  intro d
  rw [← hk, ← hA, ← hC, lcI_add, h (lcI k d), h d]
  exact lc_lin A C d 4294967296
theorem lc_0 : lcP 1 1103515245 12345 := fun d => by
  rw [lcI_1]
  unfold lcF
  rw [Nat.mul_comm d]
theorem lc_1 : lcP 2 3265436265 3554416254 := lc_dbl (k := 1) (k2 := 2) (A := 1103515245) (C := 12345) (A' := 3265436265) (C' := 3554416254) lc_0 rfl rfl rfl
theorem lc_2 : lcP 4 3993403153 3596950572 := lc_dbl (k := 2) (k2 := 4) (A := 3265436265) (C := 3554416254) (A' := 3993403153) (C' := 3596950572) lc_1 rfl rfl rfl
theorem lc_3 : lcP 8 3487424289 3441282840 := lc_dbl (k := 4) (k2 := 8) (A := 3993403153) (C := 3596950572) (A' := 3487424289) (C' := 3441282840) lc_2 rfl rfl rfl
theorem lc_4 : lcP 16 1601471041 1695770928 := lc_dbl (k := 8) (k2 := 16) (A := 3487424289) (C := 3441282840) (A' := 1601471041) (C' := 1695770928) lc_3 rfl rfl rfl
theorem lc_5 : lcP 32 2335052929 1680572000 := lc_dbl (k := 16) (k2 := 32) (A := 1601471041) (C := 1695770928) (A' := 2335052929) (C' := 1680572000) lc_4 rfl rfl rfl
theorem lc_6 : lcP 64 1979738369 422948032 := lc_dbl (k := 32) (k2 := 64) (A := 2335052929) (C := 1680572000) (A' := 1979738369) (C' := 422948032) lc_5 rfl rfl rfl
theorem lc_7 : lcP 128 387043841 3058047360 := lc_dbl (k := 64) (k2 := 128) (A := 1979738369) (C := 422948032) (A' := 387043841) (C' := 3058047360) lc_6 rfl rfl rfl
theorem lc_8 : lcP 256 3194463233 519516928 := lc_dbl (k := 128) (k2 := 256) (A := 387043841) (C := 3058047360) (A' := 3194463233) (C' := 519516928) lc_7 rfl rfl rfl
theorem lc_9 : lcP 512 3722397697 530212352 := lc_dbl (k := 256) (k2 := 512) (A := 3194463233) (C := 519516928) (A' := 3722397697) (C' := 530212352) lc_8 rfl rfl rfl
theorem lc_10 : lcP 1024 1073647617 2246364160 := lc_dbl (k := 512) (k2 := 1024) (A := 3722397697) (C := 530212352) (A' := 1073647617) (C' := 2246364160) lc_9 rfl rfl rfl
theorem lc_11 : lcP 2048 2432507905 646551552 := lc_dbl (k := 1024) (k2 := 2048) (A := 1073647617) (C := 2246364160) (A' := 2432507905) (C' := 646551552) lc_10 rfl rfl rfl
theorem lc_12 : lcP 4096 1710899201 3088265216 := lc_dbl (k := 2048) (k2 := 4096) (A := 2432507905) (C := 646551552) (A' := 1710899201) (C' := 3088265216) lc_11 rfl rfl rfl
theorem lc_13 : lcP 8192 3690233857 472276992 := lc_dbl (k := 4096) (k2 := 8192) (A := 1710899201) (C := 3088265216) (A' := 3690233857) (C' := 472276992) lc_12 rfl rfl rfl
theorem lc_14 : lcP 16384 4159242241 3897344000 := lc_dbl (k := 8192) (k2 := 16384) (A := 3690233857) (C := 472276992) (A' := 4159242241) (C' := 3897344000) lc_13 rfl rfl rfl
theorem lc_15 : lcP 32768 4023517185 2425978880 := lc_dbl (k := 16384) (k2 := 32768) (A := 4159242241) (C := 3897344000) (A' := 4023517185) (C' := 2425978880) lc_14 rfl rfl rfl
theorem lc_16 : lcP 65536 3752067073 556990464 := lc_dbl (k := 32768) (k2 := 65536) (A := 4023517185) (C := 2425978880) (A' := 3752067073) (C' := 556990464) lc_15 rfl rfl rfl
theorem lc_17 : lcP 131072 3209166849 1113980928 := lc_dbl (k := 65536) (k2 := 131072) (A := 3752067073) (C := 556990464) (A' := 3209166849) (C' := 1113980928) lc_16 rfl rfl rfl
theorem lc_18 : lcP 262144 2123366401 2227961856 := lc_dbl (k := 131072) (k2 := 262144) (A := 3209166849) (C := 1113980928) (A' := 2123366401) (C' := 2227961856) lc_17 rfl rfl rfl
theorem lc_19 : lcP 524288 4246732801 160956416 := lc_dbl (k := 262144) (k2 := 524288) (A := 2123366401) (C := 2227961856) (A' := 4246732801) (C' := 160956416) lc_18 rfl rfl rfl
theorem lc_20 : lcP 1048576 4198498305 321912832 := lc_dbl (k := 524288) (k2 := 1048576) (A := 4246732801) (C := 160956416) (A' := 4198498305) (C' := 321912832) lc_19 rfl rfl rfl
theorem lc_21 : lcP 2097152 4102029313 643825664 := lc_dbl (k := 1048576) (k2 := 2097152) (A := 4198498305) (C := 321912832) (A' := 4102029313) (C' := 643825664) lc_20 rfl rfl rfl
theorem lc_22 : lcP 4194304 3909091329 1287651328 := lc_dbl (k := 2097152) (k2 := 4194304) (A := 4102029313) (C := 643825664) (A' := 3909091329) (C' := 1287651328) lc_21 rfl rfl rfl
theorem lc_23 : lcP 8388608 3523215361 2575302656 := lc_dbl (k := 4194304) (k2 := 8388608) (A := 3909091329) (C := 1287651328) (A' := 3523215361) (C' := 2575302656) lc_22 rfl rfl rfl
theorem lc_24 : lcP 16777216 2751463425 855638016 := lc_dbl (k := 8388608) (k2 := 16777216) (A := 3523215361) (C := 2575302656) (A' := 2751463425) (C' := 855638016) lc_23 rfl rfl rfl
theorem lc_25 : lcP 33554432 1207959553 1711276032 := lc_dbl (k := 16777216) (k2 := 33554432) (A := 2751463425) (C := 855638016) (A' := 1207959553) (C' := 1711276032) lc_24 rfl rfl rfl
theorem lc_26 : lcP 67108864 2415919105 3422552064 := lc_dbl (k := 33554432) (k2 := 67108864) (A := 1207959553) (C := 1711276032) (A' := 2415919105) (C' := 3422552064) lc_25 rfl rfl rfl
theorem lc_27 : lcP 134217728 536870913 2550136832 := lc_dbl (k := 67108864) (k2 := 134217728) (A := 2415919105) (C := 3422552064) (A' := 536870913) (C' := 2550136832) lc_26 rfl rfl rfl
theorem lc_28 : lcP 268435456 1073741825 805306368 := lc_dbl (k := 134217728) (k2 := 268435456) (A := 536870913) (C := 2550136832) (A' := 1073741825) (C' := 805306368) lc_27 rfl rfl rfl
theorem lc_29 : lcP 536870912 2147483649 1610612736 := lc_dbl (k := 268435456) (k2 := 536870912) (A := 1073741825) (C := 805306368) (A' := 2147483649) (C' := 1610612736) lc_28 rfl rfl rfl
theorem lc_30 : lcP 1073741824 1 3221225472 := lc_dbl (k := 536870912) (k2 := 1073741824) (A := 2147483649) (C := 1610612736) (A' := 1) (C' := 3221225472) lc_29 rfl rfl rfl
/-- the place drawn: column and row -/
def lcX (d : Nat) : Nat := d / 65536 % 4
def lcY (d : Nat) : Nat := d / 65536 % 3
theorem lc_x16 {d : Nat} (hd : d < 4294967296) : lcX (lcI 65536 d) ≠ lcX d := by
  rw [lc_16 d, show 3752067073 * d + 556990464 = 65536 * (4 * (14313 * d) + 8499) + d by omega]
  generalize 14313 * d = u
  unfold lcX
  omega
theorem lc_30e {d : Nat} (hd : d < 4294967296) : lcI 1073741824 d = (d + 3221225472) % 4294967296 := by
  rw [lc_30 d, Nat.one_mul]
theorem lc_x30 {d : Nat} (hd : d < 4294967296) : lcX (lcI 1073741824 d) = lcX d := by
  rw [lc_30e hd]
  unfold lcX
  omega
theorem lcI_lt (k : Nat) : ∀ {d : Nat}, d < 4294967296 → lcI k d < 4294967296 := by
  induction k with
  | zero =>
    intro d h
    rw [lcI_z]
    exact h
  | succ k ih =>
    intro d h
    rw [lcI_s]
    exact ih (lcF_lt d)
theorem lcI_lt1 (k d : Nat) : lcI (k + 1) d < 4294967296 := by
  rw [lcI_s]
  exact lcI_lt k (lcF_lt d)
theorem lc_x30m (m : Nat) : ∀ {d : Nat}, d < 4294967296 → lcX (lcI (1073741824 * m) d) = lcX d := by
  induction m with
  | zero =>
    intro d _
    rw [Nat.mul_zero, lcI_z]
  | succ m ih =>
    intro d hd
    rw [Nat.mul_succ, lcI_add, lc_x30 (lcI_lt _ hd)]
    exact ih hd
theorem lc_q (d : Nat) : (d + 3221225472) % 4294967296 / 65536 = (d / 65536 + 49152) % 65536 := by omega
theorem lc_v {v y : Nat} (hv : v < 65536) (hy : y < 3) (h0 : ¬ v % 3 = y) (h1 : ¬ (v + 49152) % 65536 % 3 = y) (h2 : ¬ ((v + 49152) % 65536 + 49152) % 65536 % 3 = y) : (((v + 49152) % 65536 + 49152) % 65536 + 49152) % 65536 % 3 = y := by
  by_cases a : v < 16384
  · have e1 : (v + 49152) % 65536 = v + 49152 := by omega
    rw [e1] at h1 h2 ⊢
    have e2 : (v + 49152 + 49152) % 65536 = v + 32768 := by omega
    rw [e2] at h2 ⊢
    omega
  by_cases b : v < 32768
  · have e1 : (v + 49152) % 65536 = v - 16384 := by omega
    rw [e1] at h1 h2 ⊢
    have e2 : (v - 16384 + 49152) % 65536 = v + 32768 := by omega
    rw [e2] at h2 ⊢
    omega
  obtain ⟨w, rfl⟩ : ∃ w, v = w + 32768 := ⟨v - 32768, by omega⟩
  rw [show (w + 32768 + 49152) % 65536 = w + 16384 by omega] at h1 h2
  rw [show (w + 16384 + 49152) % 65536 = w by omega] at h2
  rw [show (w + 32768) % 3 = (w + 2) % 3 by omega] at h0
  rw [show (w + 16384) % 3 = (w + 1) % 3 by omega] at h1
  exact absurd hy (by omega)
theorem lc_y30 {d y : Nat} (hd : d < 4294967296) (hy : y < 3) : ∃ m, m < 4 ∧ lcY (lcI (1073741824 * m) d) = y := by
  have e0 : lcI (1073741824 * 0) d = d := by rw [Nat.mul_zero, lcI_z]
  have e1 : lcI (1073741824 * 1) d = (d + 3221225472) % 4294967296 := by rw [Nat.mul_one, lc_30e hd]
  have e2 : lcI (1073741824 * 2) d = ((d + 3221225472) % 4294967296 + 3221225472) % 4294967296 := by
    rw [show 1073741824 * 2 = 1073741824 * 1 + 1073741824 from rfl, lcI_add, e1, lc_30e (Nat.mod_lt _ (by decide))]
  have e3 : lcI (1073741824 * 3) d = (((d + 3221225472) % 4294967296 + 3221225472) % 4294967296 + 3221225472) % 4294967296 := by
    rw [show 1073741824 * 3 = 1073741824 * 2 + 1073741824 from rfl, lcI_add, e2, lc_30e (Nat.mod_lt _ (by decide))]
  by_cases h0 : d / 65536 % 3 = y
  · exact ⟨0, by decide, by rw [e0]; exact h0⟩
  by_cases h1 : (d + 3221225472) % 4294967296 / 65536 % 3 = y
  · exact ⟨1, by decide, by rw [e1]; exact h1⟩
  by_cases h2 : ((d + 3221225472) % 4294967296 + 3221225472) % 4294967296 / 65536 % 3 = y
  · exact ⟨2, by decide, by rw [e2]; exact h2⟩
  refine ⟨3, by decide, ?_⟩
  rw [e3]
  unfold lcY
  rw [lc_q] at h1
  rw [lc_q, lc_q] at h2
  rw [lc_q, lc_q, lc_q]
  exact lc_v (by omega) hy h0 h1 h2
theorem five_4 : ∀ a b c d e : Fin 4, a = b ∨ a = c ∨ a = d ∨ a = e ∨ b = c ∨ b = d ∨ b = e ∨ c = d ∨ c = e ∨ d = e := by decide +kernel
/-- among the first draws one is a new place -/
theorem lc_new {P : Nat} (hP : P ≤ 4) (d : Nat) (px py : Nat → Nat) : ∃ j, j ≤ 2147483648 ∧ ∀ p, p < P → ¬ (px p = lcX (lcI (2 * j + 1) d) ∧ py p = lcY (lcI (2 * j + 2) d)) := by
  refine Classical.byContradiction (fun hn => ?_)
  have H : ∀ j, j ≤ 2147483648 → ∃ p, p < P ∧ px p = lcX (lcI (2 * j + 1) d) ∧ py p = lcY (lcI (2 * j + 2) d) := fun j hj => by
    refine Classical.byContradiction (fun h2 => hn ⟨j, hj, fun p hp h3 => h2 ⟨p, hp, h3⟩⟩)
  have K : ∀ ε y, ε < 2 → y < 3 → ∃ p, p < 4 ∧ px p = lcX (lcI (65536 * ε) (lcF d)) ∧ py p = y := fun ε y he hy => by
    obtain ⟨m, hm, em⟩ := lc_y30 (d := lcI (2 + 65536 * ε) d) (by rw [show 2 + 65536 * ε = (1 + 65536 * ε) + 1 by omega]; exact lcI_lt1 _ _) hy
    obtain ⟨p, p1, p2, p3⟩ := H (32768 * ε + 536870912 * m) (by omega)
    refine ⟨p, by omega, ?_, ?_⟩
    · rw [p2, show 2 * (32768 * ε + 536870912 * m) + 1 = 1 + (65536 * ε + 1073741824 * m) by omega, lcI_add 1, lcI_1, lcI_add (65536 * ε)]
      exact lc_x30m m (lcI_lt _ (lcF_lt d))
    · rw [p3, show 2 * (32768 * ε + 536870912 * m) + 2 = (2 + 65536 * ε) + 1073741824 * m by omega, lcI_add (2 + 65536 * ε)]
      exact em
  have hne : lcX (lcI (65536 * 1) (lcF d)) ≠ lcX (lcI (65536 * 0) (lcF d)) := by rw [Nat.mul_one, Nat.mul_zero, lcI_z]; exact lc_x16 (lcF_lt d)
  obtain ⟨a, a1, a2, a3⟩ := K 0 0 (by decide) (by decide)
  obtain ⟨b, b1, b2, b3⟩ := K 0 1 (by decide) (by decide)
  obtain ⟨c, c1, c2, c3⟩ := K 0 2 (by decide) (by decide)
  obtain ⟨e, e1, e2, e3⟩ := K 1 0 (by decide) (by decide)
  obtain ⟨f, f1, f2, f3⟩ := K 1 1 (by decide) (by decide)
  have ny : ∀ {p q : Nat}, py p ≠ py q → p ≠ q := fun h h2 => h (by rw [h2])
  have nx : ∀ {p q : Nat}, px p ≠ px q → p ≠ q := fun h h2 => h (by rw [h2])
  have n1 : px e ≠ px a := by rw [e2, a2]; exact hne
  have n2 : px e ≠ px b := by rw [e2, b2]; exact hne
  have n3 : px e ≠ px c := by rw [e2, c2]; exact hne
  have n4 : px f ≠ px a := by rw [f2, a2]; exact hne
  have n5 : px f ≠ px b := by rw [f2, b2]; exact hne
  have n6 : px f ≠ px c := by rw [f2, c2]; exact hne
  have ab := ny (p := a) (q := b) (by rw [a3, b3]; decide)
  have ac := ny (p := a) (q := c) (by rw [a3, c3]; decide)
  have bc := ny (p := b) (q := c) (by rw [b3, c3]; decide)
  have ef := ny (p := e) (q := f) (by rw [e3, f3]; decide)
  rcases five_4 ⟨a, a1⟩ ⟨b, b1⟩ ⟨c, c1⟩ ⟨e, e1⟩ ⟨f, f1⟩ with h | h | h | h | h | h | h | h | h | h
  · exact ab (Fin.mk.inj h)
  · exact ac (Fin.mk.inj h)
  · exact nx n1 (Fin.mk.inj h).symm
  · exact nx n4 (Fin.mk.inj h).symm
  · exact bc (Fin.mk.inj h)
  · exact nx n2 (Fin.mk.inj h).symm
  · exact nx n5 (Fin.mk.inj h).symm
  · exact nx n3 (Fin.mk.inj h).symm
  · exact nx n6 (Fin.mk.inj h).symm
  · exact ef (Fin.mk.inj h)

