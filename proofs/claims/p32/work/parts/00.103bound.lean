/-! how large a determinant is: columns of a graph have determinants 0, 1, -1; sums of such by their weights -/
theorem md_D_zero (R : List Nat) (pre post : List md_V) (v : md_V) (h : ∀ r ∈ R, v r = 0) : md_D R (pre ++ v :: post) = 0 := by
  have h1 := md_on_ins R pre post v (fun r => 0 * v r + 0 * v r) (fun r hr => by rw [h r hr]; rfl)
  have h2 := md_lin_ins R pre post 0 0 v v
  have h3 := h1.trans h2
  simp only [Int.zero_mul, Int.add_zero] at h3
  exact h3
theorem md_D_rowmove (R2 : List Nat) (r : Nat) : ∀ (R1 : List Nat) (c : List md_V), md_D (R1 ++ r :: R2) c = md_sg R1.length * md_D (r :: (R1 ++ R2)) c
  | [], c => by simp [md_sg]
  | t :: R1, c => by
    have e : md_D (R1 ++ r :: R2) = fun l => md_sg R1.length * md_D (r :: (R1 ++ R2)) l := funext (md_D_rowmove R2 r R1)
    have e2 : md_D (t :: r :: (R1 ++ R2)) c = - md_D (r :: t :: (R1 ++ R2)) c := md_D_row [] (R1 ++ R2) t r c
    simp only [List.cons_append, List.length_cons]
    show md_alt (fun v => v t) c (md_D (R1 ++ r :: R2)) = _
    rw [e, md_alt_smul]
    show md_sg R1.length * md_D (t :: r :: (R1 ++ R2)) c = _
    rw [e2]
    simp only [md_sg]
    grind
theorem md_sg_abs : ∀ n, md_sg n = 1 ∨ md_sg n = -1
  | 0 => Or.inl rfl
  | n + 1 => by
    simp only [md_sg]
    rcases md_sg_abs n with h | h <;> rw [h]
    · exact Or.inr rfl
    · exact Or.inl rfl
def md_le1 (x : Int) : Prop := x = 0 ∨ x = 1 ∨ x = -1
theorem md_le1_neg {x : Int} (h : md_le1 x) : md_le1 (-x) := by
  rcases h with rfl | rfl | rfl
  · exact Or.inl rfl
  · exact Or.inr (Or.inr rfl)
  · exact Or.inr (Or.inl rfl)
theorem md_le1_sg {x : Int} (n : Nat) (h : md_le1 x) : md_le1 (md_sg n * x) := by
  rcases md_sg_abs n with e | e <;> rw [e]
  · rw [Int.one_mul]; exact h
  · have : -1 * x = -x := by omega
    rw [this]; exact md_le1_neg h
theorem md_le1_mul {x y : Int} (h : md_le1 x) (q : md_le1 y) : md_le1 (x * y) := by
  rcases h with rfl | rfl | rfl
  · rw [Int.zero_mul]; exact Or.inl rfl
  · rw [Int.one_mul]; exact q
  · have : -1 * y = -y := by omega
    rw [this]; exact md_le1_neg q
/-- a column of a graph: at most one 1, at most one -1 -/
def md_net (R : List Nat) (v : md_V) : Prop := (∀ r ∈ R, md_le1 (v r)) ∧ (∀ r ∈ R, ∀ s ∈ R, v r = 1 → v s = 1 → r = s) ∧ (∀ r ∈ R, ∀ s ∈ R, v r = -1 → v s = -1 → r = s)
theorem md_net_sub {R R' : List Nat} {v : md_V} (h : md_net R v) (hs : ∀ r ∈ R', r ∈ R) : md_net R' v := ⟨fun r hr => h.1 r (hs r hr), fun r hr s q => h.2.1 r (hs r hr) s (hs s q), fun r hr s q => h.2.2 r (hs r hr) s (hs s q)⟩
def md_su (R : List Nat) (v : md_V) : Int := match R with
  | [] => 0
  | r :: R => v r + md_su R v
theorem md_su_none : ∀ (R : List Nat) (v : md_V), (∀ r ∈ R, v r = 0) → md_su R v = 0
  | [], _, _ => rfl
  | r :: R, v, h => by
    simp only [md_su]
    rw [h r List.mem_cons_self, md_su_none R v (fun s hs => h s (List.mem_cons_of_mem _ hs))]
    rfl
theorem md_su_one : ∀ (R : List Nat) (v : md_V) (r : Nat), R.Nodup → r ∈ R → (∀ s ∈ R, s ≠ r → v s = 0) → md_su R v = v r
  | t :: R, v, r, hn, hr, h => by
    have hn' := List.nodup_cons.mp hn
    simp only [md_su]
    by_cases e : t = r
    · subst e
      rw [md_su_none R v (fun s hs => h s (List.mem_cons_of_mem _ hs) (fun q => hn'.1 (q ▸ hs)))]
      omega
    · rw [h t List.mem_cons_self e, md_su_one R v r hn'.2 (by rcases List.mem_cons.mp hr with q | q; exact absurd q.symm e; exact q) (fun s hs => h s (List.mem_cons_of_mem _ hs))]
      omega
theorem md_su_two : ∀ (R : List Nat) (v : md_V) (r s : Nat), R.Nodup → r ∈ R → s ∈ R → r ≠ s → (∀ t ∈ R, t ≠ r → t ≠ s → v t = 0) → md_su R v = v r + v s
  | t :: R, v, r, s, hn, hr, hs, hne, h => by
    have hn' := List.nodup_cons.mp hn
    simp only [md_su]
    by_cases e : t = r
    · subst e
      have hs' : s ∈ R := by rcases List.mem_cons.mp hs with q | q; exact absurd q.symm hne; exact q
      rw [md_su_one R v s hn'.2 hs' (fun q hq h2 => h q (List.mem_cons_of_mem _ hq) (fun z => hn'.1 (z ▸ hq)) h2)]
    · by_cases e2 : t = s
      · subst e2
        have hr' : r ∈ R := by rcases List.mem_cons.mp hr with q | q; exact absurd q hne; exact q
        rw [md_su_one R v r hn'.2 hr' (fun q hq h2 => h q (List.mem_cons_of_mem _ hq) h2 (fun z => hn'.1 (z ▸ hq)))]
        omega
      · rw [h t List.mem_cons_self e e2, md_su_two R v r s hn'.2 (by rcases List.mem_cons.mp hr with q | q; exact absurd q.symm e; exact q) (by rcases List.mem_cons.mp hs with q | q; exact absurd q.symm e2; exact q) hne (fun q hq => h q (List.mem_cons_of_mem _ hq))]
        omega
theorem md_su_Z : ∀ (R R' : List Nat), (∀ r ∈ R', r ∈ R) → md_Z R (md_su R')
  | R, [], _ => fun c => md_alt_uzero c _
  | R, r :: R', h => by
    intro c
    have h1 := md_Z_row R r (h r List.mem_cons_self) c
    have h2 := md_su_Z R R' (fun s hs => h s (List.mem_cons_of_mem _ hs)) c
    have e : md_su (r :: R') = fun v => v r - (-1) * md_su R' v := funext fun v => by
      simp only [md_su]
      omega
    rw [e, md_alt_uadd, md_alt_usmul, h1, h2]
    rfl
theorem md_alt_kill (u : md_V → Int) : ∀ (c : List md_V) (Ψ : List md_V → Int), (∀ v ∈ c, u v = 0) → md_alt u c Ψ = 0
  | [], _, _ => rfl
  | x :: c, Ψ, h => by
    simp only [md_alt]
    rw [h x List.mem_cons_self, md_alt_kill u c _ (fun v hv => h v (List.mem_cons_of_mem _ hv))]
    simp
theorem md_tu : ∀ (k : Nat) (R : List Nat), R.length = k → R.Nodup → ∀ c : List md_V, (∀ v ∈ c, md_net R v) → md_le1 (md_D R c)
  | 0, R, hk, _, c, _ => by
    have : R = [] := List.length_eq_zero_iff.mp hk
    subst this
    cases c with
    | nil => exact Or.inr (Or.inl rfl)
    | cons x c => exact Or.inl rfl
  | k + 1, R, hk, hn, c, hc => by
    by_cases h1 : ∃ v ∈ c, ∃ r ∈ R, v r ≠ 0 ∧ ∀ s ∈ R, s ≠ r → v s = 0
    · obtain ⟨v, hv, r, hr, h0, hz⟩ := h1
      obtain ⟨pre, post, rfl⟩ := List.append_of_mem hv
      obtain ⟨R1, R2, rfl⟩ := List.append_of_mem hr
      have hsub : ∀ s ∈ R1 ++ R2, s ∈ R1 ++ r :: R2 := fun s hs => by
        rcases List.mem_append.mp hs with q | q
        · exact List.mem_append_left _ q
        · exact List.mem_append_right _ (List.mem_cons_of_mem _ q)
      have hn2 : (R1 ++ R2).Nodup ∧ r ∉ R1 ++ R2 := by
        have := (List.perm_middle.nodup_iff).mp hn
        have := List.nodup_cons.mp this
        exact ⟨this.2, this.1⟩
      have hm := md_D_move (r :: (R1 ++ R2)) v pre [] post
      simp only [List.nil_append] at hm
      have hd : md_D (r :: (R1 ++ R2)) (v :: (pre ++ post)) = v r * md_D (R1 ++ R2) (pre ++ post) := by
        show md_alt (fun v => v r) (v :: (pre ++ post)) (md_D (R1 ++ R2)) = _
        simp only [md_alt]
        have e : (fun l => md_D (R1 ++ R2) (v :: l)) = fun _ => 0 := funext fun l => md_D_zero (R1 ++ R2) [] l v (fun s hs => hz s (hsub s hs) (fun q => hn2.2 (q ▸ hs)))
        rw [e, md_alt_zero]
        omega
      have ih := md_tu k (R1 ++ R2) (by simp at hk ⊢; omega) hn2.1 (pre ++ post) (fun w hw => md_net_sub (hc w (by
        rcases List.mem_append.mp hw with q | q
        · exact List.mem_append_left _ q
        · exact List.mem_append_right _ (List.mem_cons_of_mem _ q))) hsub)
      have hvr : md_le1 (v r) := (hc v (List.mem_append_right _ List.mem_cons_self)).1 r hr
      rw [md_D_rowmove]
      refine md_le1_sg _ ?_
      have h2 : md_D (r :: (R1 ++ R2)) (pre ++ v :: post) = md_sg pre.length * (v r * md_D (R1 ++ R2) (pre ++ post)) := by
        rw [← hd, hm, ← Int.mul_assoc, md_sg2, Int.one_mul]
      rw [h2]
      exact md_le1_sg _ (md_le1_mul hvr ih)
    · have hs : ∀ v ∈ c, md_su R v = 0 := by
        intro v hv
        have hnv := hc v hv
        by_cases hp : ∃ r ∈ R, v r = 1
        · obtain ⟨r, hr, er⟩ := hp
          by_cases hq : ∃ s ∈ R, v s = -1
          · obtain ⟨s, hs, es⟩ := hq
            rw [md_su_two R v r s hn hr hs (fun q => by rw [q, es] at er; cases er) (fun t ht h2 h3 => by
              rcases hnv.1 t ht with q | q | q
              · exact q
              · exact absurd (hnv.2.1 t ht r hr q er) h2
              · exact absurd (hnv.2.2 t ht s hs q es) h3), er, es]
            rfl
          · exact absurd ⟨v, hv, r, hr, by rw [er]; decide, fun s hs h2 => by
              rcases hnv.1 s hs with q | q | q
              · exact q
              · exact absurd (hnv.2.1 s hs r hr q er) h2
              · exact absurd ⟨s, hs, q⟩ hq⟩ h1
        · by_cases hq : ∃ s ∈ R, v s = -1
          · obtain ⟨s, hs, es⟩ := hq
            exact absurd ⟨v, hv, s, hs, by rw [es]; decide, fun t ht h2 => by
              rcases hnv.1 t ht with q | q | q
              · exact q
              · exact absurd ⟨t, ht, q⟩ hp
              · exact absurd (hnv.2.2 t ht s hs q es) h2⟩ h1
          · exact md_su_none R v (fun t ht => by
              rcases hnv.1 t ht with q | q | q
              · exact q
              · exact absurd ⟨t, ht, q⟩ hp
              · exact absurd ⟨t, ht, q⟩ hq)
      cases R with
      | nil => cases hk
      | cons r R =>
        have hz := md_su_Z (r :: R) (r :: R) (fun _ h => h) ((fun j => if j = r then 1 else 0) :: c)
        simp only [md_alt] at hz
        rw [md_alt_kill _ c _ hs] at hz
        have hn' := List.nodup_cons.mp hn
        have e : md_su (r :: R) (fun j => if j = r then 1 else 0) = 1 := by
          simp only [md_su]
          rw [md_su_none R _ (fun s hs => by
            have : s ≠ r := fun q => hn'.1 (q ▸ hs)
            simp [this])]
          simp
        rw [e] at hz
        exact Or.inl (by omega)
/-- a column of weight w: as a sum of w columns of a graph, for all that is linear -/
def md_W (R : List Nat) (v : md_V) (w : Nat) : Prop := ∀ u : md_V → Int, md_lin u → md_on R u → ∀ B : Nat, (∀ x, md_net R x → (u x).natAbs ≤ B) → (u v).natAbs ≤ w * B
theorem md_W_net {R : List Nat} {v : md_V} (h : md_net R v) : md_W R v 1 := fun u _ _ B hB => by
  rw [Nat.one_mul]
  exact hB v h
theorem md_W_le {R : List Nat} {v : md_V} {w w' : Nat} (h : md_W R v w) (hw : w ≤ w') : md_W R v w' := fun u h1 h2 B hB => Nat.le_trans (h u h1 h2 B hB) (Nat.mul_le_mul_right _ hw)
theorem md_W_on {R : List Nat} {v v' : md_V} {w : Nat} (h : md_W R v w) (e : ∀ r ∈ R, v' r = v r) : md_W R v' w := fun u h1 h2 B hB => by
  rw [h2 v' v e]
  exact h u h1 h2 B hB
theorem md_W_lin {R : List Nat} {x y : md_V} {a b : Nat} (hx : md_W R x a) (hy : md_W R y b) (k q : Int) : md_W R (fun r => k * x r + q * y r) (k.natAbs * a + q.natAbs * b) := fun u h1 h2 B hB => by
  rw [h1 k q x y]
  have e1 := hx u h1 h2 B hB
  have e2 := hy u h1 h2 B hB
  refine Nat.le_trans (Int.natAbs_add_le _ _) ?_
  rw [Int.natAbs_mul, Int.natAbs_mul, Nat.add_mul, Nat.mul_assoc, Nat.mul_assoc]
  exact Nat.add_le_add (Nat.mul_le_mul_left _ e1) (Nat.mul_le_mul_left _ e2)
theorem md_W_zero {R : List Nat} : md_W R (fun _ => 0) 0 := fun u h1 h2 B hB => by
  have h := h1 0 0 (fun _ => 0) (fun _ => 0)
  simp at h
  have e : u (fun _ => 0) = 0 := by
    have e0 : (fun r : Nat => (0 : Int)) = fun _ => 0 := rfl
    omega
  rw [e]
  simp
def md_P : List Nat → Nat
  | [] => 1
  | w :: l => w * md_P l
theorem md_bound {R : List Nat} (hn : R.Nodup) : ∀ (cw : List (md_V × Nat)) (pre : List md_V), (∀ v ∈ pre, md_net R v) → (∀ q ∈ cw, md_W R q.1 q.2) → (md_D R (pre ++ cw.map (fun q => q.1))).natAbs ≤ md_P (cw.map (fun q => q.2))
  | [], pre, hp, _ => by
    have h := md_tu R.length R rfl hn pre hp
    simp only [List.map_nil, List.append_nil, md_P]
    rcases h with e | e | e <;> rw [e] <;> decide
  | (v, w) :: cw, pre, hp, hw => by
    simp only [List.map_cons, md_P]
    refine hw (v, w) List.mem_cons_self (fun x => md_D R (pre ++ x :: cw.map (fun q => q.1))) (md_lin_ins R pre _) (md_on_ins R pre _) (md_P (cw.map (fun q => q.2))) (fun x hx => ?_)
    have h := md_bound hn cw (pre ++ [x]) (fun y hy => by
      rcases List.mem_append.mp hy with q | q
      · exact hp y q
      · rw [List.mem_singleton.mp q]; exact hx) (fun q hq => hw q (List.mem_cons_of_mem _ hq))
    simp only [List.append_assoc, List.cons_append, List.nil_append] at h
    exact h
