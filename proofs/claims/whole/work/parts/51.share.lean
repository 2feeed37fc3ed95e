/-! SHARES -/
theorem am_forG {σ : Type} {Cl : Nat → List am_V → am_M → Option am_V → am_M → Prop} {cd : am_C} {Q : Option am_V → am_M → Prop} (hd : Nat) (loc : σ → am_L) (P : Nat → σ → am_F → Prop) (n : Nat) (step : ∀ i s M, i < n → P i s M → (∀ s' M', P (i + 1) s' M' → am_wp Cl cd Q hd (loc s') [] (am_S M')) → am_wp Cl cd Q hd (loc s) [] (am_S M)) (fin : ∀ s M, P n s M → am_wp Cl cd Q hd (loc s) [] (am_S M)) (i : Nat) (s : σ) (M : am_F) (hi : i ≤ n) (hP : P i s M) : am_wp Cl cd Q hd (loc s) [] (am_S M) := by
  induction hk : n - i generalizing i s M with
  | zero =>
    have : i = n := by omega
    subst this
    exact fin s M hP
  | succ k ih => exact step i s M (by omega) hP (fun s' M' h => ih (i + 1) s' M' (by omega) h (by omega))
def sumN (g : Nat → Int32) : Nat → Int32
  | 0 => 0
  | i + 1 => sumN g i + g i
def sumO (g : Nat → Int32) (o : Nat → Nat) : Nat → Int32
  | 0 => 0
  | k + 1 => sumO g o k + g (o k)
def SLs (g : Nat → Int32) : List Nat → Int32
  | [] => 0
  | x :: t => SLs g t + g x
theorem SLs_ins (g r : Nat → Int32) (i : Nat) (l : List Nat) : SLs g (insR r i l) = SLs g l + g i := by
  induction l with
  | nil => rfl
  | cons x t ih =>
    unfold insR
    split
    · show SLs g (insR r i t) + g x = SLs g t + g x + g i
      rw [ih]
      lia
    · rfl
theorem SLs_so (g r : Nat → Int32) (n : Nat) : SLs g (so r n) = sumN g n := by
  induction n with
  | zero => rfl
  | succ n ih =>
    unfold so
    rw [SLs_ins, ih]
    rfl
theorem sumO_l (g : Nat → Int32) (l : List Nat) (o : Nat → Nat) (h : ∀ k, k < l.length → o k = l.reverse.getD k 0) : sumO g o l.length = SLs g l := by
  induction l with
  | nil => rfl
  | cons x t ih =>
    show sumO g o t.length + g (o t.length) = SLs g t + g x
    rw [ih (fun k hk => ?_), h t.length (by simp)]
    · congr 2
      simp
    · rw [h k (by simp; omega), List.reverse_cons, List.getD_eq_getElem?_getD, List.getD_eq_getElem?_getD, List.getElem?_append_left (by simp; exact hk)]
theorem sumO_odr (g a : Nat → Int32) (n : Nat) : sumO g (odr a n) n = sumN g n := by
  have h := sumO_l g (so (fun j => a (10 + 8 * j + 3)) n) (odr a n) (fun k _ => rfl)
  rw [so_len, SLs_so] at h
  exact h
theorem sumN_b {g : Nat → Int32} {n B d : Nat} (h : ∀ i, i < n → ∃ c, c ≤ B ∧ g i = nI c ∧ (i = d → 1 ≤ c)) : ∃ c, c ≤ B * n ∧ sumN g n = nI c ∧ (d < n → 1 ≤ c) := by
  induction n with
  | zero => exact ⟨0, by omega, nI_0.symm, fun q => by omega⟩
  | succ n ih =>
    obtain ⟨c, c1, c2, c3⟩ := ih (fun i hi => h i (by omega))
    obtain ⟨e, e1, e2, e3⟩ := h n (by omega)
    refine ⟨c + e, ?_, ?_, fun q => ?_⟩
    · rw [Nat.mul_add, Nat.mul_one]; omega
    · show sumN g n + g n = _
      rw [c2, e2, nI_add]
    · by_cases hd : n = d
      · have := e3 hd; omega
      · have := c3 (by omega); omega
def sg (a : Nat → Int32) (d : Nat) (f : Nat → Int32) : Nat → Int32 := fun i => if a (10 + 8 * i + 5) = a (10 + 8 * d + 5) then f i else 0
theorem c_evenShare (d n m i : Nat) (o : Nat → Nat) (a : Nat → Int32) (z : Int32) (M : am_F) (hn : n ≤ 8) (hi : i < n) (hB : RB M 0 n m o a) (h0 : sumN (sg a i (fun _ => 1)) n ≠ 0) : am_cl am_cds (d + 1) 15 [.inr (.inr (16, 0, 0)), .inl (nI i), .inl z] (am_S M) (some (.inl (z / sumN (sg a i (fun _ => 1)) n))) (am_S M) := by
  refine am_cl_in am_c15 rfl ?_
  iterate 4 refine am_wp_step _ rfl ?_
  refine am_for2 4 (fun x y => [(0, .inr (.inr (16, 0, 0))), (1, .inl (nI i)), (2, .inl z), (3, .inl x), (4, .inl y)]) (fun k x y M1 => y = nI k ∧ x = sumN (sg a i (fun _ => 1)) k ∧ M1 = M) n ?_ ?_ 0 0 0 M (Nat.zero_le _) ⟨nI_0.symm, rfl, rfl⟩
  · intro k x y M1 hk hP K
    obtain ⟨hy, hx, rfl⟩ := hP
    subst hy
    have e1 : M1 18 0 k 5 = a (10 + 8 * k + 5) := RB_gv hk (by decide) hB
    have e2 : M1 18 0 i 5 = a (10 + 8 * i + 5) := RB_gv hi (by decide) hB
    iterate 4 refine am_wp_step _ rfl ?_
    refine am_iteF (by show ¬ M1 16 0 0 1 ≤ nI k; rw [hB.1]; exact nI_ge hk (by omega)) ?_
    iterate 5 refine am_wp_step _ rfl ?_
    refine am_ixN (k) (rfl) (show _ < 8 by omega) (show (8 : Nat) < 2 ^ 31 by decide) (fun e => ?_); rw [e]
    iterate 5 refine am_wp_step _ rfl ?_
    refine am_ixN (i) (rfl) (show _ < 8 by omega) (show (8 : Nat) < 2 ^ 31 by decide) (fun e => ?_); rw [e]
    iterate 2 refine am_wp_step _ rfl ?_
    refine am_ite (fun h => ?_) (fun h => ?_)
    · have h : M1 18 0 k 5 ≠ M1 18 0 i 5 := h
      rw [e1, e2] at h
      iterate 5 refine am_wp_step _ rfl ?_
      refine K _ _ _ ⟨nI_1 k, ?_, rfl⟩
      show x + 0 = sumN (sg a i (fun _ => 1)) k + sg a i (fun _ => 1) k
      unfold sg
      rw [if_neg h, hx]
      rfl
    · have h : ¬ M1 18 0 k 5 ≠ M1 18 0 i 5 := h
      rw [e1, e2] at h
      iterate 6 refine am_wp_step _ rfl ?_
      refine K _ _ _ ⟨nI_1 k, ?_, rfl⟩
      show x + 1 = sumN (sg a i (fun _ => 1)) k + sg a i (fun _ => 1) k
      unfold sg
      rw [if_pos (Decidable.not_not.mp h), hx]
      rfl
  · intro x y M1 hP
    obtain ⟨hy, hx, rfl⟩ := hP
    subst hy
    iterate 4 refine am_wp_step _ rfl ?_
    refine am_iteT (by show M1 16 0 0 1 ≤ nI n; rw [hB.1]; exact nI_le (Nat.le_refl _) (by omega)) ?_
    iterate 2 refine am_wp_step _ rfl ?_
    refine am_iteT (by rw [hx]; exact h0) ?_
    iterate 3 refine am_wp_step _ rfl ?_
    refine ⟨by rw [hx]; exact h0, ?_⟩
    iterate 1 refine am_wp_step _ rfl ?_
    exact ⟨trivial, by rw [hx], rfl⟩
theorem c_rankShare (d n m i : Nat) (o : Nat → Nat) (a : Nat → Int32) (z : Int32) (M : am_F) (hn : n ≤ 8) (hi : i < n) (hB : RB M 0 n m o a) (h0 : sumN (sg a i (fun k => a (10 + 8 * k + 3) + 1)) n ≠ 0) : am_cl am_cds (d + 1) 16 [.inr (.inr (16, 0, 0)), .inl (nI i), .inl z] (am_S M) (some (.inl (z * (a (10 + 8 * i + 3) + 1) / sumN (sg a i (fun k => a (10 + 8 * k + 3) + 1)) n))) (am_S M) := by
  refine am_cl_in am_c16 rfl ?_
  iterate 4 refine am_wp_step _ rfl ?_
  refine am_for2 4 (fun x y => [(0, .inr (.inr (16, 0, 0))), (1, .inl (nI i)), (2, .inl z), (3, .inl x), (4, .inl y)]) (fun k x y M1 => y = nI k ∧ x = sumN (sg a i (fun k => a (10 + 8 * k + 3) + 1)) k ∧ M1 = M) n ?_ ?_ 0 0 0 M (Nat.zero_le _) ⟨nI_0.symm, rfl, rfl⟩
  · intro k x y M1 hk hP K
    obtain ⟨hy, hx, rfl⟩ := hP
    subst hy
    have e1 : M1 18 0 k 5 = a (10 + 8 * k + 5) := RB_gv hk (by decide) hB
    have e2 : M1 18 0 i 5 = a (10 + 8 * i + 5) := RB_gv hi (by decide) hB
    have e3 : M1 18 0 k 3 = a (10 + 8 * k + 3) := RB_gv hk (by decide) hB
    iterate 4 refine am_wp_step _ rfl ?_
    refine am_iteF (by show ¬ M1 16 0 0 1 ≤ nI k; rw [hB.1]; exact nI_ge hk (by omega)) ?_
    iterate 5 refine am_wp_step _ rfl ?_
    refine am_ixN (k) (rfl) (show _ < 8 by omega) (show (8 : Nat) < 2 ^ 31 by decide) (fun e => ?_); rw [e]
    iterate 5 refine am_wp_step _ rfl ?_
    refine am_ixN (i) (rfl) (show _ < 8 by omega) (show (8 : Nat) < 2 ^ 31 by decide) (fun e => ?_); rw [e]
    iterate 2 refine am_wp_step _ rfl ?_
    refine am_ite (fun h => ?_) (fun h => ?_)
    · have h : M1 18 0 k 5 ≠ M1 18 0 i 5 := h
      rw [e1, e2] at h
      iterate 5 refine am_wp_step _ rfl ?_
      refine K _ _ _ ⟨nI_1 k, ?_, rfl⟩
      show x + 0 = sumN (sg a i (fun k => a (10 + 8 * k + 3) + 1)) k + sg a i (fun k => a (10 + 8 * k + 3) + 1) k
      unfold sg
      rw [if_neg h, hx]
      rfl
    · have h : ¬ M1 18 0 k 5 ≠ M1 18 0 i 5 := h
      rw [e1, e2] at h
      iterate 4 refine am_wp_step _ rfl ?_
      refine am_ixN (k) (rfl) (show _ < 8 by omega) (show (8 : Nat) < 2 ^ 31 by decide) (fun e => ?_); rw [e]
      iterate 8 refine am_wp_step _ rfl ?_
      refine K _ _ _ ⟨nI_1 k, ?_, rfl⟩
      show x + (M1 18 0 k 3 + 1) = sumN (sg a i (fun k => a (10 + 8 * k + 3) + 1)) k + sg a i (fun k => a (10 + 8 * k + 3) + 1) k
      unfold sg
      rw [if_pos (Decidable.not_not.mp h), hx, e3]
      rfl
  · intro x y M1 hP
    obtain ⟨hy, hx, rfl⟩ := hP
    subst hy
    have e3 : M1 18 0 i 3 = a (10 + 8 * i + 3) := RB_gv hi (by decide) hB
    iterate 4 refine am_wp_step _ rfl ?_
    refine am_iteT (by show M1 16 0 0 1 ≤ nI n; rw [hB.1]; exact nI_le (Nat.le_refl _) (by omega)) ?_
    iterate 2 refine am_wp_step _ rfl ?_
    refine am_iteT (by rw [hx]; exact h0) ?_
    iterate 5 refine am_wp_step _ rfl ?_
    refine am_ixN (i) (rfl) (show _ < 8 by omega) (show (8 : Nat) < 2 ^ 31 by decide) (fun e => ?_); rw [e]
    iterate 6 refine am_wp_step _ rfl ?_
    refine ⟨by rw [hx]; exact h0, ?_⟩
    iterate 1 refine am_wp_step _ rfl ?_
    refine ⟨trivial, ?_, rfl⟩
    show some (Sum.inl (z * (M1 18 0 i 3 + 1) / x)) = _
    rw [hx, e3]
theorem c_orderShare (d n m i T : Nat) (o : Nat → Nat) (a : Nat → Int32) (z : Int32) (M : am_F) (hn : n ≤ 8) (hi : i < n) (ho : ∀ i, i < n → o i < n) (hB : RB M 0 n m o a) (hT : T < n) (hT1 : ∀ t, t < T → ¬ o t = i) (hT2 : o T = i) : am_cl am_cds (d + 2) 17 [.inr (.inr (16, 0, 0)), .inl (nI i), .inl z] (am_S M) (some (.inl (sp_max 0 (sp_min 3 (z - sumO (sg a i (fun _ => 3)) o T))))) (am_S M) := by
  refine am_cl_in am_c17 rfl ?_
  iterate 4 refine am_wp_step _ rfl ?_
  have e29 : ∀ k, k < n → M 29 0 0 k = nI (o k) := fun k hk => hB.2.2.2.2.2.2 k hk
  refine am_for2 4 (fun x y => [(0, .inr (.inr (16, 0, 0))), (1, .inl (nI i)), (2, .inl z), (3, .inl x), (4, .inl y)]) (fun k x y M1 => y = nI k ∧ x = z - sumO (sg a i (fun _ => 3)) o k ∧ M1 = M) T ?_ ?_ 0 _ 0 M (Nat.zero_le _) ⟨nI_0.symm, by show z = z - 0; lia, rfl⟩
  · intro k x y M1 hk hP K
    obtain ⟨hy, hx, rfl⟩ := hP
    subst hy
    have hok := ho k (by omega)
    have e1 : M1 18 0 (o k) 5 = a (10 + 8 * o k + 5) := RB_gv hok (by decide) hB
    have e2 : M1 18 0 i 5 = a (10 + 8 * i + 5) := RB_gv hi (by decide) hB
    iterate 4 refine am_wp_step _ rfl ?_
    refine am_iteF (by show ¬ M1 16 0 0 1 ≤ nI k; rw [hB.1]; exact nI_ge (by omega) (by omega)) ?_
    iterate 4 refine am_wp_step _ rfl ?_
    refine am_ixN (k) (rfl) (show _ < 8 by omega) (show (8 : Nat) < 2 ^ 31 by decide) (fun e => ?_); rw [e]
    rw [show (am_S M1).2.2 29 0 0 k = nI (o k) from e29 k (by omega)]
    iterate 2 refine am_wp_step _ rfl ?_
    refine am_iteF (fun q => hT1 k hk ((nI_eq (by omega) (by omega)).mp q)) ?_
    iterate 7 refine am_wp_step _ rfl ?_
    refine am_ixN (k) (rfl) (show _ < 8 by omega) (show (8 : Nat) < 2 ^ 31 by decide) (fun e => ?_); rw [e]
    rw [show (am_S M1).2.2 29 0 0 k = nI (o k) from e29 k (by omega)]
    iterate 1 refine am_wp_step _ rfl ?_
    refine am_ixN (o k) (rfl) (show _ < 8 by omega) (show (8 : Nat) < 2 ^ 31 by decide) (fun e => ?_); rw [e]
    iterate 5 refine am_wp_step _ rfl ?_
    refine am_ixN (i) (rfl) (show _ < 8 by omega) (show (8 : Nat) < 2 ^ 31 by decide) (fun e => ?_); rw [e]
    iterate 2 refine am_wp_step _ rfl ?_
    refine am_ite (fun h => ?_) (fun h => ?_)
    · have h : M1 18 0 (o k) 5 ≠ M1 18 0 i 5 := h
      rw [e1, e2] at h
      iterate 5 refine am_wp_step _ rfl ?_
      refine K _ _ _ ⟨nI_1 k, ?_, rfl⟩
      show x - 0 = z - (sumO (sg a i (fun _ => 3)) o k + sg a i (fun _ => 3) (o k))
      have : sg a i (fun _ => 3) (o k) = 0 := if_neg h
      rw [this, hx]
      generalize sumO (sg a i (fun _ => 3)) o k = q
      lia
    · have h : ¬ M1 18 0 (o k) 5 ≠ M1 18 0 i 5 := h
      rw [e1, e2] at h
      iterate 6 refine am_wp_step _ rfl ?_
      refine K _ _ _ ⟨nI_1 k, ?_, rfl⟩
      show x - 3 = z - (sumO (sg a i (fun _ => 3)) o k + sg a i (fun _ => 3) (o k))
      have : sg a i (fun _ => 3) (o k) = 3 := if_pos (Decidable.not_not.mp h)
      rw [this, hx]
      generalize sumO (sg a i (fun _ => 3)) o k = q
      lia
  · intro x y M1 hP
    obtain ⟨hy, hx, rfl⟩ := hP
    subst hy
    iterate 4 refine am_wp_step _ rfl ?_
    refine am_iteF (by show ¬ M1 16 0 0 1 ≤ nI T; rw [hB.1]; exact nI_ge (by omega) (by omega)) ?_
    iterate 4 refine am_wp_step _ rfl ?_
    refine am_ixN (T) (rfl) (show _ < 8 by omega) (show (8 : Nat) < 2 ^ 31 by decide) (fun e => ?_); rw [e]
    rw [show (am_S M1).2.2 29 0 0 T = nI (o T) from e29 T (by omega)]
    iterate 2 refine am_wp_step _ rfl ?_
    refine am_iteT (by rw [hT2]) ?_
    iterate 4 refine am_wp_step _ rfl ?_
    refine ⟨_, _, c_min _ _ _ _, ?_⟩
    iterate 1 refine am_wp_step _ rfl ?_
    refine ⟨_, _, c_max _ _ _ _, ?_⟩
    iterate 1 refine am_wp_step _ rfl ?_
    exact ⟨trivial, by rw [hx], rfl⟩
theorem jj_share (x y z : Int32) : JJ 99 202 [.inl x, .inl y, .inl z] := by
  intro M hR
  obtain ⟨n, m, a, ha, hG, hB, hab, hT0, hT1, hW4, hW5, hz, hbl, hBY, h288, hTC⟩ := RC_get hR; have hn := hB.1; have hm := hB.2.1; have hn8 := hG.1; have hm8 := hG.2.1; have hX0 := hG.2.2.2.2.2.2.1; have hX1 := hG.2.2.2.2.2.2.2; have ho : ∀ i, i < n → odr a n i < n := (fun i hi => odr_lt hi)
  by_cases hg : isN x n ∧ (1 ≤ y ∧ y ≤ 99) ∧ 0 ≤ z ∧ z ≤ 2
  · obtain ⟨i, hi, rfl⟩ := isN_ex hg.1 (by omega)
    obtain ⟨l, hl, rfl⟩ := wI_ex (b := 2) hg.2.2 (by decide)
    obtain ⟨T, hT0', hT1, hT2⟩ := stop (fun t => odr a n t = i) n
    have hTn : T < n := by
      rcases hT2 with q | q
      · obtain ⟨t, ht, ht2⟩ := odr_sur (a := a) hi
        exact absurd ht2 (hT1 t (by omega))
      · rcases Nat.lt_or_ge T n with r | r
        · exact r
        · obtain ⟨t, ht, ht2⟩ := odr_sur (a := a) hi
          exact absurd ht2 (hT1 t (by omega))
    have hT3 : odr a n T = i := hT2.resolve_left (by omega)
    have hsum1 : ∃ c, c ≤ 1 * n ∧ sumN (sg a i (fun _ => 1)) n = nI c ∧ (i < n → 1 ≤ c) := sumN_b fun k hk => by
      unfold sg
      by_cases h : a (10 + 8 * k + 5) = a (10 + 8 * i + 5)
      · exact ⟨1, by omega, if_pos h, fun _ => by omega⟩
      · exact ⟨0, by omega, if_neg h, fun q => absurd (by rw [q]) h⟩
    have hsum2 : ∃ c, c ≤ 10 * n ∧ sumN (sg a i (fun k => a (10 + 8 * k + 3) + 1)) n = nI c ∧ (i < n → 1 ≤ c) := sumN_b fun k hk => by
      unfold sg
      by_cases h : a (10 + 8 * k + 5) = a (10 + 8 * i + 5)
      · obtain ⟨r, hr, hre⟩ := wI_ex (b := 9) (hG.2.2.2.2.1 k hk).2.2.1 (by decide)
        exact ⟨r + 1, by omega, by rw [if_pos h]; show a (10 + 8 * k + 3) + 1 = _; rw [hre, nI_1], fun _ => by omega⟩
      · exact ⟨0, by omega, if_neg h, fun q => absurd (by rw [q]) h⟩
    have h1 : sumN (sg a i (fun _ => 1)) n ≠ 0 := by
      obtain ⟨c, c1, c2, c3⟩ := hsum1
      rw [c2]
      exact nI_ne0 (c3 hi) (by omega)
    have h2 : sumN (sg a i (fun k => a (10 + 8 * k + 3) + 1)) n ≠ 0 := by
      obtain ⟨c, c1, c2, c3⟩ := hsum2
      rw [c2]
      exact nI_ne0 (c3 hi) (by omega)
    refine JJ_q (v := if l = 0 then y / sumN (sg a i (fun _ => 1)) n else if l = 1 then y * (a (10 + 8 * i + 3) + 1) / sumN (sg a i (fun k => a (10 + 8 * k + 3) + 1)) n else sp_max 0 (sp_min 3 (y - sumO (sg a i (fun _ => 3)) (odr a n) T))) hR ⟨M, ?_, cS_rf⟩ (fun M1 e33 e26 => ?_)
    · refine am_cl_in am_c99 rfl ?_
      iterate 3 refine am_wp_step _ rfl ?_
      refine ⟨_, _, cl_t hg.1 (c_isDead _ _ _ hn), ?_⟩
      iterate 5 refine am_wp_step _ rfl ?_
      refine ⟨_, _, cl_t hg.2.1 (c_within _ _ _ _ _), ?_⟩
      iterate 5 refine am_wp_step _ rfl ?_
      refine ⟨_, _, cl_t hg.2.2 (c_within _ _ _ _ _), ?_⟩
      rcases (by omega : l = 0 ∨ l = 1 ∨ l = 2) with rfl | rfl | rfl
      · repeat' first | refine am_wp_step _ rfl ?_ | refine am_iteB (fun h => ?_) (fun h => ?_) | refine am_iteN (fun h => ?_) (fun h => ?_) | refine am_ite (fun h => ?_) (fun h => ?_) | refine ⟨_, _, c_evenShare _ n m i (odr a n) a y M hn8 hi hB h1, ?_⟩ | fail
        exact ⟨trivial, rfl, rfl⟩
      · repeat' first | refine am_wp_step _ rfl ?_ | refine am_iteB (fun h => ?_) (fun h => ?_) | refine am_iteN (fun h => ?_) (fun h => ?_) | refine am_ite (fun h => ?_) (fun h => ?_) | refine ⟨_, _, c_rankShare _ n m i (odr a n) a y M hn8 hi hB h2, ?_⟩ | fail
        exact ⟨trivial, rfl, rfl⟩
      · repeat' first | refine am_wp_step _ rfl ?_ | refine am_iteB (fun h => ?_) (fun h => ?_) | refine am_iteN (fun h => ?_) (fun h => ?_) | refine am_ite (fun h => ?_) (fun h => ?_) | refine ⟨_, _, c_orderShare _ n m i T (odr a n) a y M hn8 hi ho hB hTn hT1 hT3, ?_⟩ | fail
        exact ⟨trivial, rfl, rfl⟩
    · have ea : M1 33 0 0 = a := (by rw [e33]; exact ha); have en : M1 33 0 0 1 = nI n := (by rw [ea]; exact hG.2.2.1); have em : M1 33 0 0 2 = nI m := (by rw [ea]; exact hG.2.2.2.1)
      have hx : ∃ M2, am_cl am_cds 1000 202 [.inr (.inr (26, 0, 0)), .inl (nI i), .inl y, .inl (nI l)] (am_S M1) (some (.inl (if l = 0 then y / sumN (sg a i (fun _ => 1)) n else if l = 1 then y * (a (10 + 8 * i + 3) + 1) / sumN (sg a i (fun k => a (10 + 8 * k + 3) + 1)) n else sp_max 0 (sp_min 3 (y - sumO (sg a i (fun _ => 3)) (odr a n) T))))) (am_S M2) ∧ fO M1 M2 33 7 := by
        refine am_cl_v (fun M2 => fO M1 M2 33 7) am_c202 rfl ?_
        iterate 4 refine am_wp_step _ rfl ?_
        refine ⟨_, _, cl_t hg.1 (m_isD _ _ _ en), ?_⟩
        iterate 5 refine am_wp_step _ rfl ?_
        refine ⟨_, _, cl_t hg.2.1 (m_within _ _ _ _ _), ?_⟩
        iterate 5 refine am_wp_step _ rfl ?_
        refine ⟨_, _, cl_t hg.2.2 (m_within _ _ _ _ _), ?_⟩
        iterate 3 refine am_wp_step _ rfl ?_
        refine am_call0 (m_findOrder _ n M1 hn8 en) (fun M2 hh => ?_)
        obtain ⟨hS, hF⟩ := hh
        rw [ea] at hS
        have ea2 : M2 33 0 0 = a := by rw [hF 33 0 (by omega)]; exact ea
        have hord : ∀ k, k < n → M2 33 7 0 k = nI (odr a n k) := fun k hk => by
          rw [plN_at hS k (by rw [so_len]; exact hk)]
          rfl
        iterate 10 refine am_wp_step _ rfl ?_
        refine am_forG (σ := Int32 × Int32 × Int32 × Int32 × Int32) 31 (fun s => [(0, .inr (.inr (26, 0, 0))), (1, .inl (nI i)), (2, .inl y), (3, .inl (nI l)), (4, .inl s.1), (5, .inl s.2.1), (6, .inl s.2.2.1), (7, .inl s.2.2.2.1), (8, .inl s.2.2.2.2)]) (fun k s M3 => s.1 = sumO (sg a i (fun _ => 1)) (odr a n) k ∧ s.2.1 = sumO (sg a i (fun k => a (10 + 8 * k + 3) + 1)) (odr a n) k ∧ s.2.2.1 = sumO (sg a i (fun _ => 3)) (odr a n) (min k T) ∧ s.2.2.2.1 = (if k ≤ T then 1 else 0) ∧ s.2.2.2.2 = nI k ∧ M3 = M2) n ?_ ?_ 0 (0, 0, 0, 1, 0) M2 (Nat.zero_le _) ⟨rfl, rfl, by rw [Nat.zero_min]; rfl, by rw [if_pos (Nat.zero_le _)], nI_0.symm, rfl⟩
        · rintro k ⟨u1, u2, u3, u4, w⟩ M3 hk hP K
          dsimp only at hP ⊢
          obtain ⟨p1, p2, p3, p4, rfl, rfl⟩ := hP
          have hok := ho k hk
          have s1 : ∀ f, sumO (sg a i f) (odr a n) (k + 1) = sumO (sg a i f) (odr a n) k + sg a i f (odr a n k) := fun f => rfl
          iterate 5 refine am_wp_step _ rfl ?_
          refine am_andv (by unfold vp_in; decide) ?_
          iterate 1 refine am_wp_step _ rfl ?_
          refine am_iteF (by show ¬ M3 33 0 0 1 ≤ nI k; rw [ea2, hG.2.2.1]; exact nI_ge hk (by omega)) ?_
          iterate 4 refine am_wp_step _ rfl ?_
          refine am_ixN (k) (rfl) (show _ < 8 by omega) (show (8 : Nat) < 2 ^ 31 by decide) (fun e => ?_); rw [e]
          rw [show (am_S M3).2.2 33 7 0 k = nI (odr a n k) from hord k hk]
          by_cases hkT : k < T
          · rw [if_pos (by omega)] at p4
            subst p4
            iterate 6 refine am_wp_step _ rfl ?_
            refine am_iteF (fun q => hT1 k hkT ((nI_eq (by omega) (by omega)).mp q)) ?_
            iterate 7 refine am_wp_step _ rfl ?_
            refine ⟨_, _, m_deadIs _ (odr a n k) 5 M3 (by omega) (by decide), ?_⟩
            iterate 4 refine am_wp_step _ rfl ?_
            refine ⟨_, _, m_deadIs _ i 5 M3 (by omega) (by decide), ?_⟩
            rw [ea2]
            iterate 1 refine am_wp_step _ rfl ?_
            have hmin : min (k + 1) T = k + 1 := by omega
            have hmin2 : min k T = k := by omega
            rw [hmin2] at p3
            refine am_ite (fun h => ?_) (fun h => ?_)
            · have hz : ∀ f, sg a i f (odr a n k) = 0 := fun f => if_neg h
              iterate 2 refine am_wp_step _ rfl ?_
              refine K (u1, u2, u3, 1, nI k + 1) _ ⟨?_, ?_, ?_, ?_, nI_1 k, rfl⟩
              · show u1 = _
                rw [s1, hz, p1]; lia
              · show u2 = _
                rw [s1, hz, p2]; lia
              · show u3 = _
                rw [hmin, s1, hz, p3]; lia
              · show 1 = _
                rw [if_pos (by omega)]
            · have hz : ∀ f, sg a i f (odr a n k) = f (odr a n k) := fun f => if_pos (Decidable.not_not.mp h)
              iterate 6 refine am_wp_step _ rfl ?_
              refine ⟨_, _, m_deadIs _ (odr a n k) 3 M3 (by omega) (by decide), ?_⟩
              rw [ea2]
              iterate 13 refine am_wp_step _ rfl ?_
              refine K (u1 + 1, u2 + (a (10 + 8 * odr a n k + 3) + 1), u3 + 3, 1, nI k + 1) _ ⟨?_, ?_, ?_, ?_, nI_1 k, rfl⟩
              · show u1 + 1 = _
                rw [s1, hz, p1]
              · show u2 + (a (10 + 8 * odr a n k + 3) + 1) = _
                rw [s1, hz, p2]
              · show u3 + 3 = _
                rw [hmin, s1, hz, p3]
              · show 1 = _
                rw [if_pos (by omega)]
          · have hmin : min (k + 1) T = min k T := by omega
            have rest : am_wp (am_cl am_cds 999) am_c202 (fun w m_1 => w = some (.inl (if l = 0 then y / sumN (sg a i (fun _ => 1)) n else if l = 1 then y * (a (10 + 8 * i + 3) + 1) / sumN (sg a i (fun k => a (10 + 8 * k + 3) + 1)) n else sp_max 0 (sp_min 3 (y - sumO (sg a i (fun _ => 3)) (odr a n) T)))) ∧ ∃ M', m_1 = am_S M' ∧ fO M1 M' 33 7) 49 [(0, .inr (.inr (26, 0, 0))), (1, .inl (nI i)), (2, .inl y), (3, .inl (nI l)), (4, .inl u1), (5, .inl u2), (6, .inl u3), (7, .inl u4), (8, .inl (nI k)), (9, .inl (nI (odr a n k)))] [] (am_S M3) := by
              iterate 6 refine am_wp_step _ rfl ?_
              refine ⟨_, _, m_deadIs _ (odr a n k) 5 M3 (by omega) (by decide), ?_⟩
              iterate 4 refine am_wp_step _ rfl ?_
              refine ⟨_, _, m_deadIs _ i 5 M3 (by omega) (by decide), ?_⟩
              rw [ea2]
              iterate 1 refine am_wp_step _ rfl ?_
              refine am_ite (fun h => ?_) (fun h => ?_)
              · have hz : ∀ f, sg a i f (odr a n k) = 0 := fun f => if_neg h
                iterate 2 refine am_wp_step _ rfl ?_
                refine K (u1, u2, u3, 0, nI k + 1) _ ⟨?_, ?_, ?_, ?_, nI_1 k, rfl⟩
                · show u1 = _
                  rw [s1, hz, p1]; lia
                · show u2 = _
                  rw [s1, hz, p2]; lia
                · show u3 = _
                  rw [hmin, p3]
                · show 0 = _
                  rw [if_neg (by omega)]
              · have hz : ∀ f, sg a i f (odr a n k) = f (odr a n k) := fun f => if_pos (Decidable.not_not.mp h)
                iterate 6 refine am_wp_step _ rfl ?_
                refine ⟨_, _, m_deadIs _ (odr a n k) 3 M3 (by omega) (by decide), ?_⟩
                rw [ea2]
                iterate 12 refine am_wp_step _ rfl ?_
                refine K (u1 + 1, u2 + (a (10 + 8 * odr a n k + 3) + 1), u3 + 0, 0, nI k + 1) _ ⟨?_, ?_, ?_, ?_, nI_1 k, rfl⟩
                · show u1 + 1 = _
                  rw [s1, hz, p1]
                · show u2 + (a (10 + 8 * odr a n k + 3) + 1) = _
                  rw [s1, hz, p2]
                · show u3 + 0 = _
                  rw [hmin, p3]; lia
                · show 0 = _
                  rw [if_neg (by omega)]
            iterate 2 refine am_wp_step _ rfl ?_
            by_cases hk2 : k = T
            · rw [if_pos (by omega)] at p4
              rw [p4]
              rw [p4] at rest
              iterate 4 refine am_wp_step _ rfl ?_
              refine am_iteT (by rw [hk2, hT3]) ?_
              exact rest
            · rw [if_neg (by omega)] at p4
              rw [p4]
              rw [p4] at rest
              iterate 1 refine am_wp_step _ rfl ?_
              exact rest
        · rintro ⟨u1, u2, u3, u4, w⟩ M3 hP
          dsimp only at hP ⊢
          obtain ⟨p1, p2, p3, p4, rfl, rfl⟩ := hP
          rw [sumO_odr] at p1 p2
          rw [show min n T = T by omega] at p3
          iterate 5 refine am_wp_step _ rfl ?_
          refine am_andv (by unfold vp_in; decide) ?_
          iterate 1 refine am_wp_step _ rfl ?_
          refine am_iteT (by show M3 33 0 0 1 ≤ nI n; rw [ea2, hG.2.2.1]; exact nI_le (Nat.le_refl _) (by omega)) ?_
          rcases (by omega : l = 0 ∨ l = 1 ∨ l = 2) with rfl | rfl | rfl
          · iterate 5 refine am_wp_step _ rfl ?_
            refine ⟨by rw [p1]; exact h1, ?_⟩
            iterate 2 refine am_wp_step _ rfl ?_
            exact ⟨trivial, by rw [p1, if_pos rfl], M3, rfl, hF⟩
          · iterate 10 refine am_wp_step _ rfl ?_
            refine ⟨_, _, m_deadIs _ i 3 M3 (by omega) (by decide), ?_⟩
            rw [ea2]
            iterate 5 refine am_wp_step _ rfl ?_
            refine ⟨by rw [p2]; exact h2, ?_⟩
            iterate 2 refine am_wp_step _ rfl ?_
            exact ⟨trivial, by rw [p2, if_neg (by decide), if_pos rfl], M3, rfl, hF⟩
          · iterate 11 refine am_wp_step _ rfl ?_
            refine ⟨_, _, m_held _ _ _ _ _, ?_⟩
            iterate 1 refine am_wp_step _ rfl ?_
            exact ⟨trivial, by rw [p3, if_neg (by decide), if_neg (by decide)]; rfl, M3, rfl, hF⟩
      obtain ⟨M2, c2, f2⟩ := hx
      refine ⟨M2, c2, kq_B (kB_7 f2) ?_⟩
      rw [f2 33 0 (by omega)]
  · refine JJ_e (k := 1) (by decide) (by decide) hR ?_ (fun M1 e33 e26 => ?_)
    · refine am_cl_in am_c99 rfl ?_
      repeat' first | refine am_wp_step _ rfl ?_ | refine am_iteB (fun h => ?_) (fun h => ?_) | refine am_iteN (fun h => ?_) (fun h => ?_) | refine am_ite (fun h => ?_) (fun h => ?_) | refine ⟨_, _, c_isDead _ _ _ hn, ?_⟩ | refine ⟨_, _, c_isDish _ _ _ hm, ?_⟩ | refine ⟨_, _, c_within _ _ _ _ _, ?_⟩ | refine ⟨_, _, c_isKM _ _ _, ?_⟩ | refine ⟨_, _, c_isHouse _ _ _, ?_⟩ | refine ⟨_, _, c_isAhead _ _ _, ?_⟩ | refine ⟨_, _, c_isSheet _ _ _, ?_⟩ | refine ⟨_, _, c_mostOf _ _ _, ?_⟩ | refine ⟨_, _, c_err1 _ _, ?_⟩ | refine ⟨_, _, c_err2 _ _, ?_⟩ | refine ⟨_, _, c_err3 _ _, ?_⟩ | refine ⟨_, _, c_err4 _ _, ?_⟩ | refine ⟨_, _, c_err5 _ _, ?_⟩ | refine ⟨by decide, ?_⟩ | fail
      all_goals first | exact ⟨trivial, rfl, rfl⟩ | (exfalso; clear hR hG hB hT0 hT1 hW4 hW5 hBY h288 hTC hX0 hX1; grind)
    · have ea : M1 33 0 0 = a := (by rw [e33]; exact ha); have en : M1 33 0 0 1 = nI n := (by rw [ea]; exact hG.2.2.1); have em : M1 33 0 0 2 = nI m := (by rw [ea]; exact hG.2.2.2.1)
      refine am_cl_in am_c202 rfl ?_
      repeat' first | refine am_wp_step _ rfl ?_ | refine am_iteB (fun h => ?_) (fun h => ?_) | refine am_iteN (fun h => ?_) (fun h => ?_) | refine am_ite (fun h => ?_) (fun h => ?_) | refine ⟨_, _, m_isD _ _ _ en, ?_⟩ | refine ⟨_, _, m_within _ _ _ _ _, ?_⟩ | refine ⟨_, _, m_find1 _ _, ?_⟩ | fail
      all_goals first | exact ⟨trivial, rfl, rfl⟩ | (exfalso; clear hR hG hB hT0 hT1 hW4 hW5 hBY h288 hTC hX0 hX1; grind)
