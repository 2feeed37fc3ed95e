/-! LEAVES OF THE CLASS -/
theorem c_within (d : Nat) (v lo hi : Int32) (me : am_M) : am_cl am_cds (d + 1) 114 [.inl v, .inl lo, .inl hi] me (some (.inl (bI (lo ≤ v ∧ v ≤ hi)))) me := by
  refine am_cl_in am_c114 rfl ?_
  repeat' first | refine am_wp_step _ rfl ?_ | refine am_ite (fun h => ?_) (fun h => ?_)
  · refine ⟨Or.inl rfl, ?_, rfl⟩
    rw [bI_f (fun q => absurd h (Int32.not_lt.mpr q.1))]
  · refine ⟨Or.inl rfl, ?_, rfl⟩
    rw [bI_f (fun q => absurd h (Int32.not_lt.mpr q.2))]
  · rename_i h0
    refine ⟨Or.inr rfl, ?_, rfl⟩
    rw [bI_t ⟨Int32.not_lt.mp h0, Int32.not_lt.mp h⟩]
theorem c_err1 (d : Nat) (M : am_F) : am_cl am_cds (d + 2) 113 [.inr (.inr (25, 0, 0)), .inl (-1000000001)] (am_S M) (some (.inl (-1000000001))) (am_S (am_up M 32 0 0 1 (M 32 0 0 1 + 1))) := by
  refine am_cl_in am_c113 rfl ?_
  iterate 8 refine am_wp_step _ rfl ?_
  refine ⟨_, _, c_within _ _ _ _ _, ?_⟩
  iterate 6 refine am_wp_step _ rfl ?_
  refine ⟨by unfold vp_in; decide, ?_⟩
  iterate 3 refine am_wp_step _ rfl ?_
  refine ⟨by unfold vp_in; decide, ?_⟩
  iterate 2 refine am_wp_step _ rfl ?_
  exact ⟨trivial, rfl, rfl⟩
theorem c_err2 (d : Nat) (M : am_F) : am_cl am_cds (d + 2) 113 [.inr (.inr (25, 0, 0)), .inl (-1000000002)] (am_S M) (some (.inl (-1000000002))) (am_S (am_up M 32 0 0 2 (M 32 0 0 2 + 1))) := by
  refine am_cl_in am_c113 rfl ?_
  iterate 8 refine am_wp_step _ rfl ?_
  refine ⟨_, _, c_within _ _ _ _ _, ?_⟩
  iterate 6 refine am_wp_step _ rfl ?_
  refine ⟨by unfold vp_in; decide, ?_⟩
  iterate 3 refine am_wp_step _ rfl ?_
  refine ⟨by unfold vp_in; decide, ?_⟩
  iterate 2 refine am_wp_step _ rfl ?_
  exact ⟨trivial, rfl, rfl⟩
theorem c_err3 (d : Nat) (M : am_F) : am_cl am_cds (d + 2) 113 [.inr (.inr (25, 0, 0)), .inl (-1000000003)] (am_S M) (some (.inl (-1000000003))) (am_S (am_up M 32 0 0 3 (M 32 0 0 3 + 1))) := by
  refine am_cl_in am_c113 rfl ?_
  iterate 8 refine am_wp_step _ rfl ?_
  refine ⟨_, _, c_within _ _ _ _ _, ?_⟩
  iterate 6 refine am_wp_step _ rfl ?_
  refine ⟨by unfold vp_in; decide, ?_⟩
  iterate 3 refine am_wp_step _ rfl ?_
  refine ⟨by unfold vp_in; decide, ?_⟩
  iterate 2 refine am_wp_step _ rfl ?_
  exact ⟨trivial, rfl, rfl⟩
theorem c_err4 (d : Nat) (M : am_F) : am_cl am_cds (d + 2) 113 [.inr (.inr (25, 0, 0)), .inl (-1000000004)] (am_S M) (some (.inl (-1000000004))) (am_S (am_up M 32 0 0 4 (M 32 0 0 4 + 1))) := by
  refine am_cl_in am_c113 rfl ?_
  iterate 8 refine am_wp_step _ rfl ?_
  refine ⟨_, _, c_within _ _ _ _ _, ?_⟩
  iterate 6 refine am_wp_step _ rfl ?_
  refine ⟨by unfold vp_in; decide, ?_⟩
  iterate 3 refine am_wp_step _ rfl ?_
  refine ⟨by unfold vp_in; decide, ?_⟩
  iterate 2 refine am_wp_step _ rfl ?_
  exact ⟨trivial, rfl, rfl⟩
theorem c_err5 (d : Nat) (M : am_F) : am_cl am_cds (d + 2) 113 [.inr (.inr (25, 0, 0)), .inl (-1000000005)] (am_S M) (some (.inl (-1000000005))) (am_S (am_up M 32 0 0 5 (M 32 0 0 5 + 1))) := by
  refine am_cl_in am_c113 rfl ?_
  iterate 8 refine am_wp_step _ rfl ?_
  refine ⟨_, _, c_within _ _ _ _ _, ?_⟩
  iterate 6 refine am_wp_step _ rfl ?_
  refine ⟨by unfold vp_in; decide, ?_⟩
  iterate 3 refine am_wp_step _ rfl ?_
  refine ⟨by unfold vp_in; decide, ?_⟩
  iterate 2 refine am_wp_step _ rfl ?_
  exact ⟨trivial, rfl, rfl⟩
/-- what a row holds: n numbers, the j-th is f j -/
theorem c_clear (d b : Nat) (M : am_F) : am_cl am_cds (d + 1) 54 [.inr (.inr (21, b, 0))] (am_S M) none (am_S (am_up M 21 b 0 1 0)) := by
  refine am_cl_in am_c54 rfl ?_
  iterate 4 refine am_wp_step _ rfl ?_
  exact ⟨rfl, rfl⟩
theorem c_add (d b n : Nat) (v : Int32) (M : am_F) (hs : M 21 b 0 1 = nI n) (hn : n < am_ln 27 b) (hl : am_ln 27 b < 2 ^ 31) : am_cl am_cds (d + 1) 50 [.inr (.inr (21, b, 0)), .inl v] (am_S M) none (am_S (am_up (am_up M 27 b 0 n v) 21 b 0 1 (nI (n + 1)))) := by
  refine am_cl_in am_c50 rfl ?_
  iterate 6 refine am_wp_step _ rfl ?_
  refine am_ite (fun h => ?_) (fun h => ?_)
  · exfalso
    have h : Int32.ofNat (am_ln 27 b) ≤ M 21 b 0 1 := h
    rw [hs] at h
    exact nI_ge hn hl h
  · iterate 6 refine am_wp_step _ rfl ?_
    refine ⟨by show vp_in (M 21 b 0 1) _; rw [hs]; exact vp_in_nI hn hl, ?_⟩
    iterate 7 refine am_wp_step _ rfl ?_
    refine ⟨rfl, ?_⟩
    show am_S (am_up (am_up M 27 b 0 (M 21 b 0 1).toNatClampNeg v) 21 b 0 1 (am_up M 27 b 0 (M 21 b 0 1).toNatClampNeg v 21 b 0 1 + 1)) = _
    have e1 : (M 21 b 0 1).toNatClampNeg = n := by rw [hs]; exact nI_clamp (by omega)
    have e2 : am_up M 27 b 0 n v 21 b 0 1 = nI n := by
      unfold am_up
      rw [if_neg (by omega)]
      exact hs
    rw [e1, e2, nI_1]
theorem am_up_same {M : am_F} {r b i s : Nat} {x : Int32} : am_up M r b i s x r b i s = x := if_pos ⟨rfl, rfl, rfl, rfl⟩
theorem am_up_r {M : am_F} {r b i s r' : Nat} {x : Int32} (h : r' ≠ r) : am_up M r b i s x r' = M r' := by
  funext b' i' s'
  unfold am_up
  rw [if_neg (fun q => h q.1)]
theorem am_up_b {M : am_F} {r b i s r' b' : Nat} {x : Int32} (h : b' ≠ b) : am_up M r b i s x r' b' = M r' b' := by
  funext i' s'
  unfold am_up
  rw [if_neg (fun q => h q.2.1)]
theorem am_up_s {M : am_F} {r b i s r' b' i' s' : Nat} {x : Int32} (h : s' ≠ s) : am_up M r b i s x r' b' i' s' = M r' b' i' s' := by
  unfold am_up
  rw [if_neg (fun q => h q.2.2.2)]
theorem am_up_rb {M : am_F} {r b i s r' b' : Nat} {x : Int32} (h : ¬ (r' = r ∧ b' = b)) : am_up M r b i s x r' b' = M r' b' := by
  funext i' s'
  unfold am_up
  rw [if_neg (fun q => h ⟨q.1, q.2.1⟩)]
/-- a row is another one's copy -/
def rw_cp (M M' : am_F) (b b2 n : Nat) : Prop := M' 21 b 0 1 = nI n ∧ (∀ j, j < n → M' 27 b 0 j = M 27 b2 0 j) ∧ ∀ r bb, ¬ ((r = 21 ∨ r = 27) ∧ bb = b) → M' r bb = M r bb
theorem c_copyRow (d b b2 n : Nat) (M : am_F) (hb : b ≠ b2) (hs : M 21 b2 0 1 = nI n) (hn : n ≤ am_ln 27 b) (hn2 : n ≤ am_ln 27 b2) (hl : am_ln 27 b < 2 ^ 31) (hl2 : am_ln 27 b2 < 2 ^ 31) : ∃ M', am_cl am_cds (d + 2) 55 [.inr (.inr (21, b, 0)), .inr (.inr (21, b2, 0))] (am_S M) none (am_S M') ∧ rw_cp M M' b b2 n := by
  have loop : ∀ (k i : Nat) (x : Int32) (M1 : am_F), i + k = n → x = nI i → rw_cp M M1 b b2 i → am_wp (am_cl am_cds (d + 1)) am_c55 (fun w m => w = none ∧ ∃ M', m = am_S M' ∧ rw_cp M M' b b2 n) 4 [(0, .inr (.inr (21, b, 0))), (1, .inr (.inr (21, b2, 0))), (2, .inl x)] [] (am_S M1) := by
    intro k
    induction k with
    | zero =>
      intro i x M1 hi hx hP
      have hi : i = n := by omega
      subst hi
      iterate 4 refine am_wp_step _ rfl ?_
      refine am_ite (fun h => ?_) (fun h => ?_)
      · refine am_wp_step _ rfl ?_
        exact ⟨rfl, M1, rfl, hP⟩
      · exfalso
        have h : ¬ M1 21 b2 0 1 ≤ x := h
        rw [hP.2.2 21 b2 (by omega), hs, hx] at h
        exact h (nI_le (Nat.le_refl _) (by omega))
    | succ k ih =>
      intro i x M1 hi hx hP
      iterate 4 refine am_wp_step _ rfl ?_
      refine am_ite (fun h => ?_) (fun h => ?_)
      · exfalso
        have h : M1 21 b2 0 1 ≤ x := h
        rw [hP.2.2 21 b2 (by omega), hs, hx] at h
        exact nI_ge (show i < n by omega) (by omega) h
      · iterate 5 refine am_wp_step _ rfl ?_
        refine ⟨by rw [hx]; exact vp_in_nI (show i < am_ln 27 b2 by omega) hl2, ?_⟩
        refine am_wp_step _ rfl ?_
        have e0 : M1 27 b2 0 x.toNatClampNeg = M 27 b2 0 i := by
          rw [hx, nI_clamp (by omega), hP.2.2 27 b2 (by omega)]
        refine ⟨_, c_add d b i (M1 27 b2 0 x.toNatClampNeg) M1 hP.1 (by omega) hl, ?_⟩
        rw [e0]
        iterate 2 refine am_wp_step _ rfl ?_
        exact ih (i + 1) (x + 1) (am_up (am_up M1 27 b 0 i (M 27 b2 0 i)) 21 b 0 1 (nI (i + 1))) (by omega) (by rw [hx, nI_1]) ⟨am_up_same, fun j hj => by
          rw [am_up_r (by decide)]
          by_cases hj2 : j = i
          · rw [hj2, am_up_same]
          · rw [am_up_s hj2]
            exact hP.2.1 j (by omega), fun r bb h => by
          rw [am_up_rb (fun q => h ⟨Or.inl q.1, q.2⟩), am_up_rb (fun q => h ⟨Or.inr q.1, q.2⟩)]
          exact hP.2.2 r bb h⟩
  obtain ⟨v, me', h1, h2, M', h3, h4⟩ := am_cl_ex (y := 55) (as := [.inr (.inr (21, b, 0)), .inr (.inr (21, b2, 0))]) (me := am_S M) (d := d + 1) (Q := fun w m => w = none ∧ ∃ M', m = am_S M' ∧ rw_cp M M' b b2 n) am_c55 rfl (by
    iterate 2 refine am_wp_step _ rfl ?_
    refine ⟨_, c_clear d b M, ?_⟩
    iterate 2 refine am_wp_step _ rfl ?_
    exact loop n 0 0 (am_up M 21 b 0 1 0) (by omega) nI_0.symm ⟨by rw [am_up_same, nI_0], fun j hj => absurd hj (Nat.not_lt_zero _), fun r bb h => am_up_rb (fun q => h ⟨Or.inl q.1, q.2⟩)⟩)
  subst h2; subst h3
  exact ⟨M', h1, h4⟩
