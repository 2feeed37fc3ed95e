/-! LEAVES OF THE CLASS -/
theorem c_within (d : Nat) (v lo hi : Int32) (me : am_M) : am_cl am_cds (d + 1) 114 [.inl v, .inl lo, .inl hi] me (some (.inl (bI (lo ≤ v ∧ v ≤ hi)))) me := by
  refine am_cl_in am_c114 rfl ?_
  repeat' first | refine am_wp_step _ rfl ?_ | refine am_ite (fun h => ?_) (fun h => ?_)
  · refine ⟨Or.inl rfl, ?_, rfl⟩
    rw [bI_f (fun q => absurd h (Int32.not_lt.mpr q.1))]
  · refine ⟨Or.inl rfl, ?_, rfl⟩
    rw [bI_f (fun q => absurd h (Int32.not_lt.mpr q.2))]
  · rename_i h0
    refine ⟨Or.inr rfl, ?_, rfl⟩
    rw [bI_t ⟨Int32.not_lt.mp h0, Int32.not_lt.mp h⟩]
theorem c_err1 (d : Nat) (M : am_F) : am_cl am_cds (d + 2) 113 [.inr (.inr (25, 0, 0)), .inl (-1000000001)] (am_S M) (some (.inl (-1000000001))) (am_S (am_up M 32 0 0 1 (M 32 0 0 1 + 1))) := by
  refine am_cl_in am_c113 rfl ?_
  iterate 8 refine am_wp_step _ rfl ?_
  refine ⟨_, _, c_within _ _ _ _ _, ?_⟩
  iterate 6 refine am_wp_step _ rfl ?_
  refine ⟨by unfold vp_in; decide, ?_⟩
  iterate 3 refine am_wp_step _ rfl ?_
  refine ⟨by unfold vp_in; decide, ?_⟩
  iterate 2 refine am_wp_step _ rfl ?_
  exact ⟨trivial, rfl, rfl⟩
theorem c_err2 (d : Nat) (M : am_F) : am_cl am_cds (d + 2) 113 [.inr (.inr (25, 0, 0)), .inl (-1000000002)] (am_S M) (some (.inl (-1000000002))) (am_S (am_up M 32 0 0 2 (M 32 0 0 2 + 1))) := by
  refine am_cl_in am_c113 rfl ?_
  iterate 8 refine am_wp_step _ rfl ?_
  refine ⟨_, _, c_within _ _ _ _ _, ?_⟩
  iterate 6 refine am_wp_step _ rfl ?_
  refine ⟨by unfold vp_in; decide, ?_⟩
  iterate 3 refine am_wp_step _ rfl ?_
  refine ⟨by unfold vp_in; decide, ?_⟩
  iterate 2 refine am_wp_step _ rfl ?_
  exact ⟨trivial, rfl, rfl⟩
theorem c_err3 (d : Nat) (M : am_F) : am_cl am_cds (d + 2) 113 [.inr (.inr (25, 0, 0)), .inl (-1000000003)] (am_S M) (some (.inl (-1000000003))) (am_S (am_up M 32 0 0 3 (M 32 0 0 3 + 1))) := by
  refine am_cl_in am_c113 rfl ?_
  iterate 8 refine am_wp_step _ rfl ?_
  refine ⟨_, _, c_within _ _ _ _ _, ?_⟩
  iterate 6 refine am_wp_step _ rfl ?_
  refine ⟨by unfold vp_in; decide, ?_⟩
  iterate 3 refine am_wp_step _ rfl ?_
  refine ⟨by unfold vp_in; decide, ?_⟩
  iterate 2 refine am_wp_step _ rfl ?_
  exact ⟨trivial, rfl, rfl⟩
theorem c_err4 (d : Nat) (M : am_F) : am_cl am_cds (d + 2) 113 [.inr (.inr (25, 0, 0)), .inl (-1000000004)] (am_S M) (some (.inl (-1000000004))) (am_S (am_up M 32 0 0 4 (M 32 0 0 4 + 1))) := by
  refine am_cl_in am_c113 rfl ?_
  iterate 8 refine am_wp_step _ rfl ?_
  refine ⟨_, _, c_within _ _ _ _ _, ?_⟩
  iterate 6 refine am_wp_step _ rfl ?_
  refine ⟨by unfold vp_in; decide, ?_⟩
  iterate 3 refine am_wp_step _ rfl ?_
  refine ⟨by unfold vp_in; decide, ?_⟩
  iterate 2 refine am_wp_step _ rfl ?_
  exact ⟨trivial, rfl, rfl⟩
theorem c_err5 (d : Nat) (M : am_F) : am_cl am_cds (d + 2) 113 [.inr (.inr (25, 0, 0)), .inl (-1000000005)] (am_S M) (some (.inl (-1000000005))) (am_S (am_up M 32 0 0 5 (M 32 0 0 5 + 1))) := by
  refine am_cl_in am_c113 rfl ?_
  iterate 8 refine am_wp_step _ rfl ?_
  refine ⟨_, _, c_within _ _ _ _ _, ?_⟩
  iterate 6 refine am_wp_step _ rfl ?_
  refine ⟨by unfold vp_in; decide, ?_⟩
  iterate 3 refine am_wp_step _ rfl ?_
  refine ⟨by unfold vp_in; decide, ?_⟩
  iterate 2 refine am_wp_step _ rfl ?_
  exact ⟨trivial, rfl, rfl⟩
/-- what a row holds: n numbers, the j-th is f j -/
theorem c_clear (d b : Nat) (M : am_F) : am_cl am_cds (d + 1) 54 [.inr (.inr (21, b, 0))] (am_S M) none (am_S (am_up M 21 b 0 1 0)) := by
  refine am_cl_in am_c54 rfl ?_
  iterate 4 refine am_wp_step _ rfl ?_
  exact ⟨rfl, rfl⟩
theorem c_add (d b n : Nat) (v : Int32) (M : am_F) (hs : M 21 b 0 1 = nI n) (hn : n < am_ln 27 b) (hl : am_ln 27 b < 2 ^ 31) : am_cl am_cds (d + 1) 50 [.inr (.inr (21, b, 0)), .inl v] (am_S M) none (am_S (am_up (am_up M 27 b 0 n v) 21 b 0 1 (nI (n + 1)))) := by
  refine am_cl_in am_c50 rfl ?_
  iterate 6 refine am_wp_step _ rfl ?_
  refine am_ite (fun h => ?_) (fun h => ?_)
  · exfalso
    have h : Int32.ofNat (am_ln 27 b) ≤ M 21 b 0 1 := h
    rw [hs] at h
    exact nI_ge hn hl h
  · iterate 6 refine am_wp_step _ rfl ?_
    refine ⟨by show vp_in (M 21 b 0 1) _; rw [hs]; exact vp_in_nI hn hl, ?_⟩
    iterate 7 refine am_wp_step _ rfl ?_
    refine ⟨rfl, ?_⟩
    show am_S (am_up (am_up M 27 b 0 (M 21 b 0 1).toNatClampNeg v) 21 b 0 1 (am_up M 27 b 0 (M 21 b 0 1).toNatClampNeg v 21 b 0 1 + 1)) = _
    have e1 : (M 21 b 0 1).toNatClampNeg = n := by rw [hs]; exact nI_clamp (by omega)
    have e2 : am_up M 27 b 0 n v 21 b 0 1 = nI n := by
      unfold am_up
      rw [if_neg (by omega)]
      exact hs
    rw [e1, e2, nI_1]
