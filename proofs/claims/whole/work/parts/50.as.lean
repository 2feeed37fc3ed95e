/-! AS, TRACE, COUNT, SHARE -/
def abv (p : Nat) : Nat := if p = 4 then 1 else if p = 5 then 2 else if p = 6 then 3 else 0
def ofK (p q : Nat) : Bool := decide (p = q) || (decide (p ≠ 0) && (decide (abv p = q) || decide (q = 0)))
theorem c_isOfKind (d p q : Nat) (M : am_F) (hp : p ≤ 6) (hq : q ≤ 6) : am_cl am_cds (d + 2) 122 [.inl (nI p), .inl (nI q)] (am_S M) (some (.inl (if ofK p q = true then 1 else 0))) (am_S M) := by
  refine am_cl_in am_c122 rfl ?_
  rcases (by omega : p = 0 ∨ p = 1 ∨ p = 2 ∨ p = 3 ∨ p = 4 ∨ p = 5 ∨ p = 6) with rfl | rfl | rfl | rfl | rfl | rfl | rfl <;> rcases (by omega : q = 0 ∨ q = 1 ∨ q = 2 ∨ q = 3 ∨ q = 4 ∨ q = 5 ∨ q = 6) with rfl | rfl | rfl | rfl | rfl | rfl | rfl
  all_goals
    repeat' first | refine am_wp_step _ rfl ?_ | refine am_iteB (fun h => ?_) (fun h => ?_) | refine am_iteN (fun h => ?_) (fun h => ?_) | refine am_ite (fun h => ?_) (fun h => ?_) | refine ⟨_, _, c_within _ _ _ _ _, ?_⟩ | refine am_andv (by unfold vp_in; decide) ?_ | fail
    first | exact ⟨Or.inl rfl, rfl, rfl⟩ | exact ⟨Or.inr rfl, rfl, rfl⟩
theorem m_above (d : Nat) (x : Int32) (me : am_M) : am_cl am_cds (d + 1) 150 [.inl x] me (some (.inl (if x = 0 then -1 else if x = 4 then 1 else if x = 5 then 2 else if x = 6 then 3 else 0))) me := by
  refine am_cl_in am_c150 rfl ?_
  repeat' first | refine am_wp_step _ rfl ?_ | refine am_iteB (fun h => ?_) (fun h => ?_) | refine am_iteN (fun h => ?_) (fun h => ?_) | refine am_ite (fun h => ?_) (fun h => ?_) | fail
  all_goals
    refine ⟨trivial, ?_, rfl⟩
    grind
theorem jj_as (x y : Int32) : JJ 78 151 [.inl x, .inl y] := by
  intro M hR
  obtain ⟨n, m, a, ha, hG, hB, hab, hT0, hT1, hW4, hW5, hz, hbl, hBY, h288, hTC⟩ := RC_get hR; have hn := hB.1; have hm := hB.2.1; have hn8 := hG.1; have hm8 := hG.2.1; have hX0 := hG.2.2.2.2.2.2.1; have hX1 := hG.2.2.2.2.2.2.2; have ho : ∀ i, i < n → odr a n i < n := (fun i hi => odr_lt hi)
  by_cases hg : isN x n ∧ 0 ≤ y ∧ y ≤ 6
  · obtain ⟨i, hi, rfl⟩ := isN_ex hg.1 (by omega)
    obtain ⟨q, hq, rfl⟩ := wI_ex (b := 6) hg.2 (by decide)
    obtain ⟨p, hp, hpe⟩ := wI_ex (b := 6) (hG.2.2.2.2.1 i hi).1 (by decide)
    have e0 : M 18 0 i 0 = nI p := by rw [RB_gv hi (by decide) hB]; exact hpe
    by_cases hK : ofK p q = true
    · refine JJ_q (v := a (10 + 8 * i + 1)) hR ⟨M, ?_, cS_rf⟩ (fun M1 e33 e26 => ⟨M1, ?_, kq_rf⟩)
      · refine am_cl_in am_c78 rfl ?_
        iterate 3 refine am_wp_step _ rfl ?_
        refine ⟨_, _, cl_t hg.1 (c_isDead _ _ _ hn), ?_⟩
        iterate 5 refine am_wp_step _ rfl ?_
        refine ⟨_, _, cl_t hg.2 (c_within _ _ _ _ _), ?_⟩
        iterate 7 refine am_wp_step _ rfl ?_
        refine am_ixN (i) (rfl) (show _ < 8 by omega) (show (8 : Nat) < 2 ^ 31 by decide) (fun e => ?_); rw [e]
        iterate 4 refine am_wp_step _ rfl ?_
        rw [show (am_S M).2.2 (am_el 34) 0 i 0 = nI p from e0]
        iterate 1 refine am_wp_step _ rfl ?_
        refine ⟨_, _, c_isOfKind _ p q M hp hq, ?_⟩
        rw [if_pos hK]
        iterate 5 refine am_wp_step _ rfl ?_
        refine ⟨trivial, ?_, rfl⟩
        rw [← RB_gv hi (by decide) hB]
        rfl
      · have ea : M1 33 0 0 = a := (by rw [e33]; exact ha); have en : M1 33 0 0 1 = nI n := (by rw [ea]; exact hG.2.2.1); have em : M1 33 0 0 2 = nI m := (by rw [ea]; exact hG.2.2.2.1)
        have ek : M1 33 0 0 (10 + 8 * i + 0) = nI p := by rw [ea]; exact hpe
        refine am_cl_in am_c151 rfl ?_
        iterate 4 refine am_wp_step _ rfl ?_
        refine ⟨_, _, cl_t hg.1 (m_isD _ _ _ en), ?_⟩
        iterate 5 refine am_wp_step _ rfl ?_
        refine ⟨_, _, cl_t hg.2 (m_within _ _ _ _ _), ?_⟩
        iterate 5 refine am_wp_step _ rfl ?_
        refine ⟨_, _, m_deadIs _ i 0 M1 (by omega) (by decide), ?_⟩
        rw [ek]
        clear hpe e0 ek hg
        rcases (by omega : p = 0 ∨ p = 1 ∨ p = 2 ∨ p = 3 ∨ p = 4 ∨ p = 5 ∨ p = 6) with rfl | rfl | rfl | rfl | rfl | rfl | rfl <;> rcases (by omega : q = 0 ∨ q = 1 ∨ q = 2 ∨ q = 3 ∨ q = 4 ∨ q = 5 ∨ q = 6) with rfl | rfl | rfl | rfl | rfl | rfl | rfl
        all_goals first | exact absurd hK (by decide) | skip
        all_goals
          repeat' first | refine am_wp_step _ rfl ?_ | refine am_iteB (fun h => ?_) (fun h => ?_) | refine am_iteN (fun h => ?_) (fun h => ?_) | refine am_ite (fun h => ?_) (fun h => ?_) | refine ⟨_, _, m_above _ _ _, ?_⟩ | refine ⟨_, _, m_deadIs _ i 1 M1 (by omega) (by decide), ?_⟩ | fail
          exact ⟨trivial, by rw [ea], rfl⟩
    · refine JJ_e (k := 5) (by decide) (by decide) hR ?_ (fun M1 e33 e26 => ?_)
      · refine am_cl_in am_c78 rfl ?_
        iterate 3 refine am_wp_step _ rfl ?_
        refine ⟨_, _, cl_t hg.1 (c_isDead _ _ _ hn), ?_⟩
        iterate 5 refine am_wp_step _ rfl ?_
        refine ⟨_, _, cl_t hg.2 (c_within _ _ _ _ _), ?_⟩
        iterate 7 refine am_wp_step _ rfl ?_
        refine am_ixN (i) (rfl) (show _ < 8 by omega) (show (8 : Nat) < 2 ^ 31 by decide) (fun e => ?_); rw [e]
        iterate 4 refine am_wp_step _ rfl ?_
        rw [show (am_S M).2.2 (am_el 34) 0 i 0 = nI p from e0]
        iterate 1 refine am_wp_step _ rfl ?_
        refine ⟨_, _, c_isOfKind _ p q M hp hq, ?_⟩
        rw [if_neg hK]
        repeat' first | refine am_wp_step _ rfl ?_ | refine am_iteB (fun h => ?_) (fun h => ?_) | refine am_iteN (fun h => ?_) (fun h => ?_) | refine am_ite (fun h => ?_) (fun h => ?_) | refine ⟨_, _, c_err5 _ _, ?_⟩ | fail
        exact ⟨trivial, rfl, rfl⟩
      · have ea : M1 33 0 0 = a := (by rw [e33]; exact ha); have en : M1 33 0 0 1 = nI n := (by rw [ea]; exact hG.2.2.1); have em : M1 33 0 0 2 = nI m := (by rw [ea]; exact hG.2.2.2.1)
        have ek : M1 33 0 0 (10 + 8 * i + 0) = nI p := by rw [ea]; exact hpe
        refine am_cl_in am_c151 rfl ?_
        iterate 4 refine am_wp_step _ rfl ?_
        refine ⟨_, _, cl_t hg.1 (m_isD _ _ _ en), ?_⟩
        iterate 5 refine am_wp_step _ rfl ?_
        refine ⟨_, _, cl_t hg.2 (m_within _ _ _ _ _), ?_⟩
        iterate 5 refine am_wp_step _ rfl ?_
        refine ⟨_, _, m_deadIs _ i 0 M1 (by omega) (by decide), ?_⟩
        rw [ek]
        clear hpe e0 ek hg
        rcases (by omega : p = 0 ∨ p = 1 ∨ p = 2 ∨ p = 3 ∨ p = 4 ∨ p = 5 ∨ p = 6) with rfl | rfl | rfl | rfl | rfl | rfl | rfl <;> rcases (by omega : q = 0 ∨ q = 1 ∨ q = 2 ∨ q = 3 ∨ q = 4 ∨ q = 5 ∨ q = 6) with rfl | rfl | rfl | rfl | rfl | rfl | rfl
        all_goals first | exact absurd (by decide) hK | skip
        all_goals
          repeat' first | refine am_wp_step _ rfl ?_ | refine am_iteB (fun h => ?_) (fun h => ?_) | refine am_iteN (fun h => ?_) (fun h => ?_) | refine am_ite (fun h => ?_) (fun h => ?_) | refine ⟨_, _, m_above _ _ _, ?_⟩ | refine ⟨_, _, m_find5 _ _, ?_⟩ | fail
          exact ⟨trivial, rfl, rfl⟩
  · refine JJ_e (k := 1) (by decide) (by decide) hR ?_ (fun M1 e33 e26 => ?_)
    · refine am_cl_in am_c78 rfl ?_
      repeat' first | refine am_wp_step _ rfl ?_ | refine am_iteB (fun h => ?_) (fun h => ?_) | refine am_iteN (fun h => ?_) (fun h => ?_) | refine am_ite (fun h => ?_) (fun h => ?_) | refine ⟨_, _, c_isDead _ _ _ hn, ?_⟩ | refine ⟨_, _, c_isDish _ _ _ hm, ?_⟩ | refine ⟨_, _, c_within _ _ _ _ _, ?_⟩ | refine ⟨_, _, c_isKM _ _ _, ?_⟩ | refine ⟨_, _, c_isHouse _ _ _, ?_⟩ | refine ⟨_, _, c_isAhead _ _ _, ?_⟩ | refine ⟨_, _, c_isSheet _ _ _, ?_⟩ | refine ⟨_, _, c_mostOf _ _ _, ?_⟩ | refine ⟨_, _, c_err1 _ _, ?_⟩ | refine ⟨_, _, c_err2 _ _, ?_⟩ | refine ⟨_, _, c_err3 _ _, ?_⟩ | refine ⟨_, _, c_err4 _ _, ?_⟩ | refine ⟨_, _, c_err5 _ _, ?_⟩ | refine ⟨by decide, ?_⟩ | fail
      all_goals first | exact ⟨trivial, rfl, rfl⟩ | (exfalso; clear hR hG hB hT0 hT1 hW4 hW5 hBY h288 hTC hX0 hX1; grind)
    · have ea : M1 33 0 0 = a := (by rw [e33]; exact ha); have en : M1 33 0 0 1 = nI n := (by rw [ea]; exact hG.2.2.1); have em : M1 33 0 0 2 = nI m := (by rw [ea]; exact hG.2.2.2.1)
      refine am_cl_in am_c151 rfl ?_
      repeat' first | refine am_wp_step _ rfl ?_ | refine am_iteB (fun h => ?_) (fun h => ?_) | refine am_iteN (fun h => ?_) (fun h => ?_) | refine am_ite (fun h => ?_) (fun h => ?_) | refine ⟨_, _, m_isD _ _ _ en, ?_⟩ | refine ⟨_, _, m_within _ _ _ _ _, ?_⟩ | refine ⟨_, _, m_find1 _ _, ?_⟩ | fail
      all_goals first | exact ⟨trivial, rfl, rfl⟩ | (exfalso; clear hR hG hB hT0 hT1 hW4 hW5 hBY h288 hTC hX0 hX1; grind)
theorem jj_trace (x : Int32) : JJ 102 210 [.inl x] := by
  intro M hR
  obtain ⟨k, hk, w1, w2, w3⟩ := hR.2.2.2.2.1
  by_cases hg : isN x k
  · obtain ⟨i, hi, rfl⟩ := isN_ex hg (by omega)
    refine JJ_q (v := M 33 8 0 i) hR ⟨M, ?_, cS_rf⟩ (fun M1 e33 e26 => ⟨M1, ?_, kq_rf⟩)
    · refine am_cl_in am_c102 rfl ?_
      iterate 8 refine am_wp_step _ rfl ?_
      rw [show (am_S M).2.2 21 14 0 1 = nI k from w2]
      iterate 1 refine am_wp_step _ rfl ?_
      refine ⟨_, _, cl_t hg (c_within _ _ _ _ _), ?_⟩
      iterate 6 refine am_wp_step _ rfl ?_
      refine ⟨_, _, c_at _ 14 k i M w2 hi hk (by decide), ?_⟩
      iterate 2 refine am_wp_step _ rfl ?_
      exact ⟨trivial, by rw [w3 i hi], rfl⟩
    · refine am_cl_in am_c210 rfl ?_
      iterate 6 refine am_wp_step _ rfl ?_
      rw [show (am_S M1).2.2 26 0 0 16 = nI k from by show M1 26 0 0 16 = nI k; rw [e26]; exact w1]
      iterate 1 refine am_wp_step _ rfl ?_
      refine ⟨_, _, cl_t hg (m_within _ _ _ _ _), ?_⟩
      iterate 5 refine am_wp_step _ rfl ?_
      refine am_ixN (i) (rfl) (show _ < 40 by omega) (show (40 : Nat) < 2 ^ 31 by decide) (fun e => ?_); rw [e]
      iterate 2 refine am_wp_step _ rfl ?_
      refine ⟨trivial, ?_, rfl⟩
      show some (Sum.inl (M1 33 8 0 i)) = _
      rw [e33]
  · refine JJ_e (k := 2) (by decide) (by decide) hR ?_ (fun M1 e33 e26 => ?_)
    · refine am_cl_in am_c102 rfl ?_
      iterate 8 refine am_wp_step _ rfl ?_
      rw [show (am_S M).2.2 21 14 0 1 = nI k from w2]
      iterate 1 refine am_wp_step _ rfl ?_
      refine ⟨_, _, cl_f hg (c_within _ _ _ _ _), ?_⟩
      repeat' first | refine am_wp_step _ rfl ?_ | refine am_iteB (fun h => ?_) (fun h => ?_) | refine am_iteN (fun h => ?_) (fun h => ?_) | refine am_ite (fun h => ?_) (fun h => ?_) | refine ⟨_, _, c_err2 _ _, ?_⟩ | fail
      exact ⟨trivial, rfl, rfl⟩
    · refine am_cl_in am_c210 rfl ?_
      iterate 6 refine am_wp_step _ rfl ?_
      rw [show (am_S M1).2.2 26 0 0 16 = nI k from by show M1 26 0 0 16 = nI k; rw [e26]; exact w1]
      iterate 1 refine am_wp_step _ rfl ?_
      refine ⟨_, _, cl_f hg (m_within _ _ _ _ _), ?_⟩
      repeat' first | refine am_wp_step _ rfl ?_ | refine am_iteB (fun h => ?_) (fun h => ?_) | refine am_iteN (fun h => ?_) (fun h => ?_) | refine am_ite (fun h => ?_) (fun h => ?_) | refine ⟨_, _, m_find2 _ _, ?_⟩ | fail
      exact ⟨trivial, rfl, rfl⟩
theorem nI_nm1 {i : Nat} (h : i < 2 ^ 31) : nI i ≠ -1 := fun q => by
  have := nI_pos h
  rw [q] at this
  exact this (by decide)
theorem c_ateAll (d n m : Nat) (o : Nat → Nat) (a : Nat → Int32) (M : am_F) (hn : n ≤ 8) (hB : RB M 0 n m o a) : am_cl am_cds (d + 1) 12 [.inr (.inr (16, 0, 0))] (am_S M) (some (.inl (smF a 7 (-1) n))) (am_S M) := by
  refine am_cl_in am_c12 rfl ?_
  iterate 4 refine am_wp_step _ rfl ?_
  refine am_for2 4 (fun x y => [(0, .inr (.inr (16, 0, 0))), (1, .inl x), (2, .inl y)]) (fun i x y M1 => y = nI i ∧ x = smF a 7 (-1) i ∧ M1 = M) n ?_ ?_ 0 0 0 M (Nat.zero_le _) ⟨nI_0.symm, rfl, rfl⟩
  · intro i x y M1 hi hP K
    obtain ⟨hy, hx, rfl⟩ := hP
    iterate 4 refine am_wp_step _ rfl ?_
    refine am_iteF (by show ¬ M1 16 0 0 1 ≤ y; rw [hB.1, hy]; exact nI_ge hi (by omega)) ?_
    iterate 5 refine am_wp_step _ rfl ?_
    refine am_ixN (i) (hy) (show _ < 8 by omega) (show (8 : Nat) < 2 ^ 31 by decide) (fun e => ?_); rw [e]
    iterate 5 refine am_wp_step _ rfl ?_
    refine K _ _ _ ⟨by rw [hy, nI_1], ?_, rfl⟩
    show x + M1 18 0 i 7 = smF a 7 (-1) i + _
    rw [RB_gv hi (by decide) hB, hx, if_neg (nI_nm1 (by omega))]
  · intro x y M1 hP
    obtain ⟨hy, hx, rfl⟩ := hP
    iterate 4 refine am_wp_step _ rfl ?_
    refine am_iteT (by show M1 16 0 0 1 ≤ y; rw [hB.1, hy]; exact nI_le (Nat.le_refl _) (by omega)) ?_
    iterate 2 refine am_wp_step _ rfl ?_
    exact ⟨trivial, by rw [hx], rfl⟩
def smH (a : Nat → Int32) : Nat → Int32
  | 0 => 0
  | i + 1 => smH a i + a (74 + 5 * i + 2)
theorem c_heatAll (d n m : Nat) (o : Nat → Nat) (a : Nat → Int32) (M : am_F) (hm : m ≤ 8) (hB : RB M 0 n m o a) : am_cl am_cds (d + 1) 13 [.inr (.inr (16, 0, 0))] (am_S M) (some (.inl (smH a m))) (am_S M) := by
  refine am_cl_in am_c13 rfl ?_
  iterate 4 refine am_wp_step _ rfl ?_
  refine am_for2 4 (fun x y => [(0, .inr (.inr (16, 0, 0))), (1, .inl x), (2, .inl y)]) (fun i x y M1 => y = nI i ∧ x = smH a i ∧ M1 = M) m ?_ ?_ 0 0 0 M (Nat.zero_le _) ⟨nI_0.symm, rfl, rfl⟩
  · intro i x y M1 hi hP K
    obtain ⟨hy, hx, rfl⟩ := hP
    iterate 4 refine am_wp_step _ rfl ?_
    refine am_iteF (by show ¬ M1 16 0 0 3 ≤ y; rw [hB.2.1, hy]; exact nI_ge hi (by omega)) ?_
    iterate 5 refine am_wp_step _ rfl ?_
    refine am_ixN (i) (hy) (show _ < 8 by omega) (show (8 : Nat) < 2 ^ 31 by decide) (fun e => ?_); rw [e]
    iterate 5 refine am_wp_step _ rfl ?_
    refine K _ _ _ ⟨by rw [hy, nI_1], ?_, rfl⟩
    show x + M1 17 0 i 2 = smH a i + _
    rw [RB_hv hi (by decide) hB, hx]
  · intro x y M1 hP
    obtain ⟨hy, hx, rfl⟩ := hP
    iterate 4 refine am_wp_step _ rfl ?_
    refine am_iteT (by show M1 16 0 0 3 ≤ y; rw [hB.2.1, hy]; exact nI_le (Nat.le_refl _) (by omega)) ?_
    iterate 2 refine am_wp_step _ rfl ?_
    exact ⟨trivial, by rw [hx], rfl⟩
theorem jj_count (x : Int32) : JJ 111 220 [.inl x] := by
  intro M hR
  obtain ⟨n, m, a, ha, hG, hB, hab, hT0, hT1, hW4, hW5, hz, hbl, hBY, h288, hTC⟩ := RC_get hR; have hn := hB.1; have hm := hB.2.1; have hn8 := hG.1; have hm8 := hG.2.1; have hX0 := hG.2.2.2.2.2.2.1; have hX1 := hG.2.2.2.2.2.2.2; have ho : ∀ i, i < n → odr a n i < n := (fun i hi => odr_lt hi)
  have hT := hR.2.2.2.2.1
  by_cases hg : 0 ≤ x ∧ x ≤ 9
  · obtain ⟨k, hk, rfl⟩ := wI_ex (b := 9) hg (by decide)
    have h5 : ∀ (M1 : am_F), M1 33 0 0 = a → am_cl am_cds 1000 220 [.inr (.inr (26, 0, 0)), .inl 5] (am_S M1) (some (.inl (smH a m))) (am_S M1) := by
      intro M1 ea
      have em : M1 33 0 0 2 = nI m := by rw [ea]; exact hG.2.2.2.1
      refine am_cl_in am_c220 rfl ?_
      iterate 6 refine am_wp_step _ rfl ?_
      refine am_for2 21 (fun u w => [(0, .inr (.inr (26, 0, 0))), (1, .inl 5), (2, .inl u), (3, .inl w)]) (fun i u w M2 => w = nI i ∧ u = smH a i ∧ M2 = M1) m ?_ ?_ 0 0 0 M1 (Nat.zero_le _) ⟨nI_0.symm, rfl, rfl⟩
      · intro i u w M2 hi hP K
        obtain ⟨hw, hu, rfl⟩ := hP
        subst hw
        iterate 5 refine am_wp_step _ rfl ?_
        refine am_andv (by unfold vp_in; decide) ?_
        iterate 1 refine am_wp_step _ rfl ?_
        refine am_iteF (by show ¬ M2 33 0 0 2 ≤ nI i; rw [em]; exact nI_ge hi (by omega)) ?_
        iterate 5 refine am_wp_step _ rfl ?_
        refine ⟨_, _, m_dishIs _ i 2 M2 (by omega) (by decide), ?_⟩
        iterate 4 refine am_wp_step _ rfl ?_
        refine K _ _ _ ⟨nI_1 i, ?_, rfl⟩
        rw [ea, hu]
        rfl
      · intro u w M2 hP
        obtain ⟨hw, hu, rfl⟩ := hP
        subst hw
        iterate 5 refine am_wp_step _ rfl ?_
        refine am_andv (by unfold vp_in; decide) ?_
        iterate 1 refine am_wp_step _ rfl ?_
        refine am_iteT (by show M2 33 0 0 2 ≤ nI m; rw [em]; exact nI_le (Nat.le_refl _) (by omega)) ?_
        iterate 2 refine am_wp_step _ rfl ?_
        exact ⟨trivial, by rw [hu], rfl⟩
    obtain ⟨k4, -, u2, u3, -⟩ := hW4
    obtain ⟨k5, -, v2, v3, -⟩ := hW5
    obtain ⟨k8, -, t2, t3, -⟩ := hT
    have hb0 : M 16 0 0 5 = a 0 := hB.2.2.1
    rcases (by omega : k = 0 ∨ k = 1 ∨ k = 2 ∨ k = 3 ∨ k = 4 ∨ k = 5 ∨ k = 6 ∨ k = 7 ∨ k = 8 ∨ k = 9) with rfl | rfl | rfl | rfl | rfl | rfl | rfl | rfl | rfl | rfl
    · refine JJ_q (v := a 0) hR ⟨M, ?_, cS_rf⟩ (fun M1 e33 e26 => ⟨M1, ?_, kq_rf⟩)
      · refine am_cl_in am_c111 rfl ?_
        repeat' first | refine am_wp_step _ rfl ?_ | refine am_iteB (fun h => ?_) (fun h => ?_) | refine am_iteN (fun h => ?_) (fun h => ?_) | refine am_ite (fun h => ?_) (fun h => ?_) | fail
        exact ⟨trivial, by rw [← hb0], rfl⟩
      · have ea : M1 33 0 0 = a := (by rw [e33]; exact ha); have en : M1 33 0 0 1 = nI n := (by rw [ea]; exact hG.2.2.1); have em : M1 33 0 0 2 = nI m := (by rw [ea]; exact hG.2.2.2.1)
        refine am_cl_in am_c220 rfl ?_
        repeat' first | refine am_wp_step _ rfl ?_ | refine am_iteB (fun h => ?_) (fun h => ?_) | refine am_iteN (fun h => ?_) (fun h => ?_) | refine am_ite (fun h => ?_) (fun h => ?_) | refine am_andv (by unfold vp_in; decide) ?_ | fail
        exact ⟨trivial, by rw [← ea]; rfl, rfl⟩
    · refine JJ_q (v := nI n) hR ⟨M, ?_, cS_rf⟩ (fun M1 e33 e26 => ⟨M1, ?_, kq_rf⟩)
      · refine am_cl_in am_c111 rfl ?_
        repeat' first | refine am_wp_step _ rfl ?_ | refine am_iteB (fun h => ?_) (fun h => ?_) | refine am_iteN (fun h => ?_) (fun h => ?_) | refine am_ite (fun h => ?_) (fun h => ?_) | fail
        exact ⟨trivial, by rw [← hn], rfl⟩
      · have ea : M1 33 0 0 = a := (by rw [e33]; exact ha); have en : M1 33 0 0 1 = nI n := (by rw [ea]; exact hG.2.2.1); have em : M1 33 0 0 2 = nI m := (by rw [ea]; exact hG.2.2.2.1)
        refine am_cl_in am_c220 rfl ?_
        repeat' first | refine am_wp_step _ rfl ?_ | refine am_iteB (fun h => ?_) (fun h => ?_) | refine am_iteN (fun h => ?_) (fun h => ?_) | refine am_ite (fun h => ?_) (fun h => ?_) | refine am_andv (by unfold vp_in; decide) ?_ | fail
        exact ⟨trivial, by rw [← en]; rfl, rfl⟩
    · refine JJ_q (v := nI m) hR ⟨M, ?_, cS_rf⟩ (fun M1 e33 e26 => ⟨M1, ?_, kq_rf⟩)
      · refine am_cl_in am_c111 rfl ?_
        repeat' first | refine am_wp_step _ rfl ?_ | refine am_iteB (fun h => ?_) (fun h => ?_) | refine am_iteN (fun h => ?_) (fun h => ?_) | refine am_ite (fun h => ?_) (fun h => ?_) | fail
        exact ⟨trivial, by rw [← hm], rfl⟩
      · have ea : M1 33 0 0 = a := (by rw [e33]; exact ha); have en : M1 33 0 0 1 = nI n := (by rw [ea]; exact hG.2.2.1); have em : M1 33 0 0 2 = nI m := (by rw [ea]; exact hG.2.2.2.1)
        refine am_cl_in am_c220 rfl ?_
        repeat' first | refine am_wp_step _ rfl ?_ | refine am_iteB (fun h => ?_) (fun h => ?_) | refine am_iteN (fun h => ?_) (fun h => ?_) | refine am_ite (fun h => ?_) (fun h => ?_) | refine am_andv (by unfold vp_in; decide) ?_ | fail
        exact ⟨trivial, by rw [← em]; rfl, rfl⟩
    · refine JJ_q (v := smF a 6 (-1) n) hR ⟨M, ?_, cS_rf⟩ (fun M1 e33 e26 => ⟨M1, ?_, kq_rf⟩)
      · refine am_cl_in am_c111 rfl ?_
        repeat' first | refine am_wp_step _ rfl ?_ | refine am_iteB (fun h => ?_) (fun h => ?_) | refine am_iteN (fun h => ?_) (fun h => ?_) | refine am_ite (fun h => ?_) (fun h => ?_) | refine ⟨_, _, c_angers _ 0 n m _ (-1) a M hn8 hB hab, ?_⟩ | fail
        exact ⟨trivial, rfl, rfl⟩
      · have ea : M1 33 0 0 = a := (by rw [e33]; exact ha); have en : M1 33 0 0 1 = nI n := (by rw [ea]; exact hG.2.2.1); have em : M1 33 0 0 2 = nI m := (by rw [ea]; exact hG.2.2.2.1)
        refine am_cl_in am_c220 rfl ?_
        repeat' first | refine am_wp_step _ rfl ?_ | refine am_iteB (fun h => ?_) (fun h => ?_) | refine am_iteN (fun h => ?_) (fun h => ?_) | refine am_ite (fun h => ?_) (fun h => ?_) | refine ⟨_, _, m_sumOf _ 6 n (-1) M1 (by decide) hn8 en, ?_⟩ | fail
        exact ⟨trivial, by rw [ea], rfl⟩
    · refine JJ_q (v := smF a 7 (-1) n) hR ⟨M, ?_, cS_rf⟩ (fun M1 e33 e26 => ⟨M1, ?_, kq_rf⟩)
      · refine am_cl_in am_c111 rfl ?_
        repeat' first | refine am_wp_step _ rfl ?_ | refine am_iteB (fun h => ?_) (fun h => ?_) | refine am_iteN (fun h => ?_) (fun h => ?_) | refine am_ite (fun h => ?_) (fun h => ?_) | refine ⟨_, _, c_ateAll _ n m _ a M hn8 hB, ?_⟩ | fail
        exact ⟨trivial, rfl, rfl⟩
      · have ea : M1 33 0 0 = a := (by rw [e33]; exact ha); have en : M1 33 0 0 1 = nI n := (by rw [ea]; exact hG.2.2.1); have em : M1 33 0 0 2 = nI m := (by rw [ea]; exact hG.2.2.2.1)
        refine am_cl_in am_c220 rfl ?_
        repeat' first | refine am_wp_step _ rfl ?_ | refine am_iteB (fun h => ?_) (fun h => ?_) | refine am_iteN (fun h => ?_) (fun h => ?_) | refine am_ite (fun h => ?_) (fun h => ?_) | refine ⟨_, _, m_sumOf _ 7 n (-1) M1 (by decide) hn8 en, ?_⟩ | fail
        exact ⟨trivial, by rw [ea], rfl⟩
    · refine JJ_q (v := smH a m) hR ⟨M, ?_, cS_rf⟩ (fun M1 e33 e26 => ⟨M1, ?_, kq_rf⟩)
      · refine am_cl_in am_c111 rfl ?_
        repeat' first | refine am_wp_step _ rfl ?_ | refine am_iteB (fun h => ?_) (fun h => ?_) | refine am_iteN (fun h => ?_) (fun h => ?_) | refine am_ite (fun h => ?_) (fun h => ?_) | refine ⟨_, _, c_heatAll _ n m _ a M hm8 hB, ?_⟩ | fail
        exact ⟨trivial, rfl, rfl⟩
      · have ea : M1 33 0 0 = a := (by rw [e33]; exact ha); have en : M1 33 0 0 1 = nI n := (by rw [ea]; exact hG.2.2.1); have em : M1 33 0 0 2 = nI m := (by rw [ea]; exact hG.2.2.2.1)
        exact h5 M1 ea
    · refine JJ_q (v := a 3) hR ⟨M, ?_, cS_rf⟩ (fun M1 e33 e26 => ⟨M1, ?_, kq_rf⟩)
      · refine am_cl_in am_c111 rfl ?_
        repeat' first | refine am_wp_step _ rfl ?_ | refine am_iteB (fun h => ?_) (fun h => ?_) | refine am_iteN (fun h => ?_) (fun h => ?_) | refine am_ite (fun h => ?_) (fun h => ?_) | fail
        exact ⟨trivial, by rw [u2, ← u3], rfl⟩
      · have ea : M1 33 0 0 = a := (by rw [e33]; exact ha); have en : M1 33 0 0 1 = nI n := (by rw [ea]; exact hG.2.2.1); have em : M1 33 0 0 2 = nI m := (by rw [ea]; exact hG.2.2.2.1)
        refine am_cl_in am_c220 rfl ?_
        repeat' first | refine am_wp_step _ rfl ?_ | refine am_iteB (fun h => ?_) (fun h => ?_) | refine am_iteN (fun h => ?_) (fun h => ?_) | refine am_ite (fun h => ?_) (fun h => ?_) | refine am_andv (by unfold vp_in; decide) ?_ | fail
        exact ⟨trivial, by rw [← ea]; rfl, rfl⟩
    · refine JJ_q (v := a 4) hR ⟨M, ?_, cS_rf⟩ (fun M1 e33 e26 => ⟨M1, ?_, kq_rf⟩)
      · refine am_cl_in am_c111 rfl ?_
        repeat' first | refine am_wp_step _ rfl ?_ | refine am_iteB (fun h => ?_) (fun h => ?_) | refine am_iteN (fun h => ?_) (fun h => ?_) | refine am_ite (fun h => ?_) (fun h => ?_) | fail
        exact ⟨trivial, by rw [v2, ← v3], rfl⟩
      · have ea : M1 33 0 0 = a := (by rw [e33]; exact ha); have en : M1 33 0 0 1 = nI n := (by rw [ea]; exact hG.2.2.1); have em : M1 33 0 0 2 = nI m := (by rw [ea]; exact hG.2.2.2.1)
        refine am_cl_in am_c220 rfl ?_
        repeat' first | refine am_wp_step _ rfl ?_ | refine am_iteB (fun h => ?_) (fun h => ?_) | refine am_iteN (fun h => ?_) (fun h => ?_) | refine am_ite (fun h => ?_) (fun h => ?_) | refine am_andv (by unfold vp_in; decide) ?_ | fail
        exact ⟨trivial, by rw [← ea]; rfl, rfl⟩
    · refine JJ_q (v := M 26 0 0 16) hR ⟨M, ?_, cS_rf⟩ (fun M1 e33 e26 => ⟨M1, ?_, kq_rf⟩)
      · refine am_cl_in am_c111 rfl ?_
        repeat' first | refine am_wp_step _ rfl ?_ | refine am_iteB (fun h => ?_) (fun h => ?_) | refine am_iteN (fun h => ?_) (fun h => ?_) | refine am_ite (fun h => ?_) (fun h => ?_) | fail
        exact ⟨trivial, by rw [t2, ← t3], rfl⟩
      · refine am_cl_in am_c220 rfl ?_
        repeat' first | refine am_wp_step _ rfl ?_ | refine am_iteB (fun h => ?_) (fun h => ?_) | refine am_iteN (fun h => ?_) (fun h => ?_) | refine am_ite (fun h => ?_) (fun h => ?_) | fail
        exact ⟨trivial, by rw [← e26], rfl⟩
    · refine JJ_q (v := a 5) hR ⟨M, ?_, cS_rf⟩ (fun M1 e33 e26 => ⟨M1, ?_, kq_rf⟩)
      · refine am_cl_in am_c111 rfl ?_
        repeat' first | refine am_wp_step _ rfl ?_ | refine am_iteB (fun h => ?_) (fun h => ?_) | refine am_iteN (fun h => ?_) (fun h => ?_) | refine am_ite (fun h => ?_) (fun h => ?_) | fail
        exact ⟨trivial, by rw [← hz], rfl⟩
      · have ea : M1 33 0 0 = a := (by rw [e33]; exact ha); have en : M1 33 0 0 1 = nI n := (by rw [ea]; exact hG.2.2.1); have em : M1 33 0 0 2 = nI m := (by rw [ea]; exact hG.2.2.2.1)
        refine am_cl_in am_c220 rfl ?_
        repeat' first | refine am_wp_step _ rfl ?_ | refine am_iteB (fun h => ?_) (fun h => ?_) | refine am_iteN (fun h => ?_) (fun h => ?_) | refine am_ite (fun h => ?_) (fun h => ?_) | refine am_andv (by unfold vp_in; decide) ?_ | fail
        exact ⟨trivial, by rw [← ea]; rfl, rfl⟩
  · have hne : x ≠ 0 ∧ x ≠ 1 ∧ x ≠ 2 ∧ x ≠ 3 ∧ x ≠ 4 ∧ x ≠ 5 ∧ x ≠ 6 ∧ x ≠ 7 ∧ x ≠ 8 ∧ x ≠ 9 := by
      refine ⟨?_, ?_, ?_, ?_, ?_, ?_, ?_, ?_, ?_, ?_⟩ <;> (intro q; exact hg (by rw [q]; decide))
    obtain ⟨n0, n1, n2, n3, n4, n5, n6, n7, n8, n9⟩ := hne
    refine JJ_e (k := 1) (by decide) (by decide) hR ?_ (fun M1 e33 e26 => ?_)
    · refine am_cl_in am_c111 rfl ?_
      iterate 2 refine am_wp_step _ rfl ?_
      refine am_iteF n0 (am_iteF n1 (am_iteF n2 (am_iteF n3 (am_iteF n4 (am_iteF n5 (am_iteF n6 (am_iteF n7 (am_iteF n8 (am_iteF n9 ?_)))))))))
      repeat' first | refine am_wp_step _ rfl ?_ | refine am_iteB (fun h => ?_) (fun h => ?_) | refine am_iteN (fun h => ?_) (fun h => ?_) | refine am_ite (fun h => ?_) (fun h => ?_) | refine ⟨_, _, c_err1 _ _, ?_⟩ | fail
      exact ⟨trivial, rfl, rfl⟩
    · have ea : M1 33 0 0 = a := (by rw [e33]; exact ha); have en : M1 33 0 0 1 = nI n := (by rw [ea]; exact hG.2.2.1); have em : M1 33 0 0 2 = nI m := (by rw [ea]; exact hG.2.2.2.1)
      refine am_cl_in am_c220 rfl ?_
      iterate 4 refine am_wp_step _ rfl ?_
      refine am_iteF n0 (am_iteF n1 (am_iteF n2 (am_iteF n3 (am_iteF n4 (am_iteF n5 (am_iteF n6 (am_iteF n7 (am_iteF n8 (am_iteF n9 ?_)))))))))
      repeat' first | refine am_wp_step _ rfl ?_ | refine am_iteB (fun h => ?_) (fun h => ?_) | refine am_iteN (fun h => ?_) (fun h => ?_) | refine am_ite (fun h => ?_) (fun h => ?_) | refine ⟨_, _, m_find1 _ _, ?_⟩ | fail
      exact ⟨trivial, rfl, rfl⟩
