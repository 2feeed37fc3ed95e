/-! EAT, MARRY, LAW, AS, TRACE, COUNT -/
theorem c_isUse (d : Nat) (x : Int32) (me : am_M) : am_cl am_cds (d + 1) 117 [.inl x] me (some (.inl (bI (x = 0 ∨ x = 1)))) me := by
  refine am_cl_in am_c117 rfl ?_
  repeat' first | refine am_wp_step _ rfl ?_ | refine am_iteB (fun h => ?_) (fun h => ?_) | refine am_iteN (fun h => ?_) (fun h => ?_) | refine am_ite (fun h => ?_) (fun h => ?_) | fail
  all_goals
    refine ⟨by first | exact Or.inl rfl | exact Or.inr rfl, ?_, rfl⟩
    unfold bI
    grind
theorem c_textOf (d u : Nat) (me : am_M) (hu : u = 0 ∨ u = 1) : am_cl am_cds (d + 1) 45 [.inr (.inr (20, 0, 0)), .inl (nI u)] (am_S me.2.2) (some (.inr (.inr (24, u, 0)))) (am_S me.2.2) := by
  refine am_cl_in am_c45 rfl ?_
  rcases hu with rfl | rfl
  · repeat' first | refine am_wp_step _ rfl ?_ | refine am_iteB (fun h => ?_) (fun h => ?_) | refine am_iteN (fun h => ?_) (fun h => ?_) | refine am_ite (fun h => ?_) (fun h => ?_) | fail
    first | exact ⟨trivial, rfl, rfl⟩ | exact ⟨rfl, rfl⟩
  · repeat' first | refine am_wp_step _ rfl ?_ | refine am_iteB (fun h => ?_) (fun h => ?_) | refine am_iteN (fun h => ?_) (fun h => ?_) | refine am_ite (fun h => ?_) (fun h => ?_) | fail
    first | exact ⟨trivial, rfl, rfl⟩ | exact ⟨rfl, rfl⟩
theorem jj_law (x p q r t : Int32) : JJ 89 180 [.inl x, .inl p, .inl q, .inl r, .inl t] := by
  intro M hR
  obtain ⟨n, m, a, ha, hG, hB, hab, hT0, hT1, hW4, hW5, hz, hbl, hBY, h288, hTC⟩ := RC_get hR; have hn := hB.1; have hm := hB.2.1; have hn8 := hG.1; have hm8 := hG.2.1; have hX0 := hG.2.2.2.2.2.2.1; have hX1 := hG.2.2.2.2.2.2.2; have ho : ∀ i, i < n → odr a n i < n := (fun i hi => odr_lt hi)
  by_cases hg : x = 0 ∨ x = 1
  · have hu : ∃ u : Nat, (u = 0 ∨ u = 1) ∧ x = nI u := by
      rcases hg with rfl | rfl
      · exact ⟨0, Or.inl rfl, rfl⟩
      · exact ⟨1, Or.inr rfl, rfl⟩
    obtain ⟨u, hu, rfl⟩ := hu
    have hg2 : (0 : Int32) ≤ nI u ∧ nI u ≤ 1 := by rcases hu with rfl | rfl <;> decide
    have hTu : RT M u u (tx a) := by rcases hu with rfl | rfl; exact hT0; exact hT1
    have hXu : WX (tx a) u := by rcases hu with rfl | rfl; exact hX0; exact hX1
    refine JJ_q (v := gv (tx a) u p q r t) hR ?_ (fun M1 e33 e26 => ?_)
    · refine am_cl_v (cS M) am_c89 rfl ?_
      iterate 2 refine am_wp_step _ rfl ?_
      refine ⟨_, _, cl_t hg (c_isUse _ _ _), ?_⟩
      iterate 5 refine am_wp_step _ rfl ?_
      refine ⟨_, _, c_textOf _ u (am_S M) hu, ?_⟩
      iterate 5 refine am_wp_step _ rfl ?_
      refine am_call1 (c_give _ u (tx a) p q r t M hu hTu hXu hTC) (fun M1 h1 => ?_)
      iterate 2 refine am_wp_step _ rfl ?_
      refine ⟨trivial, rfl, M1, rfl, ?_⟩
      rcases hu with rfl | rfl
      · exact cS_of h1
      · exact cS_of3 h1
    · have ea : M1 33 0 0 = a := (by rw [e33]; exact ha); have en : M1 33 0 0 1 = nI n := (by rw [ea]; exact hG.2.2.1); have em : M1 33 0 0 2 = nI m := (by rw [ea]; exact hG.2.2.2.1)
      obtain ⟨M2, c2, f2⟩ := m_given 996 u p q r t M1 hu (by rw [ea]; exact hXu)
      rw [ea] at c2
      refine ⟨M2, ?_, kq_G f2⟩
      refine am_cl_in am_c180 rfl ?_
      iterate 4 refine am_wp_step _ rfl ?_
      refine ⟨_, _, cl_t hg2 (m_within _ _ _ _ _), ?_⟩
      iterate 8 refine am_wp_step _ rfl ?_
      refine ⟨_, _, c2, ?_⟩
      iterate 2 refine am_wp_step _ rfl ?_
      exact ⟨trivial, rfl, rfl⟩
  · have hg2 : ¬ (0 ≤ x ∧ x ≤ 1) := fun q => hg (by obtain ⟨q1, q2⟩ := q; lia)
    refine JJ_e (k := 1) (by decide) (by decide) hR ?_ (fun M1 e33 e26 => ?_)
    · refine am_cl_in am_c89 rfl ?_
      repeat' first | refine am_wp_step _ rfl ?_ | refine am_iteB (fun h => ?_) (fun h => ?_) | refine am_iteN (fun h => ?_) (fun h => ?_) | refine am_ite (fun h => ?_) (fun h => ?_) | refine ⟨_, _, cl_f hg (c_isUse _ _ _), ?_⟩ | refine ⟨_, _, c_err1 _ _, ?_⟩ | fail
      exact ⟨trivial, rfl, rfl⟩
    · have ea : M1 33 0 0 = a := (by rw [e33]; exact ha); have en : M1 33 0 0 1 = nI n := (by rw [ea]; exact hG.2.2.1); have em : M1 33 0 0 2 = nI m := (by rw [ea]; exact hG.2.2.2.1)
      refine am_cl_in am_c180 rfl ?_
      repeat' first | refine am_wp_step _ rfl ?_ | refine am_iteB (fun h => ?_) (fun h => ?_) | refine am_iteN (fun h => ?_) (fun h => ?_) | refine am_ite (fun h => ?_) (fun h => ?_) | refine ⟨_, _, cl_f hg2 (m_within _ _ _ _ _), ?_⟩ | refine ⟨_, _, m_find1 _ _, ?_⟩ | fail
      exact ⟨trivial, rfl, rfl⟩
theorem jj_eat (x : Int32) : JJ 84 161 [.inl x] := by
  intro M hR
  obtain ⟨n, m, a, ha, hG, hB, hab, hT0, hT1, hW4, hW5, hz, hbl, hBY, h288, hTC⟩ := RC_get hR; have hn := hB.1; have hm := hB.2.1; have hn8 := hG.1; have hm8 := hG.2.1; have hX0 := hG.2.2.2.2.2.2.1; have hX1 := hG.2.2.2.2.2.2.2; have ho : ∀ i, i < n → odr a n i < n := (fun i hi => odr_lt hi)
  by_cases hg : isN x m
  · obtain ⟨i, hi, rfl⟩ := isN_ex hg (by omega)
    by_cases hp : a (74 + 5 * i + 1) = 0
    · refine JJ_e (k := 3) (by decide) (by decide) hR ?_ (fun M1 e33 e26 => ?_)
      · refine am_cl_in am_c84 rfl ?_
        iterate 3 refine am_wp_step _ rfl ?_
        refine ⟨_, _, cl_t hg (c_isDish _ _ _ hm), ?_⟩
        iterate 7 refine am_wp_step _ rfl ?_
        refine am_ixN (i) (rfl) (show _ < 8 by omega) (show (8 : Nat) < 2 ^ 31 by decide) (fun e => ?_); rw [e]
        iterate 4 refine am_wp_step _ rfl ?_
        refine am_iteF (by show ¬ M 17 0 i 1 ≠ 0; rw [RB_hv hi (by decide) hB, hp]; decide) ?_
        repeat' first | refine am_wp_step _ rfl ?_ | refine am_iteB (fun h => ?_) (fun h => ?_) | refine am_iteN (fun h => ?_) (fun h => ?_) | refine am_ite (fun h => ?_) (fun h => ?_) | refine ⟨_, _, c_err3 _ _, ?_⟩ | fail
        exact ⟨trivial, rfl, rfl⟩
      · have ea : M1 33 0 0 = a := (by rw [e33]; exact ha); have en : M1 33 0 0 1 = nI n := (by rw [ea]; exact hG.2.2.1); have em : M1 33 0 0 2 = nI m := (by rw [ea]; exact hG.2.2.2.1)
        refine am_cl_in am_c161 rfl ?_
        iterate 4 refine am_wp_step _ rfl ?_
        refine ⟨_, _, cl_t hg (m_isH _ _ _ em), ?_⟩
        iterate 13 refine am_wp_step _ rfl ?_
        refine am_ixN (74 + 5 * i + 1) (by simp only [nI_lit, nI_add, nI_mul]) (show _ < 288 by omega) (show (288 : Nat) < 2 ^ 31 by decide) (fun e => ?_); rw [e]
        iterate 1 refine am_wp_step _ rfl ?_
        refine am_iteF (by show ¬ M1 33 0 0 (74 + 5 * i + 1) ≠ 0; rw [ea, hp]; decide) ?_
        repeat' first | refine am_wp_step _ rfl ?_ | refine am_iteB (fun h => ?_) (fun h => ?_) | refine am_iteN (fun h => ?_) (fun h => ?_) | refine am_ite (fun h => ?_) (fun h => ?_) | refine ⟨_, _, m_find3 _ _, ?_⟩ | fail
        exact ⟨trivial, rfl, rfl⟩
    · have hh := (hG.2.2.2.2.2.1 i hi).2.1
      obtain ⟨q, hq, hqe⟩ := wI_ex (b := 3) hh (by decide)
      have e3 : M 17 0 i 3 = nI q := by rw [RB_hv hi (by decide) hB]; exact hqe
      have e1 : M 17 0 i 1 = a (74 + 5 * i + 1) := RB_hv hi (by decide) hB
      have e2 : M 17 0 i 2 = a (74 + 5 * i + 2) := RB_hv hi (by decide) hB
      have eh : M 28 0 0 q = a (6 + q) := hB.2.2.2.2.2.1 q (by omega)
      obtain ⟨M1, c1, f1⟩ := c_give 996 1 (tx a) (a (74 + 5 * i + 1)) (a (74 + 5 * i + 2)) (a (6 + q)) 0 M (Or.inr rfl) hT1 hX1 hTC
      generalize hw : sp_min (a (6 + q)) (gv (tx a) 1 (a (74 + 5 * i + 1)) (a (74 + 5 * i + 2)) (a (6 + q)) 0) = w
      have hf1 : rwF M M1 3 := f1
      have hB1 : RB M1 0 n m (odr a n) a := RB_cg (fun r hr => hf1 r 0 (by omega)) hB
      have g3 : M1 17 0 i 3 = nI q := by rw [hf1 17 0 (by omega)]; exact e3
      have hcl : am_cl am_cds 1000 84 [.inr (.inr (25, 0, 0)), .inl (nI i)] (am_S M) (some (.inl w)) (am_S (am_up (am_up (am_up M1 28 0 0 q (a (6 + q) - w)) 17 0 i 1 0) 17 0 i 4 (-1))) := by
        refine am_cl_in am_c84 rfl ?_
        iterate 3 refine am_wp_step _ rfl ?_
        refine ⟨_, _, cl_t hg (c_isDish _ _ _ hm), ?_⟩
        iterate 7 refine am_wp_step _ rfl ?_
        refine am_ixN (i) (rfl) (show _ < 8 by omega) (show (8 : Nat) < 2 ^ 31 by decide) (fun e => ?_); rw [e]
        iterate 4 refine am_wp_step _ rfl ?_
        refine am_iteT (by show M 17 0 i 1 ≠ 0; rw [e1]; exact hp) ?_
        iterate 7 refine am_wp_step _ rfl ?_
        refine am_ixN q e3 (show q < 4 by omega) (show (4 : Nat) < 2 ^ 31 by decide) (fun e => ?_)
        rw [show ((am_S M).2.2 (am_el 35) 0 i 3).toNatClampNeg = q from e, show (am_S M).2.2 28 0 0 q = a (6 + q) from eh]
        iterate 11 refine am_wp_step _ rfl ?_
        rw [show (am_S M).2.2 (am_el 35) 0 i 1 = a (74 + 5 * i + 1) from e1, show (am_S M).2.2 (am_el 35) 0 i 2 = a (74 + 5 * i + 2) from e2]
        iterate 1 refine am_wp_step _ rfl ?_
        refine ⟨_, _, c1, ?_⟩
        iterate 1 refine am_wp_step _ rfl ?_
        refine ⟨_, _, c_min _ _ _ _, ?_⟩
        rw [hw]
        iterate 11 refine am_wp_step _ rfl ?_
        refine am_ixN q g3 (show q < 4 by omega) (show (4 : Nat) < 2 ^ 31 by decide) (fun e => ?_)
        rw [show ((am_S M1).2.2 (am_el 35) 0 i 3).toNatClampNeg = q from e]
        iterate 8 refine am_wp_step _ rfl ?_
        exact ⟨trivial, rfl, rfl⟩
      generalize hX : am_up (am_up (am_up M1 28 0 0 q (a (6 + q) - w)) 17 0 i 1 0) 17 0 i 4 (-1) = X at hcl
      have hX33 : X 33 0 0 = a := by rw [← hX, am_up_r (by decide), am_up_r (by decide), am_up_r (by decide), hf1 33 0 (by omega)]; exact ha
      obtain ⟨M2, c2, f2⟩ := m_given 996 1 (a (74 + 5 * i + 1)) (a (74 + 5 * i + 2)) (a (6 + q)) 0 X (Or.inr rfl) (by rw [hX33]; exact hX1)
      rw [hX33] at c2
      have ea2 : M2 33 0 0 = a := by rw [f2 33 0 (by omega)]; exact hX33
      refine JJ_b (n := n) (m := m) (v := w) (M1 := X) (M2 := am_up (am_up (am_up M2 33 0 0 (6 + q) (a (6 + q) - w)) 33 0 0 (74 + 5 * i + 1) 0) 33 0 0 (74 + 5 * i + 4) (-1)) (a' := fu (fu (fu a (6 + q) (a (6 + q) - w)) (74 + 5 * i + 1) 0) (74 + 5 * i + 4) (-1)) hR ha hcl ?_ ?_ (kB_tr (kB_G f2) (kB_tr kB_up (kB_tr kB_up kB_up))) ?_ ?_ ?_ ?_ ?_ ?_
      · refine am_cl_in am_c161 rfl ?_
        have em : X 33 0 0 2 = nI m := by rw [hX33]; exact hG.2.2.2.1
        iterate 4 refine am_wp_step _ rfl ?_
        refine ⟨_, _, cl_t hg (m_isH _ _ _ em), ?_⟩
        iterate 13 refine am_wp_step _ rfl ?_
        refine am_ixN (74 + 5 * i + 1) (by simp only [nI_lit, nI_add, nI_mul]) (show _ < 288 by omega) (show (288 : Nat) < 2 ^ 31 by decide) (fun e => ?_); rw [e]
        iterate 1 refine am_wp_step _ rfl ?_
        refine am_iteT (by show X 33 0 0 (74 + 5 * i + 1) ≠ 0; rw [hX33]; exact hp) ?_
        iterate 7 refine am_wp_step _ rfl ?_
        refine am_ixN (74 + 5 * i + 3) (by simp only [nI_lit, nI_add, nI_mul]) (show _ < 288 by omega) (show (288 : Nat) < 2 ^ 31 by decide) (fun e => ?_); rw [e]
        rw [show (am_S X).2.2 33 0 0 (74 + 5 * i + 3) = nI q from by show X 33 0 0 (74 + 5 * i + 3) = nI q; rw [hX33]; exact hqe]
        iterate 6 refine am_wp_step _ rfl ?_
        refine am_ixN (6 + q) (by simp only [nI_lit, nI_add, nI_mul]) (show _ < 288 by omega) (show (288 : Nat) < 2 ^ 31 by decide) (fun e => ?_); rw [e]
        iterate 8 refine am_wp_step _ rfl ?_
        refine am_ixN (74 + 5 * i + 1) (by simp only [nI_lit, nI_add, nI_mul]) (show _ < 288 by omega) (show (288 : Nat) < 2 ^ 31 by decide) (fun e => ?_); rw [e]
        iterate 6 refine am_wp_step _ rfl ?_
        refine am_ixN (74 + 5 * i + 2) (by simp only [nI_lit, nI_add, nI_mul]) (show _ < 288 by omega) (show (288 : Nat) < 2 ^ 31 by decide) (fun e => ?_); rw [e]
        iterate 4 refine am_wp_step _ rfl ?_
        refine am_ixN (6 + q) (by simp only [nI_lit, nI_add, nI_mul]) (show _ < 288 by omega) (show (288 : Nat) < 2 ^ 31 by decide) (fun e => ?_); rw [e]
        iterate 1 refine am_wp_step _ rfl ?_
        rw [show (am_S X).2.2 33 0 0 (74 + 5 * i + 1) = a (74 + 5 * i + 1) from by show X 33 0 0 (74 + 5 * i + 1) = _; rw [hX33], show (am_S X).2.2 33 0 0 (74 + 5 * i + 2) = a (74 + 5 * i + 2) from by show X 33 0 0 (74 + 5 * i + 2) = _; rw [hX33], show (am_S X).2.2 33 0 0 (6 + q) = a (6 + q) from by show X 33 0 0 (6 + q) = _; rw [hX33]]
        iterate 1 refine am_wp_step _ rfl ?_
        refine ⟨_, _, c2, ?_⟩
        iterate 1 refine am_wp_step _ rfl ?_
        refine ⟨_, _, c_min _ _ _ _, ?_⟩
        rw [hw]
        iterate 6 refine am_wp_step _ rfl ?_
        refine am_ixN (6 + q) (by simp only [nI_lit, nI_add, nI_mul]) (show _ < 288 by omega) (show (288 : Nat) < 2 ^ 31 by decide) (fun e => ?_); rw [e]
        iterate 3 refine am_wp_step _ rfl ?_
        refine am_ixN (6 + q) (by simp only [nI_lit, nI_add, nI_mul]) (show _ < 288 by omega) (show (288 : Nat) < 2 ^ 31 by decide) (fun e => ?_); rw [e]
        iterate 7 refine am_wp_step _ rfl ?_
        refine am_ixN (74 + 5 * i + 1) (by simp only [nI_lit, nI_add, nI_mul]) (show _ < 288 by omega) (show (288 : Nat) < 2 ^ 31 by decide) (fun e => ?_); rw [e]
        iterate 7 refine am_wp_step _ rfl ?_
        refine am_ixN (74 + 5 * i + 4) (by simp only [nI_lit, nI_add, nI_mul]) (show _ < 288 by omega) (show (288 : Nat) < 2 ^ 31 by decide) (fun e => ?_); rw [e]
        iterate 2 refine am_wp_step _ rfl ?_
        refine ⟨trivial, rfl, ?_⟩
        rw [show (am_S M2).2.2 33 0 0 (6 + q) = a (6 + q) from by show M2 33 0 0 (6 + q) = _; rw [ea2]]
      · rw [← hX]
        exact FX_tr (FX_rw hf1 (by omega)) (FX_tr (FX_up (by omega)) (FX_tr (FX_up (by omega)) (FX_up (by omega))))
      · rw [am_up_fu, am_up_fu, am_up_fu, ea2]
      · exact GA_h hi (by decide) (by unfold okH; exact ⟨fun q => by omega, fun q => by omega, fun _ => by decide⟩) (GA_h hi (by decide) (by unfold okH; exact ⟨fun q => by omega, fun q => by omega, fun q => by omega⟩) (GA_fu (by omega) (by omega) hG))
      · rw [odr_h hn8, odr_h hn8, odr_u (by omega), ← hX]
        exact RB_h hn8 hi (by decide) (RB_h hn8 hi (by decide) (RB_u (by omega) hB1))
      · rw [← hX, am_up_r (by decide), am_up_r (by decide), am_up_r (by decide), hf1 16 0 (by omega)]
        exact hab
      · rw [fu_ne (by omega), fu_ne (by omega), fu_ne (by omega)]
        exact hbl
      · intro c hc
        rw [fu_ne (by omega), fu_ne (by omega), fu_ne (by omega)]
  · refine JJ_e (k := 1) (by decide) (by decide) hR ?_ (fun M1 e33 e26 => ?_)
    · refine am_cl_in am_c84 rfl ?_
      repeat' first | refine am_wp_step _ rfl ?_ | refine am_iteB (fun h => ?_) (fun h => ?_) | refine am_iteN (fun h => ?_) (fun h => ?_) | refine am_ite (fun h => ?_) (fun h => ?_) | refine ⟨_, _, c_isDead _ _ _ hn, ?_⟩ | refine ⟨_, _, c_isDish _ _ _ hm, ?_⟩ | refine ⟨_, _, c_within _ _ _ _ _, ?_⟩ | refine ⟨_, _, c_isKM _ _ _, ?_⟩ | refine ⟨_, _, c_isHouse _ _ _, ?_⟩ | refine ⟨_, _, c_isAhead _ _ _, ?_⟩ | refine ⟨_, _, c_isSheet _ _ _, ?_⟩ | refine ⟨_, _, c_mostOf _ _ _, ?_⟩ | refine ⟨_, _, c_err1 _ _, ?_⟩ | refine ⟨_, _, c_err2 _ _, ?_⟩ | refine ⟨_, _, c_err3 _ _, ?_⟩ | refine ⟨_, _, c_err4 _ _, ?_⟩ | refine ⟨_, _, c_err5 _ _, ?_⟩ | refine ⟨by decide, ?_⟩ | fail
      all_goals first | exact ⟨trivial, rfl, rfl⟩ | (exfalso; clear hR hG hB hT0 hT1 hW4 hW5 hBY h288 hTC hX0 hX1; grind)
    · have ea : M1 33 0 0 = a := (by rw [e33]; exact ha); have en : M1 33 0 0 1 = nI n := (by rw [ea]; exact hG.2.2.1); have em : M1 33 0 0 2 = nI m := (by rw [ea]; exact hG.2.2.2.1)
      refine am_cl_in am_c161 rfl ?_
      repeat' first | refine am_wp_step _ rfl ?_ | refine am_iteB (fun h => ?_) (fun h => ?_) | refine am_iteN (fun h => ?_) (fun h => ?_) | refine am_ite (fun h => ?_) (fun h => ?_) | refine ⟨_, _, m_isD _ _ _ en, ?_⟩ | refine ⟨_, _, m_isH _ _ _ em, ?_⟩ | refine ⟨_, _, m_within _ _ _ _ _, ?_⟩ | refine ⟨_, _, m_isHouse _ _ _, ?_⟩ | refine ⟨_, _, m_isAhead _ _ _, ?_⟩ | refine ⟨_, _, m_isSheet _ _ _, ?_⟩ | refine ⟨_, _, m_find1 _ _, ?_⟩ | refine ⟨_, _, m_find2 _ _, ?_⟩ | refine ⟨_, _, m_find3 _ _, ?_⟩ | refine ⟨_, _, m_find4 _ _, ?_⟩ | refine ⟨_, _, m_find5 _ _, ?_⟩ | refine am_andv (by unfold vp_in; decide) ?_ | refine ⟨by decide, ?_⟩ | fail
      all_goals first | exact ⟨trivial, rfl, rfl⟩ | (exfalso; clear hR hG hB hT0 hT1 hW4 hW5 hBY h288 hTC hX0 hX1; grind)
theorem fu_self {a : Nat → Int32} {c : Nat} : fu a c (a c) = a := by
  funext q
  unfold fu
  split
  · rename_i h; rw [h]
  · rfl
def mgK (a : Nat → Int32) (x y : Int32) : Nat → Nat → Int32
  | 0 => a
  | k + 1 => if mgK a x y k (10 + 8 * k + 2) = y then fu (mgK a x y k) (10 + 8 * k + 2) x else mgK a x y k
def mgC (a : Nat → Int32) (x y : Int32) : Nat → Int32
  | 0 => 0
  | k + 1 => if mgK a x y k (10 + 8 * k + 2) = y then mgC a x y k + 1 else mgC a x y k
def mhK (a : Nat → Int32) (x y : Int32) : Nat → Nat → Int32
  | 0 => a
  | k + 1 => fu (mhK a x y k) (74 + 5 * k + 3) (if mhK a x y k (74 + 5 * k + 3) = y then x else mhK a x y k (74 + 5 * k + 3))
theorem mgK_s (a : Nat → Int32) (x y : Int32) (k : Nat) : mgK a x y (k + 1) = if mgK a x y k (10 + 8 * k + 2) = y then fu (mgK a x y k) (10 + 8 * k + 2) x else mgK a x y k := rfl
theorem mgC_s (a : Nat → Int32) (x y : Int32) (k : Nat) : mgC a x y (k + 1) = if mgK a x y k (10 + 8 * k + 2) = y then mgC a x y k + 1 else mgC a x y k := rfl
theorem mhK_s (a : Nat → Int32) (x y : Int32) (k : Nat) : mhK a x y (k + 1) = fu (mhK a x y k) (74 + 5 * k + 3) (if mhK a x y k (74 + 5 * k + 3) = y then x else mhK a x y k (74 + 5 * k + 3)) := rfl
theorem mgK_g {n m k : Nat} {a : Nat → Int32} {x y : Int32} (hx : 0 ≤ x ∧ x ≤ 3) (hk : k ≤ n) (hG : GA n m a) : GA n m (mgK a x y k) ∧ odr (mgK a x y k) n = odr a n ∧ ∀ c, c < 10 ∨ 74 ≤ c → mgK a x y k c = a c := by
  induction k with
  | zero => exact ⟨hG, rfl, fun _ _ => rfl⟩
  | succ k ih =>
    obtain ⟨i1, i2, i3⟩ := ih (by omega)
    have hn := hG.1
    rw [mgK_s]
    split
    · exact ⟨GA_g (by omega) (by decide) (by unfold okG; exact ⟨fun q => by omega, fun _ => hx, fun q => by omega, fun q => by omega, fun q => by omega⟩) i1, by rw [odr_g (by decide) (by decide)]; exact i2, fun c hc => by rw [fu_ne (by omega)]; exact i3 c hc⟩
    · exact ⟨i1, i2, i3⟩
theorem mhK_g {n m k : Nat} {a : Nat → Int32} {x y : Int32} (hx : 0 ≤ x ∧ x ≤ 3) (hk : k ≤ m) (hG : GA n m a) : GA n m (mhK a x y k) ∧ odr (mhK a x y k) n = odr a n ∧ ∀ c, c < 10 ∨ 114 ≤ c → mhK a x y k c = a c := by
  induction k with
  | zero => exact ⟨hG, rfl, fun _ _ => rfl⟩
  | succ k ih =>
    obtain ⟨i1, i2, i3⟩ := ih (by omega)
    have hn := hG.1
    have hm := hG.2.1
    rw [mhK_s]
    refine ⟨GA_h (by omega) (by decide) ?_ i1, by rw [odr_h hn]; exact i2, fun c hc => by rw [fu_ne (by omega)]; exact i3 c hc⟩
    unfold okH
    refine ⟨fun q => by omega, fun _ => ?_, fun q => by omega⟩
    split
    · exact hx
    · exact (i1.2.2.2.2.2.1 k (by omega)).2.1
theorem jj_marry (x y : Int32) : JJ 86 163 [.inl x, .inl y] := by
  intro M hR
  obtain ⟨n, m, a, ha, hG, hB, hab, hT0, hT1, hW4, hW5, hz, hbl, hBY, h288, hTC⟩ := RC_get hR; have hn := hB.1; have hm := hB.2.1; have hn8 := hG.1; have hm8 := hG.2.1; have hX0 := hG.2.2.2.2.2.2.1; have hX1 := hG.2.2.2.2.2.2.2; have ho : ∀ i, i < n → odr a n i < n := (fun i hi => odr_lt hi)
  by_cases hg : (0 ≤ x ∧ x ≤ 3) ∧ (0 ≤ y ∧ y ≤ 3) ∧ x ≠ y
  · obtain ⟨hg1, hg2, hg3⟩ := hg
    obtain ⟨p, hp, rfl⟩ := wI_ex (b := 3) hg1 (by decide)
    obtain ⟨q, hq, rfl⟩ := wI_ex (b := 3) hg2 (by decide)
    have hpq : p ≠ q := fun e => hg3 (by rw [e])
    obtain ⟨G1, G2, G3⟩ := mgK_g (y := nI q) hg1 (Nat.le_refl n) hG
    obtain ⟨H1, H2, H3⟩ := mhK_g (y := nI q) hg1 (Nat.le_refl m) G1
    have hA6 : ∀ j, j < 4 → mhK (mgK a (nI p) (nI q) n) (nI p) (nI q) m (6 + j) = a (6 + j) := fun j hj => by rw [H3 _ (by omega), G3 _ (by omega)]
    have hcl : ∃ M1, am_cl am_cds 999 6 [.inr (.inr (16, 0, 0)), .inl (nI p), .inl (nI q)] (am_S M) (some (.inl (mgC a (nI p) (nI q) n))) (am_S M1) ∧ RB M1 0 n m (odr a n) (fu (fu (mhK (mgK a (nI p) (nI q) n) (nI p) (nI q) m) (6 + p) (sp_min 9999 (a (6 + p) + a (6 + q)))) (6 + q) 0) ∧ M1 16 0 0 7 = -1 ∧ FX M M1 := by
      refine am_cl_v (fun M1 => RB M1 0 n m (odr a n) (fu (fu (mhK (mgK a (nI p) (nI q) n) (nI p) (nI q) m) (6 + p) (sp_min 9999 (a (6 + p) + a (6 + q)))) (6 + q) 0) ∧ M1 16 0 0 7 = -1 ∧ FX M M1) am_c6 rfl ?_
      iterate 4 refine am_wp_step _ rfl ?_
      refine am_for2 4 (fun u w => [(0, .inr (.inr (16, 0, 0))), (1, .inl (nI p)), (2, .inl (nI q)), (3, .inl u), (4, .inl w)]) (fun k u w M1 => w = nI k ∧ u = mgC a (nI p) (nI q) k ∧ RB M1 0 n m (odr a n) (mgK a (nI p) (nI q) k) ∧ M1 16 0 0 7 = -1 ∧ FX M M1) n ?_ ?_ 0 0 0 M (Nat.zero_le _) ⟨nI_0.symm, rfl, hB, hab, FX_rf⟩
      · intro k u w M1 hk hP K
        obtain ⟨hw, hu, hB1, hab1, hF⟩ := hP
        subst hw
        iterate 4 refine am_wp_step _ rfl ?_
        refine am_iteF (by show ¬ M1 16 0 0 1 ≤ nI k; rw [hB1.1]; exact nI_ge hk (by omega)) ?_
        iterate 4 refine am_wp_step _ rfl ?_
        refine am_ixN (k) (rfl) (show _ < 8 by omega) (show (8 : Nat) < 2 ^ 31 by decide) (fun e => ?_); rw [e]
        iterate 3 refine am_wp_step _ rfl ?_
        have e2 : M1 18 0 k 2 = mgK a (nI p) (nI q) k (10 + 8 * k + 2) := RB_gv hk (by decide) hB1
        refine am_ite (fun h => ?_) (fun h => ?_)
        · have h : M1 18 0 k 2 ≠ nI q := h
          rw [e2] at h
          iterate 2 refine am_wp_step _ rfl ?_
          refine K _ _ _ ⟨nI_1 k, ?_, ?_, hab1, hF⟩
          · rw [mgC_s, if_neg h, hu]
          · rw [mgK_s, if_neg h]; exact hB1
        · have h : ¬ M1 18 0 k 2 ≠ nI q := h
          rw [e2] at h
          have h := Decidable.not_not.mp h
          iterate 4 refine am_wp_step _ rfl ?_
          refine am_ixN (k) (rfl) (show _ < 8 by omega) (show (8 : Nat) < 2 ^ 31 by decide) (fun e => ?_); rw [e]
          iterate 5 refine am_wp_step _ rfl ?_
          refine K _ _ _ ⟨nI_1 k, ?_, ?_, ?_, FX_tr hF (FX_up (by decide))⟩
          · rw [mgC_s, if_pos h, hu]
          · rw [mgK_s, if_pos h]; exact RB_g hn8 hk (by decide) hB1
          · dsimp only [am_S]
            rw [am_up_r (by decide)]; exact hab1
      · intro u w M1 hP
        obtain ⟨hw, hu, hB1, hab1, hF⟩ := hP
        subst hw
        iterate 4 refine am_wp_step _ rfl ?_
        refine am_iteT (by show M1 16 0 0 1 ≤ nI n; rw [hB1.1]; exact nI_le (Nat.le_refl _) (by omega)) ?_
        iterate 2 refine am_wp_step _ rfl ?_
        refine am_for1 26 (fun w => [(0, .inr (.inr (16, 0, 0))), (1, .inl (nI p)), (2, .inl (nI q)), (3, .inl u), (4, .inl w)]) (fun k w M1 => w = nI k ∧ RB M1 0 n m (odr a n) (mhK (mgK a (nI p) (nI q) n) (nI p) (nI q) k) ∧ M1 16 0 0 7 = -1 ∧ FX M M1) m ?_ ?_ 0 0 M1 (Nat.zero_le _) ⟨nI_0.symm, hB1, hab1, hF⟩
        · intro k w M1 hk hP K
          obtain ⟨hw, hB1, hab1, hF⟩ := hP
          subst hw
          iterate 4 refine am_wp_step _ rfl ?_
          refine am_iteF (by show ¬ M1 16 0 0 3 ≤ nI k; rw [hB1.2.1]; exact nI_ge hk (by omega)) ?_
          iterate 4 refine am_wp_step _ rfl ?_
          refine am_ixN (k) (rfl) (show _ < 8 by omega) (show (8 : Nat) < 2 ^ 31 by decide) (fun e => ?_); rw [e]
          iterate 3 refine am_wp_step _ rfl ?_
          have e2 : M1 17 0 k 3 = mhK (mgK a (nI p) (nI q) n) (nI p) (nI q) k (74 + 5 * k + 3) := RB_hv hk (by decide) hB1
          refine am_ite (fun h => ?_) (fun h => ?_)
          · have h : M1 17 0 k 3 ≠ nI q := h
            rw [e2] at h
            iterate 2 refine am_wp_step _ rfl ?_
            refine K _ _ ⟨nI_1 k, ?_, hab1, hF⟩
            rw [mhK_s, if_neg h, fu_self]; exact hB1
          · have h : ¬ M1 17 0 k 3 ≠ nI q := h
            rw [e2] at h
            have h := Decidable.not_not.mp h
            iterate 4 refine am_wp_step _ rfl ?_
            refine am_ixN (k) (rfl) (show _ < 8 by omega) (show (8 : Nat) < 2 ^ 31 by decide) (fun e => ?_); rw [e]
            iterate 4 refine am_wp_step _ rfl ?_
            refine K _ _ ⟨nI_1 k, ?_, ?_, FX_tr hF (FX_up (by decide))⟩
            · rw [mhK_s, if_pos h]; exact RB_h hn8 hk (by decide) hB1
            · dsimp only [am_S]
              rw [am_up_r (by decide)]; exact hab1
        · intro w M1 hP
          obtain ⟨hw, hB1, hab1, hF⟩ := hP
          subst hw
          have e1 : M1 28 0 0 p = a (6 + p) := by rw [hB1.2.2.2.2.2.1 p (by omega)]; exact hA6 p (by omega)
          have e2 : M1 28 0 0 q = a (6 + q) := by rw [hB1.2.2.2.2.2.1 q (by omega)]; exact hA6 q (by omega)
          iterate 4 refine am_wp_step _ rfl ?_
          refine am_iteT (by show M1 16 0 0 3 ≤ nI m; rw [hB1.2.1]; exact nI_le (Nat.le_refl _) (by omega)) ?_
          iterate 8 refine am_wp_step _ rfl ?_
          refine am_ixN (p) (rfl) (show _ < 4 by omega) (show (4 : Nat) < 2 ^ 31 by decide) (fun e => ?_); rw [e]
          iterate 4 refine am_wp_step _ rfl ?_
          refine am_ixN (q) (rfl) (show _ < 4 by omega) (show (4 : Nat) < 2 ^ 31 by decide) (fun e => ?_); rw [e]
          iterate 2 refine am_wp_step _ rfl ?_
          refine ⟨_, _, c_min _ _ _ _, ?_⟩
          rw [show (am_S M1).2.2 28 0 0 p = a (6 + p) from e1, show (am_S M1).2.2 28 0 0 q = a (6 + q) from e2]
          iterate 1 refine am_wp_step _ rfl ?_
          refine am_ixN (p) (rfl) (show _ < 4 by omega) (show (4 : Nat) < 2 ^ 31 by decide) (fun e => ?_); rw [e]
          iterate 5 refine am_wp_step _ rfl ?_
          refine am_ixN (q) (rfl) (show _ < 4 by omega) (show (4 : Nat) < 2 ^ 31 by decide) (fun e => ?_); rw [e]
          iterate 2 refine am_wp_step _ rfl ?_
          refine ⟨trivial, by rw [hu], _, rfl, RB_u (by omega) (RB_u (by omega) hB1), ?_, FX_tr hF (FX_tr (FX_up (by decide)) (FX_up (by decide)))⟩
          dsimp only [am_S]
          rw [am_up_r (by decide), am_up_r (by decide)]
          exact hab1
    obtain ⟨M1, c1, r1, r2, r3⟩ := hcl
    have ea : M1 33 0 0 = a := by rw [r3 33 0 (by omega) (by omega)]; exact ha
    have hmod : ∃ M2, am_cl am_cds 1000 163 [.inr (.inr (26, 0, 0)), .inl (nI p), .inl (nI q)] (am_S M1) (some (.inl (mgC a (nI p) (nI q) n))) (am_S M2) ∧ M2 33 0 0 = fu (fu (mhK (mgK a (nI p) (nI q) n) (nI p) (nI q) m) (6 + p) (sp_min 9999 (a (6 + p) + a (6 + q)))) (6 + q) 0 ∧ kB M1 M2 := by
      refine am_cl_v (fun M2 => M2 33 0 0 = fu (fu (mhK (mgK a (nI p) (nI q) n) (nI p) (nI q) m) (6 + p) (sp_min 9999 (a (6 + p) + a (6 + q)))) (6 + q) 0 ∧ kB M1 M2) am_c163 rfl ?_
      iterate 2 refine am_wp_step _ rfl ?_
      refine ⟨_, _, cl_t hg1 (m_isHouse _ _ _), ?_⟩
      iterate 3 refine am_wp_step _ rfl ?_
      refine ⟨_, _, cl_t hg2 (m_isHouse _ _ _), ?_⟩
      iterate 4 refine am_wp_step _ rfl ?_
      refine am_iteT hg3 ?_
      iterate 4 refine am_wp_step _ rfl ?_
      refine am_for2 17 (fun u w => [(0, .inr (.inr (26, 0, 0))), (1, .inl (nI p)), (2, .inl (nI q)), (3, .inl u), (4, .inl w)]) (fun k u w M2 => w = nI k ∧ u = mgC a (nI p) (nI q) k ∧ M2 33 0 0 = mgK a (nI p) (nI q) k ∧ kB M1 M2) n ?_ ?_ 0 0 0 M1 (Nat.zero_le _) ⟨nI_0.symm, rfl, ea, kB_rf⟩
      · intro k u w M2 hk hP K
        obtain ⟨hw, hu, h2, hF⟩ := hP
        subst hw
        have en : M2 33 0 0 1 = nI n := by rw [h2, (mgK_g (y := nI q) hg1 (Nat.le_of_lt hk) hG).2.2 1 (by omega)]; exact hG.2.2.1
        iterate 5 refine am_wp_step _ rfl ?_
        refine am_andv (by unfold vp_in; decide) ?_
        iterate 1 refine am_wp_step _ rfl ?_
        refine am_iteF (by show ¬ M2 33 0 0 1 ≤ nI k; rw [en]; exact nI_ge hk (by omega)) ?_
        iterate 4 refine am_wp_step _ rfl ?_
        refine ⟨_, _, m_deadIs _ k 2 M2 (by omega) (by decide), ?_⟩
        iterate 2 refine am_wp_step _ rfl ?_
        refine am_ite (fun h => ?_) (fun h => ?_)
        · rw [h2] at h
          iterate 2 refine am_wp_step _ rfl ?_
          refine K _ _ _ ⟨nI_1 k, ?_, ?_, hF⟩
          · rw [mgC_s, if_neg h, hu]
          · rw [mgK_s, if_neg h]; exact h2
        · rw [h2] at h
          have h := Decidable.not_not.mp h
          iterate 11 refine am_wp_step _ rfl ?_
          refine am_ixN (10 + 8 * k + 2) (by simp only [nI_lit, nI_add, nI_mul]) (show _ < 288 by omega) (show (288 : Nat) < 2 ^ 31 by decide) (fun e => ?_); rw [e]
          iterate 3 refine am_wp_step _ rfl ?_
          refine K _ _ _ ⟨nI_1 k, ?_, ?_, kB_tr hF kB_up⟩
          · rw [mgC_s, if_pos h, hu]
          · dsimp only [am_S]
            rw [mgK_s, if_pos h, am_up_fu, h2]
      · intro u w M2 hP
        obtain ⟨hw, hu, h2, hF⟩ := hP
        subst hw
        have en : M2 33 0 0 1 = nI n := by rw [h2, G3 1 (by omega)]; exact hG.2.2.1
        iterate 5 refine am_wp_step _ rfl ?_
        refine am_andv (by unfold vp_in; decide) ?_
        iterate 1 refine am_wp_step _ rfl ?_
        refine am_iteT (by show M2 33 0 0 1 ≤ nI n; rw [en]; exact nI_le (Nat.le_refl _) (by omega)) ?_
        iterate 2 refine am_wp_step _ rfl ?_
        refine am_for1 45 (fun w => [(0, .inr (.inr (26, 0, 0))), (1, .inl (nI p)), (2, .inl (nI q)), (3, .inl u), (4, .inl w)]) (fun k w M2 => w = nI k ∧ M2 33 0 0 = mhK (mgK a (nI p) (nI q) n) (nI p) (nI q) k ∧ kB M1 M2) m ?_ ?_ 0 0 M2 (Nat.zero_le _) ⟨nI_0.symm, h2, hF⟩
        · intro k w M2 hk hP K
          obtain ⟨hw, h2, hF⟩ := hP
          subst hw
          have em : M2 33 0 0 2 = nI m := by rw [h2, (mhK_g (y := nI q) hg1 (Nat.le_of_lt hk) G1).2.2 2 (by omega), G3 2 (by omega)]; exact hG.2.2.2.1
          iterate 5 refine am_wp_step _ rfl ?_
          refine am_andv (by unfold vp_in; decide) ?_
          iterate 1 refine am_wp_step _ rfl ?_
          refine am_iteF (by show ¬ M2 33 0 0 2 ≤ nI k; rw [em]; exact nI_ge hk (by omega)) ?_
          iterate 13 refine am_wp_step _ rfl ?_
          refine ⟨_, _, m_dishIs _ k 3 M2 (by omega) (by decide), ?_⟩
          iterate 2 refine am_wp_step _ rfl ?_
          refine am_ite (fun h => ?_) (fun h => ?_)
          · rw [h2] at h
            iterate 4 refine am_wp_step _ rfl ?_
            refine ⟨_, _, m_dishIs _ k 3 M2 (by omega) (by decide), ?_⟩
            iterate 1 refine am_wp_step _ rfl ?_
            refine am_ixN (74 + 5 * k + 3) (by simp only [nI_lit, nI_add, nI_mul]) (show _ < 288 by omega) (show (288 : Nat) < 2 ^ 31 by decide) (fun e => ?_); rw [e]
            iterate 2 refine am_wp_step _ rfl ?_
            refine K _ _ ⟨nI_1 k, ?_, kB_tr hF kB_up⟩
            dsimp only [am_S]
            rw [mhK_s, if_neg h, am_up_fu, h2]
          · rw [h2] at h
            have h := Decidable.not_not.mp h
            iterate 3 refine am_wp_step _ rfl ?_
            refine am_ixN (74 + 5 * k + 3) (by simp only [nI_lit, nI_add, nI_mul]) (show _ < 288 by omega) (show (288 : Nat) < 2 ^ 31 by decide) (fun e => ?_); rw [e]
            iterate 2 refine am_wp_step _ rfl ?_
            refine K _ _ ⟨nI_1 k, ?_, kB_tr hF kB_up⟩
            dsimp only [am_S]
            rw [mhK_s, if_pos h, am_up_fu, h2]
        · intro w M2 hP
          obtain ⟨hw, h2, hF⟩ := hP
          subst hw
          have em : M2 33 0 0 2 = nI m := by rw [h2, H3 2 (by omega), G3 2 (by omega)]; exact hG.2.2.2.1
          have e1 : M2 33 0 0 (6 + p) = a (6 + p) := by rw [h2]; exact hA6 p (by omega)
          have e2 : M2 33 0 0 (6 + q) = a (6 + q) := by rw [h2]; exact hA6 q (by omega)
          iterate 5 refine am_wp_step _ rfl ?_
          refine am_andv (by unfold vp_in; decide) ?_
          iterate 1 refine am_wp_step _ rfl ?_
          refine am_iteT (by show M2 33 0 0 2 ≤ nI m; rw [em]; exact nI_le (Nat.le_refl _) (by omega)) ?_
          iterate 12 refine am_wp_step _ rfl ?_
          refine am_ixN (6 + p) (by simp only [nI_lit, nI_add, nI_mul]) (show _ < 288 by omega) (show (288 : Nat) < 2 ^ 31 by decide) (fun e => ?_); rw [e]
          iterate 6 refine am_wp_step _ rfl ?_
          refine am_ixN (6 + q) (by simp only [nI_lit, nI_add, nI_mul]) (show _ < 288 by omega) (show (288 : Nat) < 2 ^ 31 by decide) (fun e => ?_); rw [e]
          iterate 2 refine am_wp_step _ rfl ?_
          refine ⟨_, _, c_min _ _ _ _, ?_⟩
          rw [show (am_S M2).2.2 33 0 0 (6 + p) = a (6 + p) from e1, show (am_S M2).2.2 33 0 0 (6 + q) = a (6 + q) from e2]
          iterate 1 refine am_wp_step _ rfl ?_
          refine am_ixN (6 + p) (by simp only [nI_lit, nI_add, nI_mul]) (show _ < 288 by omega) (show (288 : Nat) < 2 ^ 31 by decide) (fun e => ?_); rw [e]
          iterate 7 refine am_wp_step _ rfl ?_
          refine am_ixN (6 + q) (by simp only [nI_lit, nI_add, nI_mul]) (show _ < 288 by omega) (show (288 : Nat) < 2 ^ 31 by decide) (fun e => ?_); rw [e]
          iterate 2 refine am_wp_step _ rfl ?_
          refine ⟨trivial, by rw [hu], _, rfl, ?_, kB_tr hF (kB_tr kB_up kB_up)⟩
          dsimp only [am_S]
          rw [am_up_fu, am_up_fu, h2]
    obtain ⟨M2, c2, k1, k2⟩ := hmod
    refine JJ_b (n := n) (m := m) (v := mgC a (nI p) (nI q) n) hR ha ?_ c2 r3 k2 k1 (GA_fu (by omega) (by omega) (GA_fu (by omega) (by omega) H1)) ?_ r2 ?_ ?_
    · refine am_cl_in am_c86 rfl ?_
      iterate 2 refine am_wp_step _ rfl ?_
      refine ⟨_, _, cl_t hg1 (c_isHouse _ _ _), ?_⟩
      iterate 3 refine am_wp_step _ rfl ?_
      refine ⟨_, _, cl_t hg2 (c_isHouse _ _ _), ?_⟩
      iterate 4 refine am_wp_step _ rfl ?_
      refine am_iteT hg3 ?_
      iterate 6 refine am_wp_step _ rfl ?_
      refine ⟨_, _, c1, ?_⟩
      iterate 1 refine am_wp_step _ rfl ?_
      exact ⟨trivial, rfl, rfl⟩
    · rw [odr_u (by omega), odr_u (by omega), H2, G2]
      exact r1
    · rw [fu_ne (by omega), fu_ne (by omega), H3 0 (by omega), G3 0 (by omega)]
      exact hbl
    · intro c hc
      rw [fu_ne (by omega), fu_ne (by omega), H3 c (by omega), G3 c (by omega)]
  · refine JJ_e (k := 1) (by decide) (by decide) hR ?_ (fun M1 e33 e26 => ?_)
    · refine am_cl_in am_c86 rfl ?_
      repeat' first | refine am_wp_step _ rfl ?_ | refine am_iteB (fun h => ?_) (fun h => ?_) | refine am_iteN (fun h => ?_) (fun h => ?_) | refine am_ite (fun h => ?_) (fun h => ?_) | refine ⟨_, _, c_isDead _ _ _ hn, ?_⟩ | refine ⟨_, _, c_isDish _ _ _ hm, ?_⟩ | refine ⟨_, _, c_within _ _ _ _ _, ?_⟩ | refine ⟨_, _, c_isKM _ _ _, ?_⟩ | refine ⟨_, _, c_isHouse _ _ _, ?_⟩ | refine ⟨_, _, c_isAhead _ _ _, ?_⟩ | refine ⟨_, _, c_isSheet _ _ _, ?_⟩ | refine ⟨_, _, c_mostOf _ _ _, ?_⟩ | refine ⟨_, _, c_err1 _ _, ?_⟩ | refine ⟨_, _, c_err2 _ _, ?_⟩ | refine ⟨_, _, c_err3 _ _, ?_⟩ | refine ⟨_, _, c_err4 _ _, ?_⟩ | refine ⟨_, _, c_err5 _ _, ?_⟩ | refine ⟨by decide, ?_⟩ | fail
      all_goals first | exact ⟨trivial, rfl, rfl⟩ | (exfalso; clear hR hG hB hT0 hT1 hW4 hW5 hBY h288 hTC hX0 hX1; grind)
    · have ea : M1 33 0 0 = a := (by rw [e33]; exact ha); have en : M1 33 0 0 1 = nI n := (by rw [ea]; exact hG.2.2.1); have em : M1 33 0 0 2 = nI m := (by rw [ea]; exact hG.2.2.2.1)
      refine am_cl_in am_c163 rfl ?_
      repeat' first | refine K _ _ ?_ | refine am_wp_step _ rfl ?_ | refine am_iteB (fun h => ?_) (fun h => ?_) | refine am_iteN (fun h => ?_) (fun h => ?_) | refine am_ite (fun h => ?_) (fun h => ?_) | refine ⟨_, _, m_isHouse _ _ _, ?_⟩ | refine ⟨_, _, m_find1 _ _, ?_⟩ | fail
      all_goals first | exact ⟨trivial, rfl, rfl⟩ | (exfalso; clear hR hG hB hT0 hT1 hW4 hW5 hBY h288 hTC hX0 hX1; grind)
