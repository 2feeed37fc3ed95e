/-! FORGET, FIRST -/
theorem NQ_err {N N' : am_F} {k : Nat} (h : NQ N N') : NQ (am_up N 33 3 0 k (N 33 3 0 k + 1)) (am_up N' 33 3 0 k (N' 33 3 0 k + 1)) := by
  obtain ⟨h1, h2, h3, h4, h5, h6, h7, h8, h9⟩ := h
  have e : ∀ (X : am_F) b, b ≠ 3 → am_up X 33 3 0 k (X 33 3 0 k + 1) 33 b = X 33 b := fun X b hb => am_up_b hb
  have f : ∀ (X : am_F), am_up X 33 3 0 k (X 33 3 0 k + 1) 26 = X 26 := fun X => am_up_r (by decide)
  unfold NQ
  rw [e N' 0 (by omega), e N 0 (by omega), e N' 1 (by omega), e N 1 (by omega), e N' 8 (by omega), e N 8 (by omega), e N' 9 (by omega), e N 9 (by omega), e N' 10 (by omega), e N 10 (by omega), e N' 11 (by omega), e N 11 (by omega), f N', f N, am_up_fu, am_up_fu, h4]
  exact ⟨h1, h2, h3, rfl, h5, h6, h7, h8, h9⟩
theorem JJ_f {M : am_F} {y ym k : Nat} {as : List am_V} (h1 : 1 ≤ k) (h2 : k ≤ 5) (hR : RC M M) (c1 : ∃ M0, am_cl am_cds 1000 y (.inr (.inr (25, 0, 0)) :: as) (am_S M) (some (.inl (-1000000000 - nI k))) (am_S (am_up M0 32 0 0 k (M0 32 0 0 k + 1))) ∧ cS M M0) (c2 : ∀ M1, M1 33 = M 33 → M1 26 = M 26 → ∃ M2, am_cl am_cds 1000 ym (.inr (.inr (26, 0, 0)) :: as) (am_S M1) (some (.inl (-1000000000 - nI k))) (am_S (am_up M2 33 3 0 k (M2 33 3 0 k + 1))) ∧ kM M1 M2 ∧ NQ M1 M2) : ∃ v M1 M2, am_cl am_cds 1000 y (.inr (.inr (25, 0, 0)) :: as) (am_S M) (some (.inl v)) (am_S M1) ∧ am_cl am_cds 1000 ym (.inr (.inr (26, 0, 0)) :: as) (am_S M1) (some (.inl v)) (am_S M2) ∧ RC M2 M2 ∧ M2 0 = M 0 ∧ M1 0 = M 0 := by
  obtain ⟨M0, c1, f0⟩ := c1
  have e33 := cS_r f0 33 (by omega)
  have e26 := cS_r f0 26 (by omega)
  obtain ⟨M2, c2, f1, f2⟩ := c2 (am_up M0 32 0 0 k (M0 32 0 0 k + 1)) ((am_up_r (by decide)).trans e33) ((am_up_r (by decide)).trans e26)
  refine JJ_u c1 c2 (RC_err h1 h2 (RC_cS f0 hR)) (kM_tr f1 (kM_up (by omega))) ?_ ((am_up_r (by decide)).trans (cS_r f0 0 (by omega)))
  refine NQ_err (NQ_tr ?_ f2)
  unfold NQ
  rw [am_up_r (r' := 33) (by decide), am_up_r (r' := 26) (by decide), e33, e26]
  exact ⟨rfl, rfl, rfl, rfl, rfl, rfl, rfl, rfl, rfl⟩
theorem RB_7 {M : am_F} {b n m : Nat} {o : Nat → Nat} {a : Nat → Int32} {v : Int32} (hR : RB M b n m o a) : RB (am_up M 16 b 0 7 v) b n m o a := by
  unfold RB at *
  unfold am_up
  grind
theorem c_angersW (d n m cnt j : Nat) (o : Nat → Nat) (a x : Nat → Int32) (M : am_F) (hR : RT M 0 0 x) (hW : WX x 0) (hT : TC M) (hn : n ≤ 8) (hm : m ≤ 8) (ho : ∀ i, i < n → o i < n) (hB : RB M 0 n m o a) (hab : M 16 0 0 7 = -1) (hc : cnt < 2 ^ 31) : ∃ M', am_cl am_cds (d + 7) 127 [.inr (.inr (25, 0, 0)), .inl (nI j), .inl (nI cnt)] (am_S M) (some (.inl (smF (rgN (gv x 0) n m o (nI j) a cnt) 6 (nI j) n))) (am_S M') ∧ FB 2 M M' := by
  refine am_cl_v (fun M' => FB 2 M M') am_c127 rfl ?_
  iterate 6 refine am_wp_step _ rfl ?_
  refine am_call0 (c_copyBoard _ 2 0 n m o (-1) a M (by decide) hn hm hB hab) (fun M1 hh => ?_)
  obtain ⟨q1, q2, q3⟩ := hh
  iterate 6 refine am_wp_step _ rfl ?_
  refine am_for1 12 (fun y => [(0, .inr (.inr (25, 0, 0))), (1, .inl (nI j)), (2, .inl (nI cnt)), (3, .inl y)]) (fun i y M1 => y = nI i ∧ RB M1 2 n m o (rgN (gv x 0) n m o (nI j) a i) ∧ M1 16 2 0 7 = nI j ∧ FB 2 M M1) cnt ?_ ?_ 0 0 _ (Nat.zero_le _) ⟨nI_0.symm, RB_7 q1, am_up_same, FB_tr (FB_fBd q3) (FB_up (by omega))⟩
  · intro i y M1 hi hP K
    obtain ⟨hy, h1, h2, hF⟩ := hP
    iterate 3 refine am_wp_step _ rfl ?_
    refine am_iteF (by rw [hy]; exact nI_ge hi hc) ?_
    iterate 6 refine am_wp_step _ rfl ?_
    refine am_call0 (c_ring _ 2 n m o (nI j) _ x M1 (RT_FB hF hR) hW (TC_FB hF hT) hn hm ho h1 h2) (fun M2 hh => ?_)
    iterate 2 refine am_wp_step _ rfl ?_
    exact K _ _ ⟨by rw [hy, nI_1], hh.1, hh.2.2, FB_tr hF hh.2.1⟩
  · intro y M1 hP
    obtain ⟨hy, h1, h2, hF⟩ := hP
    iterate 3 refine am_wp_step _ rfl ?_
    refine am_iteT (by rw [hy]; exact nI_le (Nat.le_refl _) hc) ?_
    iterate 3 refine am_wp_step _ rfl ?_
    refine ⟨_, _, c_angers _ 2 n m _ _ _ M1 hn h1 h2, ?_⟩
    iterate 1 refine am_wp_step _ rfl ?_
    exact ⟨trivial, rfl, M1, rfl, hF⟩
/-- where the least stands -/
def bst (f : Nat → Int32) : Nat → Nat
  | 0 => 0
  | k + 1 => if f k < f (bst f k) then k else bst f k
theorem bst_1 (f : Nat → Int32) : bst f 1 = 0 := by
  unfold bst
  split
  · rfl
  · rfl
theorem bst_s (f : Nat → Int32) (k : Nat) : bst f (k + 1) = if f k < f (bst f k) then k else bst f k := rfl
theorem jj_forget (x y : Int32) : JJ 96 197 [.inl x, .inl y] := by
  intro M hR
  obtain ⟨n, m, a, ha, hG, hB, hab, hT0, hT1, hW4, hW5, hz, hbl, hBY, h288, hTC⟩ := RC_get hR; have hn := hB.1; have hm := hB.2.1; have hn8 := hG.1; have hm8 := hG.2.1; have hX0 := hG.2.2.2.2.2.2.1; have hX1 := hG.2.2.2.2.2.2.2; have ho : ∀ i, i < n → odr a n i < n := (fun i hi => odr_lt hi)
  by_cases hg : (0 ≤ x ∧ x ≤ 120) ∧ 0 ≤ y ∧ y ≤ 1
  · obtain ⟨cnt, hc, rfl⟩ := wI_ex (b := 120) hg.1 (by decide)
    have hy01 : y = 0 ∨ y = 1 := by
      obtain ⟨h1, h2⟩ := hg.2
      lia
    by_cases hn0 : n = 0
    · refine JJ_f (k := 2) (by decide) (by decide) hR ⟨M, ?_, cS_rf⟩ (fun M1 e33 e26 => ?_)
      · refine am_cl_in am_c96 rfl ?_
        iterate 2 refine am_wp_step _ rfl ?_
        refine ⟨_, _, cl_t hg.1 (c_isAhead _ _ _), ?_⟩
        iterate 5 refine am_wp_step _ rfl ?_
        refine ⟨_, _, cl_t hg.2 (c_within _ _ _ _ _), ?_⟩
        iterate 6 refine am_wp_step _ rfl ?_
        refine am_iteF (by show ¬ M 16 0 0 1 ≠ 0; rw [hn, hn0, nI_0]; decide) ?_
        repeat' first | refine am_wp_step _ rfl ?_ | refine am_iteB (fun h => ?_) (fun h => ?_) | refine am_iteN (fun h => ?_) (fun h => ?_) | refine am_ite (fun h => ?_) (fun h => ?_) | refine ⟨_, _, c_err2 _ _, ?_⟩ | fail
        exact ⟨trivial, rfl, rfl⟩
      · have ea : M1 33 0 0 = a := (by rw [e33]; exact ha); have en : M1 33 0 0 1 = nI n := (by rw [ea]; exact hG.2.2.1); have em : M1 33 0 0 2 = nI m := (by rw [ea]; exact hG.2.2.2.1)
        obtain ⟨M2, c2, p1, p2, p3⟩ := m_aside 998 M1
        refine ⟨M2, ?_, kq_B p3 p2⟩
        refine am_cl_in am_c197 rfl ?_
        iterate 2 refine am_wp_step _ rfl ?_
        refine ⟨_, _, cl_t hg.1 (m_isAhead _ _ _), ?_⟩
        iterate 5 refine am_wp_step _ rfl ?_
        refine ⟨_, _, cl_t hg.2 (m_within _ _ _ _ _), ?_⟩
        iterate 6 refine am_wp_step _ rfl ?_
        refine ⟨_, c2, ?_⟩
        have en2 : M2 33 0 0 1 = 0 := by rw [p2, en, hn0, nI_0]
        iterate 11 refine am_wp_step _ rfl ?_
        refine am_andv (by unfold vp_in; decide) ?_
        iterate 1 refine am_wp_step _ rfl ?_
        refine am_iteT (by show M2 33 0 0 1 ≤ 0; rw [en2]; decide) ?_
        repeat' first | refine am_wp_step _ rfl ?_ | refine am_iteB (fun h => ?_) (fun h => ?_) | refine am_iteN (fun h => ?_) (fun h => ?_) | refine am_ite (fun h => ?_) (fun h => ?_) | refine ⟨_, _, m_find2 _ _, ?_⟩ | fail
        exact ⟨trivial, rfl, rfl⟩
    · generalize hf : (fun j => smF (rgN (gv (tx a) 0) n m (odr a n) (nI j) a cnt) 6 (nI j) n) = f
      have hfj : ∀ j, smF (rgN (gv (tx a) 0) n m (odr a n) (nI j) a cnt) 6 (nI j) n = f j := fun j => by rw [← hf]
      refine JJ_q (v := if y = 0 then nI (bst f n) else f (bst f n)) hR ?_ (fun M1 e33 e26 => ?_)
      · refine am_cl_v (cS M) am_c96 rfl ?_
        iterate 2 refine am_wp_step _ rfl ?_
        refine ⟨_, _, cl_t hg.1 (c_isAhead _ _ _), ?_⟩
        iterate 5 refine am_wp_step _ rfl ?_
        refine ⟨_, _, cl_t hg.2 (c_within _ _ _ _ _), ?_⟩
        iterate 6 refine am_wp_step _ rfl ?_
        refine am_iteT (by show M 16 0 0 1 ≠ 0; rw [hn]; exact nI_ne0 (by omega) (by omega)) ?_
        iterate 6 refine am_wp_step _ rfl ?_
        refine am_call1 (c_angersW _ n m cnt 0 (odr a n) a (tx a) M hT0 hX0 hTC hn8 hm8 ho hB hab (by omega)) (fun M1 h1 => ?_)
        rw [hfj]
        iterate 3 refine am_wp_step _ rfl ?_
        refine am_for3 30 (fun u v w => [(0, .inr (.inr (25, 0, 0))), (1, .inl (nI cnt)), (2, .inl y), (3, .inl u), (4, .inl v), (5, .inl w)]) (fun i u v w M1 => w = nI i ∧ u = nI (bst f i) ∧ v = f (bst f i) ∧ FB 2 M M1) n ?_ ?_ 1 0 _ 1 M1 (by omega) ⟨rfl, by rw [bst_1]; rfl, by rw [bst_1], h1⟩
        · intro i u v w M1 hi hP K
          obtain ⟨hw, hu, hv, hF⟩ := hP
          have hF' : ∀ r bb, bb = 0 → (r = 16 ∨ r = 17 ∨ r = 18 ∨ r = 28 ∨ r = 29) → M1 r bb = M r bb := fun r bb h1 h2 => hF r bb (by omega) (by omega)
          have hB1 : RB M1 0 n m (odr a n) a := RB_cg (fun r hr => hF' r 0 rfl hr) hB
          have hab1 : M1 16 0 0 7 = -1 := by rw [hF' 16 0 rfl (by omega)]; exact hab
          subst hw
          iterate 6 refine am_wp_step _ rfl ?_
          refine am_iteF (by show ¬ M1 16 0 0 1 ≤ nI i; rw [hB1.1]; exact nI_ge hi (by omega)) ?_
          iterate 4 refine am_wp_step _ rfl ?_
          refine am_call1 (c_angersW _ n m cnt i (odr a n) a (tx a) M1 (RT_FB hF hT0) hX0 (TC_FB hF hTC) hn8 hm8 ho hB1 hab1 (by omega)) (fun M2 h2 => ?_)
          rw [hfj]
          iterate 4 refine am_wp_step _ rfl ?_
          refine am_ite (fun h => ?_) (fun h => ?_)
          · iterate 2 refine am_wp_step _ rfl ?_
            refine K _ _ _ _ ⟨nI_1 i, ?_, ?_, FB_tr hF h2⟩
            · rw [bst_s, if_neg (by rw [← hv]; exact Int32.not_lt.mpr h), hu]
            · rw [bst_s, if_neg (by rw [← hv]; exact Int32.not_lt.mpr h), hv]
          · iterate 6 refine am_wp_step _ rfl ?_
            refine K _ _ _ _ ⟨nI_1 i, ?_, ?_, FB_tr hF h2⟩
            · rw [bst_s, if_pos (by rw [← hv]; exact Int32.not_le.mp h)]
            · rw [bst_s, if_pos (by rw [← hv]; exact Int32.not_le.mp h)]
        · intro u v w M1 hP
          obtain ⟨hw, hu, hv, hF⟩ := hP
          iterate 6 refine am_wp_step _ rfl ?_
          refine am_iteT (by show M1 16 0 0 1 ≤ w; rw [hF 16 0 (by omega) (by omega), hn, hw]; exact nI_le (Nat.le_refl _) (by omega)) ?_
          rcases hy01 with rfl | rfl
          · repeat' first | refine am_wp_step _ rfl ?_ | refine am_iteB (fun h => ?_) (fun h => ?_) | refine am_iteN (fun h => ?_) (fun h => ?_) | refine am_ite (fun h => ?_) (fun h => ?_) | fail
            exact ⟨trivial, by rw [if_pos rfl, hu], M1, rfl, cS_FB hF⟩
          · repeat' first | refine am_wp_step _ rfl ?_ | refine am_iteB (fun h => ?_) (fun h => ?_) | refine am_iteN (fun h => ?_) (fun h => ?_) | refine am_ite (fun h => ?_) (fun h => ?_) | fail
            exact ⟨trivial, by rw [if_neg (by decide), hv], M1, rfl, cS_FB hF⟩
      · have ea : M1 33 0 0 = a := (by rw [e33]; exact ha); have en : M1 33 0 0 1 = nI n := (by rw [ea]; exact hG.2.2.1); have em : M1 33 0 0 2 = nI m := (by rw [ea]; exact hG.2.2.2.1)
        have hx : ∃ M2, am_cl am_cds 1000 197 [.inr (.inr (26, 0, 0)), .inl (nI cnt), .inl y] (am_S M1) (some (.inl (if y = 0 then nI (bst f n) else f (bst f n)))) (am_S M2) ∧ M2 33 0 0 = a ∧ kB M1 M2 := by
          refine am_cl_v (fun M2 => M2 33 0 0 = a ∧ kB M1 M2) am_c197 rfl ?_
          iterate 2 refine am_wp_step _ rfl ?_
          refine ⟨_, _, cl_t hg.1 (m_isAhead _ _ _), ?_⟩
          iterate 5 refine am_wp_step _ rfl ?_
          refine ⟨_, _, cl_t hg.2 (m_within _ _ _ _ _), ?_⟩
          iterate 6 refine am_wp_step _ rfl ?_
          refine am_call0 (m_aside _ M1) (fun M2 h2 => ?_)
          obtain ⟨p1, p2, p3⟩ := h2
          rw [ea] at p1 p2
          iterate 6 refine am_wp_step _ rfl ?_
          refine am_for3 23 (fun u v w => [(0, .inr (.inr (26, 0, 0))), (1, .inl (nI cnt)), (2, .inl y), (3, .inl u), (4, .inl v), (5, .inl w)]) (fun i u v w M2 => w = nI i ∧ (i = 0 → u = -1) ∧ (0 < i → u = nI (bst f i) ∧ v = f (bst f i)) ∧ M2 33 0 0 = a ∧ AS M2 a ∧ kB M1 M2) n ?_ ?_ 0 (-1) 0 0 M2 (by omega) ⟨nI_0.symm, fun _ => rfl, fun q => absurd q (Nat.lt_irrefl _), p2, p1, p3⟩
          · intro i u v w M2 hi hP K
            obtain ⟨hw, h0, h1, p2, p1, p3⟩ := hP
            subst hw
            iterate 5 refine am_wp_step _ rfl ?_
            refine am_andv (by unfold vp_in; decide) ?_
            iterate 1 refine am_wp_step _ rfl ?_
            refine am_iteF (by show ¬ M2 33 0 0 1 ≤ nI i; rw [p2, hG.2.2.1]; exact nI_ge hi (by omega)) ?_
            iterate 4 refine am_wp_step _ rfl ?_
            refine am_call1 (m_angersBy _ n m cnt (nI i) a a M2 p1 p2 hG (fun _ _ => rfl) (by omega)) (fun M3 h3 => ?_)
            rw [hfj]
            obtain ⟨s1, s2, s3⟩ := h3
            iterate 3 refine am_wp_step _ rfl ?_
            by_cases hi0 : i = 0
            · subst hi0
              refine am_iteT (by rw [h0 rfl]; decide) ?_
              iterate 6 refine am_wp_step _ rfl ?_
              refine K _ _ _ _ ⟨rfl, fun q => by omega, fun _ => ?_, s1, s2, kB_tr p3 s3⟩
              rw [bst_1]
              exact ⟨rfl, rfl⟩
            · obtain ⟨hu, hv⟩ := h1 (by omega)
              have hb8 : bst f i < 8 := by
                have : ∀ k, bst f k ≤ k := by
                  intro k
                  induction k with
                  | zero => exact Nat.le_refl _
                  | succ k ih =>
                    rw [bst_s]
                    split <;> omega
                have := this i
                omega
              refine am_iteF (by rw [hu]; exact nI_pos (by omega)) ?_
              iterate 3 refine am_wp_step _ rfl ?_
              refine am_ite (fun h => ?_) (fun h => ?_)
              · iterate 2 refine am_wp_step _ rfl ?_
                refine K _ _ _ _ ⟨nI_1 i, fun q => by omega, fun _ => ?_, s1, s2, kB_tr p3 s3⟩
                rw [bst_s, if_neg (by rw [← hv]; exact Int32.not_lt.mpr h)]
                exact ⟨hu, hv⟩
              · iterate 6 refine am_wp_step _ rfl ?_
                refine K _ _ _ _ ⟨nI_1 i, fun q => by omega, fun _ => ?_, s1, s2, kB_tr p3 s3⟩
                rw [bst_s, if_pos (by rw [← hv]; exact Int32.not_le.mp h)]
                exact ⟨rfl, rfl⟩
          · intro u v w M2 hP
            obtain ⟨hw, h0, h1, p2, p1, p3⟩ := hP
            obtain ⟨hu, hv⟩ := h1 (by omega)
            have hb8 : bst f n ≤ 8 := by
              have : ∀ k, bst f k ≤ k := by
                intro k
                induction k with
                | zero => exact Nat.le_refl _
                | succ k ih =>
                  rw [bst_s]
                  split <;> omega
              have := this n
              omega
            iterate 5 refine am_wp_step _ rfl ?_
            refine am_andv (by unfold vp_in; decide) ?_
            iterate 1 refine am_wp_step _ rfl ?_
            refine am_iteT (by show M2 33 0 0 1 ≤ w; rw [p2, hG.2.2.1, hw]; exact nI_le (Nat.le_refl _) (by omega)) ?_
            iterate 2 refine am_wp_step _ rfl ?_
            refine am_iteT (by rw [hu]; exact nI_pos' (by omega)) ?_
            rcases hy01 with rfl | rfl
            · repeat' first | refine am_wp_step _ rfl ?_ | refine am_iteB (fun h => ?_) (fun h => ?_) | refine am_iteN (fun h => ?_) (fun h => ?_) | refine am_ite (fun h => ?_) (fun h => ?_) | fail
              exact ⟨trivial, by rw [if_pos rfl, hu], M2, rfl, p2, p3⟩
            · repeat' first | refine am_wp_step _ rfl ?_ | refine am_iteB (fun h => ?_) (fun h => ?_) | refine am_iteN (fun h => ?_) (fun h => ?_) | refine am_ite (fun h => ?_) (fun h => ?_) | fail
              exact ⟨trivial, by rw [if_neg (by decide), hv], M2, rfl, p2, p3⟩
        obtain ⟨M2, c2, f1, f2⟩ := hx
        exact ⟨M2, c2, kq_B f2 (f1.trans ea.symm)⟩
  · refine JJ_e (k := 1) (by decide) (by decide) hR ?_ (fun M1 e33 e26 => ?_)
    · refine am_cl_in am_c96 rfl ?_
      repeat' first | refine am_wp_step _ rfl ?_ | refine am_iteB (fun h => ?_) (fun h => ?_) | refine am_iteN (fun h => ?_) (fun h => ?_) | refine am_ite (fun h => ?_) (fun h => ?_) | refine ⟨_, _, c_isDead _ _ _ hn, ?_⟩ | refine ⟨_, _, c_isDish _ _ _ hm, ?_⟩ | refine ⟨_, _, c_within _ _ _ _ _, ?_⟩ | refine ⟨_, _, c_isKM _ _ _, ?_⟩ | refine ⟨_, _, c_isHouse _ _ _, ?_⟩ | refine ⟨_, _, c_isAhead _ _ _, ?_⟩ | refine ⟨_, _, c_isSheet _ _ _, ?_⟩ | refine ⟨_, _, c_mostOf _ _ _, ?_⟩ | refine ⟨_, _, c_err1 _ _, ?_⟩ | refine ⟨_, _, c_err2 _ _, ?_⟩ | refine ⟨_, _, c_err3 _ _, ?_⟩ | refine ⟨_, _, c_err4 _ _, ?_⟩ | refine ⟨_, _, c_err5 _ _, ?_⟩ | refine ⟨by decide, ?_⟩ | fail
      all_goals first | exact ⟨trivial, rfl, rfl⟩ | (exfalso; clear hR hG hB hT0 hT1 hW4 hW5 hBY h288 hTC hX0 hX1; grind)
    · have ea : M1 33 0 0 = a := (by rw [e33]; exact ha); have en : M1 33 0 0 1 = nI n := (by rw [ea]; exact hG.2.2.1); have em : M1 33 0 0 2 = nI m := (by rw [ea]; exact hG.2.2.2.1)
      refine am_cl_in am_c197 rfl ?_
      repeat' first | refine am_wp_step _ rfl ?_ | refine am_iteB (fun h => ?_) (fun h => ?_) | refine am_iteN (fun h => ?_) (fun h => ?_) | refine am_ite (fun h => ?_) (fun h => ?_) | refine ⟨_, _, m_isD _ _ _ en, ?_⟩ | refine ⟨_, _, m_isH _ _ _ em, ?_⟩ | refine ⟨_, _, m_within _ _ _ _ _, ?_⟩ | refine ⟨_, _, m_isHouse _ _ _, ?_⟩ | refine ⟨_, _, m_isAhead _ _ _, ?_⟩ | refine ⟨_, _, m_isSheet _ _ _, ?_⟩ | refine ⟨_, _, m_find1 _ _, ?_⟩ | refine ⟨_, _, m_find2 _ _, ?_⟩ | refine ⟨_, _, m_find3 _ _, ?_⟩ | refine ⟨_, _, m_find4 _ _, ?_⟩ | refine ⟨_, _, m_find5 _ _, ?_⟩ | refine am_andv (by unfold vp_in; decide) ?_ | refine ⟨by decide, ?_⟩ | fail
      all_goals first | exact ⟨trivial, rfl, rfl⟩ | (exfalso; clear hR hG hB hT0 hT1 hW4 hW5 hBY h288 hTC hX0 hX1; grind)
/-- the least number of one with an anger above 2 -/
def fa (a : Nat → Int32) (n : Nat) : Nat → Int32
  | 0 => -1
  | k + 1 => if 2 < a (10 + 8 * (n - k - 1) + 6) then nI (n - k - 1) else fa a n k
theorem fa_s {a : Nat → Int32} {n k : Nat} : fa a n (k + 1) = if 2 < a (10 + 8 * (n - k - 1) + 6) then nI (n - k - 1) else fa a n k := rfl
theorem fa_rg {a : Nat → Int32} {n k : Nat} (hn : n ≤ 8) : fa a n k = -1 ∨ 0 ≤ fa a n k := by
  induction k with
  | zero => exact Or.inl rfl
  | succ k ih =>
    rw [fa_s]
    split
    · exact Or.inr (nI_pos' (by omega))
    · exact ih
theorem c_firstAbove (d b n m : Nat) (o : Nat → Nat) (a : Nat → Int32) (M : am_F) (hn : n ≤ 8) (hB : RB M b n m o a) : am_cl am_cds (d + 1) 14 [.inr (.inr (16, b, 0)), .inl 2] (am_S M) (some (.inl (fa a n n))) (am_S M) := by
  refine am_cl_in am_c14 rfl ?_
  iterate 2 refine am_wp_step _ rfl ?_
  refine am_for1 2 (fun y => [(0, .inr (.inr (16, b, 0))), (1, .inl 2), (2, .inl y)]) (fun i y M1 => y = nI i ∧ fa a n n = fa a n (n - i) ∧ M1 = M) n ?_ ?_ 0 0 M (Nat.zero_le _) ⟨nI_0.symm, rfl, rfl⟩
  · intro i y M1 hi hP K
    obtain ⟨hy, hx, rfl⟩ := hP
    have hs : fa a n (n - i) = if 2 < a (10 + 8 * i + 6) then nI i else fa a n (n - (i + 1)) := by
      rw [show n - i = (n - (i + 1)) + 1 by omega, fa_s, show n - (n - (i + 1)) - 1 = i by omega]
    iterate 4 refine am_wp_step _ rfl ?_
    refine am_iteF (by show ¬ M1 16 b 0 1 ≤ y; rw [hB.1, hy]; exact nI_ge hi (by omega)) ?_
    iterate 4 refine am_wp_step _ rfl ?_
    refine am_ixN (i) (hy) (show _ < 8 by omega) (show (8 : Nat) < 2 ^ 31 by decide) (fun e => ?_); rw [e]
    iterate 3 refine am_wp_step _ rfl ?_
    refine am_ite (fun h => ?_) (fun h => ?_)
    · have h : M1 18 b i 6 ≤ 2 := h
      rw [RB_gv hi (by decide) hB] at h
      iterate 2 refine am_wp_step _ rfl ?_
      refine K _ _ ⟨by rw [hy, nI_1], ?_, rfl⟩
      rw [hx, hs, if_neg (Int32.not_lt.mpr h)]
    · have h : ¬ M1 18 b i 6 ≤ 2 := h
      rw [RB_gv hi (by decide) hB] at h
      iterate 2 refine am_wp_step _ rfl ?_
      refine ⟨trivial, ?_, rfl⟩
      rw [hx, hs, if_pos (Int32.not_le.mp h), hy]
  · intro y M1 hP
    obtain ⟨hy, hx, rfl⟩ := hP
    iterate 4 refine am_wp_step _ rfl ?_
    refine am_iteT (by show M1 16 b 0 1 ≤ y; rw [hB.1, hy]; exact nI_le (Nat.le_refl _) (by omega)) ?_
    iterate 2 refine am_wp_step _ rfl ?_
    refine ⟨trivial, ?_, rfl⟩
    rw [hx, Nat.sub_self]
    rfl
theorem m_angry (d n : Nat) (M : am_F) (hn : n ≤ 8) (hc : M 33 0 0 1 = nI n) : am_cl am_cds (d + 2) 200 [.inr (.inr (26, 0, 0))] (am_S M) (some (.inl (fa (M 33 0 0) n n))) (am_S M) := by
  refine am_cl_in am_c200 rfl ?_
  iterate 6 refine am_wp_step _ rfl ?_
  refine am_andv (by unfold vp_in; decide) ?_
  iterate 3 refine am_wp_step _ rfl ?_
  refine am_for2 9 (fun x y => [(0, .inr (.inr (26, 0, 0))), (1, .inl x), (2, .inl y)]) (fun t x y M1 => y = nI (n - t) - 1 ∧ x = fa (M 33 0 0) n t ∧ M1 = M) n ?_ ?_ 0 (-1) _ M (Nat.zero_le _) ⟨by show M 33 0 0 1 - 1 = _; rw [hc]; rfl, rfl, rfl⟩
  · intro t x y M1 ht hP K
    obtain ⟨hy, hx, rfl⟩ := hP
    have hy1 : y = nI (n - t - 1) := by
      rw [hy, show n - t = (n - t - 1) + 1 by omega, nI_pred]
      rfl
    have hnx : y + -1 = nI (n - (t + 1)) - 1 := by
      rw [hy, show n - t = (n - (t + 1)) + 1 by omega, nI_pred]
      lia
    subst hy1
    iterate 2 refine am_wp_step _ rfl ?_
    refine am_iteF (nI_pos (by omega)) ?_
    iterate 4 refine am_wp_step _ rfl ?_
    refine ⟨_, _, m_deadIs _ (n - t - 1) 6 M1 (by omega) (by decide), ?_⟩
    iterate 2 refine am_wp_step _ rfl ?_
    refine am_ite (fun h => ?_) (fun h => ?_)
    · iterate 4 refine am_wp_step _ rfl ?_
      refine K _ _ _ ⟨hnx, ?_, rfl⟩
      rw [fa_s, if_neg (Int32.not_lt.mpr h), hx]
    · iterate 5 refine am_wp_step _ rfl ?_
      refine K _ _ _ ⟨hnx, ?_, rfl⟩
      rw [fa_s, if_pos (Int32.not_le.mp h)]
  · intro x y M1 hP
    obtain ⟨hy, hx, rfl⟩ := hP
    iterate 2 refine am_wp_step _ rfl ?_
    refine am_iteT (by rw [hy, Nat.sub_self]; decide) ?_
    iterate 2 refine am_wp_step _ rfl ?_
    exact ⟨trivial, by rw [hx], rfl⟩
