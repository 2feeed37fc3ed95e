/-! CHECK -/
theorem am_up_comm {M : am_F} {r b i s r' b' i' s' : Nat} {x y : Int32} (h : r ≠ r') : am_up (am_up M r b i s x) r' b' i' s' y = am_up (am_up M r' b' i' s' y) r b i s x := by
  funext q1 q2 q3 q4
  unfold am_up
  grind
theorem RR_w0 {M M1 : am_F} {a : Nat → Int32} (hR : RR M 0 a) (hF : ∀ r, r = 16 ∨ r = 17 ∨ r = 18 ∨ r = 28 ∨ r = 29 ∨ r = 20 → M1 r 0 = M r 0) (hF2 : ∀ bb, bb = 0 ∨ bb = 2 ∨ bb = 4 → M1 21 bb = M 21 bb ∧ M1 27 bb = M 27 bb) (h5 : M1 21 5 0 1 = 0) : RR M1 0 (fu a 4 0) := by
  have hR2 := hR
  obtain ⟨n, m, q1, q2, q3, q4, q5, q6, q7, q8, q9, q10, q11⟩ := hR2
  refine RR_r hR hF (fun bb hb => hF2 bb (by omega)) ?_ ⟨0, by omega, fu_at.trans nI_0.symm, h5.trans nI_0.symm, fun j hj => absurd hj (Nat.not_lt_zero _)⟩ ?_ ?_
  · rw [fu_ne (by omega), show (fun j => fu a 4 0 (114 + j)) = (fun j => a (114 + j)) from funext fun j => fu_ne (by omega)]
    exact RW_cg (hF2 4 (by omega)).1 (hF2 4 (by omega)).2 q6
  · intro k h1 h2 j hj
    rw [fu_ne (by omega)] at h1
    rw [fu_ne (by omega)]
    exact q10 k h1 h2 j hj
  · intro c _ c2 _
    exact fu_ne c2
theorem RB_4 {M : am_F} {b n m : Nat} {o : Nat → Nat} {a : Nat → Int32} {v : Int32} (hR : RB M b n m o a) : RB M b n m o (fu a 4 v) := by
  unfold RB at *
  unfold fu
  grind
theorem GA_4 {n m : Nat} {a : Nat → Int32} {v : Int32} (h : GA n m a) : GA n m (fu a 4 v) := by
  obtain ⟨hn, hm, h1, h2, h3, h4, h5, h6⟩ := h
  have ht : tx (fu a 4 v) = tx a := tx_of fun c hc => fu_ne (by omega)
  have e : ∀ q, 10 ≤ q → fu a 4 v q = a q := fun q hq => fu_ne (by omega)
  refine ⟨hn, hm, (fu_ne (by omega)).trans h1, (fu_ne (by omega)).trans h2, fun i hi => ?_, fun j hj => ?_, by rw [ht]; exact h5, by rw [ht]; exact h6⟩
  · rw [e _ (by omega), e _ (by omega), e _ (by omega), e _ (by omega), e _ (by omega)]
    exact h3 i hi
  · rw [e _ (by omega), e _ (by omega), e _ (by omega)]
    exact h4 j hj
theorem jj_check (x : Int32) : JJ 110 219 [.inl x] := by
  intro M hR
  obtain ⟨n, m, a, ha, hG, hB, hab, hT0, hT1, hW4, hW5, hz, hbl, hBY, h288, hTC⟩ := RC_get hR; have hn := hB.1; have hm := hB.2.1; have hn8 := hG.1; have hm8 := hG.2.1; have hX0 := hG.2.2.2.2.2.2.1; have hX1 := hG.2.2.2.2.2.2.2; have ho : ∀ i, i < n → odr a n i < n := (fun i hi => odr_lt hi)
  obtain ⟨k, hk, w1, w2, w3⟩ := hW5
  have hr := hR.1
  rw [ha] at hr
  by_cases hg : isN x n
  · obtain ⟨i, hi, rfl⟩ := isN_ex hg (by omega)
    have hB0 := RB_4 (v := 0) hB
    have hG0 := GA_4 (v := 0) hG
    have ht0 : tx (fu a 4 0) = tx a := tx_of fun c hc => fu_ne (by omega)
    have ho0 : odr (fu a 4 0) n = odr a n := odr_cg fun j hj => fu_ne (by omega)
    generalize hs : (fun t => rgN (gv (tx a) 0) n m (odr a n) (-1) (fu a 4 0) t) = s
    have hst : ∀ t, rgN (gv (tx a) 0) n m (odr a n) (-1) (fu a 4 0) t = s t := fun t => by rw [← hs]
    have hs0 : s 0 = fu a 4 0 := by rw [← hst]; rfl
    have hss : ∀ t, s (t + 1) = rg (gv (tx a) 0) n m (odr a n) (-1) (s t) := fun t => by rw [← hst, ← hst]; rfl
    have hGs : ∀ t, GA n m (s t) := fun t => by rw [← hst]; exact (GA_rgN (E := gv (tx a) 0) (k := t) (ab := -1) ho hG0).1
    have hout : ∀ t q, 114 ≤ q → s t q = a q := fun t q hq => by rw [← hst, rgN_out hm8 ho (KC_hi hn8 hm8 hq), fu_ne (by omega)]
    obtain ⟨T, hT1, hT2, hT3⟩ := stop (fun t => s (t + 1) (10 + 8 * i + 6) ≠ a (164 + t)) k
    have c133 : ∃ M1, am_cl am_cds 999 133 [.inr (.inr (25, 0, 0)), .inl (nI i)] (am_S M) (some (.inl (if T = k then 0 else 1 + nI T))) (am_S M1) ∧ FB 2 M M1 := by
      refine am_cl_v (fun M1 => FB 2 M M1) am_c133 rfl ?_
      iterate 6 refine am_wp_step _ rfl ?_
      refine am_call0 (c_copyBoard _ 2 0 n m (odr a n) (-1) (fu a 4 0) M (by decide) hn8 hm8 hB0 hab) (fun M1 hh => ?_)
      have h1 : RB M1 2 n m (odr a n) (s 0) ∧ M1 16 2 0 7 = -1 ∧ FB 2 M M1 := ⟨by rw [hs0]; exact hh.1, hh.2.1, FB_fBd hh.2.2⟩
      iterate 2 refine am_wp_step _ rfl ?_
      refine am_for1 8 (fun w => [(0, .inr (.inr (25, 0, 0))), (1, .inl (nI i)), (2, .inl w)]) (fun t w M1 => w = nI t ∧ RB M1 2 n m (odr a n) (s t) ∧ M1 16 2 0 7 = -1 ∧ FB 2 M M1) T ?_ ?_ 0 0 M1 (Nat.zero_le _) ⟨nI_0.symm, h1⟩
      · intro t w M1 ht hP K
        obtain ⟨hw, h1, h2, hF⟩ := hP
        subst hw
        have e5 : M1 21 5 0 1 = nI k := by rw [hF 21 5 (by omega) (by omega)]; exact w2
        have e7 : M1 27 5 0 t = a (164 + t) := by rw [hF 27 5 (by omega) (by omega)]; exact w3 t (by omega)
        iterate 6 refine am_wp_step _ rfl ?_
        refine am_iteF (by show ¬ M1 21 5 0 1 ≤ nI t; rw [e5]; exact nI_ge (by omega) (by omega)) ?_
        iterate 6 refine am_wp_step _ rfl ?_
        refine am_call0 (c_ring _ 2 n m _ (-1) _ (tx a) M1 (RT_FB hF hT0) hX0 (TC_FB hF hTC) hn8 hm8 ho h1 h2) (fun M2 hh => ?_)
        rw [← hss] at hh
        have f5 : M2 21 5 0 1 = nI k := by rw [hh.2.1 21 5 (by omega) (by omega)]; exact e5
        have f7 : M2 27 5 0 t = a (164 + t) := by rw [hh.2.1 27 5 (by omega) (by omega)]; exact e7
        iterate 5 refine am_wp_step _ rfl ?_
        refine am_ixN (i) (rfl) (show _ < 8 by omega) (show (8 : Nat) < 2 ^ 31 by decide) (fun e => ?_); rw [e]
        iterate 6 refine am_wp_step _ rfl ?_
        refine ⟨_, _, c_at _ 5 k t M2 f5 (by omega) hk (by decide), ?_⟩
        iterate 1 refine am_wp_step _ rfl ?_
        refine am_iteT ?_ ?_
        · show M2 18 2 i 6 = M2 27 5 0 t
          rw [RB_gv hi (by decide) hh.1, f7]
          exact Decidable.not_not.mp (hT2 t ht)
        iterate 2 refine am_wp_step _ rfl ?_
        exact K _ _ ⟨nI_1 t, hh.1, hh.2.2, FB_tr hF hh.2.1⟩
      · intro w M1 hP
        obtain ⟨hw, h1, h2, hF⟩ := hP
        subst hw
        have e5 : M1 21 5 0 1 = nI k := by rw [hF 21 5 (by omega) (by omega)]; exact w2
        iterate 6 refine am_wp_step _ rfl ?_
        by_cases hTc : T = k
        · refine am_iteT (by show M1 21 5 0 1 ≤ nI T; rw [e5, hTc]; exact nI_le (Nat.le_refl _) (by omega)) ?_
          iterate 2 refine am_wp_step _ rfl ?_
          exact ⟨trivial, by rw [if_pos hTc], M1, rfl, hF⟩
        · have e7 : M1 27 5 0 T = a (164 + T) := by rw [hF 27 5 (by omega) (by omega)]; exact w3 T (by omega)
          refine am_iteF (by show ¬ M1 21 5 0 1 ≤ nI T; rw [e5]; exact nI_ge (by omega) (by omega)) ?_
          iterate 6 refine am_wp_step _ rfl ?_
          refine am_call0 (c_ring _ 2 n m _ (-1) _ (tx a) M1 (RT_FB hF hT0) hX0 (TC_FB hF hTC) hn8 hm8 ho h1 h2) (fun M2 hh => ?_)
          rw [← hss] at hh
          have f5 : M2 21 5 0 1 = nI k := by rw [hh.2.1 21 5 (by omega) (by omega)]; exact e5
          have f7 : M2 27 5 0 T = a (164 + T) := by rw [hh.2.1 27 5 (by omega) (by omega)]; exact e7
          iterate 5 refine am_wp_step _ rfl ?_
          refine am_ixN (i) (rfl) (show _ < 8 by omega) (show (8 : Nat) < 2 ^ 31 by decide) (fun e => ?_); rw [e]
          iterate 6 refine am_wp_step _ rfl ?_
          refine ⟨_, _, c_at _ 5 k T M2 f5 (by omega) hk (by decide), ?_⟩
          iterate 1 refine am_wp_step _ rfl ?_
          refine am_iteF ?_ ?_
          · show ¬ M2 18 2 i 6 = M2 27 5 0 T
            rw [RB_gv hi (by decide) hh.1, f7]
            exact hT3.resolve_left hTc
          iterate 4 refine am_wp_step _ rfl ?_
          exact ⟨trivial, by rw [if_neg hTc], M2, rfl, FB_tr hF hh.2.1⟩
    obtain ⟨M1, c1, hF⟩ := c133
    have e33 : am_up M1 21 5 0 1 0 33 = M 33 := by rw [am_up_r (by decide)]; exact funext fun bb => hF 33 bb (by omega) (by omega)
    have hmod : ∃ M2, am_cl am_cds 1000 219 [.inr (.inr (26, 0, 0)), .inl (nI i)] (am_S (am_up M1 21 5 0 1 0)) (some (.inl (if T = k then 0 else 1 + nI T))) (am_S M2) ∧ M2 33 0 0 = fu a 4 0 ∧ kB (am_up M1 21 5 0 1 0) M2 := by
      have ea0 : am_up M1 21 5 0 1 0 33 0 0 = a := by rw [e33]; exact ha
      refine am_cl_v (fun M2 => M2 33 0 0 = fu a 4 0 ∧ kB (am_up M1 21 5 0 1 0) M2) am_c219 rfl ?_
      generalize am_up M1 21 5 0 1 0 = Mx at *
      iterate 4 refine am_wp_step _ rfl ?_
      refine am_andv (by unfold vp_in; decide) ?_
      rw [show (am_S Mx).2.2 33 0 0 (Int32.toNatClampNeg 4) = nI k from by show Mx 33 0 0 4 = nI k; rw [ea0]; exact w1]
      iterate 6 refine am_wp_step _ rfl ?_
      refine am_andv (by unfold vp_in; decide) ?_
      have ea1 : am_up Mx 33 0 0 4 0 33 0 0 = fu a 4 0 := by rw [am_up_fu, ea0]
      generalize hMy : am_up Mx 33 0 0 4 0 = My at *
      have hky : kB Mx My := by rw [← hMy]; exact kB_up
      rw [show ((am_S Mx).1, (am_S Mx).2.1, am_up (am_S Mx).2.2 33 0 0 (Int32.toNatClampNeg 4) 0) = am_S My from by rw [← hMy]; rfl]
      iterate 4 refine am_wp_step _ rfl ?_
      refine ⟨_, _, cl_t hg (m_isD _ _ _ (by rw [ea1]; exact hG0.2.2.1)), ?_⟩
      iterate 6 refine am_wp_step _ rfl ?_
      refine am_call0 (m_aside _ My) (fun M2 h2 => ?_)
      obtain ⟨p1, p2, p3⟩ := h2
      rw [ea1] at p1 p2
      iterate 4 refine am_wp_step _ rfl ?_
      refine am_for2 28 (fun u w => [(0, .inr (.inr (26, 0, 0))), (1, .inl (nI i)), (2, .inl (nI k)), (3, .inl u), (4, .inl w)]) (fun t u w M2 => w = nI t ∧ u = 0 ∧ M2 33 0 0 = s t ∧ AS M2 (fu a 4 0) ∧ kB Mx M2) T ?_ ?_ 0 0 0 M2 (Nat.zero_le _) ⟨nI_0.symm, rfl, by rw [hs0]; exact p2, p1, kB_tr hky p3⟩
      · intro t u w M2 ht hP K
        obtain ⟨hw, hu, p2, p1, p3⟩ := hP
        subst hw
        subst hu
        iterate 3 refine am_wp_step _ rfl ?_
        refine am_iteF (nI_ge (by omega) (by omega)) ?_
        iterate 7 refine am_wp_step _ rfl ?_
        refine am_call0 (m_bell1 _ n m t (fu a 4 0) M2 hG0 (by rw [ht0, ho0, hst]; exact p2)) (fun M3 h3 => ?_)
        rw [ht0, ho0, hst] at h3
        iterate 6 refine am_wp_step _ rfl ?_
        refine am_ixN (164 + t) (by simp only [nI_lit, nI_add, nI_mul]) (show _ < 288 by omega) (show (288 : Nat) < 2 ^ 31 by decide) (fun e => ?_); rw [e]
        iterate 4 refine am_wp_step _ rfl ?_
        refine ⟨_, _, m_deadIs _ i 6 M3 (by omega) (by decide), ?_⟩
        iterate 1 refine am_wp_step _ rfl ?_
        refine am_iteF ?_ ?_
        · show ¬ M3 33 0 0 (164 + t) ≠ M3 33 0 0 (10 + 8 * i + 6)
          rw [h3.1, hout (t + 1) (164 + t) (by omega)]
          have := Decidable.not_not.mp (hT2 t ht)
          rw [this]
          exact fun q => q rfl
        iterate 5 refine am_wp_step _ rfl ?_
        exact K _ _ _ ⟨nI_1 t, rfl, h3.1, AS_B h3.2 p1, kB_tr p3 (kB_B h3.2)⟩
      · intro u w M2 hP
        obtain ⟨hw, hu, p2, p1, p3⟩ := hP
        subst hw
        subst hu
        iterate 3 refine am_wp_step _ rfl ?_
        by_cases hTc : T = k
        · refine am_iteT (by rw [hTc]; exact nI_le (Nat.le_refl _) (by omega)) ?_
          iterate 3 refine am_wp_step _ rfl ?_
          refine am_call1 (m_putBack _ _ (fu a 4 0) M2 p1 (fun q hq => by rw [p2, hout T q (by omega), fu_ne (by omega)])) (fun M3 h3 => ?_)
          iterate 1 refine am_wp_step _ rfl ?_
          exact ⟨trivial, by rw [if_pos hTc], M3, rfl, h3.1, kB_tr p3 h3.2.2⟩
        · refine am_iteF (nI_ge (by omega) (by omega)) ?_
          iterate 7 refine am_wp_step _ rfl ?_
          refine am_call0 (m_bell1 _ n m T (fu a 4 0) M2 hG0 (by rw [ht0, ho0, hst]; exact p2)) (fun M3 h3 => ?_)
          rw [ht0, ho0, hst] at h3
          iterate 6 refine am_wp_step _ rfl ?_
          refine am_ixN (164 + T) (by simp only [nI_lit, nI_add, nI_mul]) (show _ < 288 by omega) (show (288 : Nat) < 2 ^ 31 by decide) (fun e => ?_); rw [e]
          iterate 4 refine am_wp_step _ rfl ?_
          refine ⟨_, _, m_deadIs _ i 6 M3 (by omega) (by decide), ?_⟩
          iterate 1 refine am_wp_step _ rfl ?_
          refine am_iteT ?_ ?_
          · show M3 33 0 0 (164 + T) ≠ M3 33 0 0 (10 + 8 * i + 6)
            rw [h3.1, hout (T + 1) (164 + T) (by omega)]
            exact fun q => (hT3.resolve_left hTc) q.symm
          iterate 6 refine am_wp_step _ rfl ?_
          have fin : am_wp (am_cl am_cds 999) am_c219 (fun w m => w = some (.inl (if T = k then 0 else 1 + nI T)) ∧ ∃ M', m = am_S M' ∧ M' 33 0 0 = fu a 4 0 ∧ kB Mx M') 57 [(0, .inr (.inr (26, 0, 0))), (1, .inl (nI i)), (2, .inl (nI k)), (3, .inl (1 + nI T)), (4, .inl (nI T + 1))] [] (am_S M3) := by
            iterate 3 refine am_wp_step _ rfl ?_
            refine am_call1 (m_putBack _ _ (fu a 4 0) M3 (AS_B h3.2 p1) (fun q hq => by rw [h3.1, hout (T + 1) q (by omega), fu_ne (by omega)])) (fun M4 h4 => ?_)
            iterate 1 refine am_wp_step _ rfl ?_
            exact ⟨trivial, by rw [if_neg hTc], M4, rfl, h4.1, kB_tr p3 (kB_tr (kB_B h3.2) h4.2.2)⟩
          iterate 3 refine am_wp_step _ rfl ?_
          refine am_ite (fun h => ?_) (fun h => ?_)
          · exact fin
          · iterate 2 refine am_wp_step _ rfl ?_
            refine am_iteT ?_ fin
            have h1 : 1 + nI T = nI (T + 1) := by rw [← nI_1]; lia
            rw [h1]
            exact nI_ne0 (by omega) (by omega)
    obtain ⟨M2, c2, k1, k2⟩ := hmod
    refine JJ_w (v := if T = k then 0 else 1 + nI T) (M1 := am_up M1 21 5 0 1 0) (M2 := M2) hR ?_ c2 ?_ (kN_B k2) ?_
    · refine am_cl_in am_c110 rfl ?_
      iterate 3 refine am_wp_step _ rfl ?_
      refine ⟨_, _, cl_t hg (c_isDead _ _ _ hn), ?_⟩
      iterate 4 refine am_wp_step _ rfl ?_
      refine ⟨_, _, c1, ?_⟩
      iterate 6 refine am_wp_step _ rfl ?_
      refine ⟨_, c_clear _ 5 M1, ?_⟩
      iterate 2 refine am_wp_step _ rfl ?_
      exact ⟨trivial, rfl, rfl⟩
    · intro r bb h1 h2 _ _ _
      rw [am_up_rb (by omega), hF r bb (by omega) (by omega)]
    · rw [k1]
      exact RR_w0 hr (fun r hr => by rw [am_up_r (by omega), hF r 0 (by omega) (by omega)]) (fun bb hb => ⟨by rw [am_up_b (by omega), hF 21 bb (by omega) (by omega)], by rw [am_up_r (by decide), hF 27 bb (by omega) (by omega)]⟩) am_up_same
  · have hc1 : am_cl am_cds 1000 110 [.inr (.inr (25, 0, 0)), .inl x] (am_S M) (some (.inl (-1000000001))) (am_S (am_up (am_up M 32 0 0 1 (M 32 0 0 1 + 1)) 21 5 0 1 0)) := by
      refine am_cl_in am_c110 rfl ?_
      iterate 3 refine am_wp_step _ rfl ?_
      refine ⟨_, _, cl_f hg (c_isDead _ _ _ hn), ?_⟩
      iterate 4 refine am_wp_step _ rfl ?_
      refine ⟨_, _, c_err1 _ _, ?_⟩
      iterate 5 refine am_wp_step _ rfl ?_
      refine ⟨_, c_clear _ 5 _, ?_⟩
      iterate 2 refine am_wp_step _ rfl ?_
      exact ⟨trivial, rfl, rfl⟩
    have e1 : am_up (am_up M 32 0 0 1 (M 32 0 0 1 + 1)) 21 5 0 1 0 = am_up (am_up M 21 5 0 1 0) 32 0 0 1 (am_up M 21 5 0 1 0 32 0 0 1 + 1) := by
      rw [am_up_comm (by decide), am_up_r (M := M) (r' := 32) (by decide)]
    have hRC : RC (am_up M 21 5 0 1 0) (am_up (am_up M 21 5 0 1 0) 33 0 0 4 0) := by
      refine RC_w hR (fun r bb h1 h2 _ _ _ => am_up_rb (by omega)) (kN_B kB_up) ?_
      rw [am_up_fu, am_up_r (by decide), ha]
      exact RR_w0 hr (fun r hr => by rw [am_up_r (by omega)]) (fun bb hb => ⟨by rw [am_up_b (by omega)], by rw [am_up_r (by decide)]⟩) am_up_same
    have hRE := RC_err (k := 1) (by decide) (by decide) hRC
    rw [e1] at hc1
    generalize hX : am_up (am_up M 21 5 0 1 0) 32 0 0 1 (am_up M 21 5 0 1 0 32 0 0 1 + 1) = X at *
    have hX33 : X 33 = M 33 := by rw [← hX, am_up_r (by decide), am_up_r (by decide)]
    have hX26 : X 26 = M 26 := by rw [← hX, am_up_r (by decide), am_up_r (by decide)]
    have hX0 : X 0 = M 0 := by rw [← hX, am_up_r (by decide), am_up_r (by decide)]
    refine JJ_u (M2 := am_up (am_up X 33 0 0 4 0) 33 3 0 1 (am_up X 33 0 0 4 0 33 3 0 1 + 1)) hc1 ?_ hRE (kM_tr (kM_up (by omega)) (kM_up (by omega))) ?_ hX0
    · refine am_cl_in am_c219 rfl ?_
      iterate 4 refine am_wp_step _ rfl ?_
      refine am_andv (by unfold vp_in; decide) ?_
      iterate 6 refine am_wp_step _ rfl ?_
      refine am_andv (by unfold vp_in; decide) ?_
      iterate 4 refine am_wp_step _ rfl ?_
      refine ⟨_, _, cl_f hg (m_isD _ _ (am_up X 33 0 0 4 0) (n := n) (by rw [am_up_s (by decide), hX33, ha]; exact hG.2.2.1)), ?_⟩
      repeat' first | refine am_wp_step _ rfl ?_ | refine am_iteB (fun h => ?_) (fun h => ?_) | refine am_iteN (fun h => ?_) (fun h => ?_) | refine am_ite (fun h => ?_) (fun h => ?_) | refine ⟨_, _, m_find1 _ _, ?_⟩ | fail
      exact ⟨trivial, rfl, rfl⟩
    · refine NQ_err ?_
      unfold NQ
      rw [am_up_fu, am_up_fu, am_up_r (r' := 26) (by decide), am_up_r (r' := 26) (by decide), am_up_r (r' := 26) (by decide), am_up_r (r' := 33) (by decide), hX33, hX26]
      refine ⟨rfl, rfl, ?_, ?_, rfl, ?_, ?_, ?_, ?_⟩
      all_goals
        rw [am_up_b (by decide), am_up_b (by decide), hX33, am_up_r (by decide)]
