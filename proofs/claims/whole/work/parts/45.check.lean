/-! NEEDS, CHECK -/
abbrev EW (s : Nat → Nat → Int32) (c cnt : Nat) : Prop := ∀ t, t < cnt → s (t + 1) c = 0
theorem c_eatsAlways (d n m i j h cnt : Nat) (o : Nat → Nat) (a x : Nat → Int32) (s : Nat → Nat → Int32) (M : am_F) (hR : RT M 0 0 x) (hW : WX x 0) (hT : TC M) (hn : n ≤ 8) (hm : m ≤ 8) (ho : ∀ i, i < n → o i < n) (hB : RB M 0 n m o a) (hab : M 16 0 0 7 = -1) (hc : cnt < 2 ^ 31) (hi : i < n) (hj : j < m) (hs : ∀ t, s t = rgN (gv x 0) n m o (-1) (fu a (74 + 5 * j + 2) (nI h)) t) : ∃ M', am_cl am_cds (d + 7) 128 [.inr (.inr (25, 0, 0)), .inl (nI i), .inl (nI j), .inl (nI h), .inl (nI cnt)] (am_S M) (some (.inl (bI (EW s (10 + 8 * i + 6) cnt)))) (am_S M') ∧ FB 2 M M' := by
  refine am_cl_v (fun M' => FB 2 M M') am_c128 rfl ?_
  iterate 6 refine am_wp_step _ rfl ?_
  refine am_call0 (c_copyBoard _ 2 0 n m o (-1) a M (by decide) hn hm hB hab) (fun M1 hh => ?_)
  obtain ⟨q1, q2, q3⟩ := hh
  iterate 5 refine am_wp_step _ rfl ?_
  refine am_ixN (j) (rfl) (show _ < 8 by omega) (show (8 : Nat) < 2 ^ 31 by decide) (fun e => ?_); rw [e]
  iterate 4 refine am_wp_step _ rfl ?_
  obtain ⟨T, hT1, hT2, hT3⟩ := stop (fun t => s (t + 1) (10 + 8 * i + 6) ≠ 0) cnt
  refine am_for1 15 (fun y => [(0, .inr (.inr (25, 0, 0))), (1, .inl (nI i)), (2, .inl (nI j)), (3, .inl (nI h)), (4, .inl (nI cnt)), (5, .inl y)]) (fun i y M1 => y = nI i ∧ RB M1 2 n m o (s i) ∧ M1 16 2 0 7 = -1 ∧ FB 2 M M1) T ?_ ?_ 0 0 _ (Nat.zero_le _) ⟨nI_0.symm, ?_, ?_, ?_⟩
  · intro t y M1 ht hP K
    obtain ⟨hy, h1, h2, hF⟩ := hP
    have h0 : s (t + 1) (10 + 8 * i + 6) = 0 := Decidable.not_not.mp (hT2 t ht)
    iterate 3 refine am_wp_step _ rfl ?_
    refine am_iteF (by rw [hy]; exact nI_ge (by omega) hc) ?_
    iterate 6 refine am_wp_step _ rfl ?_
    refine am_call0 (c_ring _ 2 n m o (-1) _ x M1 (RT_FB hF hR) hW (TC_FB hF hT) hn hm ho h1 h2) (fun M2 hh => ?_)
    have e : rg (gv x 0) n m o (-1) (s t) = s (t + 1) := by rw [hs, hs]; rfl
    rw [e] at hh
    iterate 5 refine am_wp_step _ rfl ?_
    refine am_ixN (i) (rfl) (show _ < 8 by omega) (show (8 : Nat) < 2 ^ 31 by decide) (fun e => ?_); rw [e]
    iterate 2 refine am_wp_step _ rfl ?_
    refine am_iteT ?_ ?_
    · show M2 18 2 i 6 = 0
      rw [RB_gv hi (by decide) hh.1]
      exact h0
    iterate 2 refine am_wp_step _ rfl ?_
    exact K _ _ ⟨by rw [hy, nI_1], hh.1, hh.2.2, FB_tr hF hh.2.1⟩
  · intro y M1 hP
    obtain ⟨hy, h1, h2, hF⟩ := hP
    iterate 3 refine am_wp_step _ rfl ?_
    by_cases hTc : T = cnt
    · refine am_iteT (by rw [hy, hTc]; exact nI_le (Nat.le_refl _) hc) ?_
      iterate 2 refine am_wp_step _ rfl ?_
      refine ⟨Or.inr rfl, ?_, M1, rfl, hF⟩
      rw [bI_t]
      intro t ht
      exact Decidable.not_not.mp (hT2 t (by omega))
    · refine am_iteF (by rw [hy]; exact nI_ge (by omega) hc) ?_
      have h0 := hT3.resolve_left hTc
      iterate 6 refine am_wp_step _ rfl ?_
      refine am_call0 (c_ring _ 2 n m o (-1) _ x M1 (RT_FB hF hR) hW (TC_FB hF hT) hn hm ho h1 h2) (fun M2 hh => ?_)
      have e : rg (gv x 0) n m o (-1) (s T) = s (T + 1) := by rw [hs, hs]; rfl
      rw [e] at hh
      iterate 5 refine am_wp_step _ rfl ?_
      refine am_ixN (i) (rfl) (show _ < 8 by omega) (show (8 : Nat) < 2 ^ 31 by decide) (fun e => ?_); rw [e]
      iterate 2 refine am_wp_step _ rfl ?_
      refine am_iteF ?_ ?_
      · show ¬ M2 18 2 i 6 = 0
        rw [RB_gv hi (by decide) hh.1]
        exact h0
      iterate 2 refine am_wp_step _ rfl ?_
      refine ⟨Or.inl rfl, ?_, M2, rfl, FB_tr hF hh.2.1⟩
      rw [bI_f]
      intro q
      exact h0 (q T (by omega))
  · rw [hs]
    exact RB_h hn hj (by decide) q1
  · dsimp only [am_S]
    rw [am_up_r (by decide)]
    exact q2
  · exact FB_tr (FB_fBd q3) (FB_up (by decide))
theorem m_doesEat (d n m i cnt : Nat) (a : Nat → Int32) (s : Nat → Nat → Int32) (M : am_F) (hG : GA n m a) (hA : M 33 0 0 = a) (hc : cnt < 2 ^ 31) (hi : i < n) (hs : ∀ t, s t = rgN (gv (tx a) 0) n m (odr a n) (-1) a t) : ∃ M', am_cl am_cds (d + 8) 198 [.inr (.inr (26, 0, 0)), .inl (nI i), .inl (nI cnt)] (am_S M) (some (.inl (bI (EW s (10 + 8 * i + 6) cnt)))) (am_S M') ∧ mB M M' ∧ ∀ k, 288 ≤ k → M' 33 0 0 k = a k := by
  have ho : ∀ i, i < n → odr a n i < n := fun i hi => odr_lt hi
  have hn8 := hG.1
  have hm8 := hG.2.1
  have hGs : ∀ t, GA n m (s t) ∧ tx (s t) = tx a ∧ odr (s t) n = odr a n := fun t => by rw [hs]; exact GA_rgN (E := gv (tx a) 0) (k := t) (ab := -1) ho hG
  have hout : ∀ t k, 288 ≤ k → s t k = a k := fun t k hk => by rw [hs]; exact rgN_out hm8 ho (KC_hi hn8 hm8 (by omega))
  have hs0 : s 0 = a := by rw [hs]; rfl
  have hss : ∀ t, s (t + 1) = rg (gv (tx a) 0) n m (odr a n) (-1) (s t) := fun t => by rw [hs, hs]; rfl
  have bell : ∀ t (M2 : am_F), M2 33 0 0 = s t → ∃ M3, am_cl am_cds (d + 7) 185 [.inr (.inr (26, 0, 0)), .inl 1, .inl 0, .inl (-1)] (am_S (am_up M2 33 0 0 (10 + 8 * i + 6) 1)) none (am_S M3) ∧ (M3 33 0 0 (10 + 8 * i + 6) = 0 ↔ s (t + 1) (10 + 8 * i + 6) = 0) ∧ (s (t + 1) (10 + 8 * i + 6) = 0 → M3 33 0 0 = s (t + 1)) ∧ (∀ k, 288 ≤ k → M3 33 0 0 k = a k) ∧ mB M2 M3 := by
    intro t M2 h2
    obtain ⟨g1, g2, g3⟩ := hGs t
    have hf : am_up M2 33 0 0 (10 + 8 * i + 6) 1 33 0 0 = fu (s t) (10 + 8 * i + 6) 1 := by rw [am_up_fu, h2]
    have hG2 : GA n m (fu (s t) (10 + 8 * i + 6) 1) := GA_g hi (by decide) (by unfold okG; exact ⟨fun q => by omega, fun q => by omega, fun q => by omega, fun q => by omega, fun q => by decide⟩) g1
    have ht2 : tx (fu (s t) (10 + 8 * i + 6) 1) = tx a := by rw [← g2]; exact tx_of fun c hc => fu_ne (by omega)
    have ho2 : odr (fu (s t) (10 + 8 * i + 6) 1) n = odr a n := by rw [odr_g (by decide) (by decide), g3]
    obtain ⟨M3, c, h3, h4⟩ := m_bellsGo d n m 1 false (-1) (am_up M2 33 0 0 (10 + 8 * i + 6) 1) (by rw [hf]; exact hG2) (by decide)
    rw [bgN_f, rgN_1, hf, ht2, ho2] at h3
    have hrel := rg_rel (E := gv (tx a) 0) g1 hi
    rw [g3, ← hss] at hrel
    refine ⟨M3, c, by rw [h3]; exact hrel.1, fun q => by rw [h3]; exact hrel.2 q, fun k hk => ?_, mB_tr (mB_H (mH_0 mF_up)) h4⟩
    rw [h3, rg_out hm8 ho (KC_hi hn8 hm8 (by omega)), fu_ne (by omega)]
    exact hout t k hk
  refine am_cl_v (fun M' => mB M M' ∧ ∀ k, 288 ≤ k → M' 33 0 0 k = a k) am_c198 rfl ?_
  obtain ⟨T, hT1, hT2, hT3⟩ := stop (fun t => s (t + 1) (10 + 8 * i + 6) ≠ 0) cnt
  iterate 12 refine am_wp_step _ rfl ?_
  refine am_for2 12 (fun u w => [(0, .inr (.inr (26, 0, 0))), (1, .inl (nI i)), (2, .inl (nI cnt)), (3, .inl u), (4, .inl (10 + 8 * nI i + 6)), (5, .inl w)]) (fun t u w M2 => w = nI t ∧ u = 1 ∧ M2 33 0 0 = s t ∧ mB M M2) T ?_ ?_ 0 1 0 M (Nat.zero_le _) ⟨nI_0.symm, rfl, by rw [hs0]; exact hA, mB_rf⟩
  · intro t u w M2 ht hP K
    obtain ⟨hw, hu, h2, hF⟩ := hP
    have h0 : s (t + 1) (10 + 8 * i + 6) = 0 := Decidable.not_not.mp (hT2 t ht)
    subst hu
    iterate 3 refine am_wp_step _ rfl ?_
    refine am_iteF (by rw [hw]; exact nI_ge (by omega) hc) ?_
    iterate 7 refine am_wp_step _ rfl ?_
    refine am_ixN (10 + 8 * i + 6) (by simp only [nI_lit, nI_add, nI_mul]) (show _ < 288 by omega) (show (288 : Nat) < 2 ^ 31 by decide) (fun e => ?_); rw [e]
    iterate 5 refine am_wp_step _ rfl ?_
    refine am_call0 (bell t M2 h2) (fun M3 hh => ?_)
    iterate 4 refine am_wp_step _ rfl ?_
    refine am_ixN (10 + 8 * i + 6) (by simp only [nI_lit, nI_add, nI_mul]) (show _ < 288 by omega) (show (288 : Nat) < 2 ^ 31 by decide) (fun e => ?_); rw [e]
    iterate 1 refine am_wp_step _ rfl ?_
    refine am_iteF ?_ ?_
    · show ¬ M3 33 0 0 (10 + 8 * i + 6) ≠ 0
      exact not_not_intro (hh.1.mpr h0)
    iterate 5 refine am_wp_step _ rfl ?_
    exact K _ _ _ ⟨by rw [hw, nI_1], rfl, hh.2.1 h0, mB_tr hF hh.2.2.2⟩
  · intro u w M2 hP
    obtain ⟨hw, hu, h2, hF⟩ := hP
    subst hu
    iterate 3 refine am_wp_step _ rfl ?_
    by_cases hTc : T = cnt
    · refine am_iteT (by rw [hw, hTc]; exact nI_le (Nat.le_refl _) hc) ?_
      iterate 2 refine am_wp_step _ rfl ?_
      refine ⟨Or.inr rfl, ?_, M2, rfl, hF, fun k hk => by rw [h2]; exact hout T k hk⟩
      rw [bI_t]
      intro t ht
      exact Decidable.not_not.mp (hT2 t (by omega))
    · have h0 := hT3.resolve_left hTc
      refine am_iteF (by rw [hw]; exact nI_ge (by omega) hc) ?_
      iterate 7 refine am_wp_step _ rfl ?_
      refine am_ixN (10 + 8 * i + 6) (by simp only [nI_lit, nI_add, nI_mul]) (show _ < 288 by omega) (show (288 : Nat) < 2 ^ 31 by decide) (fun e => ?_); rw [e]
      iterate 5 refine am_wp_step _ rfl ?_
      refine am_call0 (bell T M2 h2) (fun M3 hh => ?_)
      iterate 4 refine am_wp_step _ rfl ?_
      refine am_ixN (10 + 8 * i + 6) (by simp only [nI_lit, nI_add, nI_mul]) (show _ < 288 by omega) (show (288 : Nat) < 2 ^ 31 by decide) (fun e => ?_); rw [e]
      iterate 1 refine am_wp_step _ rfl ?_
      refine am_iteT ?_ ?_
      · show M3 33 0 0 (10 + 8 * i + 6) ≠ 0
        exact fun q => h0 (hh.1.mp q)
      iterate 4 refine am_wp_step _ rfl ?_
      iterate 3 refine am_wp_step _ rfl ?_
      have hb : bI (EW s (10 + 8 * i + 6) cnt) = 0 := by
        rw [bI_f]
        intro q
        exact h0 (q T (by omega))
      rw [hb]
      refine am_ite (fun h => ?_) (fun h => ?_)
      · iterate 2 refine am_wp_step _ rfl ?_
        exact ⟨Or.inl rfl, rfl, M3, rfl, mB_tr hF hh.2.2.2, hh.2.2.1⟩
      · iterate 4 refine am_wp_step _ rfl ?_
        exact ⟨Or.inl rfl, rfl, M3, rfl, mB_tr hF hh.2.2.2, hh.2.2.1⟩
theorem jj_needs (x y z : Int32) : JJ 97 199 [.inl x, .inl y, .inl z] := by
  intro M hR
  obtain ⟨n, m, a, ha, hG, hB, hab, hT0, hT1, hW4, hW5, hz, hbl, hBY, h288, hTC⟩ := RC_get hR; have hn := hB.1; have hm := hB.2.1; have hn8 := hG.1; have hm8 := hG.2.1; have hX0 := hG.2.2.2.2.2.2.1; have hX1 := hG.2.2.2.2.2.2.2; have ho : ∀ i, i < n → odr a n i < n := (fun i hi => odr_lt hi)
  by_cases hg : isN x n ∧ isN y m ∧ 1 ≤ z ∧ z ≤ 30
  · obtain ⟨i, hi, rfl⟩ := isN_ex hg.1 (by omega)
    obtain ⟨j, hj, rfl⟩ := isN_ex hg.2.1 (by omega)
    obtain ⟨cnt, hc, rfl⟩ := wI_ex (y := z) (b := 30) ⟨by have := hg.2.2.1; lia, hg.2.2.2⟩ (by decide)
    have hGh : ∀ h, h < 100 → GA n m (fu a (74 + 5 * j + 2) (nI h)) := fun h hh => GA_h hj (by decide) (by unfold okH; exact ⟨fun _ => ⟨nI_pos' (by omega), nI_le (b := 99) (by omega) (by decide)⟩, fun q => by omega, fun q => by omega⟩) hG
    have hth : ∀ h, tx (fu a (74 + 5 * j + 2) (nI h)) = tx a := fun h => tx_of fun c hc => fu_ne (by omega)
    have hoh : ∀ h, odr (fu a (74 + 5 * j + 2) (nI h)) n = odr a n := fun h => odr_h hn8
    generalize hs : (fun (h t : Nat) => rgN (gv (tx a) 0) n m (odr a n) (-1) (fu a (74 + 5 * j + 2) (nI h)) t) = s
    have hst : ∀ h t, s h t = rgN (gv (tx a) 0) n m (odr a n) (-1) (fu a (74 + 5 * j + 2) (nI h)) t := fun h t => by rw [← hs]
    obtain ⟨T, hT1, hT2, hT3⟩ := stop (fun h => EW (s h) (10 + 8 * i + 6) cnt) 100
    refine JJ_fq (k := 2) (r := if T = 100 then -1 else nI T) (by decide) (by decide) hR ?_ (fun M1 e33 e26 => ?_)
    · refine am_cl_ex (Q := EQ 32 0 2 (if T = 100 then -1 else nI T) (cS M)) am_c97 rfl ?_
      iterate 3 refine am_wp_step _ rfl ?_
      refine ⟨_, _, cl_t hg.1 (c_isDead _ _ _ hn), ?_⟩
      iterate 4 refine am_wp_step _ rfl ?_
      refine ⟨_, _, cl_t hg.2.1 (c_isDish _ _ _ hm), ?_⟩
      iterate 5 refine am_wp_step _ rfl ?_
      refine ⟨_, _, cl_t hg.2.2 (c_within _ _ _ _ _), ?_⟩
      iterate 3 refine am_wp_step _ rfl ?_
      have call : ∀ h (M1 : am_F), FB 2 M M1 → ∃ M2, am_cl am_cds 999 128 [.inr (.inr (25, 0, 0)), .inl (nI i), .inl (nI j), .inl (nI h), .inl (nI cnt)] (am_S M1) (some (.inl (bI (EW (s h) (10 + 8 * i + 6) cnt)))) (am_S M2) ∧ FB 2 M1 M2 := fun h M1 hF => c_eatsAlways 992 n m i j h cnt (odr a n) a (tx a) (s h) M1 (RT_FB hF hT0) hX0 (TC_FB hF hTC) hn8 hm8 ho (RB_cg (fun r hr => hF r 0 (by omega) (by omega)) hB) (by rw [hF 16 0 (by omega) (by omega)]; exact hab) (by omega) hi hj (hst h)
      refine am_for1 19 (fun w => [(0, .inr (.inr (25, 0, 0))), (1, .inl (nI i)), (2, .inl (nI j)), (3, .inl (nI cnt)), (4, .inl w)]) (fun h w M1 => w = nI h ∧ FB 2 M M1) T ?_ ?_ 0 0 M (Nat.zero_le _) ⟨nI_0.symm, FB_rf⟩
      · intro h w M1 hh hP K
        obtain ⟨hw, hF⟩ := hP
        subst hw
        iterate 3 refine am_wp_step _ rfl ?_
        refine am_iteF (nI_nlt (a := 99) (by omega) (by decide)) ?_
        iterate 6 refine am_wp_step _ rfl ?_
        refine am_call1 (call h M1 hF) (fun M2 hF2 => ?_)
        rw [bI_f (hT2 h hh)]
        iterate 3 refine am_wp_step _ rfl ?_
        exact K _ _ ⟨nI_1 h, FB_tr hF hF2⟩
      · intro w M1 hP
        obtain ⟨hw, hF⟩ := hP
        subst hw
        iterate 3 refine am_wp_step _ rfl ?_
        by_cases hTc : T = 100
        · refine am_iteT (nI_lt (a := 99) (by omega) (by omega)) ?_
          repeat' first | refine am_wp_step _ rfl ?_ | refine am_iteB (fun h => ?_) (fun h => ?_) | refine am_iteN (fun h => ?_) (fun h => ?_) | refine am_ite (fun h => ?_) (fun h => ?_) | refine ⟨_, _, c_err2 _ _, ?_⟩ | fail
          exact ⟨trivial, EQ_e (by rw [if_pos hTc]; decide) ⟨rfl, M1, rfl, cS_FB hF⟩⟩
        · refine am_iteF (nI_nlt (a := 99) (by omega) (by decide)) ?_
          iterate 6 refine am_wp_step _ rfl ?_
          refine am_call1 (call T M1 hF) (fun M2 hF2 => ?_)
          rw [bI_t (hT3.resolve_left hTc)]
          iterate 3 refine am_wp_step _ rfl ?_
          exact ⟨trivial, EQ_v (by rw [if_neg hTc]; exact nI_pos (by omega)) ⟨by rw [if_neg hTc], M2, rfl, cS_FB (FB_tr hF hF2)⟩⟩
    · have ea : M1 33 0 0 = a := (by rw [e33]; exact ha); have en : M1 33 0 0 1 = nI n := (by rw [ea]; exact hG.2.2.1); have em : M1 33 0 0 2 = nI m := (by rw [ea]; exact hG.2.2.2.1)
      refine am_cl_ex (Q := EQ 33 3 2 (if T = 100 then -1 else nI T) (fun M2 => kM M1 M2 ∧ NQ M1 M2)) am_c199 rfl ?_
      iterate 4 refine am_wp_step _ rfl ?_
      refine ⟨_, _, cl_t hg.1 (m_isD _ _ _ en), ?_⟩
      iterate 5 refine am_wp_step _ rfl ?_
      refine ⟨_, _, cl_t hg.2.1 (m_isH _ _ _ em), ?_⟩
      iterate 5 refine am_wp_step _ rfl ?_
      refine ⟨_, _, cl_t hg.2.2 (m_within _ _ _ _ _), ?_⟩
      iterate 6 refine am_wp_step _ rfl ?_
      refine am_call0 (m_aside _ M1) (fun M2 h2 => ?_)
      obtain ⟨p1, p2, p3⟩ := h2
      rw [ea] at p1 p2
      iterate 2 refine am_wp_step _ rfl ?_
      have call : ∀ h (M2 : am_F), h < 100 → M2 33 0 0 = a → ∃ M3, am_cl am_cds 999 198 [.inr (.inr (26, 0, 0)), .inl (nI i), .inl (nI cnt)] (am_S (am_up M2 33 0 0 (74 + 5 * j + 2) (nI h))) (some (.inl (bI (EW (s h) (10 + 8 * i + 6) cnt)))) (am_S M3) ∧ mB M2 M3 ∧ ∀ k, 288 ≤ k → M3 33 0 0 k = a k := by
        intro h M2 hh h2
        obtain ⟨M3, c3, f3, g3⟩ := m_doesEat 991 n m i cnt (fu a (74 + 5 * j + 2) (nI h)) (s h) (am_up M2 33 0 0 (74 + 5 * j + 2) (nI h)) (hGh h hh) (by rw [am_up_fu, h2]) (by omega) hi (fun t => by rw [hth, hoh]; exact hst h t)
        exact ⟨M3, c3, mB_tr (mB_H (mH_0 mF_up)) f3, fun k hk => by rw [g3 k hk, fu_ne (by omega)]⟩
      refine am_for1 26 (fun w => [(0, .inr (.inr (26, 0, 0))), (1, .inl (nI i)), (2, .inl (nI j)), (3, .inl (nI cnt)), (4, .inl w)]) (fun h w M2 => w = nI h ∧ M2 33 0 0 = a ∧ AS M2 a ∧ kB M1 M2) T ?_ ?_ 0 0 M2 (Nat.zero_le _) ⟨nI_0.symm, p2, p1, p3⟩
      · intro h w M2 hh hP K
        obtain ⟨hw, p2, p1, p3⟩ := hP
        subst hw
        iterate 3 refine am_wp_step _ rfl ?_
        refine am_iteF (nI_ge (b := 100) (by omega) (by decide)) ?_
        iterate 11 refine am_wp_step _ rfl ?_
        refine am_ixN (74 + 5 * j + 2) (by simp only [nI_lit, nI_add, nI_mul]) (show _ < 288 by omega) (show (288 : Nat) < 2 ^ 31 by decide) (fun e => ?_); rw [e]
        iterate 4 refine am_wp_step _ rfl ?_
        refine am_call1 (call h M2 (by omega) p2) (fun M3 h3 => ?_)
        rw [bI_f (hT2 h hh)]
        iterate 6 refine am_wp_step _ rfl ?_
        refine am_call1 (m_putBack _ _ a M3 (AS_B h3.1 p1) h3.2) (fun M4 h4 => ?_)
        iterate 4 refine am_wp_step _ rfl ?_
        exact K _ _ ⟨nI_1 h, h4.1, h4.2.1, kB_tr p3 (kB_tr (kB_B h3.1) h4.2.2)⟩
      · intro w M2 hP
        obtain ⟨hw, p2, p1, p3⟩ := hP
        subst hw
        iterate 3 refine am_wp_step _ rfl ?_
        by_cases hTc : T = 100
        · refine am_iteT (nI_le (a := 100) (by omega) (by omega)) ?_
          repeat' first | refine am_wp_step _ rfl ?_ | refine am_iteB (fun h => ?_) (fun h => ?_) | refine am_iteN (fun h => ?_) (fun h => ?_) | refine am_ite (fun h => ?_) (fun h => ?_) | refine ⟨_, _, m_find2 _ _, ?_⟩ | fail
          exact ⟨trivial, EQ_e (by rw [if_pos hTc]; decide) ⟨rfl, M2, rfl, kq_B p3 (p2.trans ea.symm)⟩⟩
        · refine am_iteF (nI_ge (b := 100) (by omega) (by decide)) ?_
          iterate 11 refine am_wp_step _ rfl ?_
          refine am_ixN (74 + 5 * j + 2) (by simp only [nI_lit, nI_add, nI_mul]) (show _ < 288 by omega) (show (288 : Nat) < 2 ^ 31 by decide) (fun e => ?_); rw [e]
          iterate 4 refine am_wp_step _ rfl ?_
          refine am_call1 (call T M2 (by omega) p2) (fun M3 h3 => ?_)
          rw [bI_t (hT3.resolve_left hTc)]
          iterate 7 refine am_wp_step _ rfl ?_
          refine am_call1 (m_putBack _ _ a M3 (AS_B h3.1 p1) h3.2) (fun M4 h4 => ?_)
          iterate 4 refine am_wp_step _ rfl ?_
          exact ⟨trivial, EQ_v (by rw [if_neg hTc]; exact nI_pos (by omega)) ⟨by rw [if_neg hTc], M4, rfl, kq_B (kB_tr p3 (kB_tr (kB_B h3.1) h4.2.2)) (h4.1.trans ea.symm)⟩⟩
  · refine JJ_e (k := 1) (by decide) (by decide) hR ?_ (fun M1 e33 e26 => ?_)
    · refine am_cl_in am_c97 rfl ?_
      repeat' first | refine am_wp_step _ rfl ?_ | refine am_iteB (fun h => ?_) (fun h => ?_) | refine am_iteN (fun h => ?_) (fun h => ?_) | refine am_ite (fun h => ?_) (fun h => ?_) | refine ⟨_, _, c_isDead _ _ _ hn, ?_⟩ | refine ⟨_, _, c_isDish _ _ _ hm, ?_⟩ | refine ⟨_, _, c_within _ _ _ _ _, ?_⟩ | refine ⟨_, _, c_isKM _ _ _, ?_⟩ | refine ⟨_, _, c_isHouse _ _ _, ?_⟩ | refine ⟨_, _, c_isAhead _ _ _, ?_⟩ | refine ⟨_, _, c_isSheet _ _ _, ?_⟩ | refine ⟨_, _, c_mostOf _ _ _, ?_⟩ | refine ⟨_, _, c_err1 _ _, ?_⟩ | refine ⟨_, _, c_err2 _ _, ?_⟩ | refine ⟨_, _, c_err3 _ _, ?_⟩ | refine ⟨_, _, c_err4 _ _, ?_⟩ | refine ⟨_, _, c_err5 _ _, ?_⟩ | refine ⟨by decide, ?_⟩ | fail
      all_goals first | exact ⟨trivial, rfl, rfl⟩ | (exfalso; clear hR hG hB hT0 hT1 hW4 hW5 hBY h288 hTC hX0 hX1; grind)
    · have ea : M1 33 0 0 = a := (by rw [e33]; exact ha); have en : M1 33 0 0 1 = nI n := (by rw [ea]; exact hG.2.2.1); have em : M1 33 0 0 2 = nI m := (by rw [ea]; exact hG.2.2.2.1)
      refine am_cl_in am_c199 rfl ?_
      repeat' first | refine am_wp_step _ rfl ?_ | refine am_iteB (fun h => ?_) (fun h => ?_) | refine am_iteN (fun h => ?_) (fun h => ?_) | refine am_ite (fun h => ?_) (fun h => ?_) | refine ⟨_, _, m_isD _ _ _ en, ?_⟩ | refine ⟨_, _, m_isH _ _ _ em, ?_⟩ | refine ⟨_, _, m_within _ _ _ _ _, ?_⟩ | refine ⟨_, _, m_isHouse _ _ _, ?_⟩ | refine ⟨_, _, m_isAhead _ _ _, ?_⟩ | refine ⟨_, _, m_isSheet _ _ _, ?_⟩ | refine ⟨_, _, m_find1 _ _, ?_⟩ | refine ⟨_, _, m_find2 _ _, ?_⟩ | refine ⟨_, _, m_find3 _ _, ?_⟩ | refine ⟨_, _, m_find4 _ _, ?_⟩ | refine ⟨_, _, m_find5 _ _, ?_⟩ | refine am_andv (by unfold vp_in; decide) ?_ | refine ⟨by decide, ?_⟩ | fail
      all_goals first | exact ⟨trivial, rfl, rfl⟩ | (exfalso; clear hR hG hB hT0 hT1 hW4 hW5 hBY h288 hTC hX0 hX1; grind)
