/-! TABLE, TOGETHER -/
theorem jj_table (x y : Int32) : JJ 95 196 [.inl x, .inl y] := by
  intro M hR
  obtain ⟨n, m, a, ha, hG, hB, hab, hT0, hT1, hW4, hW5, hz, hbl, hBY, h288, hTC⟩ := RC_get hR; have hn := hB.1; have hm := hB.2.1; have hn8 := hG.1; have hm8 := hG.2.1; have hX0 := hG.2.2.2.2.2.2.1; have hX1 := hG.2.2.2.2.2.2.2; have ho : ∀ i, i < n → odr a n i < n := (fun i hi => odr_lt hi)
  by_cases hg : (1 ≤ x ∧ x ≤ 12) ∧ -1 ≤ y ∧ y ≤ 4
  · obtain ⟨cnt, hc, rfl⟩ := wI_ex (y := x) (b := 12) ⟨by have := hg.1.1; lia, hg.1.2⟩ (by decide)
    obtain ⟨p, hpe⟩ : ∃ p, p = min 5 m := ⟨_, rfl⟩
    have hp5 : p ≤ 5 := by omega
    have hpm : p ≤ m := by omega
    have hmin : sp_min 5 (nI m) = nI p := by
      unfold sp_min
      rw [hpe]
      rcases Nat.lt_or_ge m 5 with q | q
      · rw [if_pos (show nI m < 5 from nI_lt (b := 5) q (by decide)), Nat.min_eq_right (by omega)]
      · rw [if_neg (show ¬ nI m < 5 from nI_nlt (b := 5) q (by omega)), Nat.min_eq_left q]
        rfl
    by_cases hw : nI p ≤ y
    · refine JJ_e (k := 2) (by decide) (by decide) hR ?_ (fun M1 e33 e26 => ?_)
      · refine am_cl_in am_c95 rfl ?_
        iterate 4 refine am_wp_step _ rfl ?_
        refine ⟨_, _, cl_t hg.1 (c_within _ _ _ _ _), ?_⟩
        iterate 5 refine am_wp_step _ rfl ?_
        refine ⟨_, _, cl_t hg.2 (c_within _ _ _ _ _), ?_⟩
        iterate 7 refine am_wp_step _ rfl ?_
        refine ⟨_, _, c_min _ _ _ _, ?_⟩
        rw [show (am_S M).2.2 16 0 0 3 = nI m from hm, hmin]
        iterate 4 refine am_wp_step _ rfl ?_
        refine am_iteF (Int32.not_lt.mpr hw) ?_
        repeat' first | refine am_wp_step _ rfl ?_ | refine am_iteB (fun h => ?_) (fun h => ?_) | refine am_iteN (fun h => ?_) (fun h => ?_) | refine am_ite (fun h => ?_) (fun h => ?_) | refine ⟨_, _, c_err2 _ _, ?_⟩ | fail
        exact ⟨trivial, rfl, rfl⟩
      · have ea : M1 33 0 0 = a := (by rw [e33]; exact ha); have en : M1 33 0 0 1 = nI n := (by rw [ea]; exact hG.2.2.1); have em : M1 33 0 0 2 = nI m := (by rw [ea]; exact hG.2.2.2.1)
        refine am_cl_in am_c196 rfl ?_
        iterate 4 refine am_wp_step _ rfl ?_
        refine ⟨_, _, cl_t hg.1 (m_within _ _ _ _ _), ?_⟩
        iterate 5 refine am_wp_step _ rfl ?_
        refine ⟨_, _, cl_t hg.2 (m_within _ _ _ _ _), ?_⟩
        iterate 6 refine am_wp_step _ rfl ?_
        refine am_andv (by unfold vp_in; decide) ?_
        rw [show (am_S M1).2.2 33 0 0 (Int32.toNatClampNeg 2) = nI m from em]
        iterate 1 refine am_wp_step _ rfl ?_
        refine ⟨_, _, c_min _ _ _ _, ?_⟩
        rw [hmin]
        iterate 4 refine am_wp_step _ rfl ?_
        refine am_iteF (Int32.not_lt.mpr hw) ?_
        repeat' first | refine am_wp_step _ rfl ?_ | refine am_iteB (fun h => ?_) (fun h => ?_) | refine am_iteN (fun h => ?_) (fun h => ?_) | refine am_ite (fun h => ?_) (fun h => ?_) | refine ⟨_, _, m_find2 _ _, ?_⟩ | fail
        exact ⟨trivial, rfl, rfl⟩
    · have hp4 : 1 ≤ 4 ^ p ∧ 4 ^ p ≤ 1024 := by
        rcases (by omega : p = 0 ∨ p = 1 ∨ p = 2 ∨ p = 3 ∨ p = 4 ∨ p = 5) with q | q | q | q | q | q <;> (rw [q]; decide)
      generalize hf : (fun row => smF (rgN (gv (tx a) 0) n m (odr a n) (-1) (aR a row p p) cnt) 6 (-1) n) = f
      have hfj : ∀ row, smF (rgN (gv (tx a) 0) n m (odr a n) (-1) (aR a row p p) cnt) 6 (-1) n = f row := fun row => by rw [← hf]
      have hTA : ∀ row, TAk (SAv (gv (tx a) 0) n m (odr a n) a cnt p) row p 3 = f row := by
        intro row
        obtain ⟨G1, G2, G3⟩ := GA_aR (row := row) (p := p) hpm hG
        have hGr := (GA_rgN (E := gv (tx a) 0) (k := cnt) (ab := -1) ho G1).1
        rw [← hfj, smF_S (Nat.le_refl n) hGr]
        have hv : ∀ s, s < 3 → smS (rgN (gv (tx a) 0) n m (odr a n) (-1) (aR a row p p) cnt) (nI s) n = SAv (gv (tx a) 0) n m (odr a n) a cnt p s (stN row p s p) := by
          intro s hs
          have hV := rgN_VS (E := gv (tx a) 0) (k := cnt) hn8 hm8 ho (nI_nm1 (show s < 2 ^ 31 by omega)) (VS_tab (row := row) (a := a) hn8 hs hpm)
          exact smS_VS (Nat.le_refl n) hV
        rw [show smS (rgN (gv (tx a) 0) n m (odr a n) (-1) (aR a row p p) cnt) 0 n = _ from hv 0 (by omega), show smS (rgN (gv (tx a) 0) n m (odr a n) (-1) (aR a row p p) cnt) 1 n = _ from hv 1 (by omega), show smS (rgN (gv (tx a) 0) n m (odr a n) (-1) (aR a row p p) cnt) 2 n = _ from hv 2 (by omega)]
        show 0 + _ + _ + _ = _
        generalize SAv (gv (tx a) 0) n m (odr a n) a cnt p 0 (stN row p 0 p) = z0
        generalize SAv (gv (tx a) 0) n m (odr a n) a cnt p 1 (stN row p 1 p) = z1
        generalize SAv (gv (tx a) 0) n m (odr a n) a cnt p 2 (stN row p 2 p) = z2
        lia
      have hbs : bst (fun row => TAk (SAv (gv (tx a) 0) n m (odr a n) a cnt p) row p 3) (4 ^ p) = bst f (4 ^ p) := bst_cg fun j _ => hTA j
      have hbl4 := bst_lt f (4 ^ p) (by omega)
      obtain ⟨vv, hvv⟩ : ∃ vv : Int32, (y < 0 → vv = f (bst f (4 ^ p))) ∧ (∀ i, i < p → y = nI i → vv = nI (dg (bst f (4 ^ p)) p i)) := by
        by_cases hy : y < 0
        · exact ⟨_, fun _ => rfl, fun i hi q => absurd hy (by rw [q]; exact nI_pos (by omega))⟩
        · obtain ⟨i, hi, hie⟩ := nI_ex (Int32.not_lt.mp hy)
          refine ⟨nI (dg (bst f (4 ^ p)) p i), fun q => absurd q hy, fun j hj q => ?_⟩
          rw [(nI_eq (by omega) (by omega)).mp (q.symm.trans hie)]
      have hyc : y < 0 ∨ ∃ i, i < p ∧ y = nI i := by
        by_cases hy : y < 0
        · exact Or.inl hy
        · obtain ⟨i, hi, rfl⟩ := nI_ex (Int32.not_lt.mp hy)
          refine Or.inr ⟨i, ?_, rfl⟩
          rcases Nat.lt_or_ge i p with q | q
          · exact q
          · exact absurd (nI_le q hi) hw
      refine JJ_q (v := vv) hR ?_ (fun M1 e33 e26 => ?_)
      · refine am_cl_v (cS M) am_c95 rfl ?_
        iterate 4 refine am_wp_step _ rfl ?_
        refine ⟨_, _, cl_t hg.1 (c_within _ _ _ _ _), ?_⟩
        iterate 5 refine am_wp_step _ rfl ?_
        refine ⟨_, _, cl_t hg.2 (c_within _ _ _ _ _), ?_⟩
        iterate 7 refine am_wp_step _ rfl ?_
        refine ⟨_, _, c_min _ _ _ _, ?_⟩
        rw [show (am_S M).2.2 16 0 0 3 = nI m from hm, hmin]
        iterate 4 refine am_wp_step _ rfl ?_
        refine am_iteT (Int32.not_le.mp hw) ?_
        iterate 4 refine am_wp_step _ rfl ?_
        refine am_call0 (c_findSA _ n m p cnt (odr a n) a (tx a) M hT0 hX0 hTC hn8 hm8 hp5 hpm ho hB hab (by omega)) (fun M1 h1 => ?_)
        iterate 3 refine am_wp_step _ rfl ?_
        refine ⟨_, _, c_best _ p _ M1 hp5 h1.1, ?_⟩
        rw [hbs]
        iterate 3 refine am_wp_step _ rfl ?_
        rcases hyc with hy | ⟨i, hi, rfl⟩
        · refine am_iteF (Int32.not_le.mpr hy) ?_
          iterate 4 refine am_wp_step _ rfl ?_
          refine ⟨_, _, c_tableA _ (bst f (4 ^ p)) p _ M1 (by omega) hp5 h1.1, ?_⟩
          rw [hTA]
          iterate 2 refine am_wp_step _ rfl ?_
          exact ⟨trivial, by rw [hvv.1 hy], M1, rfl, cS_F30 h1.2⟩
        · refine am_iteT (nI_pos' (by omega)) ?_
          iterate 4 refine am_wp_step _ rfl ?_
          refine ⟨_, _, c_placeIn _ (bst f (4 ^ p)) p i _ (by omega) hp5 hi, ?_⟩
          iterate 1 refine am_wp_step _ rfl ?_
          exact ⟨trivial, by rw [hvv.2 i hi rfl], M1, rfl, cS_F30 h1.2⟩
      · have ea : M1 33 0 0 = a := (by rw [e33]; exact ha); have en : M1 33 0 0 1 = nI n := (by rw [ea]; exact hG.2.2.1); have em : M1 33 0 0 2 = nI m := (by rw [ea]; exact hG.2.2.2.1)
        have hx : ∃ M2, am_cl am_cds 1000 196 [.inr (.inr (26, 0, 0)), .inl (nI cnt), .inl y] (am_S M1) (some (.inl vv)) (am_S M2) ∧ M2 33 0 0 = a ∧ kB M1 M2 := by
          refine am_cl_v (fun M2 => M2 33 0 0 = a ∧ kB M1 M2) am_c196 rfl ?_
          iterate 4 refine am_wp_step _ rfl ?_
          refine ⟨_, _, cl_t hg.1 (m_within _ _ _ _ _), ?_⟩
          iterate 5 refine am_wp_step _ rfl ?_
          refine ⟨_, _, cl_t hg.2 (m_within _ _ _ _ _), ?_⟩
          iterate 6 refine am_wp_step _ rfl ?_
          refine am_andv (by unfold vp_in; decide) ?_
          rw [show (am_S M1).2.2 33 0 0 (Int32.toNatClampNeg 2) = nI m from em]
          iterate 1 refine am_wp_step _ rfl ?_
          refine ⟨_, _, c_min _ _ _ _, ?_⟩
          rw [hmin]
          iterate 4 refine am_wp_step _ rfl ?_
          refine am_iteT (Int32.not_le.mp hw) ?_
          iterate 5 refine am_wp_step _ rfl ?_
          refine am_call0 (m_aside _ M1) (fun M2 h2 => ?_)
          obtain ⟨p1, p2, p3⟩ := h2
          rw [ea] at p1 p2
          iterate 6 refine am_wp_step _ rfl ?_
          refine am_for3 39 (fun u v w => [(0, .inr (.inr (26, 0, 0))), (1, .inl (nI cnt)), (2, .inl y), (3, .inl (nI p)), (4, .inl u), (5, .inl v), (6, .inl w)]) (fun i u v w M2 => w = nI i ∧ (i = 0 → u = -1) ∧ (0 < i → u = nI (bst f i) ∧ v = f (bst f i)) ∧ M2 33 0 0 = a ∧ AS M2 a ∧ kB M1 M2) (4 ^ p) ?_ ?_ 0 (-1) 0 0 M2 (by omega) ⟨nI_0.symm, fun _ => rfl, fun q => absurd q (Nat.lt_irrefl _), p2, p1, p3⟩
          · intro i u v w M2 hi hP K
            obtain ⟨rfl, h0, h1, p2, p1, p3⟩ := hP
            iterate 7 refine am_wp_step _ rfl ?_
            refine am_iteF (by rw [sh10 p (by omega)]; exact nI_ge hi (by omega)) ?_
            iterate 2 refine am_wp_step _ rfl ?_
            refine am_for1 48 (fun t => [(0, .inr (.inr (26, 0, 0))), (1, .inl (nI cnt)), (2, .inl y), (3, .inl (nI p)), (4, .inl u), (5, .inl v), (6, .inl (nI i)), (7, .inl t)]) (fun t tt M3 => tt = nI t ∧ M3 33 0 0 = aR a i p t ∧ AS M3 a ∧ kB M1 M3) p ?_ ?_ 0 0 M2 (Nat.zero_le _) ⟨nI_0.symm, p2, p1, p3⟩
            · intro t tt M3 ht hP K2
              obtain ⟨rfl, g1, g2, g3⟩ := hP
              have hd := dg_lt i p t
              have fin : ∀ z : Int32, z = (if dg i p t = 3 then -1 else nI (dg i p t)) → AS (am_up M3 33 0 0 (74 + 5 * t + 4) z) a ∧ am_up M3 33 0 0 (74 + 5 * t + 4) z 33 0 0 = aR a i p (t + 1) := by
                intro z hz
                refine ⟨fun q hq => by rw [am_up_b (by decide)]; exact g2 q hq, ?_⟩
                rw [am_up_fu, g1, hz]
                rfl
              iterate 3 refine am_wp_step _ rfl ?_
              refine am_iteF (nI_ge ht (by omega)) ?_
              iterate 5 refine am_wp_step _ rfl ?_
              refine ⟨_, _, m_digit _ i p t _ (by omega) hp5 ht, ?_⟩
              iterate 13 refine am_wp_step _ rfl ?_
              by_cases h3 : dg i p t = 3
              · obtain ⟨f1, f2⟩ := fin (-1) (by rw [if_pos h3])
                refine am_iteF (by rw [h3]; decide) ?_
                iterate 3 refine am_wp_step _ rfl ?_
                refine am_ixN (74 + 5 * t + 4) (by simp only [nI_lit, nI_add, nI_mul]) (show _ < 288 by omega) (show (288 : Nat) < 2 ^ 31 by decide) (fun e => ?_); rw [e]
                iterate 2 refine am_wp_step _ rfl ?_
                exact K2 _ _ ⟨nI_1 t, f2, f1, kB_tr g3 kB_up⟩
              · obtain ⟨f1, f2⟩ := fin (nI (dg i p t)) (by rw [if_neg h3])
                refine am_iteT (fun q => h3 ((nI_eq (by omega) (by decide)).mp (show nI (dg i p t) = nI 3 from q))) ?_
                iterate 2 refine am_wp_step _ rfl ?_
                refine am_ixN (74 + 5 * t + 4) (by simp only [nI_lit, nI_add, nI_mul]) (show _ < 288 by omega) (show (288 : Nat) < 2 ^ 31 by decide) (fun e => ?_); rw [e]
                iterate 2 refine am_wp_step _ rfl ?_
                exact K2 _ _ ⟨nI_1 t, f2, f1, kB_tr g3 kB_up⟩
            · intro tt M3 hP
              obtain ⟨rfl, g1, g2, g3⟩ := hP
              obtain ⟨G1, G2, G3⟩ := GA_aR (row := i) (p := p) hpm hG
              iterate 3 refine am_wp_step _ rfl ?_
              refine am_iteT (nI_le (Nat.le_refl _) (by omega)) ?_
              iterate 4 refine am_wp_step _ rfl ?_
              refine am_call1 (m_angersBy _ n m cnt (-1) a (aR a i p p) M3 g2 g1 G1 (fun q hq => (aR_v a i p p).2 q (fun j hj => by omega)) (by omega)) (fun M4 h4 => ?_)
              rw [G2, G3, hfj]
              obtain ⟨s1, s2, s3⟩ := h4
              iterate 3 refine am_wp_step _ rfl ?_
              by_cases hi0 : i = 0
              · subst hi0
                refine am_iteT (by rw [h0 rfl]; decide) ?_
                iterate 6 refine am_wp_step _ rfl ?_
                refine K _ _ _ _ ⟨rfl, fun q => by omega, fun _ => ?_, s1, s2, kB_tr g3 s3⟩
                rw [bst_1]
                exact ⟨rfl, rfl⟩
              · obtain ⟨hu, hv⟩ := h1 (by omega)
                have hb8 := bst_le f i
                refine am_iteF (by rw [hu]; exact nI_pos (by omega)) ?_
                iterate 3 refine am_wp_step _ rfl ?_
                refine am_ite (fun h => ?_) (fun h => ?_)
                · iterate 2 refine am_wp_step _ rfl ?_
                  refine K _ _ _ _ ⟨nI_1 i, fun q => by omega, fun _ => ?_, s1, s2, kB_tr g3 s3⟩
                  rw [bst_s, if_neg (by rw [← hv]; exact Int32.not_lt.mpr h)]
                  exact ⟨hu, hv⟩
                · iterate 6 refine am_wp_step _ rfl ?_
                  refine K _ _ _ _ ⟨nI_1 i, fun q => by omega, fun _ => ?_, s1, s2, kB_tr g3 s3⟩
                  rw [bst_s, if_pos (by rw [← hv]; exact Int32.not_le.mp h)]
                  exact ⟨rfl, rfl⟩
          · intro u v w M2 hP
            obtain ⟨rfl, h0, h1, p2, p1, p3⟩ := hP
            obtain ⟨hu, hv⟩ := h1 (by omega)
            iterate 7 refine am_wp_step _ rfl ?_
            refine am_iteT (by rw [sh10 p (by omega)]; exact nI_le (Nat.le_refl _) (by omega)) ?_
            iterate 2 refine am_wp_step _ rfl ?_
            rcases hyc with hy | ⟨i, hi, rfl⟩
            · refine am_iteF (Int32.not_le.mpr hy) ?_
              iterate 3 refine am_wp_step _ rfl ?_
              exact ⟨trivial, by rw [hvv.1 hy, hv], M2, rfl, p2, p3⟩
            · refine am_iteT (nI_pos' (by omega)) ?_
              rw [hu]
              iterate 5 refine am_wp_step _ rfl ?_
              refine ⟨_, _, m_digit _ (bst f (4 ^ p)) p i _ (by omega) hp5 hi, ?_⟩
              iterate 1 refine am_wp_step _ rfl ?_
              exact ⟨trivial, by rw [hvv.2 i hi rfl], M2, rfl, p2, p3⟩
        obtain ⟨M2, c2, f1, f2⟩ := hx
        exact ⟨M2, c2, kq_B f2 (f1.trans ea.symm)⟩
  · refine JJ_e (k := 1) (by decide) (by decide) hR ?_ (fun M1 e33 e26 => ?_)
    · refine am_cl_in am_c95 rfl ?_
      repeat' first | refine am_wp_step _ rfl ?_ | refine am_iteB (fun h => ?_) (fun h => ?_) | refine am_iteN (fun h => ?_) (fun h => ?_) | refine am_ite (fun h => ?_) (fun h => ?_) | refine ⟨_, _, c_within _ _ _ _ _, ?_⟩ | refine ⟨_, _, c_err1 _ _, ?_⟩ | fail
      all_goals first | exact ⟨trivial, rfl, rfl⟩ | (exfalso; clear hR hG hB hT0 hT1 hW4 hW5 hBY h288 hTC hX0 hX1; grind)
    · have ea : M1 33 0 0 = a := (by rw [e33]; exact ha); have en : M1 33 0 0 1 = nI n := (by rw [ea]; exact hG.2.2.1); have em : M1 33 0 0 2 = nI m := (by rw [ea]; exact hG.2.2.2.1)
      refine am_cl_in am_c196 rfl ?_
      repeat' first | refine am_wp_step _ rfl ?_ | refine am_iteB (fun h => ?_) (fun h => ?_) | refine am_iteN (fun h => ?_) (fun h => ?_) | refine am_ite (fun h => ?_) (fun h => ?_) | refine ⟨_, _, m_within _ _ _ _ _, ?_⟩ | refine ⟨_, _, m_find1 _ _, ?_⟩ | fail
      all_goals first | exact ⟨trivial, rfl, rfl⟩ | (exfalso; clear hR hG hB hT0 hT1 hW4 hW5 hBY h288 hTC hX0 hX1; grind)
