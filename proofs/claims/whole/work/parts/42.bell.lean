/-! BELLS, AND WHAT IS AHEAD -/
theorem eat1_lo {E : Int32 → Int32 → Int32 → Int32 → Int32} {m d c : Nat} {a : Nat → Int32} (hc : c < 10) : eat1 E m d a c = a c := by
  unfold eat1
  split
  · exact fu_ne (by omega)
  · rw [fu_ne (by omega), fu_ne (by omega), fu_ne (by omega)]
theorem rgG_lo {E : Int32 → Int32 → Int32 → Int32 → Int32} {m k c : Nat} {o : Nat → Nat} {ab : Int32} {a : Nat → Int32} (hc : c < 10) : rgG E m o ab a k c = a c := by
  induction k with
  | zero => rfl
  | succ k ih =>
    unfold rgG
    split
    · exact ih
    · rw [eat1_lo hc, ih]
theorem rg_0 {E : Int32 → Int32 → Int32 → Int32 → Int32} {n m : Nat} {o : Nat → Nat} {ab : Int32} {a : Nat → Int32} : rg E n m o ab a 0 = a 0 + 1 := by
  unfold rg
  rw [fu_at, hgK_out (Nat.le_refl _) (fun j hj => by omega), clK_out (m := m) (Nat.le_refl _) (fun j hj => by omega), rgG_lo (by omega)]
theorem bgN_0 {l : Bool} {E : Int32 → Int32 → Int32 → Int32 → Int32} {n m k : Nat} {o : Nat → Nat} {ab : Int32} {a : Nat → Int32} : bgN l E n m o ab a k 0 = a 0 + nI k := by
  induction k with
  | zero => rw [nI_0]; show a 0 = _; lia
  | succ k ih =>
    rw [bgN_s, rg_0, ← nI_1]
    cases l with
    | true => rw [if_pos rfl, dgK_out (by omega) (fun j hj => by omega), ih]; lia
    | false => rw [if_neg (by decide), ih]; lia
theorem bgN_out {l : Bool} {E : Int32 → Int32 → Int32 → Int32 → Int32} {n m k c : Nat} {o : Nat → Nat} {ab : Int32} {a : Nat → Int32} (hm : m ≤ 8) (ho : ∀ i, i < n → o i < n) (hc : KC n m c) (h5 : c ≠ 5) (h1 : ∀ j, j < m → c ≠ 74 + 5 * j + 1) : bgN l E n m o ab a k c = a c := by
  induction k with
  | zero => rfl
  | succ k ih =>
    rw [bgN_s, rg_out hm ho hc]
    cases l with
    | true => rw [if_pos rfl, dgK_out h5 h1, ih]
    | false => rw [if_neg (by decide), ih]
def FZ (M M' : am_F) : Prop := ∀ r bb, ¬ ((r = 16 ∨ r = 17 ∨ r = 18 ∨ r = 28 ∨ r = 29 ∨ r = 20) ∧ bb = 0) → ¬ ((r = 21 ∨ r = 27) ∧ (bb = 1 ∨ bb = 3)) → M' r bb = M r bb
theorem FZ_rf {M : am_F} : FZ M M := fun _ _ _ _ => rfl
theorem FZ_tr {M M1 M2 : am_F} (h1 : FZ M M1) (h2 : FZ M1 M2) : FZ M M2 := fun r bb a b => (h2 r bb a b).trans (h1 r bb a b)
theorem FZ_X {M M' : am_F} (h : FX M M') : FZ M M' := fun r bb a b => h r bb (by omega) b
theorem cN_FZ {M M' : am_F} (h : FZ M M') : cN M M' := fun r bb a b _ _ _ => h r bb (by omega) (by omega)
theorem RR_z {M M1 : am_F} {n m : Nat} {a a' : Nat → Int32} (hR : RR M 0 a) (hF : FZ M M1) (hG : GA n m a') (hB : RB M1 0 n m (odr a' n) a') (hab : M1 16 0 0 7 = -1) (hbl : 0 ≤ a' 0 ∧ a' 0 ≤ 9999) (h5 : M1 20 0 0 5 = a' 5) (hs : ∀ c, c = 3 ∨ c = 4 ∨ 114 ≤ c → a' c = a c) : RR M1 0 a' := by
  obtain ⟨n0, m0, q1, q2, q3, q4, q5, q6, q7, q8, q9, q10, q11⟩ := hR
  have ht : tx a' = tx a := tx_of fun c hc => hs c (by omega)
  refine ⟨n, m, hG, hB, hab, ?_, ?_, ?_, ?_, h5, hbl, ?_, ?_⟩
  · rw [ht]; exact RT_cg2 (hF 21 _ (by omega) (by omega)) (hF 27 _ (by omega) (by omega)) q4
  · rw [ht]; exact RT_cg2 (hF 21 _ (by omega) (by omega)) (hF 27 _ (by omega) (by omega)) q5
  · rw [hs 3 (by omega), show (fun j => a' (114 + j)) = (fun j => a (114 + j)) from funext fun j => hs _ (by omega)]
    exact RW_cg (hF 21 _ (by omega) (by omega)) (hF 27 _ (by omega) (by omega)) q6
  · rw [hs 4 (by omega), show (fun j => a' (164 + j)) = (fun j => a (164 + j)) from funext fun j => hs _ (by omega)]
    exact RW_cg (hF 21 _ (by omega) (by omega)) (hF 27 _ (by omega) (by omega)) q7
  · intro k h1 h2 j hj
    rw [hs 3 (by omega)] at h1
    rw [hs (114 + j) (by omega)]
    exact q10 k h1 h2 j hj
  · intro k hk
    rw [hs k (by omega)]
    exact q11 k hk
theorem m_go (d n m cnt : Nat) (l : Bool) (M : am_F) (hG : GA n m (M 33 0 0)) (hc : 1 ≤ cnt) (hc2 : cnt ≤ 120) (hb : M 33 0 0 0 + nI cnt ≤ 9999) : ∃ M', am_cl am_cds (d + 8) 187 [.inr (.inr (26, 0, 0)), .inl (nI cnt), .inl (if l = true then 1 else 0)] (am_S M) (some (.inl (smF (bgN l (gv (tx (M 33 0 0)) 0) n m (odr (M 33 0 0) n) (-1) (M 33 0 0) cnt) 6 (-1) n))) (am_S M') ∧ M' 33 0 0 = bgN l (gv (tx (M 33 0 0)) 0) n m (odr (M 33 0 0) n) (-1) (M 33 0 0) cnt ∧ kB M M' := by
  refine am_cl_v (fun M' => M' 33 0 0 = bgN l (gv (tx (M 33 0 0)) 0) n m (odr (M 33 0 0) n) (-1) (M 33 0 0) cnt ∧ kB M M') am_c187 rfl ?_
  have ho : ∀ i, i < n → odr (M 33 0 0) n i < n := fun i hi => odr_lt hi
  obtain ⟨g1, g2, g3⟩ := GA_bgN (l := l) (E := gv (tx (M 33 0 0)) 0) (k := cnt) (ab := -1) ho hG
  have h1 : (1 : Int32) ≤ nI cnt ∧ nI cnt ≤ 120 := ⟨nI_le (a := 1) hc (by omega), nI_le (b := 120) hc2 (by decide)⟩
  iterate 4 refine am_wp_step _ rfl ?_
  refine ⟨_, _, cl_t h1 (m_within _ _ _ _ _), ?_⟩
  iterate 5 refine am_wp_step _ rfl ?_
  refine am_andv (by unfold vp_in; decide) ?_
  iterate 4 refine am_wp_step _ rfl ?_
  refine am_iteT hb ?_
  iterate 5 refine am_wp_step _ rfl ?_
  refine am_call0 (m_bellsGo d n m cnt l (-1) M hG (by omega)) (fun M1 hh => ?_)
  iterate 4 refine am_wp_step _ rfl ?_
  refine ⟨_, _, m_sumOf _ 6 n (-1) M1 (by decide) hG.1 (by rw [hh.1]; exact g1.2.2.1), ?_⟩
  iterate 1 refine am_wp_step _ rfl ?_
  exact ⟨trivial, by rw [hh.1], M1, rfl, hh.1, kB_B hh.2⟩
set_option maxRecDepth 40000 in
theorem c_bellsRef (d : Nat) (x a0 : Int32) (M : am_F) (h : M 16 0 0 5 = a0) : am_cl am_cds (d + 2) 125 [.inr (.inr (25, 0, 0)), .inl x] (am_S M) (some (.inl (if ¬ (1 ≤ x ∧ x ≤ 120) then -1000000001 else if 9999 - x < a0 then -1000000003 else 0))) (am_S M) := by
  refine am_cl_in am_c125 rfl ?_
  by_cases h1 : 1 ≤ x ∧ x ≤ 120
  · rw [if_neg (not_not_intro h1)]
    iterate 4 refine am_wp_step _ rfl ?_
    refine ⟨_, _, cl_t h1 (c_within _ _ _ _ _), ?_⟩
    iterate 9 refine am_wp_step _ rfl ?_
    by_cases h2 : M 16 0 0 5 ≤ 9999 - x
    · refine am_iteT h2 ?_
      rw [h] at h2
      iterate 2 refine am_wp_step _ rfl ?_
      exact ⟨trivial, by rw [if_neg (Int32.not_lt.mpr h2)], rfl⟩
    · refine am_iteF h2 ?_
      rw [h] at h2
      iterate 3 refine am_wp_step _ rfl ?_
      exact ⟨trivial, by rw [if_pos (Int32.not_le.mp h2)], rfl⟩
  · rw [if_pos h1]
    iterate 4 refine am_wp_step _ rfl ?_
    refine ⟨_, _, cl_f h1 (c_within _ _ _ _ _), ?_⟩
    iterate 3 refine am_wp_step _ rfl ?_
    exact ⟨trivial, rfl, rfl⟩
theorem jj_bells (x : Int32) : JJ 90 188 [.inl x] := by
  intro M hR
  obtain ⟨n, m, a, ha, hG, hB, hab, hT0, hT1, hW4, hW5, hz, hbl, hBY, h288, hTC⟩ := RC_get hR; have hn := hB.1; have hm := hB.2.1; have hn8 := hG.1; have hm8 := hG.2.1; have hX0 := hG.2.2.2.2.2.2.1; have hX1 := hG.2.2.2.2.2.2.2; have ho : ∀ i, i < n → odr a n i < n := (fun i hi => odr_lt hi)
  have hb0 : M 16 0 0 5 = a 0 := hB.2.2.1
  by_cases hg : 1 ≤ x ∧ x ≤ 120
  · by_cases hg2 : 9999 < a 0 + x
    · refine JJ_e (k := 3) (by decide) (by decide) hR ?_ (fun M1 e33 e26 => ?_)
      · refine am_cl_in am_c90 rfl ?_
        have hr := c_bellsRef 997 x _ M hb0
        rw [if_neg (not_not_intro hg), if_pos (by lia)] at hr
        repeat' first | refine am_wp_step _ rfl ?_ | refine am_iteB (fun h => ?_) (fun h => ?_) | refine am_iteN (fun h => ?_) (fun h => ?_) | refine am_ite (fun h => ?_) (fun h => ?_) | refine ⟨_, _, hr, ?_⟩ | refine ⟨_, _, c_err3 _ _, ?_⟩ | fail
        exact ⟨trivial, rfl, rfl⟩
      · have ea : M1 33 0 0 = a := (by rw [e33]; exact ha); have en : M1 33 0 0 1 = nI n := (by rw [ea]; exact hG.2.2.1); have em : M1 33 0 0 2 = nI m := (by rw [ea]; exact hG.2.2.2.1)
        refine am_cl_in am_c188 rfl ?_
        iterate 4 refine am_wp_step _ rfl ?_
        have hr : am_cl am_cds 999 187 [.inr (.inr (26, 0, 0)), .inl x, .inl 0] (am_S M1) (some (.inl (-1000000003))) (am_S (am_up M1 33 3 0 3 (M1 33 3 0 3 + 1))) := by
          refine am_cl_in am_c187 rfl ?_
          iterate 4 refine am_wp_step _ rfl ?_
          refine ⟨_, _, cl_t hg (m_within _ _ _ _ _), ?_⟩
          iterate 5 refine am_wp_step _ rfl ?_
          refine am_andv (by unfold vp_in; decide) ?_
          iterate 4 refine am_wp_step _ rfl ?_
          refine am_iteF (by show ¬ M1 33 0 0 0 + x ≤ 9999; rw [ea]; exact Int32.not_le.mpr hg2) ?_
          repeat' first | refine am_wp_step _ rfl ?_ | refine am_iteB (fun h => ?_) (fun h => ?_) | refine am_iteN (fun h => ?_) (fun h => ?_) | refine am_ite (fun h => ?_) (fun h => ?_) | refine ⟨_, _, m_find3 _ _, ?_⟩ | fail
          exact ⟨trivial, rfl, rfl⟩
        refine ⟨_, _, hr, ?_⟩
        iterate 1 refine am_wp_step _ rfl ?_
        exact ⟨trivial, rfl, rfl⟩
    · obtain ⟨cnt, hc, rfl⟩ := wI_ex (y := x) (b := 120) ⟨by lia, hg.2⟩ (by decide)
      have hc1 : 1 ≤ cnt := (nI_leI (a := 1) (by decide) (by omega)).mp hg.1
      obtain ⟨g1, g2, g3⟩ := GA_bgN (l := false) (E := gv (tx a) 0) (k := cnt) (ab := -1) ho hG
      have hcl : ∃ M1, am_cl am_cds 1000 90 [.inr (.inr (25, 0, 0)), .inl (nI cnt)] (am_S M) (some (.inl (smF (bgN false (gv (tx a) 0) n m (odr a n) (-1) a cnt) 6 (-1) n))) (am_S M1) ∧ RB M1 0 n m (odr a n) (bgN false (gv (tx a) 0) n m (odr a n) (-1) a cnt) ∧ M1 16 0 0 7 = -1 ∧ FX M M1 := by
        refine am_cl_v (fun M1 => RB M1 0 n m (odr a n) (bgN false (gv (tx a) 0) n m (odr a n) (-1) a cnt) ∧ M1 16 0 0 7 = -1 ∧ FX M M1) am_c90 rfl ?_
        have hr := c_bellsRef 997 (nI cnt) _ M hb0
        rw [if_neg (not_not_intro hg), if_neg (by lia)] at hr
        iterate 3 refine am_wp_step _ rfl ?_
        refine ⟨_, _, hr, ?_⟩
        iterate 5 refine am_wp_step _ rfl ?_
        refine am_for1 12 (fun y => [(0, .inr (.inr (25, 0, 0))), (1, .inl (nI cnt)), (2, .inl 0), (3, .inl y)]) (fun i y M1 => y = nI i ∧ RB M1 0 n m (odr a n) (bgN false (gv (tx a) 0) n m (odr a n) (-1) a i) ∧ M1 16 0 0 7 = -1 ∧ FB 0 M M1) cnt ?_ ?_ 0 0 M (Nat.zero_le _) ⟨nI_0.symm, hB, hab, FB_rf⟩
        · intro i y M1 hi hP K
          obtain ⟨hy, h1, h2, hF⟩ := hP
          iterate 3 refine am_wp_step _ rfl ?_
          refine am_iteF (by rw [hy]; exact nI_ge hi (by omega)) ?_
          iterate 7 refine am_wp_step _ rfl ?_
          refine am_call0 (c_ring _ 0 n m _ (-1) _ (tx a) M1 (RT_FB hF hT0) hX0 (TC_FB hF hTC) hn8 hm8 ho h1 h2) (fun M2 hh => ?_)
          iterate 2 refine am_wp_step _ rfl ?_
          exact K _ _ ⟨by rw [hy, nI_1], hh.1, hh.2.2, FB_tr hF hh.2.1⟩
        · intro y M1 hP
          obtain ⟨hy, h1, h2, hF⟩ := hP
          iterate 3 refine am_wp_step _ rfl ?_
          refine am_iteT (by rw [hy]; exact nI_le (Nat.le_refl _) (by omega)) ?_
          iterate 4 refine am_wp_step _ rfl ?_
          refine ⟨_, _, c_angers _ 0 n m _ (-1) _ M1 hn8 h1 h2, ?_⟩
          iterate 1 refine am_wp_step _ rfl ?_
          exact ⟨trivial, rfl, M1, rfl, h1, h2, FX_FB hF⟩
      obtain ⟨M1, c1, r1, r2, r3⟩ := hcl
      have ea : M1 33 0 0 = a := by rw [r3 33 0 (by omega) (by omega)]; exact ha
      obtain ⟨M2, c2, k1, k2⟩ := m_go 991 n m cnt false M1 (by rw [ea]; exact hG) hc1 hc (by rw [ea]; exact Int32.not_lt.mp hg2)
      rw [ea] at c2 k1
      refine JJ_b (n := n) (m := m) (v := smF (bgN false (gv (tx a) 0) n m (odr a n) (-1) a cnt) 6 (-1) n) (M1 := M1) (M2 := M2) hR ha c1 ?_ r3 k2 k1 g1 ?_ r2 ?_ ?_
      · refine am_cl_in am_c188 rfl ?_
        iterate 4 refine am_wp_step _ rfl ?_
        refine ⟨_, _, c2, ?_⟩
        iterate 1 refine am_wp_step _ rfl ?_
        exact ⟨trivial, rfl, rfl⟩
      · rw [g3]
        exact r1
      · rw [bgN_0]
        have := nI_pos' (n := cnt) (by omega)
        lia
      · intro c hc
        rw [bgN_f]
        refine rgN_out hm8 ho ?_
        rcases (by omega : (1 ≤ c ∧ c < 6) ∨ 114 ≤ c) with q | q
        · exact KC_lo q.1 q.2
        · exact KC_hi hn8 hm8 q
  · refine JJ_e (k := 1) (by decide) (by decide) hR ?_ (fun M1 e33 e26 => ?_)
    · refine am_cl_in am_c90 rfl ?_
      have hr := c_bellsRef 997 x _ M hb0
      rw [if_pos hg] at hr
      repeat' first | refine am_wp_step _ rfl ?_ | refine am_iteB (fun h => ?_) (fun h => ?_) | refine am_iteN (fun h => ?_) (fun h => ?_) | refine am_ite (fun h => ?_) (fun h => ?_) | refine ⟨_, _, hr, ?_⟩ | refine ⟨_, _, c_err1 _ _, ?_⟩ | fail
      exact ⟨trivial, rfl, rfl⟩
    · have ea : M1 33 0 0 = a := (by rw [e33]; exact ha); have en : M1 33 0 0 1 = nI n := (by rw [ea]; exact hG.2.2.1); have em : M1 33 0 0 2 = nI m := (by rw [ea]; exact hG.2.2.2.1)
      refine am_cl_in am_c188 rfl ?_
      iterate 4 refine am_wp_step _ rfl ?_
      have hr : am_cl am_cds 999 187 [.inr (.inr (26, 0, 0)), .inl x, .inl 0] (am_S M1) (some (.inl (-1000000001))) (am_S (am_up M1 33 3 0 1 (M1 33 3 0 1 + 1))) := by
        refine am_cl_in am_c187 rfl ?_
        repeat' first | refine am_wp_step _ rfl ?_ | refine am_iteB (fun h => ?_) (fun h => ?_) | refine am_iteN (fun h => ?_) (fun h => ?_) | refine am_ite (fun h => ?_) (fun h => ?_) | refine ⟨_, _, cl_f hg (m_within _ _ _ _ _), ?_⟩ | refine ⟨_, _, m_find1 _ _, ?_⟩ | fail
        exact ⟨trivial, rfl, rfl⟩
      refine ⟨_, _, hr, ?_⟩
      iterate 1 refine am_wp_step _ rfl ?_
      exact ⟨trivial, rfl, rfl⟩
theorem c_draw (d : Nat) (M : am_F) : am_cl am_cds (d + 1) 47 [.inr (.inr (20, 0, 0))] (am_S M) (some (.inl (shr8 (dr1 (M 20 0 0 5))))) (am_S (am_up M 20 0 0 5 (dr1 (M 20 0 0 5)))) := by
  refine am_cl_in am_c47 rfl ?_
  repeat' first | refine am_wp_step _ rfl ?_ | refine am_iteB (fun h => ?_) (fun h => ?_) | refine am_iteN (fun h => ?_) (fun h => ?_) | refine am_ite (fun h => ?_) (fun h => ?_) | fail
  refine ⟨trivial, ?_, rfl⟩
  dsimp only [am_S]
  rw [am_up_same]
  rfl
theorem RB_5 {M : am_F} {b n m : Nat} {o : Nat → Nat} {a : Nat → Int32} {v w : Int32} (hR : RB M b n m o a) : RB (am_up M 20 b 0 5 v) b n m o (fu a 5 w) := by
  unfold RB at *
  unfold am_up fu
  grind
theorem c_dogs (d n m : Nat) (o : Nat → Nat) (a : Nat → Int32) (M : am_F) (hn : n ≤ 8) (hm : m ≤ 8) (hB : RB M 0 n m o a) (hz : M 20 0 0 5 = a 5) (hab : M 16 0 0 7 = -1) : ∃ M', am_cl am_cds (d + 2) 46 [.inr (.inr (20, 0, 0))] (am_S M) none (am_S M') ∧ RB M' 0 n m o (dgK a m) ∧ M' 20 0 0 5 = dgK a m 5 ∧ M' 16 0 0 7 = -1 ∧ FZ M M' := by
  refine am_cl_v (fun M' => RB M' 0 n m o (dgK a m) ∧ M' 20 0 0 5 = dgK a m 5 ∧ M' 16 0 0 7 = -1 ∧ FZ M M') am_c46 rfl ?_
  iterate 2 refine am_wp_step _ rfl ?_
  refine am_for1 2 (fun y => [(0, .inr (.inr (20, 0, 0))), (1, .inl y)]) (fun i y M1 => y = nI i ∧ RB M1 0 n m o (dgK a i) ∧ M1 20 0 0 5 = dgK a i 5 ∧ M1 16 0 0 7 = -1 ∧ FZ M M1) m ?_ ?_ 0 0 M (Nat.zero_le _) ⟨nI_0.symm, hB, hz, hab, FZ_rf⟩
  · intro i y M1 hi hP K
    obtain ⟨hy, h1, h2, h3, hF⟩ := hP
    have hnx : y + 1 = nI (i + 1) := by rw [hy, nI_1]
    have hs := dgK_s a i
    generalize dgK a (i + 1) = aN at *
    generalize dgK a i = a1 at *
    have e4 : M1 17 0 i 4 = a1 (74 + 5 * i + 4) := RB_hv hi (by decide) h1
    have e1 : M1 17 0 i 1 = a1 (74 + 5 * i + 1) := RB_hv hi (by decide) h1
    iterate 5 refine am_wp_step _ rfl ?_
    refine am_iteF (by show ¬ M1 16 0 0 3 ≤ y; rw [h1.2.1, hy]; exact nI_ge hi (by omega)) ?_
    iterate 5 refine am_wp_step _ rfl ?_
    refine am_ixN (i) (hy) (show _ < 8 by omega) (show (8 : Nat) < 2 ^ 31 by decide) (fun e => ?_); rw [e]
    iterate 5 refine am_wp_step _ rfl ?_
    refine am_ite (fun h => ?_) (fun h => ?_)
    · have h : M1 17 0 i 4 = -1 := h
      rw [e4] at h
      iterate 2 refine am_wp_step _ rfl ?_
      refine K _ _ ⟨hnx, ?_⟩
      have hs2 : aN = a1 := by rw [hs]; unfold dg1; rw [if_pos h]
      rw [hs2]
      exact ⟨h1, h2, h3, hF⟩
    · have h : ¬ M1 17 0 i 4 = -1 := h
      rw [e4] at h
      iterate 2 refine am_wp_step _ rfl ?_
      refine ⟨_, _, c_draw _ M1, ?_⟩
      iterate 2 refine am_wp_step _ rfl ?_
      refine ⟨by decide, ?_⟩
      iterate 1 refine am_wp_step _ rfl ?_
      refine am_ite (fun h7 => ?_) (fun h7 => ?_)
      · have h7 : rm (shr8 (dr1 (M1 20 0 0 5))) 10 ≠ 0 := h7
        rw [h2] at h7
        iterate 2 refine am_wp_step _ rfl ?_
        have hs2 : aN = fu a1 5 (dr1 (a1 5)) := by rw [hs]; unfold dg1; rw [if_neg h, if_neg h7]
        refine K _ _ ⟨hnx, ?_, ?_, ?_, ?_⟩
        · rw [hs2]; exact RB_5 h1
        · rw [hs2, am_up_same, fu_at, h2]
        · rw [am_up_r (by decide)]; exact h3
        · exact FZ_tr hF (fun r bb q _ => am_up_rb (by omega))
      · have h7 : ¬ rm (shr8 (dr1 (M1 20 0 0 5))) 10 ≠ 0 := h7
        rw [h2] at h7
        have h7 := Decidable.not_not.mp h7
        iterate 6 refine am_wp_step _ rfl ?_
        refine ⟨_, _, c_draw _ _, ?_⟩
        iterate 2 refine am_wp_step _ rfl ?_
        refine ⟨by decide, ?_⟩
        iterate 4 refine am_wp_step _ rfl ?_
        refine ⟨_, _, c_max _ _ _ _, ?_⟩
        iterate 3 refine am_wp_step _ rfl ?_
        have hs2 : aN = fu (fu (fu a1 5 (dr1 (a1 5))) 5 (dr1 (dr1 (a1 5)))) (74 + 5 * i + 1) (sp_max 0 (a1 (74 + 5 * i + 1) - rm (shr8 (dr1 (dr1 (a1 5)))) 3 - 1)) := by rw [hs]; unfold dg1; rw [if_neg h, if_pos h7]
        dsimp only [am_S]
        rw [am_up_same]
        have ev : sp_max 0 (am_up M1 20 0 0 5 (dr1 (M1 20 0 0 5)) 17 0 i 1 - (shr8 (dr1 (dr1 (M1 20 0 0 5))) - shr8 (dr1 (dr1 (M1 20 0 0 5))) / 3 * 3 + 1)) = sp_max 0 (a1 (74 + 5 * i + 1) - rm (shr8 (dr1 (dr1 (a1 5)))) 3 - 1) := by
          rw [am_up_r (by decide), e1, h2]
          unfold rm
          congr 1
          generalize shr8 (dr1 (dr1 (a1 5))) - shr8 (dr1 (dr1 (a1 5))) / 3 * 3 = q
          lia
        refine K _ _ ⟨hnx, ?_, ?_, ?_, ?_⟩
        · rw [hs2]
          rw [← ev]
          exact RB_h hn hi (by decide) (RB_5 (RB_5 h1))
        · rw [hs2, am_up_r (by decide), am_up_same, fu_ne (by omega), fu_at, h2]
        · rw [am_up_r (by decide), am_up_r (by decide), am_up_r (by decide)]
          exact h3
        · exact FZ_tr hF (FZ_tr (fun r bb q _ => am_up_rb (by omega)) (FZ_tr (fun r bb q _ => am_up_rb (by omega)) (fun r bb q _ => am_up_rb (by have : am_el 35 = 17 := rfl; omega))))
  · intro y M1 hP
    obtain ⟨hy, h1, h2, h3, hF⟩ := hP
    iterate 5 refine am_wp_step _ rfl ?_
    refine am_iteT (by show M1 16 0 0 3 ≤ y; rw [h1.2.1, hy]; exact nI_le (Nat.le_refl _) (by omega)) ?_
    iterate 1 refine am_wp_step _ rfl ?_
    exact ⟨rfl, M1, rfl, h1, h2, h3, hF⟩
theorem jj_loose (x : Int32) : JJ 91 189 [.inl x] := by
  intro M hR
  obtain ⟨n, m, a, ha, hG, hB, hab, hT0, hT1, hW4, hW5, hz, hbl, hBY, h288, hTC⟩ := RC_get hR; have hn := hB.1; have hm := hB.2.1; have hn8 := hG.1; have hm8 := hG.2.1; have hX0 := hG.2.2.2.2.2.2.1; have hX1 := hG.2.2.2.2.2.2.2; have ho : ∀ i, i < n → odr a n i < n := (fun i hi => odr_lt hi)
  have hb0 : M 16 0 0 5 = a 0 := hB.2.2.1
  by_cases hg : 1 ≤ x ∧ x ≤ 120
  · by_cases hg2 : 9999 < a 0 + x
    · refine JJ_e (k := 3) (by decide) (by decide) hR ?_ (fun M1 e33 e26 => ?_)
      · refine am_cl_in am_c91 rfl ?_
        have hr := c_bellsRef 997 x _ M hb0
        rw [if_neg (not_not_intro hg), if_pos (by lia)] at hr
        repeat' first | refine am_wp_step _ rfl ?_ | refine am_iteB (fun h => ?_) (fun h => ?_) | refine am_iteN (fun h => ?_) (fun h => ?_) | refine am_ite (fun h => ?_) (fun h => ?_) | refine ⟨_, _, hr, ?_⟩ | refine ⟨_, _, c_err3 _ _, ?_⟩ | fail
        exact ⟨trivial, rfl, rfl⟩
      · have ea : M1 33 0 0 = a := (by rw [e33]; exact ha); have en : M1 33 0 0 1 = nI n := (by rw [ea]; exact hG.2.2.1); have em : M1 33 0 0 2 = nI m := (by rw [ea]; exact hG.2.2.2.1)
        refine am_cl_in am_c189 rfl ?_
        iterate 4 refine am_wp_step _ rfl ?_
        have hr : am_cl am_cds 999 187 [.inr (.inr (26, 0, 0)), .inl x, .inl 1] (am_S M1) (some (.inl (-1000000003))) (am_S (am_up M1 33 3 0 3 (M1 33 3 0 3 + 1))) := by
          refine am_cl_in am_c187 rfl ?_
          iterate 4 refine am_wp_step _ rfl ?_
          refine ⟨_, _, cl_t hg (m_within _ _ _ _ _), ?_⟩
          iterate 5 refine am_wp_step _ rfl ?_
          refine am_andv (by unfold vp_in; decide) ?_
          iterate 4 refine am_wp_step _ rfl ?_
          refine am_iteF (by show ¬ M1 33 0 0 0 + x ≤ 9999; rw [ea]; exact Int32.not_le.mpr hg2) ?_
          repeat' first | refine am_wp_step _ rfl ?_ | refine am_iteB (fun h => ?_) (fun h => ?_) | refine am_iteN (fun h => ?_) (fun h => ?_) | refine am_ite (fun h => ?_) (fun h => ?_) | refine ⟨_, _, m_find3 _ _, ?_⟩ | fail
          exact ⟨trivial, rfl, rfl⟩
        refine ⟨_, _, hr, ?_⟩
        iterate 1 refine am_wp_step _ rfl ?_
        exact ⟨trivial, rfl, rfl⟩
    · obtain ⟨cnt, hc, rfl⟩ := wI_ex (y := x) (b := 120) ⟨by lia, hg.2⟩ (by decide)
      have hc1 : 1 ≤ cnt := (nI_leI (a := 1) (by decide) (by omega)).mp hg.1
      obtain ⟨g1, g2, g3⟩ := GA_bgN (l := true) (E := gv (tx a) 0) (k := cnt) (ab := -1) ho hG
      have hcl : ∃ M1, am_cl am_cds 1000 91 [.inr (.inr (25, 0, 0)), .inl (nI cnt)] (am_S M) (some (.inl (smF (bgN true (gv (tx a) 0) n m (odr a n) (-1) a cnt) 6 (-1) n))) (am_S M1) ∧ RB M1 0 n m (odr a n) (bgN true (gv (tx a) 0) n m (odr a n) (-1) a cnt) ∧ M1 20 0 0 5 = bgN true (gv (tx a) 0) n m (odr a n) (-1) a cnt 5 ∧ M1 16 0 0 7 = -1 ∧ FZ M M1 := by
        refine am_cl_v (fun M1 => RB M1 0 n m (odr a n) (bgN true (gv (tx a) 0) n m (odr a n) (-1) a cnt) ∧ M1 20 0 0 5 = bgN true (gv (tx a) 0) n m (odr a n) (-1) a cnt 5 ∧ M1 16 0 0 7 = -1 ∧ FZ M M1) am_c91 rfl ?_
        have hr := c_bellsRef 997 (nI cnt) _ M hb0
        rw [if_neg (not_not_intro hg), if_neg (by lia)] at hr
        iterate 3 refine am_wp_step _ rfl ?_
        refine ⟨_, _, hr, ?_⟩
        iterate 5 refine am_wp_step _ rfl ?_
        refine am_for1 12 (fun y => [(0, .inr (.inr (25, 0, 0))), (1, .inl (nI cnt)), (2, .inl 0), (3, .inl y)]) (fun i y M1 => y = nI i ∧ RB M1 0 n m (odr a n) (bgN true (gv (tx a) 0) n m (odr a n) (-1) a i) ∧ M1 20 0 0 5 = bgN true (gv (tx a) 0) n m (odr a n) (-1) a i 5 ∧ M1 16 0 0 7 = -1 ∧ FZ M M1) cnt ?_ ?_ 0 0 M (Nat.zero_le _) ⟨nI_0.symm, hB, hz, hab, FZ_rf⟩
        · intro i y M1 hi hP K
          obtain ⟨hy, h1, h4, h2, hF⟩ := hP
          iterate 3 refine am_wp_step _ rfl ?_
          refine am_iteF (by rw [hy]; exact nI_ge hi (by omega)) ?_
          iterate 3 refine am_wp_step _ rfl ?_
          refine am_call0 (c_dogs _ n m _ _ M1 hn8 hm8 h1 h4 h2) (fun M2 hh => ?_)
          obtain ⟨q1, q2, q3, q4⟩ := hh
          have hF2 := FZ_tr hF q4
          have hT2 : RT M2 0 0 (tx a) := RT_cg2 (hF2 21 _ (by omega) (by omega)) (hF2 27 _ (by omega) (by omega)) hT0
          have hTC2 : TC M2 := TC_cg (funext fun bb => hF2 24 bb (by omega) (by omega)) hTC
          iterate 7 refine am_wp_step _ rfl ?_
          refine am_call0 (c_ring _ 0 n m _ (-1) _ (tx a) M2 hT2 hX0 hTC2 hn8 hm8 ho q1 q3) (fun M3 hh => ?_)
          iterate 2 refine am_wp_step _ rfl ?_
          refine K _ _ ⟨by rw [hy, nI_1], ?_, ?_, hh.2.2, FZ_tr hF2 (FZ_X (FX_FB hh.2.1))⟩
          · rw [bgN_s, if_pos rfl]
            exact hh.1
          · rw [bgN_s, if_pos rfl, rg_out hm8 ho (KC_lo (by omega) (by omega)), hh.2.1 20 0 (by omega) (by omega)]
            exact q2
        · intro y M1 hP
          obtain ⟨hy, h1, h4, h2, hF⟩ := hP
          iterate 3 refine am_wp_step _ rfl ?_
          refine am_iteT (by rw [hy]; exact nI_le (Nat.le_refl _) (by omega)) ?_
          iterate 4 refine am_wp_step _ rfl ?_
          refine ⟨_, _, c_angers _ 0 n m _ (-1) _ M1 hn8 h1 h2, ?_⟩
          iterate 1 refine am_wp_step _ rfl ?_
          exact ⟨trivial, rfl, M1, rfl, h1, h4, h2, hF⟩
      obtain ⟨M1, c1, r1, r4, r2, r3⟩ := hcl
      have ea : M1 33 0 0 = a := by rw [r3 33 0 (by omega) (by omega)]; exact ha
      obtain ⟨M2, c2, k1, k2⟩ := m_go 991 n m cnt true M1 (by rw [ea]; exact hG) hc1 hc (by rw [ea]; exact Int32.not_lt.mp hg2)
      rw [ea] at c2 k1
      refine JJ_w (v := smF (bgN true (gv (tx a) 0) n m (odr a n) (-1) a cnt) 6 (-1) n) (M1 := M1) (M2 := M2) hR c1 ?_ (cN_FZ r3) (kN_B k2) ?_
      · refine am_cl_in am_c189 rfl ?_
        iterate 4 refine am_wp_step _ rfl ?_
        refine ⟨_, _, c2, ?_⟩
        iterate 1 refine am_wp_step _ rfl ?_
        exact ⟨trivial, rfl, rfl⟩
      · rw [k1]
        have hr := hR.1
        rw [ha] at hr
        refine RR_z hr r3 g1 (by rw [g3]; exact r1) r2 ?_ r4 ?_
        · rw [bgN_0]
          have := nI_pos' (n := cnt) (by omega)
          lia
        · intro c hc
          rcases (by omega : (1 ≤ c ∧ c < 5) ∨ 114 ≤ c) with q | q
          · exact bgN_out hm8 ho (KC_lo q.1 (by omega)) (by omega) (fun j hj => by omega)
          · exact bgN_out hm8 ho (KC_hi hn8 hm8 q) (by omega) (fun j hj => by omega)
  · refine JJ_e (k := 1) (by decide) (by decide) hR ?_ (fun M1 e33 e26 => ?_)
    · refine am_cl_in am_c91 rfl ?_
      have hr := c_bellsRef 997 x _ M hb0
      rw [if_pos hg] at hr
      repeat' first | refine am_wp_step _ rfl ?_ | refine am_iteB (fun h => ?_) (fun h => ?_) | refine am_iteN (fun h => ?_) (fun h => ?_) | refine am_ite (fun h => ?_) (fun h => ?_) | refine ⟨_, _, hr, ?_⟩ | refine ⟨_, _, c_err1 _ _, ?_⟩ | fail
      exact ⟨trivial, rfl, rfl⟩
    · have ea : M1 33 0 0 = a := (by rw [e33]; exact ha); have en : M1 33 0 0 1 = nI n := (by rw [ea]; exact hG.2.2.1); have em : M1 33 0 0 2 = nI m := (by rw [ea]; exact hG.2.2.2.1)
      refine am_cl_in am_c189 rfl ?_
      iterate 4 refine am_wp_step _ rfl ?_
      have hr : am_cl am_cds 999 187 [.inr (.inr (26, 0, 0)), .inl x, .inl 1] (am_S M1) (some (.inl (-1000000001))) (am_S (am_up M1 33 3 0 1 (M1 33 3 0 1 + 1))) := by
        refine am_cl_in am_c187 rfl ?_
        repeat' first | refine am_wp_step _ rfl ?_ | refine am_iteB (fun h => ?_) (fun h => ?_) | refine am_iteN (fun h => ?_) (fun h => ?_) | refine am_ite (fun h => ?_) (fun h => ?_) | refine ⟨_, _, cl_f hg (m_within _ _ _ _ _), ?_⟩ | refine ⟨_, _, m_find1 _ _, ?_⟩ | fail
        exact ⟨trivial, rfl, rfl⟩
      refine ⟨_, _, hr, ?_⟩
      iterate 1 refine am_wp_step _ rfl ?_
      exact ⟨trivial, rfl, rfl⟩
theorem jj_then (x y z : Int32) : JJ 92 191 [.inl x, .inl y, .inl z] := by
  intro M hR
  obtain ⟨n, m, a, ha, hG, hB, hab, hT0, hT1, hW4, hW5, hz, hbl, hBY, h288, hTC⟩ := RC_get hR; have hn := hB.1; have hm := hB.2.1; have hn8 := hG.1; have hm8 := hG.2.1; have hX0 := hG.2.2.2.2.2.2.1; have hX1 := hG.2.2.2.2.2.2.2; have ho : ∀ i, i < n → odr a n i < n := (fun i hi => odr_lt hi)
  by_cases hg : (0 ≤ x ∧ x ≤ 120) ∧ isN y n ∧ 0 ≤ z ∧ z ≤ 8
  · obtain ⟨cnt, hc, rfl⟩ := wI_ex (b := 120) hg.1 (by decide)
    obtain ⟨i, hi, rfl⟩ := isN_ex hg.2.1 (by omega)
    obtain ⟨k, hk, rfl⟩ := wI_ex (b := 8) hg.2.2 (by decide)
    obtain ⟨g1, g2, g3⟩ := GA_rgN (E := gv (tx a) 0) (k := cnt) (ab := -1) ho hG
    refine JJ_q (v := fld (rgN (gv (tx a) 0) n m (odr a n) (-1) a cnt) m i k) hR ?_ (fun M1 e33 e26 => ?_)
    · refine am_cl_v (cS M) am_c92 rfl ?_
      repeat' first | refine am_wp_step _ rfl ?_ | refine am_iteB (fun h => ?_) (fun h => ?_) | refine am_iteN (fun h => ?_) (fun h => ?_) | refine am_ite (fun h => ?_) (fun h => ?_) | refine ⟨_, _, cl_t hg.1 (c_isAhead _ _ _), ?_⟩ | refine ⟨_, _, cl_t hg.2.1 (c_isDead _ _ _ hn), ?_⟩ | refine ⟨_, _, cl_t hg.2.2 (c_within _ _ _ _ _), ?_⟩ | refine am_call0 (c_lookAhead _ n m cnt (odr a n) a (tx a) M hT0 hX0 hTC hn8 hm8 ho hB hab (by omega)) (fun M1 h1 => ?_) | refine am_call1 (c_ghostF _ 2 i k n m (odr a n) _ (tx a) M1 (RT_FB h1.2.2 hT0) hX0 (TC_FB h1.2.2 hTC) hm8 hn8 hi hk h1.1 g2) (fun M2 h2 => ?_) | fail
      exact ⟨trivial, rfl, M2, rfl, cS_tr (cS_FB h1.2.2) (cS_of h2)⟩
    · have ea : M1 33 0 0 = a := (by rw [e33]; exact ha); have en : M1 33 0 0 1 = nI n := (by rw [ea]; exact hG.2.2.1); have em : M1 33 0 0 2 = nI m := (by rw [ea]; exact hG.2.2.2.1)
      have hx : ∃ M2, am_cl am_cds 1000 191 [.inr (.inr (26, 0, 0)), .inl (nI cnt), .inl (nI i), .inl (nI k)] (am_S M1) (some (.inl (fld (rgN (gv (tx a) 0) n m (odr a n) (-1) a cnt) m i k))) (am_S M2) ∧ M2 33 0 0 = a ∧ kB M1 M2 := by
        refine am_cl_v (fun M2 => M2 33 0 0 = a ∧ kB M1 M2) am_c191 rfl ?_
        iterate 2 refine am_wp_step _ rfl ?_
        refine ⟨_, _, cl_t hg.1 (m_isAhead _ _ _), ?_⟩
        iterate 5 refine am_wp_step _ rfl ?_
        refine ⟨_, _, cl_t hg.2.1 (m_isD _ _ _ en), ?_⟩
        iterate 5 refine am_wp_step _ rfl ?_
        refine ⟨_, _, cl_t hg.2.2 (m_within _ _ _ _ _), ?_⟩
        iterate 6 refine am_wp_step _ rfl ?_
        refine am_call0 (m_aside _ M1) (fun M2 h2 => ?_)
        obtain ⟨p1, p2, p3⟩ := h2
        rw [ea] at p1 p2
        iterate 5 refine am_wp_step _ rfl ?_
        refine am_call0 (m_bellsGo _ n m cnt false (-1) M2 (by rw [p2]; exact hG) (by omega)) (fun M3 h3 => ?_)
        rw [bgN_f, p2] at h3
        iterate 5 refine am_wp_step _ rfl ?_
        refine am_call1 (m_fieldOf _ i k n m M3 hi hk (by rw [h3.1]; exact g1)) (fun M4 h4 => ?_)
        rw [h3.1]
        iterate 1 refine am_wp_step _ rfl ?_
        refine am_call1 (m_putBack _ _ a M4 (fun q hq => by rw [h4 33 2 (by omega)]; exact AS_B h3.2 p1 q hq) (fun q hq => ?_)) (fun M5 h5 => ?_)
        · rw [h4 33 0 (by omega), h3.1, rgN_out hm8 ho (KC_hi hn8 hm8 (by omega))]
        iterate 1 refine am_wp_step _ rfl ?_
        exact ⟨trivial, rfl, M5, rfl, h5.1, kB_tr p3 (kB_tr (kB_B h3.2) (kB_tr (kB_G h4) h5.2.2))⟩
      obtain ⟨M2, c2, f1, f2⟩ := hx
      exact ⟨M2, c2, kq_B f2 (f1.trans ea.symm)⟩
  · refine JJ_e (k := 1) (by decide) (by decide) hR ?_ (fun M1 e33 e26 => ?_)
    · refine am_cl_in am_c92 rfl ?_
      repeat' first | refine am_wp_step _ rfl ?_ | refine am_iteB (fun h => ?_) (fun h => ?_) | refine am_iteN (fun h => ?_) (fun h => ?_) | refine am_ite (fun h => ?_) (fun h => ?_) | refine ⟨_, _, c_isDead _ _ _ hn, ?_⟩ | refine ⟨_, _, c_isDish _ _ _ hm, ?_⟩ | refine ⟨_, _, c_within _ _ _ _ _, ?_⟩ | refine ⟨_, _, c_isKM _ _ _, ?_⟩ | refine ⟨_, _, c_isHouse _ _ _, ?_⟩ | refine ⟨_, _, c_isAhead _ _ _, ?_⟩ | refine ⟨_, _, c_isSheet _ _ _, ?_⟩ | refine ⟨_, _, c_mostOf _ _ _, ?_⟩ | refine ⟨_, _, c_err1 _ _, ?_⟩ | refine ⟨_, _, c_err2 _ _, ?_⟩ | refine ⟨_, _, c_err3 _ _, ?_⟩ | refine ⟨_, _, c_err4 _ _, ?_⟩ | refine ⟨_, _, c_err5 _ _, ?_⟩ | refine ⟨by decide, ?_⟩ | fail
      all_goals first | exact ⟨trivial, rfl, rfl⟩ | (exfalso; clear hR hG hB hT0 hT1 hW4 hW5 hBY h288 hTC hX0 hX1; grind)
    · have ea : M1 33 0 0 = a := (by rw [e33]; exact ha); have en : M1 33 0 0 1 = nI n := (by rw [ea]; exact hG.2.2.1); have em : M1 33 0 0 2 = nI m := (by rw [ea]; exact hG.2.2.2.1)
      refine am_cl_in am_c191 rfl ?_
      repeat' first | refine am_wp_step _ rfl ?_ | refine am_iteB (fun h => ?_) (fun h => ?_) | refine am_iteN (fun h => ?_) (fun h => ?_) | refine am_ite (fun h => ?_) (fun h => ?_) | refine ⟨_, _, m_isD _ _ _ en, ?_⟩ | refine ⟨_, _, m_isH _ _ _ em, ?_⟩ | refine ⟨_, _, m_within _ _ _ _ _, ?_⟩ | refine ⟨_, _, m_isHouse _ _ _, ?_⟩ | refine ⟨_, _, m_isAhead _ _ _, ?_⟩ | refine ⟨_, _, m_isSheet _ _ _, ?_⟩ | refine ⟨_, _, m_find1 _ _, ?_⟩ | refine ⟨_, _, m_find2 _ _, ?_⟩ | refine ⟨_, _, m_find3 _ _, ?_⟩ | refine ⟨_, _, m_find4 _ _, ?_⟩ | refine ⟨_, _, m_find5 _ _, ?_⟩ | refine am_andv (by unfold vp_in; decide) ?_ | refine ⟨by decide, ?_⟩ | fail
      all_goals first | exact ⟨trivial, rfl, rfl⟩ | (exfalso; clear hR hG hB hT0 hT1 hW4 hW5 hBY h288 hTC hX0 hX1; grind)
theorem jj_thenHeat (x y : Int32) : JJ 93 192 [.inl x, .inl y] := by
  intro M hR
  obtain ⟨n, m, a, ha, hG, hB, hab, hT0, hT1, hW4, hW5, hz, hbl, hBY, h288, hTC⟩ := RC_get hR; have hn := hB.1; have hm := hB.2.1; have hn8 := hG.1; have hm8 := hG.2.1; have hX0 := hG.2.2.2.2.2.2.1; have hX1 := hG.2.2.2.2.2.2.2; have ho : ∀ i, i < n → odr a n i < n := (fun i hi => odr_lt hi)
  by_cases hg : (0 ≤ x ∧ x ≤ 120) ∧ isN y m
  · obtain ⟨cnt, hc, rfl⟩ := wI_ex (b := 120) hg.1 (by decide)
    obtain ⟨i, hi, rfl⟩ := isN_ex hg.2 (by omega)
    obtain ⟨g1, g2, g3⟩ := GA_rgN (E := gv (tx a) 0) (k := cnt) (ab := -1) ho hG
    refine JJ_q (v := rgN (gv (tx a) 0) n m (odr a n) (-1) a cnt (74 + 5 * i + 2)) hR ?_ (fun M1 e33 e26 => ?_)
    · refine am_cl_v (cS M) am_c93 rfl ?_
      iterate 2 refine am_wp_step _ rfl ?_
      refine ⟨_, _, cl_t hg.1 (c_isAhead _ _ _), ?_⟩
      iterate 4 refine am_wp_step _ rfl ?_
      refine ⟨_, _, cl_t hg.2 (c_isDish _ _ _ hm), ?_⟩
      iterate 4 refine am_wp_step _ rfl ?_
      refine am_call0 (c_lookAhead _ n m cnt (odr a n) a (tx a) M hT0 hX0 hTC hn8 hm8 ho hB hab (by omega)) (fun M1 h1 => ?_)
      iterate 5 refine am_wp_step _ rfl ?_
      refine am_ixN (i) (rfl) (show _ < 8 by omega) (show (8 : Nat) < 2 ^ 31 by decide) (fun e => ?_); rw [e]
      iterate 2 refine am_wp_step _ rfl ?_
      refine ⟨trivial, ?_, M1, rfl, cS_FB h1.2.2⟩
      rw [← RB_hv hi (by decide) h1.1]
      rfl
    · have ea : M1 33 0 0 = a := (by rw [e33]; exact ha); have en : M1 33 0 0 1 = nI n := (by rw [ea]; exact hG.2.2.1); have em : M1 33 0 0 2 = nI m := (by rw [ea]; exact hG.2.2.2.1)
      have hx : ∃ M2, am_cl am_cds 1000 192 [.inr (.inr (26, 0, 0)), .inl (nI cnt), .inl (nI i)] (am_S M1) (some (.inl (rgN (gv (tx a) 0) n m (odr a n) (-1) a cnt (74 + 5 * i + 2)))) (am_S M2) ∧ M2 33 0 0 = a ∧ kB M1 M2 := by
        refine am_cl_v (fun M2 => M2 33 0 0 = a ∧ kB M1 M2) am_c192 rfl ?_
        iterate 2 refine am_wp_step _ rfl ?_
        refine ⟨_, _, cl_t hg.1 (m_isAhead _ _ _), ?_⟩
        iterate 5 refine am_wp_step _ rfl ?_
        refine ⟨_, _, cl_t hg.2 (m_isH _ _ _ em), ?_⟩
        iterate 6 refine am_wp_step _ rfl ?_
        refine am_call0 (m_aside _ M1) (fun M2 h2 => ?_)
        obtain ⟨p1, p2, p3⟩ := h2
        rw [ea] at p1 p2
        iterate 5 refine am_wp_step _ rfl ?_
        refine am_call0 (m_bellsGo _ n m cnt false (-1) M2 (by rw [p2]; exact hG) (by omega)) (fun M3 h3 => ?_)
        rw [bgN_f, p2] at h3
        iterate 5 refine am_wp_step _ rfl ?_
        refine ⟨_, _, m_dishIs _ i 2 M3 (by omega) (by decide), ?_⟩
        rw [h3.1]
        iterate 1 refine am_wp_step _ rfl ?_
        refine am_call1 (m_putBack _ _ a M3 (AS_B h3.2 p1) (fun q hq => ?_)) (fun M5 h5 => ?_)
        · rw [h3.1, rgN_out hm8 ho (KC_hi hn8 hm8 (by omega))]
        iterate 1 refine am_wp_step _ rfl ?_
        exact ⟨trivial, rfl, M5, rfl, h5.1, kB_tr p3 (kB_tr (kB_B h3.2) h5.2.2)⟩
      obtain ⟨M2, c2, f1, f2⟩ := hx
      exact ⟨M2, c2, kq_B f2 (f1.trans ea.symm)⟩
  · refine JJ_e (k := 1) (by decide) (by decide) hR ?_ (fun M1 e33 e26 => ?_)
    · refine am_cl_in am_c93 rfl ?_
      repeat' first | refine am_wp_step _ rfl ?_ | refine am_iteB (fun h => ?_) (fun h => ?_) | refine am_iteN (fun h => ?_) (fun h => ?_) | refine am_ite (fun h => ?_) (fun h => ?_) | refine ⟨_, _, c_isDead _ _ _ hn, ?_⟩ | refine ⟨_, _, c_isDish _ _ _ hm, ?_⟩ | refine ⟨_, _, c_within _ _ _ _ _, ?_⟩ | refine ⟨_, _, c_isKM _ _ _, ?_⟩ | refine ⟨_, _, c_isHouse _ _ _, ?_⟩ | refine ⟨_, _, c_isAhead _ _ _, ?_⟩ | refine ⟨_, _, c_isSheet _ _ _, ?_⟩ | refine ⟨_, _, c_mostOf _ _ _, ?_⟩ | refine ⟨_, _, c_err1 _ _, ?_⟩ | refine ⟨_, _, c_err2 _ _, ?_⟩ | refine ⟨_, _, c_err3 _ _, ?_⟩ | refine ⟨_, _, c_err4 _ _, ?_⟩ | refine ⟨_, _, c_err5 _ _, ?_⟩ | refine ⟨by decide, ?_⟩ | fail
      all_goals first | exact ⟨trivial, rfl, rfl⟩ | (exfalso; clear hR hG hB hT0 hT1 hW4 hW5 hBY h288 hTC hX0 hX1; grind)
    · have ea : M1 33 0 0 = a := (by rw [e33]; exact ha); have en : M1 33 0 0 1 = nI n := (by rw [ea]; exact hG.2.2.1); have em : M1 33 0 0 2 = nI m := (by rw [ea]; exact hG.2.2.2.1)
      refine am_cl_in am_c192 rfl ?_
      repeat' first | refine am_wp_step _ rfl ?_ | refine am_iteB (fun h => ?_) (fun h => ?_) | refine am_iteN (fun h => ?_) (fun h => ?_) | refine am_ite (fun h => ?_) (fun h => ?_) | refine ⟨_, _, m_isD _ _ _ en, ?_⟩ | refine ⟨_, _, m_isH _ _ _ em, ?_⟩ | refine ⟨_, _, m_within _ _ _ _ _, ?_⟩ | refine ⟨_, _, m_isHouse _ _ _, ?_⟩ | refine ⟨_, _, m_isAhead _ _ _, ?_⟩ | refine ⟨_, _, m_isSheet _ _ _, ?_⟩ | refine ⟨_, _, m_find1 _ _, ?_⟩ | refine ⟨_, _, m_find2 _ _, ?_⟩ | refine ⟨_, _, m_find3 _ _, ?_⟩ | refine ⟨_, _, m_find4 _ _, ?_⟩ | refine ⟨_, _, m_find5 _ _, ?_⟩ | refine am_andv (by unfold vp_in; decide) ?_ | refine ⟨by decide, ?_⟩ | fail
      all_goals first | exact ⟨trivial, rfl, rfl⟩ | (exfalso; clear hR hG hB hT0 hT1 hW4 hW5 hBY h288 hTC hX0 hX1; grind)
theorem jj_angers (x : Int32) : JJ 94 194 [.inl x] := by
  intro M hR
  obtain ⟨n, m, a, ha, hG, hB, hab, hT0, hT1, hW4, hW5, hz, hbl, hBY, h288, hTC⟩ := RC_get hR; have hn := hB.1; have hm := hB.2.1; have hn8 := hG.1; have hm8 := hG.2.1; have hX0 := hG.2.2.2.2.2.2.1; have hX1 := hG.2.2.2.2.2.2.2; have ho : ∀ i, i < n → odr a n i < n := (fun i hi => odr_lt hi)
  by_cases hg : 0 ≤ x ∧ x ≤ 120
  · obtain ⟨cnt, hc, rfl⟩ := wI_ex (b := 120) hg (by decide)
    obtain ⟨g1, g2, g3⟩ := GA_rgN (E := gv (tx a) 0) (k := cnt) (ab := -1) ho hG
    refine JJ_q (v := smF (rgN (gv (tx a) 0) n m (odr a n) (-1) a cnt) 6 (-1) n) hR ?_ (fun M1 e33 e26 => ?_)
    · refine am_cl_v (cS M) am_c94 rfl ?_
      iterate 2 refine am_wp_step _ rfl ?_
      refine ⟨_, _, cl_t hg (c_isAhead _ _ _), ?_⟩
      iterate 4 refine am_wp_step _ rfl ?_
      refine am_call0 (c_lookAhead _ n m cnt (odr a n) a (tx a) M hT0 hX0 hTC hn8 hm8 ho hB hab (by omega)) (fun M1 h1 => ?_)
      iterate 3 refine am_wp_step _ rfl ?_
      refine ⟨_, _, c_angers _ 2 n m _ (-1) _ M1 hn8 h1.1 h1.2.1, ?_⟩
      iterate 1 refine am_wp_step _ rfl ?_
      exact ⟨trivial, rfl, M1, rfl, cS_FB h1.2.2⟩
    · have ea : M1 33 0 0 = a := (by rw [e33]; exact ha); have en : M1 33 0 0 1 = nI n := (by rw [ea]; exact hG.2.2.1); have em : M1 33 0 0 2 = nI m := (by rw [ea]; exact hG.2.2.2.1)
      have hx : ∃ M2, am_cl am_cds 1000 194 [.inr (.inr (26, 0, 0)), .inl (nI cnt)] (am_S M1) (some (.inl (smF (rgN (gv (tx a) 0) n m (odr a n) (-1) a cnt) 6 (-1) n))) (am_S M2) ∧ M2 33 0 0 = a ∧ kB M1 M2 := by
        refine am_cl_v (fun M2 => M2 33 0 0 = a ∧ kB M1 M2) am_c194 rfl ?_
        iterate 2 refine am_wp_step _ rfl ?_
        refine ⟨_, _, cl_t hg (m_isAhead _ _ _), ?_⟩
        iterate 6 refine am_wp_step _ rfl ?_
        refine am_call0 (m_aside _ M1) (fun M2 h2 => ?_)
        obtain ⟨p1, p2, p3⟩ := h2
        rw [ea] at p1 p2
        iterate 4 refine am_wp_step _ rfl ?_
        refine am_call1 (m_angersBy _ n m cnt (-1) a a M2 p1 p2 hG (fun _ _ => rfl) (by omega)) (fun M3 h3 => ?_)
        iterate 1 refine am_wp_step _ rfl ?_
        exact ⟨trivial, rfl, M3, rfl, h3.1, kB_tr p3 h3.2.2⟩
      obtain ⟨M2, c2, f1, f2⟩ := hx
      exact ⟨M2, c2, kq_B f2 (f1.trans ea.symm)⟩
  · refine JJ_e (k := 1) (by decide) (by decide) hR ?_ (fun M1 e33 e26 => ?_)
    · refine am_cl_in am_c94 rfl ?_
      repeat' first | refine am_wp_step _ rfl ?_ | refine am_iteB (fun h => ?_) (fun h => ?_) | refine am_iteN (fun h => ?_) (fun h => ?_) | refine am_ite (fun h => ?_) (fun h => ?_) | refine ⟨_, _, c_isDead _ _ _ hn, ?_⟩ | refine ⟨_, _, c_isDish _ _ _ hm, ?_⟩ | refine ⟨_, _, c_within _ _ _ _ _, ?_⟩ | refine ⟨_, _, c_isKM _ _ _, ?_⟩ | refine ⟨_, _, c_isHouse _ _ _, ?_⟩ | refine ⟨_, _, c_isAhead _ _ _, ?_⟩ | refine ⟨_, _, c_isSheet _ _ _, ?_⟩ | refine ⟨_, _, c_mostOf _ _ _, ?_⟩ | refine ⟨_, _, c_err1 _ _, ?_⟩ | refine ⟨_, _, c_err2 _ _, ?_⟩ | refine ⟨_, _, c_err3 _ _, ?_⟩ | refine ⟨_, _, c_err4 _ _, ?_⟩ | refine ⟨_, _, c_err5 _ _, ?_⟩ | refine ⟨by decide, ?_⟩ | fail
      all_goals first | exact ⟨trivial, rfl, rfl⟩ | (exfalso; clear hR hG hB hT0 hT1 hW4 hW5 hBY h288 hTC hX0 hX1; grind)
    · have ea : M1 33 0 0 = a := (by rw [e33]; exact ha); have en : M1 33 0 0 1 = nI n := (by rw [ea]; exact hG.2.2.1); have em : M1 33 0 0 2 = nI m := (by rw [ea]; exact hG.2.2.2.1)
      refine am_cl_in am_c194 rfl ?_
      repeat' first | refine am_wp_step _ rfl ?_ | refine am_iteB (fun h => ?_) (fun h => ?_) | refine am_iteN (fun h => ?_) (fun h => ?_) | refine am_ite (fun h => ?_) (fun h => ?_) | refine ⟨_, _, m_isD _ _ _ en, ?_⟩ | refine ⟨_, _, m_isH _ _ _ em, ?_⟩ | refine ⟨_, _, m_within _ _ _ _ _, ?_⟩ | refine ⟨_, _, m_isHouse _ _ _, ?_⟩ | refine ⟨_, _, m_isAhead _ _ _, ?_⟩ | refine ⟨_, _, m_isSheet _ _ _, ?_⟩ | refine ⟨_, _, m_find1 _ _, ?_⟩ | refine ⟨_, _, m_find2 _ _, ?_⟩ | refine ⟨_, _, m_find3 _ _, ?_⟩ | refine ⟨_, _, m_find4 _ _, ?_⟩ | refine ⟨_, _, m_find5 _ _, ?_⟩ | refine am_andv (by unfold vp_in; decide) ?_ | refine ⟨by decide, ?_⟩ | fail
      all_goals first | exact ⟨trivial, rfl, rfl⟩ | (exfalso; clear hR hG hB hT0 hT1 hW4 hW5 hBY h288 hTC hX0 hX1; grind)
