/-! FIRST, CHECK -/
theorem rgN_1 {E : Int32 → Int32 → Int32 → Int32 → Int32} {n m : Nat} {o : Nat → Nat} {ab : Int32} {a : Nat → Int32} : rgN E n m o ab a 1 = rg E n m o ab a := rfl
/-- one bell of the model's -/
theorem m_bell1 (d n m t : Nat) (a : Nat → Int32) (M : am_F) (hG : GA n m a) (hA : M 33 0 0 = rgN (gv (tx a) 0) n m (odr a n) (-1) a t) : ∃ M', am_cl am_cds (d + 7) 185 [.inr (.inr (26, 0, 0)), .inl 1, .inl 0, .inl (-1)] (am_S M) none (am_S M') ∧ M' 33 0 0 = rgN (gv (tx a) 0) n m (odr a n) (-1) a (t + 1) ∧ mB M M' := by
  have ho : ∀ i, i < n → odr a n i < n := fun i hi => odr_lt hi
  obtain ⟨g1, g2, g3⟩ := GA_rgN (E := gv (tx a) 0) (k := t) (ab := -1) ho hG
  obtain ⟨M', c, h1, h2⟩ := m_bellsGo d n m 1 false (-1) M (by rw [hA]; exact g1) (by decide)
  refine ⟨M', c, ?_, h2⟩
  rw [h1, bgN_f, rgN_1, hA, g2, g3]
  rfl
theorem stop (p : Nat → Prop) (c : Nat) : ∃ T, T ≤ c ∧ (∀ t, t < T → ¬ p t) ∧ (T = c ∨ p T) := by
  induction c with
  | zero => exact ⟨0, Nat.le_refl _, fun t ht => absurd ht (Nat.not_lt_zero _), Or.inl rfl⟩
  | succ c ih =>
    obtain ⟨T, h1, h2, h3⟩ := ih
    rcases h3 with h3 | h3
    · rcases Classical.em (p T) with h4 | h4
      · exact ⟨T, by omega, h2, Or.inr h4⟩
      · refine ⟨T + 1, by omega, fun t ht => ?_, Or.inl (by omega)⟩
        by_cases h5 : t = T
        · rw [h5]; exact h4
        · exact h2 t (by omega)
    · exact ⟨T, by omega, h2, Or.inr h3⟩
/-- an answer, or an error where it is below 0 -/
def EQ (r0 b k : Nat) (r : Int32) (P : am_F → Prop) : Option am_V → am_M → Prop := fun w m => if r < 0 then w = some (.inl (-1000000000 - nI k)) ∧ ∃ M0, m = am_S (am_up M0 r0 b 0 k (M0 r0 b 0 k + 1)) ∧ P M0 else w = some (.inl r) ∧ ∃ M', m = am_S M' ∧ P M'
theorem EQ_e {r0 b k : Nat} {r : Int32} {P : am_F → Prop} {w : Option am_V} {m : am_M} (hr : r < 0) (h : w = some (.inl (-1000000000 - nI k)) ∧ ∃ M0, m = am_S (am_up M0 r0 b 0 k (M0 r0 b 0 k + 1)) ∧ P M0) : EQ r0 b k r P w m := by
  unfold EQ
  rw [if_pos hr]
  exact h
theorem EQ_v {r0 b k : Nat} {r : Int32} {P : am_F → Prop} {w : Option am_V} {m : am_M} (hr : ¬ r < 0) (h : w = some (.inl r) ∧ ∃ M', m = am_S M' ∧ P M') : EQ r0 b k r P w m := by
  unfold EQ
  rw [if_neg hr]
  exact h
theorem JJ_fq {M : am_F} {y ym k : Nat} {r : Int32} {as : List am_V} (h1 : 1 ≤ k) (h2 : k ≤ 5) (hR : RC M M) (c1 : ∃ w me, am_cl am_cds 1000 y (.inr (.inr (25, 0, 0)) :: as) (am_S M) w me ∧ EQ 32 0 k r (cS M) w me) (c2 : ∀ M1, M1 33 = M 33 → M1 26 = M 26 → ∃ w me, am_cl am_cds 1000 ym (.inr (.inr (26, 0, 0)) :: as) (am_S M1) w me ∧ EQ 33 3 k r (fun M2 => kM M1 M2 ∧ NQ M1 M2) w me) : ∃ v M1 M2, am_cl am_cds 1000 y (.inr (.inr (25, 0, 0)) :: as) (am_S M) (some (.inl v)) (am_S M1) ∧ am_cl am_cds 1000 ym (.inr (.inr (26, 0, 0)) :: as) (am_S M1) (some (.inl v)) (am_S M2) ∧ RC M2 M2 ∧ M2 0 = M 0 ∧ M1 0 = M 0 := by
  by_cases hr : r < 0
  · refine JJ_f h1 h2 hR ?_ (fun M1 e33 e26 => ?_)
    · obtain ⟨w, me, c, q⟩ := c1
      unfold EQ at q
      rw [if_pos hr] at q
      obtain ⟨rfl, M0, rfl, q⟩ := q
      exact ⟨M0, c, q⟩
    · obtain ⟨w, me, c, q⟩ := c2 M1 e33 e26
      unfold EQ at q
      rw [if_pos hr] at q
      obtain ⟨rfl, M0, rfl, q⟩ := q
      exact ⟨M0, c, q⟩
  · refine JJ_q (v := r) hR ?_ (fun M1 e33 e26 => ?_)
    · obtain ⟨w, me, c, q⟩ := c1
      unfold EQ at q
      rw [if_neg hr] at q
      obtain ⟨rfl, M0, rfl, q⟩ := q
      exact ⟨M0, c, q⟩
    · obtain ⟨w, me, c, q⟩ := c2 M1 e33 e26
      unfold EQ at q
      rw [if_neg hr] at q
      obtain ⟨rfl, M0, rfl, q⟩ := q
      exact ⟨M0, c, q⟩
theorem jj_first (x : Int32) : JJ 98 201 [.inl x] := by
  intro M hR
  obtain ⟨n, m, a, ha, hG, hB, hab, hT0, hT1, hW4, hW5, hz, hbl, hBY, h288, hTC⟩ := RC_get hR; have hn := hB.1; have hm := hB.2.1; have hn8 := hG.1; have hm8 := hG.2.1; have hX0 := hG.2.2.2.2.2.2.1; have hX1 := hG.2.2.2.2.2.2.2; have ho : ∀ i, i < n → odr a n i < n := (fun i hi => odr_lt hi)
  by_cases hg : 0 ≤ x ∧ x ≤ 120
  · obtain ⟨cnt, hc, rfl⟩ := wI_ex (b := 120) hg (by decide)
    generalize hs : (fun t => rgN (gv (tx a) 0) n m (odr a n) (-1) a t) = s; have hst : ∀ t, rgN (gv (tx a) 0) n m (odr a n) (-1) a t = s t := (fun t => by rw [← hs]); have hs0 : s 0 = a := (by rw [← hst]; rfl); have hss : ∀ t, s (t + 1) = rg (gv (tx a) 0) n m (odr a n) (-1) (s t) := (fun t => by rw [← hst, ← hst]; rfl); have hGs : ∀ t, GA n m (s t) := (fun t => by rw [← hst]; exact (GA_rgN (E := gv (tx a) 0) (k := t) (ab := -1) ho hG).1); have hout : ∀ t k, 114 ≤ k → s t k = a k := (fun t k hk => by rw [← hst]; exact rgN_out hm8 ho (KC_hi hn8 hm8 hk))
    obtain ⟨T, hT1, hT2, hT3⟩ := stop (fun t => 0 ≤ fa (s t) n n) cnt
    refine JJ_fq (k := 2) (r := fa (s T) n n) (by decide) (by decide) hR ?_ (fun M1 e33 e26 => ?_)
    · refine am_cl_ex (Q := EQ 32 0 2 (fa (s T) n n) (cS M)) am_c98 rfl ?_
      iterate 2 refine am_wp_step _ rfl ?_
      refine ⟨_, _, cl_t hg (c_isAhead _ _ _), ?_⟩
      iterate 7 refine am_wp_step _ rfl ?_
      refine am_call0 (c_copyBoard _ 2 0 n m (odr a n) (-1) a M (by decide) hn8 hm8 hB hab) (fun M1 hh => ?_)
      have h1 : RB M1 2 n m (odr a n) a ∧ M1 16 2 0 7 = -1 ∧ FB 2 M M1 := ⟨hh.1, hh.2.1, FB_fBd hh.2.2⟩
      iterate 4 refine am_wp_step _ rfl ?_
      refine ⟨_, _, c_firstAbove _ 2 n m _ a M1 hn8 h1.1, ?_⟩
      iterate 3 refine am_wp_step _ rfl ?_
      refine am_for2 20 (fun u w => [(0, .inr (.inr (25, 0, 0))), (1, .inl (nI cnt)), (2, .inl u), (3, .inl w)]) (fun i u w M1 => w = nI i ∧ u = fa (s i) n n ∧ RB M1 2 n m (odr a n) (s i) ∧ M1 16 2 0 7 = -1 ∧ FB 2 M M1) T ?_ ?_ 0 _ 0 M1 (Nat.zero_le _) ⟨nI_0.symm, by rw [hs0], by rw [hs0]; exact h1.1, h1.2.1, h1.2.2⟩
      · intro i u w M1 hi hP K
        obtain ⟨hw, hu, hB1, hab1, hF⟩ := hP
        iterate 3 refine am_wp_step _ rfl ?_
        refine am_iteF (by rw [hw]; exact nI_ge (by omega) (by omega)) ?_
        iterate 2 refine am_wp_step _ rfl ?_
        refine am_iteF (by rw [hu]; exact hT2 i hi) ?_
        iterate 6 refine am_wp_step _ rfl ?_
        refine am_call0 (c_ring _ 2 n m _ (-1) _ (tx a) M1 (RT_FB hF hT0) hX0 (TC_FB hF hTC) hn8 hm8 ho hB1 hab1) (fun M2 hh => ?_)
        rw [← hss] at hh
        iterate 4 refine am_wp_step _ rfl ?_
        refine ⟨_, _, c_firstAbove _ 2 n m _ _ M2 hn8 hh.1, ?_⟩
        iterate 3 refine am_wp_step _ rfl ?_
        exact K _ _ _ ⟨by rw [hw, nI_1], rfl, hh.1, hh.2.2, FB_tr hF hh.2.1⟩
      · intro u w M1 hP
        obtain ⟨hw, hu, hB1, hab1, hF⟩ := hP
        have fin : am_wp (am_cl am_cds 999) am_c98 (EQ 32 0 2 (fa (s T) n n) (cS M)) 38 [(0, .inr (.inr (25, 0, 0))), (1, .inl (nI cnt)), (2, .inl u), (3, .inl w)] [] (am_S M1) := by
          rw [← hu]
          iterate 2 refine am_wp_step _ rfl ?_
          by_cases h0 : u < 0
          · refine am_iteF (Int32.not_le.mpr h0) ?_
            repeat' first | refine am_wp_step _ rfl ?_ | refine am_iteB (fun h => ?_) (fun h => ?_) | refine am_iteN (fun h => ?_) (fun h => ?_) | refine am_ite (fun h => ?_) (fun h => ?_) | refine ⟨_, _, c_err2 _ _, ?_⟩ | fail
            exact ⟨trivial, EQ_e h0 ⟨rfl, M1, rfl, cS_FB hF⟩⟩
          · refine am_iteT (Int32.not_lt.mp h0) ?_
            iterate 2 refine am_wp_step _ rfl ?_
            exact ⟨trivial, EQ_v h0 ⟨rfl, M1, rfl, cS_FB hF⟩⟩
        iterate 3 refine am_wp_step _ rfl ?_
        by_cases hTc : T = cnt
        · refine am_iteT (by rw [hw, hTc]; exact nI_le (Nat.le_refl _) (by omega)) ?_
          exact fin
        · refine am_iteF (by rw [hw]; exact nI_ge (by omega) (by omega)) ?_
          iterate 2 refine am_wp_step _ rfl ?_
          refine am_iteT (by rw [hu]; exact hT3.resolve_left hTc) ?_
          exact fin
    · have ea : M1 33 0 0 = a := (by rw [e33]; exact ha); have en : M1 33 0 0 1 = nI n := (by rw [ea]; exact hG.2.2.1); have em : M1 33 0 0 2 = nI m := (by rw [ea]; exact hG.2.2.2.1)
      refine am_cl_ex (Q := EQ 33 3 2 (fa (s T) n n) (fun M2 => kM M1 M2 ∧ NQ M1 M2)) am_c201 rfl ?_
      iterate 2 refine am_wp_step _ rfl ?_
      refine ⟨_, _, cl_t hg (m_isAhead _ _ _), ?_⟩
      iterate 6 refine am_wp_step _ rfl ?_
      refine am_call0 (m_aside _ M1) (fun M2 h2 => ?_)
      obtain ⟨p1, p2, p3⟩ := h2
      rw [ea] at p1 p2
      iterate 2 refine am_wp_step _ rfl ?_
      refine ⟨_, _, m_angry _ n M2 hn8 (by rw [p2]; exact hG.2.2.1), ?_⟩
      rw [p2]
      iterate 3 refine am_wp_step _ rfl ?_
      refine am_for2 17 (fun u w => [(0, .inr (.inr (26, 0, 0))), (1, .inl (nI cnt)), (2, .inl u), (3, .inl w)]) (fun i u w M2 => w = nI i ∧ u = fa (s i) n n ∧ M2 33 0 0 = s i ∧ AS M2 a ∧ kB M1 M2) T ?_ ?_ 0 _ 0 M2 (Nat.zero_le _) ⟨nI_0.symm, by rw [hs0], by rw [hs0]; exact p2, p1, p3⟩
      · intro i u w M2 hi hP K
        obtain ⟨hw, hu, p2, p1, p3⟩ := hP
        iterate 3 refine am_wp_step _ rfl ?_
        refine am_iteF (by rw [hw]; exact nI_ge (by omega) (by omega)) ?_
        iterate 2 refine am_wp_step _ rfl ?_
        refine am_iteF (by rw [hu]; exact hT2 i hi) ?_
        iterate 5 refine am_wp_step _ rfl ?_
        refine am_call0 (m_bell1 _ n m i a M2 hG (by rw [hst]; exact p2)) (fun M3 h3 => ?_)
        rw [hst] at h3
        iterate 2 refine am_wp_step _ rfl ?_
        refine ⟨_, _, m_angry _ n M3 hn8 (by rw [h3.1]; exact (hGs (i + 1)).2.2.1), ?_⟩
        rw [h3.1]
        iterate 3 refine am_wp_step _ rfl ?_
        exact K _ _ _ ⟨by rw [hw, nI_1], rfl, h3.1, AS_B h3.2 p1, kB_tr p3 (kB_B h3.2)⟩
      · intro u w M2 hP
        obtain ⟨hw, hu, p2, p1, p3⟩ := hP
        have fin : am_wp (am_cl am_cds 999) am_c201 (EQ 33 3 2 (fa (s T) n n) (fun M2 => kM M1 M2 ∧ NQ M1 M2)) 32 [(0, .inr (.inr (26, 0, 0))), (1, .inl (nI cnt)), (2, .inl u), (3, .inl w)] [] (am_S M2) := by
          rw [← hu]
          iterate 3 refine am_wp_step _ rfl ?_
          refine am_call1 (m_putBack _ _ a M2 p1 (fun q hq => by rw [p2]; exact hout T q (by omega))) (fun M3 h3 => ?_)
          have hq : kM M1 M3 ∧ NQ M1 M3 := kq_B (kB_tr p3 h3.2.2) (h3.1.trans ea.symm)
          iterate 3 refine am_wp_step _ rfl ?_
          by_cases h0 : u < 0
          · refine am_iteF (Int32.not_le.mpr h0) ?_
            repeat' first | refine am_wp_step _ rfl ?_ | refine am_iteB (fun h => ?_) (fun h => ?_) | refine am_iteN (fun h => ?_) (fun h => ?_) | refine am_ite (fun h => ?_) (fun h => ?_) | refine ⟨_, _, m_find2 _ _, ?_⟩ | fail
            exact ⟨trivial, EQ_e h0 ⟨rfl, M3, rfl, hq⟩⟩
          · refine am_iteT (Int32.not_lt.mp h0) ?_
            iterate 2 refine am_wp_step _ rfl ?_
            exact ⟨trivial, EQ_v h0 ⟨rfl, M3, rfl, hq⟩⟩
        iterate 3 refine am_wp_step _ rfl ?_
        by_cases hTc : T = cnt
        · refine am_iteT (by rw [hw, hTc]; exact nI_le (Nat.le_refl _) (by omega)) ?_
          exact fin
        · refine am_iteF (by rw [hw]; exact nI_ge (by omega) (by omega)) ?_
          iterate 2 refine am_wp_step _ rfl ?_
          refine am_iteT (by rw [hu]; exact hT3.resolve_left hTc) ?_
          exact fin
  · refine JJ_e (k := 1) (by decide) (by decide) hR ?_ (fun M1 e33 e26 => ?_)
    · refine am_cl_in am_c98 rfl ?_
      repeat' first | refine am_wp_step _ rfl ?_ | refine am_iteB (fun h => ?_) (fun h => ?_) | refine am_iteN (fun h => ?_) (fun h => ?_) | refine am_ite (fun h => ?_) (fun h => ?_) | refine ⟨_, _, c_isDead _ _ _ hn, ?_⟩ | refine ⟨_, _, c_isDish _ _ _ hm, ?_⟩ | refine ⟨_, _, c_within _ _ _ _ _, ?_⟩ | refine ⟨_, _, c_isKM _ _ _, ?_⟩ | refine ⟨_, _, c_isHouse _ _ _, ?_⟩ | refine ⟨_, _, c_isAhead _ _ _, ?_⟩ | refine ⟨_, _, c_isSheet _ _ _, ?_⟩ | refine ⟨_, _, c_mostOf _ _ _, ?_⟩ | refine ⟨_, _, c_err1 _ _, ?_⟩ | refine ⟨_, _, c_err2 _ _, ?_⟩ | refine ⟨_, _, c_err3 _ _, ?_⟩ | refine ⟨_, _, c_err4 _ _, ?_⟩ | refine ⟨_, _, c_err5 _ _, ?_⟩ | refine ⟨by decide, ?_⟩ | fail
      all_goals first | exact ⟨trivial, rfl, rfl⟩ | (exfalso; clear hR hG hB hT0 hT1 hW4 hW5 hBY h288 hTC hX0 hX1; grind)
    · have ea : M1 33 0 0 = a := (by rw [e33]; exact ha); have en : M1 33 0 0 1 = nI n := (by rw [ea]; exact hG.2.2.1); have em : M1 33 0 0 2 = nI m := (by rw [ea]; exact hG.2.2.2.1)
      refine am_cl_in am_c201 rfl ?_
      repeat' first | refine am_wp_step _ rfl ?_ | refine am_iteB (fun h => ?_) (fun h => ?_) | refine am_iteN (fun h => ?_) (fun h => ?_) | refine am_ite (fun h => ?_) (fun h => ?_) | refine ⟨_, _, m_isD _ _ _ en, ?_⟩ | refine ⟨_, _, m_isH _ _ _ em, ?_⟩ | refine ⟨_, _, m_within _ _ _ _ _, ?_⟩ | refine ⟨_, _, m_isHouse _ _ _, ?_⟩ | refine ⟨_, _, m_isAhead _ _ _, ?_⟩ | refine ⟨_, _, m_isSheet _ _ _, ?_⟩ | refine ⟨_, _, m_find1 _ _, ?_⟩ | refine ⟨_, _, m_find2 _ _, ?_⟩ | refine ⟨_, _, m_find3 _ _, ?_⟩ | refine ⟨_, _, m_find4 _ _, ?_⟩ | refine ⟨_, _, m_find5 _ _, ?_⟩ | refine am_andv (by unfold vp_in; decide) ?_ | refine ⟨by decide, ?_⟩ | fail
      all_goals first | exact ⟨trivial, rfl, rfl⟩ | (exfalso; clear hR hG hB hT0 hT1 hW4 hW5 hBY h288 hTC hX0 hX1; grind)
/-! NEEDS -/
theorem pk_c6 {E : Int32 → Int32 → Int32 → Int32 → Int32} {g g' : Nat → Int32} {h h' : Nat → Nat → Int32} {n : Nat} (hn : n ≤ 8) (hg : ∀ k, k < 6 → g' k = g k) (hh : ∀ i, i < n → ∀ k, k < 5 → h' i k = h i k) : pk E g' h' n = pk E g h n := by
  induction n with
  | zero => rfl
  | succ n ih =>
    have ih := ih (by omega) (fun i hi => hh i (by omega))
    have ht : tk E g' (h' n) = tk E g (h n) := by
      unfold tk sp_app
      rw [hg 0 (by omega), hg 1 (by omega), hg 3 (by omega), hg 4 (by omega), hh n (by omega) 0 (by omega), hh n (by omega) 2 (by omega)]
    have hp : ∀ j, j < n → sp_pref g' (h' n) (h' j) = sp_pref g (h n) (h j) := by
      intro j hj
      unfold sp_pref
      rw [hg 4 (by omega), hh n (by omega) 0 (by omega), hh n (by omega) 2 (by omega), hh j (by omega) 0 (by omega), hh j (by omega) 2 (by omega)]
    rw [pk_s, pk_s, ih, hh n (by omega) 4 (by omega), hg 5 (by omega), ht]
    rcases pkx_lt E g h n with q | ⟨j, h1, h2⟩
    · rw [q]
      simp only [show ((-1 : Int32) < 0) = True from eq_true (by decide), true_or]
    · rw [h2, nI_clamp (by omega), hp j h1]
theorem tk_c6 {E : Int32 → Int32 → Int32 → Int32 → Int32} {g g' h h' : Nat → Int32} (hg : ∀ k, k < 6 → g' k = g k) (hh : ∀ k, k < 5 → h' k = h k) : tk E g' h' = tk E g h := by
  unfold tk sp_app
  rw [hg 0 (by omega), hg 1 (by omega), hg 3 (by omega), hg 4 (by omega), hh 0 (by omega), hh 2 (by omega)]
theorem fu_fu {a : Nat → Int32} {k : Nat} {u v : Int32} : fu (fu a k u) k v = fu a k v := by
  funext q
  unfold fu
  split <;> rfl
theorem pk_fu {E : Int32 → Int32 → Int32 → Int32 → Int32} {m d d' : Nat} {a : Nat → Int32} {v : Int32} (hm : m ≤ 8) (hd : d < 8) : pk E (gA (fu a (10 + 8 * d + 6) v) d') (hA (fu a (10 + 8 * d + 6) v)) m = pk E (gA a d') (hA a) m := pk_c6 hm (fun k hk => fu_ne (by omega)) (fun i hi k hk => fu_ne (by omega))
theorem tk_fu {E : Int32 → Int32 → Int32 → Int32 → Int32} {d d' j : Nat} {a : Nat → Int32} {v : Int32} (hd : d < 8) : tk E (gA (fu a (10 + 8 * d + 6) v) d') (hA (fu a (10 + 8 * d + 6) v) j) = tk E (gA a d') (hA a j) := tk_c6 (fun k hk => fu_ne (by omega)) (fun k hk => fu_ne (by omega))
theorem eat1_o {E : Int32 → Int32 → Int32 → Int32 → Int32} {m d d' : Nat} {a : Nat → Int32} {v : Int32} (hm : m ≤ 8) (hd : d < 8) (hd' : d' < 8) (h : d' ≠ d) : eat1 E m d' (fu a (10 + 8 * d + 6) v) = fu (eat1 E m d' a) (10 + 8 * d + 6) v ∧ eat1 E m d' a (10 + 8 * d + 6) = a (10 + 8 * d + 6) := by
  unfold eat1
  rw [pk_fu hm hd, tk_fu hd]
  rcases pkx_lt E (gA a d') (hA a) m with q | ⟨j, hj, q⟩
  · rw [q, if_pos (by decide), if_pos (by decide), fu_ne (by omega), fu_comm (by omega)]
    exact ⟨rfl, fu_ne (by omega)⟩
  · rw [q, if_neg (nI_pos (by omega)), if_neg (nI_pos (by omega)), nI_clamp (by omega), fu_ne (by omega), fu_ne (by omega)]
    refine ⟨?_, ?_⟩
    · rw [fu_comm (j := 10 + 8 * d + 6) (by omega), fu_comm (j := 10 + 8 * d + 6) (by omega), fu_comm (j := 10 + 8 * d + 6) (by omega)]
    · rw [fu_ne (by omega), fu_ne (by omega), fu_ne (by omega)]
theorem eat1_i {E : Int32 → Int32 → Int32 → Int32 → Int32} {m d : Nat} {a : Nat → Int32} {v : Int32} (hm : m ≤ 8) (hd : d < 8) (hv : 0 ≤ v) (hv2 : v ≤ 9999) (h0 : 0 ≤ a (10 + 8 * d + 6)) (h1 : a (10 + 8 * d + 6) ≤ 9999) : eat1 E m d (fu a (10 + 8 * d + 6) v) = eat1 E m d a ∨ ∃ w, 1 ≤ w ∧ w ≤ 9999 ∧ eat1 E m d (fu a (10 + 8 * d + 6) v) = fu (eat1 E m d a) (10 + 8 * d + 6) w ∧ 1 ≤ eat1 E m d a (10 + 8 * d + 6) := by
  unfold eat1
  rw [pk_fu hm hd, tk_fu hd]
  rcases pkx_lt E (gA a d) (hA a) m with q | ⟨j, hj, q⟩
  · rw [q, if_pos (by decide), if_pos (by decide), fu_at]
    refine Or.inr ⟨sp_min 9999 (v + 1), ?_, ?_, ?_, ?_⟩
    · unfold sp_min; grind
    · unfold sp_min; grind
    · rw [fu_fu, fu_fu]
    · rw [fu_at]; unfold sp_min; grind
  · rw [q, if_neg (nI_pos (by omega)), if_neg (nI_pos (by omega)), nI_clamp (by omega), fu_ne (by omega), fu_ne (by omega)]
    refine Or.inl ?_
    rw [fu_comm (j := 10 + 8 * d + 6) (by omega), fu_comm (j := 10 + 8 * d + 6) (by omega), fu_fu]
theorem rgG_rel {E : Int32 → Int32 → Int32 → Int32 → Int32} {n m d k : Nat} {o : Nat → Nat} {a : Nat → Int32} (hn : n ≤ 8) (hm : m ≤ 8) (ho : ∀ i, i < n → o i < n) (hk : k ≤ n) (hd : d < n) (h1 : RG1 n a) (h2 : RG2 m a) : ((∀ i, i < k → o i ≠ d) → rgG E m o (-1) (fu a (10 + 8 * d + 6) 1) k = fu (rgG E m o (-1) a k) (10 + 8 * d + 6) 1) ∧ ((∃ i, i < k ∧ o i = d) → rgG E m o (-1) (fu a (10 + 8 * d + 6) 1) k = rgG E m o (-1) a k ∨ ∃ w, 1 ≤ w ∧ w ≤ 9999 ∧ rgG E m o (-1) (fu a (10 + 8 * d + 6) 1) k = fu (rgG E m o (-1) a k) (10 + 8 * d + 6) w ∧ 1 ≤ rgG E m o (-1) a k (10 + 8 * d + 6)) := by
  induction k with
  | zero => exact ⟨fun _ => rfl, fun ⟨i, hi, _⟩ => absurd hi (Nat.not_lt_zero _)⟩
  | succ k ih =>
    obtain ⟨ih1, ih2⟩ := ih (by omega)
    have hok := ho k (by omega)
    have hnk : ¬ nI (o k) = -1 := fun q => by
      have := nI_pos (n := o k) (by omega)
      rw [q] at this
      exact this (by decide)
    have hr := (rgG_rg (E := E) (ab := -1) hn hm ho (show k ≤ n by omega) h1 h2).1 d hd
    have hrr := hr.2.2.2.2
    have e1 : ∀ x, rgG E m o (-1) x (k + 1) = eat1 E m (o k) (rgG E m o (-1) x k) := fun x => by
      show (if nI (o k) = -1 then _ else _) = _
      rw [if_neg hnk]
    rw [e1, e1]
    refine ⟨fun h => ?_, fun h => ?_⟩
    · rw [ih1 (fun i hi => h i (by omega))]
      exact (eat1_o hm (by omega) (by omega) (h k (by omega))).1
    · by_cases hd2 : o k = d
      · rw [hd2]
        rcases Classical.em (∃ i, i < k ∧ o i = d) with h3 | h3
        · rcases ih2 h3 with h4 | ⟨w, w1, w2, h4, h5⟩
          · rw [h4]; exact Or.inl rfl
          · rw [h4]
            exact eat1_i hm (by omega) (by lia) w2 hrr.1 hrr.2
        · rw [ih1 (fun i hi q => h3 ⟨i, hi, q⟩)]
          exact eat1_i hm (by omega) (by decide) (by decide) hrr.1 hrr.2
      · obtain ⟨i, hi, hi2⟩ := h
        have hik : i < k := by
          rcases Nat.lt_or_ge i k with q | q
          · exact q
          · exact absurd (show o k = d by rw [← hi2]; congr 1; omega) hd2
        rcases ih2 ⟨i, hik, hi2⟩ with h4 | ⟨w, w1, w2, h4, h5⟩
        · rw [h4]; exact Or.inl rfl
        · have h6 := eat1_o (E := E) (a := rgG E m o (-1) a k) (v := w) hm (show d < 8 by omega) (show o k < 8 by omega) hd2
          rw [h4, h6.1]
          exact Or.inr ⟨w, w1, w2, rfl, by rw [h6.2]; exact h5⟩
theorem clK_fu {a : Nat → Int32} {d k : Nat} {v : Int32} (hd : d < 8) : clK (fu a (10 + 8 * d + 6) v) k = fu (clK a k) (10 + 8 * d + 6) v := by
  induction k with
  | zero => rfl
  | succ k ih =>
    unfold clK
    rw [ih, fu_ne (by omega), fu_ne (by omega), fu_comm (by omega)]
theorem hgK_fu {a : Nat → Int32} {d k : Nat} {v : Int32} (hk : k ≤ 4) : hgK (fu a (10 + 8 * d + 6) v) k = fu (hgK a k) (10 + 8 * d + 6) v := by
  induction k with
  | zero => rfl
  | succ k ih =>
    unfold hgK
    rw [ih (by omega), fu_ne (by omega), fu_comm (by omega)]
theorem so_mem (r : Nat → Int32) (n i : Nat) (h : i < n) : i ∈ so r n := by
  have hins : ∀ (l : List Nat) j, j ∈ insR r j l ∧ ∀ x, x ∈ l → x ∈ insR r j l := by
    intro l j
    induction l with
    | nil => exact ⟨by simp [insR], fun x hx => absurd hx List.not_mem_nil⟩
    | cons y t ih =>
      unfold insR
      split
      · refine ⟨List.mem_cons_of_mem _ ih.1, fun x hx => ?_⟩
        rcases List.mem_cons.mp hx with q | q
        · rw [q]; exact List.mem_cons_self
        · exact List.mem_cons_of_mem _ (ih.2 x q)
      · exact ⟨List.mem_cons_self, fun x hx => List.mem_cons_of_mem _ hx⟩
  induction n with
  | zero => exact absurd h (Nat.not_lt_zero _)
  | succ n ih =>
    unfold so
    by_cases hi : i = n
    · rw [hi]; exact (hins _ _).1
    · exact (hins _ _).2 _ (ih (by omega))
theorem odr_sur {a : Nat → Int32} {n d : Nat} (hd : d < n) : ∃ i, i < n ∧ odr a n i = d := by
  have h := List.mem_reverse.mpr (so_mem (fun j => a (10 + 8 * j + 3)) n d hd)
  obtain ⟨i, hi, h2⟩ := List.mem_iff_getElem.mp h
  refine ⟨i, by simpa [so_len] using hi, ?_⟩
  unfold odr
  rw [List.getD_eq_getElem?_getD, List.getElem?_eq_getElem hi, h2]
  rfl
theorem rg_rel {E : Int32 → Int32 → Int32 → Int32 → Int32} {n m d : Nat} {a : Nat → Int32} (hG : GA n m a) (hd : d < n) : (rg E n m (odr a n) (-1) (fu a (10 + 8 * d + 6) 1) (10 + 8 * d + 6) = 0 ↔ rg E n m (odr a n) (-1) a (10 + 8 * d + 6) = 0) ∧ (rg E n m (odr a n) (-1) a (10 + 8 * d + 6) = 0 → rg E n m (odr a n) (-1) (fu a (10 + 8 * d + 6) 1) = rg E n m (odr a n) (-1) a) := by
  obtain ⟨hn, hm, h1, h2, h3, h4, h5, h6⟩ := hG
  rcases (rgG_rel (E := E) hn hm (fun i hi => odr_lt hi) (Nat.le_refl n) hd h3 h4).2 (odr_sur hd) with q | ⟨w, w1, w2, q, w3⟩
  · have e : rg E n m (odr a n) (-1) (fu a (10 + 8 * d + 6) 1) = rg E n m (odr a n) (-1) a := by
      unfold rg
      rw [q]
    rw [e]
    exact ⟨Iff.rfl, fun _ => rfl⟩
  · have e : rg E n m (odr a n) (-1) (fu a (10 + 8 * d + 6) 1) = fu (rg E n m (odr a n) (-1) a) (10 + 8 * d + 6) w := by
      unfold rg
      rw [q, clK_fu (by omega), hgK_fu (Nat.le_refl _), fu_ne (by omega), fu_comm (by omega)]
    have e2 : rg E n m (odr a n) (-1) a (10 + 8 * d + 6) = rgG E m (odr a n) (-1) a n (10 + 8 * d + 6) := by
      unfold rg
      rw [fu_ne (by omega), hgK_out (Nat.le_refl _) (fun j hj => by omega), clK_out (m := m) (Nat.le_refl _) (fun j hj => by omega)]
    have ne : ¬ rg E n m (odr a n) (-1) a (10 + 8 * d + 6) = 0 := fun z => by
      rw [e2] at z
      rw [z] at w3
      exact absurd w3 (by decide)
    rw [e, fu_at]
    refine ⟨⟨fun z => ?_, fun z => absurd z ne⟩, fun z => absurd z ne⟩
    rw [z] at w1
    exact absurd w1 (by decide)
