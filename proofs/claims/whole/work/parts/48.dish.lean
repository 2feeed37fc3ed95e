/-! DISHES, DEAD -/
abbrev okD (x y z : Int32) : Prop := (0 ≤ x ∧ x ≤ 59) ∧ x - x / 10 * 10 < 4 ∧ (0 ≤ y ∧ y ≤ 20) ∧ (0 ≤ z ∧ z ≤ 99)
theorem m_isDish (d : Nat) (x y z : Int32) (me : am_M) : am_cl am_cds (d + 2) 155 [.inl x, .inl y, .inl z] me (some (.inl (bI (okD x y z)))) me := by
  refine am_cl_in am_c155 rfl ?_
  repeat' first | refine am_wp_step _ rfl ?_ | refine am_iteB (fun h => ?_) (fun h => ?_) | refine am_iteN (fun h => ?_) (fun h => ?_) | refine am_ite (fun h => ?_) (fun h => ?_) | refine ⟨_, _, m_within _ _ _ _ _, ?_⟩ | refine ⟨by decide, ?_⟩ | fail
  all_goals
    refine ⟨by first | exact Or.inl rfl | exact Or.inr rfl, ?_, rfl⟩
    unfold bI
    grind
theorem c_dishRef1 (d : Nat) (x y z : Int32) (M : am_F) (h : ¬ okD x y z) : am_cl am_cds (d + 2) 124 [.inr (.inr (25, 0, 0)), .inl x, .inl y, .inl z] (am_S M) (some (.inl (-1000000001))) (am_S M) := by
  refine am_cl_in am_c124 rfl ?_
  repeat' first | refine am_wp_step _ rfl ?_ | refine am_iteB (fun h => ?_) (fun h => ?_) | refine am_iteN (fun h => ?_) (fun h => ?_) | refine am_ite (fun h => ?_) (fun h => ?_) | refine ⟨_, _, c_within _ _ _ _ _, ?_⟩ | refine ⟨by decide, ?_⟩ | fail
  all_goals first | exact ⟨trivial, rfl, rfl⟩ | (exfalso; grind)
theorem c_dishRef4 (d m : Nat) (x y z : Int32) (M : am_F) (h : okD x y z) (hm : M 16 0 0 3 = nI m) (h8 : m = 8) : am_cl am_cds (d + 2) 124 [.inr (.inr (25, 0, 0)), .inl x, .inl y, .inl z] (am_S M) (some (.inl (-1000000004))) (am_S M) := by
  have e : M 16 0 0 3 = 8 := by rw [hm, h8]; rfl
  refine am_cl_in am_c124 rfl ?_
  iterate 4 refine am_wp_step _ rfl ?_
  refine ⟨_, _, cl_t h.1 (c_within _ _ _ _ _), ?_⟩
  iterate 4 refine am_wp_step _ rfl ?_
  refine ⟨by decide, ?_⟩
  iterate 2 refine am_wp_step _ rfl ?_
  refine am_iteF (Int32.not_le.mpr h.2.1) ?_
  iterate 4 refine am_wp_step _ rfl ?_
  refine ⟨_, _, cl_t h.2.2.1 (c_within _ _ _ _ _), ?_⟩
  iterate 5 refine am_wp_step _ rfl ?_
  refine ⟨_, _, cl_t h.2.2.2 (c_within _ _ _ _ _), ?_⟩
  iterate 7 refine am_wp_step _ rfl ?_
  refine am_iteF (by show ¬ M 16 0 0 3 < 8; rw [e]; decide) ?_
  iterate 3 refine am_wp_step _ rfl ?_
  exact ⟨trivial, rfl, rfl⟩
theorem c_dishRef0 (d m : Nat) (x y z : Int32) (M : am_F) (h : okD x y z) (hm : M 16 0 0 3 = nI m) (h8 : m < 8) : am_cl am_cds (d + 2) 124 [.inr (.inr (25, 0, 0)), .inl x, .inl y, .inl z] (am_S M) (some (.inl 0)) (am_S M) := by
  refine am_cl_in am_c124 rfl ?_
  iterate 4 refine am_wp_step _ rfl ?_
  refine ⟨_, _, cl_t h.1 (c_within _ _ _ _ _), ?_⟩
  iterate 4 refine am_wp_step _ rfl ?_
  refine ⟨by decide, ?_⟩
  iterate 2 refine am_wp_step _ rfl ?_
  refine am_iteF (Int32.not_le.mpr h.2.1) ?_
  iterate 4 refine am_wp_step _ rfl ?_
  refine ⟨_, _, cl_t h.2.2.1 (c_within _ _ _ _ _), ?_⟩
  iterate 5 refine am_wp_step _ rfl ?_
  refine ⟨_, _, cl_t h.2.2.2 (c_within _ _ _ _ _), ?_⟩
  iterate 7 refine am_wp_step _ rfl ?_
  refine am_iteT (by show M 16 0 0 3 < 8; rw [hm]; exact nI_lt (b := 8) h8 (by decide)) ?_
  iterate 2 refine am_wp_step _ rfl ?_
  exact ⟨trivial, rfl, rfl⟩
def adD (a : Nat → Int32) (m : Nat) (x y z : Int32) : Nat → Int32 := fu (fu (fu (fu (fu (fu a (74 + 5 * m + 0) (x / 10)) (74 + 5 * m + 1) y) (74 + 5 * m + 2) z) (74 + 5 * m + 3) (x - x / 10 * 10)) (74 + 5 * m + 4) (-1)) 2 (nI (m + 1))
theorem adD_o {a : Nat → Int32} {m c : Nat} {x y z : Int32} (h2 : c ≠ 2) (hc : ¬ (74 + 5 * m ≤ c ∧ c < 74 + 5 * m + 5)) : adD a m x y z c = a c := by
  unfold adD
  rw [fu_ne (by omega), fu_ne (by omega), fu_ne (by omega), fu_ne (by omega), fu_ne (by omega), fu_ne (by omega)]
theorem adD_v {a : Nat → Int32} {m : Nat} {x y z : Int32} : adD a m x y z (74 + 5 * m + 0) = x / 10 ∧ adD a m x y z (74 + 5 * m + 1) = y ∧ adD a m x y z (74 + 5 * m + 2) = z ∧ adD a m x y z (74 + 5 * m + 3) = x - x / 10 * 10 ∧ adD a m x y z (74 + 5 * m + 4) = -1 ∧ adD a m x y z 2 = nI (m + 1) := by
  unfold adD
  refine ⟨?_, ?_, ?_, ?_, ?_, ?_⟩
  · rw [fu_ne (by omega), fu_ne (by omega), fu_ne (by omega), fu_ne (by omega), fu_ne (by omega), fu_at]
  · rw [fu_ne (by omega), fu_ne (by omega), fu_ne (by omega), fu_ne (by omega), fu_at]
  · rw [fu_ne (by omega), fu_ne (by omega), fu_ne (by omega), fu_at]
  · rw [fu_ne (by omega), fu_ne (by omega), fu_at]
  · rw [fu_ne (by omega), fu_at]
  · rw [fu_at]
theorem RB_ad {M M' : am_F} {n m : Nat} {o : Nat → Nat} {a a' : Nat → Int32} (hn : n ≤ 8) (hm : m < 8) (hB : RB M 0 n m o a) (h17 : ∀ k, k < 5 → M' 17 0 m k = a' (74 + 5 * m + k)) (h17' : ∀ i, i ≠ m → M' 17 0 i = M 17 0 i) (h16 : M' 16 0 0 3 = nI (m + 1)) (h16' : ∀ s, s ≠ 3 → M' 16 0 0 s = M 16 0 0 s) (hr : ∀ r, r = 18 ∨ r = 28 ∨ r = 29 → M' r 0 = M r 0) (ho : ∀ c, c ≠ 2 → ¬ (74 + 5 * m ≤ c ∧ c < 74 + 5 * m + 5) → a' c = a c) : RB M' 0 n (m + 1) o a' := by
  obtain ⟨b1, b2, b3, b4, b5, b6, b7⟩ := hB
  refine ⟨by rw [h16' 1 (by omega)]; exact b1, h16, by rw [h16' 5 (by omega), ho 0 (by omega) (by omega)]; exact b3, fun i k hi hk => ?_, fun i k hi hk => ?_, fun j hj => ?_, fun i hi => ?_⟩
  · rw [hr 18 (by omega), ho _ (by omega) (by omega)]; exact b4 i k hi hk
  · by_cases him : i = m
    · rw [him]; exact h17 k hk
    · rw [h17' i him, ho _ (by omega) (by omega)]; exact b5 i k (by omega) hk
  · rw [hr 28 (by omega), ho _ (by omega) (by omega)]; exact b6 j hj
  · rw [hr 29 (by omega)]; exact b7 i hi
theorem GA_ad {n m : Nat} {a : Nat → Int32} {x y z : Int32} (hm : m < 8) (hG : GA n m a) (h : okD x y z) : GA n (m + 1) (adD a m x y z) ∧ odr (adD a m x y z) n = odr a n := by
  obtain ⟨hn, _, h1, h2, h3, h4, h5, h6⟩ := hG
  obtain ⟨v0, v1, v2, v3, v4, v5⟩ := adD_v (a := a) (m := m) (x := x) (y := y) (z := z)
  have ht : tx (adD a m x y z) = tx a := tx_of fun c hc => adD_o (by omega) (by omega)
  have eo : ∀ c, c ≠ 2 → ¬ (74 + 5 * m ≤ c ∧ c < 74 + 5 * m + 5) → adD a m x y z c = a c := fun c => adD_o
  refine ⟨⟨hn, by omega, by rw [eo 1 (by omega) (by omega)]; exact h1, v5, fun i hi => ?_, fun j hj => ?_, by rw [ht]; exact h5, by rw [ht]; exact h6⟩, odr_cg fun j hj => eo _ (by omega) (by omega)⟩
  · rw [eo _ (by omega) (by omega), eo _ (by omega) (by omega), eo _ (by omega) (by omega), eo _ (by omega) (by omega), eo _ (by omega) (by omega)]
    exact h3 i hi
  · by_cases hjm : j = m
    · rw [hjm, v2, v3, v4]
      obtain ⟨⟨g1, g2⟩, g3, -, g5⟩ := h
      refine ⟨g5, ⟨?_, ?_⟩, by decide, by decide⟩
      · obtain ⟨q, hq, rfl⟩ := wI_ex (b := 59) ⟨g1, g2⟩ (by decide)
        have hrm : nI q - nI q / 10 * 10 = nI (q % 10) := pk_rem (by omega) (by decide) (by decide)
        rw [hrm]
        exact nI_pos' (by omega)
      · generalize x - x / 10 * 10 = w at g3 ⊢; lia
    · rw [eo _ (by omega) (by omega), eo _ (by omega) (by omega), eo _ (by omega) (by omega)]
      exact h4 j (by omega)
theorem c_addDish (d n m : Nat) (o : Nat → Nat) (a : Nat → Int32) (x y z : Int32) (M : am_F) (hn : n ≤ 8) (hm : m < 8) (hB : RB M 0 n m o a) : ∃ M', am_cl am_cds (d + 1) 2 [.inr (.inr (16, 0, 0)), .inl x, .inl y, .inl z] (am_S M) (some (.inl (nI m))) (am_S M') ∧ RB M' 0 n (m + 1) o (adD a m x y z) ∧ M' 16 0 0 7 = M 16 0 0 7 ∧ FX M M' := by
  have hmm := hB.2.1
  obtain ⟨v0, v1, v2, v3, v4, v5⟩ := adD_v (a := a) (m := m) (x := x) (y := y) (z := z)
  refine am_cl_v (fun M' => RB M' 0 n (m + 1) o (adD a m x y z) ∧ M' 16 0 0 7 = M 16 0 0 7 ∧ FX M M') am_c2 rfl ?_
  iterate 6 refine am_wp_step _ rfl ?_
  refine am_iteT (by show M 16 0 0 3 < 8; rw [hmm]; exact nI_lt (b := 8) hm (by decide)) ?_
  iterate 5 refine am_wp_step _ rfl ?_
  refine am_ixN (m) (hmm) (show _ < 8 by omega) (show (8 : Nat) < 2 ^ 31 by decide) (fun e => ?_); rw [e]
  iterate 5 refine am_wp_step _ rfl ?_
  refine ⟨by decide, ?_⟩
  iterate 5 refine am_wp_step _ rfl ?_
  refine ⟨by decide, ?_⟩
  iterate 21 refine am_wp_step _ rfl ?_
  generalize hM1 : am_up (am_up (am_up (am_up (am_up M 17 0 m 0 (x / 10)) 17 0 m 3 (x - x / 10 * 10)) 17 0 m 1 y) 17 0 m 2 z) 17 0 m 4 (-1) = M1
  have h16 : M1 16 = M 16 := by rw [← hM1, am_up_r (by decide), am_up_r (by decide), am_up_r (by decide), am_up_r (by decide), am_up_r (by decide)]
  have hv : am_up M1 16 0 0 3 (nI (m + 1)) 16 0 0 3 - 1 = nI m := by rw [am_up_same, nI_pred]
  have hmem : am_up M1 16 0 0 3 (M1 16 0 0 3 + 1) = am_up M1 16 0 0 3 (nI (m + 1)) := by rw [h16, hmm, nI_1]
  have key : RB (am_up M1 16 0 0 3 (nI (m + 1))) 0 n (m + 1) o (adD a m x y z) := by
    refine RB_ad hn hm hB ?_ ?_ am_up_same ?_ ?_ (fun c h1 h2 => adD_o h1 h2)
    · intro k hk
      rw [am_up_r (by decide), ← hM1]
      rcases (by omega : k = 0 ∨ k = 1 ∨ k = 2 ∨ k = 3 ∨ k = 4) with rfl | rfl | rfl | rfl | rfl
      · rw [v0, am_up_s (by decide), am_up_s (by decide), am_up_s (by decide), am_up_s (by decide), am_up_same]
      · rw [v1, am_up_s (by decide), am_up_s (by decide), am_up_same]
      · rw [v2, am_up_s (by decide), am_up_same]
      · rw [v3, am_up_s (by decide), am_up_s (by decide), am_up_s (by decide), am_up_same]
      · rw [v4, am_up_same]
    · intro i hi
      rw [am_up_r (by decide), ← hM1]
      funext k
      simp [am_up, hi]
    · intro s hs
      rw [am_up_s hs, h16]
    · intro r hr
      rw [am_up_r (by omega), ← hM1, am_up_r (by omega), am_up_r (by omega), am_up_r (by omega), am_up_r (by omega), am_up_r (by omega)]
  refine ⟨trivial, ?_, am_up M1 16 0 0 3 (nI (m + 1)), ?_, key, ?_, ?_⟩
  · rw [← hv, ← hmem, ← hM1]
    rfl
  · rw [← hmem, ← hM1]
    rfl
  · rw [am_up_s (by decide), h16]
  · intro r bb h1 h2
    rw [am_up_rb (by omega), ← hM1, am_up_rb (by omega), am_up_rb (by omega), am_up_rb (by omega), am_up_rb (by omega), am_up_rb (by omega)]
theorem m_cooked (d m : Nat) (a : Nat → Int32) (x y z : Int32) (M : am_F) (hm : m < 8) (hA : M 33 0 0 = a) (h2 : a 2 = nI m) : ∃ M', am_cl am_cds (d + 1) 156 [.inr (.inr (26, 0, 0)), .inl x, .inl y, .inl z] (am_S M) (some (.inl (nI m))) (am_S M') ∧ M' 33 0 0 = adD a m x y z ∧ kB M M' := by
  refine am_cl_v (fun M' => M' 33 0 0 = adD a m x y z ∧ kB M M') am_c156 rfl ?_
  iterate 4 refine am_wp_step _ rfl ?_
  refine am_andv (by unfold vp_in; decide) ?_
  rw [show (am_S M).2.2 33 0 0 (Int32.toNatClampNeg 2) = nI m from by show M 33 0 0 2 = nI m; rw [hA]; exact h2]
  iterate 15 refine am_wp_step _ rfl ?_
  refine ⟨by decide, ?_⟩
  iterate 1 refine am_wp_step _ rfl ?_
  refine am_ixN (74 + 5 * m + 0) (by simp only [nI_lit, nI_add, nI_mul]) (show _ < 288 by omega) (show (288 : Nat) < 2 ^ 31 by decide) (fun e => ?_); rw [e]
  iterate 7 refine am_wp_step _ rfl ?_
  refine am_ixN (74 + 5 * m + 1) (by simp only [nI_lit, nI_add, nI_mul]) (show _ < 288 by omega) (show (288 : Nat) < 2 ^ 31 by decide) (fun e => ?_); rw [e]
  iterate 7 refine am_wp_step _ rfl ?_
  refine am_ixN (74 + 5 * m + 2) (by simp only [nI_lit, nI_add, nI_mul]) (show _ < 288 by omega) (show (288 : Nat) < 2 ^ 31 by decide) (fun e => ?_); rw [e]
  iterate 8 refine am_wp_step _ rfl ?_
  refine ⟨by decide, ?_⟩
  iterate 1 refine am_wp_step _ rfl ?_
  refine am_ixN (74 + 5 * m + 3) (by simp only [nI_lit, nI_add, nI_mul]) (show _ < 288 by omega) (show (288 : Nat) < 2 ^ 31 by decide) (fun e => ?_); rw [e]
  iterate 7 refine am_wp_step _ rfl ?_
  refine am_ixN (74 + 5 * m + 4) (by simp only [nI_lit, nI_add, nI_mul]) (show _ < 288 by omega) (show (288 : Nat) < 2 ^ 31 by decide) (fun e => ?_); rw [e]
  iterate 5 refine am_wp_step _ rfl ?_
  refine am_andv (by unfold vp_in; decide) ?_
  iterate 3 refine am_wp_step _ rfl ?_
  refine am_andv (by unfold vp_in; decide) ?_
  iterate 2 refine am_wp_step _ rfl ?_
  refine ⟨trivial, rfl, _, rfl, ?_, ?_⟩
  · generalize hX : am_up (am_up (am_up (am_up (am_up M 33 0 0 (74 + 5 * m + 0) (x / 10)) 33 0 0 (74 + 5 * m + 1) y) 33 0 0 (74 + 5 * m + 2) z) 33 0 0 (74 + 5 * m + 3) (x - x / 10 * 10)) 33 0 0 (74 + 5 * m + 4) (-1) = X
    show am_up X 33 0 0 2 (X 33 0 0 2 + 1) 33 0 0 = _
    have e2 : X 33 0 0 2 + 1 = nI (m + 1) := by
      rw [← hX, am_up_s (by omega), am_up_s (by omega), am_up_s (by omega), am_up_s (by omega), am_up_s (by omega), hA, h2, nI_1]
    rw [e2, am_up_fu, ← hX, am_up_fu, am_up_fu, am_up_fu, am_up_fu, am_up_fu, hA]
    rfl
  · exact kB_tr kB_up (kB_tr kB_up (kB_tr kB_up (kB_tr kB_up (kB_tr kB_up kB_up))))
theorem jj_dish (x y z : Int32) : JJ 80 157 [.inl x, .inl y, .inl z] := by
  intro M hR
  obtain ⟨n, m, a, ha, hG, hB, hab, hT0, hT1, hW4, hW5, hz, hbl, hBY, h288, hTC⟩ := RC_get hR; have hn := hB.1; have hm := hB.2.1; have hn8 := hG.1; have hm8 := hG.2.1; have hX0 := hG.2.2.2.2.2.2.1; have hX1 := hG.2.2.2.2.2.2.2; have ho : ∀ i, i < n → odr a n i < n := (fun i hi => odr_lt hi)
  by_cases hg : okD x y z
  · by_cases h8 : m = 8
    · refine JJ_e (k := 4) (by decide) (by decide) hR ?_ (fun M1 e33 e26 => ?_)
      · refine am_cl_in am_c80 rfl ?_
        repeat' first | refine am_wp_step _ rfl ?_ | refine am_iteB (fun h => ?_) (fun h => ?_) | refine am_iteN (fun h => ?_) (fun h => ?_) | refine am_ite (fun h => ?_) (fun h => ?_) | refine ⟨_, _, c_dishRef4 _ m x y z M hg hm h8, ?_⟩ | refine ⟨_, _, c_err4 _ _, ?_⟩ | fail
        exact ⟨trivial, rfl, rfl⟩
      · have ea : M1 33 0 0 = a := (by rw [e33]; exact ha); have en : M1 33 0 0 1 = nI n := (by rw [ea]; exact hG.2.2.1); have em : M1 33 0 0 2 = nI m := (by rw [ea]; exact hG.2.2.2.1)
        refine am_cl_in am_c157 rfl ?_
        iterate 4 refine am_wp_step _ rfl ?_
        refine ⟨_, _, cl_t hg (m_isDish _ _ _ _ _), ?_⟩
        iterate 5 refine am_wp_step _ rfl ?_
        refine am_andv (by unfold vp_in; decide) ?_
        iterate 2 refine am_wp_step _ rfl ?_
        refine am_iteF (by show ¬ M1 33 0 0 2 ≠ 8; rw [em, h8]; decide) ?_
        repeat' first | refine am_wp_step _ rfl ?_ | refine am_iteB (fun h => ?_) (fun h => ?_) | refine am_iteN (fun h => ?_) (fun h => ?_) | refine am_ite (fun h => ?_) (fun h => ?_) | refine ⟨_, _, m_find4 _ _, ?_⟩ | fail
        exact ⟨trivial, rfl, rfl⟩
    · have hm7 : m < 8 := by omega
      obtain ⟨M1, c1, r1, r2, r3⟩ := c_addDish 998 n m (odr a n) a x y z M hn8 hm7 hB
      have ea : M1 33 0 0 = a := by rw [r3 33 0 (by omega) (by omega)]; exact ha
      obtain ⟨M2, c2, k1, k2⟩ := m_cooked 998 m a x y z M1 hm7 ea hG.2.2.2.1
      obtain ⟨g1, g2⟩ := GA_ad hm7 hG hg
      refine JJ_b (n := n) (m := m + 1) (v := nI m) hR ha ?_ ?_ r3 k2 k1 g1 (by rw [g2]; exact r1) (r2.trans hab) (by rw [adD_o (by omega) (by omega)]; exact hbl) (fun c hc => adD_o (by omega) (by omega))
      · refine am_cl_in am_c80 rfl ?_
        repeat' first | refine am_wp_step _ rfl ?_ | refine am_iteB (fun h => ?_) (fun h => ?_) | refine am_iteN (fun h => ?_) (fun h => ?_) | refine am_ite (fun h => ?_) (fun h => ?_) | refine ⟨_, _, c_dishRef0 _ m x y z M hg hm hm7, ?_⟩ | refine ⟨_, _, c1, ?_⟩ | fail
        exact ⟨trivial, rfl, rfl⟩
      · refine am_cl_in am_c157 rfl ?_
        iterate 4 refine am_wp_step _ rfl ?_
        refine ⟨_, _, cl_t hg (m_isDish _ _ _ _ _), ?_⟩
        iterate 5 refine am_wp_step _ rfl ?_
        refine am_andv (by unfold vp_in; decide) ?_
        iterate 2 refine am_wp_step _ rfl ?_
        refine am_iteT (by show M1 33 0 0 2 ≠ 8; rw [ea, hG.2.2.2.1]; exact fun q => h8 ((nI_eq (by omega) (by decide)).mp (show nI m = nI 8 from q))) ?_
        iterate 5 refine am_wp_step _ rfl ?_
        refine ⟨_, _, c2, ?_⟩
        iterate 1 refine am_wp_step _ rfl ?_
        exact ⟨trivial, rfl, rfl⟩
  · refine JJ_e (k := 1) (by decide) (by decide) hR ?_ (fun M1 e33 e26 => ?_)
    · refine am_cl_in am_c80 rfl ?_
      repeat' first | refine am_wp_step _ rfl ?_ | refine am_iteB (fun h => ?_) (fun h => ?_) | refine am_iteN (fun h => ?_) (fun h => ?_) | refine am_ite (fun h => ?_) (fun h => ?_) | refine ⟨_, _, c_dishRef1 _ x y z M hg, ?_⟩ | refine ⟨_, _, c_err1 _ _, ?_⟩ | fail
      exact ⟨trivial, rfl, rfl⟩
    · have ea : M1 33 0 0 = a := (by rw [e33]; exact ha); have en : M1 33 0 0 1 = nI n := (by rw [ea]; exact hG.2.2.1); have em : M1 33 0 0 2 = nI m := (by rw [ea]; exact hG.2.2.2.1)
      refine am_cl_in am_c157 rfl ?_
      repeat' first | refine am_wp_step _ rfl ?_ | refine am_iteB (fun h => ?_) (fun h => ?_) | refine am_iteN (fun h => ?_) (fun h => ?_) | refine am_ite (fun h => ?_) (fun h => ?_) | refine ⟨_, _, cl_f hg (m_isDish _ _ _ _ _), ?_⟩ | refine ⟨_, _, m_find1 _ _, ?_⟩ | fail
      exact ⟨trivial, rfl, rfl⟩
def adG (a : Nat → Int32) (n : Nat) (x y z : Int32) : Nat → Int32 := fu (fu (fu (fu (fu (fu (fu (fu (fu a (10 + 8 * n + 0) (x / 10)) (10 + 8 * n + 1) (x - x / 10 * 10)) (10 + 8 * n + 2) (y / 10)) (10 + 8 * n + 3) (y - y / 10 * 10)) (10 + 8 * n + 4) (z / 10)) (10 + 8 * n + 5) (z - z / 10 * 10)) (10 + 8 * n + 6) 0) (10 + 8 * n + 7) 0) 1 (nI (n + 1))
theorem adG_o {a : Nat → Int32} {n c : Nat} {x y z : Int32} (h2 : c ≠ 1) (hc : ¬ (10 + 8 * n ≤ c ∧ c < 10 + 8 * n + 8)) : adG a n x y z c = a c := by
  unfold adG
  rw [fu_ne (by omega), fu_ne (by omega), fu_ne (by omega), fu_ne (by omega), fu_ne (by omega), fu_ne (by omega), fu_ne (by omega), fu_ne (by omega), fu_ne (by omega)]
theorem adG_v {a : Nat → Int32} {n : Nat} {x y z : Int32} : adG a n x y z (10 + 8 * n + 0) = x / 10 ∧ adG a n x y z (10 + 8 * n + 1) = x - x / 10 * 10 ∧ adG a n x y z (10 + 8 * n + 2) = y / 10 ∧ adG a n x y z (10 + 8 * n + 3) = y - y / 10 * 10 ∧ adG a n x y z (10 + 8 * n + 4) = z / 10 ∧ adG a n x y z (10 + 8 * n + 5) = z - z / 10 * 10 ∧ adG a n x y z (10 + 8 * n + 6) = 0 ∧ adG a n x y z (10 + 8 * n + 7) = 0 ∧ adG a n x y z 1 = nI (n + 1) := by
  unfold adG
  refine ⟨?_, ?_, ?_, ?_, ?_, ?_, ?_, ?_, ?_⟩
  · rw [fu_ne (by omega), fu_ne (by omega), fu_ne (by omega), fu_ne (by omega), fu_ne (by omega), fu_ne (by omega), fu_ne (by omega), fu_ne (by omega), fu_at]
  · rw [fu_ne (by omega), fu_ne (by omega), fu_ne (by omega), fu_ne (by omega), fu_ne (by omega), fu_ne (by omega), fu_ne (by omega), fu_at]
  · rw [fu_ne (by omega), fu_ne (by omega), fu_ne (by omega), fu_ne (by omega), fu_ne (by omega), fu_ne (by omega), fu_at]
  · rw [fu_ne (by omega), fu_ne (by omega), fu_ne (by omega), fu_ne (by omega), fu_ne (by omega), fu_at]
  · rw [fu_ne (by omega), fu_ne (by omega), fu_ne (by omega), fu_ne (by omega), fu_at]
  · rw [fu_ne (by omega), fu_ne (by omega), fu_ne (by omega), fu_at]
  · rw [fu_ne (by omega), fu_ne (by omega), fu_at]
  · rw [fu_ne (by omega), fu_at]
  · rw [fu_at]
theorem RB_ag {M M' M'' : am_F} {n m : Nat} {o : Nat → Nat} {a a' : Nat → Int32} (hn : n < 8) (hm : m ≤ 8) (hB : RB M 0 n m o a) (h18 : ∀ k, k < 8 → M' 18 0 n k = a' (10 + 8 * n + k)) (h18' : ∀ i, i ≠ n → M' 18 0 i = M 18 0 i) (h16 : M' 16 0 0 1 = nI (n + 1)) (h16' : ∀ s, s ≠ 1 → M' 16 0 0 s = M 16 0 0 s) (hr : ∀ r, r = 17 ∨ r = 28 → M' r 0 = M r 0) (ho : ∀ c, c ≠ 1 → ¬ (10 + 8 * n ≤ c ∧ c < 10 + 8 * n + 8) → a' c = a c) (hs : plN (M'' 29 0 0) (so (fun j => M' 18 0 j 3) (n + 1))) (hf : fO M' M'' 29 0) : RB M'' 0 (n + 1) m (odr a' (n + 1)) a' := by
  obtain ⟨b1, b2, b3, b4, b5, b6, b7⟩ := hB
  have hg : ∀ i k, i < n + 1 → k < 8 → M' 18 0 i k = a' (10 + 8 * i + k) := by
    intro i k hi hk
    by_cases him : i = n
    · rw [him]; exact h18 k hk
    · rw [h18' i him, ho _ (by omega) (by omega)]; exact b4 i k (by omega) hk
  unfold RB
  rw [hf 16 0 (by omega), hf 17 0 (by omega), hf 18 0 (by omega), hf 28 0 (by omega)]
  refine ⟨h16, by rw [h16' 3 (by omega)]; exact b2, by rw [h16' 5 (by omega), ho 0 (by omega) (by omega)]; exact b3, hg, fun i k hi hk => ?_, fun j hj => ?_, fun i hi => ?_⟩
  · rw [hr 17 (by omega), ho _ (by omega) (by omega)]; exact b5 i k hi hk
  · rw [hr 28 (by omega), ho _ (by omega) (by omega)]; exact b6 j hj
  · rw [plN_at hs i (by rw [so_len]; exact hi)]
    unfold odr
    rw [so_cg (r := fun j => a' (10 + 8 * j + 3)) (r' := fun j => M' 18 0 j 3) (fun j hj => hg j 3 hj (by omega))]
abbrev okK (x y z : Int32) : Prop := (0 ≤ x ∧ x ≤ 69) ∧ (0 ≤ y ∧ y ≤ 39) ∧ (0 ≤ z ∧ z ≤ 59) ∧ z - z / 10 * 10 < 3
theorem GA_ag {n m : Nat} {a : Nat → Int32} {x y z : Int32} (hn : n < 8) (hG : GA n m a) (h : okK x y z) : GA (n + 1) m (adG a n x y z) := by
  obtain ⟨_, hm, h1, h2, h3, h4, h5, h6⟩ := hG
  obtain ⟨v0, v1, v2, v3, v4, v5, v6, v7, v8⟩ := adG_v (a := a) (n := n) (x := x) (y := y) (z := z)
  have ht : tx (adG a n x y z) = tx a := tx_of fun c hc => adG_o (by omega) (by omega)
  have eo : ∀ c, c ≠ 1 → ¬ (10 + 8 * n ≤ c ∧ c < 10 + 8 * n + 8) → adG a n x y z c = a c := fun c => adG_o
  refine ⟨by omega, hm, v8, by rw [eo 2 (by omega) (by omega)]; exact h2, fun i hi => ?_, fun j hj => ?_, by rw [ht]; exact h5, by rw [ht]; exact h6⟩
  · by_cases hin : i = n
    · rw [hin, v0, v2, v3, v5, v6]
      obtain ⟨g1, g2, g3, g4⟩ := h
      obtain ⟨p, hp, rfl⟩ := wI_ex (b := 69) g1 (by decide)
      obtain ⟨q, hq, rfl⟩ := wI_ex (b := 39) g2 (by decide)
      obtain ⟨r, hr, rfl⟩ := wI_ex (b := 59) g3 (by decide)
      have e1 : nI p / 10 = nI (p / 10) := pk_div (by omega) (by decide) (by decide)
      have e2 : nI q / 10 = nI (q / 10) := pk_div (by omega) (by decide) (by decide)
      have e3 : nI q - nI q / 10 * 10 = nI (q % 10) := pk_rem (by omega) (by decide) (by decide)
      have e4 : nI r - nI r / 10 * 10 = nI (r % 10) := pk_rem (by omega) (by decide) (by decide)
      rw [e4] at g4
      have g5 : r % 10 < 3 := (nI_ltI (by omega) (by decide)).mp (show nI (r % 10) < nI 3 from g4)
      rw [e1, e3, e2, e4]
      exact ⟨⟨nI_pos' (by omega), nI_le (b := 6) (by omega) (by decide)⟩, ⟨nI_pos' (by omega), nI_le (b := 3) (by omega) (by decide)⟩, ⟨nI_pos' (by omega), nI_le (b := 9) (by omega) (by decide)⟩, ⟨nI_pos' (by omega), nI_le (b := 2) (by omega) (by decide)⟩, by decide, by decide⟩
    · rw [eo _ (by omega) (by omega), eo _ (by omega) (by omega), eo _ (by omega) (by omega), eo _ (by omega) (by omega), eo _ (by omega) (by omega)]
      exact h3 i (by omega)
  · rw [eo _ (by omega) (by omega), eo _ (by omega) (by omega), eo _ (by omega) (by omega)]
    exact h4 j hj
theorem c_addGhost (d n m : Nat) (o : Nat → Nat) (a : Nat → Int32) (x y z : Int32) (M : am_F) (hn : n < 8) (hm : m ≤ 8) (hB : RB M 0 n m o a) : ∃ M', am_cl am_cds (d + 2) 1 [.inr (.inr (16, 0, 0)), .inl x, .inl y, .inl z] (am_S M) (some (.inl (nI n))) (am_S M') ∧ RB M' 0 (n + 1) m (odr (adG a n x y z) (n + 1)) (adG a n x y z) ∧ M' 16 0 0 7 = M 16 0 0 7 ∧ FX M M' := by
  have hmm := hB.1
  obtain ⟨v0, v1, v2, v3, v4, v5, v6, v7, v8⟩ := adG_v (a := a) (n := n) (x := x) (y := y) (z := z)
  refine am_cl_v (fun M' => RB M' 0 (n + 1) m (odr (adG a n x y z) (n + 1)) (adG a n x y z) ∧ M' 16 0 0 7 = M 16 0 0 7 ∧ FX M M') am_c1 rfl ?_
  iterate 6 refine am_wp_step _ rfl ?_
  refine am_iteT (by show M 16 0 0 1 < 8; rw [hmm]; exact nI_lt (b := 8) hn (by decide)) ?_
  iterate 5 refine am_wp_step _ rfl ?_
  refine am_ixN (n) (hmm) (show _ < 8 by omega) (show (8 : Nat) < 2 ^ 31 by decide) (fun e => ?_); rw [e]
  iterate 6
    iterate 5 refine am_wp_step _ rfl ?_
    refine ⟨by decide, ?_⟩
  generalize hM1 : am_up (am_up (am_up (am_up (am_up (am_up (am_up (am_up M 18 0 n 0 (x / 10)) 18 0 n 1 (x - x / 10 * 10)) 18 0 n 2 (y / 10)) 18 0 n 3 (y - y / 10 * 10)) 18 0 n 4 (z / 10)) 18 0 n 5 (z - z / 10 * 10)) 18 0 n 6 0) 18 0 n 7 0 = M1
  have h16 : M1 16 = M 16 := by rw [← hM1]; simp only [am_up_r (show (16 : Nat) ≠ 18 by decide)]
  have hmem : am_up M1 16 0 0 1 (M1 16 0 0 1 + 1) = am_up M1 16 0 0 1 (nI (n + 1)) := by rw [h16, hmm, nI_1]
  obtain ⟨M2, c2, s2, f2⟩ := c_sort d 0 (n + 1) (am_up M1 16 0 0 1 (nI (n + 1))) (by omega) am_up_same
  have key : RB M2 0 (n + 1) m (odr (adG a n x y z) (n + 1)) (adG a n x y z) := by
    refine RB_ag (M' := am_up M1 16 0 0 1 (nI (n + 1))) hn hm hB ?_ ?_ am_up_same ?_ ?_ (fun c h1 h2 => adG_o h1 h2) s2 f2
    · intro k hk
      rw [am_up_r (by decide), ← hM1]
      rcases (by omega : k = 0 ∨ k = 1 ∨ k = 2 ∨ k = 3 ∨ k = 4 ∨ k = 5 ∨ k = 6 ∨ k = 7) with rfl | rfl | rfl | rfl | rfl | rfl | rfl | rfl
      · rw [v0]; simp [am_up]
      · rw [v1]; simp [am_up]
      · rw [v2]; simp [am_up]
      · rw [v3]; simp [am_up]
      · rw [v4]; simp [am_up]
      · rw [v5]; simp [am_up]
      · rw [v6]; simp [am_up]
      · rw [v7]; simp [am_up]
    · intro i hi
      rw [am_up_r (by decide), ← hM1]
      funext k
      simp [am_up, hi]
    · intro s hs
      rw [am_up_s hs, h16]
    · intro r hr
      rw [am_up_r (by omega), ← hM1, am_up_r (by omega), am_up_r (by omega), am_up_r (by omega), am_up_r (by omega), am_up_r (by omega), am_up_r (by omega), am_up_r (by omega), am_up_r (by omega)]
  have e1 : M2 16 0 0 1 - 1 = nI n := by rw [f2 16 0 (by omega), am_up_same, nI_pred]
  have go : am_wp (am_cl am_cds (d + 1)) am_c1 (fun w m_1 => w = some (.inl (nI n)) ∧ ∃ M', m_1 = am_S M' ∧ RB M' 0 (n + 1) m (odr (adG a n x y z) (n + 1)) (adG a n x y z) ∧ M' 16 0 0 7 = M 16 0 0 7 ∧ FX M M') 56 [(0, .inr (.inr (16, 0, 0))), (1, .inl x), (2, .inl y), (3, .inl z), (4, .inr (.inr (18, 0, n)))] [] (am_S (am_up M1 16 0 0 1 (nI (n + 1)))) := by
    iterate 2 refine am_wp_step _ rfl ?_
    refine ⟨_, c2, ?_⟩
    iterate 5 refine am_wp_step _ rfl ?_
    refine ⟨trivial, ?_, M2, rfl, key, ?_, ?_⟩
    · show some (Sum.inl (M2 16 0 0 1 - 1)) = _
      rw [e1]
    · rw [f2 16 0 (by omega), am_up_s (by decide), h16]
    · refine FX_tr ?_ (FX_fO f2)
      intro r bb h1 h2
      rw [am_up_rb (by omega), ← hM1, am_up_rb (by omega), am_up_rb (by omega), am_up_rb (by omega), am_up_rb (by omega), am_up_rb (by omega), am_up_rb (by omega), am_up_rb (by omega), am_up_rb (by omega)]
  rw [← hmem, ← hM1] at go
  iterate 13 refine am_wp_step _ rfl ?_
  exact go
theorem jj_dead (x y z : Int32) : JJ 74 145 [.inl x, .inl y, .inl z] := by
  intro M hR
  obtain ⟨n, m, a, ha, hG, hB, hab, hT0, hT1, hW4, hW5, hz, hbl, hBY, h288, hTC⟩ := RC_get hR; have hn := hB.1; have hm := hB.2.1; have hn8 := hG.1; have hm8 := hG.2.1; have hX0 := hG.2.2.2.2.2.2.1; have hX1 := hG.2.2.2.2.2.2.2; have ho : ∀ i, i < n → odr a n i < n := (fun i hi => odr_lt hi)
  by_cases hg : okK x y z
  · by_cases h8 : n = 8
    · refine JJ_e (k := 4) (by decide) (by decide) hR ?_ (fun M1 e33 e26 => ?_)
      · refine am_cl_in am_c74 rfl ?_
        iterate 2 refine am_wp_step _ rfl ?_
        refine ⟨_, _, cl_t hg.1 (c_isKM _ _ _), ?_⟩
        iterate 5 refine am_wp_step _ rfl ?_
        refine ⟨_, _, cl_t hg.2.1 (c_within _ _ _ _ _), ?_⟩
        iterate 5 refine am_wp_step _ rfl ?_
        refine ⟨_, _, cl_t hg.2.2.1 (c_within _ _ _ _ _), ?_⟩
        iterate 4 refine am_wp_step _ rfl ?_
        refine ⟨by decide, ?_⟩
        iterate 2 refine am_wp_step _ rfl ?_
        refine am_iteT hg.2.2.2 ?_
        iterate 6 refine am_wp_step _ rfl ?_
        refine am_iteF (by show ¬ M 16 0 0 1 < 8; rw [hn, h8]; decide) ?_
        repeat' first | refine am_wp_step _ rfl ?_ | refine am_iteB (fun h => ?_) (fun h => ?_) | refine am_iteN (fun h => ?_) (fun h => ?_) | refine am_ite (fun h => ?_) (fun h => ?_) | refine ⟨_, _, c_err4 _ _, ?_⟩ | fail
        exact ⟨trivial, rfl, rfl⟩
      · have ea : M1 33 0 0 = a := (by rw [e33]; exact ha); have en : M1 33 0 0 1 = nI n := (by rw [ea]; exact hG.2.2.1); have em : M1 33 0 0 2 = nI m := (by rw [ea]; exact hG.2.2.2.1)
        refine am_cl_in am_c145 rfl ?_
        iterate 4 refine am_wp_step _ rfl ?_
        refine ⟨_, _, cl_t hg.1 (m_within _ _ _ _ _), ?_⟩
        iterate 5 refine am_wp_step _ rfl ?_
        refine ⟨_, _, cl_t hg.2.1 (m_within _ _ _ _ _), ?_⟩
        iterate 5 refine am_wp_step _ rfl ?_
        refine ⟨_, _, cl_t hg.2.2.1 (m_within _ _ _ _ _), ?_⟩
        iterate 4 refine am_wp_step _ rfl ?_
        refine ⟨by decide, ?_⟩
        iterate 2 refine am_wp_step _ rfl ?_
        refine am_iteF (Int32.not_le.mpr hg.2.2.2) ?_
        iterate 9 refine am_wp_step _ rfl ?_
        refine am_andv (by unfold vp_in; decide) ?_
        iterate 4 refine am_wp_step _ rfl ?_
        refine am_iteF (by show ¬ M1 33 0 0 1 ≠ 8; rw [en, h8]; decide) ?_
        repeat' first | refine am_wp_step _ rfl ?_ | refine am_iteB (fun h => ?_) (fun h => ?_) | refine am_iteN (fun h => ?_) (fun h => ?_) | refine am_ite (fun h => ?_) (fun h => ?_) | refine ⟨_, _, m_find4 _ _, ?_⟩ | fail
        exact ⟨trivial, rfl, rfl⟩
    · have hn7 : n < 8 := by omega
      obtain ⟨M1, c1, r1, r2, r3⟩ := c_addGhost 997 n m (odr a n) a x y z M hn7 hm8 hB
      have ea : M1 33 0 0 = a := by rw [r3 33 0 (by omega) (by omega)]; exact ha
      have hmod : ∃ M2, am_cl am_cds 1000 145 [.inr (.inr (26, 0, 0)), .inl x, .inl y, .inl z] (am_S M1) (some (.inl (nI n))) (am_S M2) ∧ M2 33 0 0 = adG a n x y z ∧ kB M1 M2 := by
        refine am_cl_v (fun M2 => M2 33 0 0 = adG a n x y z ∧ kB M1 M2) am_c145 rfl ?_
        iterate 4 refine am_wp_step _ rfl ?_
        refine ⟨_, _, cl_t hg.1 (m_within _ _ _ _ _), ?_⟩
        iterate 5 refine am_wp_step _ rfl ?_
        refine ⟨_, _, cl_t hg.2.1 (m_within _ _ _ _ _), ?_⟩
        iterate 5 refine am_wp_step _ rfl ?_
        refine ⟨_, _, cl_t hg.2.2.1 (m_within _ _ _ _ _), ?_⟩
        iterate 4 refine am_wp_step _ rfl ?_
        refine ⟨by decide, ?_⟩
        iterate 2 refine am_wp_step _ rfl ?_
        refine am_iteF (Int32.not_le.mpr hg.2.2.2) ?_
        iterate 9 refine am_wp_step _ rfl ?_
        refine am_andv (by unfold vp_in; decide) ?_
        rw [show (am_S M1).2.2 33 0 0 (Int32.toNatClampNeg 1) = nI n from by show M1 33 0 0 1 = nI n; rw [ea]; exact hG.2.2.1]
        iterate 4 refine am_wp_step _ rfl ?_
        refine am_iteT (fun q => h8 ((nI_eq (by omega) (by decide)).mp (show nI n = nI 8 from q))) ?_
        iterate 14 refine am_wp_step _ rfl ?_
        refine ⟨by decide, ?_⟩
        iterate 1 refine am_wp_step _ rfl ?_
        refine am_ixN (10 + 8 * n + 0) (by simp only [nI_lit, nI_add, nI_mul]) (show _ < 288 by omega) (show (288 : Nat) < 2 ^ 31 by decide) (fun e => ?_); rw [e]
        iterate 8 refine am_wp_step _ rfl ?_
        refine ⟨by decide, ?_⟩
        iterate 1 refine am_wp_step _ rfl ?_
        refine am_ixN (10 + 8 * n + 1) (by simp only [nI_lit, nI_add, nI_mul]) (show _ < 288 by omega) (show (288 : Nat) < 2 ^ 31 by decide) (fun e => ?_); rw [e]
        iterate 8 refine am_wp_step _ rfl ?_
        refine ⟨by decide, ?_⟩
        iterate 1 refine am_wp_step _ rfl ?_
        refine am_ixN (10 + 8 * n + 2) (by simp only [nI_lit, nI_add, nI_mul]) (show _ < 288 by omega) (show (288 : Nat) < 2 ^ 31 by decide) (fun e => ?_); rw [e]
        iterate 8 refine am_wp_step _ rfl ?_
        refine ⟨by decide, ?_⟩
        iterate 1 refine am_wp_step _ rfl ?_
        refine am_ixN (10 + 8 * n + 3) (by simp only [nI_lit, nI_add, nI_mul]) (show _ < 288 by omega) (show (288 : Nat) < 2 ^ 31 by decide) (fun e => ?_); rw [e]
        iterate 8 refine am_wp_step _ rfl ?_
        refine ⟨by decide, ?_⟩
        iterate 1 refine am_wp_step _ rfl ?_
        refine am_ixN (10 + 8 * n + 4) (by simp only [nI_lit, nI_add, nI_mul]) (show _ < 288 by omega) (show (288 : Nat) < 2 ^ 31 by decide) (fun e => ?_); rw [e]
        iterate 8 refine am_wp_step _ rfl ?_
        refine ⟨by decide, ?_⟩
        iterate 1 refine am_wp_step _ rfl ?_
        refine am_ixN (10 + 8 * n + 5) (by simp only [nI_lit, nI_add, nI_mul]) (show _ < 288 by omega) (show (288 : Nat) < 2 ^ 31 by decide) (fun e => ?_); rw [e]
        iterate 7 refine am_wp_step _ rfl ?_
        refine am_ixN (10 + 8 * n + 6) (by simp only [nI_lit, nI_add, nI_mul]) (show _ < 288 by omega) (show (288 : Nat) < 2 ^ 31 by decide) (fun e => ?_); rw [e]
        iterate 7 refine am_wp_step _ rfl ?_
        refine am_ixN (10 + 8 * n + 7) (by simp only [nI_lit, nI_add, nI_mul]) (show _ < 288 by omega) (show (288 : Nat) < 2 ^ 31 by decide) (fun e => ?_); rw [e]
        iterate 5 refine am_wp_step _ rfl ?_
        refine am_andv (by unfold vp_in; decide) ?_
        iterate 3 refine am_wp_step _ rfl ?_
        refine am_andv (by unfold vp_in; decide) ?_
        iterate 2 refine am_wp_step _ rfl ?_
        refine ⟨trivial, rfl, _, rfl, ?_, ?_⟩
        · generalize hX : am_up (am_up (am_up (am_up (am_up (am_up (am_up (am_up M1 33 0 0 (10 + 8 * n + 0) (x / 10)) 33 0 0 (10 + 8 * n + 1) (x - x / 10 * 10)) 33 0 0 (10 + 8 * n + 2) (y / 10)) 33 0 0 (10 + 8 * n + 3) (y - y / 10 * 10)) 33 0 0 (10 + 8 * n + 4) (z / 10)) 33 0 0 (10 + 8 * n + 5) (z - z / 10 * 10)) 33 0 0 (10 + 8 * n + 6) 0) 33 0 0 (10 + 8 * n + 7) 0 = X
          show am_up X 33 0 0 1 (X 33 0 0 1 + 1) 33 0 0 = _
          have e2 : X 33 0 0 1 + 1 = nI (n + 1) := by
            rw [← hX, am_up_s (by omega), am_up_s (by omega), am_up_s (by omega), am_up_s (by omega), am_up_s (by omega), am_up_s (by omega), am_up_s (by omega), am_up_s (by omega), ea, hG.2.2.1, nI_1]
          rw [e2, am_up_fu, ← hX, am_up_fu, am_up_fu, am_up_fu, am_up_fu, am_up_fu, am_up_fu, am_up_fu, am_up_fu, ea]
          rfl
        · exact kB_tr kB_up (kB_tr kB_up (kB_tr kB_up (kB_tr kB_up (kB_tr kB_up (kB_tr kB_up (kB_tr kB_up (kB_tr kB_up kB_up)))))))
      obtain ⟨M2, c2, k1, k2⟩ := hmod
      refine JJ_b (n := n + 1) (m := m) (v := nI n) hR ha ?_ c2 r3 k2 k1 (GA_ag hn7 hG hg) r1 (r2.trans hab) (by rw [adG_o (by omega) (by omega)]; exact hbl) (fun c hc => adG_o (by omega) (by omega))
      refine am_cl_in am_c74 rfl ?_
      iterate 2 refine am_wp_step _ rfl ?_
      refine ⟨_, _, cl_t hg.1 (c_isKM _ _ _), ?_⟩
      iterate 5 refine am_wp_step _ rfl ?_
      refine ⟨_, _, cl_t hg.2.1 (c_within _ _ _ _ _), ?_⟩
      iterate 5 refine am_wp_step _ rfl ?_
      refine ⟨_, _, cl_t hg.2.2.1 (c_within _ _ _ _ _), ?_⟩
      iterate 4 refine am_wp_step _ rfl ?_
      refine ⟨by decide, ?_⟩
      iterate 2 refine am_wp_step _ rfl ?_
      refine am_iteT hg.2.2.2 ?_
      iterate 6 refine am_wp_step _ rfl ?_
      refine am_iteT (by show M 16 0 0 1 < 8; rw [hn]; exact nI_lt (b := 8) hn7 (by decide)) ?_
      iterate 7 refine am_wp_step _ rfl ?_
      refine ⟨_, _, c1, ?_⟩
      iterate 1 refine am_wp_step _ rfl ?_
      exact ⟨trivial, rfl, rfl⟩
  · refine JJ_e (k := 1) (by decide) (by decide) hR ?_ (fun M1 e33 e26 => ?_)
    · refine am_cl_in am_c74 rfl ?_
      repeat' first | refine am_wp_step _ rfl ?_ | refine am_iteB (fun h => ?_) (fun h => ?_) | refine am_iteN (fun h => ?_) (fun h => ?_) | refine am_ite (fun h => ?_) (fun h => ?_) | refine ⟨_, _, c_isDead _ _ _ hn, ?_⟩ | refine ⟨_, _, c_isDish _ _ _ hm, ?_⟩ | refine ⟨_, _, c_within _ _ _ _ _, ?_⟩ | refine ⟨_, _, c_isKM _ _ _, ?_⟩ | refine ⟨_, _, c_isHouse _ _ _, ?_⟩ | refine ⟨_, _, c_isAhead _ _ _, ?_⟩ | refine ⟨_, _, c_isSheet _ _ _, ?_⟩ | refine ⟨_, _, c_mostOf _ _ _, ?_⟩ | refine ⟨_, _, c_err1 _ _, ?_⟩ | refine ⟨_, _, c_err2 _ _, ?_⟩ | refine ⟨_, _, c_err3 _ _, ?_⟩ | refine ⟨_, _, c_err4 _ _, ?_⟩ | refine ⟨_, _, c_err5 _ _, ?_⟩ | refine ⟨by decide, ?_⟩ | fail
      all_goals first | exact ⟨trivial, rfl, rfl⟩ | (exfalso; clear hR hG hB hT0 hT1 hW4 hW5 hBY h288 hTC hX0 hX1; grind)
    · have ea : M1 33 0 0 = a := (by rw [e33]; exact ha); have en : M1 33 0 0 1 = nI n := (by rw [ea]; exact hG.2.2.1); have em : M1 33 0 0 2 = nI m := (by rw [ea]; exact hG.2.2.2.1)
      refine am_cl_in am_c145 rfl ?_
      repeat' first | refine am_wp_step _ rfl ?_ | refine am_iteB (fun h => ?_) (fun h => ?_) | refine am_iteN (fun h => ?_) (fun h => ?_) | refine am_ite (fun h => ?_) (fun h => ?_) | refine ⟨_, _, m_isD _ _ _ en, ?_⟩ | refine ⟨_, _, m_isH _ _ _ em, ?_⟩ | refine ⟨_, _, m_within _ _ _ _ _, ?_⟩ | refine ⟨_, _, m_isHouse _ _ _, ?_⟩ | refine ⟨_, _, m_isAhead _ _ _, ?_⟩ | refine ⟨_, _, m_isSheet _ _ _, ?_⟩ | refine ⟨_, _, m_find1 _ _, ?_⟩ | refine ⟨_, _, m_find2 _ _, ?_⟩ | refine ⟨_, _, m_find3 _ _, ?_⟩ | refine ⟨_, _, m_find4 _ _, ?_⟩ | refine ⟨_, _, m_find5 _ _, ?_⟩ | refine am_andv (by unfold vp_in; decide) ?_ | refine ⟨by decide, ?_⟩ | fail
      all_goals first | exact ⟨trivial, rfl, rfl⟩ | (exfalso; clear hR hG hB hT0 hT1 hW4 hW5 hBY h288 hTC hX0 hX1; grind)
