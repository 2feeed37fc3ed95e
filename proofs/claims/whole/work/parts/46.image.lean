/-! TELL, CHECK, IMAGES -/
theorem c_at (d b k i : Nat) (M : am_F) (hs : M 21 b 0 1 = nI k) (hi : i < k) (hk : k ≤ am_ln 27 b) (hl : am_ln 27 b < 2 ^ 31) : am_cl am_cds (d + 1) 51 [.inr (.inr (21, b, 0)), .inl (nI i)] (am_S M) (some (.inl (M 27 b 0 i))) (am_S M) := by
  refine am_cl_in am_c51 rfl ?_
  iterate 2 refine am_wp_step _ rfl ?_
  refine am_iteF (nI_pos (by omega)) ?_
  iterate 4 refine am_wp_step _ rfl ?_
  refine am_iteF (by show ¬ M 21 b 0 1 ≤ nI i; rw [hs]; exact nI_ge hi (by omega)) ?_
  iterate 4 refine am_wp_step _ rfl ?_
  refine am_ixN i rfl (by omega) hl (fun e => ?_)
  rw [e]
  iterate 2 refine am_wp_step _ rfl ?_
  exact ⟨trivial, rfl, rfl⟩
theorem RR_r {M M1 : am_F} {a a' : Nat → Int32} (hR : RR M 0 a) (hF : ∀ r, r = 16 ∨ r = 17 ∨ r = 18 ∨ r = 28 ∨ r = 29 ∨ r = 20 → M1 r 0 = M r 0) (hF2 : ∀ bb, bb = 0 ∨ bb = 2 → M1 21 bb = M 21 bb ∧ M1 27 bb = M 27 bb) (h4 : RW M1 4 (a' 3) (fun j => a' (114 + j)) 50) (h5 : RW M1 5 (a' 4) (fun j => a' (164 + j)) 20) (hY : BY a') (hs : ∀ c, c ≠ 3 → c ≠ 4 → ¬ (114 ≤ c ∧ c < 184) → a' c = a c) : RR M1 0 a' := by
  obtain ⟨n, m, q1, q2, q3, q4, q5, q6, q7, q8, q9, q10, q11⟩ := hR
  have ht : tx a' = tx a := funext fun j => hs _ (by omega) (by omega) (by omega)
  obtain ⟨g1, g2, g3, g4, g5, g6, g7, g8⟩ := q1
  have e : ∀ c, 6 ≤ c → c < 114 → a' c = a c := fun c h1 h2 => hs c (by omega) (by omega) (by omega)
  refine ⟨n, m, ⟨g1, g2, ?_, ?_, fun i hi => ?_, fun i hi => ?_, by rw [ht]; exact g7, by rw [ht]; exact g8⟩, ?_, ?_, ?_, ?_, h4, h5, ?_, ?_, hY, ?_⟩
  · rw [hs 1 (by omega) (by omega) (by omega)]; exact g3
  · rw [hs 2 (by omega) (by omega) (by omega)]; exact g4
  · rw [e _ (by omega) (by omega), e _ (by omega) (by omega), e _ (by omega) (by omega), e _ (by omega) (by omega), e _ (by omega) (by omega)]
    exact g5 i hi
  · rw [e _ (by omega) (by omega), e _ (by omega) (by omega), e _ (by omega) (by omega)]
    exact g6 i hi
  · have ho : odr a' n = odr a n := odr_cg fun j hj => e _ (by omega) (by omega)
    rw [ho]
    obtain ⟨b1, b2, b3, b4, b5, b6, b7⟩ := q2
    unfold RB
    rw [hF 16 (by omega), hF 17 (by omega), hF 18 (by omega), hF 28 (by omega), hF 29 (by omega)]
    exact ⟨b1, b2, by rw [hs 0 (by omega) (by omega) (by omega)]; exact b3, fun i k hi hk => by rw [e _ (by omega) (by omega)]; exact b4 i k hi hk, fun i k hi hk => by rw [e _ (by omega) (by omega)]; exact b5 i k hi hk, fun j hj => by rw [e _ (by omega) (by omega)]; exact b6 j hj, b7⟩
  · rw [hF 16 (by omega)]; exact q3
  · rw [ht]; exact RT_cg2 (hF2 _ (by omega)).1 (hF2 _ (by omega)).2 q4
  · rw [ht]; exact RT_cg2 (hF2 _ (by omega)).1 (hF2 _ (by omega)).2 q5
  · rw [hF 20 (by omega), hs 5 (by omega) (by omega) (by omega)]; exact q8
  · rw [hs 0 (by omega) (by omega) (by omega)]; exact q9
  · intro k hk
    rw [hs k (by omega) (by omega) (by omega)]
    exact q11 k hk
theorem jj_tell (x : Int32) : JJ 109 218 [.inl x] := by
  intro M hR
  obtain ⟨n, m, a, ha, hG, hB, hab, hT0, hT1, hW4, hW5, hz, hbl, hBY, h288, hTC⟩ := RC_get hR; have hn := hB.1; have hm := hB.2.1; have hn8 := hG.1; have hm8 := hG.2.1; have hX0 := hG.2.2.2.2.2.2.1; have hX1 := hG.2.2.2.2.2.2.2; have ho : ∀ i, i < n → odr a n i < n := (fun i hi => odr_lt hi)
  obtain ⟨k, hk, w1, w2, w3⟩ := hW5
  by_cases hg : k = 20
  · refine JJ_e (k := 4) (by decide) (by decide) hR ?_ (fun M1 e33 e26 => ?_)
    · refine am_cl_in am_c109 rfl ?_
      iterate 6 refine am_wp_step _ rfl ?_
      refine am_iteF (by show ¬ M 21 5 0 1 < 20; rw [w2, hg]; decide) ?_
      repeat' first | refine am_wp_step _ rfl ?_ | refine am_iteB (fun h => ?_) (fun h => ?_) | refine am_iteN (fun h => ?_) (fun h => ?_) | refine am_ite (fun h => ?_) (fun h => ?_) | refine ⟨_, _, c_err4 _ _, ?_⟩ | fail
      exact ⟨trivial, rfl, rfl⟩
    · have ea : M1 33 0 0 = a := (by rw [e33]; exact ha); have en : M1 33 0 0 1 = nI n := (by rw [ea]; exact hG.2.2.1); have em : M1 33 0 0 2 = nI m := (by rw [ea]; exact hG.2.2.2.1)
      refine am_cl_in am_c218 rfl ?_
      iterate 4 refine am_wp_step _ rfl ?_
      refine am_andv (by unfold vp_in; decide) ?_
      iterate 2 refine am_wp_step _ rfl ?_
      refine am_iteF (by show ¬ M1 33 0 0 4 ≠ 20; rw [ea, w1, hg]; decide) ?_
      repeat' first | refine am_wp_step _ rfl ?_ | refine am_iteB (fun h => ?_) (fun h => ?_) | refine am_iteN (fun h => ?_) (fun h => ?_) | refine am_ite (fun h => ?_) (fun h => ?_) | refine ⟨_, _, m_find4 _ _, ?_⟩ | fail
      exact ⟨trivial, rfl, rfl⟩
  · have hk20 : k < 20 := by omega
    have hne : M 33 0 0 4 ≠ 20 := by
      rw [ha, w1]
      exact fun q => hg ((nI_eq (by omega) (by decide)).mp (show nI k = nI 20 from q))
    have ea : ∀ v, am_up (am_up M 27 5 0 k x) 21 5 0 1 v 33 = M 33 := fun v => by rw [am_up_r (by decide), am_up_r (by decide)]
    refine JJ_w (v := nI (k + 1)) (M1 := am_up (am_up M 27 5 0 k x) 21 5 0 1 (nI (k + 1))) (M2 := am_up (am_up (am_up (am_up M 27 5 0 k x) 21 5 0 1 (nI (k + 1))) 33 0 0 (164 + k) x) 33 0 0 4 (nI (k + 1))) hR ?_ ?_ ?_ (kN_B (kB_tr kB_up kB_up)) ?_
    · refine am_cl_in am_c109 rfl ?_
      iterate 6 refine am_wp_step _ rfl ?_
      refine am_iteT (by show M 21 5 0 1 < 20; rw [w2]; exact nI_lt (b := 20) hk20 (by decide)) ?_
      iterate 5 refine am_wp_step _ rfl ?_
      refine ⟨_, c_add _ 5 k x M w2 (show k < 20 by omega) (show (20 : Nat) < 2 ^ 31 by decide), ?_⟩
      iterate 5 refine am_wp_step _ rfl ?_
      refine ⟨trivial, ?_, rfl⟩
      dsimp only [am_S]
      rw [am_up_same]
    · refine am_cl_in am_c218 rfl ?_
      iterate 4 refine am_wp_step _ rfl ?_
      refine am_andv (by unfold vp_in; decide) ?_
      iterate 2 refine am_wp_step _ rfl ?_
      refine am_iteT (by show am_up (am_up M 27 5 0 k x) 21 5 0 1 (nI (k + 1)) 33 0 0 4 ≠ 20; rw [ea]; exact hne) ?_
      iterate 7 refine am_wp_step _ rfl ?_
      refine am_andv (by unfold vp_in; decide) ?_
      have e4 : am_up (am_up M 27 5 0 k x) 21 5 0 1 (nI (k + 1)) 33 0 0 4 = nI k := by rw [ea, ha, w1]
      rw [show (am_S (am_up (am_up M 27 5 0 k x) 21 5 0 1 (nI (k + 1)))).2.2 33 0 0 (Int32.toNatClampNeg 4) = nI k from e4]
      iterate 3 refine am_wp_step _ rfl ?_
      refine am_ixN (164 + k) (by simp only [nI_lit, nI_add, nI_mul]) (show _ < 288 by omega) (show (288 : Nat) < 2 ^ 31 by decide) (fun e => ?_); rw [e]
      iterate 5 refine am_wp_step _ rfl ?_
      refine am_andv (by unfold vp_in; decide) ?_
      iterate 3 refine am_wp_step _ rfl ?_
      refine am_andv (by unfold vp_in; decide) ?_
      iterate 4 refine am_wp_step _ rfl ?_
      refine am_andv (by unfold vp_in; decide) ?_
      iterate 1 refine am_wp_step _ rfl ?_
      have e5 : am_up (am_up (am_up M 27 5 0 k x) 21 5 0 1 (nI (k + 1))) 33 0 0 (164 + k) x 33 0 0 4 + 1 = nI (k + 1) := by rw [am_up_s (by omega), e4, nI_1]
      refine ⟨trivial, ?_, ?_⟩
      · show some (Sum.inl (am_up (am_up (am_up (am_up M 27 5 0 k x) 21 5 0 1 (nI (k + 1))) 33 0 0 (164 + k) x) 33 0 0 4 (am_up (am_up (am_up M 27 5 0 k x) 21 5 0 1 (nI (k + 1))) 33 0 0 (164 + k) x 33 0 0 4 + 1) 33 0 0 4)) = _
        rw [am_up_same, e5]
      · rw [← e5]
        rfl
    · exact fun r bb h1 h2 _ _ _ => by rw [am_up_rb (by omega), am_up_rb (by omega)]
    · have hr := hR.1
      rw [ha] at hr
      have e9 : am_up (am_up (am_up (am_up M 27 5 0 k x) 21 5 0 1 (nI (k + 1))) 33 0 0 (164 + k) x) 33 0 0 4 (nI (k + 1)) 33 0 0 = fu (fu a (164 + k) x) 4 (nI (k + 1)) := by rw [am_up_fu, am_up_fu, ea, ha]
      rw [e9]
      refine RR_r hr (fun r hr => by rw [am_up_r (by omega), am_up_r (by omega)]) (fun bb hb => ⟨by rw [am_up_b (by omega), am_up_r (by omega)], by rw [am_up_r (by omega), am_up_b (by omega)]⟩) ?_ ?_ ?_ ?_
      · rw [fu_ne (by omega), fu_ne (by omega), show (fun j => fu (fu a (164 + k) x) 4 (nI (k + 1)) (114 + j)) = (fun j => fu a (164 + k) x (114 + j)) from funext fun j => fu_ne (by omega)]
        obtain ⟨k4, u1, u2, u3, u4⟩ := hW4
        refine ⟨k4, u1, u2, ?_, fun j hj => ?_⟩
        · rw [am_up_b (by decide), am_up_r (by decide)]; exact u3
        · rw [am_up_r (by decide), am_up_b (by decide)]
          show _ = fu a (164 + k) x (114 + j)
          by_cases hq : 114 + j = 164 + k
          · omega
          · rw [fu_ne hq]; exact u4 j hj
      · refine ⟨k + 1, by omega, fu_at, am_up_same, fun j hj => ?_⟩
        show _ = fu (fu a (164 + k) x) 4 (nI (k + 1)) (164 + j)
        rw [am_up_r (by decide), fu_ne (by omega)]
        by_cases hjk : j = k
        · rw [hjk, am_up_same, fu_at]
        · rw [am_up_s hjk, fu_ne (by omega)]
          exact w3 j (by omega)
      · intro k4 u1 u2 j hj
        rw [fu_ne (by omega), fu_ne (by omega)] at u1
        rw [fu_ne (by omega), fu_ne (by omega)]
        exact hBY k4 u1 u2 j hj
      · intro c c1 c2 c3
        rw [fu_ne c2, fu_ne (by omega)]
theorem c_takeCode (d t u b2 k : Nat) (M : am_F) (ht : t < 4) (hu : u = 6 * (t / 2) + 2 * (t % 2)) (hb : u ≠ b2) (hs : M 21 b2 0 1 = nI k) (hk : k ≤ 50) (hl : am_ln 27 b2 = 50) : ∃ M', am_cl am_cds (d + 3) 67 [.inr (.inr (24, t, 0)), .inr (.inr (21, b2, 0))] (am_S M) none (am_S M') ∧ rw_cp M M' u b2 k := by
  have hlu : am_ln 27 u = 50 := by
    rcases (by omega : t = 0 ∨ t = 1 ∨ t = 2 ∨ t = 3) with rfl | rfl | rfl | rfl <;> (subst hu; rfl)
  refine am_cl_v (fun M' => rw_cp M M' u b2 k) am_c67 rfl ?_
  subst hu
  iterate 4 refine am_wp_step _ rfl ?_
  refine am_call0 (c_copyRow d _ b2 k M hb hs (by rw [hlu]; exact hk) (by rw [hl]; exact hk) (by rw [hlu]; decide) (by rw [hl]; decide)) (fun M1 hh => ?_)
  iterate 1 refine am_wp_step _ rfl ?_
  exact ⟨rfl, M1, rfl, hh⟩
def fRl (b : Nat) (M M' : am_F) : Prop := ∀ r bb, ¬ ((r = 16 ∨ r = 17 ∨ r = 18 ∨ r = 28 ∨ r = 29 ∨ r = 20) ∧ bb = b) → ¬ ((r = 21 ∨ r = 27) ∧ (bb = 6 * b ∨ bb = 6 * b + 2 ∨ bb = 6 * b + 4 ∨ bb = 6 * b + 5)) → M' r bb = M r bb
theorem c_copyRealm (d b b2 : Nat) (a : Nat → Int32) (M : am_F) (hb : (b = 0 ∧ b2 = 1) ∨ (b = 1 ∧ b2 = 0)) (hR : RR M b2 a) : ∃ M', am_cl am_cds (d + 4) 48 [.inr (.inr (20, b, 0)), .inr (.inr (20, b2, 0))] (am_S M) none (am_S M') ∧ RR M' b a ∧ fRl b M M' := by
  obtain ⟨n, m, q1, q2, q3, q4, q5, q6, q7, q8, q9, q10, q11⟩ := hR
  obtain ⟨c0, hc0, x0, w0⟩ := q1.2.2.2.2.2.2.1
  obtain ⟨c1, hc1, x1, w1⟩ := q1.2.2.2.2.2.2.2
  obtain ⟨k4, u1, u2, u3, u4⟩ := q6
  obtain ⟨k5, v1, v2, v3, v4⟩ := q7
  have hbb : b ≠ b2 := by omega
  have t0 := q4.1
  have t1 := q5.1
  refine am_cl_v (fun M' => RR M' b a ∧ fRl b M M') am_c48 rfl ?_
  iterate 5 refine am_wp_step _ rfl ?_
  refine am_call0 (c_copyBoard _ b b2 n m _ (-1) a M hbb q1.1 q1.2.1 q2 q3) (fun M1 h1 => ?_)
  obtain ⟨p1, p2, p3⟩ := h1
  iterate 6 refine am_wp_step _ rfl ?_
  refine am_call0 (c_takeCode d (2 * b) (6 * b) (6 * (2 * b2 / 2) + 2 * (2 * b2 % 2)) c0 M1 (by omega) (by omega) (by omega) (by rw [p3 21 _ (by omega), t0]; exact x0) hc0 (by rcases hb with ⟨-, rfl⟩ | ⟨-, rfl⟩ <;> rfl)) (fun M2 h2 => ?_)
  obtain ⟨r1, r2, r3⟩ := h2
  iterate 6 refine am_wp_step _ rfl ?_
  refine am_call0 (c_takeCode d (2 * b + 1) (6 * b + 2) (6 * ((2 * b2 + 1) / 2) + 2 * ((2 * b2 + 1) % 2)) c1 M2 (by omega) (by omega) (by omega) (by rw [r3 21 _ (by omega), p3 21 _ (by omega), t1]; exact x1) hc1 (by rcases hb with ⟨-, rfl⟩ | ⟨-, rfl⟩ <;> rfl)) (fun M3 h3 => ?_)
  obtain ⟨s1, s2, s3⟩ := h3
  iterate 5 refine am_wp_step _ rfl ?_
  refine am_call0 (c_copyRow _ (6 * b + 4) (6 * b2 + 4) k4 M3 (by omega) (by rw [s3 21 _ (by omega), r3 21 _ (by omega), p3 21 _ (by omega)]; exact u3) (by rcases hb with ⟨rfl, -⟩ | ⟨rfl, -⟩ <;> exact u1) (by rcases hb with ⟨-, rfl⟩ | ⟨-, rfl⟩ <;> exact u1) (by rcases hb with ⟨rfl, -⟩ | ⟨rfl, -⟩ <;> decide) (by rcases hb with ⟨-, rfl⟩ | ⟨-, rfl⟩ <;> decide)) (fun M4 h4 => ?_)
  obtain ⟨y1, y2, y3⟩ := h4
  iterate 5 refine am_wp_step _ rfl ?_
  refine am_call0 (c_copyRow _ (6 * b + 5) (6 * b2 + 5) k5 M4 (by omega) (by rw [y3 21 _ (by omega), s3 21 _ (by omega), r3 21 _ (by omega), p3 21 _ (by omega)]; exact v3) (by rcases hb with ⟨rfl, -⟩ | ⟨rfl, -⟩ <;> exact v1) (by rcases hb with ⟨-, rfl⟩ | ⟨-, rfl⟩ <;> exact v1) (by rcases hb with ⟨rfl, -⟩ | ⟨rfl, -⟩ <;> decide) (by rcases hb with ⟨-, rfl⟩ | ⟨-, rfl⟩ <;> decide)) (fun M5 h5 => ?_)
  obtain ⟨z1, z2, z3⟩ := h5
  iterate 5 refine am_wp_step _ rfl ?_
  have hfr : fRl b M (am_up M5 20 b 0 5 (M5 20 b2 0 5)) := by
    intro r bb h1 h2
    rw [am_up_rb (by omega), z3 r bb (by omega), y3 r bb (by omega), s3 r bb (by omega), r3 r bb (by omega), p3 r bb (by omega)]
  have hbd : ∀ r, r = 16 ∨ r = 17 ∨ r = 18 ∨ r = 28 ∨ r = 29 → am_up M5 20 b 0 5 (M5 20 b2 0 5) r b = M1 r b := by
    intro r hr
    rw [am_up_r (by omega), z3 r b (by omega), y3 r b (by omega), s3 r b (by omega), r3 r b (by omega)]
  have e21 : ∀ bb, am_up M5 20 b 0 5 (M5 20 b2 0 5) 21 bb = M5 21 bb := fun bb => by rw [am_up_r (by decide)]
  have e27 : ∀ bb, am_up M5 20 b 0 5 (M5 20 b2 0 5) 27 bb = M5 27 bb := fun bb => by rw [am_up_r (by decide)]
  refine ⟨rfl, _, rfl, ⟨n, m, q1, RB_cg hbd p1, ?_, ?_, ?_, ?_, ?_, ?_, q9, q10, q11⟩, hfr⟩
  · dsimp only [am_S]
    rw [hbd 16 (by omega)]
    exact p2
  · dsimp only [am_S]
    refine ⟨?_, fun j hj => ?_⟩
    · rw [show 6 * (2 * b / 2) + 2 * (2 * b % 2) = 6 * b by omega, e21, z3 21 _ (by omega), y3 21 _ (by omega), s3 21 _ (by omega), r1]
      exact x0.symm
    · have hj2 := q4.2 j hj
      rw [show tx a (52 * 0) = nI c0 from x0, nI_clamp (by omega)] at hj
      rw [show 6 * (2 * b / 2) + 2 * (2 * b % 2) = 6 * b by omega, e27, z3 27 _ (by omega), y3 27 _ (by omega), s3 27 _ (by omega), r2 j hj, p3 27 _ (by omega)]
      exact hj2
  · dsimp only [am_S]
    refine ⟨?_, fun j hj => ?_⟩
    · rw [show 6 * ((2 * b + 1) / 2) + 2 * ((2 * b + 1) % 2) = 6 * b + 2 by omega, e21, z3 21 _ (by omega), y3 21 _ (by omega), s1]
      exact x1.symm
    · have hj2 := q5.2 j hj
      rw [show tx a (52 * 1) = nI c1 from x1, nI_clamp (by omega)] at hj
      rw [show 6 * ((2 * b + 1) / 2) + 2 * ((2 * b + 1) % 2) = 6 * b + 2 by omega, e27, z3 27 _ (by omega), y3 27 _ (by omega), s2 j hj, r3 27 _ (by omega), p3 27 _ (by omega)]
      exact hj2
  · dsimp only [am_S]
    refine ⟨k4, u1, u2, ?_, fun j hj => ?_⟩
    · rw [e21, z3 21 _ (by omega), y1]
    · rw [e27, z3 27 _ (by omega), y2 j hj, s3 27 _ (by omega), r3 27 _ (by omega), p3 27 _ (by omega)]
      exact u4 j hj
  · dsimp only [am_S]
    refine ⟨k5, v1, v2, ?_, fun j hj => ?_⟩
    · rw [e21, z1]
    · rw [e27, z2 j hj, y3 27 _ (by omega), s3 27 _ (by omega), r3 27 _ (by omega), p3 27 _ (by omega)]
      exact v4 j hj
  · dsimp only [am_S]
    rw [am_up_same, z3 20 _ (by omega), y3 20 _ (by omega), s3 20 _ (by omega), r3 20 _ (by omega), p3 20 _ (by omega)]
    exact q8
theorem jj_image : JJ 107 216 [] := by
  intro M hR
  have hRR := hR
  obtain ⟨q1, q2, q3, q4, q5, q6, q7, q8⟩ := hRR
  have h288 : ∀ k, 288 ≤ k → M 33 0 0 k = 0 := by
    obtain ⟨_, _, _, _, _, _, _, _, _, _, _, _, h⟩ := q1
    exact h
  obtain ⟨M1, c1, r1, f1⟩ := c_copyRealm 995 1 0 (M 33 0 0) M (by omega) q1
  have e33 : M1 33 = M 33 := funext fun bb => f1 33 bb (by omega) (by omega)
  have e26 : M1 26 = M 26 := funext fun bb => f1 26 bb (by omega) (by omega)
  have e25 : M1 25 = M 25 := funext fun bb => f1 25 bb (by omega) (by omega)
  obtain ⟨M3, c3, g1, g2⟩ := m_copy 998 0 1 (am_up M1 25 0 0 2 (M1 25 0 0 2 + 1)) (by decide) (by decide) (by decide)
  have k1 : M3 33 1 0 = M 33 0 0 := by
    funext k
    rw [g1 k]
    by_cases hk : k < 288
    · rw [if_pos hk, am_up_r (by decide), e33]
    · rw [if_neg hk, am_up_r (by decide), e33, q8 k (by omega), h288 k (by omega)]
  have k26 : M3 26 0 0 3 = M 26 0 0 3 := by rw [g2 26 0 (by omega), am_up_r (by decide), e26]
  have kk : ∀ r, r ≠ 33 → M3 r = am_up M1 25 0 0 2 (M1 25 0 0 2 + 1) r := fun r hr => funext fun bb => g2 r bb (by omega)
  refine ⟨M 25 0 0 2 + 1, am_up M1 25 0 0 2 (M1 25 0 0 2 + 1), am_up M3 26 0 0 3 (M3 26 0 0 3 + 1), ?_, ?_, ?_, ?_, ?_⟩
  · refine am_cl_in am_c107 rfl ?_
    iterate 5 refine am_wp_step _ rfl ?_
    refine ⟨_, c1, ?_⟩
    iterate 9 refine am_wp_step _ rfl ?_
    refine ⟨trivial, ?_, rfl⟩
    dsimp only [am_S]
    rw [am_up_same, e25]
  · refine am_cl_in am_c216 rfl ?_
    iterate 5 refine am_wp_step _ rfl ?_
    refine ⟨_, c3, ?_⟩
    iterate 9 refine am_wp_step _ rfl ?_
    refine ⟨trivial, ?_, rfl⟩
    dsimp only [am_S]
    rw [am_up_same, k26, ← q3]
  · have er : ∀ r, r ≠ 33 → r ≠ 26 → r ≠ 25 → am_up M3 26 0 0 3 (M3 26 0 0 3 + 1) r = M1 r := fun r h1 h2 h3 => by rw [am_up_r h2, kk r h1, am_up_r h3]
    have e3 : ∀ bb, bb ≠ 1 → am_up M3 26 0 0 3 (M3 26 0 0 3 + 1) 33 bb = M 33 bb := fun bb hb => by rw [am_up_r (by decide), g2 33 bb (by omega), am_up_r (by decide), e33]
    have e31 : am_up M3 26 0 0 3 (M3 26 0 0 3 + 1) 33 1 0 = M 33 0 0 := by rw [am_up_r (by decide)]; exact k1
    unfold RC
    rw [e31, e3 0 (by omega), e3 3 (by omega), e3 8 (by omega), e3 9 (by omega), e3 10 (by omega), e3 11 (by omega)]
    refine ⟨?_, Or.inr ?_, ?_, ?_, ?_, ?_, ?_, h288⟩
    · exact RR_cg (fun r hr => by rw [er r (by omega) (by omega) (by omega), f1 r 0 (by omega) (by omega)]) (fun bb hb => ⟨by rw [er 21 (by omega) (by omega) (by omega), f1 21 bb (by omega) (by omega)], by rw [er 27 (by omega) (by omega) (by omega), f1 27 bb (by omega) (by omega)]⟩) q1
    · exact RR_cg (fun r hr => by rw [er r (by omega) (by omega) (by omega)]) (fun bb hb => ⟨by rw [er 21 (by omega) (by omega) (by omega)], by rw [er 27 (by omega) (by omega) (by omega)]⟩) r1
    · rw [am_up_same, am_up_r (by decide), kk 25 (by omega), am_up_same, e25, k26, q3]
    · unfold RE at *
      rw [er 32 (by omega) (by omega) (by omega), show M1 32 = M 32 from funext fun bb => f1 32 bb (by omega) (by omega)]
      exact q4
    · have e16 : am_up M3 26 0 0 3 (M3 26 0 0 3 + 1) 26 0 0 16 = M 26 0 0 16 := by rw [am_up_s (by decide), g2 26 0 (by omega), am_up_r (by decide), e26]
      rw [e16]
      exact RW_cg (by rw [er 21 (by omega) (by omega) (by omega), f1 21 14 (by omega) (by omega)]) (by rw [er 27 (by omega) (by omega) (by omega), f1 27 14 (by omega) (by omega)]) q5
    · unfold RS at *
      rw [er 22 (by omega) (by omega) (by omega), er 31 (by omega) (by omega) (by omega), show M1 22 = M 22 from funext fun bb => f1 22 bb (by omega) (by omega), show M1 31 = M 31 from funext fun bb => f1 31 bb (by omega) (by omega)]
      exact q6
    · refine TC_cg ?_ q7
      rw [er 24 (by omega) (by omega) (by omega)]
      exact funext fun bb => f1 24 bb (by omega) (by omega)
  · rw [am_up_r (by decide), kk 0 (by omega), am_up_r (by decide)]
    exact funext fun bb => f1 0 bb (by omega) (by omega)
  · rw [am_up_r (by decide)]
    exact funext fun bb => f1 0 bb (by omega) (by omega)
theorem jj_restore : JJ 108 217 [] := by
  intro M hR
  have hRR := hR
  obtain ⟨q1, q2, q3, q4, q5, q6, q7, q8⟩ := hRR
  by_cases h0 : M 26 0 0 3 = 0
  · refine JJ_e (k := 2) (by decide) (by decide) hR ?_ (fun M1 e33 e26 => ?_)
    · refine am_cl_in am_c108 rfl ?_
      iterate 3 refine am_wp_step _ rfl ?_
      refine am_iteF (by show ¬ M 25 0 0 2 ≠ 0; rw [q3, h0]; decide) ?_
      repeat' first | refine am_wp_step _ rfl ?_ | refine am_iteB (fun h => ?_) (fun h => ?_) | refine am_iteN (fun h => ?_) (fun h => ?_) | refine am_ite (fun h => ?_) (fun h => ?_) | refine ⟨_, _, c_err2 _ _, ?_⟩ | fail
      exact ⟨trivial, rfl, rfl⟩
    · refine am_cl_in am_c217 rfl ?_
      iterate 3 refine am_wp_step _ rfl ?_
      refine am_iteF (by show ¬ M1 26 0 0 3 ≠ 0; rw [e26, h0]; decide) ?_
      repeat' first | refine am_wp_step _ rfl ?_ | refine am_iteB (fun h => ?_) (fun h => ?_) | refine am_iteN (fun h => ?_) (fun h => ?_) | refine am_ite (fun h => ?_) (fun h => ?_) | refine ⟨_, _, m_find2 _ _, ?_⟩ | fail
      exact ⟨trivial, rfl, rfl⟩
  · have hk := q2.resolve_left h0
    have h288 : ∀ k, 288 ≤ k → M 33 0 0 k = 0 := by
      obtain ⟨_, _, _, _, _, _, _, _, _, _, _, _, h⟩ := q1
      exact h
    obtain ⟨M1, c1, r1, f1⟩ := c_copyRealm 995 0 1 (M 33 1 0) M (by omega) hk
    have e33 : M1 33 = M 33 := funext fun bb => f1 33 bb (by omega) (by omega)
    have e26 : M1 26 = M 26 := funext fun bb => f1 26 bb (by omega) (by omega)
    have e25 : M1 25 = M 25 := funext fun bb => f1 25 bb (by omega) (by omega)
    have b0 : M1 16 0 0 5 = M 33 1 0 0 := by
      obtain ⟨_, _, _, hB, _⟩ := r1
      exact hB.2.2.1
    obtain ⟨M3, c3, g1, g2⟩ := m_copy 998 1 0 M1 (by decide) (by decide) (by decide)
    have k1 : M3 33 0 0 = M 33 1 0 := by
      funext k
      rw [g1 k]
      by_cases hk : k < 288
      · rw [if_pos hk, e33]
      · rw [if_neg hk, e33, q8 k (by omega), h288 k (by omega)]
    refine JJ_w (v := M 33 1 0 0) (M1 := M1) (M2 := M3) hR ?_ ?_ (fun r bb h1 h2 _ _ _ => f1 r bb (by omega) (by omega)) (kN_B fun r bb h => g2 r bb (by omega)) (by rw [k1]; exact r1)
    · refine am_cl_in am_c108 rfl ?_
      iterate 3 refine am_wp_step _ rfl ?_
      refine am_iteT (by show M 25 0 0 2 ≠ 0; rw [q3]; exact h0) ?_
      iterate 5 refine am_wp_step _ rfl ?_
      refine ⟨_, c1, ?_⟩
      iterate 5 refine am_wp_step _ rfl ?_
      exact ⟨trivial, by rw [← b0], rfl⟩
    · refine am_cl_in am_c217 rfl ?_
      iterate 3 refine am_wp_step _ rfl ?_
      refine am_iteT (by show M1 26 0 0 3 ≠ 0; rw [e26]; exact h0) ?_
      iterate 5 refine am_wp_step _ rfl ?_
      refine ⟨_, c3, ?_⟩
      iterate 4 refine am_wp_step _ rfl ?_
      refine am_andv (by unfold vp_in; decide) ?_
      iterate 1 refine am_wp_step _ rfl ?_
      exact ⟨trivial, by rw [← k1]; rfl, rfl⟩
