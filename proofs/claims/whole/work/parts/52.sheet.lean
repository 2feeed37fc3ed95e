/-! SHEETS -/
theorem JJ_s {M M1 M2 : am_F} {y ym : Nat} {as : List am_V} {v : Int32} (hR : RC M M) (c1 : am_cl am_cds 1000 y (.inr (.inr (25, 0, 0)) :: as) (am_S M) (some (.inl v)) (am_S M1)) (c2 : am_cl am_cds 1000 ym (.inr (.inr (26, 0, 0)) :: as) (am_S M1) (some (.inl v)) (am_S M2)) (f1 : ∀ r, r ≠ 22 → r ≠ 31 → M1 r = M r) (f2 : ∀ r bb, ¬ (r = 33 ∧ (bb = 9 ∨ bb = 10 ∨ bb = 11 ∨ bb = 12)) → M2 r bb = M1 r bb) (h : RS M1 (M2 33 9 0) (M2 33 10 0) (M2 33 11 0)) : ∃ v M1 M2, am_cl am_cds 1000 y (.inr (.inr (25, 0, 0)) :: as) (am_S M) (some (.inl v)) (am_S M1) ∧ am_cl am_cds 1000 ym (.inr (.inr (26, 0, 0)) :: as) (am_S M1) (some (.inl v)) (am_S M2) ∧ RC M2 M2 ∧ M2 0 = M 0 ∧ M1 0 = M 0 := by
  refine JJ_u (N := M2) c1 c2 ?_ (fun r _ h2 => funext fun bb => f2 r bb (by omega)) NQ_rf (f1 0 (by omega) (by omega))
  obtain ⟨q1, q2, q3, q4, q5, q6, q7, q8⟩ := hR
  have e33 : ∀ bb, ¬ (bb = 9 ∨ bb = 10 ∨ bb = 11 ∨ bb = 12) → M2 33 bb = M 33 bb := fun bb hb => by rw [f2 33 bb (by omega), f1 33 (by omega) (by omega)]
  have e26 : M2 26 0 = M 26 0 := by rw [f2 26 0 (by omega), f1 26 (by omega) (by omega)]
  unfold RC
  rw [e33 0 (by omega), e33 1 (by omega), e33 3 (by omega), e33 8 (by omega), e26, f1 25 (by omega) (by omega)]
  refine ⟨RR_cg (fun r hr => by rw [f1 r (by omega) (by omega)]) (fun bb hb => ⟨by rw [f1 21 (by omega) (by omega)], by rw [f1 27 (by omega) (by omega)]⟩) q1, q2.imp id (RR_cg (fun r hr => by rw [f1 r (by omega) (by omega)]) (fun bb hb => ⟨by rw [f1 21 (by omega) (by omega)], by rw [f1 27 (by omega) (by omega)]⟩)), q3, ?_, RW_cg (by rw [f1 21 (by omega) (by omega)]) (by rw [f1 27 (by omega) (by omega)]) q5, h, TC_cg (f1 24 (by omega) (by omega)) q7, q8⟩
  unfold RE at *
  rw [f1 32 (by omega) (by omega)]
  exact q4
theorem c_renew (d i : Nat) (x y : Int32) (M : am_F) : ∃ M', am_cl am_cds (d + 1) 58 [.inr (.inr (22, 0, i)), .inl x, .inl y] (am_S M) none (am_S M') ∧ M' 22 0 i 1 = x ∧ M' 22 0 i 2 = y ∧ (∀ j, j < 40 → M' 31 0 i j = 0) ∧ (∀ k, k ≠ i → M' 22 0 k = M 22 0 k ∧ M' 31 0 k = M 31 0 k) ∧ ∀ r, r ≠ 22 → r ≠ 31 → M' r = M r := by
  refine am_cl_v (fun M' => M' 22 0 i 1 = x ∧ M' 22 0 i 2 = y ∧ (∀ j, j < 40 → M' 31 0 i j = 0) ∧ (∀ k, k ≠ i → M' 22 0 k = M 22 0 k ∧ M' 31 0 k = M 31 0 k) ∧ ∀ r, r ≠ 22 → r ≠ 31 → M' r = M r) am_c58 rfl ?_
  iterate 8 refine am_wp_step _ rfl ?_
  refine am_for1 8 (fun w => [(0, .inr (.inr (22, 0, i))), (1, .inl x), (2, .inl y), (3, .inl w)]) (fun t w M' => w = nI t ∧ M' 22 0 i 1 = x ∧ M' 22 0 i 2 = y ∧ (∀ j, j < t → M' 31 0 i j = 0) ∧ (∀ k, k ≠ i → M' 22 0 k = M 22 0 k ∧ M' 31 0 k = M 31 0 k) ∧ ∀ r, r ≠ 22 → r ≠ 31 → M' r = M r) 40 ?_ ?_ 0 0 _ (Nat.zero_le _) ⟨nI_0.symm, ?_, am_up_same, fun j hj => absurd hj (Nat.not_lt_zero _), fun k hk => ⟨?_, ?_⟩, fun r h1 h2 => ?_⟩
  · intro t w M1 ht hP K
    obtain ⟨rfl, h1, h2, h3, h4, h5⟩ := hP
    iterate 5 refine am_wp_step _ rfl ?_
    refine am_iteF (nI_ge (b := 40) ht (by decide)) ?_
    iterate 5 refine am_wp_step _ rfl ?_
    refine am_ixN (t) (rfl) (show _ < 40 by omega) (show (40 : Nat) < 2 ^ 31 by decide) (fun e => ?_); rw [e]
    iterate 2 refine am_wp_step _ rfl ?_
    refine K _ _ ⟨nI_1 t, ?_, ?_, fun j hj => ?_, fun k hk => ⟨?_, ?_⟩, fun r r1 r2 => ?_⟩
    · dsimp only [am_S]; rw [am_up_r (by decide)]; exact h1
    · dsimp only [am_S]; rw [am_up_r (by decide)]; exact h2
    · dsimp only [am_S]
      by_cases hjt : j = t
      · rw [hjt, am_up_same]
      · rw [am_up_s hjt]; exact h3 j (by omega)
    · dsimp only [am_S]; rw [am_up_r (by decide)]; exact (h4 k hk).1
    · dsimp only [am_S]
      rw [← (h4 k hk).2]
      funext q
      simp [am_up, hk]
    · dsimp only [am_S]; rw [am_up_r r2]; exact h5 r r1 r2
  · intro w M1 hP
    obtain ⟨rfl, h1, h2, h3, h4, h5⟩ := hP
    iterate 5 refine am_wp_step _ rfl ?_
    iterate 1 refine am_wp_step _ rfl ?_
    exact ⟨rfl, M1, rfl, h1, h2, h3, h4, h5⟩
  · dsimp only [am_S]; rw [am_up_s (by decide), am_up_same]
  · dsimp only [am_S]
    funext q
    simp [am_up, hk]
  · dsimp only [am_S]; rw [am_up_r (by decide), am_up_r (by decide)]
  · dsimp only [am_S]; rw [am_up_r h1, am_up_r h1]
theorem jj_sheet (x y z : Int32) : JJ 103 212 [.inl x, .inl y, .inl z] := by
  intro M hR
  have hS := hR.2.2.2.2.2.1
  by_cases hg : (0 ≤ x ∧ x ≤ 3) ∧ (y = 0 ∨ y = 8 ∨ y = 16 ∨ y = 32)
  · by_cases h3 : y ≠ 0 ∧ z < 0
    · refine JJ_e (k := 3) (by decide) (by decide) hR ?_ (fun M1 e33 e26 => ?_)
      · refine am_cl_in am_c103 rfl ?_
        repeat' first | refine am_wp_step _ rfl ?_ | refine am_iteB (fun h => ?_) (fun h => ?_) | refine am_iteN (fun h => ?_) (fun h => ?_) | refine am_ite (fun h => ?_) (fun h => ?_) | refine ⟨_, _, c_isSheet _ _ _, ?_⟩ | refine ⟨_, _, c_err1 _ _, ?_⟩ | refine ⟨_, _, c_err3 _ _, ?_⟩ | fail
        all_goals first | exact ⟨trivial, rfl, rfl⟩ | (exfalso; clear hR hS; grind)
      · refine am_cl_in am_c212 rfl ?_
        repeat' first | refine am_wp_step _ rfl ?_ | refine am_iteB (fun h => ?_) (fun h => ?_) | refine am_iteN (fun h => ?_) (fun h => ?_) | refine am_ite (fun h => ?_) (fun h => ?_) | refine ⟨_, _, m_isSheet _ _ _, ?_⟩ | refine ⟨_, _, m_find1 _ _, ?_⟩ | refine ⟨_, _, m_find3 _ _, ?_⟩ | fail
        all_goals first | exact ⟨trivial, rfl, rfl⟩ | (exfalso; clear hR hS; grind)
    · by_cases h4 : y ≠ 0 ∧ 40 < z
      · refine JJ_e (k := 1) (by decide) (by decide) hR ?_ (fun M1 e33 e26 => ?_)
        · refine am_cl_in am_c103 rfl ?_
          repeat' first | refine am_wp_step _ rfl ?_ | refine am_iteB (fun h => ?_) (fun h => ?_) | refine am_iteN (fun h => ?_) (fun h => ?_) | refine am_ite (fun h => ?_) (fun h => ?_) | refine ⟨_, _, c_isSheet _ _ _, ?_⟩ | refine ⟨_, _, c_err1 _ _, ?_⟩ | refine ⟨_, _, c_err3 _ _, ?_⟩ | fail
          all_goals first | exact ⟨trivial, rfl, rfl⟩ | (exfalso; clear hR hS; grind)
        · refine am_cl_in am_c212 rfl ?_
          repeat' first | refine am_wp_step _ rfl ?_ | refine am_iteB (fun h => ?_) (fun h => ?_) | refine am_iteN (fun h => ?_) (fun h => ?_) | refine am_ite (fun h => ?_) (fun h => ?_) | refine ⟨_, _, m_isSheet _ _ _, ?_⟩ | refine ⟨_, _, m_find1 _ _, ?_⟩ | refine ⟨_, _, m_find3 _ _, ?_⟩ | fail
          all_goals first | exact ⟨trivial, rfl, rfl⟩ | (exfalso; clear hR hS; grind)
      · obtain ⟨i, hi, rfl⟩ := wI_ex (b := 3) hg.1 (by decide)
        have hsz : ∃ s : Nat, s ≤ 40 ∧ (if y = 0 then 0 else z) = nI s := by
          by_cases hy : y = 0
          · exact ⟨0, by omega, if_pos hy⟩
          · obtain ⟨s, hs, rfl⟩ := wI_ex (y := z) (b := 40) ⟨Int32.not_lt.mp fun q => h3 ⟨hy, q⟩, Int32.not_lt.mp fun q => h4 ⟨hy, q⟩⟩ (by decide)
            exact ⟨s, hs, if_neg hy⟩
        obtain ⟨s, hs, hse⟩ := hsz
        obtain ⟨M1, c1, r1, r2, r3, r4, r5⟩ := c_renew 998 i y (if y = 0 then 0 else z) M
        have e33 : M1 33 = M 33 := r5 33 (by omega) (by omega)
        have hmod : ∃ M2, am_cl am_cds 1000 212 [.inr (.inr (26, 0, 0)), .inl (nI i), .inl y, .inl z] (am_S M1) (some (.inl 1)) (am_S M2) ∧ M2 33 9 0 = fu (M 33 9 0) i y ∧ M2 33 10 0 = fu (M 33 10 0) i (if y = 0 then 0 else z) ∧ (∀ j, M2 33 11 0 j = if 40 * i ≤ j ∧ j < 40 * i + 40 then 0 else M 33 11 0 j) ∧ (∀ r bb, ¬ (r = 33 ∧ (bb = 9 ∨ bb = 10 ∨ bb = 11)) → M2 r bb = M1 r bb) := by
          refine am_cl_v (fun M2 => M2 33 9 0 = fu (M 33 9 0) i y ∧ M2 33 10 0 = fu (M 33 10 0) i (if y = 0 then 0 else z) ∧ (∀ j, M2 33 11 0 j = if 40 * i ≤ j ∧ j < 40 * i + 40 then 0 else M 33 11 0 j) ∧ (∀ r bb, ¬ (r = 33 ∧ (bb = 9 ∨ bb = 10 ∨ bb = 11)) → M2 r bb = M1 r bb)) am_c212 rfl ?_
          have loop : ∀ (Mx : am_F), Mx 33 9 0 = fu (M 33 9 0) i y → Mx 33 10 0 = fu (M 33 10 0) i (if y = 0 then 0 else z) → Mx 33 11 0 = M 33 11 0 → (∀ r bb, ¬ (r = 33 ∧ (bb = 9 ∨ bb = 10 ∨ bb = 11)) → Mx r bb = M1 r bb) → am_wp (am_cl am_cds 999) am_c212 (fun w m_1 => w = some (.inl 1) ∧ ∃ M2, m_1 = am_S M2 ∧ M2 33 9 0 = fu (M 33 9 0) i y ∧ M2 33 10 0 = fu (M 33 10 0) i (if y = 0 then 0 else z) ∧ (∀ j, M2 33 11 0 j = if 40 * i ≤ j ∧ j < 40 * i + 40 then 0 else M 33 11 0 j) ∧ (∀ r bb, ¬ (r = 33 ∧ (bb = 9 ∨ bb = 10 ∨ bb = 11)) → M2 r bb = M1 r bb)) 51 [(0, .inr (.inr (26, 0, 0))), (1, .inl (nI i)), (2, .inl y), (3, .inl z), (4, .inl 0)] [] (am_S Mx) := by
            intro Mx g1 g2 g3 g4
            refine am_for1 51 (fun w => [(0, .inr (.inr (26, 0, 0))), (1, .inl (nI i)), (2, .inl y), (3, .inl z), (4, .inl w)]) (fun t w M2 => w = nI t ∧ M2 33 9 0 = fu (M 33 9 0) i y ∧ M2 33 10 0 = fu (M 33 10 0) i (if y = 0 then 0 else z) ∧ (∀ j, M2 33 11 0 j = if 40 * i ≤ j ∧ j < 40 * i + t then 0 else M 33 11 0 j) ∧ (∀ r bb, ¬ (r = 33 ∧ (bb = 9 ∨ bb = 10 ∨ bb = 11)) → M2 r bb = M1 r bb)) 40 ?_ ?_ 0 0 Mx (Nat.zero_le _) ⟨nI_0.symm, g1, g2, fun j => by rw [g3, if_neg (by omega)], g4⟩
            · intro t w M2 ht hP K
              obtain ⟨rfl, g1, g2, g3, g4⟩ := hP
              iterate 3 refine am_wp_step _ rfl ?_
              refine am_iteF (nI_ge (b := 40) ht (by decide)) ?_
              iterate 9 refine am_wp_step _ rfl ?_
              refine am_ixN (40 * i + t) (by simp only [nI_lit, nI_add, nI_mul]) (show _ < 160 by omega) (show (160 : Nat) < 2 ^ 31 by decide) (fun e => ?_); rw [e]
              iterate 2 refine am_wp_step _ rfl ?_
              refine K _ _ ⟨nI_1 t, ?_, ?_, fun j => ?_, fun r bb h => ?_⟩
              · dsimp only [am_S]; rw [am_up_b (by decide)]; exact g1
              · dsimp only [am_S]; rw [am_up_b (by decide)]; exact g2
              · dsimp only [am_S]
                by_cases hj : j = 40 * i + t
                · rw [hj, am_up_same, if_pos (by omega)]
                · rw [am_up_s hj, g3]
                  by_cases hj2 : 40 * i ≤ j ∧ j < 40 * i + t
                  · rw [if_pos hj2, if_pos (by omega)]
                  · rw [if_neg hj2, if_neg (by omega)]
              · dsimp only [am_S]; rw [am_up_rb (by omega)]; exact g4 r bb h
            · intro w M2 hP
              obtain ⟨rfl, g1, g2, g3, g4⟩ := hP
              iterate 3 refine am_wp_step _ rfl ?_
              iterate 2 refine am_wp_step _ rfl ?_
              exact ⟨trivial, rfl, M2, rfl, g1, g2, g3, g4⟩
          have mid : am_wp (am_cl am_cds 999) am_c212 (fun w m_1 => w = some (.inl 1) ∧ ∃ M2, m_1 = am_S M2 ∧ M2 33 9 0 = fu (M 33 9 0) i y ∧ M2 33 10 0 = fu (M 33 10 0) i (if y = 0 then 0 else z) ∧ (∀ j, M2 33 11 0 j = if 40 * i ≤ j ∧ j < 40 * i + 40 then 0 else M 33 11 0 j) ∧ (∀ r bb, ¬ (r = 33 ∧ (bb = 9 ∨ bb = 10 ∨ bb = 11)) → M2 r bb = M1 r bb)) 35 [(0, .inr (.inr (26, 0, 0))), (1, .inl (nI i)), (2, .inl y), (3, .inl z)] [] (am_S M1) := by
            iterate 5 refine am_wp_step _ rfl ?_
            refine am_ixN (i) (rfl) (show _ < 4 by omega) (show (4 : Nat) < 2 ^ 31 by decide) (fun e => ?_); rw [e]
            iterate 5 refine am_wp_step _ rfl ?_
            refine am_ite (fun h => ?_) (fun h => ?_)
            · iterate 2 refine am_wp_step _ rfl ?_
              refine am_ixN (i) (rfl) (show _ < 4 by omega) (show (4 : Nat) < 2 ^ 31 by decide) (fun e => ?_); rw [e]
              iterate 2 refine am_wp_step _ rfl ?_
              refine loop _ ?_ ?_ ?_ ?_
              · dsimp only [am_S]; rw [am_up_b (by decide), am_up_fu, e33]
              · dsimp only [am_S]; rw [am_up_fu, am_up_b (by decide), e33, if_neg h]
              · dsimp only [am_S]; rw [am_up_b (by decide), am_up_b (by decide), e33]
              · intro r bb h; dsimp only [am_S]; rw [am_up_rb (by omega), am_up_rb (by omega)]
            · iterate 3 refine am_wp_step _ rfl ?_
              refine am_ixN (i) (rfl) (show _ < 4 by omega) (show (4 : Nat) < 2 ^ 31 by decide) (fun e => ?_); rw [e]
              iterate 2 refine am_wp_step _ rfl ?_
              refine loop _ ?_ ?_ ?_ ?_
              · dsimp only [am_S]; rw [am_up_b (by decide), am_up_fu, e33]
              · dsimp only [am_S]; rw [am_up_fu, am_up_b (by decide), e33, if_pos (Decidable.not_not.mp h)]
              · dsimp only [am_S]; rw [am_up_b (by decide), am_up_b (by decide), e33]
              · intro r bb h; dsimp only [am_S]; rw [am_up_rb (by omega), am_up_rb (by omega)]
          iterate 2 refine am_wp_step _ rfl ?_
          refine ⟨_, _, cl_t hg.1 (m_isSheet _ _ _), ?_⟩
          have m26 : y = 0 ∨ z ≤ 40 → am_wp (am_cl am_cds 999) am_c212 (fun w m_1 => w = some (.inl 1) ∧ ∃ M2, m_1 = am_S M2 ∧ M2 33 9 0 = fu (M 33 9 0) i y ∧ M2 33 10 0 = fu (M 33 10 0) i (if y = 0 then 0 else z) ∧ (∀ j, M2 33 11 0 j = if 40 * i ≤ j ∧ j < 40 * i + 40 then 0 else M 33 11 0 j) ∧ (∀ r bb, ¬ (r = 33 ∧ (bb = 9 ∨ bb = 10 ∨ bb = 11)) → M2 r bb = M1 r bb)) 18 [(0, .inr (.inr (26, 0, 0))), (1, .inl (nI i)), (2, .inl y), (3, .inl z)] [] (am_S M1) := by
            intro hyz
            iterate 2 refine am_wp_step _ rfl ?_
            refine am_ite (fun h => ?_) (fun h => ?_)
            · iterate 2 refine am_wp_step _ rfl ?_
              refine am_iteT h ?_
              exact mid
            · iterate 2 refine am_wp_step _ rfl ?_
              refine am_iteT (Int32.not_lt.mp fun q => h3 ⟨h, q⟩) ?_
              iterate 2 refine am_wp_step _ rfl ?_
              refine am_iteF h ?_
              iterate 3 refine am_wp_step _ rfl ?_
              refine am_iteT (Int32.not_lt.mp fun q => h4 ⟨h, q⟩) ?_
              exact mid
          have hyz : y = 0 ∨ z ≤ 40 := by
            by_cases hy : y = 0
            · exact Or.inl hy
            · exact Or.inr (Int32.not_lt.mp fun q => h4 ⟨hy, q⟩)
          have m26 := m26 hyz
          iterate 3 refine am_wp_step _ rfl ?_
          refine am_ite (fun h => ?_) (fun h => ?_)
          · exact m26
          · iterate 3 refine am_wp_step _ rfl ?_
            refine am_ite (fun h => ?_) (fun h => ?_)
            · exact m26
            · iterate 3 refine am_wp_step _ rfl ?_
              refine am_ite (fun h => ?_) (fun h => ?_)
              · exact m26
              · iterate 3 refine am_wp_step _ rfl ?_
                refine am_iteT (by have := hg.2; grind) ?_
                exact m26
        obtain ⟨M2, c2, g1, g2, g3, g4⟩ := hmod
        refine JJ_s (v := 1) (M1 := M1) (M2 := M2) hR ?_ c2 r5 (fun r bb h => g4 r bb (by omega)) ?_
        · refine am_cl_in am_c103 rfl ?_
          have mid : am_wp (am_cl am_cds 999) am_c103 (fun w m => w = some (.inl 1) ∧ m = am_S M1) 35 [(0, .inr (.inr (25, 0, 0))), (1, .inl (nI i)), (2, .inl y), (3, .inl z)] [] (am_S M) := by
            iterate 4 refine am_wp_step _ rfl ?_
            refine am_ixN (i) (rfl) (show _ < 4 by omega) (show (4 : Nat) < 2 ^ 31 by decide) (fun e => ?_); rw [e]
            iterate 3 refine am_wp_step _ rfl ?_
            refine am_ite (fun h => ?_) (fun h => ?_)
            · rw [if_neg h] at c1
              iterate 2 refine am_wp_step _ rfl ?_
              refine ⟨_, c1, ?_⟩
              iterate 2 refine am_wp_step _ rfl ?_
              exact ⟨trivial, rfl, rfl⟩
            · rw [if_pos (Decidable.not_not.mp h)] at c1
              iterate 3 refine am_wp_step _ rfl ?_
              refine ⟨_, c1, ?_⟩
              iterate 2 refine am_wp_step _ rfl ?_
              exact ⟨trivial, rfl, rfl⟩
          have m26 : am_wp (am_cl am_cds 999) am_c103 (fun w m => w = some (.inl 1) ∧ m = am_S M1) 18 [(0, .inr (.inr (25, 0, 0))), (1, .inl (nI i)), (2, .inl y), (3, .inl z)] [] (am_S M) := by
            iterate 2 refine am_wp_step _ rfl ?_
            refine am_ite (fun h => ?_) (fun h => ?_)
            · iterate 2 refine am_wp_step _ rfl ?_
              refine am_iteT h ?_
              exact mid
            · iterate 2 refine am_wp_step _ rfl ?_
              refine am_iteT (Int32.not_lt.mp fun q => h3 ⟨h, q⟩) ?_
              iterate 2 refine am_wp_step _ rfl ?_
              refine am_iteF h ?_
              iterate 3 refine am_wp_step _ rfl ?_
              refine am_iteT (Int32.not_lt.mp fun q => h4 ⟨h, q⟩) ?_
              exact mid
          iterate 2 refine am_wp_step _ rfl ?_
          refine ⟨_, _, cl_t hg.1 (c_isSheet _ _ _), ?_⟩
          iterate 3 refine am_wp_step _ rfl ?_
          refine am_ite (fun h => ?_) (fun h => ?_)
          · exact m26
          · iterate 3 refine am_wp_step _ rfl ?_
            refine am_ite (fun h => ?_) (fun h => ?_)
            · exact m26
            · iterate 3 refine am_wp_step _ rfl ?_
              refine am_ite (fun h => ?_) (fun h => ?_)
              · exact m26
              · iterate 3 refine am_wp_step _ rfl ?_
                refine am_iteT (by have := hg.2; grind) ?_
                exact m26
        · intro k hk
          rw [g1, g2]
          by_cases hki : k = i
          · subst hki
            refine ⟨by rw [r1, fu_at], by rw [r2, fu_at], ⟨s, hs, by rw [fu_at]; exact hse⟩, by rw [fu_at]; exact hg.2, fun j hj => ?_⟩
            rw [r3 j hj, g3, if_pos (by omega)]
          · obtain ⟨q1, q2, q3, q4, q5⟩ := hS k hk
            rw [fu_ne hki, fu_ne hki, (r4 k hki).1, (r4 k hki).2]
            refine ⟨q1, q2, q3, q4, fun j hj => ?_⟩
            rw [g3, if_neg (by omega)]
            exact q5 j hj
  · refine JJ_e (k := 1) (by decide) (by decide) hR ?_ (fun M1 e33 e26 => ?_)
    · refine am_cl_in am_c103 rfl ?_
      repeat' first | refine am_wp_step _ rfl ?_ | refine am_iteB (fun h => ?_) (fun h => ?_) | refine am_iteN (fun h => ?_) (fun h => ?_) | refine am_ite (fun h => ?_) (fun h => ?_) | refine ⟨_, _, c_isSheet _ _ _, ?_⟩ | refine ⟨_, _, c_err1 _ _, ?_⟩ | refine ⟨_, _, c_err3 _ _, ?_⟩ | fail
      all_goals first | exact ⟨trivial, rfl, rfl⟩ | (exfalso; clear hR hS; grind)
    · refine am_cl_in am_c212 rfl ?_
      repeat' first | refine am_wp_step _ rfl ?_ | refine am_iteB (fun h => ?_) (fun h => ?_) | refine am_iteN (fun h => ?_) (fun h => ?_) | refine am_ite (fun h => ?_) (fun h => ?_) | refine ⟨_, _, m_isSheet _ _ _, ?_⟩ | refine ⟨_, _, m_find1 _ _, ?_⟩ | refine ⟨_, _, m_find3 _ _, ?_⟩ | fail
      all_goals first | exact ⟨trivial, rfl, rfl⟩ | (exfalso; clear hR hS; grind)
