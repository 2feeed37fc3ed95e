/-! MOVE, DISHES, FEED -/
theorem c_hasStretch (d i : Nat) (x y s : Int32) (M : am_F) (hs : M 22 0 i 2 = s) : am_cl am_cds (d + 1) 60 [.inr (.inr (22, 0, i)), .inl x, .inl y] (am_S M) (some (.inl (bI (0 ≤ y ∧ 0 ≤ x ∧ x ≤ s - y)))) (am_S M) := by
  subst hs
  refine am_cl_in am_c60 rfl ?_
  iterate 2 refine am_wp_step _ rfl ?_
  refine am_ite (fun h => ?_) (fun h => ?_)
  · iterate 2 refine am_wp_step _ rfl ?_
    exact ⟨Or.inl rfl, by rw [bI_f (fun q => absurd h (Int32.not_lt.mpr q.1))], rfl⟩
  · iterate 2 refine am_wp_step _ rfl ?_
    refine am_ite (fun h2 => ?_) (fun h2 => ?_)
    · iterate 2 refine am_wp_step _ rfl ?_
      exact ⟨Or.inl rfl, by rw [bI_f (fun q => absurd h2 (Int32.not_lt.mpr q.2.1))], rfl⟩
    · iterate 6 refine am_wp_step _ rfl ?_
      refine am_ite (fun h3 => ?_) (fun h3 => ?_)
      · iterate 2 refine am_wp_step _ rfl ?_
        exact ⟨Or.inl rfl, by rw [bI_f (fun q => absurd h3 (Int32.not_lt.mpr q.2.2))], rfl⟩
      · iterate 3 refine am_wp_step _ rfl ?_
        exact ⟨Or.inr rfl, by rw [bI_t ⟨Int32.not_lt.mp h, Int32.not_lt.mp h2, Int32.not_lt.mp h3⟩], rfl⟩
theorem str_ex {x y : Int32} {s : Nat} (hs : s ≤ 40) (h : 0 ≤ y ∧ 0 ≤ x ∧ x ≤ nI s - y) : ∃ p k, p + k ≤ s ∧ x = nI p ∧ y = nI k := by
  obtain ⟨h1, h2, h3⟩ := h
  have a1 : 0 ≤ nI s := nI_pos' (by omega)
  have a2 : nI s ≤ 40 := nI_le (b := 40) hs (by decide)
  have h4 : y ≤ nI s := by generalize nI s = w at *; lia
  obtain ⟨k, hk, rfl⟩ := wI_ex (b := s) ⟨h1, h4⟩ (by omega)
  rw [pk_sub hk] at h3
  obtain ⟨p, hp, rfl⟩ := wI_ex (b := s - k) ⟨h2, h3⟩ (by omega)
  exact ⟨p, k, by omega, rfl, rfl⟩
theorem str_of {p k s : Nat} (hs : s ≤ 40) (h : p + k ≤ s) : 0 ≤ nI k ∧ 0 ≤ nI p ∧ nI p ≤ nI s - nI k := by
  refine ⟨nI_pos' (by omega), nI_pos' (by omega), ?_⟩
  rw [pk_sub (by omega)]
  exact nI_le (by omega) (by omega)
theorem str_l {p k s : Nat} (hp : p < 2 ^ 31) (hk : k < 2 ^ 31) (hs : s ≤ 40) : (0 < lg_cmp ((nI p).toInt64 + (nI k).toInt64) (nI s).toInt64) ↔ s < p + k := by
  rw [lg_cmp_gt, nI_l hp, nI_l hk, nI_l (by omega), lN_add, Int64.lt_iff_toInt_lt, pk_lT (by omega), pk_lT (by omega)]
  omega
theorem jj_move (x y z u w : Int32) : JJ 105 214 [.inl x, .inl y, .inl z, .inl u, .inl w] := by
  intro M hR
  have hS := hR.2.2.2.2.2.1
  by_cases hg : (0 ≤ x ∧ x ≤ 3) ∧ 0 ≤ z ∧ z ≤ 3
  · obtain ⟨i, hi, rfl⟩ := wI_ex (b := 3) hg.1 (by decide)
    obtain ⟨j, hj, rfl⟩ := wI_ex (b := 3) hg.2 (by decide)
    obtain ⟨q1, q2, ⟨s, hs, q3⟩, q4, q5⟩ := hS i (by omega)
    obtain ⟨r1, r2, ⟨s2, hs2, r3⟩, r4, r5⟩ := hS j (by omega)
    have q2' : M 22 0 i 2 = nI s := q2.trans q3
    have r2' : M 22 0 j 2 = nI s2 := r2.trans r3
    by_cases h0 : M 33 9 0 i = 0 ∨ M 33 9 0 j = 0
    · refine JJ_e (k := 2) (by decide) (by decide) hR ?_ (fun M1 e33 e26 => ?_)
      · refine am_cl_in am_c105 rfl ?_
        iterate 2 refine am_wp_step _ rfl ?_
        refine ⟨_, _, cl_t hg.1 (c_isSheet _ _ _), ?_⟩
        iterate 3 refine am_wp_step _ rfl ?_
        refine ⟨_, _, cl_t hg.2 (c_isSheet _ _ _), ?_⟩
        iterate 5 refine am_wp_step _ rfl ?_
        refine am_ixN (i) (rfl) (show _ < 4 by omega) (show (4 : Nat) < 2 ^ 31 by decide) (fun e => ?_); rw [e]
        iterate 5 refine am_wp_step _ rfl ?_
        refine am_ixN (j) (rfl) (show _ < 4 by omega) (show (4 : Nat) < 2 ^ 31 by decide) (fun e => ?_); rw [e]
        iterate 3 refine am_wp_step _ rfl ?_
        by_cases h1 : M 22 0 i 1 = 0
        · refine ⟨_, _, cl_t h1 (c_isMissing _ i M), ?_⟩
          repeat' first | refine am_wp_step _ rfl ?_ | refine am_iteB (fun h => ?_) (fun h => ?_) | refine am_iteN (fun h => ?_) (fun h => ?_) | refine am_ite (fun h => ?_) (fun h => ?_) | refine ⟨_, _, c_err2 _ _, ?_⟩ | fail
          exact ⟨trivial, rfl, rfl⟩
        · refine ⟨_, _, cl_f h1 (c_isMissing _ i M), ?_⟩
          have h2 : M 22 0 j 1 = 0 := by rw [r1]; exact h0.resolve_left (by rw [← q1]; exact h1)
          iterate 3 refine am_wp_step _ rfl ?_
          refine ⟨_, _, cl_t h2 (c_isMissing _ j M), ?_⟩
          repeat' first | refine am_wp_step _ rfl ?_ | refine am_iteB (fun h => ?_) (fun h => ?_) | refine am_iteN (fun h => ?_) (fun h => ?_) | refine am_ite (fun h => ?_) (fun h => ?_) | refine ⟨_, _, c_err2 _ _, ?_⟩ | fail
          exact ⟨trivial, rfl, rfl⟩
      · refine am_cl_in am_c214 rfl ?_
        iterate 2 refine am_wp_step _ rfl ?_
        refine ⟨_, _, cl_t hg.1 (m_isSheet _ _ _), ?_⟩
        iterate 3 refine am_wp_step _ rfl ?_
        refine ⟨_, _, cl_t hg.2 (m_isSheet _ _ _), ?_⟩
        iterate 5 refine am_wp_step _ rfl ?_
        refine am_ixN (i) (rfl) (show _ < 4 by omega) (show (4 : Nat) < 2 ^ 31 by decide) (fun e => ?_); rw [e]
        iterate 1 refine am_wp_step _ rfl ?_
        by_cases h1 : M1 33 9 0 i = 0
        · refine am_iteT h1 ?_
          repeat' first | refine am_wp_step _ rfl ?_ | refine am_iteB (fun h => ?_) (fun h => ?_) | refine am_iteN (fun h => ?_) (fun h => ?_) | refine am_ite (fun h => ?_) (fun h => ?_) | refine ⟨_, _, m_find2 _ _, ?_⟩ | fail
          exact ⟨trivial, rfl, rfl⟩
        · refine am_iteF h1 ?_
          iterate 4 refine am_wp_step _ rfl ?_
          refine am_ixN (j) (rfl) (show _ < 4 by omega) (show (4 : Nat) < 2 ^ 31 by decide) (fun e => ?_); rw [e]
          iterate 1 refine am_wp_step _ rfl ?_
          refine am_iteF (by show ¬ M1 33 9 0 j ≠ 0; rw [e33] at h1 ⊢; exact not_not_intro (h0.resolve_left h1)) ?_
          repeat' first | refine am_wp_step _ rfl ?_ | refine am_iteB (fun h => ?_) (fun h => ?_) | refine am_iteN (fun h => ?_) (fun h => ?_) | refine am_ite (fun h => ?_) (fun h => ?_) | refine ⟨_, _, m_find2 _ _, ?_⟩ | fail
          exact ⟨trivial, rfl, rfl⟩
    · have n1 : ¬ M 22 0 i 1 = 0 := fun q => h0 (Or.inl (q1 ▸ q))
      have n2 : ¬ M 22 0 j 1 = 0 := fun q => h0 (Or.inr (r1 ▸ q))
      have n3 : M 33 9 0 i ≠ 0 := fun q => h0 (Or.inl q)
      have n4 : M 33 9 0 j ≠ 0 := fun q => h0 (Or.inr q)
      by_cases hk : M 33 9 0 i = M 33 9 0 j
      · by_cases hc : (0 ≤ w ∧ 0 ≤ y ∧ y ≤ nI s - w) ∧ (0 ≤ w ∧ 0 ≤ u ∧ u ≤ nI s2 - w)
        · obtain ⟨p, k, hpk, rfl, rfl⟩ := str_ex hs hc.1
          obtain ⟨q, k2, hqk, rfl, hkk⟩ := str_ex hs2 hc.2
          have hk2 : k = k2 := (nI_eq (by omega) (by omega)).mp hkk
          subst hk2
          have hcp : ∀ t, am_cpy M 31 0 i 31 0 j p q k 31 0 t = if t = j then va_cpy (M 31 0 i) (M 31 0 j) p q k else M 31 0 t := by
            intro t
            funext v
            unfold am_cpy
            by_cases ht : t = j
            · rw [if_pos ⟨rfl, rfl, ht⟩, if_pos ht]
            · rw [if_neg (fun r => ht r.2.2), if_neg ht]
          have hcr : ∀ r, r ≠ 31 → am_cpy M 31 0 i 31 0 j p q k r = M r := by
            intro r hr
            funext b t v
            unfold am_cpy
            rw [if_neg (fun r => hr r.1)]
          have hcl : am_cl am_cds 1000 105 [.inr (.inr (25, 0, 0)), .inl (nI i), .inl (nI p), .inl (nI j), .inl (nI q), .inl (nI k)] (am_S M) (some (.inl (nI k))) (am_S (am_cpy M 31 0 i 31 0 j p q k)) := by
            refine am_cl_in am_c105 rfl ?_
            iterate 2 refine am_wp_step _ rfl ?_
            refine ⟨_, _, cl_t hg.1 (c_isSheet _ _ _), ?_⟩
            iterate 3 refine am_wp_step _ rfl ?_
            refine ⟨_, _, cl_t hg.2 (c_isSheet _ _ _), ?_⟩
            iterate 5 refine am_wp_step _ rfl ?_
            refine am_ixN (i) (rfl) (show _ < 4 by omega) (show (4 : Nat) < 2 ^ 31 by decide) (fun e => ?_); rw [e]
            iterate 5 refine am_wp_step _ rfl ?_
            refine am_ixN (j) (rfl) (show _ < 4 by omega) (show (4 : Nat) < 2 ^ 31 by decide) (fun e => ?_); rw [e]
            iterate 3 refine am_wp_step _ rfl ?_
            refine ⟨_, _, cl_f n1 (c_isMissing _ i M), ?_⟩
            iterate 3 refine am_wp_step _ rfl ?_
            refine ⟨_, _, cl_f n2 (c_isMissing _ j M), ?_⟩
            iterate 6 refine am_wp_step _ rfl ?_
            refine am_iteT (by show M 22 0 i 1 = M 22 0 j 1; rw [q1, r1]; exact hk) ?_
            iterate 4 refine am_wp_step _ rfl ?_
            refine ⟨_, _, cl_t hc.1 (c_hasStretch _ i _ _ _ M q2'), ?_⟩
            iterate 5 refine am_wp_step _ rfl ?_
            refine ⟨_, _, cl_t hc.2 (c_hasStretch _ j _ _ _ M r2'), ?_⟩
            iterate 9 refine am_wp_step _ rfl ?_
            have ep : (nI p).toNatClampNeg = p := nI_clamp (by omega)
            have eq : (nI q).toNatClampNeg = q := nI_clamp (by omega)
            have ek : (nI k).toNatClampNeg = k := nI_clamp (by omega)
            refine ⟨nI_pos (by omega), nI_pos (by omega), nI_pos (by omega), by rw [ep, ek]; show p + k ≤ 40; omega, by rw [eq, ek]; show q + k ≤ 40; omega, ?_⟩
            rw [ep, eq, ek]
            iterate 2 refine am_wp_step _ rfl ?_
            exact ⟨trivial, rfl, rfl⟩
          generalize hX : am_cpy M 31 0 i 31 0 j p q k = M1 at hcl hcp hcr
          have e33 : M1 33 = M 33 := hcr 33 (by omega)
          have hmod : ∃ M2, am_cl am_cds 1000 214 [.inr (.inr (26, 0, 0)), .inl (nI i), .inl (nI p), .inl (nI j), .inl (nI q), .inl (nI k)] (am_S M1) (some (.inl (nI k))) (am_S M2) ∧ (∀ t, M2 33 11 0 t = if 40 * j + q ≤ t ∧ t < 40 * j + q + k then M 33 11 0 (40 * i + p + (t - (40 * j + q))) else M 33 11 0 t) ∧ (∀ r bb, ¬ (r = 33 ∧ (bb = 11 ∨ bb = 12)) → M2 r bb = M1 r bb) := by
            refine am_cl_v (fun M2 => (∀ t, M2 33 11 0 t = if 40 * j + q ≤ t ∧ t < 40 * j + q + k then M 33 11 0 (40 * i + p + (t - (40 * j + q))) else M 33 11 0 t) ∧ (∀ r bb, ¬ (r = 33 ∧ (bb = 11 ∨ bb = 12)) → M2 r bb = M1 r bb)) am_c214 rfl ?_
            iterate 2 refine am_wp_step _ rfl ?_
            refine ⟨_, _, cl_t hg.1 (m_isSheet _ _ _), ?_⟩
            iterate 3 refine am_wp_step _ rfl ?_
            refine ⟨_, _, cl_t hg.2 (m_isSheet _ _ _), ?_⟩
            iterate 5 refine am_wp_step _ rfl ?_
            refine am_ixN (i) (rfl) (show _ < 4 by omega) (show (4 : Nat) < 2 ^ 31 by decide) (fun e => ?_); rw [e]
            iterate 1 refine am_wp_step _ rfl ?_
            refine am_iteF (by show ¬ M1 33 9 0 i = 0; rw [e33]; exact n3) ?_
            iterate 4 refine am_wp_step _ rfl ?_
            refine am_ixN (j) (rfl) (show _ < 4 by omega) (show (4 : Nat) < 2 ^ 31 by decide) (fun e => ?_); rw [e]
            iterate 1 refine am_wp_step _ rfl ?_
            refine am_iteT (by show M1 33 9 0 j ≠ 0; rw [e33]; exact n4) ?_
            iterate 4 refine am_wp_step _ rfl ?_
            refine am_ixN (i) (rfl) (show _ < 4 by omega) (show (4 : Nat) < 2 ^ 31 by decide) (fun e => ?_); rw [e]
            iterate 4 refine am_wp_step _ rfl ?_
            refine am_ixN (j) (rfl) (show _ < 4 by omega) (show (4 : Nat) < 2 ^ 31 by decide) (fun e => ?_); rw [e]
            iterate 1 refine am_wp_step _ rfl ?_
            refine am_iteT (by show M1 33 9 0 i = M1 33 9 0 j; rw [e33]; exact hk) ?_
            iterate 2 refine am_wp_step _ rfl ?_
            refine am_iteF (nI_pos (by omega)) ?_
            iterate 2 refine am_wp_step _ rfl ?_
            refine am_iteF (nI_pos (by omega)) ?_
            iterate 2 refine am_wp_step _ rfl ?_
            refine am_iteF (nI_pos (by omega)) ?_
            iterate 9 refine am_wp_step _ rfl ?_
            refine am_ixN (i) (rfl) (show _ < 4 by omega) (show (4 : Nat) < 2 ^ 31 by decide) (fun e => ?_); rw [e]
            rw [show (am_S M1).2.2 33 10 0 i = nI s from by show M1 33 10 0 i = nI s; rw [e33]; exact q3]
            iterate 3 refine am_wp_step _ rfl ?_
            refine am_iteF (by rw [str_l (by omega) (by omega) hs]; omega) ?_
            iterate 9 refine am_wp_step _ rfl ?_
            refine am_ixN (j) (rfl) (show _ < 4 by omega) (show (4 : Nat) < 2 ^ 31 by decide) (fun e => ?_); rw [e]
            rw [show (am_S M1).2.2 33 10 0 j = nI s2 from by show M1 33 10 0 j = nI s2; rw [e33]; exact r3]
            iterate 3 refine am_wp_step _ rfl ?_
            refine am_iteT (by rw [← Int32.not_lt, str_l (by omega) (by omega) hs2]; omega) ?_
            iterate 2 refine am_wp_step _ rfl ?_
            refine am_for1 73 (fun v => [(0, .inr (.inr (26, 0, 0))), (1, .inl (nI i)), (2, .inl (nI p)), (3, .inl (nI j)), (4, .inl (nI q)), (5, .inl (nI k)), (6, .inl v)]) (fun t v M2 => v = nI t ∧ (∀ c, c < t → M2 33 12 0 c = M 33 11 0 (40 * i + p + c)) ∧ (∀ r bb, ¬ (r = 33 ∧ bb = 12) → M2 r bb = M1 r bb)) k ?_ ?_ 0 0 M1 (Nat.zero_le _) ⟨nI_0.symm, fun c hc => absurd hc (Nat.not_lt_zero _), fun _ _ _ => rfl⟩
            · intro t v M2 ht hP K
              obtain ⟨rfl, g1, g2⟩ := hP
              iterate 3 refine am_wp_step _ rfl ?_
              refine am_iteF (nI_ge ht (by omega)) ?_
              iterate 13 refine am_wp_step _ rfl ?_
              refine am_ixN (40 * i + p + t) (by simp only [nI_lit, nI_add, nI_mul]) (show _ < 160 by omega) (show (160 : Nat) < 2 ^ 31 by decide) (fun e => ?_); rw [e]
              iterate 1 refine am_wp_step _ rfl ?_
              refine am_ixN (t) (rfl) (show _ < 40 by omega) (show (40 : Nat) < 2 ^ 31 by decide) (fun e => ?_); rw [e]
              iterate 2 refine am_wp_step _ rfl ?_
              refine K _ _ ⟨nI_1 t, fun c hc => ?_, fun r bb h => ?_⟩
              · dsimp only [am_S]
                by_cases hct : c = t
                · rw [hct, am_up_same, g2 33 11 (by omega), e33]
                · rw [am_up_s hct]; exact g1 c (by omega)
              · dsimp only [am_S]
                rw [am_up_rb (by omega)]; exact g2 r bb h
            · intro v M2 hP
              obtain ⟨rfl, g1, g2⟩ := hP
              iterate 3 refine am_wp_step _ rfl ?_
              refine am_iteT (nI_le (Nat.le_refl _) (by omega)) ?_
              iterate 2 refine am_wp_step _ rfl ?_
              refine am_for1 94 (fun v => [(0, .inr (.inr (26, 0, 0))), (1, .inl (nI i)), (2, .inl (nI p)), (3, .inl (nI j)), (4, .inl (nI q)), (5, .inl (nI k)), (6, .inl v)]) (fun t v M3 => v = nI t ∧ (∀ c, M3 33 11 0 c = if 40 * j + q ≤ c ∧ c < 40 * j + q + t then M 33 11 0 (40 * i + p + (c - (40 * j + q))) else M 33 11 0 c) ∧ (∀ r bb, ¬ (r = 33 ∧ bb = 11) → M3 r bb = M2 r bb)) k ?_ ?_ 0 0 M2 (Nat.zero_le _) ⟨nI_0.symm, fun c => by rw [if_neg (by omega), g2 33 11 (by omega), e33], fun _ _ _ => rfl⟩
              · intro t v M3 ht hP K
                obtain ⟨rfl, g3, g4⟩ := hP
                iterate 3 refine am_wp_step _ rfl ?_
                refine am_iteF (nI_ge ht (by omega)) ?_
                iterate 13 refine am_wp_step _ rfl ?_
                refine am_ixN (t) (rfl) (show _ < 40 by omega) (show (40 : Nat) < 2 ^ 31 by decide) (fun e => ?_); rw [e]
                iterate 1 refine am_wp_step _ rfl ?_
                refine am_ixN (40 * j + q + t) (by simp only [nI_lit, nI_add, nI_mul]) (show _ < 160 by omega) (show (160 : Nat) < 2 ^ 31 by decide) (fun e => ?_); rw [e]
                iterate 2 refine am_wp_step _ rfl ?_
                refine K _ _ ⟨nI_1 t, fun c => ?_, fun r bb h => ?_⟩
                · dsimp only [am_S]
                  by_cases hct : c = 40 * j + q + t
                  · rw [hct, am_up_same, g4 33 12 (by omega), g1 t ht, if_pos (by omega), show 40 * j + q + t - (40 * j + q) = t by omega]
                  · rw [am_up_s hct, g3]
                    by_cases hc2 : 40 * j + q ≤ c ∧ c < 40 * j + q + t
                    · rw [if_pos hc2, if_pos (by omega)]
                    · rw [if_neg hc2, if_neg (by omega)]
                · dsimp only [am_S]
                  rw [am_up_rb (by omega)]; exact g4 r bb h
              · intro v M3 hP
                obtain ⟨rfl, g3, g4⟩ := hP
                iterate 3 refine am_wp_step _ rfl ?_
                refine am_iteT (nI_le (Nat.le_refl _) (by omega)) ?_
                iterate 2 refine am_wp_step _ rfl ?_
                exact ⟨trivial, rfl, M3, rfl, g3, fun r bb h => by rw [g4 r bb (by omega), g2 r bb (by omega)]⟩
          obtain ⟨M2, c2, g1, g2⟩ := hmod
          refine JJ_s (v := nI k) hR hcl c2 (fun r _ r2 => hcr r r2) (fun r bb h => g2 r bb (by omega)) ?_
          intro t ht
          obtain ⟨p1, p2, p3, p4, p5⟩ := hS t ht
          rw [hcr 22 (by omega), g2 33 9 (by omega), g2 33 10 (by omega), e33]
          refine ⟨p1, p2, p3, p4, fun v hv => ?_⟩
          rw [hcp, g1]
          by_cases htj : t = j
          · subst htj
            rw [if_pos rfl]
            unfold va_cpy
            by_cases hv2 : q ≤ v ∧ v < q + k
            · rw [if_pos hv2, if_pos (by omega), q5 _ (by omega)]
              congr 1
              omega
            · rw [if_neg hv2, if_neg (by omega), p5 v hv]
          · rw [if_neg htj, if_neg (by omega), p5 v hv]
        · refine JJ_e (k := 1) (by decide) (by decide) hR ?_ (fun M1 e33 e26 => ?_)
          · refine am_cl_in am_c105 rfl ?_
            iterate 2 refine am_wp_step _ rfl ?_
            refine ⟨_, _, cl_t hg.1 (c_isSheet _ _ _), ?_⟩
            iterate 3 refine am_wp_step _ rfl ?_
            refine ⟨_, _, cl_t hg.2 (c_isSheet _ _ _), ?_⟩
            iterate 5 refine am_wp_step _ rfl ?_
            refine am_ixN (i) (rfl) (show _ < 4 by omega) (show (4 : Nat) < 2 ^ 31 by decide) (fun e => ?_); rw [e]
            iterate 5 refine am_wp_step _ rfl ?_
            refine am_ixN (j) (rfl) (show _ < 4 by omega) (show (4 : Nat) < 2 ^ 31 by decide) (fun e => ?_); rw [e]
            iterate 3 refine am_wp_step _ rfl ?_
            refine ⟨_, _, cl_f n1 (c_isMissing _ i M), ?_⟩
            iterate 3 refine am_wp_step _ rfl ?_
            refine ⟨_, _, cl_f n2 (c_isMissing _ j M), ?_⟩
            iterate 6 refine am_wp_step _ rfl ?_
            refine am_iteT (by show M 22 0 i 1 = M 22 0 j 1; rw [q1, r1]; exact hk) ?_
            iterate 4 refine am_wp_step _ rfl ?_
            by_cases hc1 : 0 ≤ w ∧ 0 ≤ y ∧ y ≤ nI s - w
            · refine ⟨_, _, cl_t hc1 (c_hasStretch _ i _ _ _ M q2'), ?_⟩
              iterate 5 refine am_wp_step _ rfl ?_
              refine ⟨_, _, cl_f (fun q => hc ⟨hc1, q⟩) (c_hasStretch _ j _ _ _ M r2'), ?_⟩
              repeat' first | refine am_wp_step _ rfl ?_ | refine am_iteB (fun h => ?_) (fun h => ?_) | refine am_iteN (fun h => ?_) (fun h => ?_) | refine am_ite (fun h => ?_) (fun h => ?_) | refine ⟨_, _, c_err1 _ _, ?_⟩ | fail
              exact ⟨trivial, rfl, rfl⟩
            · refine ⟨_, _, cl_f hc1 (c_hasStretch _ i _ _ _ M q2'), ?_⟩
              repeat' first | refine am_wp_step _ rfl ?_ | refine am_iteB (fun h => ?_) (fun h => ?_) | refine am_iteN (fun h => ?_) (fun h => ?_) | refine am_ite (fun h => ?_) (fun h => ?_) | refine ⟨_, _, c_err1 _ _, ?_⟩ | fail
              exact ⟨trivial, rfl, rfl⟩
          · refine am_cl_in am_c214 rfl ?_
            iterate 2 refine am_wp_step _ rfl ?_
            refine ⟨_, _, cl_t hg.1 (m_isSheet _ _ _), ?_⟩
            iterate 3 refine am_wp_step _ rfl ?_
            refine ⟨_, _, cl_t hg.2 (m_isSheet _ _ _), ?_⟩
            iterate 5 refine am_wp_step _ rfl ?_
            refine am_ixN (i) (rfl) (show _ < 4 by omega) (show (4 : Nat) < 2 ^ 31 by decide) (fun e => ?_); rw [e]
            iterate 1 refine am_wp_step _ rfl ?_
            refine am_iteF (by show ¬ M1 33 9 0 i = 0; rw [e33]; exact n3) ?_
            iterate 4 refine am_wp_step _ rfl ?_
            refine am_ixN (j) (rfl) (show _ < 4 by omega) (show (4 : Nat) < 2 ^ 31 by decide) (fun e => ?_); rw [e]
            iterate 1 refine am_wp_step _ rfl ?_
            refine am_iteT (by show M1 33 9 0 j ≠ 0; rw [e33]; exact n4) ?_
            iterate 4 refine am_wp_step _ rfl ?_
            refine am_ixN (i) (rfl) (show _ < 4 by omega) (show (4 : Nat) < 2 ^ 31 by decide) (fun e => ?_); rw [e]
            iterate 4 refine am_wp_step _ rfl ?_
            refine am_ixN (j) (rfl) (show _ < 4 by omega) (show (4 : Nat) < 2 ^ 31 by decide) (fun e => ?_); rw [e]
            iterate 1 refine am_wp_step _ rfl ?_
            refine am_iteT (by show M1 33 9 0 i = M1 33 9 0 j; rw [e33]; exact hk) ?_
            have ex : am_wp (am_cl am_cds 999) am_c214 (fun w m => w = some (.inl (-1000000000 - nI 1)) ∧ m = am_S (am_up M1 33 3 0 1 (M1 33 3 0 1 + 1))) 67 [(0, .inr (.inr (26, 0, 0))), (1, .inl (nI i)), (2, .inl y), (3, .inl (nI j)), (4, .inl u), (5, .inl w)] [] (am_S M1) := by
              repeat' first | refine am_wp_step _ rfl ?_ | refine am_iteB (fun h => ?_) (fun h => ?_) | refine am_iteN (fun h => ?_) (fun h => ?_) | refine am_ite (fun h => ?_) (fun h => ?_) | refine ⟨_, _, m_find1 _ _, ?_⟩ | fail
              exact ⟨trivial, rfl, rfl⟩
            iterate 2 refine am_wp_step _ rfl ?_
            refine am_ite (fun hw => ex) (fun hw => ?_)
            iterate 2 refine am_wp_step _ rfl ?_
            refine am_ite (fun hy => ex) (fun hy => ?_)
            iterate 2 refine am_wp_step _ rfl ?_
            refine am_ite (fun hu => ex) (fun hu => ?_)
            obtain ⟨k, hk1, rfl⟩ := nI_ex (Int32.not_lt.mp hw)
            obtain ⟨p, hp1, rfl⟩ := nI_ex (Int32.not_lt.mp hy)
            obtain ⟨q, hq1, rfl⟩ := nI_ex (Int32.not_lt.mp hu)
            iterate 9 refine am_wp_step _ rfl ?_
            refine am_ixN (i) (rfl) (show _ < 4 by omega) (show (4 : Nat) < 2 ^ 31 by decide) (fun e => ?_); rw [e]
            rw [show (am_S M1).2.2 33 10 0 i = nI s from by show M1 33 10 0 i = nI s; rw [e33]; exact q3]
            iterate 3 refine am_wp_step _ rfl ?_
            by_cases hc1 : s < p + k
            · refine am_iteT ((str_l hp1 hk1 hs).mpr hc1) ex
            · refine am_iteF (fun q => hc1 ((str_l hp1 hk1 hs).mp q)) ?_
              iterate 9 refine am_wp_step _ rfl ?_
              refine am_ixN (j) (rfl) (show _ < 4 by omega) (show (4 : Nat) < 2 ^ 31 by decide) (fun e => ?_); rw [e]
              rw [show (am_S M1).2.2 33 10 0 j = nI s2 from by show M1 33 10 0 j = nI s2; rw [e33]; exact r3]
              iterate 3 refine am_wp_step _ rfl ?_
              have hc2 : s2 < q + k := by
                rcases Nat.lt_or_ge s2 (q + k) with r | r
                · exact r
                · exact absurd ⟨str_of hs (by omega), str_of hs2 r⟩ hc
              refine am_iteF (by rw [← Int32.not_lt, Decidable.not_not, str_l hq1 hk1 hs2]; exact hc2) ex
      · refine JJ_e (k := 5) (by decide) (by decide) hR ?_ (fun M1 e33 e26 => ?_)
        · refine am_cl_in am_c105 rfl ?_
          iterate 2 refine am_wp_step _ rfl ?_
          refine ⟨_, _, cl_t hg.1 (c_isSheet _ _ _), ?_⟩
          iterate 3 refine am_wp_step _ rfl ?_
          refine ⟨_, _, cl_t hg.2 (c_isSheet _ _ _), ?_⟩
          iterate 5 refine am_wp_step _ rfl ?_
          refine am_ixN (i) (rfl) (show _ < 4 by omega) (show (4 : Nat) < 2 ^ 31 by decide) (fun e => ?_); rw [e]
          iterate 5 refine am_wp_step _ rfl ?_
          refine am_ixN (j) (rfl) (show _ < 4 by omega) (show (4 : Nat) < 2 ^ 31 by decide) (fun e => ?_); rw [e]
          iterate 3 refine am_wp_step _ rfl ?_
          refine ⟨_, _, cl_f n1 (c_isMissing _ i M), ?_⟩
          iterate 3 refine am_wp_step _ rfl ?_
          refine ⟨_, _, cl_f n2 (c_isMissing _ j M), ?_⟩
          iterate 6 refine am_wp_step _ rfl ?_
          refine am_iteF (by show ¬ M 22 0 i 1 = M 22 0 j 1; rw [q1, r1]; exact hk) ?_
          repeat' first | refine am_wp_step _ rfl ?_ | refine am_iteB (fun h => ?_) (fun h => ?_) | refine am_iteN (fun h => ?_) (fun h => ?_) | refine am_ite (fun h => ?_) (fun h => ?_) | refine ⟨_, _, c_err5 _ _, ?_⟩ | fail
          exact ⟨trivial, rfl, rfl⟩
        · refine am_cl_in am_c214 rfl ?_
          iterate 2 refine am_wp_step _ rfl ?_
          refine ⟨_, _, cl_t hg.1 (m_isSheet _ _ _), ?_⟩
          iterate 3 refine am_wp_step _ rfl ?_
          refine ⟨_, _, cl_t hg.2 (m_isSheet _ _ _), ?_⟩
          iterate 5 refine am_wp_step _ rfl ?_
          refine am_ixN (i) (rfl) (show _ < 4 by omega) (show (4 : Nat) < 2 ^ 31 by decide) (fun e => ?_); rw [e]
          iterate 1 refine am_wp_step _ rfl ?_
          refine am_iteF (by show ¬ M1 33 9 0 i = 0; rw [e33]; exact n3) ?_
          iterate 4 refine am_wp_step _ rfl ?_
          refine am_ixN (j) (rfl) (show _ < 4 by omega) (show (4 : Nat) < 2 ^ 31 by decide) (fun e => ?_); rw [e]
          iterate 1 refine am_wp_step _ rfl ?_
          refine am_iteT (by show M1 33 9 0 j ≠ 0; rw [e33]; exact n4) ?_
          iterate 4 refine am_wp_step _ rfl ?_
          refine am_ixN (i) (rfl) (show _ < 4 by omega) (show (4 : Nat) < 2 ^ 31 by decide) (fun e => ?_); rw [e]
          iterate 4 refine am_wp_step _ rfl ?_
          refine am_ixN (j) (rfl) (show _ < 4 by omega) (show (4 : Nat) < 2 ^ 31 by decide) (fun e => ?_); rw [e]
          iterate 1 refine am_wp_step _ rfl ?_
          refine am_iteF (by show ¬ M1 33 9 0 i = M1 33 9 0 j; rw [e33]; exact hk) ?_
          repeat' first | refine am_wp_step _ rfl ?_ | refine am_iteB (fun h => ?_) (fun h => ?_) | refine am_iteN (fun h => ?_) (fun h => ?_) | refine am_ite (fun h => ?_) (fun h => ?_) | refine ⟨_, _, m_find5 _ _, ?_⟩ | fail
          exact ⟨trivial, rfl, rfl⟩
  · refine JJ_e (k := 1) (by decide) (by decide) hR ?_ (fun M1 e33 e26 => ?_)
    · refine am_cl_in am_c105 rfl ?_
      repeat' first | refine am_wp_step _ rfl ?_ | refine am_iteB (fun h => ?_) (fun h => ?_) | refine am_iteN (fun h => ?_) (fun h => ?_) | refine am_ite (fun h => ?_) (fun h => ?_) | refine ⟨_, _, c_isSheet _ _ _, ?_⟩ | refine ⟨_, _, c_err1 _ _, ?_⟩ | fail
      all_goals first | exact ⟨trivial, rfl, rfl⟩ | (exfalso; clear hR hS; grind)
    · refine am_cl_in am_c214 rfl ?_
      repeat' first | refine am_wp_step _ rfl ?_ | refine am_iteB (fun h => ?_) (fun h => ?_) | refine am_iteN (fun h => ?_) (fun h => ?_) | refine am_ite (fun h => ?_) (fun h => ?_) | refine ⟨_, _, m_isSheet _ _ _, ?_⟩ | refine ⟨_, _, m_find1 _ _, ?_⟩ | fail
      all_goals first | exact ⟨trivial, rfl, rfl⟩ | (exfalso; clear hR hS; grind)
