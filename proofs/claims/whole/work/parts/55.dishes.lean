/-! DISHES, FEED -/
def aDs (a : Nat → Int32) (m : Nat) (nu : Nat → Int32) : Nat → Nat → Int32
  | 0 => a
  | t + 1 => adD (aDs a m nu t) (m + t) (nu (3 * t)) (nu (3 * t + 1)) (nu (3 * t + 2))
theorem aDs_s (a : Nat → Int32) (m : Nat) (nu : Nat → Int32) (t : Nat) : aDs a m nu (t + 1) = adD (aDs a m nu t) (m + t) (nu (3 * t)) (nu (3 * t + 1)) (nu (3 * t + 2)) := rfl
theorem jj_dishes (x : Int32) : JJ 106 215 [.inl x] := by
  intro M hR
  have hS := hR.2.2.2.2.2.1
  obtain ⟨n, m, a, ha, hG, hB, hab, hT0, hT1, hW4, hW5, hz, hbl, hBY, h288, hTC⟩ := RC_get hR; have hn := hB.1; have hm := hB.2.1; have hn8 := hG.1; have hm8 := hG.2.1; have hX0 := hG.2.2.2.2.2.2.1; have hX1 := hG.2.2.2.2.2.2.2; have ho : ∀ i, i < n → odr a n i < n := (fun i hi => odr_lt hi)
  by_cases hg : 0 ≤ x ∧ x ≤ 3
  · obtain ⟨i, hi, rfl⟩ := wI_ex (b := 3) hg (by decide)
    obtain ⟨q1, q2, ⟨s, hs, q3⟩, q4, q5⟩ := hS i (by omega)
    have q2' : M 22 0 i 2 = nI s := q2.trans q3
    by_cases h0 : M 33 9 0 i = 0
    · refine JJ_e (k := 2) (by decide) (by decide) hR ?_ (fun M1 e33 e26 => ?_)
      · refine am_cl_in am_c106 rfl ?_
        iterate 2 refine am_wp_step _ rfl ?_
        refine ⟨_, _, cl_t hg (c_isSheet _ _ _), ?_⟩
        iterate 5 refine am_wp_step _ rfl ?_
        refine am_ixN (i) (rfl) (show _ < 4 by omega) (show (4 : Nat) < 2 ^ 31 by decide) (fun e => ?_); rw [e]
        iterate 3 refine am_wp_step _ rfl ?_
        refine ⟨_, _, cl_t (q1.trans h0) (c_isMissing _ i M), ?_⟩
        repeat' first | refine am_wp_step _ rfl ?_ | refine am_iteB (fun h => ?_) (fun h => ?_) | refine am_iteN (fun h => ?_) (fun h => ?_) | refine am_ite (fun h => ?_) (fun h => ?_) | refine ⟨_, _, c_err2 _ _, ?_⟩ | fail
        exact ⟨trivial, rfl, rfl⟩
      · refine am_cl_in am_c215 rfl ?_
        iterate 2 refine am_wp_step _ rfl ?_
        refine ⟨_, _, cl_t hg (m_isSheet _ _ _), ?_⟩
        iterate 5 refine am_wp_step _ rfl ?_
        refine am_ixN (i) (rfl) (show _ < 4 by omega) (show (4 : Nat) < 2 ^ 31 by decide) (fun e => ?_); rw [e]
        iterate 1 refine am_wp_step _ rfl ?_
        refine am_iteF (by show ¬ M1 33 9 0 i ≠ 0; rw [e33, h0]; decide) ?_
        repeat' first | refine am_wp_step _ rfl ?_ | refine am_iteB (fun h => ?_) (fun h => ?_) | refine am_iteN (fun h => ?_) (fun h => ?_) | refine am_ite (fun h => ?_) (fun h => ?_) | refine ⟨_, _, m_find2 _ _, ?_⟩ | fail
        exact ⟨trivial, rfl, rfl⟩
    · have hne : ¬ M 22 0 i 1 = 0 := by rw [q1]; exact h0
      generalize hnu : (fun j => M 33 11 0 (40 * i + j)) = nu
      have hnj : ∀ j, M 33 11 0 (40 * i + j) = nu j := fun j => by rw [← hnu]
      have hcj : ∀ j, j < 40 → M 31 0 i j = nu j := fun j hj => by rw [q5 j hj]; exact hnj j
      obtain ⟨T, hT1, hT2, hT3⟩ := stop (fun t => ¬ (3 * t + 2 < s ∧ m + t < 8 ∧ okD (nu (3 * t)) (nu (3 * t + 1)) (nu (3 * t + 2)))) 14
      have hT2' : ∀ t, t < T → 3 * t + 2 < s ∧ m + t < 8 ∧ okD (nu (3 * t)) (nu (3 * t + 1)) (nu (3 * t + 2)) := fun t ht => Decidable.not_not.mp (hT2 t ht)
      have hT13 : T ≠ 14 := fun q => by
        have := (hT2' 13 (by omega)).1
        omega
      have hT3' := hT3.resolve_left hT13
      have hGD : ∀ t, t ≤ T → GA n (m + t) (aDs a m nu t) ∧ odr (aDs a m nu t) n = odr a n ∧ ∀ c, c ≠ 2 → ¬ (74 ≤ c ∧ c < 114) → aDs a m nu t c = a c := by
        intro t
        induction t with
        | zero => exact fun _ => ⟨hG, rfl, fun _ _ _ => rfl⟩
        | succ t ih =>
          intro ht
          obtain ⟨i1, i2, i3⟩ := ih (by omega)
          obtain ⟨t1, t2, t3⟩ := hT2' t (by omega)
          obtain ⟨j1, j2⟩ := GA_ad t2 i1 t3
          rw [aDs_s]
          exact ⟨j1, j2.trans i2, fun c c1 c2 => (adD_o c1 (by omega)).trans (i3 c c1 c2)⟩
      have hmT : m + T ≤ 8 := (hGD T (Nat.le_refl _)).1.2.1
      have hcl : ∃ M1, am_cl am_cds 1000 106 [.inr (.inr (25, 0, 0)), .inl (nI i)] (am_S M) (some (.inl (nI T))) (am_S M1) ∧ RB M1 0 n (m + T) (odr a n) (aDs a m nu T) ∧ M1 16 0 0 7 = -1 ∧ FX M M1 := by
        refine am_cl_v (fun M1 => RB M1 0 n (m + T) (odr a n) (aDs a m nu T) ∧ M1 16 0 0 7 = -1 ∧ FX M M1) am_c106 rfl ?_
        iterate 2 refine am_wp_step _ rfl ?_
        refine ⟨_, _, cl_t hg (c_isSheet _ _ _), ?_⟩
        iterate 5 refine am_wp_step _ rfl ?_
        refine am_ixN (i) (rfl) (show _ < 4 by omega) (show (4 : Nat) < 2 ^ 31 by decide) (fun e => ?_); rw [e]
        iterate 3 refine am_wp_step _ rfl ?_
        refine ⟨_, _, cl_f hne (c_isMissing _ i M), ?_⟩
        iterate 5 refine am_wp_step _ rfl ?_
        refine am_for2 23 (fun u w => [(0, .inr (.inr (25, 0, 0))), (1, .inl (nI i)), (2, .inr (.inr (22, 0, i))), (3, .inl u), (4, .inl w)]) (fun t u w M1 => u = nI t ∧ w = nI (3 * t) ∧ RB M1 0 n (m + t) (odr a n) (aDs a m nu t) ∧ M1 16 0 0 7 = -1 ∧ FX M M1) T ?_ ?_ 0 0 0 M (Nat.zero_le _) ⟨nI_0.symm, nI_0.symm, hB, hab, FX_rf⟩
        · intro t u w M1 ht hP K
          obtain ⟨rfl, rfl, hB1, hab1, hF⟩ := hP
          obtain ⟨t1, t2, t3⟩ := hT2' t ht
          have f2 : M1 22 0 i 2 = nI s := by rw [hF 22 0 (by omega) (by omega)]; exact q2'
          have f31 : ∀ j, j < 40 → (am_S M1).2.2 31 0 i j = nu j := fun j hj => by show M1 31 0 i j = nu j; rw [hF 31 0 (by omega) (by omega)]; exact hcj j hj
          iterate 6 refine am_wp_step _ rfl ?_
          refine am_iteF (by show ¬ M1 22 0 i 2 ≤ nI (3 * t) + 2; rw [f2, show nI (3 * t) + 2 = nI (3 * t + 2) from nI_add _ 2]; exact nI_ge t1 (by omega)) ?_
          iterate 4 refine am_wp_step _ rfl ?_
          refine am_ixN (3 * t) (rfl) (show _ < 40 by omega) (show (40 : Nat) < 2 ^ 31 by decide) (fun e => ?_); rw [e]
          iterate 7 refine am_wp_step _ rfl ?_
          refine am_ixN (3 * t + 1) (nI_add _ 1) (show _ < 40 by omega) (show (40 : Nat) < 2 ^ 31 by decide) (fun e => ?_); rw [e]
          iterate 7 refine am_wp_step _ rfl ?_
          refine am_ixN (3 * t + 2) (nI_add _ 2) (show _ < 40 by omega) (show (40 : Nat) < 2 ^ 31 by decide) (fun e => ?_); rw [e]
          rw [f31 (3 * t) (by omega), f31 (3 * t + 1) (by omega), f31 (3 * t + 2) (by omega)]
          iterate 6 refine am_wp_step _ rfl ?_
          refine ⟨_, _, c_dishRef0 _ (m + t) _ _ _ M1 t3 hB1.2.1 t2, ?_⟩
          iterate 8 refine am_wp_step _ rfl ?_
          refine am_call1 (c_addDish _ n (m + t) (odr a n) (aDs a m nu t) (nu (3 * t)) (nu (3 * t + 1)) (nu (3 * t + 2)) M1 hn8 t2 hB1) (fun M2 hh => ?_)
          iterate 4 refine am_wp_step _ rfl ?_
          exact K _ _ _ ⟨nI_1 t, nI_add _ 3, hh.1, hh.2.1.trans hab1, FX_tr hF hh.2.2⟩
        · intro u w M1 hP
          obtain ⟨rfl, rfl, hB1, hab1, hF⟩ := hP
          have f2 : M1 22 0 i 2 = nI s := by rw [hF 22 0 (by omega) (by omega)]; exact q2'
          have f31 : ∀ j, j < 40 → (am_S M1).2.2 31 0 i j = nu j := fun j hj => by show M1 31 0 i j = nu j; rw [hF 31 0 (by omega) (by omega)]; exact hcj j hj
          iterate 6 refine am_wp_step _ rfl ?_
          by_cases h1 : 3 * T + 2 < s
          · refine am_iteF (by show ¬ M1 22 0 i 2 ≤ nI (3 * T) + 2; rw [f2, show nI (3 * T) + 2 = nI (3 * T + 2) from nI_add _ 2]; exact nI_ge h1 (by omega)) ?_
            iterate 4 refine am_wp_step _ rfl ?_
            refine am_ixN (3 * T) (rfl) (show _ < 40 by omega) (show (40 : Nat) < 2 ^ 31 by decide) (fun e => ?_); rw [e]
            iterate 7 refine am_wp_step _ rfl ?_
            refine am_ixN (3 * T + 1) (nI_add _ 1) (show _ < 40 by omega) (show (40 : Nat) < 2 ^ 31 by decide) (fun e => ?_); rw [e]
            iterate 7 refine am_wp_step _ rfl ?_
            refine am_ixN (3 * T + 2) (nI_add _ 2) (show _ < 40 by omega) (show (40 : Nat) < 2 ^ 31 by decide) (fun e => ?_); rw [e]
            rw [f31 (3 * T) (by omega), f31 (3 * T + 1) (by omega), f31 (3 * T + 2) (by omega)]
            iterate 6 refine am_wp_step _ rfl ?_
            by_cases h2 : okD (nu (3 * T)) (nu (3 * T + 1)) (nu (3 * T + 2))
            · have h8 : m + T = 8 := by
                rcases Nat.lt_or_ge (m + T) 8 with r | r
                · exact absurd ⟨h1, r, h2⟩ hT3'
                · omega
              refine ⟨_, _, c_dishRef4 _ (m + T) _ _ _ M1 h2 hB1.2.1 h8, ?_⟩
              iterate 4 refine am_wp_step _ rfl ?_
              exact ⟨trivial, rfl, M1, rfl, hB1, hab1, hF⟩
            · refine ⟨_, _, c_dishRef1 _ _ _ _ M1 h2, ?_⟩
              iterate 4 refine am_wp_step _ rfl ?_
              exact ⟨trivial, rfl, M1, rfl, hB1, hab1, hF⟩
          · refine am_iteT (by show M1 22 0 i 2 ≤ nI (3 * T) + 2; rw [f2, show nI (3 * T) + 2 = nI (3 * T + 2) from nI_add _ 2]; exact nI_le (by omega) (by omega)) ?_
            iterate 2 refine am_wp_step _ rfl ?_
            exact ⟨trivial, rfl, M1, rfl, hB1, hab1, hF⟩
      obtain ⟨M1, c1, r1, r2, r3⟩ := hcl
      have e33 : M1 33 = M 33 := funext fun bb => r3 33 bb (by omega) (by omega)
      have ea : M1 33 0 0 = a := by rw [e33]; exact ha
      have hmod : ∃ M2, am_cl am_cds 1000 215 [.inr (.inr (26, 0, 0)), .inl (nI i)] (am_S M1) (some (.inl (nI T))) (am_S M2) ∧ M2 33 0 0 = aDs a m nu T ∧ kB M1 M2 := by
        refine am_cl_v (fun M2 => M2 33 0 0 = aDs a m nu T ∧ kB M1 M2) am_c215 rfl ?_
        iterate 2 refine am_wp_step _ rfl ?_
        refine ⟨_, _, cl_t hg (m_isSheet _ _ _), ?_⟩
        iterate 5 refine am_wp_step _ rfl ?_
        refine am_ixN (i) (rfl) (show _ < 4 by omega) (show (4 : Nat) < 2 ^ 31 by decide) (fun e => ?_); rw [e]
        iterate 1 refine am_wp_step _ rfl ?_
        refine am_iteT (by show M1 33 9 0 i ≠ 0; rw [e33]; exact h0) ?_
        iterate 6 refine am_wp_step _ rfl ?_
        refine am_for1 22 (fun u => [(0, .inr (.inr (26, 0, 0))), (1, .inl (nI i)), (2, .inl u), (3, .inl (40 * nI i))]) (fun t u M2 => u = nI t ∧ M2 33 0 0 = aDs a m nu t ∧ kB M1 M2) T ?_ ?_ 0 0 M1 (Nat.zero_le _) ⟨nI_0.symm, ea, kB_rf⟩
        · intro t u M2 ht hP K
          obtain ⟨rfl, h2, hF⟩ := hP
          obtain ⟨t1, t2, t3⟩ := hT2' t ht
          have f10 : (am_S M2).2.2 33 10 0 i = nI s := by show M2 33 10 0 i = nI s; rw [hF 33 10 (by omega), e33]; exact q3
          have f11 : ∀ j, (am_S M2).2.2 33 11 0 (40 * i + j) = nu j := fun j => by show M2 33 11 0 (40 * i + j) = nu j; rw [hF 33 11 (by omega), e33]; exact hnj j
          have g0 : (am_S M2).2.2 33 11 0 (40 * i + 3 * t) = nu (3 * t) := f11 _
          have g1 : (am_S M2).2.2 33 11 0 (40 * i + 3 * t + 1) = nu (3 * t + 1) := f11 (3 * t + 1)
          have g2 : (am_S M2).2.2 33 11 0 (40 * i + 3 * t + 2) = nu (3 * t + 2) := f11 (3 * t + 2)
          have em := (hGD t (Nat.le_of_lt ht)).1.2.2.2.1
          iterate 9 refine am_wp_step _ rfl ?_
          refine am_ixN (i) (rfl) (show _ < 4 by omega) (show (4 : Nat) < 2 ^ 31 by decide) (fun e => ?_); rw [e]
          rw [f10]
          iterate 1 refine am_wp_step _ rfl ?_
          refine am_iteF (by rw [show (3 : Int32) * nI t + 2 = nI (3 * t + 2) from by rw [show (3 : Int32) * nI t = nI (3 * t) from nI_mul 3 t]; exact nI_add _ 2]; exact nI_ge t1 (by omega)) ?_
          iterate 4 refine am_wp_step _ rfl ?_
          refine am_andv (by unfold vp_in; decide) ?_
          iterate 2 refine am_wp_step _ rfl ?_
          refine am_iteF (by show ¬ 8 ≤ M2 33 0 0 2; rw [h2, em]; exact nI_ge (b := 8) t2 (by decide)) ?_
          iterate 8 refine am_wp_step _ rfl ?_
          refine am_ixN (40 * i + 3 * t) (by simp only [nI_lit, nI_add, nI_mul]) (show _ < 160 by omega) (show (160 : Nat) < 2 ^ 31 by decide) (fun e => ?_); rw [e]
          iterate 10 refine am_wp_step _ rfl ?_
          refine am_ixN (40 * i + 3 * t + 1) (by simp only [nI_lit, nI_add, nI_mul]) (show _ < 160 by omega) (show (160 : Nat) < 2 ^ 31 by decide) (fun e => ?_); rw [e]
          iterate 10 refine am_wp_step _ rfl ?_
          refine am_ixN (40 * i + 3 * t + 2) (by simp only [nI_lit, nI_add, nI_mul]) (show _ < 160 by omega) (show (160 : Nat) < 2 ^ 31 by decide) (fun e => ?_); rw [e]
          rw [g0, g1, g2]
          iterate 1 refine am_wp_step _ rfl ?_
          refine ⟨_, _, cl_t t3 (m_isDish _ _ _ _ _), ?_⟩
          iterate 10 refine am_wp_step _ rfl ?_
          refine am_ixN (40 * i + 3 * t) (by simp only [nI_lit, nI_add, nI_mul]) (show _ < 160 by omega) (show (160 : Nat) < 2 ^ 31 by decide) (fun e => ?_); rw [e]
          iterate 10 refine am_wp_step _ rfl ?_
          refine am_ixN (40 * i + 3 * t + 1) (by simp only [nI_lit, nI_add, nI_mul]) (show _ < 160 by omega) (show (160 : Nat) < 2 ^ 31 by decide) (fun e => ?_); rw [e]
          iterate 10 refine am_wp_step _ rfl ?_
          refine am_ixN (40 * i + 3 * t + 2) (by simp only [nI_lit, nI_add, nI_mul]) (show _ < 160 by omega) (show (160 : Nat) < 2 ^ 31 by decide) (fun e => ?_); rw [e]
          rw [g0, g1, g2]
          iterate 1 refine am_wp_step _ rfl ?_
          refine am_call1 (m_cooked _ (m + t) _ _ _ _ M2 t2 h2 em) (fun M3 hh => ?_)
          iterate 4 refine am_wp_step _ rfl ?_
          refine am_iteF (nI_pos (by omega)) ?_
          iterate 5 refine am_wp_step _ rfl ?_
          exact K _ _ ⟨nI_1 t, hh.1, kB_tr hF hh.2⟩
        · intro u M2 hP
          obtain ⟨rfl, h2, hF⟩ := hP
          have f10 : (am_S M2).2.2 33 10 0 i = nI s := by show M2 33 10 0 i = nI s; rw [hF 33 10 (by omega), e33]; exact q3
          have f11 : ∀ j, (am_S M2).2.2 33 11 0 (40 * i + j) = nu j := fun j => by show M2 33 11 0 (40 * i + j) = nu j; rw [hF 33 11 (by omega), e33]; exact hnj j
          have g0 : (am_S M2).2.2 33 11 0 (40 * i + 3 * T) = nu (3 * T) := f11 _
          have g1 : (am_S M2).2.2 33 11 0 (40 * i + 3 * T + 1) = nu (3 * T + 1) := f11 (3 * T + 1)
          have g2 : (am_S M2).2.2 33 11 0 (40 * i + 3 * T + 2) = nu (3 * T + 2) := f11 (3 * T + 2)
          have em := (hGD T (Nat.le_refl _)).1.2.2.2.1
          have e3 : (3 : Int32) * nI T + 2 = nI (3 * T + 2) := by rw [show (3 : Int32) * nI T = nI (3 * T) from nI_mul 3 T]; exact nI_add _ 2
          iterate 9 refine am_wp_step _ rfl ?_
          refine am_ixN (i) (rfl) (show _ < 4 by omega) (show (4 : Nat) < 2 ^ 31 by decide) (fun e => ?_); rw [e]
          rw [f10]
          iterate 1 refine am_wp_step _ rfl ?_
          by_cases h1 : 3 * T + 2 < s
          · refine am_iteF (by rw [e3]; exact nI_ge h1 (by omega)) ?_
            iterate 4 refine am_wp_step _ rfl ?_
            refine am_andv (by unfold vp_in; decide) ?_
            iterate 2 refine am_wp_step _ rfl ?_
            by_cases h8 : m + T < 8
            · refine am_iteF (by show ¬ 8 ≤ M2 33 0 0 2; rw [h2, em]; exact nI_ge (b := 8) h8 (by decide)) ?_
              have h9 : ¬ okD (nu (3 * T)) (nu (3 * T + 1)) (nu (3 * T + 2)) := fun q => hT3' ⟨h1, h8, q⟩
              iterate 8 refine am_wp_step _ rfl ?_
              refine am_ixN (40 * i + 3 * T) (by simp only [nI_lit, nI_add, nI_mul]) (show _ < 160 by omega) (show (160 : Nat) < 2 ^ 31 by decide) (fun e => ?_); rw [e]
              iterate 10 refine am_wp_step _ rfl ?_
              refine am_ixN (40 * i + 3 * T + 1) (by simp only [nI_lit, nI_add, nI_mul]) (show _ < 160 by omega) (show (160 : Nat) < 2 ^ 31 by decide) (fun e => ?_); rw [e]
              iterate 10 refine am_wp_step _ rfl ?_
              refine am_ixN (40 * i + 3 * T + 2) (by simp only [nI_lit, nI_add, nI_mul]) (show _ < 160 by omega) (show (160 : Nat) < 2 ^ 31 by decide) (fun e => ?_); rw [e]
              rw [g0, g1, g2]
              iterate 1 refine am_wp_step _ rfl ?_
              refine ⟨_, _, cl_f h9 (m_isDish _ _ _ _ _), ?_⟩
              iterate 3 refine am_wp_step _ rfl ?_
              exact ⟨trivial, rfl, M2, rfl, h2, hF⟩
            · refine am_iteT (by show 8 ≤ M2 33 0 0 2; rw [h2, em]; exact nI_le (a := 8) (by omega) (by omega)) ?_
              iterate 2 refine am_wp_step _ rfl ?_
              exact ⟨trivial, rfl, M2, rfl, h2, hF⟩
          · refine am_iteT (by rw [e3]; exact nI_le (by omega) (by omega)) ?_
            iterate 2 refine am_wp_step _ rfl ?_
            exact ⟨trivial, rfl, M2, rfl, h2, hF⟩
      obtain ⟨M2, c2, k1, k2⟩ := hmod
      obtain ⟨g1, g2, g3⟩ := hGD T (Nat.le_refl _)
      exact JJ_b (n := n) (m := m + T) (v := nI T) hR ha c1 c2 r3 k2 k1 g1 (by rw [g2]; exact r1) r2 (by rw [g3 0 (by omega) (by omega)]; exact hbl) (fun c hc => g3 c (by omega) (by omega))
  · refine JJ_e (k := 1) (by decide) (by decide) hR ?_ (fun M1 e33 e26 => ?_)
    · refine am_cl_in am_c106 rfl ?_
      repeat' first | refine am_wp_step _ rfl ?_ | refine am_iteB (fun h => ?_) (fun h => ?_) | refine am_iteN (fun h => ?_) (fun h => ?_) | refine am_ite (fun h => ?_) (fun h => ?_) | refine ⟨_, _, cl_f hg (c_isSheet _ _ _), ?_⟩ | refine ⟨_, _, c_err1 _ _, ?_⟩ | fail
      exact ⟨trivial, rfl, rfl⟩
    · refine am_cl_in am_c215 rfl ?_
      repeat' first | refine am_wp_step _ rfl ?_ | refine am_iteB (fun h => ?_) (fun h => ?_) | refine am_iteN (fun h => ?_) (fun h => ?_) | refine am_ite (fun h => ?_) (fun h => ?_) | refine ⟨_, _, cl_f hg (m_isSheet _ _ _), ?_⟩ | refine ⟨_, _, m_find1 _ _, ?_⟩ | fail
      exact ⟨trivial, rfl, rfl⟩
theorem wb_tb (n : Nat) : (lN n).toBitVec = BitVec.ofNat 64 n := rfl
theorem wb_c : ∀ k, k < 64 → ((nI k).toInt64 &&& 63) = lN k := by decide +kernel
theorem wb_cu : ∀ k, k < 64 → ((nI k).toInt64.toUInt64 &&& Int64.toUInt64 63) = UInt64.ofNat k := by decide +kernel
theorem wb_sm : ∀ k, k < 64 → (BitVec.ofNat 64 k).smod 64 = BitVec.ofNat 64 k := by decide +kernel
def fb (w : Int64) (k : Nat) : Int32 := (w.toUInt64 >>> ((nI (8 * k)).toInt64.toUInt64 &&& Int64.toUInt64 63)).toInt64.toInt32 &&& 255
theorem fb_rg (w : Int64) (k : Nat) : 0 ≤ fb w k ∧ fb w k ≤ 255 := by
  obtain ⟨j, hj, he⟩ := pk_andE (w.toUInt64 >>> ((nI (8 * k)).toInt64.toUInt64 &&& Int64.toUInt64 63)).toInt64.toInt32 (m := 255) 8 (by decide)
  unfold fb
  rw [he]
  exact ⟨nI_pos' (by omega), nI_le (b := 255) (by omega) (by decide)⟩
theorem fb_m (w : Int64) (k : Nat) (hk : k < 8) : (w >>> ((nI (8 * k)).toInt64 &&& 63) &&& Int64.ofNat 255).toInt32 = fb w k := by
  unfold fb
  rw [wb_c (8 * k) (by omega), wb_cu (8 * k) (by omega)]
  refine b_ext fun i hi => ?_
  rw [b_and, b_255]
  unfold bt
  rw [Int64.toBitVec_toInt32, Int64.toBitVec_toInt32, BitVec.getLsbD_signExtend, BitVec.getLsbD_signExtend, if_pos (show i < 64 by omega), if_pos (show i < 64 by omega), Int64.toBitVec_and, BitVec.getLsbD_and, Int64.toBitVec_shiftRight]
  have e0 : (Int64.ofNat 255).toBitVec.getLsbD i = decide (i < 8) := (by decide +kernel : ∀ i, i < 32 → (Int64.ofNat 255).toBitVec.getLsbD i = decide (i < 8)) i hi
  rw [e0]
  by_cases h8 : i < 8
  · have e1 : (w.toBitVec.sshiftRight' ((lN (8 * k)).toBitVec.smod 64)).getLsbD i = w.toBitVec.getLsbD (8 * k + i) := by
      rw [wb_tb, wb_sm (8 * k) (by omega)]
      show (w.toBitVec.sshiftRight (BitVec.ofNat 64 (8 * k)).toNat).getLsbD i = _
      rw [BitVec.toNat_ofNat, Nat.mod_eq_of_lt (by omega), BitVec.getLsbD_sshiftRight, if_pos (by omega)]
      simp [show ¬ 64 ≤ i by omega]
    have e2 : (w.toUInt64 >>> UInt64.ofNat (8 * k)).toInt64.toBitVec.getLsbD i = w.toBitVec.getLsbD (8 * k + i) := by
      show (w.toUInt64 >>> UInt64.ofNat (8 * k)).toBitVec.getLsbD i = w.toUInt64.toBitVec.getLsbD (8 * k + i)
      rw [UInt64.toBitVec_shiftRight]
      show (w.toUInt64.toBitVec >>> (BitVec.ofNat 64 (8 * k) % 64).toNat).getLsbD i = _
      have e3 : (BitVec.ofNat 64 (8 * k) % 64).toNat = 8 * k := (by decide +kernel : ∀ k, k < 8 → (BitVec.ofNat 64 (8 * k) % 64).toNat = 8 * k) k hk
      rw [e3, BitVec.getLsbD_ushiftRight]
    rw [e1, e2]
    simp [h8]
  · simp [h8]
def fdK (a : Nat → Int32) (k0 : Nat) (w : Int64) : Nat → Nat → Int32
  | 0 => a
  | t + 1 => fu (fu (fdK a k0 w t) (114 + (k0 + t)) (fb w t)) 3 (nI (k0 + t + 1))
theorem fdK_s (a : Nat → Int32) (k0 : Nat) (w : Int64) (t : Nat) : fdK a k0 w (t + 1) = fu (fu (fdK a k0 w t) (114 + (k0 + t)) (fb w t)) 3 (nI (k0 + t + 1)) := rfl
theorem fdK_p {a : Nat → Int32} {k0 : Nat} {w : Int64} (h3 : a 3 = nI k0) (t : Nat) : fdK a k0 w t 3 = nI (k0 + t) ∧ (∀ c, c ≠ 3 → c < 114 + k0 ∨ 114 + (k0 + t) ≤ c → fdK a k0 w t c = a c) ∧ (∀ j, j < t → fdK a k0 w t (114 + (k0 + j)) = fb w j) := by
  induction t with
  | zero => exact ⟨h3, fun _ _ _ => rfl, fun j hj => absurd hj (Nat.not_lt_zero _)⟩
  | succ t ih =>
    obtain ⟨i1, i2, i3⟩ := ih
    rw [fdK_s]
    refine ⟨fu_at, fun c c1 c2 => ?_, fun j hj => ?_⟩
    · rw [fu_ne c1, fu_ne (by omega)]
      exact i2 c c1 (by omega)
    · rw [fu_ne (by omega)]
      by_cases hjt : j = t
      · rw [hjt, fu_at]
      · rw [fu_ne (by omega)]
        exact i3 j (by omega)
theorem jj_feed (w : Int64) (z : Int32) : JJ 87 164 [.inr (.inl w), .inl z] := by
  intro M hR
  obtain ⟨n, m, a, ha, hG, hB, hab, hT0, hT1, hW4, hW5, hz, hbl, hBY, h288, hTC⟩ := RC_get hR; have hn := hB.1; have hm := hB.2.1; have hn8 := hG.1; have hm8 := hG.2.1; have hX0 := hG.2.2.2.2.2.2.1; have hX1 := hG.2.2.2.2.2.2.2; have ho : ∀ i, i < n → odr a n i < n := (fun i hi => odr_lt hi)
  obtain ⟨k0, u1, u2, u3, u4⟩ := hW4
  by_cases hg : 1 ≤ z ∧ z ≤ 8
  · obtain ⟨k, hk, rfl⟩ := wI_ex (y := z) (b := 8) ⟨by have := hg.1; lia, hg.2⟩ (by decide)
    by_cases hf : 50 < k0 + k
    · refine JJ_e (k := 4) (by decide) (by decide) hR ?_ (fun M1 e33 e26 => ?_)
      · refine am_cl_in am_c87 rfl ?_
        iterate 4 refine am_wp_step _ rfl ?_
        refine ⟨_, _, cl_t hg (c_within _ _ _ _ _), ?_⟩
        iterate 9 refine am_wp_step _ rfl ?_
        refine am_iteF (by show ¬ M 21 4 0 1 ≤ 50 - nI k; rw [u3, show (50 : Int32) - nI k = nI (50 - k) from pk_sub (a := 50) (by omega)]; exact nI_ge (by omega) (by omega)) ?_
        repeat' first | refine am_wp_step _ rfl ?_ | refine am_iteB (fun h => ?_) (fun h => ?_) | refine am_iteN (fun h => ?_) (fun h => ?_) | refine am_ite (fun h => ?_) (fun h => ?_) | refine ⟨_, _, c_err4 _ _, ?_⟩ | fail
        exact ⟨trivial, rfl, rfl⟩
      · have ea : M1 33 0 0 = a := (by rw [e33]; exact ha); have en : M1 33 0 0 1 = nI n := (by rw [ea]; exact hG.2.2.1); have em : M1 33 0 0 2 = nI m := (by rw [ea]; exact hG.2.2.2.1)
        refine am_cl_in am_c164 rfl ?_
        iterate 4 refine am_wp_step _ rfl ?_
        refine ⟨_, _, cl_t hg (m_within _ _ _ _ _), ?_⟩
        iterate 5 refine am_wp_step _ rfl ?_
        refine am_andv (by unfold vp_in; decide) ?_
        iterate 4 refine am_wp_step _ rfl ?_
        refine am_iteF (by show ¬ M1 33 0 0 3 + nI k ≤ 50; rw [ea, u2, nI_add]; exact nI_ge (a := 50) hf (by omega)) ?_
        repeat' first | refine am_wp_step _ rfl ?_ | refine am_iteB (fun h => ?_) (fun h => ?_) | refine am_iteN (fun h => ?_) (fun h => ?_) | refine am_ite (fun h => ?_) (fun h => ?_) | refine ⟨_, _, m_find4 _ _, ?_⟩ | fail
        exact ⟨trivial, rfl, rfl⟩
    · have hP := fdK_p (w := w) u2
      have e8 : ∀ t, (8 : Int32) * nI t = nI (8 * t) := fun t => nI_mul 8 t
      have hcl : ∃ M1, am_cl am_cds 1000 87 [.inr (.inr (25, 0, 0)), .inr (.inl w), .inl (nI k)] (am_S M) (some (.inl (nI (k0 + k)))) (am_S M1) ∧ M1 21 4 0 1 = nI (k0 + k) ∧ (∀ j, j < k0 + k → M1 27 4 0 j = fdK a k0 w k (114 + j)) ∧ rwF M M1 4 := by
        refine am_cl_v (fun M1 => M1 21 4 0 1 = nI (k0 + k) ∧ (∀ j, j < k0 + k → M1 27 4 0 j = fdK a k0 w k (114 + j)) ∧ rwF M M1 4) am_c87 rfl ?_
        iterate 4 refine am_wp_step _ rfl ?_
        refine ⟨_, _, cl_t hg (c_within _ _ _ _ _), ?_⟩
        iterate 9 refine am_wp_step _ rfl ?_
        refine am_iteT (by show M 21 4 0 1 ≤ 50 - nI k; rw [u3, show (50 : Int32) - nI k = nI (50 - k) from pk_sub (a := 50) (by omega)]; exact nI_le (by omega) (by omega)) ?_
        iterate 2 refine am_wp_step _ rfl ?_
        refine am_for1 23 (fun v => [(0, .inr (.inr (25, 0, 0))), (1, .inr (.inl w)), (3, .inl (nI k)), (4, .inl v)]) (fun t v M1 => v = nI t ∧ M1 21 4 0 1 = nI (k0 + t) ∧ (∀ j, j < k0 + t → M1 27 4 0 j = fdK a k0 w t (114 + j)) ∧ rwF M M1 4) k ?_ ?_ 0 0 M (Nat.zero_le _) ⟨nI_0.symm, u3, u4, rwF_rf⟩
        · intro t v M1 ht hP K
          obtain ⟨rfl, h1, h2, hF⟩ := hP
          iterate 3 refine am_wp_step _ rfl ?_
          refine am_iteF (nI_ge ht (by omega)) ?_
          iterate 12 refine am_wp_step _ rfl ?_
          rw [e8]
          refine ⟨_, c_add _ 4 (k0 + t) (fb w t) M1 h1 (show k0 + t < 50 by omega) (show (50 : Nat) < 2 ^ 31 by decide), ?_⟩
          iterate 2 refine am_wp_step _ rfl ?_
          refine K _ _ ⟨nI_1 t, am_up_same, fun j hj => ?_, fun r bb h => ?_⟩
          · rw [am_up_r (by decide), fdK_s, fu_ne (by omega)]
            by_cases hjt : j = k0 + t
            · rw [hjt, am_up_same, fu_at]
            · rw [am_up_s hjt, fu_ne (by omega)]
              exact h2 j (by omega)
          · rw [am_up_rb (by omega), am_up_rb (by omega)]
            exact hF r bb h
        · intro v M1 hP
          obtain ⟨rfl, h1, h2, hF⟩ := hP
          iterate 3 refine am_wp_step _ rfl ?_
          refine am_iteT (nI_le (Nat.le_refl _) (by omega)) ?_
          iterate 5 refine am_wp_step _ rfl ?_
          exact ⟨trivial, by rw [← h1], M1, rfl, h1, h2, hF⟩
      obtain ⟨M1, c1, r1, r2, r3⟩ := hcl
      have ea : M1 33 0 0 = a := by rw [r3 33 0 (by omega)]; exact ha
      have hmod : ∃ M2, am_cl am_cds 1000 164 [.inr (.inr (26, 0, 0)), .inr (.inl w), .inl (nI k)] (am_S M1) (some (.inl (nI (k0 + k)))) (am_S M2) ∧ M2 33 0 0 = fdK a k0 w k ∧ kB M1 M2 := by
        refine am_cl_v (fun M2 => M2 33 0 0 = fdK a k0 w k ∧ kB M1 M2) am_c164 rfl ?_
        iterate 4 refine am_wp_step _ rfl ?_
        refine ⟨_, _, cl_t hg (m_within _ _ _ _ _), ?_⟩
        iterate 5 refine am_wp_step _ rfl ?_
        refine am_andv (by unfold vp_in; decide) ?_
        iterate 4 refine am_wp_step _ rfl ?_
        refine am_iteT (by show M1 33 0 0 3 + nI k ≤ 50; rw [ea, u2, nI_add]; exact nI_le (b := 50) (by omega) (by decide)) ?_
        iterate 2 refine am_wp_step _ rfl ?_
        refine am_for1 23 (fun v => [(0, .inr (.inr (26, 0, 0))), (1, .inr (.inl w)), (3, .inl (nI k)), (4, .inl v)]) (fun t v M2 => v = nI t ∧ M2 33 0 0 = fdK a k0 w t ∧ kB M1 M2) k ?_ ?_ 0 0 M1 (Nat.zero_le _) ⟨nI_0.symm, ea, kB_rf⟩
        · intro t v M2 ht hP2 K
          obtain ⟨rfl, h1, hF⟩ := hP2
          have e3 : (am_S M2).2.2 33 0 0 (Int32.toNatClampNeg 3) = nI (k0 + t) := by show M2 33 0 0 3 = _; rw [h1]; exact (hP t).1
          iterate 3 refine am_wp_step _ rfl ?_
          refine am_iteF (nI_ge ht (by omega)) ?_
          iterate 7 refine am_wp_step _ rfl ?_
          refine am_andv (by unfold vp_in; decide) ?_
          rw [e3]
          iterate 10 refine am_wp_step _ rfl ?_
          rw [e8, fb_m w t (by omega)]
          refine am_ixN (114 + (k0 + t)) (nI_add 114 _) (show _ < 288 by omega) (show (288 : Nat) < 2 ^ 31 by decide) (fun e => ?_); rw [e]
          iterate 5 refine am_wp_step _ rfl ?_
          refine am_andv (by unfold vp_in; decide) ?_
          iterate 3 refine am_wp_step _ rfl ?_
          refine am_andv (by unfold vp_in; decide) ?_
          iterate 2 refine am_wp_step _ rfl ?_
          refine K _ _ ⟨nI_1 t, ?_, kB_tr hF (kB_tr kB_up kB_up)⟩
          show am_up (am_up M2 33 0 0 (114 + (k0 + t)) (fb w t)) 33 0 0 3 (am_up M2 33 0 0 (114 + (k0 + t)) (fb w t) 33 0 0 3 + 1) 33 0 0 = _
          rw [am_up_s (M := M2) (by omega), h1, (hP t).1, nI_1, am_up_fu, am_up_fu, h1, fdK_s]
        · intro v M2 hP2
          obtain ⟨rfl, h1, hF⟩ := hP2
          iterate 3 refine am_wp_step _ rfl ?_
          refine am_iteT (nI_le (Nat.le_refl _) (by omega)) ?_
          iterate 4 refine am_wp_step _ rfl ?_
          refine am_andv (by unfold vp_in; decide) ?_
          iterate 1 refine am_wp_step _ rfl ?_
          refine ⟨trivial, ?_, M2, rfl, h1, hF⟩
          show some (Sum.inl (M2 33 0 0 3)) = _
          rw [h1, (hP k).1]
      obtain ⟨M2, c2, k1, k2⟩ := hmod
      obtain ⟨p1, p2, p3⟩ := hP k
      refine JJ_w (v := nI (k0 + k)) hR c1 c2 (fun r bb h1 h2 _ _ _ => r3 r bb (by omega)) (kN_B k2) ?_
      rw [k1]
      have hr := hR.1
      rw [ha] at hr
      refine RR_r hr (fun r hr => r3 r 0 (by omega)) (fun bb hb => ⟨r3 21 bb (by omega), r3 27 bb (by omega)⟩) ⟨k0 + k, by omega, p1, r1, r2⟩ ?_ ?_ ?_
      · rw [p2 4 (by omega) (by omega), show (fun j => fdK a k0 w k (164 + j)) = (fun j => a (164 + j)) from funext fun j => p2 _ (by omega) (by omega)]
        exact RW_cg (r3 21 5 (by omega)) (r3 27 5 (by omega)) hW5
      · intro kk h1 h2 j hj
        rw [p1] at h1
        have hkk : k0 + k = kk := (nI_eq (by omega) (by omega)).mp h1
        by_cases hj2 : j < k0
        · rw [p2 _ (by omega) (by omega)]
          exact hBY k0 u2 u1 j hj2
        · have := p3 (j - k0) (by omega)
          rw [show 114 + (k0 + (j - k0)) = 114 + j by omega] at this
          rw [this]
          exact fb_rg w _
      · intro c c1 c2 c3
        exact p2 c c1 (by omega)
  · refine JJ_e (k := 1) (by decide) (by decide) hR ?_ (fun M1 e33 e26 => ?_)
    · refine am_cl_in am_c87 rfl ?_
      repeat' first | refine am_wp_step _ rfl ?_ | refine am_iteB (fun h => ?_) (fun h => ?_) | refine am_iteN (fun h => ?_) (fun h => ?_) | refine am_ite (fun h => ?_) (fun h => ?_) | refine ⟨_, _, cl_f hg (c_within _ _ _ _ _), ?_⟩ | refine ⟨_, _, c_err1 _ _, ?_⟩ | fail
      exact ⟨trivial, rfl, rfl⟩
    · refine am_cl_in am_c164 rfl ?_
      repeat' first | refine am_wp_step _ rfl ?_ | refine am_iteB (fun h => ?_) (fun h => ?_) | refine am_iteN (fun h => ?_) (fun h => ?_) | refine am_ite (fun h => ?_) (fun h => ?_) | refine ⟨_, _, cl_f hg (m_within _ _ _ _ _), ?_⟩ | refine ⟨_, _, m_find1 _ _, ?_⟩ | fail
      exact ⟨trivial, rfl, rfl⟩
