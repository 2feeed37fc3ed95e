/-! TEXTS GIVE: class and model -/
def nmL (a b c e : Int32) : Nat → Int32 := fun k => am_nth [a, b, c, e] k 0
theorem bI_sub {x : Int32} (h : 10000 ≤ x) (h2 : x < 10004) : ∃ j : Nat, j < 4 ∧ x - 10000 = nI j := nI_exb (b := 4) (by lia) (by show x - 10000 < 4; lia) (by decide)
theorem c_workOut (d t c : Nat) (f : Nat → Int32) (a b cc e : Int32) (M : am_F) (ht : t = 0 ∨ t = 1) (hs : M 21 (6 * (t / 2) + 2 * (t % 2)) 0 1 = nI c) (hc : c ≤ 50) (hcode : ∀ j, j < c → M 27 (6 * (t / 2) + 2 * (t % 2)) 0 j = cv (f j)) (hw : wfc f c) : ∃ M', am_cl am_cds (d + 2) 70 [.inr (.inr (24, t, 0)), .inl a, .inl b, .inl cc, .inl e] (am_S M) (some (.inl ((ev (nmL a b cc e) f c).headD 0))) (am_S M') ∧ rwF M M' ((6 * (t / 2) + 2 * (t % 2)) + 1) := by
  have hlc : am_ln 27 (6 * (t / 2) + 2 * (t % 2)) = 50 := by rcases ht with rfl | rfl <;> rfl
  have hlv : am_ln 27 ((6 * (t / 2) + 2 * (t % 2)) + 1) = 50 := by rcases ht with rfl | rfl <;> rfl
  have hl2 : (50 : Nat) < 2 ^ 31 := by decide
  refine am_cl_v (fun M' => rwF M M' ((6 * (t / 2) + 2 * (t % 2)) + 1)) am_c70 rfl ?_
  iterate 3 refine am_wp_step _ rfl ?_
  refine ⟨_, c_clear _ _ _, ?_⟩
  iterate 2 refine am_wp_step _ rfl ?_
  refine am_for1 5 (fun x => [(0, .inr (.inr (24, t, 0))), (1, .inl a), (2, .inl b), (3, .inl cc), (4, .inl e), (5, .inl x)]) (fun i x M1 => x = nI i ∧ rwS M1 ((6 * (t / 2) + 2 * (t % 2)) + 1) (ev (nmL a b cc e) f i) ∧ rwF M M1 ((6 * (t / 2) + 2 * (t % 2)) + 1)) c ?_ ?_ 0 0 _ (Nat.zero_le _) ⟨nI_0.symm, ⟨am_up_same, trivial⟩, fun r bb h => am_up_rb (fun q => h ⟨Or.inl q.1, q.2⟩)⟩
  · intro i x M1 hi hP K
    obtain ⟨hx, hS, hF⟩ := hP
    have e1 : M1 21 (6 * (t / 2) + 2 * (t % 2)) 0 1 = nI c := (congrFun (congrFun (hF 21 (6 * (t / 2) + 2 * (t % 2)) (by omega)) 0) 1).trans hs
    have e2 : M1 27 (6 * (t / 2) + 2 * (t % 2)) 0 i = cv (f i) := (congrFun (congrFun (hF 27 (6 * (t / 2) + 2 * (t % 2)) (by omega)) 0) i).trans (hcode i hi)
    have hwf := hw.2 i hi
    have hlen := ev_len (nm := nmL a b cc e) hw.2 (Nat.le_of_lt hi)
    have hdl := dp_le f i
    iterate 5 refine am_wp_step _ rfl ?_
    refine am_iteF (by show ¬ M1 21 (6 * (t / 2) + 2 * (t % 2)) 0 1 ≤ x; rw [e1, hx]; exact nI_ge hi (by omega)) ?_
    iterate 5 refine am_wp_step _ rfl ?_
    refine am_ixN i hx (by rw [hlc]; omega) (by rw [hlc]; decide) (fun hix => ?_)
    rw [hix, show (am_S M1).2.2 27 (6 * (t / 2) + 2 * (t % 2)) 0 i = cv (f i) from e2]
    rcases hwf with hwf | hwf | hwf
    · rw [cv_lo (by lia)]
      by_cases h1 : f i < 10000
      · iterate 4 refine am_wp_step _ rfl ?_
        refine am_iteF (Int32.not_le.mpr h1) ?_
        iterate 4 refine am_wp_step _ rfl ?_
        obtain ⟨M2, c1, hS2, hF2⟩ := c_addS d ((6 * (t / 2) + 2 * (t % 2)) + 1) (f i) _ M1 hS (by rw [hlv, hlen]; omega) (by rw [hlv]; decide)
        refine ⟨_, c1, ?_⟩
        iterate 3 refine am_wp_step _ rfl ?_
        refine K _ _ ⟨by rw [hx, nI_1], ?_, rwF_tr hF hF2⟩
        unfold ev ev1
        rw [if_pos h1]
        exact hS2
      · obtain ⟨j, hj, hj2⟩ := bI_sub (x := f i) (by lia) hwf.2
        iterate 4 refine am_wp_step _ rfl ?_
        refine am_iteT (Int32.not_lt.mp h1) ?_
        iterate 3 refine am_wp_step _ rfl ?_
        refine am_iteF (by lia) ?_
        iterate 10 refine am_wp_step _ rfl ?_
        rw [hj2]
        refine ⟨_, _, c_named d j a b cc e _ hj, ?_⟩
        iterate 1 refine am_wp_step _ rfl ?_
        obtain ⟨M2, c1, hS2, hF2⟩ := c_addS d ((6 * (t / 2) + 2 * (t % 2)) + 1) (nmL a b cc e j) _ M1 hS (by rw [hlv, hlen]; omega) (by rw [hlv]; decide)
        refine ⟨_, c1, ?_⟩
        iterate 3 refine am_wp_step _ rfl ?_
        refine K _ _ ⟨by rw [hx, nI_1], ?_, rwF_tr hF hF2⟩
        unfold ev ev1
        rw [if_neg h1, if_pos (by lia), hj2, nI_clamp (by omega)]
        exact hS2
    · obtain ⟨hwa, hwb⟩ := hwf
      cases hst : ev (nmL a b cc e) f i with
      | nil => rw [hst] at hlen; simp at hlen; omega
      | cons y st =>
        rw [hst] at hS hlen
        have hln : st.length < 50 := by simp at hlen; omega
        rw [hwa, show cv 20010 = 20033 from rfl]
        iterate 10 refine am_wp_step _ rfl ?_
        refine ⟨_, _, c_lastS d ((6 * (t / 2) + 2 * (t % 2)) + 1) _ M1 hS (by rw [hlv]; simp; omega) (by rw [hlv]; decide), ?_⟩
        iterate 4 refine am_wp_step _ rfl ?_
        obtain ⟨M2, c1, hS2, hF2⟩ := c_dropS d ((6 * (t / 2) + 2 * (t % 2)) + 1) y st M1 hS (by rw [hlv]; omega) (by rw [hlv]; decide)
        refine ⟨_, c1, ?_⟩
        iterate 13 refine am_wp_step _ rfl ?_
        refine ⟨_, _, c_joined d _ _ _ _, ?_⟩
        iterate 1 refine am_wp_step _ rfl ?_
        obtain ⟨M3, c3, hS3, hF3⟩ := c_addS d ((6 * (t / 2) + 2 * (t % 2)) + 1) (sp_join (20033 - 20000) 0 y) st M2 hS2 (by rw [hlv]; omega) (by rw [hlv]; decide)
        refine ⟨_, c3, ?_⟩
        iterate 2 refine am_wp_step _ rfl ?_
        refine K _ _ ⟨by rw [hx, nI_1], ?_, rwF_tr hF (rwF_tr hF2 hF3)⟩
        unfold ev ev1
        rw [hwa, if_neg (by decide), if_neg (by decide), if_pos rfl, hst]
        exact hS3
    · obtain ⟨hwa, hwb, hwd⟩ := hwf
      obtain ⟨hv1, hv2⟩ := cv_hi hwa hwb
      have hop := fun a b => cv_op (a := a) (b := b) hwa hwb
      match hst : ev (nmL a b cc e) f i with
      | [] => rw [hst] at hlen; simp at hlen; omega
      | [y] => rw [hst] at hlen; simp at hlen; omega
      | y :: x1 :: st =>
        rw [hst] at hS hlen
        have hln : st.length < 49 := by simp at hlen; omega
        iterate 4 refine am_wp_step _ rfl ?_
        refine am_iteT (by lia) ?_
        iterate 3 refine am_wp_step _ rfl ?_
        refine am_iteT (by lia) ?_
        iterate 3 refine am_wp_step _ rfl ?_
        refine ⟨_, _, c_lastS d ((6 * (t / 2) + 2 * (t % 2)) + 1) _ M1 hS (by rw [hlv]; simp; omega) (by rw [hlv]; decide), ?_⟩
        iterate 4 refine am_wp_step _ rfl ?_
        obtain ⟨M2, c1, hS2, hF2⟩ := c_dropS d ((6 * (t / 2) + 2 * (t % 2)) + 1) y (x1 :: st) M1 hS (by rw [hlv]; simp; omega) (by rw [hlv]; decide)
        refine ⟨_, c1, ?_⟩
        iterate 5 refine am_wp_step _ rfl ?_
        refine am_iteF hv2 ?_
        iterate 3 refine am_wp_step _ rfl ?_
        refine ⟨_, _, c_lastS d ((6 * (t / 2) + 2 * (t % 2)) + 1) _ M2 hS2 (by rw [hlv]; simp; omega) (by rw [hlv]; decide), ?_⟩
        iterate 4 refine am_wp_step _ rfl ?_
        obtain ⟨M4, c4, hS4, hF4⟩ := c_dropS d ((6 * (t / 2) + 2 * (t % 2)) + 1) x1 st M2 hS2 (by rw [hlv]; omega) (by rw [hlv]; decide)
        refine ⟨_, c4, ?_⟩
        iterate 8 refine am_wp_step _ rfl ?_
        refine ⟨_, _, c_joined d _ _ _ _, ?_⟩
        iterate 1 refine am_wp_step _ rfl ?_
        obtain ⟨M3, c3, hS3, hF3⟩ := c_addS d ((6 * (t / 2) + 2 * (t % 2)) + 1) (sp_join (cv (f i) - 20000) x1 y) st M4 hS4 (by rw [hlv]; omega) (by rw [hlv]; decide)
        refine ⟨_, c3, ?_⟩
        iterate 2 refine am_wp_step _ rfl ?_
        refine K _ _ ⟨by rw [hx, nI_1], ?_, rwF_tr hF (rwF_tr hF2 (rwF_tr hF4 hF3))⟩
        unfold ev ev1
        rw [if_neg (by lia), if_neg (by lia), if_neg (by lia), hst]
        rw [hop] at hS3
        exact hS3
  · intro x M1 hP
    obtain ⟨hx, hS, hF⟩ := hP
    have e1 : M1 21 (6 * (t / 2) + 2 * (t % 2)) 0 1 = nI c := (congrFun (congrFun (hF 21 (6 * (t / 2) + 2 * (t % 2)) (by omega)) 0) 1).trans hs
    have hlen := ev_len (nm := nmL a b cc e) hw.2 (Nat.le_refl c)
    iterate 5 refine am_wp_step _ rfl ?_
    refine am_iteT (by show M1 21 (6 * (t / 2) + 2 * (t % 2)) 0 1 ≤ x; rw [e1, hx]; exact nI_le (Nat.le_refl _) (by omega)) ?_
    iterate 3 refine am_wp_step _ rfl ?_
    refine ⟨_, _, c_lastS d ((6 * (t / 2) + 2 * (t % 2)) + 1) _ M1 hS (by rw [hlv, hlen, hw.1]; decide) (by rw [hlv]; decide), ?_⟩
    iterate 1 refine am_wp_step _ rfl ?_
    exact ⟨trivial, rfl, M1, rfl, hF⟩
