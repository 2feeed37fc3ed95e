def mG (M M' : am_F) : Prop := ∀ r bb, ¬ (r = 33 ∧ (bb = 5 ∨ bb = 6)) → M' r bb = M r bb
theorem mG_rf {M : am_F} : mG M M := fun _ _ _ => rfl
theorem mG_tr {M M1 M2 : am_F} (h1 : mG M M1) (h2 : mG M1 M2) : mG M M2 := fun r bb h => (h2 r bb h).trans (h1 r bb h)
/-- the model's texts -/
def tx (a : Nat → Int32) : Nat → Int32 := fun j => a (184 + j)
theorem m_hasText (d u : Nat) (M : am_F) (hu : u = 0 ∨ u = 1) : am_cl am_cds (d + 1) 178 [.inr (.inr (26, 0, 0)), .inl (nI u)] (am_S M) (some (.inl (bI (0 < M 33 0 0 (184 + 52 * u))))) (am_S M) := by
  refine am_cl_in am_c178 rfl ?_
  rcases hu with rfl | rfl
  all_goals
    repeat' first | refine am_wp_step _ rfl ?_ | refine am_ite (fun h => ?_) (fun h => ?_) | refine am_andv (by unfold vp_in; decide) ?_ | fail
    all_goals
      refine ⟨by first | exact Or.inl rfl | exact Or.inr rfl, ?_, rfl⟩
      unfold bI
  · have h : M 33 0 0 184 ≤ 0 := h
    simp [Int32.not_lt.mpr h]
  · have h : ¬ M 33 0 0 184 ≤ 0 := h
    simp [Int32.not_le.mp h]
  · have h : M 33 0 0 236 ≤ 0 := h
    simp [Int32.not_lt.mpr h]
  · have h : ¬ M 33 0 0 236 ≤ 0 := h
    simp [Int32.not_le.mp h]
theorem m_given (d u : Nat) (a b cc e : Int32) (M : am_F) (hu : u = 0 ∨ u = 1) (hW : WX (tx (M 33 0 0)) u) : ∃ M', am_cl am_cds (d + 3) 179 [.inr (.inr (26, 0, 0)), .inl (nI u), .inl a, .inl b, .inl cc, .inl e] (am_S M) (some (.inl (gv (tx (M 33 0 0)) u a b cc e))) (am_S M') ∧ mG M M' := by
  refine am_cl_v (mG M) am_c179 rfl ?_
  iterate 4
    iterate 5 refine am_wp_step _ rfl ?_
    refine ⟨by unfold vp_in; decide, ?_⟩
  generalize hM1 : am_up _ 33 5 0 _ e = M1
  have hM1 : am_up (am_up (am_up (am_up M 33 5 0 0 a) 33 5 0 1 b) 33 5 0 2 cc) 33 5 0 3 e = M1 := hM1
  have hn : ∀ k, k < 4 → M1 33 5 0 k = nmL a b cc e k := by
    intro k hk
    rw [← hM1]
    rcases (by omega : k = 0 ∨ k = 1 ∨ k = 2 ∨ k = 3) with rfl | rfl | rfl | rfl <;> rfl
  have hF : mG M M1 := by
    intro r bb h
    rw [← hM1, am_up_rb (by omega), am_up_rb (by omega), am_up_rb (by omega), am_up_rb (by omega)]
  have h0 : M1 33 0 0 = M 33 0 0 := congrFun (hF 33 0 (by omega)) 0
  obtain ⟨c, hc, hx, hw⟩ := hW
  have hx1 : M1 33 0 0 (184 + 52 * u) = nI c := by rw [h0]; exact hx
  have hcl : (nI c).toNatClampNeg = c := nI_clamp (by omega)
  have hww : 0 < c → wfc (fun j => M1 33 0 0 (185 + 52 * u + j)) c := by
    intro hp
    have := hw hp
    rw [h0]
    have e1 : (fun j => M 33 0 0 (185 + 52 * u + j)) = (fun j => tx (M 33 0 0) (52 * u + 1 + j)) := by
      funext j
      unfold tx
      congr 1
      omega
    rw [e1]
    exact this
  have e2 : (fun j => M1 33 0 0 (185 + 52 * u + j)) = (fun j => tx (M 33 0 0) (52 * u + 1 + j)) := by
    funext j
    unfold tx
    rw [h0]
    congr 1
    omega
  have hgt : 0 < c → (0 : Int32) < nI c := fun hp => nI_lt (a := 0) hp (by omega)
  rcases hu with rfl | rfl
  · iterate 5 refine am_wp_step _ rfl ?_
    refine ⟨_, _, m_hasText _ 0 _ (Or.inl rfl), ?_⟩
    iterate 1 refine am_wp_step _ rfl ?_
    have hx : tx (M 33 0 0) 0 = nI c := hx
    by_cases hc0 : c = 0
    · rw [show bI (0 < M1 33 0 0 (184 + 52 * 0)) = 0 from bI_f (by rw [hx1, hc0]; decide)]
      iterate 2 refine am_wp_step _ rfl ?_
      refine ⟨trivial, ?_, M1, rfl, hF⟩
      unfold gv
      rw [if_pos rfl, hx, hc0]
      rfl
    · have hp := hgt (by omega)
      rw [show bI (0 < M1 33 0 0 (184 + 52 * 0)) = 1 from bI_t (by rw [hx1]; exact hp)]
      iterate 3 refine am_wp_step _ rfl ?_
      refine am_call1 (m_worked _ 0 c (nmL a b cc e) M1 (Or.inl rfl) hx1 hc (hww (by omega)) hn) (fun M2 hF2 => ?_)
      iterate 3 refine am_wp_step _ rfl ?_
      refine ⟨_, _, m_held _ _ _ _ _, ?_⟩
      iterate 2 refine am_wp_step _ rfl ?_
      refine ⟨trivial, ?_, M2, rfl, mG_tr hF fun r bb h => hF2 r bb (by omega)⟩
      unfold gv tv
      rw [if_pos rfl, hx, if_pos hp, e2, hcl]
  · iterate 5 refine am_wp_step _ rfl ?_
    refine ⟨_, _, m_hasText _ 1 _ (Or.inr rfl), ?_⟩
    iterate 1 refine am_wp_step _ rfl ?_
    have hx : tx (M 33 0 0) 52 = nI c := hx
    by_cases hc0 : c = 0
    · rw [show bI (0 < M1 33 0 0 (184 + 52 * 1)) = 0 from bI_f (by rw [hx1, hc0]; decide)]
      have hz : ¬ (0 : Int32) < nI c := by rw [hc0]; decide
      repeat' first | refine am_wp_step _ rfl ?_ | refine am_ite (fun h => ?_) (fun h => ?_) | refine ⟨by decide, ?_⟩ | refine ⟨_, _, m_held _ _ _ _ _, ?_⟩ | fail
      · refine ⟨trivial, ?_, M1, rfl, hF⟩
        unfold gv
        rw [if_neg (by decide), hx, if_neg hz, if_neg (Int32.not_lt.mpr h)]
      · refine ⟨trivial, ?_, M1, rfl, hF⟩
        unfold gv
        rw [if_neg (by decide), hx, if_neg hz, if_pos (Int32.not_le.mp h)]
    · have hp := hgt (by omega)
      rw [show bI (0 < M1 33 0 0 (184 + 52 * 1)) = 1 from bI_t (by rw [hx1]; exact hp)]
      iterate 3 refine am_wp_step _ rfl ?_
      refine am_call1 (m_worked _ 1 c (nmL a b cc e) M1 (Or.inr rfl) hx1 hc (hww (by omega)) hn) (fun M2 hF2 => ?_)
      iterate 4 refine am_wp_step _ rfl ?_
      refine ⟨_, _, m_held _ _ _ _ _, ?_⟩
      iterate 1 refine am_wp_step _ rfl ?_
      refine ⟨trivial, ?_, M2, rfl, mG_tr hF fun r bb h => hF2 r bb (by omega)⟩
      unfold gv tv
      rw [if_neg (by decide), hx, if_pos hp, e2, hcl]
