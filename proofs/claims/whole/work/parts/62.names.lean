/-! NAMES -/
theorem m_nameOf (d u : Nat) (c : Int32) (M : am_F) (hu : u = 0 ∨ u = 1) (h8 : M 26 0 0 8 = nI u) : am_cl am_cds (d + 5) 173 [.inr (.inr (26, 0, 0)), .inl c] (am_S M) (some (.inl (nmU u c))) (am_S M) := by
  refine am_cl_in am_c173 rfl ?_
  have hin : vp_in (M 26 0 0 8) 2 := by rw [h8]; rcases hu with rfl | rfl <;> (unfold vp_in; decide)
  have hcl : (M 26 0 0 8).toNatClampNeg = u := by rw [h8]; exact nI_clamp (by omega)
  have hloop : ∀ (j : Nat) (v : Int32), j ≤ am_bl u → v = (if u = 0 then (if c = 104 ∧ 0 < j then 0 else if c = 115 ∧ 1 < j then 1 else if c = 114 ∧ 2 < j then 2 else if c = 107 ∧ 3 < j then 3 else -1) else (if c = 112 ∧ 0 < j then 0 else if c = 104 ∧ 1 < j then 1 else if c = 117 ∧ 2 < j then 2 else -1)) → am_wp (am_cl am_cds (d + 4)) am_c173 (fun w m => w = some (Sum.inl (nmU u c)) ∧ m = am_S M) 4 [(0, .inr (.inr (26, 0, 0))), (1, .inl c), (2, .inl v), (3, .inl (nI j))] [] (am_S M) := by
    intro j
    induction hk : am_bl u - j generalizing j with
    | zero =>
      intro v hj hv
      have hj : j = am_bl u := by omega
      iterate 6 refine am_wp_step _ rfl ?_
      refine ⟨hin, ?_⟩
      rw [hcl]
      iterate 1 refine am_wp_step _ rfl ?_
      refine ⟨_, _, s_len (d + 2) u M hu, ?_⟩
      iterate 1 refine am_wp_step _ rfl ?_
      refine am_iteT (show nI (am_bl u) ≤ nI j by rw [hj]; exact Int32.le_refl _) ?_
      iterate 2 refine am_wp_step _ rfl ?_
      refine ⟨trivial, ?_, rfl⟩
      rw [hv, hj]
      rcases hu with rfl | rfl
      · have e : am_bl 0 = 4 := rfl
        rw [e]; unfold nmU; simp
      · have e : am_bl 1 = 3 := rfl
        rw [e]; unfold nmU; simp
    | succ k ih =>
      intro v hj hv
      have hb : am_bl u < 2 ^ 31 := by rcases hu with rfl | rfl <;> decide
      have hbt : am_bt u j = (if u = 0 then (if j = 0 then 104 else if j = 1 then 115 else if j = 2 then 114 else 107) else (if j = 0 then 112 else if j = 1 then 104 else 117)) := by
        rcases hu with rfl | rfl
        · rcases (by have : am_bl 0 = 4 := rfl; omega : j = 0 ∨ j = 1 ∨ j = 2 ∨ j = 3) with rfl | rfl | rfl | rfl <;> rfl
        · rcases (by have : am_bl 1 = 3 := rfl; omega : j = 0 ∨ j = 1 ∨ j = 2) with rfl | rfl | rfl <;> rfl
      have hj4 : j < 4 := by
        rcases hu with rfl | rfl
        · have : am_bl 0 = 4 := rfl
          omega
        · have : am_bl 1 = 3 := rfl
          omega
      iterate 6 refine am_wp_step _ rfl ?_
      refine ⟨hin, ?_⟩
      rw [hcl]
      iterate 1 refine am_wp_step _ rfl ?_
      refine ⟨_, _, s_len (d + 2) u M hu, ?_⟩
      iterate 1 refine am_wp_step _ rfl ?_
      refine am_iteF (show ¬ nI (am_bl u) ≤ nI j from nI_ge (by omega) hb) ?_
      iterate 5 refine am_wp_step _ rfl ?_
      refine ⟨hin, ?_⟩
      rw [hcl]
      iterate 2 refine am_wp_step _ rfl ?_
      refine ⟨_, _, s_at d u j M hu (by omega), ?_⟩
      iterate 2 refine am_wp_step _ rfl ?_
      refine am_ite (fun h => ?_) (fun h => ?_)
      · iterate 4 refine am_wp_step _ rfl ?_
        rw [show nI j + 1 = nI (j + 1) from nI_1 j]
        refine ih (j + 1) (by omega) v (by omega) ?_
        have h : am_bt u j ≠ c := h
        rw [hbt] at h
        rw [hv]
        clear ih hv hbt hcl hin
        rcases (by omega : j = 0 ∨ j = 1 ∨ j = 2 ∨ j = 3) with rfl | rfl | rfl | rfl <;> grind
      · iterate 5 refine am_wp_step _ rfl ?_
        rw [show nI j + 1 = nI (j + 1) from nI_1 j]
        refine ih (j + 1) (by omega) (nI j) (by omega) ?_
        have h : am_bt u j = c := Decidable.not_not.mp h
        rw [hbt] at h
        clear ih hv hbt hcl hin
        rcases (by omega : j = 0 ∨ j = 1 ∨ j = 2 ∨ j = 3) with rfl | rfl | rfl | rfl <;> (subst h; rcases hu with rfl | rfl <;> first | (simp; done) | (simp; rfl) | (exfalso; have : am_bl 1 = 3 := rfl; omega))
  iterate 4 refine am_wp_step _ rfl ?_
  exact hloop 0 (-1) (Nat.zero_le _) (by simp)
theorem nI_b8 {k : Nat} (hk : k < 128) : (nI k).toInt8.toInt32 = nI k := (by decide +kernel : ∀ k, k < 128 → (nI k).toInt8.toInt32 = nI k) k hk
theorem nI_b8n {k : Nat} (hk : k < 256) (h : 128 ≤ k) : (nI k).toInt8.toInt32 < 0 := (by decide +kernel : ∀ k, k < 256 → 128 ≤ k → (nI k).toInt8.toInt32 < 0) k hk h
theorem b_eq (c : Int32) (h0 : 0 ≤ c) (h1 : c ≤ 255) (k : Nat) (hk : k < 128) (h : c.toInt8.toInt32 = nI k) : c = nI k := by
  obtain ⟨j, hj, rfl⟩ := nI_exb h0 (show c < nI 256 by have : nI 256 = 256 := rfl; rw [this]; lia) (by decide)
  by_cases q : j < 128
  · rw [nI_b8 q] at h; exact h
  · have h2 := nI_b8n hj (by omega)
    rw [h] at h2
    exact absurd h2 (nI_pos (by omega))
theorem s_idx (d u : Nat) (c : Int32) (M : am_F) (hu : u = 0 ∨ u = 1) (h0 : 0 ≤ c) (h1 : c ≤ 255) : am_cl am_cds (d + 5) 226 [.inr (.inr (3, 0, u)), .inl c] (am_S M) (some (.inl (nmU u c))) (am_S M) := by
  have hb : am_bl u < 2 ^ 31 := by rcases hu with rfl | rfl <;> decide
  have h234 : am_cl am_cds (d + 2) 234 [.inr (.inr (4, 0, u)), .inl c, .inl 0, .inl (nI (am_bl u))] (am_S M) (some (.inl (nmU u c))) (am_S M) := by
    refine am_cl_in am_c234 rfl ?_
    iterate 5 refine am_wp_step _ rfl ?_
    have hbt : ∀ j, j < am_bl u → ∃ k, k < 128 ∧ am_bt u j = nI k := by
      intro j hj
      rcases hu with rfl | rfl
      · rcases (by have : am_bl 0 = 4 := rfl; omega : j = 0 ∨ j = 1 ∨ j = 2 ∨ j = 3) with rfl | rfl | rfl | rfl
        · exact ⟨104, by decide, rfl⟩
        · exact ⟨115, by decide, rfl⟩
        · exact ⟨114, by decide, rfl⟩
        · exact ⟨107, by decide, rfl⟩
      · rcases (by have : am_bl 1 = 3 := rfl; omega : j = 0 ∨ j = 1 ∨ j = 2) with rfl | rfl | rfl
        · exact ⟨112, by decide, rfl⟩
        · exact ⟨104, by decide, rfl⟩
        · exact ⟨117, by decide, rfl⟩
    have hloop : ∀ j, j ≤ am_bl u → (∀ i, i < j → am_bt u i ≠ c) → am_wp (am_cl am_cds (d + 1)) am_c234 (fun w m => w = some (Sum.inl (nmU u c)) ∧ m = am_S M) 5 [(0, .inr (.inr (4, 0, u))), (1, .inl c), (2, .inl 0), (3, .inl (nI (am_bl u))), (4, .inl c.toInt8.toInt32), (5, .inl (nI j))] [] (am_S M) := by
      intro j
      induction hk : am_bl u - j generalizing j with
      | zero =>
        intro hj hne
        have hj : j = am_bl u := by omega
        iterate 3 refine am_wp_step _ rfl ?_
        refine am_iteT (show nI (am_bl u) ≤ nI j by rw [hj]; exact Int32.le_refl _) ?_
        iterate 2 refine am_wp_step _ rfl ?_
        refine ⟨trivial, ?_, rfl⟩
        rw [hj] at hne
        rcases hu with rfl | rfl
        · have e0 : (104 : Int32) ≠ c := hne 0 (by decide)
          have e1 : (115 : Int32) ≠ c := hne 1 (by decide)
          have e2 : (114 : Int32) ≠ c := hne 2 (by decide)
          have e3 : (107 : Int32) ≠ c := hne 3 (by decide)
          unfold nmU; grind
        · have e0 : (112 : Int32) ≠ c := hne 0 (by decide)
          have e1 : (104 : Int32) ≠ c := hne 1 (by decide)
          have e2 : (117 : Int32) ≠ c := hne 2 (by decide)
          unfold nmU; grind
      | succ k ih =>
        intro hj hne
        iterate 3 refine am_wp_step _ rfl ?_
        refine am_iteF (show ¬ nI (am_bl u) ≤ nI j from nI_ge (by omega) hb) ?_
        iterate 3 refine am_wp_step _ rfl ?_
        refine ⟨vp_in_nI (by omega) hb, ?_⟩
        rw [nI_clamp (by omega)]
        iterate 2 refine am_wp_step _ rfl ?_
        refine am_ite (fun h => ?_) (fun h => ?_)
        · iterate 2 refine am_wp_step _ rfl ?_
          rw [show nI j + 1 = nI (j + 1) from nI_1 j]
          refine ih (j + 1) (by omega) (by omega) (fun i hi => ?_)
          rcases (by omega : i < j ∨ i = j) with q | q
          · exact hne i q
          · subst q
            have h : am_bt u i ≠ c.toInt8.toInt32 := h
            obtain ⟨k2, hk2, e⟩ := hbt i (by omega)
            intro w
            rw [← w, e] at h
            exact h (nI_b8 hk2).symm
        · iterate 2 refine am_wp_step _ rfl ?_
          refine ⟨trivial, ?_, rfl⟩
          have h : am_bt u j = c.toInt8.toInt32 := Decidable.not_not.mp h
          obtain ⟨k2, hk2, e⟩ := hbt j (by omega)
          rw [e] at h
          have hc := b_eq c h0 h1 k2 hk2 h.symm
          rw [← e] at hc
          subst hc
          rcases hu with rfl | rfl
          · rcases (by have : am_bl 0 = 4 := rfl; omega : j = 0 ∨ j = 1 ∨ j = 2 ∨ j = 3) with rfl | rfl | rfl | rfl <;> rfl
          · rcases (by have : am_bl 1 = 3 := rfl; omega : j = 0 ∨ j = 1 ∨ j = 2) with rfl | rfl | rfl <;> rfl
    exact hloop 0 (Nat.zero_le _) (fun i hi => absurd hi (by omega))
  have h233 : am_cl am_cds (d + 3) 233 [.inr (.inr (4, 0, u)), .inl c, .inl 0, .inl (nI (am_bl u))] (am_S M) (some (.inl (nmU u c))) (am_S M) := by
    have h232 : am_cl am_cds (d + 2) 232 [.inl c] (am_S M) (some (.inl 1)) (am_S M) := by
      refine am_cl_in am_c232 rfl ?_
      iterate 2 refine am_wp_step _ rfl ?_
      refine am_iteF (Int32.not_lt.mpr h0) ?_
      iterate 3 refine am_wp_step _ rfl ?_
      refine am_iteF (Int32.not_lt.mpr h1) ?_
      iterate 3 refine am_wp_step _ rfl ?_
      exact ⟨Or.inr rfl, rfl, rfl⟩
    refine am_cl_in am_c233 rfl ?_
    iterate 2 refine am_wp_step _ rfl ?_
    refine ⟨_, _, h232, ?_⟩
    iterate 4 refine am_wp_step _ rfl ?_
    have h222 : am_cl am_cds (d + 2) 222 [.inl 0, .inl 0] (am_S M) (some (.inl 0)) (am_S M) := by
      refine am_cl_in am_c222 rfl ?_
      repeat' first | refine am_wp_step _ rfl ?_ | refine am_iteB (fun h => ?_) (fun h => ?_) | refine am_iteN (fun h => ?_) (fun h => ?_) | refine am_ite (fun h => ?_) (fun h => ?_) | fail
      exact ⟨trivial, rfl, rfl⟩
    refine ⟨_, _, h222, ?_⟩
    have h223 : am_cl am_cds (d + 2) 223 [.inl (nI (am_bl u)), .inl (nI (am_bl u))] (am_S M) (some (.inl (nI (am_bl u)))) (am_S M) := by
      refine am_cl_in am_c223 rfl ?_
      repeat' first | refine am_wp_step _ rfl ?_ | refine am_iteB (fun h => ?_) (fun h => ?_) | refine am_iteN (fun h => ?_) (fun h => ?_) | refine am_ite (fun h => ?_) (fun h => ?_) | fail
      all_goals exact ⟨trivial, rfl, rfl⟩
    iterate 5 refine am_wp_step _ rfl ?_
    refine ⟨_, _, h223, ?_⟩
    iterate 4 refine am_wp_step _ rfl ?_
    refine am_iteT (by rcases hu with rfl | rfl <;> decide) ?_
    iterate 5 refine am_wp_step _ rfl ?_
    refine ⟨_, _, h234, ?_⟩
    iterate 1 refine am_wp_step _ rfl ?_
    exact ⟨trivial, rfl, rfl⟩
  have h227 : am_cl am_cds (d + 4) 227 [.inr (.inr (3, 0, u)), .inl c, .inl 0] (am_S M) (some (.inl (nmU u c))) (am_S M) := by
    refine am_cl_in am_c227 rfl ?_
    iterate 2 refine am_wp_step _ rfl ?_
    refine ⟨_, _, s_lat _ u M hu, ?_⟩
    repeat' first | refine am_wp_step _ rfl ?_ | refine am_iteB (fun h => ?_) (fun h => ?_) | refine am_iteN (fun h => ?_) (fun h => ?_) | refine am_ite (fun h => ?_) (fun h => ?_) | refine ⟨_, _, s_len _ u M hu, ?_⟩ | refine ⟨_, _, h233, ?_⟩ | fail
    exact ⟨trivial, rfl, rfl⟩
  refine am_cl_in am_c226 rfl ?_
  repeat' first | refine am_wp_step _ rfl ?_ | refine am_iteB (fun h => ?_) (fun h => ?_) | refine am_iteN (fun h => ?_) (fun h => ?_) | refine am_ite (fun h => ?_) (fun h => ?_) | refine ⟨_, _, h227, ?_⟩ | fail
  exact ⟨trivial, rfl, rfl⟩
