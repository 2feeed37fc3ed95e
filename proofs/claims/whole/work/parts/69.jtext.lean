/-! TEXT, TOGETHER -/
theorem dp_cg {f g : Nat → Int32} {c : Nat} (h : ∀ k, k < c → g k = f k) : ∀ k, k ≤ c → dp g k = dp f k := by
  intro k
  induction k with
  | zero => intro _; rfl
  | succ k ih =>
    intro hk
    unfold dp
    rw [h k (by omega), ih (by omega)]
theorem wfc_cg {f g : Nat → Int32} {c : Nat} (h : ∀ k, k < c → g k = f k) (p : wfc f c) : wfc g c := by
  refine ⟨(dp_cg h c (Nat.le_refl _)).trans p.1, fun k hk => ?_⟩
  rw [h k hk, dp_cg h k (by omega)]
  exact p.2 k hk
theorem WX_cg {x y : Nat → Int32} {u : Nat} (h : ∀ j, j < 52 → y (52 * u + j) = x (52 * u + j)) (p : WX x u) : WX y u := by
  obtain ⟨c, h1, h2, h3⟩ := p
  have e0 : y (52 * u) = x (52 * u) := h 0 (by omega)
  refine ⟨c, h1, e0.trans h2, fun q => wfc_cg (fun k hk => ?_) (h3 q)⟩
  have := h (1 + k) (by omega)
  rw [← Nat.add_assoc] at this
  exact this
theorem RT_cgx {M : am_F} {t u : Nat} {x y : Nat → Int32} (hw : WX x u) (h : ∀ j, j < 52 → y (52 * u + j) = x (52 * u + j)) (p : RT M t u x) : RT M t u y := by
  obtain ⟨c, h1, h2, h3⟩ := hw
  have e0 : y (52 * u) = x (52 * u) := h 0 (by omega)
  refine ⟨by rw [e0]; exact p.1, fun j hj => ?_⟩
  rw [e0] at hj
  have hj2 := hj
  rw [h2, nI_clamp (by omega)] at hj2
  have := h (1 + j) (by omega)
  rw [← Nat.add_assoc] at this
  rw [this]
  exact p.2 j hj
theorem RR_x {M M1 : am_F} {a a' : Nat → Int32} {u : Nat} (hu : u = 0 ∨ u = 1) (hR : RR M 0 a) (hF : ∀ r bb, ¬ ((r = 21 ∨ r = 27) ∧ bb = 2 * u) → M1 r bb = M r bb) (hs : ∀ c, ¬ (184 + 52 * u ≤ c ∧ c < 236 + 52 * u) → a' c = a c) (hT : RT M1 u u (tx a')) (hW : WX (tx a') u) : RR M1 0 a' := by
  obtain ⟨n, m, q1, q2, q3, q4, q5, q6, q7, q8, q9, q10, q11⟩ := hR
  obtain ⟨g1, g2, g3, g4, g5, g6, g7, g8⟩ := q1
  have e : ∀ c, c < 184 → a' c = a c := fun c h1 => hs c (by omega)
  have et : ∀ v, v = 0 ∨ v = 1 → v ≠ u → ∀ j, j < 52 → tx a' (52 * v + j) = tx a (52 * v + j) := fun v hv hne j hj => hs _ (by omega)
  have W : ∀ v, v = 0 ∨ v = 1 → WX (tx a) v → WX (tx a') v := fun v hv w => by
    by_cases c : v = u
    · rw [c]; exact hW
    · exact WX_cg (et v hv c) w
  have T : ∀ v, v = 0 ∨ v = 1 → WX (tx a) v → RT M v v (tx a) → RT M1 v v (tx a') := fun v hv w t => by
    by_cases c : v = u
    · rw [c]; exact hT
    · refine RT_cgx w (et v hv c) (RT_cg2 (hF 21 _ (by omega)) (hF 27 _ (by omega)) t)
  refine ⟨n, m, ⟨g1, g2, ?_, ?_, fun i hi => ?_, fun i hi => ?_, W 0 (by omega) g7, W 1 (by omega) g8⟩, ?_, ?_, T 0 (by omega) g7 q4, T 1 (by omega) g8 q5, ?_, ?_, ?_, ?_, ?_, ?_⟩
  · rw [e 1 (by omega)]; exact g3
  · rw [e 2 (by omega)]; exact g4
  · rw [e _ (by omega), e _ (by omega), e _ (by omega), e _ (by omega), e _ (by omega)]
    exact g5 i hi
  · rw [e _ (by omega), e _ (by omega), e _ (by omega)]
    exact g6 i hi
  · have ho : odr a' n = odr a n := odr_cg fun j hj => e _ (by omega)
    rw [ho]
    obtain ⟨b1, b2, b3, b4, b5, b6, b7⟩ := q2
    unfold RB
    rw [hF 16 _ (by omega), hF 17 _ (by omega), hF 18 _ (by omega), hF 28 _ (by omega), hF 29 _ (by omega)]
    exact ⟨b1, b2, by rw [e 0 (by omega)]; exact b3, fun i k hi hk => by rw [e _ (by omega)]; exact b4 i k hi hk, fun i k hi hk => by rw [e _ (by omega)]; exact b5 i k hi hk, fun j hj => by rw [e _ (by omega)]; exact b6 j hj, b7⟩
  · rw [hF 16 _ (by omega)]; exact q3
  · obtain ⟨k, k1, k2, k3, k4⟩ := q6
    exact ⟨k, k1, by rw [e 3 (by omega)]; exact k2, by rw [hF 21 _ (by omega)]; exact k3, fun j hj => by show M1 27 (6 * 0 + 4) 0 j = a' (114 + j); rw [hF 27 _ (by omega), e _ (by omega)]; exact k4 j hj⟩
  · obtain ⟨k, k1, k2, k3, k4⟩ := q7
    exact ⟨k, k1, by rw [e 4 (by omega)]; exact k2, by rw [hF 21 _ (by omega)]; exact k3, fun j hj => by show M1 27 (6 * 0 + 5) 0 j = a' (164 + j); rw [hF 27 _ (by omega), e _ (by omega)]; exact k4 j hj⟩
  · rw [hF 20 _ (by omega), e 5 (by omega)]; exact q8
  · rw [e 0 (by omega)]; exact q9
  · intro k hk hk2 j hj
    rw [e 3 (by omega)] at hk
    rw [e _ (by omega)]
    exact q10 k hk hk2 j hj
  · intro k hk
    rw [hs k (by omega)]
    exact q11 k hk
theorem c_textF {u N p : Nat} {h : Nat → Int32} {M : am_F} (hu : u = 0 ∨ u = 1) (hp : p ≤ 50) (T0 : TR M h N) (q : CR h (nmU u) N true 0 [] [] (.inl p)) : ∃ M1, am_cl am_cds 1000 88 [.inr (.inr (25, 0, 0)), .inl (nI u)] (am_S M) (some (.inl (-10 - nI p))) (am_S (am_up M1 21 4 0 1 0)) ∧ fc M M1 := by
  obtain ⟨v, M1, k1, k2, k3⟩ := c_read (d := 990) hu T0 q
  have k3 : v = some (.inl (nI p)) := k3
  subst k3
  refine ⟨M1, ?_, k2⟩
  refine am_cl_in am_c88 rfl ?_
  have hne : ¬ nI p = -1 := by
    intro w
    exact nI_pos (n := p) (by omega) (by rw [w]; decide)
  rcases hu with rfl | rfl
  all_goals
    iterate 2 refine am_wp_step _ rfl ?_
    refine ⟨_, _, cl_t (by decide) (c_isUse _ _ _), ?_⟩
    iterate 5 refine am_wp_step _ rfl ?_
    first | refine ⟨_, _, c_textOf _ 0 (am_S M) (Or.inl rfl), ?_⟩ | refine ⟨_, _, c_textOf _ 1 (am_S M) (Or.inr rfl), ?_⟩
    iterate 9 refine am_wp_step _ rfl ?_
    refine ⟨_, _, k1, ?_⟩
    iterate 5 refine am_wp_step _ rfl ?_
    refine ⟨_, c_clear _ 4 M1, ?_⟩
    iterate 3 refine am_wp_step _ rfl ?_
    refine am_iteF hne ?_
    iterate 4 refine am_wp_step _ rfl ?_
    exact ⟨trivial, rfl, rfl⟩
theorem c_textT {u N : Nat} {h : Nat → Int32} {M : am_F} {E : List Int32} (hu : u = 0 ∨ u = 1) (hE : E.length ≤ 50) (T0 : TR M h N) (q : CR h (nmU u) N true 0 [] [] (.inr E)) : ∃ M1 M2, am_cl am_cds 1000 88 [.inr (.inr (25, 0, 0)), .inl (nI u)] (am_S M) (some (.inl 1)) (am_S M2) ∧ fc M M1 ∧ rwS M1 12 E ∧ rw_cp (am_up M1 21 4 0 1 0) M2 (2 * u) 12 E.length := by
  obtain ⟨v, M1, k1, k2, k3⟩ := c_read (d := 990) hu T0 q
  obtain ⟨rfl, k4⟩ := k3
  obtain ⟨M2, k5, k6⟩ := c_takeCode 996 u (2 * u) 12 E.length (am_up M1 21 4 0 1 0) (by omega) (by omega) (by omega) (by rw [am_up_b (by decide)]; exact k4.1) hE rfl
  refine ⟨M1, M2, ?_, k2, k4, k6⟩
  refine am_cl_in am_c88 rfl ?_
  rcases hu with rfl | rfl
  all_goals
    iterate 2 refine am_wp_step _ rfl ?_
    refine ⟨_, _, cl_t (by decide) (c_isUse _ _ _), ?_⟩
    iterate 5 refine am_wp_step _ rfl ?_
    first | refine ⟨_, _, c_textOf _ 0 (am_S M) (Or.inl rfl), ?_⟩ | refine ⟨_, _, c_textOf _ 1 (am_S M) (Or.inr rfl), ?_⟩
    iterate 9 refine am_wp_step _ rfl ?_
    refine ⟨_, _, k1, ?_⟩
    iterate 5 refine am_wp_step _ rfl ?_
    refine ⟨_, c_clear _ 4 M1, ?_⟩
    iterate 8 refine am_wp_step _ rfl ?_
    refine ⟨_, k5, ?_⟩
    iterate 2 refine am_wp_step _ rfl ?_
    exact ⟨trivial, rfl, rfl⟩
