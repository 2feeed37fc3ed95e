/-! WHO EATS WHAT: the numbers; the class's pick -/
def fu (a : Nat → Int32) (k : Nat) (v : Int32) : Nat → Int32 := fun j => if j = k then v else a j
def tk (E : Int32 → Int32 → Int32 → Int32 → Int32) (g h : Nat → Int32) : Int32 := sp_max 0 (sp_min (h 2) (sp_app g h + E (h 2) (h 0) (g 3) (g 0)))
def pk (E : Int32 → Int32 → Int32 → Int32 → Int32) (g : Nat → Int32) (h : Nat → Nat → Int32) : Nat → Int32
  | 0 => -1
  | n + 1 => if h n 4 = g 5 ∧ (pk E g h n < 0 ∨ sp_pref g (h n) (h (pk E g h n).toNatClampNeg) = true) ∧ 0 < tk E g (h n) then nI n else pk E g h n
theorem pk_s (E : Int32 → Int32 → Int32 → Int32 → Int32) (g : Nat → Int32) (h : Nat → Nat → Int32) (n : Nat) : pk E g h (n + 1) = if h n 4 = g 5 ∧ (pk E g h n < 0 ∨ sp_pref g (h n) (h (pk E g h n).toNatClampNeg) = true) ∧ 0 < tk E g (h n) then nI n else pk E g h n := rfl
theorem pkx_lt (E : Int32 → Int32 → Int32 → Int32 → Int32) (g : Nat → Int32) (h : Nat → Nat → Int32) (n : Nat) : pk E g h n = -1 ∨ ∃ j, j < n ∧ pk E g h n = nI j := by
  induction n with
  | zero => exact Or.inl rfl
  | succ n ih =>
    rw [pk_s]
    split
    · exact Or.inr ⟨n, by omega, rfl⟩
    · rcases ih with ih | ⟨j, h1, h2⟩
      · exact Or.inl ih
      · exact Or.inr ⟨j, by omega, h2⟩
theorem tk_cg {E : Int32 → Int32 → Int32 → Int32 → Int32} {g g' h h' : Nat → Int32} (hg : ∀ k, k < 8 → g' k = g k) (hh : ∀ k, k < 5 → h' k = h k) : tk E g' h' = tk E g h := by
  unfold tk sp_app
  rw [hg 0 (by omega), hg 1 (by omega), hg 3 (by omega), hg 4 (by omega), hh 0 (by omega), hh 2 (by omega)]
theorem pref_cg {g g' h h' o o' : Nat → Int32} (hg : ∀ k, k < 8 → g' k = g k) (hh : ∀ k, k < 5 → h' k = h k) (ho : ∀ k, k < 5 → o' k = o k) : sp_pref g' h' o' = sp_pref g h o := by
  unfold sp_pref
  rw [hg 4 (by omega), hh 0 (by omega), hh 2 (by omega), ho 0 (by omega), ho 2 (by omega)]
theorem pk_cg {E : Int32 → Int32 → Int32 → Int32 → Int32} {g g' : Nat → Int32} {h h' : Nat → Nat → Int32} {n : Nat} (hn : n ≤ 8) (hg : ∀ k, k < 8 → g' k = g k) (hh : ∀ i, i < n → ∀ k, k < 5 → h' i k = h i k) : pk E g' h' n = pk E g h n := by
  induction n with
  | zero => rfl
  | succ n ih =>
    have ih := ih (by omega) (fun i hi => hh i (by omega))
    rw [pk_s, pk_s, ih, hh n (by omega) 4 (by omega), hg 5 (by omega), tk_cg hg (hh n (by omega))]
    rcases pkx_lt E g h n with q | ⟨j, h1, h2⟩
    · rw [q]
      simp only [show ((-1 : Int32) < 0) = True from eq_true (by decide), true_or]
    · rw [h2, nI_clamp (by omega), pref_cg hg (hh n (by omega)) (hh j (by omega))]
theorem c_heatTaken (d b i j : Nat) (x : Nat → Int32) (M : am_F) (hR : RT M 0 0 x) (hW : WX x 0) (hT : TC M) : ∃ M', am_cl am_cds (d + 4) 26 [.inr (.inr (18, b, i)), .inr (.inr (17, b, j)), .inr (.inr (24, 0, 0))] (am_S M) (some (.inl (tk (gv x 0) (M 18 b i) (M 17 b j)))) (am_S M') ∧ rwF M M' 1 := by
  refine am_cl_v (fun M' => rwF M M' 1) am_c26 rfl ?_
  iterate 3 refine am_wp_step _ rfl ?_
  refine ⟨_, _, c_appetite _ _ _ _ _, ?_⟩
  iterate 10 refine am_wp_step _ rfl ?_
  refine am_call1 (c_give d 0 x _ _ _ _ M (Or.inl rfl) hR hW hT) (fun M' hF => ?_)
  iterate 7 refine am_wp_step _ rfl ?_
  refine ⟨_, _, c_min _ _ _ _, ?_⟩
  iterate 1 refine am_wp_step _ rfl ?_
  refine ⟨_, _, c_max _ _ _ _, ?_⟩
  iterate 1 refine am_wp_step _ rfl ?_
  refine ⟨trivial, ?_, M', rfl, hF⟩
  have e : M' 17 b j 2 = M 17 b j 2 := by rw [hF 17 b (by omega)]
  show some (Sum.inl (sp_max 0 (sp_min (M' 17 b j 2) _))) = _
  rw [e]
  rfl
theorem RT_cg {M M' : am_F} {t u : Nat} {x : Nat → Int32} (h : rwF M M' 1) (ht : t = 0) (hR : RT M t u x) : RT M' t u x := by
  subst ht
  refine ⟨?_, fun j hj => ?_⟩
  · rw [h 21 _ (by omega)]; exact hR.1
  · rw [h 27 _ (by omega)]; exact hR.2 j hj
theorem TC_cg {M M' : am_F} (h : M' 24 = M 24) (hT : TC M) : TC M' := by
  unfold TC at *
  rw [h]
  exact hT
theorem c_pick (d b i m : Nat) (x : Nat → Int32) (M : am_F) (hR : RT M 0 0 x) (hW : WX x 0) (hT : TC M) (hm : m ≤ 8) (hc : M 16 b 0 3 = nI m) : ∃ M', am_cl am_cds (d + 5) 7 [.inr (.inr (16, b, 0)), .inr (.inr (18, b, i)), .inr (.inr (24, 0, 0))] (am_S M) (some (.inl (pk (gv x 0) (M 18 b i) (M 17 b) m))) (am_S M') ∧ rwF M M' 1 := by
  refine am_cl_v (fun M' => rwF M M' 1) am_c7 rfl ?_
  iterate 4 refine am_wp_step _ rfl ?_
  refine am_for2 4 (fun y z => [(0, .inr (.inr (16, b, 0))), (1, .inr (.inr (18, b, i))), (2, .inr (.inr (24, 0, 0))), (3, .inl y), (4, .inl z)]) (fun k y z M1 => z = nI k ∧ y = pk (gv x 0) (M 18 b i) (M 17 b) k ∧ rwF M M1 1) m ?_ ?_ 0 (-1) 0 M (Nat.zero_le _) ⟨nI_0.symm, rfl, rwF_rf⟩
  · intro k y z M1 hk hP K
    obtain ⟨hz, hy, hF⟩ := hP
    have e1 : M1 16 b 0 3 = nI m := by rw [hF 16 b (by omega)]; exact hc
    have e2 : M1 17 b = M 17 b := hF 17 b (by omega)
    have e3 : M1 18 b i = M 18 b i := by rw [hF 18 b (by omega)]
    have hR1 := RT_cg hF rfl hR
    have hT1 : TC M1 := by
      unfold TC
      rw [hF 24 0 (by omega), hF 24 1 (by omega)]
      exact hT
    have hnx : z + 1 = nI (k + 1) := by rw [hz, nI_1]
    have hpl := pkx_lt (gv x 0) (M 18 b i) (M 17 b) k
    iterate 4 refine am_wp_step _ rfl ?_
    refine am_iteF (by show ¬ M1 16 b 0 3 ≤ z; rw [e1, hz]; exact nI_ge hk (by omega)) ?_
    iterate 4 refine am_wp_step _ rfl ?_
    refine am_ixN (k) (hz) (show _ < 8 by omega) (show (8 : Nat) < 2 ^ 31 by decide) (fun hix => ?_)
    rw [hix]
    iterate 6 refine am_wp_step _ rfl ?_
    refine am_ite (fun h => ?_) (fun h => ?_)
    · have h : M1 17 b k 4 ≠ M1 18 b i 5 := h
      rw [e2, e3] at h
      iterate 2 refine am_wp_step _ rfl ?_
      refine K _ _ _ ⟨hnx, ?_, hF⟩
      rw [pk_s, if_neg (fun q => h q.1), hy]
    · have h : ¬ M1 17 b k 4 ≠ M1 18 b i 5 := h
      rw [e2, e3] at h
      have h := Decidable.not_not.mp h
      have fin : (y < 0 ∨ sp_pref (M 18 b i) (M 17 b k) (M 17 b y.toNatClampNeg) = true) → am_wp (am_cl am_cds (d + 4)) am_c7 (fun w m_1 => w = some (.inl (pk (gv x 0) (M 18 b i) (M 17 b) m)) ∧ ∃ M', m_1 = am_S M' ∧ rwF M M' 1) 28 [(0, .inr (.inr (16, b, 0))), (1, .inr (.inr (18, b, i))), (2, .inr (.inr (24, 0, 0))), (3, .inl y), (4, .inl z), (5, .inr (.inr (17, b, k)))] [] (am_S M1) := by
        intro hq
        rw [hy] at hq
        iterate 4 refine am_wp_step _ rfl ?_
        refine am_call1 (c_heatTaken d b i k x M1 hR1 hW hT1) (fun M2 hF2 => ?_)
        rw [e2, e3]
        iterate 1 refine am_wp_step _ rfl ?_
        refine am_ite (fun h3 => ?_) (fun h3 => ?_)
        · iterate 2 refine am_wp_step _ rfl ?_
          refine K _ _ _ ⟨hnx, ?_, rwF_tr hF hF2⟩
          rw [pk_s, if_neg (fun q => Int32.not_lt.mpr h3 q.2.2), hy]
        · iterate 4 refine am_wp_step _ rfl ?_
          refine K _ _ _ ⟨hnx, ?_, rwF_tr hF hF2⟩
          rw [pk_s, if_pos ⟨h, hq, Int32.not_le.mp h3⟩, hz]
      iterate 2 refine am_wp_step _ rfl ?_
      refine am_ite (fun h4 => ?_) (fun h4 => ?_)
      · exact fin (Or.inl h4)
      · rcases hpl with hpl | ⟨j, hj, hpl⟩
        · exact absurd (by rw [hy, hpl]; decide) h4
        · have hyj : y = nI j := hy.trans hpl
          iterate 6 refine am_wp_step _ rfl ?_
          refine am_ixN (j) (hyj) (show _ < 8 by omega) (show (8 : Nat) < 2 ^ 31 by decide) (fun hiy => ?_)
          rw [hiy]
          iterate 1 refine am_wp_step _ rfl ?_
          refine ⟨_, _, c_prefers _ _ _ _ _ _, ?_⟩
          rw [e2, e3]
          iterate 1 refine am_wp_step _ rfl ?_
          refine am_ite (fun h5 => ?_) (fun h5 => ?_)
          · rw [bI_0] at h5
            iterate 2 refine am_wp_step _ rfl ?_
            refine K _ _ _ ⟨hnx, ?_, hF⟩
            rw [pk_s, if_neg ?_, hy]
            intro q
            rw [← hy, hiy] at q
            exact q.2.1.elim h4 h5
          · rw [bI_0] at h5
            have h5 := Decidable.not_not.mp h5
            exact fin (Or.inr (by rw [hiy]; exact h5))
  · intro y z M1 hP
    obtain ⟨hz, hy, hF⟩ := hP
    have e1 : M1 16 b 0 3 = nI m := by rw [hF 16 b (by omega)]; exact hc
    iterate 4 refine am_wp_step _ rfl ?_
    refine am_iteT (by show M1 16 b 0 3 ≤ z; rw [e1, hz]; exact nI_le (Nat.le_refl _) (by omega)) ?_
    iterate 2 refine am_wp_step _ rfl ?_
    exact ⟨trivial, by rw [hy], M1, rfl, hF⟩
