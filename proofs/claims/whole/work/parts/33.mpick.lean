/-! THE MODEL'S: what one takes and picks -/
theorem m_deadIs (d i k : Nat) (M : am_F) (hi : i < 8) (hk : k < 8) : am_cl am_cds (d + 1) 142 [.inr (.inr (26, 0, 0)), .inl (nI i), .inl (nI k)] (am_S M) (some (.inl (M 33 0 0 (10 + 8 * i + k)))) (am_S M) := by
  refine am_cl_in am_c142 rfl ?_
  repeat' first | refine am_wp_step _ rfl ?_ | refine am_ite (fun h => ?_) (fun h => ?_) | refine am_ixN (10 + 8 * i + k) (by simp only [nI_lit, nI_add, nI_mul]) (show _ < 288 by omega) (show (288 : Nat) < 2 ^ 31 by decide) (fun e => ?_) | fail
  refine ⟨trivial, ?_, rfl⟩
  rw [e]
theorem m_dishIs (d i k : Nat) (M : am_F) (hi : i < 8) (hk : k < 5) : am_cl am_cds (d + 1) 143 [.inr (.inr (26, 0, 0)), .inl (nI i), .inl (nI k)] (am_S M) (some (.inl (M 33 0 0 (74 + 5 * i + k)))) (am_S M) := by
  refine am_cl_in am_c143 rfl ?_
  repeat' first | refine am_wp_step _ rfl ?_ | refine am_ite (fun h => ?_) (fun h => ?_) | refine am_ixN (74 + 5 * i + k) (by simp only [nI_lit, nI_add, nI_mul]) (show _ < 288 by omega) (show (288 : Nat) < 2 ^ 31 by decide) (fun e => ?_) | fail
  refine ⟨trivial, ?_, rfl⟩
  rw [e]
theorem m_takenOf (d i j : Nat) (M : am_F) (hi : i < 8) (hj : j < 8) (hW : WX (tx (M 33 0 0)) 0) : ∃ M', am_cl am_cds (d + 4) 152 [.inr (.inr (26, 0, 0)), .inl (nI i), .inl (nI j)] (am_S M) (some (.inl (tk (gv (tx (M 33 0 0)) 0) (gA (M 33 0 0) i) (hA (M 33 0 0) j)))) (am_S M') ∧ mG M M' := by
  refine am_cl_v (mG M) am_c152 rfl ?_
  have fin : ∀ (w q : Int32), w = sp_app (gA (M 33 0 0) i) (hA (M 33 0 0) j) → am_wp (am_cl am_cds (d + 3)) am_c152 (fun w m => w = some (.inl (tk (gv (tx (M 33 0 0)) 0) (gA (M 33 0 0) i) (hA (M 33 0 0) j))) ∧ ∃ M', m = am_S M' ∧ mG M M') 86 [(0, .inr (.inr (26, 0, 0))), (1, .inl (nI i)), (2, .inl (nI j)), (3, .inl (M 33 0 0 (74 + 5 * j + 2))), (4, .inl (M 33 0 0 (10 + 8 * i + 1))), (5, .inl (M 33 0 0 (10 + 8 * i + 3))), (6, .inl q), (7, .inl (M 33 0 0 (10 + 8 * i + 0))), (8, .inl w)] [] (am_S M) := by
    intro w q hw
    iterate 8 refine am_wp_step _ rfl ?_
    refine ⟨_, _, m_dishIs _ j 0 M hj (by decide), ?_⟩
    iterate 3 refine am_wp_step _ rfl ?_
    refine am_call1 (m_given d 0 _ _ _ _ M (Or.inl rfl) hW) (fun M' hF => ?_)
    iterate 4 refine am_wp_step _ rfl ?_
    refine ⟨_, _, m_held _ _ _ _ _, ?_⟩
    iterate 1 refine am_wp_step _ rfl ?_
    refine ⟨trivial, ?_, M', rfl, hF⟩
    rw [hw]
    rfl
  iterate 4 refine am_wp_step _ rfl ?_
  refine ⟨_, _, m_dishIs _ j 2 M hj (by decide), ?_⟩
  iterate 5 refine am_wp_step _ rfl ?_
  refine ⟨_, _, m_deadIs _ i 1 M hi (by decide), ?_⟩
  iterate 5 refine am_wp_step _ rfl ?_
  refine ⟨_, _, m_deadIs _ i 3 M hi (by decide), ?_⟩
  iterate 5 refine am_wp_step _ rfl ?_
  refine ⟨_, _, m_dishIs _ j 0 M hj (by decide), ?_⟩
  iterate 4 refine am_wp_step _ rfl ?_
  refine ⟨_, _, m_deadIs _ i 4 M hi (by decide), ?_⟩
  iterate 1 refine am_wp_step _ rfl ?_
  refine am_ite (fun h => ?_) (fun h => ?_)
  all_goals
    repeat' first | refine fin _ _ ?_ | refine am_wp_step _ rfl ?_ | refine am_ite (fun h => ?_) (fun h => ?_) | refine ⟨_, _, m_deadIs _ i 0 M hi (by decide), ?_⟩ | fail
  all_goals
    unfold sp_app gA hA
    grind

def wo (g h : Nat → Int32) : Int32 := h 2 + (if h 0 = g 4 then 1000 else 0)
/-- heats are small -/
def HH (a : Nat → Int32) (m : Nat) : Prop := ∀ i, i < m → 0 ≤ a (74 + 5 * i + 2) ∧ a (74 + 5 * i + 2) ≤ 99
theorem wo_pref {g h o : Nat → Int32} (h1 : 0 ≤ h 2) (h2 : h 2 ≤ 99) (h3 : 0 ≤ o 2) (h4 : o 2 ≤ 99) : sp_pref g h o = true ↔ wo g o < wo g h := by
  unfold sp_pref wo
  grind
theorem m_picks (d i m : Nat) (M : am_F) (hi : i < 8) (hm : m ≤ 8) (hc : M 33 0 0 2 = nI m) (hH : HH (M 33 0 0) m) (hW : WX (tx (M 33 0 0)) 0) : ∃ M', am_cl am_cds (d + 5) 154 [.inr (.inr (26, 0, 0)), .inl (nI i)] (am_S M) (some (.inl (pk (gv (tx (M 33 0 0)) 0) (gA (M 33 0 0) i) (hA (M 33 0 0)) m))) (am_S M') ∧ mG M M' := by
  refine am_cl_v (mG M) am_c154 rfl ?_
  iterate 6 refine am_wp_step _ rfl ?_
  generalize ha : M 33 0 0 = a at *
  generalize hE : gv (tx a) 0 = E at *
  refine am_for3 6 (fun y z w => [(0, .inr (.inr (26, 0, 0))), (1, .inl (nI i)), (2, .inl y), (3, .inl z), (4, .inl w)]) (fun k y z w M1 => w = nI k ∧ y = pk E (gA a i) (hA a) k ∧ z = (if y < 0 then -1 else wo (gA a i) (hA a y.toNatClampNeg)) ∧ mG M M1) m ?_ ?_ 0 (-1) (-1) 0 M (Nat.zero_le _) ⟨nI_0.symm, rfl, rfl, mG_rf⟩
  · intro k y z w M1 hk hP K
    obtain ⟨hw, hy, hz, hF⟩ := hP
    have e0 : M1 33 0 0 = a := by rw [hF 33 0 (by omega)]; exact ha
    have hnx : w + 1 = nI (k + 1) := by rw [hw, nI_1]
    have hpl := pkx_lt E (gA a i) (hA a) k
    have hk8 : k < 8 := by omega
    have hHk := hH k hk
    subst hw
    iterate 5 refine am_wp_step _ rfl ?_
    refine am_andv (by unfold vp_in; decide) ?_
    iterate 1 refine am_wp_step _ rfl ?_
    refine am_iteF (by show ¬ M1 33 0 0 2 ≤ nI k; rw [e0, hc]; exact nI_ge hk (by omega)) ?_
    iterate 4 refine am_wp_step _ rfl ?_
    refine ⟨_, _, m_dishIs _ k 4 M1 hk8 (by decide), ?_⟩
    iterate 4 refine am_wp_step _ rfl ?_
    refine ⟨_, _, m_deadIs _ i 5 M1 hi (by decide), ?_⟩
    iterate 1 refine am_wp_step _ rfl ?_
    refine am_ite (fun h => ?_) (fun h => ?_)
    · rw [e0] at h
      iterate 2 refine am_wp_step _ rfl ?_
      refine K _ _ _ _ ⟨hnx, ?_, hz, hF⟩
      rw [pk_s, if_neg (fun q => h q.1), hy]
    · rw [e0] at h
      have h := Decidable.not_not.mp h
      iterate 4 refine am_wp_step _ rfl ?_
      refine am_call1 (m_takenOf d i k M1 hi hk8 (by rw [e0]; exact hW)) (fun M2 hF2 => ?_)
      rw [e0, hE]
      have e2 : M2 33 0 0 = a := by rw [hF2 33 0 (by omega)]; exact e0
      iterate 1 refine am_wp_step _ rfl ?_
      refine am_ite (fun h3 => ?_) (fun h3 => ?_)
      · iterate 2 refine am_wp_step _ rfl ?_
        refine K _ _ _ _ ⟨hnx, ?_, hz, mG_tr hF hF2⟩
        rw [pk_s, if_neg (fun q => Int32.not_lt.mpr h3 q.2.2), hy]
      · have h3 := Int32.not_le.mp h3
        iterate 4 refine am_wp_step _ rfl ?_
        refine ⟨_, _, m_dishIs _ k 2 M2 hk8 (by decide), ?_⟩
        iterate 4 refine am_wp_step _ rfl ?_
        refine ⟨_, _, m_dishIs _ k 0 M2 hk8 (by decide), ?_⟩
        iterate 4 refine am_wp_step _ rfl ?_
        refine ⟨_, _, m_deadIs _ i 4 M2 hi (by decide), ?_⟩
        have fin : ∀ (v : Int32), v = wo (gA a i) (hA a k) → am_wp (am_cl am_cds (d + 4)) am_c154 (fun w m_1 => w = some (.inl (pk E (gA a i) (hA a) m)) ∧ ∃ M', m_1 = am_S M' ∧ mG M M') 44 [(0, .inr (.inr (26, 0, 0))), (1, .inl (nI i)), (2, .inl y), (3, .inl z), (4, .inl (nI k)), (5, .inl v)] [] (am_S M2) := by
          intro v hv
          have hpks : ∀ q : Prop, (y < 0 ∨ sp_pref (gA a i) (hA a k) (hA a y.toNatClampNeg) = true ↔ q) → q → pk E (gA a i) (hA a) (k + 1) = nI k := by
            intro q h4 h5
            rw [pk_s, if_pos ⟨h, by rw [← hy]; exact h4.mpr h5, h3⟩]
          have hpkn : ∀ q : Prop, (y < 0 ∨ sp_pref (gA a i) (hA a k) (hA a y.toNatClampNeg) = true ↔ q) → ¬ q → pk E (gA a i) (hA a) (k + 1) = y := by
            intro q h4 h5
            rw [pk_s, if_neg (fun r => h5 (h4.mp (by rw [hy]; exact r.2.1))), hy]
          have hwk : 0 ≤ wo (gA a i) (hA a k) := by
            have h1 : 0 ≤ hA a k 2 := hHk.1
            have h2 : hA a k 2 ≤ 99 := hHk.2
            unfold wo
            grind
          have hiff : (y < 0 ∨ sp_pref (gA a i) (hA a k) (hA a y.toNatClampNeg) = true) ↔ z < v := by
            rcases hpl with q | ⟨j, hj, q⟩
            · rw [← hy] at q
              rw [hz, q, hv, if_pos (by decide)]
              exact ⟨fun _ => by lia, fun _ => Or.inl (by decide)⟩
            · rw [← hy] at q
              rw [q] at hz ⊢
              rw [if_neg (nI_pos (by omega)), nI_clamp (by omega)] at hz
              rw [nI_clamp (by omega), wo_pref hHk.1 hHk.2 (hH j (by omega)).1 (hH j (by omega)).2, hz, hv]
              exact ⟨fun r => r.resolve_left (nI_pos (by omega)), fun r => Or.inr r⟩
          iterate 3 refine am_wp_step _ rfl ?_
          refine am_ite (fun h4 => ?_) (fun h4 => ?_)
          · iterate 5 refine am_wp_step _ rfl ?_
            refine ⟨_, _, c_max _ _ _ _, ?_⟩
            iterate 3 refine am_wp_step _ rfl ?_
            have h4 := Int32.not_lt.mpr h4
            refine K _ _ _ _ ⟨hnx, (hpkn _ hiff h4).symm, ?_, mG_tr hF hF2⟩
            rw [← hz]
            unfold sp_max
            rw [if_neg h4]
          · iterate 6 refine am_wp_step _ rfl ?_
            refine ⟨_, _, c_max _ _ _ _, ?_⟩
            iterate 3 refine am_wp_step _ rfl ?_
            have h4 := Int32.not_le.mp h4
            refine K _ _ _ _ ⟨hnx, (hpks _ hiff h4).symm, ?_, mG_tr hF hF2⟩
            unfold sp_max
            rw [if_pos h4, if_neg (nI_pos (by omega)), nI_clamp (by omega), hv]
        iterate 1 refine am_wp_step _ rfl ?_
        refine am_ite (fun h4 => ?_) (fun h4 => ?_)
        · rw [e2] at h4 ⊢
          iterate 3 refine am_wp_step _ rfl ?_
          refine fin _ ?_
          unfold wo hA gA
          rw [if_neg h4]
        · rw [e2] at h4 ⊢
          iterate 4 refine am_wp_step _ rfl ?_
          refine fin _ ?_
          unfold wo hA gA
          rw [if_pos (Decidable.not_not.mp h4)]
  · intro y z w M1 hP
    obtain ⟨hw, hy, hz, hF⟩ := hP
    have e0 : M1 33 0 0 = a := by rw [hF 33 0 (by omega)]; exact ha
    iterate 5 refine am_wp_step _ rfl ?_
    refine am_andv (by unfold vp_in; decide) ?_
    iterate 1 refine am_wp_step _ rfl ?_
    refine am_iteT (by show M1 33 0 0 2 ≤ w; rw [e0, hc, hw]; exact nI_le (Nat.le_refl _) (by omega)) ?_
    iterate 2 refine am_wp_step _ rfl ?_
    exact ⟨trivial, by rw [hy], M1, rfl, hF⟩
