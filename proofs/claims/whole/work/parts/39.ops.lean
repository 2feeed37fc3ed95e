/-! THE SIMPLE CALLS -/
theorem am_iteB {c : Prop} [Decidable c] {i : Decidable (bI c = 0)} {A B : Prop} (h1 : ¬ c → A) (h2 : c → B) : @ite Prop (bI c = 0) i A B := by
  by_cases h : c
  · rw [if_neg (by rw [bI_t h]; decide)]; exact h2 h
  · rw [if_pos (bI_f h)]; exact h1 h
theorem am_iteN {c : Prop} [Decidable c] {i : Decidable (bI c ≠ 0)} {A B : Prop} (h1 : c → A) (h2 : ¬ c → B) : @ite Prop (bI c ≠ 0) i A B := by
  by_cases h : c
  · rw [if_pos (by rw [bI_t h]; decide)]; exact h1 h
  · rw [if_neg (fun q => q (bI_f h))]; exact h2 h
abbrev isN (x : Int32) (n : Nat) : Prop := 0 ≤ x ∧ x ≤ nI n - 1
theorem isN_ex {x : Int32} {n : Nat} (h : isN x n) (hn : n < 2 ^ 31) : ∃ i, i < n ∧ x = nI i := by
  obtain ⟨j, h1, rfl⟩ := nI_ex h.1
  refine ⟨j, ?_, rfl⟩
  rcases n with _ | n
  · have h2 := h.1
    have h3 := h.2
    rw [nI_0] at h3
    exfalso
    lia
  · have h2 := h.2
    rw [nI_pred] at h2
    have := (nI_leI h1 (by omega)).mp h2
    omega
theorem isN_of {i n : Nat} (h : i < n) (hn : n < 2 ^ 31) : isN (nI i) n := by
  refine ⟨nI_pos' (by omega), ?_⟩
  rcases n with _ | n
  · omega
  · rw [nI_pred]
    exact nI_le (by omega) (by omega)
theorem wI_ex {y : Int32} {b : Nat} (h : 0 ≤ y ∧ y ≤ nI b) (hb : b < 2 ^ 31) : ∃ k, k ≤ b ∧ y = nI k := by
  obtain ⟨j, h1, rfl⟩ := nI_ex h.1
  exact ⟨j, (nI_leI h1 hb).mp h.2, rfl⟩
theorem c_isDead (d : Nat) (x : Int32) (M : am_F) {n : Nat} (h : M 16 0 0 1 = nI n) : am_cl am_cds (d + 2) 120 [.inr (.inr (25, 0, 0)), .inl x] (am_S M) (some (.inl (bI (isN x n)))) (am_S M) := by
  refine am_cl_in am_c120 rfl ?_
  repeat' first | refine am_wp_step _ rfl ?_ | refine am_iteB (fun h => ?_) (fun h => ?_) | refine am_iteN (fun h => ?_) (fun h => ?_) | refine am_ite (fun h => ?_) (fun h => ?_) | refine ⟨_, _, c_within _ _ _ _ _, ?_⟩ | fail
  refine ⟨bI_01, ?_, rfl⟩
  show some (Sum.inl (bI (0 ≤ x ∧ x ≤ M 16 0 0 1 - 1))) = _
  rw [h]
theorem c_isDish (d : Nat) (x : Int32) (M : am_F) {n : Nat} (h : M 16 0 0 3 = nI n) : am_cl am_cds (d + 2) 121 [.inr (.inr (25, 0, 0)), .inl x] (am_S M) (some (.inl (bI (isN x n)))) (am_S M) := by
  refine am_cl_in am_c121 rfl ?_
  repeat' first | refine am_wp_step _ rfl ?_ | refine am_iteB (fun h => ?_) (fun h => ?_) | refine am_iteN (fun h => ?_) (fun h => ?_) | refine am_ite (fun h => ?_) (fun h => ?_) | refine ⟨_, _, c_within _ _ _ _ _, ?_⟩ | fail
  refine ⟨bI_01, ?_, rfl⟩
  show some (Sum.inl (bI (0 ≤ x ∧ x ≤ M 16 0 0 3 - 1))) = _
  rw [h]
theorem c_isKM (d : Nat) (x : Int32) (me : am_M) : am_cl am_cds (d + 2) 115 [.inl x] me (some (.inl (bI (0 ≤ x ∧ x ≤ 69)))) me := by
  refine am_cl_in am_c115 rfl ?_
  repeat' first | refine am_wp_step _ rfl ?_ | refine am_iteB (fun h => ?_) (fun h => ?_) | refine am_iteN (fun h => ?_) (fun h => ?_) | refine am_ite (fun h => ?_) (fun h => ?_) | refine ⟨_, _, c_within _ _ _ _ _, ?_⟩ | fail
  exact ⟨bI_01, rfl, rfl⟩
theorem c_isHouse (d : Nat) (x : Int32) (me : am_M) : am_cl am_cds (d + 2) 116 [.inl x] me (some (.inl (bI (0 ≤ x ∧ x ≤ 3)))) me := by
  refine am_cl_in am_c116 rfl ?_
  repeat' first | refine am_wp_step _ rfl ?_ | refine am_iteB (fun h => ?_) (fun h => ?_) | refine am_iteN (fun h => ?_) (fun h => ?_) | refine am_ite (fun h => ?_) (fun h => ?_) | refine ⟨_, _, c_within _ _ _ _ _, ?_⟩ | fail
  exact ⟨bI_01, rfl, rfl⟩
theorem c_isSheet (d : Nat) (x : Int32) (me : am_M) : am_cl am_cds (d + 2) 118 [.inl x] me (some (.inl (bI (0 ≤ x ∧ x ≤ 3)))) me := by
  refine am_cl_in am_c118 rfl ?_
  repeat' first | refine am_wp_step _ rfl ?_ | refine am_iteB (fun h => ?_) (fun h => ?_) | refine am_iteN (fun h => ?_) (fun h => ?_) | refine am_ite (fun h => ?_) (fun h => ?_) | refine ⟨_, _, c_within _ _ _ _ _, ?_⟩ | fail
  exact ⟨bI_01, rfl, rfl⟩
theorem c_isAhead (d : Nat) (x : Int32) (me : am_M) : am_cl am_cds (d + 2) 119 [.inl x] me (some (.inl (bI (0 ≤ x ∧ x ≤ 120)))) me := by
  refine am_cl_in am_c119 rfl ?_
  repeat' first | refine am_wp_step _ rfl ?_ | refine am_iteB (fun h => ?_) (fun h => ?_) | refine am_iteN (fun h => ?_) (fun h => ?_) | refine am_ite (fun h => ?_) (fun h => ?_) | refine ⟨_, _, c_within _ _ _ _ _, ?_⟩ | fail
  exact ⟨bI_01, rfl, rfl⟩
theorem m_isHouse (d : Nat) (x : Int32) (me : am_M) : am_cl am_cds (d + 2) 144 [.inl x] me (some (.inl (bI (0 ≤ x ∧ x ≤ 3)))) me := by
  refine am_cl_in am_c144 rfl ?_
  repeat' first | refine am_wp_step _ rfl ?_ | refine am_iteB (fun h => ?_) (fun h => ?_) | refine am_iteN (fun h => ?_) (fun h => ?_) | refine am_ite (fun h => ?_) (fun h => ?_) | refine ⟨_, _, m_within _ _ _ _ _, ?_⟩ | fail
  exact ⟨bI_01, rfl, rfl⟩
theorem m_isSheet (d : Nat) (x : Int32) (me : am_M) : am_cl am_cds (d + 2) 211 [.inl x] me (some (.inl (bI (0 ≤ x ∧ x ≤ 3)))) me := by
  refine am_cl_in am_c211 rfl ?_
  repeat' first | refine am_wp_step _ rfl ?_ | refine am_iteB (fun h => ?_) (fun h => ?_) | refine am_iteN (fun h => ?_) (fun h => ?_) | refine am_ite (fun h => ?_) (fun h => ?_) | refine ⟨_, _, m_within _ _ _ _ _, ?_⟩ | fail
  exact ⟨bI_01, rfl, rfl⟩
theorem m_isAhead (d : Nat) (x : Int32) (me : am_M) : am_cl am_cds (d + 2) 190 [.inl x] me (some (.inl (bI (0 ≤ x ∧ x ≤ 120)))) me := by
  refine am_cl_in am_c190 rfl ?_
  repeat' first | refine am_wp_step _ rfl ?_ | refine am_iteB (fun h => ?_) (fun h => ?_) | refine am_iteN (fun h => ?_) (fun h => ?_) | refine am_ite (fun h => ?_) (fun h => ?_) | refine ⟨_, _, m_within _ _ _ _ _, ?_⟩ | fail
  exact ⟨bI_01, rfl, rfl⟩
theorem m_isD (d : Nat) (x : Int32) (M : am_F) {n : Nat} (h : M 33 0 0 1 = nI n) : am_cl am_cds (d + 2) 138 [.inr (.inr (26, 0, 0)), .inl x, .inl 1] (am_S M) (some (.inl (bI (isN x n)))) (am_S M) := by
  refine am_cl_in am_c138 rfl ?_
  repeat' first | refine am_wp_step _ rfl ?_ | refine am_iteB (fun h => ?_) (fun h => ?_) | refine am_iteN (fun h => ?_) (fun h => ?_) | refine am_ite (fun h => ?_) (fun h => ?_) | refine ⟨_, _, m_within _ _ _ _ _, ?_⟩ | refine am_andv (by unfold vp_in; decide) ?_ | fail
  refine ⟨bI_01, ?_, rfl⟩
  show some (Sum.inl (bI (0 ≤ x ∧ x ≤ M 33 0 0 1 - 1))) = _
  rw [h]
theorem m_isH (d : Nat) (x : Int32) (M : am_F) {n : Nat} (h : M 33 0 0 2 = nI n) : am_cl am_cds (d + 2) 138 [.inr (.inr (26, 0, 0)), .inl x, .inl 2] (am_S M) (some (.inl (bI (isN x n)))) (am_S M) := by
  refine am_cl_in am_c138 rfl ?_
  repeat' first | refine am_wp_step _ rfl ?_ | refine am_iteB (fun h => ?_) (fun h => ?_) | refine am_iteN (fun h => ?_) (fun h => ?_) | refine am_ite (fun h => ?_) (fun h => ?_) | refine ⟨_, _, m_within _ _ _ _ _, ?_⟩ | refine am_andv (by unfold vp_in; decide) ?_ | fail
  refine ⟨bI_01, ?_, rfl⟩
  show some (Sum.inl (bI (0 ≤ x ∧ x ≤ M 33 0 0 2 - 1))) = _
  rw [h]
theorem cl_t {d y : Nat} {as : List am_V} {me me' : am_M} {c : Prop} [Decidable c] (hc : c) (h : am_cl am_cds d y as me (some (.inl (bI c))) me') : am_cl am_cds d y as me (some (.inl 1)) me' := by
  rwa [bI_t hc] at h
theorem cl_f {d y : Nat} {as : List am_V} {me me' : am_M} {c : Prop} [Decidable c] (hc : ¬ c) (h : am_cl am_cds d y as me (some (.inl (bI c))) me') : am_cl am_cds d y as me (some (.inl 0)) me' := by
  rwa [bI_f hc] at h
theorem m_find1 (d : Nat) (M : am_F) : am_cl am_cds (d + 1) 135 [.inr (.inr (26, 0, 0)), .inl (-1000000001)] (am_S M) (some (.inl (-1000000001))) (am_S (am_up M 33 3 0 1 (M 33 3 0 1 + 1))) := m_find d 1 M (by decide) (by decide)
theorem m_find2 (d : Nat) (M : am_F) : am_cl am_cds (d + 1) 135 [.inr (.inr (26, 0, 0)), .inl (-1000000002)] (am_S M) (some (.inl (-1000000002))) (am_S (am_up M 33 3 0 2 (M 33 3 0 2 + 1))) := m_find d 2 M (by decide) (by decide)
theorem m_find3 (d : Nat) (M : am_F) : am_cl am_cds (d + 1) 135 [.inr (.inr (26, 0, 0)), .inl (-1000000003)] (am_S M) (some (.inl (-1000000003))) (am_S (am_up M 33 3 0 3 (M 33 3 0 3 + 1))) := m_find d 3 M (by decide) (by decide)
theorem m_find4 (d : Nat) (M : am_F) : am_cl am_cds (d + 1) 135 [.inr (.inr (26, 0, 0)), .inl (-1000000004)] (am_S M) (some (.inl (-1000000004))) (am_S (am_up M 33 3 0 4 (M 33 3 0 4 + 1))) := m_find d 4 M (by decide) (by decide)
theorem m_find5 (d : Nat) (M : am_F) : am_cl am_cds (d + 1) 135 [.inr (.inr (26, 0, 0)), .inl (-1000000005)] (am_S M) (some (.inl (-1000000005))) (am_S (am_up M 33 3 0 5 (M 33 3 0 5 + 1))) := m_find d 5 M (by decide) (by decide)
theorem RC_get {M : am_F} (h : RC M M) : ∃ n m a, M 33 0 0 = a ∧ GA n m a ∧ RB M 0 n m (odr a n) a ∧ M 16 0 0 7 = -1 ∧ RT M 0 0 (tx a) ∧ RT M 1 1 (tx a) ∧ RW M 4 (a 3) (fun j => a (114 + j)) 50 ∧ RW M 5 (a 4) (fun j => a (164 + j)) 20 ∧ M 20 0 0 5 = a 5 ∧ (0 ≤ a 0 ∧ a 0 ≤ 9999) ∧ BY a ∧ (∀ k, 288 ≤ k → a k = 0) ∧ TC M := by
  obtain ⟨⟨n, m, q1, q2, q3, q4, q5, q6, q7, q8, q9, q10, q11⟩, -, -, -, -, -, q12, -⟩ := h
  exact ⟨n, m, _, rfl, q1, q2, q3, q4, q5, q6, q7, q8, q9, q10, q11, q12⟩
theorem kq_G {M M' : am_F} (h : mG M M') : kM M M' ∧ NQ M M' := by
  refine ⟨fun r _ h2 => funext fun bb => h r bb (by omega), ?_⟩
  unfold NQ
  rw [h 33 0 (by omega), h 33 1 (by omega), h 33 3 (by omega), h 33 8 (by omega), h 33 9 (by omega), h 33 10 (by omega), h 33 11 (by omega), h 26 0 (by omega)]
  exact ⟨rfl, rfl, rfl, rfl, rfl, rfl, rfl, rfl, rfl⟩
theorem kq_rf {M : am_F} : kM M M ∧ NQ M M := ⟨kM_rf, NQ_rf⟩
/-- of one, as told -/
def fld (a : Nat → Int32) (m i k : Nat) : Int32 := if k = 8 then pk (gv (tx a) 0) (gA a i) (hA a) m else a (10 + 8 * i + k)
theorem c_ghostF (d b i k n m : Nat) (o : Nat → Nat) (a x : Nat → Int32) (M : am_F) (hR : RT M 0 0 x) (hW : WX x 0) (hT : TC M) (hm : m ≤ 8) (hn : n ≤ 8) (hi : i < n) (hk : k ≤ 8) (hB : RB M b n m o a) (hx : tx a = x) : ∃ M', am_cl am_cds (d + 6) 4 [.inr (.inr (16, b, 0)), .inl (nI i), .inl (nI k), .inr (.inr (24, 0, 0))] (am_S M) (some (.inl (fld a m i k))) (am_S M') ∧ rwF M M' 1 := by
  refine am_cl_v (fun M' => rwF M M' 1) am_c4 rfl ?_
  iterate 4 refine am_wp_step _ rfl ?_
  refine am_ixN (i) (rfl) (show _ < 8 by omega) (show (8 : Nat) < 2 ^ 31 by decide) (fun e => ?_); rw [e]
  iterate 4 refine am_wp_step _ rfl ?_
  by_cases h8 : k = 8
  · subst h8
    iterate 4 refine am_wp_step _ rfl ?_
    refine am_call1 (c_pick d b i m x M hR hW hT hm hB.2.1) (fun M' hF => ?_)
    iterate 2 refine am_wp_step _ rfl ?_
    refine ⟨trivial, ?_, M', rfl, hF⟩
    rw [RB_pk hm hi hB]
    unfold fld
    rw [if_pos rfl, hx]
  · refine am_iteT (fun q => h8 ((nI_eq (by omega) (by decide)).mp (show nI k = nI 8 from q))) ?_
    iterate 3 refine am_wp_step _ rfl ?_
    refine ⟨_, _, c_ghostFact _ b i k M (by omega), ?_⟩
    iterate 1 refine am_wp_step _ rfl ?_
    refine ⟨trivial, ?_, M, rfl, rwF_rf⟩
    unfold fld
    rw [if_neg h8, RB_gv hi (by omega) hB]
theorem m_fieldOf (d i k n m : Nat) (M : am_F) (hi : i < n) (hk : k ≤ 8) (hG : GA n m (M 33 0 0)) : ∃ M', am_cl am_cds (d + 6) 146 [.inr (.inr (26, 0, 0)), .inl (nI i), .inl (nI k)] (am_S M) (some (.inl (fld (M 33 0 0) m i k))) (am_S M') ∧ mG M M' := by
  refine am_cl_v (mG M) am_c146 rfl ?_
  have hn := hG.1
  iterate 3 refine am_wp_step _ rfl ?_
  by_cases h8 : k = 8
  · subst h8
    iterate 3 refine am_wp_step _ rfl ?_
    refine am_call1 (m_picks d i m M (by omega) hG.2.1 hG.2.2.2.1 (GA_hh hG) hG.2.2.2.2.2.2.1) (fun M' hF => ?_)
    iterate 2 refine am_wp_step _ rfl ?_
    refine ⟨trivial, ?_, M', rfl, hF⟩
    unfold fld
    rw [if_pos rfl]
  · refine am_iteT (fun q => h8 ((nI_eq (by omega) (by decide)).mp (show nI k = nI 8 from q))) ?_
    iterate 4 refine am_wp_step _ rfl ?_
    refine ⟨_, _, m_deadIs _ i k M (by omega) (by omega), ?_⟩
    iterate 1 refine am_wp_step _ rfl ?_
    refine ⟨trivial, ?_, M, rfl, mG_rf⟩
    unfold fld
    rw [if_neg h8]
theorem jj_ofDead (x y : Int32) : JJ 75 147 [.inl x, .inl y] := by
  intro M hR
  obtain ⟨n, m, a, ha, hG, hB, hab, hT0, hT1, hW4, hW5, hz, hbl, hBY, h288, hTC⟩ := RC_get hR; have hn := hB.1; have hm := hB.2.1; have hn8 := hG.1; have hm8 := hG.2.1; have hX0 := hG.2.2.2.2.2.2.1; have hX1 := hG.2.2.2.2.2.2.2
  by_cases hg : isN x n ∧ 0 ≤ y ∧ y ≤ 8
  · obtain ⟨i, hi, rfl⟩ := isN_ex hg.1 (by omega)
    obtain ⟨k, hk, rfl⟩ := wI_ex (b := 8) hg.2 (by decide)
    refine JJ_q (v := fld a m i k) hR ?_ (fun M1 e33 e26 => ?_)
    · refine am_cl_v (cS M) am_c75 rfl ?_
      repeat' first | refine am_wp_step _ rfl ?_ | refine am_iteB (fun h => ?_) (fun h => ?_) | refine am_iteN (fun h => ?_) (fun h => ?_) | refine am_ite (fun h => ?_) (fun h => ?_) | refine ⟨_, _, cl_t hg.1 (c_isDead _ _ _ hn), ?_⟩ | refine ⟨_, _, cl_t hg.2 (c_within _ _ _ _ _), ?_⟩ | refine am_call1 (c_ghostF _ 0 i k n m (odr a n) a (tx a) M hT0 hX0 hTC hm8 hn8 hi hk hB rfl) (fun M' hF => ?_) | fail
      exact ⟨trivial, rfl, M', rfl, cS_of hF⟩
    · have ea : M1 33 0 0 = a := (by rw [e33]; exact ha); have en : M1 33 0 0 1 = nI n := (by rw [ea]; exact hG.2.2.1); have em : M1 33 0 0 2 = nI m := (by rw [ea]; exact hG.2.2.2.1)
      rw [← ea]
      have hx : ∃ M2, am_cl am_cds 1000 147 [.inr (.inr (26, 0, 0)), .inl (nI i), .inl (nI k)] (am_S M1) (some (.inl (fld (M1 33 0 0) m i k))) (am_S M2) ∧ mG M1 M2 := by
        refine am_cl_v (mG M1) am_c147 rfl ?_
        repeat' first | refine am_wp_step _ rfl ?_ | refine am_iteB (fun h => ?_) (fun h => ?_) | refine am_iteN (fun h => ?_) (fun h => ?_) | refine am_ite (fun h => ?_) (fun h => ?_) | refine ⟨_, _, cl_t hg.1 (m_isD _ _ _ en), ?_⟩ | refine ⟨_, _, cl_t hg.2 (m_within _ _ _ _ _), ?_⟩ | refine am_call1 (m_fieldOf _ i k n m M1 hi hk (by rw [ea]; exact hG)) (fun M' hF => ?_) | fail
        exact ⟨trivial, rfl, M', rfl, hF⟩
      obtain ⟨M2, c2, f2⟩ := hx
      exact ⟨M2, c2, kq_G f2⟩
  · refine JJ_e (k := 1) (by decide) (by decide) hR ?_ (fun M1 e33 e26 => ?_)
    · refine am_cl_in am_c75 rfl ?_
      repeat' first | refine am_wp_step _ rfl ?_ | refine am_iteB (fun h => ?_) (fun h => ?_) | refine am_iteN (fun h => ?_) (fun h => ?_) | refine am_ite (fun h => ?_) (fun h => ?_) | refine ⟨_, _, c_isDead _ _ _ hn, ?_⟩ | refine ⟨_, _, c_isDish _ _ _ hm, ?_⟩ | refine ⟨_, _, c_within _ _ _ _ _, ?_⟩ | refine ⟨_, _, c_isKM _ _ _, ?_⟩ | refine ⟨_, _, c_isHouse _ _ _, ?_⟩ | refine ⟨_, _, c_isAhead _ _ _, ?_⟩ | refine ⟨_, _, c_isSheet _ _ _, ?_⟩ | refine ⟨_, _, c_err1 _ _, ?_⟩ | refine ⟨_, _, c_err2 _ _, ?_⟩ | refine ⟨_, _, c_err3 _ _, ?_⟩ | refine ⟨_, _, c_err4 _ _, ?_⟩ | refine ⟨_, _, c_err5 _ _, ?_⟩ | fail
      all_goals first | exact ⟨trivial, rfl, rfl⟩ | (exfalso; grind)
    · have ea : M1 33 0 0 = a := (by rw [e33]; exact ha); have en : M1 33 0 0 1 = nI n := (by rw [ea]; exact hG.2.2.1); have em : M1 33 0 0 2 = nI m := (by rw [ea]; exact hG.2.2.2.1)
      refine am_cl_in am_c147 rfl ?_
      repeat' first | refine am_wp_step _ rfl ?_ | refine am_iteB (fun h => ?_) (fun h => ?_) | refine am_iteN (fun h => ?_) (fun h => ?_) | refine am_ite (fun h => ?_) (fun h => ?_) | refine ⟨_, _, m_isD _ _ _ en, ?_⟩ | refine ⟨_, _, m_isH _ _ _ em, ?_⟩ | refine ⟨_, _, m_within _ _ _ _ _, ?_⟩ | refine ⟨_, _, m_isHouse _ _ _, ?_⟩ | refine ⟨_, _, m_isAhead _ _ _, ?_⟩ | refine ⟨_, _, m_isSheet _ _ _, ?_⟩ | refine ⟨_, _, m_find1 _ _, ?_⟩ | refine ⟨_, _, m_find2 _ _, ?_⟩ | refine ⟨_, _, m_find3 _ _, ?_⟩ | refine ⟨_, _, m_find4 _ _, ?_⟩ | refine ⟨_, _, m_find5 _ _, ?_⟩ | refine am_andv (by unfold vp_in; decide) ?_ | fail
      all_goals first | exact ⟨trivial, rfl, rfl⟩ | (exfalso; grind)
theorem jj_told (x : Int32) : JJ 112 221 [.inl x] := by
  intro M hR
  have hE := hR.2.2.2.1
  by_cases hg : 1 ≤ x ∧ x ≤ 5
  · obtain ⟨k, hk, rfl⟩ := wI_ex (y := x) (b := 5) ⟨by lia, hg.2⟩ (by decide)
    have hk1 : 1 ≤ k := by
      rcases k with _ | k
      · exact absurd hg.1 (by decide)
      · omega
    refine JJ_q (v := M 32 0 0 k) hR ⟨M, ?_, cS_rf⟩ (fun M1 e33 e26 => ⟨M1, ?_, kq_rf⟩)
    · refine am_cl_in am_c112 rfl ?_
      repeat' first | refine am_wp_step _ rfl ?_ | refine am_iteB (fun h => ?_) (fun h => ?_) | refine am_iteN (fun h => ?_) (fun h => ?_) | refine am_ite (fun h => ?_) (fun h => ?_) | refine ⟨_, _, cl_t hg (c_within _ _ _ _ _), ?_⟩ | refine am_ixN (k) (rfl) (show _ < 6 by omega) (show (6 : Nat) < 2 ^ 31 by decide) (fun e => ?_) | fail
      exact ⟨trivial, by rw [e], rfl⟩
    · refine am_cl_in am_c221 rfl ?_
      repeat' first | refine am_wp_step _ rfl ?_ | refine am_iteB (fun h => ?_) (fun h => ?_) | refine am_iteN (fun h => ?_) (fun h => ?_) | refine am_ite (fun h => ?_) (fun h => ?_) | refine ⟨_, _, cl_t hg (m_within _ _ _ _ _), ?_⟩ | refine am_ixN (k) (rfl) (show _ < 6 by omega) (show (6 : Nat) < 2 ^ 31 by decide) (fun e => ?_) | fail
      refine ⟨trivial, ?_, rfl⟩
      rw [e, hE k hk1 hk]
      show some (Sum.inl (M1 33 3 0 k)) = _
      rw [e33]
  · refine JJ_e (k := 1) (by decide) (by decide) hR ?_ (fun M1 e33 e26 => ?_)
    · refine am_cl_in am_c112 rfl ?_
      repeat' first | refine am_wp_step _ rfl ?_ | refine am_iteB (fun h => ?_) (fun h => ?_) | refine am_iteN (fun h => ?_) (fun h => ?_) | refine am_ite (fun h => ?_) (fun h => ?_) | refine ⟨_, _, c_within _ _ _ _ _, ?_⟩ | refine ⟨_, _, c_err1 _ _, ?_⟩ | fail
      all_goals first | exact ⟨trivial, rfl, rfl⟩ | (exfalso; grind)
    · refine am_cl_in am_c221 rfl ?_
      repeat' first | refine am_wp_step _ rfl ?_ | refine am_iteB (fun h => ?_) (fun h => ?_) | refine am_iteN (fun h => ?_) (fun h => ?_) | refine am_ite (fun h => ?_) (fun h => ?_) | refine ⟨_, _, m_within _ _ _ _ _, ?_⟩ | refine ⟨_, _, m_find1 _ _, ?_⟩ | fail
      all_goals first | exact ⟨trivial, rfl, rfl⟩ | (exfalso; grind)
theorem jj_takes (x y : Int32) : JJ 79 153 [.inl x, .inl y] := by
  intro M hR
  obtain ⟨n, m, a, ha, hG, hB, hab, hT0, hT1, hW4, hW5, hz, hbl, hBY, h288, hTC⟩ := RC_get hR; have hn := hB.1; have hm := hB.2.1; have hn8 := hG.1; have hm8 := hG.2.1; have hX0 := hG.2.2.2.2.2.2.1; have hX1 := hG.2.2.2.2.2.2.2
  by_cases hg : isN x n ∧ isN y m
  · obtain ⟨i, hi, rfl⟩ := isN_ex hg.1 (by omega)
    obtain ⟨j, hj, rfl⟩ := isN_ex hg.2 (by omega)
    refine JJ_q (v := tk (gv (tx a) 0) (gA a i) (hA a j)) hR ?_ (fun M1 e33 e26 => ?_)
    · refine am_cl_v (cS M) am_c79 rfl ?_
      iterate 3 refine am_wp_step _ rfl ?_
      refine ⟨_, _, cl_t hg.1 (c_isDead _ _ _ hn), ?_⟩
      iterate 4 refine am_wp_step _ rfl ?_
      refine ⟨_, _, cl_t hg.2 (c_isDish _ _ _ hm), ?_⟩
      iterate 7 refine am_wp_step _ rfl ?_
      refine am_ixN (i) (rfl) (show _ < 8 by omega) (show (8 : Nat) < 2 ^ 31 by decide) (fun e => ?_); rw [e]
      iterate 6 refine am_wp_step _ rfl ?_
      refine am_ixN (j) (rfl) (show _ < 8 by omega) (show (8 : Nat) < 2 ^ 31 by decide) (fun e => ?_); rw [e]
      iterate 4 refine am_wp_step _ rfl ?_
      refine am_call1 (c_heatTaken _ 0 i j (tx a) M hT0 hX0 hTC) (fun M' hF => ?_)
      iterate 1 refine am_wp_step _ rfl ?_
      exact ⟨trivial, by rw [RB_tk hi hj hB], M', rfl, cS_of hF⟩
    · have ea : M1 33 0 0 = a := (by rw [e33]; exact ha); have en : M1 33 0 0 1 = nI n := (by rw [ea]; exact hG.2.2.1); have em : M1 33 0 0 2 = nI m := (by rw [ea]; exact hG.2.2.2.1)
      rw [← ea]
      have hx : ∃ M2, am_cl am_cds 1000 153 [.inr (.inr (26, 0, 0)), .inl (nI i), .inl (nI j)] (am_S M1) (some (.inl (tk (gv (tx (M1 33 0 0)) 0) (gA (M1 33 0 0) i) (hA (M1 33 0 0) j)))) (am_S M2) ∧ mG M1 M2 := by
        refine am_cl_v (mG M1) am_c153 rfl ?_
        repeat' first | refine am_wp_step _ rfl ?_ | refine am_iteB (fun h => ?_) (fun h => ?_) | refine am_iteN (fun h => ?_) (fun h => ?_) | refine am_ite (fun h => ?_) (fun h => ?_) | refine ⟨_, _, cl_t hg.1 (m_isD _ _ _ en), ?_⟩ | refine ⟨_, _, cl_t hg.2 (m_isH _ _ _ em), ?_⟩ | refine am_call1 (m_takenOf _ i j M1 (by omega) (by omega) (by rw [ea]; exact hX0)) (fun M' hF => ?_) | fail
        exact ⟨trivial, rfl, M', rfl, hF⟩
      obtain ⟨M2, c2, f2⟩ := hx
      exact ⟨M2, c2, kq_G f2⟩
  · refine JJ_e (k := 1) (by decide) (by decide) hR ?_ (fun M1 e33 e26 => ?_)
    · refine am_cl_in am_c79 rfl ?_
      repeat' first | refine am_wp_step _ rfl ?_ | refine am_iteB (fun h => ?_) (fun h => ?_) | refine am_iteN (fun h => ?_) (fun h => ?_) | refine am_ite (fun h => ?_) (fun h => ?_) | refine ⟨_, _, c_isDead _ _ _ hn, ?_⟩ | refine ⟨_, _, c_isDish _ _ _ hm, ?_⟩ | refine ⟨_, _, c_within _ _ _ _ _, ?_⟩ | refine ⟨_, _, c_isKM _ _ _, ?_⟩ | refine ⟨_, _, c_isHouse _ _ _, ?_⟩ | refine ⟨_, _, c_isAhead _ _ _, ?_⟩ | refine ⟨_, _, c_isSheet _ _ _, ?_⟩ | refine ⟨_, _, c_err1 _ _, ?_⟩ | refine ⟨_, _, c_err2 _ _, ?_⟩ | refine ⟨_, _, c_err3 _ _, ?_⟩ | refine ⟨_, _, c_err4 _ _, ?_⟩ | refine ⟨_, _, c_err5 _ _, ?_⟩ | fail
      all_goals first | exact ⟨trivial, rfl, rfl⟩ | (exfalso; grind)
    · have ea : M1 33 0 0 = a := (by rw [e33]; exact ha); have en : M1 33 0 0 1 = nI n := (by rw [ea]; exact hG.2.2.1); have em : M1 33 0 0 2 = nI m := (by rw [ea]; exact hG.2.2.2.1)
      refine am_cl_in am_c153 rfl ?_
      repeat' first | refine am_wp_step _ rfl ?_ | refine am_iteB (fun h => ?_) (fun h => ?_) | refine am_iteN (fun h => ?_) (fun h => ?_) | refine am_ite (fun h => ?_) (fun h => ?_) | refine ⟨_, _, m_isD _ _ _ en, ?_⟩ | refine ⟨_, _, m_isH _ _ _ em, ?_⟩ | refine ⟨_, _, m_within _ _ _ _ _, ?_⟩ | refine ⟨_, _, m_isHouse _ _ _, ?_⟩ | refine ⟨_, _, m_isAhead _ _ _, ?_⟩ | refine ⟨_, _, m_isSheet _ _ _, ?_⟩ | refine ⟨_, _, m_find1 _ _, ?_⟩ | refine ⟨_, _, m_find2 _ _, ?_⟩ | refine ⟨_, _, m_find3 _ _, ?_⟩ | refine ⟨_, _, m_find4 _ _, ?_⟩ | refine ⟨_, _, m_find5 _ _, ?_⟩ | refine am_andv (by unfold vp_in; decide) ?_ | fail
      all_goals first | exact ⟨trivial, rfl, rfl⟩ | (exfalso; grind)
theorem jj_ofDish (x y : Int32) : JJ 81 158 [.inl x, .inl y] := by
  intro M hR
  obtain ⟨n, m, a, ha, hG, hB, hab, hT0, hT1, hW4, hW5, hz, hbl, hBY, h288, hTC⟩ := RC_get hR; have hn := hB.1; have hm := hB.2.1; have hn8 := hG.1; have hm8 := hG.2.1; have hX0 := hG.2.2.2.2.2.2.1; have hX1 := hG.2.2.2.2.2.2.2
  by_cases hg : isN x m ∧ 0 ≤ y ∧ y ≤ 4
  · obtain ⟨i, hi, rfl⟩ := isN_ex hg.1 (by omega)
    obtain ⟨k, hk, rfl⟩ := wI_ex (b := 4) hg.2 (by decide)
    refine JJ_q (v := a (74 + 5 * i + k)) hR ⟨M, ?_, cS_rf⟩ (fun M1 e33 e26 => ⟨M1, ?_, kq_rf⟩)
    · refine am_cl_in am_c81 rfl ?_
      iterate 3 refine am_wp_step _ rfl ?_
      refine ⟨_, _, cl_t hg.1 (c_isDish _ _ _ hm), ?_⟩
      iterate 5 refine am_wp_step _ rfl ?_
      refine ⟨_, _, cl_t hg.2 (c_within _ _ _ _ _), ?_⟩
      iterate 7 refine am_wp_step _ rfl ?_
      refine am_ixN (i) (rfl) (show _ < 8 by omega) (show (8 : Nat) < 2 ^ 31 by decide) (fun e => ?_); rw [e]
      iterate 2 refine am_wp_step _ rfl ?_
      refine ⟨_, _, c_dishFact _ 0 i k M (by omega), ?_⟩
      iterate 1 refine am_wp_step _ rfl ?_
      exact ⟨trivial, by rw [RB_hv hi (by omega) hB], rfl⟩
    · have ea : M1 33 0 0 = a := (by rw [e33]; exact ha); have en : M1 33 0 0 1 = nI n := (by rw [ea]; exact hG.2.2.1); have em : M1 33 0 0 2 = nI m := (by rw [ea]; exact hG.2.2.2.1)
      refine am_cl_in am_c158 rfl ?_
      repeat' first | refine am_wp_step _ rfl ?_ | refine am_iteB (fun h => ?_) (fun h => ?_) | refine am_iteN (fun h => ?_) (fun h => ?_) | refine am_ite (fun h => ?_) (fun h => ?_) | refine ⟨_, _, cl_t hg.1 (m_isH _ _ _ em), ?_⟩ | refine ⟨_, _, cl_t hg.2 (m_within _ _ _ _ _), ?_⟩ | refine ⟨_, _, m_dishIs _ i k M1 (by omega) (by omega), ?_⟩ | fail
      exact ⟨trivial, by rw [ea], rfl⟩
  · refine JJ_e (k := 1) (by decide) (by decide) hR ?_ (fun M1 e33 e26 => ?_)
    · refine am_cl_in am_c81 rfl ?_
      repeat' first | refine am_wp_step _ rfl ?_ | refine am_iteB (fun h => ?_) (fun h => ?_) | refine am_iteN (fun h => ?_) (fun h => ?_) | refine am_ite (fun h => ?_) (fun h => ?_) | refine ⟨_, _, c_isDead _ _ _ hn, ?_⟩ | refine ⟨_, _, c_isDish _ _ _ hm, ?_⟩ | refine ⟨_, _, c_within _ _ _ _ _, ?_⟩ | refine ⟨_, _, c_isKM _ _ _, ?_⟩ | refine ⟨_, _, c_isHouse _ _ _, ?_⟩ | refine ⟨_, _, c_isAhead _ _ _, ?_⟩ | refine ⟨_, _, c_isSheet _ _ _, ?_⟩ | refine ⟨_, _, c_err1 _ _, ?_⟩ | refine ⟨_, _, c_err2 _ _, ?_⟩ | refine ⟨_, _, c_err3 _ _, ?_⟩ | refine ⟨_, _, c_err4 _ _, ?_⟩ | refine ⟨_, _, c_err5 _ _, ?_⟩ | fail
      all_goals first | exact ⟨trivial, rfl, rfl⟩ | (exfalso; grind)
    · have ea : M1 33 0 0 = a := (by rw [e33]; exact ha); have en : M1 33 0 0 1 = nI n := (by rw [ea]; exact hG.2.2.1); have em : M1 33 0 0 2 = nI m := (by rw [ea]; exact hG.2.2.2.1)
      refine am_cl_in am_c158 rfl ?_
      repeat' first | refine am_wp_step _ rfl ?_ | refine am_iteB (fun h => ?_) (fun h => ?_) | refine am_iteN (fun h => ?_) (fun h => ?_) | refine am_ite (fun h => ?_) (fun h => ?_) | refine ⟨_, _, m_isD _ _ _ en, ?_⟩ | refine ⟨_, _, m_isH _ _ _ em, ?_⟩ | refine ⟨_, _, m_within _ _ _ _ _, ?_⟩ | refine ⟨_, _, m_isHouse _ _ _, ?_⟩ | refine ⟨_, _, m_isAhead _ _ _, ?_⟩ | refine ⟨_, _, m_isSheet _ _ _, ?_⟩ | refine ⟨_, _, m_find1 _ _, ?_⟩ | refine ⟨_, _, m_find2 _ _, ?_⟩ | refine ⟨_, _, m_find3 _ _, ?_⟩ | refine ⟨_, _, m_find4 _ _, ?_⟩ | refine ⟨_, _, m_find5 _ _, ?_⟩ | refine am_andv (by unfold vp_in; decide) ?_ | fail
      all_goals first | exact ⟨trivial, rfl, rfl⟩ | (exfalso; grind)
theorem jj_hunger (x : Int32) : JJ 85 162 [.inl x] := by
  intro M hR
  obtain ⟨n, m, a, ha, hG, hB, hab, hT0, hT1, hW4, hW5, hz, hbl, hBY, h288, hTC⟩ := RC_get hR; have hn := hB.1; have hm := hB.2.1; have hn8 := hG.1; have hm8 := hG.2.1; have hX0 := hG.2.2.2.2.2.2.1; have hX1 := hG.2.2.2.2.2.2.2
  by_cases hg : 0 ≤ x ∧ x ≤ 3
  · obtain ⟨k, hk, rfl⟩ := wI_ex (b := 3) hg (by decide)
    refine JJ_q (v := a (6 + k)) hR ⟨M, ?_, cS_rf⟩ (fun M1 e33 e26 => ⟨M1, ?_, kq_rf⟩)
    · refine am_cl_in am_c85 rfl ?_
      repeat' first | refine am_wp_step _ rfl ?_ | refine am_iteB (fun h => ?_) (fun h => ?_) | refine am_iteN (fun h => ?_) (fun h => ?_) | refine am_ite (fun h => ?_) (fun h => ?_) | refine ⟨_, _, cl_t hg (c_isHouse _ _ _), ?_⟩ | refine am_ixN (k) (rfl) (show _ < 4 by omega) (show (4 : Nat) < 2 ^ 31 by decide) (fun e => ?_) | fail
      refine ⟨trivial, ?_, rfl⟩
      rw [e]
      exact congrArg _ (congrArg _ (hB.2.2.2.2.2.1 k (by omega)))
    · have ea : M1 33 0 0 = a := (by rw [e33]; exact ha); have en : M1 33 0 0 1 = nI n := (by rw [ea]; exact hG.2.2.1); have em : M1 33 0 0 2 = nI m := (by rw [ea]; exact hG.2.2.2.1)
      refine am_cl_in am_c162 rfl ?_
      repeat' first | refine am_wp_step _ rfl ?_ | refine am_iteB (fun h => ?_) (fun h => ?_) | refine am_iteN (fun h => ?_) (fun h => ?_) | refine am_ite (fun h => ?_) (fun h => ?_) | refine ⟨_, _, cl_t hg (m_isHouse _ _ _), ?_⟩ | refine am_ixN (6 + k) (by simp only [nI_lit, nI_add, nI_mul]) (show _ < 288 by omega) (show (288 : Nat) < 2 ^ 31 by decide) (fun e => ?_) | fail
      refine ⟨trivial, ?_, rfl⟩
      rw [e, ← ea]
  · refine JJ_e (k := 1) (by decide) (by decide) hR ?_ (fun M1 e33 e26 => ?_)
    · refine am_cl_in am_c85 rfl ?_
      repeat' first | refine am_wp_step _ rfl ?_ | refine am_iteB (fun h => ?_) (fun h => ?_) | refine am_iteN (fun h => ?_) (fun h => ?_) | refine am_ite (fun h => ?_) (fun h => ?_) | refine ⟨_, _, c_isDead _ _ _ hn, ?_⟩ | refine ⟨_, _, c_isDish _ _ _ hm, ?_⟩ | refine ⟨_, _, c_within _ _ _ _ _, ?_⟩ | refine ⟨_, _, c_isKM _ _ _, ?_⟩ | refine ⟨_, _, c_isHouse _ _ _, ?_⟩ | refine ⟨_, _, c_isAhead _ _ _, ?_⟩ | refine ⟨_, _, c_isSheet _ _ _, ?_⟩ | refine ⟨_, _, c_err1 _ _, ?_⟩ | refine ⟨_, _, c_err2 _ _, ?_⟩ | refine ⟨_, _, c_err3 _ _, ?_⟩ | refine ⟨_, _, c_err4 _ _, ?_⟩ | refine ⟨_, _, c_err5 _ _, ?_⟩ | fail
      all_goals first | exact ⟨trivial, rfl, rfl⟩ | (exfalso; grind)
    · have ea : M1 33 0 0 = a := (by rw [e33]; exact ha); have en : M1 33 0 0 1 = nI n := (by rw [ea]; exact hG.2.2.1); have em : M1 33 0 0 2 = nI m := (by rw [ea]; exact hG.2.2.2.1)
      refine am_cl_in am_c162 rfl ?_
      repeat' first | refine am_wp_step _ rfl ?_ | refine am_iteB (fun h => ?_) (fun h => ?_) | refine am_iteN (fun h => ?_) (fun h => ?_) | refine am_ite (fun h => ?_) (fun h => ?_) | refine ⟨_, _, m_isD _ _ _ en, ?_⟩ | refine ⟨_, _, m_isH _ _ _ em, ?_⟩ | refine ⟨_, _, m_within _ _ _ _ _, ?_⟩ | refine ⟨_, _, m_isHouse _ _ _, ?_⟩ | refine ⟨_, _, m_isAhead _ _ _, ?_⟩ | refine ⟨_, _, m_isSheet _ _ _, ?_⟩ | refine ⟨_, _, m_find1 _ _, ?_⟩ | refine ⟨_, _, m_find2 _ _, ?_⟩ | refine ⟨_, _, m_find3 _ _, ?_⟩ | refine ⟨_, _, m_find4 _ _, ?_⟩ | refine ⟨_, _, m_find5 _ _, ?_⟩ | refine am_andv (by unfold vp_in; decide) ?_ | fail
      all_goals first | exact ⟨trivial, rfl, rfl⟩ | (exfalso; grind)
