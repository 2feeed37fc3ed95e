/-! THE CLASS'S READER: signs and operands -/
theorem c_opS0 (d : Nat) (c : Int32) (C P : List Int32) (M : am_F) (hS : RSt M true C P) (hl : P.length ≤ 50) (h5 : 5 ≤ nO P) : am_cl am_cds (d + 2) 35 [.inr (.inr (19, 0, 0)), .inl c] (am_S M) (some (.inl 0)) (am_S M) := by
  refine am_cl_in am_c35 rfl ?_
  have := nO_le P
  iterate 4 refine am_wp_step _ rfl ?_
  refine am_iteF (show ¬ M 19 0 0 2 < 5 by rw [hS.2.2.1]; show ¬ nI (nO P) < nI 5; exact nI_nlt h5 (by omega)) ?_
  iterate 2 refine am_wp_step _ rfl ?_
  exact ⟨trivial, rfl, rfl⟩
theorem c_opS1 (d : Nat) (c : Int32) (C P : List Int32) (M : am_F) (hc : c = 33 ∨ c = 40) (hS : RSt M true C P) (hl : P.length < 50) (h5 : nO P < 5) : ∃ M', am_cl am_cds (d + 2) 35 [.inr (.inr (19, 0, 0)), .inl c] (am_S M) (some (.inl 1)) (am_S M') ∧ (RSt M' true C (c :: P) ∧ fc M M') := by
  refine am_cl_v (fun M' => RSt M' true C (c :: P) ∧ fc M M') am_c35 rfl ?_
  have l13 : am_ln 27 13 = 50 := rfl
  iterate 4 refine am_wp_step _ rfl ?_
  refine am_iteT (show M 19 0 0 2 < 5 by rw [hS.2.2.1]; exact nI_lt (b := 5) h5 (by decide)) ?_
  have key : ∀ (z : Int32) (k : Nat), nI (nB P) + z = nI k → nO (c :: P) = nO P + 1 → nB (c :: P) = k → ∀ L, am_wp (am_cl am_cds (d + 1)) am_c35 (fun w m => w = some (Sum.inl 1) ∧ ∃ M', m = am_S M' ∧ RSt M' true C (c :: P) ∧ fc M M') 23 ((0, .inr (.inr (19, 0, 0))) :: (1, .inl c) :: L) [] (am_S (am_up (am_up M 19 0 0 2 (M 19 0 0 2 + 1)) 19 0 0 3 (am_up M 19 0 0 2 (M 19 0 0 2 + 1) 19 0 0 3 + z))) := by
    intro z k e1 e2 e3 L
    rw [am_up_s (by decide), hS.2.2.1, hS.2.2.2.1, nI_1, e1]
    iterate 4 refine am_wp_step _ rfl ?_
    refine am_call0 (c_addS _ 13 c P _ (rwS_19 (rwS_19 hS.2.1)) (by rw [l13]; omega) (by rw [l13]; decide)) (fun M2 h2 => ?_)
    iterate 2 refine am_wp_step _ rfl ?_
    have e19 := h2.2 19 0 (by omega)
    refine ⟨trivial, rfl, M2, rfl, ⟨rwS_F (by decide) h2.2 (rwS_19 (rwS_19 hS.1)), h2.1, ?_, ?_, ?_⟩, fc_tr (fc_tr fc_19 fc_19) (fc_R (fR_F (by omega) h2.2))⟩
    · rw [e19, am_up_s (by decide), am_up_same, e2]
    · rw [e19, am_up_same, e3]
    · rw [e19, am_up_s (by decide), am_up_s (by decide)]; exact hS.2.2.2.2
  rcases hc with rfl | rfl
  · iterate 15 refine am_wp_step _ rfl ?_
    exact key 0 (nB P) (Int32.add_zero _) rfl rfl _
  · iterate 16 refine am_wp_step _ rfl ?_
    exact key 1 (nB P + 1) (nI_1 _) rfl rfl _
theorem c_clo0 (d : Nat) (C P : List Int32) (M : am_F) (hS : RSt M false C P) (h0 : nB P = 0) : am_cl am_cds (d + 4) 40 [.inr (.inr (19, 0, 0))] (am_S M) (some (.inl 0)) (am_S M) := by
  refine am_cl_in am_c40 rfl ?_
  iterate 3 refine am_wp_step _ rfl ?_
  refine am_iteF (show ¬ M 19 0 0 3 ≠ 0 by rw [hS.2.2.2.1, h0]; decide) ?_
  iterate 2 refine am_wp_step _ rfl ?_
  exact ⟨trivial, rfl, rfl⟩
theorem c_clo1 (d : Nat) (C P C1 P1 : List Int32) (M : am_F) (hS : RSt M false C P) (hl : C.length + P.length ≤ 50) (h0 : nB P ≠ 0) (he : stl 1 C P = (C1, 40 :: P1)) : ∃ M', am_cl am_cds (d + 4) 40 [.inr (.inr (19, 0, 0))] (am_S M) (some (.inl 1)) (am_S M') ∧ (RSt M' false (enO C1 P1).1 (enO C1 P1).2 ∧ fc M M') := by
  refine am_cl_v (fun M' => RSt M' false (enO C1 P1).1 (enO C1 P1).2 ∧ fc M M') am_c40 rfl ?_
  have l13 : am_ln 27 13 = 50 := rfl
  have hB := nB_le P
  have hlen := stl_len 1 P C
  have hn := stl_n 1 (by omega) P C
  rw [he] at hlen hn
  have hlen : C1.length + (P1.length + 1) = C.length + P.length := hlen
  have hnO : nO P1 + 1 = nO P := hn.1
  have hnB : nB P1 + 1 = nB P := hn.2
  iterate 3 refine am_wp_step _ rfl ?_
  refine am_iteT (show M 19 0 0 3 ≠ 0 by rw [hS.2.2.2.1]; exact nI_ne0 (by omega) (by omega)) ?_
  iterate 3 refine am_wp_step _ rfl ?_
  refine am_call0 (c_stl d 1 C P M (by omega) hS.1 hS.2.1 hl) (fun M1 h1 => ?_)
  rw [he] at h1
  iterate 3 refine am_wp_step _ rfl ?_
  refine am_call0 (c_dropS _ 13 40 P1 M1 h1.2.1 (by rw [l13]; omega) (by rw [l13]; decide)) (fun M2 h2 => ?_)
  have e19 : M2 19 0 = M 19 0 := (h2.2 19 0 (by omega)).trans (h1.2.2 19 0 (by omega))
  iterate 14 refine am_wp_step _ rfl ?_
  have e3 : am_up (am_up M2 19 0 0 3 (M2 19 0 0 3 - 1)) 19 0 0 2 (am_up M2 19 0 0 3 (M2 19 0 0 3 - 1) 19 0 0 2 - 1) = am_up (am_up M2 19 0 0 3 (nI (nB P1))) 19 0 0 2 (nI (nO P1)) := by
    rw [am_up_s (by decide), e19, hS.2.2.1, hS.2.2.2.1, ← hnO, ← hnB, nI_pred, nI_pred]
  refine am_call0 (P := fun M' => RSt M' false (enO C1 P1).1 (enO C1 P1).2 ∧ fc (am_up (am_up M2 19 0 0 3 (nI (nB P1))) 19 0 0 2 (nI (nO P1))) M') ?_ (fun M3 h3 => ?_)
  · show ∃ M', am_cl am_cds (d + 3) 38 [.inr (.inr (19, 0, 0))] (am_S (am_up (am_up M2 19 0 0 3 (M2 19 0 0 3 - 1)) 19 0 0 2 (am_up M2 19 0 0 3 (M2 19 0 0 3 - 1) 19 0 0 2 - 1))) none (am_S M') ∧ _
    rw [e3]
    exact c_enO d C1 P1 _ (rwS_19 (rwS_19 (rwS_F (by decide) h2.2 h1.1))) (rwS_19 (rwS_19 h2.1)) am_up_same ((am_up_s (by decide)).trans am_up_same) (by omega)
  · iterate 2 refine am_wp_step _ rfl ?_
    exact ⟨trivial, rfl, M3, rfl, h3.1, fc_tr (fc_tr (fc_tr (fc_tr (fc_R h1.2.2) (fc_R (fR_F (by omega) h2.2))) fc_19) fc_19) h3.2⟩
theorem c_sg0 (d : Nat) (c : Int32) (C P : List Int32) (M : am_F) (hS : RSt M false C P) (h : (c = 41 ∧ nB P = 0) ∨ (c ≠ 41 ∧ lvl c = 0)) : am_cl am_cds (d + 5) 39 [.inr (.inr (19, 0, 0)), .inl c] (am_S M) (some (.inl 0)) (am_S M) := by
  refine am_cl_in am_c39 rfl ?_
  iterate 3 refine am_wp_step _ rfl ?_
  rcases h with ⟨rfl, h⟩ | ⟨hc, h⟩
  · iterate 2 refine am_wp_step _ rfl ?_
    refine ⟨_, _, c_clo0 d C P M hS h, ?_⟩
    iterate 1 refine am_wp_step _ rfl ?_
    exact ⟨trivial, rfl, rfl⟩
  · refine am_iteT hc ?_
    iterate 2 refine am_wp_step _ rfl ?_
    refine ⟨_, _, c_lvl _ c M, ?_⟩
    iterate 3 refine am_wp_step _ rfl ?_
    refine am_iteF (show ¬ nI (lvl c) ≠ 0 by rw [h]; decide) ?_
    iterate 2 refine am_wp_step _ rfl ?_
    exact ⟨trivial, rfl, rfl⟩
theorem c_sg41 (d : Nat) (C P C1 P1 : List Int32) (M : am_F) (hS : RSt M false C P) (hl : C.length + P.length ≤ 50) (h0 : nB P ≠ 0) (he : stl 1 C P = (C1, 40 :: P1)) : ∃ M', am_cl am_cds (d + 5) 39 [.inr (.inr (19, 0, 0)), .inl 41] (am_S M) (some (.inl 1)) (am_S M') ∧ (RSt M' false (enO C1 P1).1 (enO C1 P1).2 ∧ fc M M') := by
  refine am_cl_v (fun M' => RSt M' false (enO C1 P1).1 (enO C1 P1).2 ∧ fc M M') am_c39 rfl ?_
  iterate 5 refine am_wp_step _ rfl ?_
  refine am_call1 (c_clo1 d C P C1 P1 M hS hl h0 he) (fun M1 h1 => ?_)
  iterate 1 refine am_wp_step _ rfl ?_
  exact ⟨trivial, rfl, M1, rfl, h1⟩
theorem c_sg3 (d : Nat) (c : Int32) (C P : List Int32) (M : am_F) (hS : RSt M false C P) (hl : C.length + P.length ≤ 50) (h3 : lvl c = 3) (ht : lvl ((stl 4 C P).2.headD 0) = 3) : ∃ M', am_cl am_cds (d + 5) 39 [.inr (.inr (19, 0, 0)), .inl c] (am_S M) (some (.inl 0)) (am_S M') ∧ fc M M' := by
  refine am_cl_v (fun M' => fc M M') am_c39 rfl ?_
  have l13 : am_ln 27 13 = 50 := rfl
  have hne := lvl_ne (c := c) (by omega)
  have hlen := stl_len 4 P C
  iterate 3 refine am_wp_step _ rfl ?_
  refine am_iteT hne.1 ?_
  iterate 2 refine am_wp_step _ rfl ?_
  refine ⟨_, _, c_lvl _ c M, ?_⟩
  iterate 3 refine am_wp_step _ rfl ?_
  refine am_iteT (show nI (lvl c) ≠ 0 by rw [h3]; decide) ?_
  iterate 3 refine am_wp_step _ rfl ?_
  refine am_iteF (show ¬ nI (lvl c) ≠ 3 by rw [h3]; decide) ?_
  iterate 3 refine am_wp_step _ rfl ?_
  refine am_call0 (c_stl _ 4 C P M (by omega) hS.1 hS.2.1 hl) (fun M1 h1 => ?_)
  iterate 3 refine am_wp_step _ rfl ?_
  refine ⟨_, _, c_lastS _ 13 _ M1 h1.2.1 (by rw [l13]; omega) (by rw [l13]; decide), ?_⟩
  iterate 1 refine am_wp_step _ rfl ?_
  refine ⟨_, _, c_lvl _ _ M1, ?_⟩
  iterate 2 refine am_wp_step _ rfl ?_
  refine am_iteF (show ¬ nI (lvl ((stl 4 C P).2.headD 0)) ≠ 3 by rw [ht]; decide) ?_
  iterate 2 refine am_wp_step _ rfl ?_
  exact ⟨trivial, rfl, M1, rfl, fc_R h1.2.2⟩
theorem nI_l3 {l : Nat} (h : l ≤ 5) (h3 : l ≠ 3) : nI l ≠ 3 := by
  rcases (by omega : l = 0 ∨ l = 1 ∨ l = 2 ∨ l = 4 ∨ l = 5) with rfl | rfl | rfl | rfl | rfl <;> decide
theorem c_sgO (d : Nat) (c : Int32) (C P : List Int32) (M : am_F) (hS : RSt M false C P) (hl : C.length + P.length < 50) (h0 : lvl c ≠ 0) (ht : lvl c = 3 → lvl ((stl 4 C P).2.headD 0) ≠ 3) : ∃ M', am_cl am_cds (d + 5) 39 [.inr (.inr (19, 0, 0)), .inl c] (am_S M) (some (.inl 1)) (am_S M') ∧ (RSt M' true (stl (lvl c) C P).1 (c :: (stl (lvl c) C P).2) ∧ fc M M') := by
  refine am_cl_v (fun M' => RSt M' true (stl (lvl c) C P).1 (c :: (stl (lvl c) C P).2) ∧ fc M M') am_c39 rfl ?_
  have l13 : am_ln 27 13 = 50 := rfl
  have hne := lvl_ne h0
  have hle := lvl_le c
  have K : ∀ (C' P' : List Int32) (M1 : am_F), rwS M1 12 C' → rwS M1 13 P' → C'.length + P'.length < 50 → fR M M1 → stl (lvl c) C' P' = stl (lvl c) C P → am_wp (am_cl am_cds (d + 4)) am_c39 (fun w m => w = some (Sum.inl 1) ∧ ∃ M', m = am_S M' ∧ RSt M' true (stl (lvl c) C P).1 (c :: (stl (lvl c) C P).2) ∧ fc M M') 27 [(0, .inr (.inr (19, 0, 0))), (1, .inl c), (2, .inl (nI (lvl c)))] [] (am_S M1) := by
    intro C' P' M1 g1 g2 g3 g4 g5
    have hlen := stl_len (lvl c) P' C'
    iterate 3 refine am_wp_step _ rfl ?_
    refine am_call0 (c_stl _ (lvl c) C' P' M1 hle g1 g2 (by omega)) (fun M2 h2 => ?_)
    iterate 4 refine am_wp_step _ rfl ?_
    refine am_call0 (c_addS _ 13 c _ M2 h2.2.1 (by rw [l13]; omega) (by rw [l13]; decide)) (fun M3 h3 => ?_)
    iterate 3 refine am_wp_step _ rfl ?_
    refine ⟨Or.inr rfl, ?_⟩
    iterate 2 refine am_wp_step _ rfl ?_
    have e19 : M3 19 0 = M 19 0 := ((h3.2 19 0 (by omega)).trans (h2.2.2 19 0 (by omega))).trans (g4 19 0 (by omega))
    have hn := stl_n (lvl c) (by omega) P C
    rw [← g5]
    rw [← g5] at hn
    have eO : nO (c :: (stl (lvl c) C' P').2) = nO P := by show nO _ + _ = _; rw [if_neg (by grind)]; exact hn.1
    have eB : nB (c :: (stl (lvl c) C' P').2) = nB P := by show nB _ + _ = _; rw [if_neg (by grind)]; exact hn.2
    refine ⟨trivial, rfl, _, rfl, ⟨rwS_19 (rwS_F (by decide) h3.2 h2.1), rwS_19 h3.1, ?_, ?_, am_up_same⟩, fc_tr (fc_tr (fc_tr (fc_R g4) (fc_R h2.2.2)) (fc_R (fR_F (by omega) h3.2))) fc_19⟩
    · rw [am_up_s (by decide)]; show M3 19 0 0 2 = _; rw [e19, hS.2.2.1, eO]
    · rw [am_up_s (by decide)]; show M3 19 0 0 3 = _; rw [e19, hS.2.2.2.1, eB]
  iterate 3 refine am_wp_step _ rfl ?_
  refine am_iteT hne.1 ?_
  iterate 2 refine am_wp_step _ rfl ?_
  refine ⟨_, _, c_lvl _ c M, ?_⟩
  iterate 3 refine am_wp_step _ rfl ?_
  refine am_iteT (show nI (lvl c) ≠ 0 from nI_ne0 (by omega) (by omega)) ?_
  iterate 3 refine am_wp_step _ rfl ?_
  by_cases h3 : lvl c = 3
  · refine am_iteF (show ¬ nI (lvl c) ≠ 3 by rw [h3]; decide) ?_
    have hlen := stl_len 4 P C
    iterate 3 refine am_wp_step _ rfl ?_
    refine am_call0 (c_stl _ 4 C P M (by omega) hS.1 hS.2.1 (by omega)) (fun M1 h1 => ?_)
    iterate 3 refine am_wp_step _ rfl ?_
    refine ⟨_, _, c_lastS _ 13 _ M1 h1.2.1 (by rw [l13]; omega) (by rw [l13]; decide), ?_⟩
    iterate 1 refine am_wp_step _ rfl ?_
    refine ⟨_, _, c_lvl _ _ M1, ?_⟩
    iterate 2 refine am_wp_step _ rfl ?_
    refine am_iteT (show nI (lvl ((stl 4 C P).2.headD 0)) ≠ 3 from nI_l3 (lvl_le _) (ht h3)) ?_
    exact K _ _ M1 h1.1 h1.2.1 (by omega) h1.2.2 (by rw [h3]; exact stl_stl P C)
  · refine am_iteT (show nI (lvl c) ≠ 3 from nI_l3 hle h3) ?_
    exact K C P M hS.1 hS.2.1 hl (fR_rf M) rfl
/-! digits -/
def TR (M : am_F) (h : Nat → Int32) (N : Nat) : Prop := M 21 4 0 1 = nI N ∧ N ≤ 50 ∧ TXT h N ∧ (∀ a, a < N → h a = M 27 4 0 a) ∧ ∀ a, a < N → h a ≤ 255
theorem TR_fc {M M' : am_F} {h : Nat → Int32} {N : Nat} (p : fc M M') (q : TR M h N) : TR M' h N := by
  unfold TR
  rw [p 21 4 (by omega) (by decide), p 27 4 (by omega) (by decide)]
  exact q
theorem c_at4 (d i N : Nat) (h : Nat → Int32) (M : am_F) (q : TR M h N) (hi : i < 100) : am_cl am_cds (d + 1) 51 [.inr (.inr (21, 4, 0)), .inl (nI i)] (am_S M) (some (.inl (if i < N then h i else 0))) (am_S M) := by
  have l4 : am_ln 27 4 = 50 := rfl
  by_cases c : i < N
  · rw [if_pos c, q.2.2.2.1 i c]
    exact c_at d 4 N i M q.1 c (by rw [l4]; exact q.2.1) (by rw [l4]; decide)
  · rw [if_neg c]
    refine am_cl_in am_c51 rfl ?_
    iterate 2 refine am_wp_step _ rfl ?_
    refine am_iteF (nI_pos (by omega)) ?_
    iterate 4 refine am_wp_step _ rfl ?_
    refine am_iteT (show M 21 4 0 1 ≤ nI i by rw [q.1]; exact nI_le (by omega) (by omega)) ?_
    iterate 2 refine am_wp_step _ rfl ?_
    exact ⟨trivial, rfl, rfl⟩
theorem dg_at {h : Nat → Int32} {N i : Nat} (H : TXT h N) : isDg (h i) ↔ isDg (if i < N then h i else 0) := by
  by_cases c : i < N
  · rw [if_pos c]
  · rw [if_neg c, H.1 i (by omega)]
    exact ⟨fun w => absurd w (by unfold isDg; decide), fun w => absurd w (by unfold isDg; decide)⟩
theorem c_cnt (d a k N : Nat) (h : Nat → Int32) (M : am_F) (q : TR M h N) (ha : a ≤ 50) (hk : DG h a k) : am_cl am_cds (d + 2) 36 [.inr (.inr (21, 4, 0)), .inl (nI a)] (am_S M) (some (.inl (nI k))) (am_S M) := by
  refine am_cl_in am_c36 rfl ?_
  have hk4 := hk.2.1
  have hloop : ∀ j, j ≤ k → am_wp (am_cl am_cds (d + 1)) am_c36 (fun w m => w = some (Sum.inl (nI k)) ∧ m = am_S M) 2 [(0, .inr (.inr (21, 4, 0))), (1, .inl (nI a)), (2, .inl (nI j))] [] (am_S M) := by
    intro j
    induction hh : k - j generalizing j with
    | zero =>
      intro hj
      have hj : j = k := by omega
      subst hj
      iterate 3 refine am_wp_step _ rfl ?_
      by_cases c4 : j = 4
      · refine am_iteT (show (4 : Int32) ≤ nI j by rw [c4]; decide) ?_
        iterate 2 refine am_wp_step _ rfl ?_
        exact ⟨trivial, rfl, rfl⟩
      · refine am_iteF (show ¬ nI 4 ≤ nI j from nI_ge (by omega) (by decide)) ?_
        have hd := hk.2.2 (by omega)
        rw [dg_at q.2.2.1] at hd
        iterate 5 refine am_wp_step _ rfl ?_
        rw [show nI a + nI j = nI (a + j) from nI_add a j]
        refine ⟨_, _, c_at4 _ (a + j) N h M q (by omega), ?_⟩
        iterate 2 refine am_wp_step _ rfl ?_
        refine am_ite (fun w => ?_) (fun w => ?_)
        · iterate 2 refine am_wp_step _ rfl ?_
          exact ⟨trivial, rfl, rfl⟩
        · iterate 5 refine am_wp_step _ rfl ?_
          rw [show nI a + nI j = nI (a + j) from nI_add a j]
          refine ⟨_, _, c_at4 _ (a + j) N h M q (by omega), ?_⟩
          iterate 2 refine am_wp_step _ rfl ?_
          refine am_iteT ?_ ?_
          · have w : ¬ (if a + j < N then h (a + j) else 0) < 48 := w
            show (57 : Int32) < (if a + j < N then h (a + j) else 0)
            unfold isDg at hd
            rw [Int32.not_lt] at w
            exact Int32.not_le.mp (fun w2 => hd ⟨w, w2⟩)
          · iterate 2 refine am_wp_step _ rfl ?_
            exact ⟨trivial, rfl, rfl⟩
    | succ l ih =>
      intro hj
      have hd := hk.1 j (by omega)
      rw [dg_at q.2.2.1] at hd
      iterate 3 refine am_wp_step _ rfl ?_
      refine am_iteF (show ¬ nI 4 ≤ nI j from nI_ge (by omega) (by decide)) ?_
      iterate 5 refine am_wp_step _ rfl ?_
      rw [show nI a + nI j = nI (a + j) from nI_add a j]
      refine ⟨_, _, c_at4 _ (a + j) N h M q (by omega), ?_⟩
      iterate 2 refine am_wp_step _ rfl ?_
      refine am_iteF (Int32.not_lt.mpr hd.1) ?_
      iterate 5 refine am_wp_step _ rfl ?_
      rw [show nI a + nI j = nI (a + j) from nI_add a j]
      refine ⟨_, _, c_at4 _ (a + j) N h M q (by omega), ?_⟩
      iterate 2 refine am_wp_step _ rfl ?_
      refine am_iteF (Int32.not_lt.mpr hd.2) ?_
      iterate 2 refine am_wp_step _ rfl ?_
      rw [show nI j + 1 = nI (j + 1) from nI_1 j]
      exact ih (j + 1) (by omega) (by omega)
  iterate 2 refine am_wp_step _ rfl ?_
  exact hloop 0 (Nat.zero_le _)
theorem c_numA (d a k N : Nat) (h : Nat → Int32) (M : am_F) (q : TR M h N) (hk : DG h a k) (hak : a + k ≤ N) : am_cl am_cds (d + 2) 37 [.inr (.inr (21, 4, 0)), .inl (nI a), .inl (nI k)] (am_S M) (some (.inl (nvl h a k))) (am_S M) := by
  refine am_cl_in am_c37 rfl ?_
  have hN := q.2.1
  have hloop : ∀ j, j ≤ k → am_wp (am_cl am_cds (d + 1)) am_c37 (fun w m => w = some (Sum.inl (nvl h a k)) ∧ m = am_S M) 4 [(0, .inr (.inr (21, 4, 0))), (1, .inl (nI a)), (2, .inl (nI k)), (3, .inl (nvl h a j)), (4, .inl (nI j))] [] (am_S M) := by
    intro j
    induction hh : k - j generalizing j with
    | zero =>
      intro hj
      have hj : j = k := by omega
      subst hj
      iterate 3 refine am_wp_step _ rfl ?_
      refine am_iteT (Int32.le_refl _) ?_
      iterate 2 refine am_wp_step _ rfl ?_
      exact ⟨trivial, rfl, rfl⟩
    | succ l ih =>
      intro hj
      iterate 3 refine am_wp_step _ rfl ?_
      refine am_iteF (show ¬ nI k ≤ nI j from nI_ge (by omega) (by omega)) ?_
      iterate 8 refine am_wp_step _ rfl ?_
      rw [show nI a + nI j = nI (a + j) from nI_add a j]
      refine ⟨_, _, c_at4 _ (a + j) N h M q (by omega), ?_⟩
      rw [if_pos (show a + j < N by omega)]
      iterate 6 refine am_wp_step _ rfl ?_
      rw [show nI j + 1 = nI (j + 1) from nI_1 j]
      exact ih (j + 1) (by omega) (by omega)
  iterate 4 refine am_wp_step _ rfl ?_
  exact hloop 0 (Nat.zero_le _)
