/-! THE CLASS'S READER -/
def fR (M M' : am_F) : Prop := ∀ r bb, ¬ ((r = 21 ∨ r = 27) ∧ (bb = 12 ∨ bb = 13)) → M' r bb = M r bb
def fc (M M' : am_F) : Prop := ∀ r bb, ¬ ((r = 21 ∨ r = 27) ∧ (bb = 12 ∨ bb = 13)) → r ≠ 19 → M' r bb = M r bb
theorem fR_rf (M : am_F) : fR M M := fun _ _ _ => rfl
theorem fR_tr {M M1 M2 : am_F} (h : fR M M1) (h2 : fR M1 M2) : fR M M2 := fun r b q => (h2 r b q).trans (h r b q)
theorem fc_rf (M : am_F) : fc M M := fun _ _ _ _ => rfl
theorem fc_tr {M M1 M2 : am_F} (h : fc M M1) (h2 : fc M1 M2) : fc M M2 := fun r b q q2 => (h2 r b q q2).trans (h r b q q2)
theorem fc_R {M M1 : am_F} (h : fR M M1) : fc M M1 := fun r b q _ => h r b q
theorem fR_F {M M' : am_F} {b : Nat} (hb : b = 12 ∨ b = 13) (h : rwF M M' b) : fR M M' := fun r bb q => h r bb (fun w => q ⟨w.1, by omega⟩)
theorem fc_19 {M : am_F} {s : Nat} {x : Int32} : fc M (am_up M 19 0 0 s x) := fun r b _ q => by rw [am_up_r q]
theorem rwS_cg {M M' : am_F} {b : Nat} {st : List Int32} (h1 : M' 21 b = M 21 b) (h2 : M' 27 b = M 27 b) (h : rwS M b st) : rwS M' b st := ⟨by rw [h1]; exact h.1, rwC_cg (fun j _ => by rw [h2]) h.2⟩
theorem rwS_F {M M' : am_F} {b b' : Nat} {st : List Int32} (hb : b' ≠ b) (h : rwF M M' b) (hs : rwS M b' st) : rwS M' b' st := rwS_cg (h 21 b' (fun w => hb w.2)) (h 27 b' (fun w => hb w.2)) hs
theorem rwS_19 {M : am_F} {s b : Nat} {x : Int32} {st : List Int32} (h : rwS M b st) : rwS (am_up M 19 0 0 s x) b st := rwS_cg (by rw [am_up_r (by decide)]) (by rw [am_up_r (by decide)]) h
def RSt (M : am_F) (w : Bool) (C P : List Int32) : Prop := rwS M 12 C ∧ rwS M 13 P ∧ M 19 0 0 2 = nI (nO P) ∧ M 19 0 0 3 = nI (nB P) ∧ M 19 0 0 4 = (if w = true then 1 else 0)
theorem nO_le (P : List Int32) : nO P ≤ P.length := by
  induction P with
  | nil => exact Nat.le_refl _
  | cons x P ih => unfold nO; rw [List.length_cons]; split <;> omega
theorem nB_le (P : List Int32) : nB P ≤ P.length := by
  induction P with
  | nil => exact Nat.le_refl _
  | cons x P ih => unfold nB; rw [List.length_cons]; split <;> omega
theorem stl_len (n : Nat) : ∀ P C, (stl n C P).1.length + (stl n C P).2.length = C.length + P.length := by
  intro P
  induction P with
  | nil => intro C; rfl
  | cons x P ih =>
    intro C
    unfold stl
    split
    · rw [ih]; simp only [List.length_cons]; omega
    · rfl
theorem enO_len : ∀ P C, (enO C P).1.length + (enO C P).2.length = C.length + P.length := by
  intro P
  induction P with
  | nil => intro C; rfl
  | cons x P ih =>
    intro C
    unfold enO
    split
    · rw [ih]; simp only [List.length_cons]; omega
    · rfl
theorem stl_n (n : Nat) (hn : 1 ≤ n) : ∀ P C, nO (stl n C P).2 = nO P ∧ nB (stl n C P).2 = nB P := by
  intro P
  induction P with
  | nil => intro C; exact ⟨rfl, rfl⟩
  | cons x P ih =>
    intro C
    unfold stl
    split
    · next q =>
      have := lvl_ne (c := x) (by omega)
      have eO : nO (x :: P) = nO P := by show nO P + _ = _; rw [if_neg (by grind)]; rfl
      have eB : nB (x :: P) = nB P := by show nB P + _ = _; rw [if_neg (by grind)]; rfl
      exact ⟨(ih _).1.trans eO.symm, (ih _).2.trans eB.symm⟩
    · exact ⟨rfl, rfl⟩
theorem stl_stl : ∀ P C, stl 3 (stl 4 C P).1 (stl 4 C P).2 = stl 3 C P := by
  intro P
  induction P with
  | nil => intro C; rfl
  | cons x P ih =>
    intro C
    by_cases q : 4 ≤ lvl x
    · have e4 : stl 4 C (x :: P) = stl 4 (em x :: C) P := if_pos q
      have e3 : stl 3 C (x :: P) = stl 3 (em x :: C) P := if_pos (by omega)
      rw [e4, e3]
      exact ih _
    · have e4 : stl 4 C (x :: P) = (C, x :: P) := if_neg q
      rw [e4]
theorem c_lvl (d : Nat) (c : Int32) (M : am_F) : am_cl am_cds (d + 1) 43 [.inl c] (am_S M) (some (.inl (nI (lvl c)))) (am_S M) := by
  refine am_cl_in am_c43 rfl ?_
  repeat' first | refine am_wp_step _ rfl ?_ | refine am_iteB (fun h => ?_) (fun h => ?_) | refine am_iteN (fun h => ?_) (fun h => ?_) | refine am_ite (fun h => ?_) (fun h => ?_) | fail
  all_goals
    refine ⟨trivial, ?_, rfl⟩
    first
      | (rw [show lvl c = 0 by unfold lvl; grind]; rfl)
      | (rw [show lvl c = 1 by unfold lvl; grind]; rfl)
      | (rw [show lvl c = 2 by unfold lvl; grind]; rfl)
      | (rw [show lvl c = 3 by unfold lvl; grind]; rfl)
      | (rw [show lvl c = 4 by unfold lvl; grind]; rfl)
      | (rw [show lvl c = 5 by unfold lvl; grind]; rfl)
theorem c_takeP (d : Nat) (x : Int32) (C P : List Int32) (M : am_F) (h12 : rwS M 12 C) (h13 : rwS M 13 (x :: P)) (hl : C.length + P.length < 50) : ∃ M', am_cl am_cds (d + 2) 42 [.inr (.inr (19, 0, 0))] (am_S M) none (am_S M') ∧ (rwS M' 12 (em x :: C) ∧ rwS M' 13 P ∧ fR M M') := by
  refine am_cl_v (fun M' => rwS M' 12 (em x :: C) ∧ rwS M' 13 P ∧ fR M M') am_c42 rfl ?_
  have l12 : am_ln 27 12 = 50 := rfl
  have l13 : am_ln 27 13 = 50 := rfl
  iterate 6 refine am_wp_step _ rfl ?_
  refine ⟨_, _, c_lastS _ 13 (x :: P) M h13 (by rw [l13, List.length_cons]; omega) (by rw [l13]; decide), ?_⟩
  iterate 2 refine am_wp_step _ rfl ?_
  refine am_call0 (c_addS _ 12 (em x) C M h12 (by rw [l12]; omega) (by rw [l12]; decide)) (fun M1 h1 => ?_)
  iterate 3 refine am_wp_step _ rfl ?_
  refine am_call0 (c_dropS _ 13 x P M1 (rwS_F (by decide) h1.2 h13) (by rw [l13]; omega) (by rw [l13]; decide)) (fun M2 h2 => ?_)
  iterate 1 refine am_wp_step _ rfl ?_
  exact ⟨rfl, M2, rfl, rwS_F (by decide) h2.2 h1.1, h2.1, fR_tr (fR_F (by omega) h1.2) (fR_F (by omega) h2.2)⟩
theorem nI_dn (k : Nat) : nI (k + 1) + -1 = nI k := by
  have := nI_pred k
  lia
theorem c_stl (d n : Nat) (C P : List Int32) (M : am_F) (hn : n ≤ 5) (h12 : rwS M 12 C) (h13 : rwS M 13 P) (hl : C.length + P.length ≤ 50) : ∃ M', am_cl am_cds (d + 3) 41 [.inr (.inr (19, 0, 0)), .inl (nI n)] (am_S M) none (am_S M') ∧ (rwS M' 12 (stl n C P).1 ∧ rwS M' 13 (stl n C P).2 ∧ fR M M') := by
  refine am_cl_v (fun M' => rwS M' 12 (stl n C P).1 ∧ rwS M' 13 (stl n C P).2 ∧ fR M M') am_c41 rfl ?_
  have l13 : am_ln 27 13 = 50 := rfl
  have hloop : ∀ (P' C' : List Int32) (M1 : am_F), rwS M1 12 C' → rwS M1 13 P' → C'.length + P'.length ≤ 50 → fR M M1 → stl n C' P' = stl n C P → am_wp (am_cl am_cds (d + 2)) am_c41 (fun w m => w = none ∧ ∃ M', m = am_S M' ∧ rwS M' 12 (stl n C P).1 ∧ rwS M' 13 (stl n C P).2 ∧ fR M M') 4 [(0, .inr (.inr (19, 0, 0))), (1, .inl (nI n)), (2, .inl (nI P'.length))] [] (am_S M1) := by
    intro P'
    induction P' with
    | nil =>
      intro C' M1 g1 g2 g3 g4 g5
      iterate 3 refine am_wp_step _ rfl ?_
      refine ⟨rfl, M1, rfl, ?_, ?_, g4⟩
      · rw [← g5]; exact g1
      · rw [← g5]; exact g2
    | cons x P' ih =>
      intro C' M1 g1 g2 g3 g4 g5
      rw [List.length_cons] at g3
      iterate 2 refine am_wp_step _ rfl ?_
      refine am_iteF (show ¬ nI (x :: P').length ≤ 0 from nI_nle (by simp) (by simp only [List.length_cons]; omega)) ?_
      iterate 3 refine am_wp_step _ rfl ?_
      refine ⟨_, _, c_lastS _ 13 (x :: P') M1 g2 (by rw [l13, List.length_cons]; omega) (by rw [l13]; decide), ?_⟩
      iterate 1 refine am_wp_step _ rfl ?_
      refine ⟨_, _, c_lvl _ x M1, ?_⟩
      iterate 2 refine am_wp_step _ rfl ?_
      by_cases q : n ≤ lvl x
      · have hle := lvl_le x
        refine am_iteF (show ¬ nI (lvl x) < nI n from nI_nlt q (by omega)) ?_
        iterate 2 refine am_wp_step _ rfl ?_
        refine am_call0 (c_takeP _ x C' P' M1 g1 g2 (by omega)) (fun M2 h2 => ?_)
        iterate 2 refine am_wp_step _ rfl ?_
        rw [show nI (x :: P').length + -1 = nI P'.length from nI_dn _]
        refine ih (em x :: C') M2 h2.1 h2.2.1 (by rw [List.length_cons]; omega) (fR_tr g4 h2.2.2) ?_
        rw [← g5]
        exact (if_pos q).symm
      · refine am_iteT (show nI (lvl x) < nI n from nI_lt (by omega) (by omega)) ?_
        iterate 1 refine am_wp_step _ rfl ?_
        have e : stl n C' (x :: P') = (C', x :: P') := if_neg q
        refine ⟨rfl, M1, rfl, ?_, ?_, g4⟩
        · rw [← g5, e]; exact g1
        · rw [← g5, e]; exact g2
  iterate 4 refine am_wp_step _ rfl ?_
  have := hloop P C M h12 h13 hl (fR_rf M) rfl
  rw [← h13.1] at this
  exact this
theorem c_enO (d : Nat) (C P : List Int32) (M : am_F) (h12 : rwS M 12 C) (h13 : rwS M 13 P) (h2 : M 19 0 0 2 = nI (nO P)) (h3 : M 19 0 0 3 = nI (nB P)) (hl : C.length + P.length ≤ 50) : ∃ M', am_cl am_cds (d + 3) 38 [.inr (.inr (19, 0, 0))] (am_S M) none (am_S M') ∧ (RSt M' false (enO C P).1 (enO C P).2 ∧ fc M M') := by
  refine am_cl_v (fun M' => RSt M' false (enO C P).1 (enO C P).2 ∧ fc M M') am_c38 rfl ?_
  have l13 : am_ln 27 13 = 50 := rfl
  have hfin : ∀ (P' C' : List Int32) (M1 : am_F) (z : Int32), rwS M1 12 C' → rwS M1 13 P' → M1 19 0 0 2 = nI (nO P') → M1 19 0 0 3 = nI (nB P') → fc M M1 → (C', P') = enO C P → am_wp (am_cl am_cds (d + 2)) am_c38 (fun w m => w = none ∧ ∃ M', m = am_S M' ∧ RSt M' false (enO C P).1 (enO C P).2 ∧ fc M M') 21 [(0, .inr (.inr (19, 0, 0))), (1, .inl z)] [] (am_S M1) := by
    intro P' C' M1 z g1 g2 g3 g4 g5 g6
    iterate 3 refine am_wp_step _ rfl ?_
    refine ⟨Or.inl rfl, ?_⟩
    iterate 1 refine am_wp_step _ rfl ?_
    rw [← g6]
    exact ⟨rfl, _, rfl, ⟨rwS_19 g1, rwS_19 g2, (am_up_s (by decide)).trans g3, (am_up_s (by decide)).trans g4, am_up_same⟩, fc_tr g5 fc_19⟩
  have hloop : ∀ (P' C' : List Int32) (M1 : am_F), rwS M1 12 C' → rwS M1 13 P' → M1 19 0 0 2 = nI (nO P') → M1 19 0 0 3 = nI (nB P') → C'.length + P'.length ≤ 50 → fc M M1 → enO C' P' = enO C P → am_wp (am_cl am_cds (d + 2)) am_c38 (fun w m => w = none ∧ ∃ M', m = am_S M' ∧ RSt M' false (enO C P).1 (enO C P).2 ∧ fc M M') 4 [(0, .inr (.inr (19, 0, 0))), (1, .inl (nI P'.length))] [] (am_S M1) := by
    intro P'
    induction P' with
    | nil =>
      intro C' M1 g1 g2 k2 k3 g3 g4 g5
      iterate 2 refine am_wp_step _ rfl ?_
      exact hfin [] C' M1 _ g1 g2 k2 k3 g4 g5
    | cons x P' ih =>
      intro C' M1 g1 g2 k2 k3 g3 g4 g5
      rw [List.length_cons] at g3
      iterate 2 refine am_wp_step _ rfl ?_
      refine am_iteF (show ¬ nI (x :: P').length ≤ 0 from nI_nle (by simp) (by simp only [List.length_cons]; omega)) ?_
      iterate 3 refine am_wp_step _ rfl ?_
      refine ⟨_, _, c_lastS _ 13 (x :: P') M1 g2 (by rw [l13, List.length_cons]; omega) (by rw [l13]; decide), ?_⟩
      iterate 2 refine am_wp_step _ rfl ?_
      by_cases q : x = 33
      · refine am_iteF (show ¬ x ≠ 33 from fun w => w q) ?_
        iterate 2 refine am_wp_step _ rfl ?_
        refine am_call0 (c_takeP _ x C' P' M1 g1 g2 (by omega)) (fun M2 h2 => ?_)
        iterate 8 refine am_wp_step _ rfl ?_
        have e19 : M2 19 0 = M1 19 0 := h2.2.2 19 0 (by omega)
        have eO : nO (x :: P') = nO P' + 1 := by show nO P' + _ = _; rw [if_pos (.inl q)]
        have eB : nB (x :: P') = nB P' := by show nB P' + _ = _; rw [if_neg (by rw [q]; decide)]; rfl
        show am_wp (am_cl am_cds (d + 2)) am_c38 _ 4 [(0, .inr (.inr (19, 0, 0))), (1, .inl (nI (x :: P').length + -1))] [] (am_S (am_up M2 19 0 0 2 (M2 19 0 0 2 - 1)))
        rw [show nI (x :: P').length + -1 = nI P'.length from nI_dn _, e19, k2, eO, nI_pred]
        refine ih (em x :: C') _ (rwS_19 h2.1) (rwS_19 h2.2.1) am_up_same ?_ (by rw [List.length_cons]; omega) (fc_tr (fc_tr g4 (fc_R h2.2.2)) fc_19) ?_
        · rw [am_up_s (by decide), e19, k3, eB]
        · rw [← g5]
          exact (if_pos q).symm
      · refine am_iteT q ?_
        exact hfin (x :: P') C' M1 _ g1 g2 k2 k3 g4 (by rw [← g5]; exact (if_neg q).symm)
  iterate 4 refine am_wp_step _ rfl ?_
  have := hloop P C M h12 h13 h2 h3 hl (fc_rf M) rfl
  rw [← h13.1] at this
  exact this
