/-! TEXTS: rows as piles, what a code gives -/
def rwC (M : am_F) (b : Nat) : List Int32 → Prop
  | [] => True
  | v :: t => M 27 b 0 t.length = v ∧ rwC M b t
def rwS (M : am_F) (b : Nat) (st : List Int32) : Prop := M 21 b 0 1 = nI st.length ∧ rwC M b st
/-- all but one row is as it was -/
def rwF (M M' : am_F) (b : Nat) : Prop := ∀ r bb, ¬ ((r = 21 ∨ r = 27) ∧ bb = b) → M' r bb = M r bb
theorem rwF_rf {M : am_F} {b : Nat} : rwF M M b := fun _ _ _ => rfl
theorem rwF_tr {M M1 M2 : am_F} {b : Nat} (h1 : rwF M M1 b) (h2 : rwF M1 M2 b) : rwF M M2 b := fun r bb h => (h2 r bb h).trans (h1 r bb h)
theorem rwC_cg {M M' : am_F} {b : Nat} {st : List Int32} (h : ∀ j, j < st.length → M' 27 b 0 j = M 27 b 0 j) (hc : rwC M b st) : rwC M' b st := by
  induction st with
  | nil => trivial
  | cons v t ih => exact ⟨(h t.length (by simp)).trans hc.1, ih (fun j hj => h j (by simp; omega)) hc.2⟩
theorem c_addS (d b : Nat) (v : Int32) (st : List Int32) (M : am_F) (hs : rwS M b st) (hn : st.length < am_ln 27 b) (hl : am_ln 27 b < 2 ^ 31) : ∃ M', am_cl am_cds (d + 1) 50 [.inr (.inr (21, b, 0)), .inl v] (am_S M) none (am_S M') ∧ rwS M' b (v :: st) ∧ rwF M M' b := by
  refine ⟨_, c_add d b st.length v M hs.1 hn hl, ⟨am_up_same, ?_, ?_⟩, fun r bb h => ?_⟩
  · rw [am_up_r (by decide), am_up_same]
  · refine rwC_cg (fun j hj => ?_) hs.2
    rw [am_up_r (by decide), am_up_s (by omega)]
  · rw [am_up_rb (fun q => h ⟨Or.inl q.1, q.2⟩), am_up_rb (fun q => h ⟨Or.inr q.1, q.2⟩)]
theorem c_lastS (d b : Nat) (st : List Int32) (M : am_F) (hs : rwS M b st) (hn : st.length ≤ am_ln 27 b) (hl : am_ln 27 b < 2 ^ 31) : am_cl am_cds (d + 1) 52 [.inr (.inr (21, b, 0))] (am_S M) (some (.inl (st.headD 0))) (am_S M) := by
  refine am_cl_in am_c52 rfl ?_
  iterate 3 refine am_wp_step _ rfl ?_
  refine am_ite (fun h => ?_) (fun h => ?_)
  · have h : M 21 b 0 1 ≤ 0 := h
    rw [hs.1] at h
    iterate 2 refine am_wp_step _ rfl ?_
    refine ⟨trivial, ?_, rfl⟩
    cases st with
    | nil => rfl
    | cons v t => exact absurd h (nI_nle (by simp) (by simp at hn ⊢; omega))
  · have h : ¬ M 21 b 0 1 ≤ 0 := h
    rw [hs.1] at h
    cases st with
    | nil => exact absurd (by decide) h
    | cons v t =>
      have e : M 21 b 0 1 - 1 = nI t.length := by
        rw [hs.1]
        exact nI_pred t.length
      have hlt : t.length < am_ln 27 b := by simp at hn; omega
      iterate 7 refine am_wp_step _ rfl ?_
      refine ⟨by show vp_in (M 21 b 0 1 - 1) _; rw [e]; exact vp_in_nI hlt hl, ?_⟩
      iterate 2 refine am_wp_step _ rfl ?_
      refine ⟨trivial, ?_, rfl⟩
      show some (Sum.inl (M 27 b 0 (M 21 b 0 1 - 1).toNatClampNeg)) = _
      rw [e, nI_clamp (by omega), hs.2.1]
      rfl
theorem c_dropS (d b : Nat) (v : Int32) (st : List Int32) (M : am_F) (hs : rwS M b (v :: st)) (hn : st.length < am_ln 27 b) (hl : am_ln 27 b < 2 ^ 31) : ∃ M', am_cl am_cds (d + 1) 53 [.inr (.inr (21, b, 0))] (am_S M) none (am_S M') ∧ rwS M' b st ∧ rwF M M' b := by
  refine ⟨am_up M 21 b 0 1 (nI st.length), ?_, ⟨am_up_same, rwC_cg (fun j _ => by rw [am_up_r (by decide)]) hs.2.2⟩, fun r bb h => am_up_rb (fun q => h ⟨Or.inl q.1, q.2⟩)⟩
  refine am_cl_in am_c53 rfl ?_
  iterate 3 refine am_wp_step _ rfl ?_
  refine am_ite (fun h => ?_) (fun h => ?_)
  · have h : M 21 b 0 1 ≤ 0 := h
    rw [hs.1] at h
    exact absurd h (nI_nle (by simp) (by simp; omega))
  · iterate 7 refine am_wp_step _ rfl ?_
    refine ⟨rfl, ?_⟩
    show am_S (am_up M 21 b 0 1 (M 21 b 0 1 - 1)) = _
    rw [hs.1]
    have e : nI (v :: st).length - 1 = nI st.length := nI_pred st.length
    rw [e]
def sp_join (s x y : Int32) : Int32 := if s = 33 then bI (y = 0) else if s = 37 then (if y = 0 then 0 else x - x / y * y) else if s = 38 then bI (x ≠ 0 ∧ y ≠ 0) else if s = 42 then x * y else if s = 43 then x + y else if s = 45 then x - y else if s = 47 then (if y = 0 then 0 else x / y) else if s = 60 then bI (x < y) else if s = 61 then bI (x = y) else if s = 62 then bI (y < x) else if s = 124 then bI (x ≠ 0 ∨ y ≠ 0) else 0
theorem c_joined (d : Nat) (s x y : Int32) (me : am_M) : am_cl am_cds (d + 1) 72 [.inl s, .inl x, .inl y] me (some (.inl (sp_join s x y))) me := by
  refine am_cl_in am_c72 rfl ?_
  repeat' first | refine am_wp_step _ rfl ?_ | refine am_ite (fun h => ?_) (fun h => ?_)
  all_goals try (
    refine ⟨trivial, ?_, rfl⟩
    simp_all [sp_join, bI]
    done)
  all_goals refine ⟨by assumption, ?_⟩
  all_goals
    refine am_wp_step _ rfl ?_
    refine ⟨trivial, ?_, rfl⟩
    simp_all [sp_join]
