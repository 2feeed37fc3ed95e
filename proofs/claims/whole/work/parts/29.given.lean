def sp_held (v lo hi : Int32) : Int32 := sp_max lo (sp_min hi v)
def tv (x : Nat → Int32) (u : Nat) (nm : Nat → Int32) : Int32 := (ev nm (fun j => x (52 * u + 1 + j)) (x (52 * u)).toNatClampNeg).headD 0
def gv (x : Nat → Int32) (u : Nat) (a b c e : Int32) : Int32 := if u = 0 then (if 0 < x 0 then sp_held (tv x 0 (nmL a b c e)) (-20) 20 else 0) else sp_held (if 0 < x 52 then tv x 1 (nmL a b c e) else a - (if 50 < b then a else 0) / 2) 0 999
/-- a text's code, as the class has it -/
def RT (M : am_F) (t u : Nat) (x : Nat → Int32) : Prop := M 21 (6 * (t / 2) + 2 * (t % 2)) 0 1 = x (52 * u) ∧ ∀ j, j < (x (52 * u)).toNatClampNeg → M 27 (6 * (t / 2) + 2 * (t % 2)) 0 j = cv (x (52 * u + 1 + j))
/-- a text is sound -/
def WX (x : Nat → Int32) (u : Nat) : Prop := ∃ c, c ≤ 50 ∧ x (52 * u) = nI c ∧ (0 < c → wfc (fun j => x (52 * u + 1 + j)) c)
def TC (M : am_F) : Prop := M 24 0 0 0 = 0 ∧ M 24 0 0 2 = -20 ∧ M 24 0 0 3 = 20 ∧ M 24 1 0 0 = 1 ∧ M 24 1 0 2 = 0 ∧ M 24 1 0 3 = 999
theorem c_without (d t : Nat) (a b : Int32) (M : am_F) : am_cl am_cds (d + 1) 69 [.inr (.inr (24, t, 0)), .inl a, .inl b] (am_S M) (some (.inl (if M 24 t 0 0 = 0 then 0 else a - (if 50 < b then a else 0) / 2))) (am_S M) := by
  refine am_cl_in am_c69 rfl ?_
  have h3 : 1 * a = a := by lia
  have h5 : 0 * a = 0 := by lia
  repeat' first | refine am_wp_step _ rfl ?_ | refine am_ite (fun h => ?_) (fun h => ?_) | fail
  · refine ⟨by decide, ?_⟩
    repeat' first | refine am_wp_step _ rfl ?_ | refine am_ite (fun h => ?_) (fun h => ?_) | fail
    refine ⟨trivial, ?_, rfl⟩
    rename_i h0
    rw [if_neg h0, if_neg (Int32.not_lt.mpr h), h5]
  · refine ⟨by decide, ?_⟩
    repeat' first | refine am_wp_step _ rfl ?_ | refine am_ite (fun h => ?_) (fun h => ?_) | fail
    refine ⟨trivial, ?_, rfl⟩
    rename_i h0
    rw [if_neg h0, if_pos (Int32.not_le.mp h), h3]
  · refine ⟨trivial, ?_, rfl⟩
    rw [if_pos (Decidable.not_not.mp h)]
theorem c_give (d t : Nat) (x : Nat → Int32) (a b cc e : Int32) (M : am_F) (ht : t = 0 ∨ t = 1) (hR : RT M t t x) (hW : WX x t) (hT : TC M) : ∃ M', am_cl am_cds (d + 3) 68 [.inr (.inr (24, t, 0)), .inl a, .inl b, .inl cc, .inl e] (am_S M) (some (.inl (gv x t a b cc e))) (am_S M') ∧ rwF M M' ((6 * (t / 2) + 2 * (t % 2)) + 1) := by
  obtain ⟨c, hc, hx, hw⟩ := hW
  obtain ⟨h1, h2⟩ := hR
  obtain ⟨t1, t2, t3, t4, t5, t6⟩ := hT
  rw [hx] at h1 h2
  rw [nI_clamp (by omega)] at h2
  refine am_cl_v (fun M' => rwF M M' ((6 * (t / 2) + 2 * (t % 2)) + 1)) am_c68 rfl ?_
  iterate 4 refine am_wp_step _ rfl ?_
  by_cases h0 : c = 0
  · refine am_iteF (by show ¬ M 21 (6 * (t / 2) + 2 * (t % 2)) 0 1 ≠ 0; rw [h1, h0]; decide) ?_
    iterate 4 refine am_wp_step _ rfl ?_
    refine ⟨_, _, c_without _ _ _ _ _, ?_⟩
    iterate 8 refine am_wp_step _ rfl ?_
    refine ⟨_, _, c_min _ _ _ _, ?_⟩
    iterate 1 refine am_wp_step _ rfl ?_
    refine ⟨_, _, c_max _ _ _ _, ?_⟩
    iterate 1 refine am_wp_step _ rfl ?_
    refine ⟨trivial, ?_, M, rfl, rwF_rf⟩
    dsimp only [am_S]
    rw [h0] at hx
    rcases ht with rfl | rfl
    · rw [t1, t2, t3]
      have hx : x 0 = 0 := hx
      unfold gv
      rw [if_pos rfl, hx]
      rfl
    · rw [t4, t5, t6]
      have hx : x 52 = 0 := hx
      unfold gv
      rw [if_neg (by decide), hx]
      rfl
  · have hp : 0 < nI c := nI_lt (a := 0) (by omega) (by omega)
    refine am_iteT (by show M 21 (6 * (t / 2) + 2 * (t % 2)) 0 1 ≠ 0; rw [h1]; exact nI_ne0 (by omega) (by omega)) ?_
    iterate 6 refine am_wp_step _ rfl ?_
    refine am_call1 (c_workOut d t c (fun j => x (52 * t + 1 + j)) a b cc e M ht h1 hc h2 (hw (by omega))) (fun M' hF => ?_)
    have hF2 : ∀ k, M' 24 t 0 k = M 24 t 0 k := fun k => congrFun (congrFun (hF 24 t (by omega)) 0) k
    iterate 7 refine am_wp_step _ rfl ?_
    refine ⟨_, _, c_min _ _ _ _, ?_⟩
    iterate 1 refine am_wp_step _ rfl ?_
    refine ⟨_, _, c_max _ _ _ _, ?_⟩
    iterate 1 refine am_wp_step _ rfl ?_
    refine ⟨trivial, ?_, M', rfl, hF⟩
    dsimp only [am_S]
    rw [hF2, hF2]
    rcases ht with rfl | rfl
    · rw [t2, t3]
      have hx : x 0 = nI c := hx
      unfold gv tv
      rw [if_pos rfl, hx, if_pos hp, nI_clamp (by omega)]
      rfl
    · rw [t5, t6]
      have hx : x 52 = nI c := hx
      unfold gv tv
      rw [if_neg (by decide), hx, if_pos hp, nI_clamp (by omega)]
      rfl
/-! THE MODEL -/
theorem m_held (d : Nat) (v lo hi : Int32) (me : am_M) : am_cl am_cds (d + 2) 137 [.inl v, .inl lo, .inl hi] me (some (.inl (sp_held v lo hi))) me := by
  refine am_cl_in am_c137 rfl ?_
  repeat' first | refine am_wp_step _ rfl ?_ | refine am_ite (fun h => ?_) (fun h => ?_) | refine ⟨_, _, c_min _ _ _ _, ?_⟩ | refine ⟨_, _, c_max _ _ _ _, ?_⟩ | fail
  exact ⟨trivial, rfl, rfl⟩
theorem m_within (d : Nat) (v lo hi : Int32) (me : am_M) : am_cl am_cds (d + 1) 136 [.inl v, .inl lo, .inl hi] me (some (.inl (bI (lo ≤ v ∧ v ≤ hi)))) me := by
  refine am_cl_in am_c136 rfl ?_
  repeat' first | refine am_wp_step _ rfl ?_ | refine am_ite (fun h => ?_) (fun h => ?_) | fail
  all_goals
    refine ⟨by first | exact Or.inl rfl | exact Or.inr rfl, ?_, rfl⟩
    unfold bI
    grind
theorem m_done (d : Nat) (s x y : Int32) (me : am_M) : am_cl am_cds (d + 1) 176 [.inl s, .inl x, .inl y] me (some (.inl (sp_op s x y))) me := by
  refine am_cl_in am_c176 rfl ?_
  repeat' first | refine am_wp_step _ rfl ?_ | refine am_ite (fun h => ?_) (fun h => ?_) | fail
  all_goals try (
    refine ⟨trivial, ?_, rfl⟩
    unfold sp_op bI
    grind
    done)
  all_goals refine ⟨by assumption, ?_⟩
  all_goals
    repeat' first | refine am_wp_step _ rfl ?_ | refine am_ite (fun h => ?_) (fun h => ?_) | fail
    refine ⟨trivial, ?_, rfl⟩
    unfold sp_op bI
    grind

/-- a pile: its top is the last -/
def pl (f : Nat → Int32) : List Int32 → Prop
  | [] => True
  | v :: t => f t.length = v ∧ pl f t
theorem pl_cg {f g : Nat → Int32} {st : List Int32} (h : ∀ j, j < st.length → g j = f j) (hc : pl f st) : pl g st := by
  induction st with
  | nil => trivial
  | cons v t ih => exact ⟨(h t.length (by simp)).trans hc.1, ih (fun j hj => h j (by simp; omega)) hc.2⟩
/-- only one row of the model's is touched -/
def mF (M M' : am_F) (b : Nat) : Prop := ∀ r bb, ¬ (r = 33 ∧ bb = b) → M' r bb = M r bb
theorem mF_rf {M : am_F} {b : Nat} : mF M M b := fun _ _ _ => rfl
theorem mF_tr {M M1 M2 : am_F} {b : Nat} (h1 : mF M M1 b) (h2 : mF M1 M2 b) : mF M M2 b := fun r bb h => (h2 r bb h).trans (h1 r bb h)
theorem mF_up {M : am_F} {b s : Nat} {x : Int32} : mF M (am_up M 33 b 0 s x) b := fun r bb h => am_up_rb (fun q => h ⟨q.1, q.2⟩)
theorem nI_sub1 (a b : Nat) : nI (a + b) - nI b = nI a := by
  rw [← nI_add]
  lia
theorem nI_m1 (n : Nat) : nI (n + 1) + -1 = nI n := by
  have := nI_pred n
  lia
theorem ev_s (nm f : Nat → Int32) (i : Nat) : ev nm f (i + 1) = ev1 nm (f i) (ev nm f i) := rfl
theorem m_worked (d u c : Nat) (nm : Nat → Int32) (M : am_F) (hu : u = 0 ∨ u = 1) (hs : M 33 0 0 (184 + 52 * u) = nI c) (hc : c ≤ 50) (hw : wfc (fun j => M 33 0 0 (185 + 52 * u + j)) c) (hn : ∀ k, k < 4 → M 33 5 0 k = nm k) : ∃ M', am_cl am_cds (d + 2) 177 [.inr (.inr (26, 0, 0)), .inl (nI (185 + 52 * u))] (am_S M) (some (.inl ((ev nm (fun j => M 33 0 0 (185 + 52 * u + j)) c).headD 0))) (am_S M') ∧ mF M M' 6 := by
  refine am_cl_v (fun M' => mF M M' 6) am_c177 rfl ?_
  iterate 4 refine am_wp_step _ rfl ?_
  generalize hf : (fun j => M 33 0 0 (185 + 52 * u + j)) = f at *
  have hfj : ∀ j, M 33 0 0 (185 + 52 * u + j) = f j := fun j => by rw [← hf]
  refine am_for2 4 (fun x y => [(0, .inr (.inr (26, 0, 0))), (1, .inl (nI (185 + 52 * u))), (2, .inl x), (3, .inl y)]) (fun i x y M1 => y = nI (185 + 52 * u + i) ∧ x = nI (ev nm f i).length ∧ pl (M1 33 6 0) (ev nm f i) ∧ mF M M1 6) c ?_ ?_ 0 0 _ M (Nat.zero_le _) ⟨rfl, nI_0.symm, trivial, mF_rf⟩
  · intro i x y M1 hi hP K
    obtain ⟨hy, hx, hS, hF⟩ := hP
    have e0 : ∀ k, M1 33 0 0 k = M 33 0 0 k := fun k => by rw [hF 33 0 (by omega)]
    have e5 : ∀ k, k < 4 → M1 33 5 0 k = nm k := fun k hk => by rw [hF 33 5 (by omega)]; exact hn k hk
    have hwf := hw.2 i hi
    have hlen := ev_len (nm := nm) hw.2 (Nat.le_of_lt hi)
    have hdl := dp_le f i
    iterate 8 refine am_wp_step _ rfl ?_
    refine am_ixN (184 + 52 * u) (by rw [show 185 + 52 * u = 184 + 52 * u + 1 by omega]; exact nI_sub1 _ 1) (show _ < 288 by omega) (by decide) (fun hix => ?_)
    rw [hix, show (am_S M1).2.2 33 0 0 (184 + 52 * u) = nI c from (e0 _).trans hs]
    iterate 2 refine am_wp_step _ rfl ?_
    refine am_iteF (by rw [hy, nI_add]; exact nI_ge (by omega) (by omega)) ?_
    iterate 4 refine am_wp_step _ rfl ?_
    refine am_ixN (185 + 52 * u + i) hy (show _ < 288 by omega) (by decide) (fun hix => ?_)
    rw [hix, show (am_S M1).2.2 33 0 0 (185 + 52 * u + i) = f i from (e0 _).trans (hfj i)]
    have hst1 : (ev nm f i).length < 50 := by omega
    rcases hwf with hwf | hwf | hwf
    · iterate 4 refine am_wp_step _ rfl ?_
      refine am_iteF (by lia) ?_
      by_cases h1 : f i < 10000
      · iterate 6 refine am_wp_step _ rfl ?_
        refine am_iteF (by lia) ?_
        iterate 3 refine am_wp_step _ rfl ?_
        refine am_ixN (ev nm f i).length hx (show _ < 60 by omega) (by decide) (fun hix => ?_)
        rw [hix]
        iterate 4 refine am_wp_step _ rfl ?_
        refine K _ _ _ ⟨by rw [hy, nI_1]; rfl, ?_, ?_, mF_tr hF mF_up⟩
        · rw [hx, nI_1]
          rw [ev_s]
          unfold ev1
          rw [if_pos h1]
          rfl
        · rw [ev_s]
          unfold ev1
          rw [if_pos h1]
          exact ⟨am_up_same, pl_cg (fun j hj => am_up_s (by omega)) hS⟩
      · obtain ⟨j, hj, hj2⟩ := bI_sub (x := f i) (by lia) hwf.2
        iterate 6 refine am_wp_step _ rfl ?_
        refine am_iteT (by lia) ?_
        iterate 6 refine am_wp_step _ rfl ?_
        refine am_ixN j hj2 (show _ < 4 by omega) (by decide) (fun hiy => ?_)
        rw [hiy]
        iterate 1 refine am_wp_step _ rfl ?_
        refine am_ixN (ev nm f i).length hx (show _ < 60 by omega) (by decide) (fun hix => ?_)
        rw [hix]
        iterate 4 refine am_wp_step _ rfl ?_
        refine K _ _ _ ⟨by rw [hy, nI_1]; rfl, ?_, ?_, mF_tr hF mF_up⟩
        · rw [hx, nI_1]
          rw [ev_s]
          unfold ev1
          rw [if_neg h1, if_pos (by lia)]
          rfl
        · rw [ev_s]
          unfold ev1
          rw [if_neg h1, if_pos (by lia), hj2, nI_clamp (by omega), ← e5 j hj]
          exact ⟨am_up_same, pl_cg (fun j hj => am_up_s (by omega)) hS⟩
    · obtain ⟨hwa, hwb⟩ := hwf
      cases hst : ev nm f i with
      | nil => rw [hst] at hlen; simp at hlen; omega
      | cons v st =>
        rw [hst] at hS hlen hx
        have hln : st.length < 50 := by simp at hlen; omega
        have hx1 : x - 1 = nI st.length := by rw [hx]; exact nI_pred _
        have hS1 : M1 33 6 0 st.length = v := hS.1
        rw [hwa]
        repeat' first | refine K _ _ _ ?_ | refine am_wp_step _ rfl ?_ | refine am_ite (fun h => ?_) (fun h => ?_) | refine am_ixN st.length hx1 (show _ < 60 by omega) (by decide) (fun hiy => ?_) | fail
        all_goals
          dsimp only [am_S] at *
          rw [hiy, hS1] at h
          rw [hiy]
          refine ⟨by rw [hy, nI_1]; rfl, ?_, ?_, mF_tr hF mF_up⟩
          · rw [ev_s]
            unfold ev1
            rw [hx, hwa, if_neg (by decide), if_neg (by decide), if_pos rfl, hst]
            rfl
          · rw [ev_s]
            unfold ev1
            rw [hwa, if_neg (by decide), if_neg (by decide), if_pos rfl, hst]
            refine ⟨?_, pl_cg (fun j hj => am_up_s (by simp at hj; omega)) hS.2⟩
            refine am_up_same.trans ?_
            unfold bI
            simp only [List.headD_cons]
            grind
    · obtain ⟨hwa, hwb, hwd⟩ := hwf
      match hst : ev nm f i with
      | [] => rw [hst] at hlen; simp at hlen; omega
      | [y] => rw [hst] at hlen; simp at hlen; omega
      | v :: w :: st =>
        rw [hst] at hS hlen hx
        have hln : st.length < 50 := by simp at hlen; omega
        have hx0 : x + -1 = nI (st.length + 1) := by rw [hx]; exact nI_m1 _
        have hx1 : x + -1 - 1 = nI st.length := by rw [hx0]; exact nI_pred _
        have hS1 : M1 33 6 0 (st.length + 1) = v := hS.1
        have hS2 : M1 33 6 0 st.length = w := hS.2.1
        iterate 4 refine am_wp_step _ rfl ?_
        refine am_iteT (by lia) ?_
        iterate 3 refine am_wp_step _ rfl ?_
        refine am_iteT (by lia) ?_
        iterate 13 refine am_wp_step _ rfl ?_
        refine am_ixN st.length hx1 (show _ < 60 by omega) (by decide) (fun hiy => ?_)
        iterate 4 refine am_wp_step _ rfl ?_
        refine am_ixN (st.length + 1) hx0 (show _ < 60 by omega) (by decide) (fun hiz => ?_)
        iterate 1 refine am_wp_step _ rfl ?_
        refine ⟨_, _, m_done _ _ _ _ _, ?_⟩
        iterate 1 refine am_wp_step _ rfl ?_
        refine am_ixN st.length hx1 (show _ < 60 by omega) (by decide) (fun hiy => ?_)
        iterate 2 refine am_wp_step _ rfl ?_
        refine K _ _ _ ?_
        dsimp only [am_S] at *
        rw [hiy, hiz, hS1, hS2]
        refine ⟨by rw [hy, nI_1]; rfl, ?_, ?_, mF_tr hF mF_up⟩
        · rw [ev_s]
          unfold ev1
          rw [hx0, if_neg (by lia), if_neg (by lia), if_neg (by lia), hst]
          rfl
        · rw [ev_s]
          unfold ev1
          rw [if_neg (by lia), if_neg (by lia), if_neg (by lia), hst]
          exact ⟨am_up_same, pl_cg (fun j hj => am_up_s (by simp at hj; omega)) hS.2.2⟩
  · intro x y M1 hP
    obtain ⟨hy, hx, hS, hF⟩ := hP
    have e0 : ∀ k, M1 33 0 0 k = M 33 0 0 k := fun k => by rw [hF 33 0 (by omega)]
    have hlen := ev_len (nm := nm) hw.2 (Nat.le_refl c)
    rw [hw.1] at hlen
    iterate 8 refine am_wp_step _ rfl ?_
    refine am_ixN (184 + 52 * u) (by rw [show 185 + 52 * u = 184 + 52 * u + 1 by omega]; exact nI_sub1 _ 1) (show _ < 288 by omega) (by decide) (fun hix => ?_)
    rw [hix, show (am_S M1).2.2 33 0 0 (184 + 52 * u) = nI c from (e0 _).trans hs]
    iterate 2 refine am_wp_step _ rfl ?_
    refine am_iteT (by rw [hy, nI_add]; exact nI_le (Nat.le_refl _) (by omega)) ?_
    iterate 4 refine am_wp_step _ rfl ?_
    refine ⟨by unfold vp_in; decide, ?_⟩
    iterate 1 refine am_wp_step _ rfl ?_
    refine ⟨trivial, ?_, M1, rfl, hF⟩
    match hst : ev nm f c with
    | [] => rw [hst] at hlen; simp at hlen
    | [v] =>
      rw [hst] at hS
      have h : M1 33 6 0 0 = v := hS.1
      show some (Sum.inl (M1 33 6 0 0)) = _
      rw [h]
      rfl
    | v :: w :: st => rw [hst] at hlen; simp at hlen
