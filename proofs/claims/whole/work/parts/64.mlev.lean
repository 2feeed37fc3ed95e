/-! EVERY LEVEL OF THE MODEL'S READER -/
def mY (n : Nat) : Nat := if n = 1 then 168 else if n = 2 then 169 else if n = 3 then 170 else if n = 4 then 171 else if n = 5 then 172 else 174
def mLv (u N : Nat) (h : Nat → Int32) (d n o a : Nat) (ok : Bool) (b : Nat) (E : List Int32) : Prop := ∀ D M E0, d + 8 ≤ D → o ≤ 5 → a ≤ N → E0.length ≤ a → TX M u h N → MS M a o E0 → ∃ M', am_cl am_cds D (mY n) [.inr (.inr (26, 0, 0))] (am_S M) none (am_S M') ∧ mRes M M' ok b o (E ++ E0)
def mLp (u N : Nat) (h : Nat → Int32) (d n o a : Nat) (ok : Bool) (b : Nat) (E : List Int32) : Prop := ∀ D M0 M E0 x, d + 8 ≤ D → o ≤ 5 → a ≤ N → E0.length ≤ a → TX M u h N → fm M0 M → (n = 1 → MS M a o E0 → am_wp (am_cl am_cds D) am_c168 (mQ M0 ok b o (E ++ E0)) 2 [(0, .inr (.inr (26, 0, 0)))] [] (am_S M)) ∧ (n = 2 → MS M a o E0 → am_wp (am_cl am_cds D) am_c169 (mQ M0 ok b o (E ++ E0)) 2 [(0, .inr (.inr (26, 0, 0)))] [] (am_S M)) ∧ (n = 3 → Tk h 3 M a o E0 x → am_wp (am_cl am_cds D) am_c170 (mQ M0 ok b o (E ++ E0)) 22 [(0, .inr (.inr (26, 0, 0))), (1, .inl x)] [] (am_S M)) ∧ (n = 4 → Tk h 4 M a o E0 x → am_wp (am_cl am_cds D) am_c171 (mQ M0 ok b o (E ++ E0)) 16 [(0, .inr (.inr (26, 0, 0))), (1, .inl x)] [] (am_S M)) ∧ (n = 5 → Tk h 5 M a o E0 x → am_wp (am_cl am_cds D) am_c172 (mQ M0 ok b o (E ++ E0)) 22 [(0, .inr (.inr (26, 0, 0))), (1, .inl x)] [] (am_S M))
theorem m_bT {u N : Nat} {h : Nat → Int32} (H : TXT h N) (hN : N ≤ 50) (d n o a b : Nat) (ok : Bool) (c : Nat) (E F : List Int32) (q : 1 ≤ n) (q2 : n ≤ 5) (p : PP h (nmU u) d (n + 1) o a true b E) (ih : mLv u N h d (n + 1) o a true b E) (ih2 : mLp u N h d n o b ok c F) : mLv u N h (d + 1) n o a ok c (F ++ E) := by
  intro D M E0 hD ho ha hE hX hS
  obtain ⟨D, rfl⟩ : ∃ D', D = D' + 9 := ⟨D - 9, by omega⟩
  have hb := PP_bd H p ha
  have hl : (E ++ E0).length ≤ b := by have := hb.2.2.2 rfl; rw [List.length_append]; omega
  obtain ⟨M1, k1, k2⟩ := ih (D + 8) M E0 (by omega) ho ha hE hX hS
  have e2 : MS M1 b o (E ++ E0) := k2.2
  have hX1 := TX_fm hX k2.1
  rw [List.append_assoc]
  rcases (by omega : n = 1 ∨ n = 2 ∨ n = 3 ∨ n = 4 ∨ n = 5) with rfl | rfl | rfl | rfl | rfl
  · have k1 : am_cl am_cds (D + 8) 169 [.inr (.inr (26, 0, 0))] (am_S M) none (am_S M1) := k1
    refine am_cl_v (fun M3 => mRes M M3 ok c o (F ++ (E ++ E0))) am_c168 rfl ?_
    iterate 2 refine am_wp_step _ rfl ?_
    refine ⟨_, k1, ?_⟩
    exact (ih2 (D + 8) M M1 (E ++ E0) 0 (by omega) ho hb.2.1 hl hX1 k2.1).1 rfl e2
  · have k1 : am_cl am_cds (D + 8) 170 [.inr (.inr (26, 0, 0))] (am_S M) none (am_S M1) := k1
    refine am_cl_v (fun M3 => mRes M M3 ok c o (F ++ (E ++ E0))) am_c169 rfl ?_
    iterate 2 refine am_wp_step _ rfl ?_
    refine ⟨_, k1, ?_⟩
    exact (ih2 (D + 8) M M1 (E ++ E0) 0 (by omega) ho hb.2.1 hl hX1 k2.1).2.1 rfl e2
  · have k1 : am_cl am_cds (D + 8) 171 [.inr (.inr (26, 0, 0))] (am_S M) none (am_S M1) := k1
    refine am_cl_v (fun M3 => mRes M M3 ok c o (F ++ (E ++ E0))) am_c170 rfl ?_
    iterate 2 refine am_wp_step _ rfl ?_
    refine ⟨_, k1, ?_⟩
    refine tk170_2 (y := 0) hX1 e2 (by omega) (fun x M2 g1 g2 => ?_)
    exact (ih2 (D + 8) M M2 (E ++ E0) x (by omega) ho hb.2.1 hl (TX_fm hX1 g1) (fm_tr k2.1 g1)).2.2.1 rfl g2
  · have k1 : am_cl am_cds (D + 8) 172 [.inr (.inr (26, 0, 0))] (am_S M) none (am_S M1) := k1
    refine am_cl_v (fun M3 => mRes M M3 ok c o (F ++ (E ++ E0))) am_c171 rfl ?_
    iterate 2 refine am_wp_step _ rfl ?_
    refine ⟨_, k1, ?_⟩
    refine tk171_2 (y := 0) hX1 e2 (by omega) (fun x M2 g1 g2 => ?_)
    exact (ih2 (D + 8) M M2 (E ++ E0) x (by omega) ho hb.2.1 hl (TX_fm hX1 g1) (fm_tr k2.1 g1)).2.2.2.1 rfl g2
  · have k1 : am_cl am_cds (D + 8) 174 [.inr (.inr (26, 0, 0))] (am_S M) none (am_S M1) := k1
    refine am_cl_v (fun M3 => mRes M M3 ok c o (F ++ (E ++ E0))) am_c172 rfl ?_
    iterate 2 refine am_wp_step _ rfl ?_
    refine ⟨_, k1, ?_⟩
    refine tk172_2 (y := 0) hX1 e2 (by omega) (fun x M2 g1 g2 => ?_)
    exact (ih2 (D + 8) M M2 (E ++ E0) x (by omega) ho hb.2.1 hl (TX_fm hX1 g1) (fm_tr k2.1 g1)).2.2.2.2 rfl g2
theorem m_bF {u N : Nat} {h : Nat → Int32} (d n o a b : Nat) (E : List Int32) (q : 1 ≤ n) (q2 : n ≤ 5) (ih : mLv u N h d (n + 1) o a false b E) : mLv u N h (d + 1) n o a false b E := by
  intro D M E0 hD ho ha hE hX hS
  obtain ⟨D, rfl⟩ : ∃ D', D = D' + 9 := ⟨D - 9, by omega⟩
  obtain ⟨M1, k1, k2⟩ := ih (D + 8) M E0 (by omega) ho ha hE hX hS
  have e2 : MW M1 b := k2.2
  rcases (by omega : n = 1 ∨ n = 2 ∨ n = 3 ∨ n = 4 ∨ n = 5) with rfl | rfl | rfl | rfl | rfl
  · have k1 : am_cl am_cds (D + 8) 169 [.inr (.inr (26, 0, 0))] (am_S M) none (am_S M1) := k1
    refine am_cl_v (fun M3 => mRes M M3 false b o (E ++ E0)) am_c168 rfl ?_
    iterate 2 refine am_wp_step _ rfl ?_
    refine ⟨_, k1, ?_⟩
    iterate 3 refine am_wp_step _ rfl ?_
    refine ⟨_, _, m_takesW e2.2 (by decide), ?_⟩
    iterate 2 refine am_wp_step _ rfl ?_
    exact ⟨rfl, M1, rfl, k2⟩
  · have k1 : am_cl am_cds (D + 8) 170 [.inr (.inr (26, 0, 0))] (am_S M) none (am_S M1) := k1
    refine am_cl_v (fun M3 => mRes M M3 false b o (E ++ E0)) am_c169 rfl ?_
    iterate 2 refine am_wp_step _ rfl ?_
    refine ⟨_, k1, ?_⟩
    iterate 3 refine am_wp_step _ rfl ?_
    refine ⟨_, _, m_takesW e2.2 (by decide), ?_⟩
    iterate 2 refine am_wp_step _ rfl ?_
    exact ⟨rfl, M1, rfl, k2⟩
  · have k1 : am_cl am_cds (D + 8) 171 [.inr (.inr (26, 0, 0))] (am_S M) none (am_S M1) := k1
    refine am_cl_v (fun M3 => mRes M M3 false b o (E ++ E0)) am_c170 rfl ?_
    iterate 2 refine am_wp_step _ rfl ?_
    refine ⟨_, k1, ?_⟩
    exact tkW170_2 (y := 0) e2 ⟨rfl, M1, rfl, k2⟩
  · have k1 : am_cl am_cds (D + 8) 172 [.inr (.inr (26, 0, 0))] (am_S M) none (am_S M1) := k1
    refine am_cl_v (fun M3 => mRes M M3 false b o (E ++ E0)) am_c171 rfl ?_
    iterate 2 refine am_wp_step _ rfl ?_
    refine ⟨_, k1, ?_⟩
    exact tkW171_2 (y := 0) e2 ⟨rfl, M1, rfl, k2⟩
  · have k1 : am_cl am_cds (D + 8) 174 [.inr (.inr (26, 0, 0))] (am_S M) none (am_S M1) := k1
    refine am_cl_v (fun M3 => mRes M M3 false b o (E ++ E0)) am_c172 rfl ?_
    iterate 2 refine am_wp_step _ rfl ?_
    refine ⟨_, k1, ?_⟩
    exact tkW172_2 (y := 0) e2 ⟨rfl, M1, rfl, k2⟩
theorem m_lE {u N : Nat} {h : Nat → Int32} (hN : N ≤ 50) (d n o a : Nat) (q : 1 ≤ n) (q2 : n ≤ 5) (q3 : lvl (h a) ≠ n) : mLp u N h (d + 1) n o a true a [] := by
  intro D M0 M E0 x hD ho ha hE hX hf
  obtain ⟨D, rfl⟩ : ∃ D', D = D' + 2 := ⟨D - 2, by omega⟩
  refine ⟨fun e hS => ?_, fun e hS => ?_, fun e hS => ?_, fun e hS => ?_, fun e hS => ?_⟩
  · subst e
    iterate 3 refine am_wp_step _ rfl ?_
    refine ⟨_, _, m_takesF hX hS (by omega) (fun w => q3 (by rw [w]; rfl)), ?_⟩
    iterate 2 refine am_wp_step _ rfl ?_
    exact ⟨rfl, M, rfl, hf, hS⟩
  · subst e
    iterate 3 refine am_wp_step _ rfl ?_
    refine ⟨_, _, m_takesF hX hS (by omega) (fun w => q3 (by rw [w]; rfl)), ?_⟩
    iterate 2 refine am_wp_step _ rfl ?_
    exact ⟨rfl, M, rfl, hf, hS⟩
  · subst e
    rcases hS with hS | hS
    · exact absurd hS.1 q3
    · obtain ⟨-, rfl, hS⟩ := hS
      iterate 2 refine am_wp_step _ rfl ?_
      iterate 1 refine am_wp_step _ rfl ?_
      exact ⟨rfl, M, rfl, hf, hS⟩
  · subst e
    rcases hS with hS | hS
    · exact absurd hS.1 q3
    · obtain ⟨-, rfl, hS⟩ := hS
      iterate 2 refine am_wp_step _ rfl ?_
      iterate 1 refine am_wp_step _ rfl ?_
      exact ⟨rfl, M, rfl, hf, hS⟩
  · subst e
    rcases hS with hS | hS
    · exact absurd hS.1 q3
    · obtain ⟨-, rfl, hS⟩ := hS
      iterate 2 refine am_wp_step _ rfl ?_
      iterate 1 refine am_wp_step _ rfl ?_
      exact ⟨rfl, M, rfl, hf, hS⟩
theorem opc_pos {c : Int32} (h : lvl c ≠ 0) : ¬ opc c ≤ 0 := by have := opc_r h; lia
theorem m_lT {u N : Nat} {h : Nat → Int32} (H : TXT h N) (hN : N ≤ 50) (d n o a b : Nat) (ok : Bool) (c : Nat) (E F : List Int32) (q : 1 ≤ n) (q2 : n ≤ 5) (q3 : n ≠ 3) (q4 : lvl (h a) = n) (p : PP h (nmU u) d (n + 1) o (a + 1) true b E) (ih : mLv u N h d (n + 1) o (a + 1) true b E) (ih2 : mLp u N h d n o b ok c F) : mLp u N h (d + 1) n o a ok c (F ++ opc (h a) :: E) := by
  intro D M0 M E0 x hD ho ha hE hX hf
  obtain ⟨D, rfl⟩ : ∃ D', D = D' + 9 := ⟨D - 9, by omega⟩
  have hla := TXT_lt H (a := a) (lvl_pos (by omega))
  have hb := PP_bd H p (by omega)
  have hl : (opc (h a) :: (E ++ E0)).length ≤ b := by have := hb.2.2.2 rfl; rw [List.length_cons, List.length_append]; omega
  have hl2 : (E ++ E0).length < 60 := by rw [List.length_cons] at hl; omega
  rw [List.append_assoc]
  refine ⟨fun e hS => ?_, fun e hS => ?_, fun e hS => ?_, fun e hS => ?_, fun e hS => ?_⟩
  · subst e
    have hc : h a = 124 := by unfold lvl at q4; grind
    iterate 3 refine am_wp_step _ rfl ?_
    refine am_call1 (m_takesT hX hS (by omega) hc) (fun M1 h1 => ?_)
    iterate 3 refine am_wp_step _ rfl ?_
    obtain ⟨M2, k1, k2⟩ := ih (D + 9) M1 E0 (by omega) ho (by omega) (by omega) (TX_fm hX h1.1) h1.2
    have k1 : am_cl am_cds (D + 9) 169 [.inr (.inr (26, 0, 0))] (am_S M1) none (am_S M2) := k1
    refine ⟨_, k1, ?_⟩
    have e2 : MS M2 b o (E ++ E0) := k2.2
    iterate 3 refine am_wp_step _ rfl ?_
    have ec : (20000 : Int32) = opc (h a) := by rw [hc]; rfl
    refine am_call0 (m_codes (v := 20000) e2 hl2) (fun M3 h3 => ?_)
    rw [ec] at h3
    iterate 1 refine am_wp_step _ rfl ?_
    exact (ih2 (D + 9) M0 M3 (opc (h a) :: (E ++ E0)) 0 (by omega) ho hb.2.1 hl (TX_fm (TX_fm (TX_fm hX h1.1) k2.1) h3.1) (fm_tr (fm_tr (fm_tr hf h1.1) k2.1) h3.1)).1 rfl h3.2
  · subst e
    have hc : h a = 38 := by unfold lvl at q4; grind
    iterate 3 refine am_wp_step _ rfl ?_
    refine am_call1 (m_takesT hX hS (by omega) hc) (fun M1 h1 => ?_)
    iterate 3 refine am_wp_step _ rfl ?_
    obtain ⟨M2, k1, k2⟩ := ih (D + 9) M1 E0 (by omega) ho (by omega) (by omega) (TX_fm hX h1.1) h1.2
    have k1 : am_cl am_cds (D + 9) 170 [.inr (.inr (26, 0, 0))] (am_S M1) none (am_S M2) := k1
    refine ⟨_, k1, ?_⟩
    have e2 : MS M2 b o (E ++ E0) := k2.2
    iterate 3 refine am_wp_step _ rfl ?_
    have ec : (20001 : Int32) = opc (h a) := by rw [hc]; rfl
    refine am_call0 (m_codes (v := 20001) e2 hl2) (fun M3 h3 => ?_)
    rw [ec] at h3
    iterate 1 refine am_wp_step _ rfl ?_
    exact (ih2 (D + 9) M0 M3 (opc (h a) :: (E ++ E0)) 0 (by omega) ho hb.2.1 hl (TX_fm (TX_fm (TX_fm hX h1.1) k2.1) h3.1) (fm_tr (fm_tr (fm_tr hf h1.1) k2.1) h3.1)).2.1 rfl h3.2
  · exact absurd e q3
  · subst e
    rcases hS with hS | hS
    · obtain ⟨-, rfl, hS⟩ := hS
      iterate 2 refine am_wp_step _ rfl ?_
      refine am_iteF (opc_pos (by omega)) ?_
      iterate 2 refine am_wp_step _ rfl ?_
      obtain ⟨M2, k1, k2⟩ := ih (D + 9) M E0 (by omega) ho (by omega) (by omega) hX hS
      have k1 : am_cl am_cds (D + 9) 172 [.inr (.inr (26, 0, 0))] (am_S M) none (am_S M2) := k1
      refine ⟨_, k1, ?_⟩
      have e2 : MS M2 b o (E ++ E0) := k2.2
      iterate 3 refine am_wp_step _ rfl ?_
      refine am_call0 (m_codes (v := opc (h a)) e2 hl2) (fun M3 h3 => ?_)
      have hX3 := TX_fm (TX_fm hX k2.1) h3.1
      refine tk171_23 hX3 h3.2 (by omega) (fun x M4 g1 g2 => ?_)
      exact (ih2 (D + 9) M0 M4 (opc (h a) :: (E ++ E0)) x (by omega) ho hb.2.1 hl (TX_fm hX3 g1) (fm_tr (fm_tr (fm_tr hf k2.1) h3.1) g1)).2.2.2.1 rfl g2
    · exact absurd q4 hS.1
  · subst e
    rcases hS with hS | hS
    · obtain ⟨-, rfl, hS⟩ := hS
      iterate 2 refine am_wp_step _ rfl ?_
      refine am_iteF (opc_pos (by omega)) ?_
      iterate 2 refine am_wp_step _ rfl ?_
      obtain ⟨M2, k1, k2⟩ := ih (D + 9) M E0 (by omega) ho (by omega) (by omega) hX hS
      have k1 : am_cl am_cds (D + 9) 174 [.inr (.inr (26, 0, 0))] (am_S M) none (am_S M2) := k1
      refine ⟨_, k1, ?_⟩
      have e2 : MS M2 b o (E ++ E0) := k2.2
      iterate 3 refine am_wp_step _ rfl ?_
      refine am_call0 (m_codes (v := opc (h a)) e2 hl2) (fun M3 h3 => ?_)
      have hX3 := TX_fm (TX_fm hX k2.1) h3.1
      refine tk172_29 hX3 h3.2 (by omega) (fun x M4 g1 g2 => ?_)
      exact (ih2 (D + 9) M0 M4 (opc (h a) :: (E ++ E0)) x (by omega) ho hb.2.1 hl (TX_fm hX3 g1) (fm_tr (fm_tr (fm_tr hf k2.1) h3.1) g1)).2.2.2.2 rfl g2
    · exact absurd q4 hS.1
theorem m_l3 {u N : Nat} {h : Nat → Int32} (H : TXT h N) (hN : N ≤ 50) (d o a b : Nat) (E : List Int32) (q4 : lvl (h a) = 3) (p : PP h (nmU u) d 4 o (a + 1) true b E) (ih : mLv u N h d 4 o (a + 1) true b E) : mLp u N h (d + 1) 3 o a true b (opc (h a) :: E) := by
  intro D M0 M E0 x hD ho ha hE hX hf
  obtain ⟨D, rfl⟩ : ∃ D', D = D' + 9 := ⟨D - 9, by omega⟩
  have hla := TXT_lt H (a := a) (lvl_pos (by omega))
  have hb := PP_bd H p (by omega)
  have hl2 : (E ++ E0).length < 60 := by have := hb.2.2.2 rfl; rw [List.length_append]; omega
  refine ⟨fun e hS => by omega, fun e hS => by omega, fun e hS => ?_, fun e hS => by omega, fun e hS => by omega⟩
  rcases hS with hS | hS
  · obtain ⟨-, rfl, hS⟩ := hS
    iterate 2 refine am_wp_step _ rfl ?_
    refine am_iteF (opc_pos (by omega)) ?_
    iterate 2 refine am_wp_step _ rfl ?_
    obtain ⟨M2, k1, k2⟩ := ih (D + 9) M E0 (by omega) ho (by omega) (by omega) hX hS
    have k1 : am_cl am_cds (D + 9) 171 [.inr (.inr (26, 0, 0))] (am_S M) none (am_S M2) := k1
    refine ⟨_, k1, ?_⟩
    have e2 : MS M2 b o (E ++ E0) := k2.2
    iterate 3 refine am_wp_step _ rfl ?_
    refine am_call0 (m_codes (v := opc (h a)) e2 hl2) (fun M3 h3 => ?_)
    iterate 1 refine am_wp_step _ rfl ?_
    exact ⟨rfl, M3, rfl, fm_tr (fm_tr hf k2.1) h3.1, h3.2⟩
  · exact absurd q4 hS.1
theorem m_lF {u N : Nat} {h : Nat → Int32} (H : TXT h N) (hN : N ≤ 50) (d n o a b : Nat) (E : List Int32) (q : 1 ≤ n) (q2 : n ≤ 5) (q4 : lvl (h a) = n) (ih : mLv u N h d (n + 1) o (a + 1) false b E) : mLp u N h (d + 1) n o a false b E := by
  intro D M0 M E0 x hD ho ha hE hX hf
  obtain ⟨D, rfl⟩ : ∃ D', D = D' + 9 := ⟨D - 9, by omega⟩
  have hla := TXT_lt H (a := a) (lvl_pos (by omega))
  refine ⟨fun e hS => ?_, fun e hS => ?_, fun e hS => ?_, fun e hS => ?_, fun e hS => ?_⟩
  · subst e
    have hc : h a = 124 := by unfold lvl at q4; grind
    iterate 3 refine am_wp_step _ rfl ?_
    refine am_call1 (m_takesT hX hS (by omega) hc) (fun M1 h1 => ?_)
    iterate 3 refine am_wp_step _ rfl ?_
    obtain ⟨M2, k1, k2⟩ := ih (D + 9) M1 E0 (by omega) ho (by omega) (by omega) (TX_fm hX h1.1) h1.2
    have k1 : am_cl am_cds (D + 9) 169 [.inr (.inr (26, 0, 0))] (am_S M1) none (am_S M2) := k1
    refine ⟨_, k1, ?_⟩
    have e2 : MW M2 b := k2.2
    iterate 3 refine am_wp_step _ rfl ?_
    refine ⟨_, m_codesW e2.2, ?_⟩
    iterate 4 refine am_wp_step _ rfl ?_
    refine ⟨_, _, m_takesW e2.2 (by decide), ?_⟩
    iterate 2 refine am_wp_step _ rfl ?_
    exact ⟨rfl, M2, rfl, fm_tr (fm_tr hf h1.1) k2.1, e2⟩
  · subst e
    have hc : h a = 38 := by unfold lvl at q4; grind
    iterate 3 refine am_wp_step _ rfl ?_
    refine am_call1 (m_takesT hX hS (by omega) hc) (fun M1 h1 => ?_)
    iterate 3 refine am_wp_step _ rfl ?_
    obtain ⟨M2, k1, k2⟩ := ih (D + 9) M1 E0 (by omega) ho (by omega) (by omega) (TX_fm hX h1.1) h1.2
    have k1 : am_cl am_cds (D + 9) 170 [.inr (.inr (26, 0, 0))] (am_S M1) none (am_S M2) := k1
    refine ⟨_, k1, ?_⟩
    have e2 : MW M2 b := k2.2
    iterate 3 refine am_wp_step _ rfl ?_
    refine ⟨_, m_codesW e2.2, ?_⟩
    iterate 4 refine am_wp_step _ rfl ?_
    refine ⟨_, _, m_takesW e2.2 (by decide), ?_⟩
    iterate 2 refine am_wp_step _ rfl ?_
    exact ⟨rfl, M2, rfl, fm_tr (fm_tr hf h1.1) k2.1, e2⟩
  · subst e
    rcases hS with hS | hS
    · obtain ⟨-, rfl, hS⟩ := hS
      iterate 2 refine am_wp_step _ rfl ?_
      refine am_iteF (opc_pos (by omega)) ?_
      iterate 2 refine am_wp_step _ rfl ?_
      obtain ⟨M2, k1, k2⟩ := ih (D + 9) M E0 (by omega) ho (by omega) (by omega) hX hS
      have k1 : am_cl am_cds (D + 9) 171 [.inr (.inr (26, 0, 0))] (am_S M) none (am_S M2) := k1
      refine ⟨_, k1, ?_⟩
      have e2 : MW M2 b := k2.2
      iterate 3 refine am_wp_step _ rfl ?_
      refine ⟨_, m_codesW e2.2, ?_⟩
      iterate 1 refine am_wp_step _ rfl ?_
      exact ⟨rfl, M2, rfl, fm_tr hf k2.1, e2⟩
    · exact absurd q4 hS.1
  · subst e
    rcases hS with hS | hS
    · obtain ⟨-, rfl, hS⟩ := hS
      iterate 2 refine am_wp_step _ rfl ?_
      refine am_iteF (opc_pos (by omega)) ?_
      iterate 2 refine am_wp_step _ rfl ?_
      obtain ⟨M2, k1, k2⟩ := ih (D + 9) M E0 (by omega) ho (by omega) (by omega) hX hS
      have k1 : am_cl am_cds (D + 9) 172 [.inr (.inr (26, 0, 0))] (am_S M) none (am_S M2) := k1
      refine ⟨_, k1, ?_⟩
      have e2 : MW M2 b := k2.2
      iterate 3 refine am_wp_step _ rfl ?_
      refine ⟨_, m_codesW e2.2, ?_⟩
      exact tkW171_23 e2 ⟨rfl, M2, rfl, fm_tr hf k2.1, e2⟩
    · exact absurd q4 hS.1
  · subst e
    rcases hS with hS | hS
    · obtain ⟨-, rfl, hS⟩ := hS
      iterate 2 refine am_wp_step _ rfl ?_
      refine am_iteF (opc_pos (by omega)) ?_
      iterate 2 refine am_wp_step _ rfl ?_
      obtain ⟨M2, k1, k2⟩ := ih (D + 9) M E0 (by omega) ho (by omega) (by omega) hX hS
      have k1 : am_cl am_cds (D + 9) 174 [.inr (.inr (26, 0, 0))] (am_S M) none (am_S M2) := k1
      refine ⟨_, k1, ?_⟩
      have e2 : MW M2 b := k2.2
      iterate 3 refine am_wp_step _ rfl ?_
      refine ⟨_, m_codesW e2.2, ?_⟩
      exact tkW172_29 e2 ⟨rfl, M2, rfl, fm_tr hf k2.1, e2⟩
    · exact absurd q4 hS.1
