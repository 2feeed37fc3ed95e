/-! TEXTS AGAIN: strings, and the leaves of both readers -/
def nmU (u : Nat) (c : Int32) : Int32 := if u = 0 then (if c = 104 then 0 else if c = 115 then 1 else if c = 114 then 2 else if c = 107 then 3 else -1) else (if c = 112 then 0 else if c = 104 then 1 else if c = 117 then 2 else -1)
theorem nmU_lt (u : Nat) (c : Int32) : nmU u c < 4 := by unfold nmU; grind
theorem s_cod (d u : Nat) (M : am_F) (hu : u = 0 ∨ u = 1) : am_cl am_cds (d + 1) 228 [.inr (.inr (3, 0, u))] (am_S M) (some (.inl 0)) (am_S M) := by
  refine am_cl_in am_c228 rfl ?_
  rcases hu with rfl | rfl
  · repeat' first | refine am_wp_step _ rfl ?_ | refine am_iteB (fun h => ?_) (fun h => ?_) | refine am_iteN (fun h => ?_) (fun h => ?_) | refine am_ite (fun h => ?_) (fun h => ?_) | refine ⟨by decide, ?_⟩ | fail
    all_goals first | exact ⟨rfl, rfl⟩ | exact ⟨trivial, rfl, rfl⟩ | exact ⟨by first | exact Or.inr rfl | exact Or.inl rfl | exact rfl | (show narrow _ _ = _; decide), rfl, rfl⟩
  · repeat' first | refine am_wp_step _ rfl ?_ | refine am_iteB (fun h => ?_) (fun h => ?_) | refine am_iteN (fun h => ?_) (fun h => ?_) | refine am_ite (fun h => ?_) (fun h => ?_) | refine ⟨by decide, ?_⟩ | fail
    all_goals first | exact ⟨rfl, rfl⟩ | exact ⟨trivial, rfl, rfl⟩ | exact ⟨by first | exact Or.inr rfl | exact Or.inl rfl | exact rfl | (show narrow _ _ = _; decide), rfl, rfl⟩
theorem s_lat (d u : Nat) (M : am_F) (hu : u = 0 ∨ u = 1) : am_cl am_cds (d + 1) 229 [.inr (.inr (3, 0, u))] (am_S M) (some (.inl 1)) (am_S M) := by
  refine am_cl_in am_c229 rfl ?_
  rcases hu with rfl | rfl
  · repeat' first | refine am_wp_step _ rfl ?_ | refine am_iteB (fun h => ?_) (fun h => ?_) | refine am_iteN (fun h => ?_) (fun h => ?_) | refine am_ite (fun h => ?_) (fun h => ?_) | refine ⟨by decide, ?_⟩ | fail
    all_goals first | exact ⟨rfl, rfl⟩ | exact ⟨trivial, rfl, rfl⟩ | exact ⟨by first | exact Or.inr rfl | exact Or.inl rfl | exact rfl | (show narrow _ _ = _; decide), rfl, rfl⟩
  · repeat' first | refine am_wp_step _ rfl ?_ | refine am_iteB (fun h => ?_) (fun h => ?_) | refine am_iteN (fun h => ?_) (fun h => ?_) | refine am_ite (fun h => ?_) (fun h => ?_) | refine ⟨by decide, ?_⟩ | fail
    all_goals first | exact ⟨rfl, rfl⟩ | exact ⟨trivial, rfl, rfl⟩ | exact ⟨by first | exact Or.inr rfl | exact Or.inl rfl | exact rfl | (show narrow _ _ = _; decide), rfl, rfl⟩
theorem s_len (d u : Nat) (M : am_F) (hu : u = 0 ∨ u = 1) : am_cl am_cds (d + 2) 224 [.inr (.inr (3, 0, u))] (am_S M) (some (.inl (nI (am_bl u)))) (am_S M) := by
  refine am_cl_in am_c224 rfl ?_
  rcases hu with rfl | rfl
  · repeat' first | refine am_wp_step _ rfl ?_ | refine am_iteB (fun h => ?_) (fun h => ?_) | refine am_iteN (fun h => ?_) (fun h => ?_) | refine am_ite (fun h => ?_) (fun h => ?_) | refine ⟨_, _, s_cod _ 0 _ (Or.inl rfl), ?_⟩ | fail
    all_goals first | exact ⟨rfl, rfl⟩ | exact ⟨trivial, rfl, rfl⟩ | exact ⟨by first | exact Or.inr rfl | exact Or.inl rfl | exact rfl | (show narrow _ _ = _; decide), rfl, rfl⟩
  · repeat' first | refine am_wp_step _ rfl ?_ | refine am_iteB (fun h => ?_) (fun h => ?_) | refine am_iteN (fun h => ?_) (fun h => ?_) | refine am_ite (fun h => ?_) (fun h => ?_) | refine ⟨_, _, s_cod _ 1 _ (Or.inr rfl), ?_⟩ | fail
    all_goals first | exact ⟨rfl, rfl⟩ | exact ⟨trivial, rfl, rfl⟩ | exact ⟨by first | exact Or.inr rfl | exact Or.inl rfl | exact rfl | (show narrow _ _ = _; decide), rfl, rfl⟩
theorem s_cki (d j n : Nat) (q : am_V) (M : am_F) (hj : j < n) (hn : n < 2 ^ 31) : am_cl am_cds (d + 1) 235 [.inl (nI j), .inl (nI n), q] (am_S M) (some (.inl (nI j))) (am_S M) := by
  refine am_cl_in am_c235 rfl ?_
  iterate 2 refine am_wp_step _ rfl ?_
  refine am_iteF (nI_pos (by omega)) ?_
  iterate 3 refine am_wp_step _ rfl ?_
  refine am_iteT (nI_lt hj hn) ?_
  iterate 2 refine am_wp_step _ rfl ?_
  exact ⟨trivial, rfl, rfl⟩
theorem s_ck (d j n : Nat) (M : am_F) (hj : j < n) (hn : n < 2 ^ 31) : am_cl am_cds (d + 2) 230 [.inl (nI j), .inl (nI n)] (am_S M) none (am_S M) := by
  refine am_cl_in am_c230 rfl ?_
  repeat' first | refine am_wp_step _ rfl ?_ | refine am_iteB (fun h => ?_) (fun h => ?_) | refine am_iteN (fun h => ?_) (fun h => ?_) | refine am_ite (fun h => ?_) (fun h => ?_) | refine ⟨_, _, s_cki _ j n _ M hj hn, ?_⟩ | fail
  exact ⟨rfl, rfl⟩
theorem s_at (d u j : Nat) (M : am_F) (hu : u = 0 ∨ u = 1) (hj : j < am_bl u) : am_cl am_cds (d + 4) 225 [.inr (.inr (3, 0, u)), .inl (nI j)] (am_S M) (some (.inl (am_bt u j))) (am_S M) := by
  have h231 : am_cl am_cds (d + 3) 231 [.inr (.inr (4, 0, u)), .inl (nI j)] (am_S M) (some (.inl (am_bt u j))) (am_S M) := by
    refine am_cl_in am_c231 rfl ?_
    have hb : am_bl u < 2 ^ 31 := by rcases hu with rfl | rfl <;> decide
    iterate 4 refine am_wp_step _ rfl ?_
    refine ⟨_, s_ck d j (am_bl u) M hj hb, ?_⟩
    iterate 3 refine am_wp_step _ rfl ?_
    refine ⟨vp_in_nI hj hb, ?_⟩
    rw [nI_clamp (by omega)]
    iterate 4 refine am_wp_step _ rfl ?_
    rcases hu with rfl | rfl
    · rcases (by have : am_bl 0 = 4 := rfl; omega : j = 0 ∨ j = 1 ∨ j = 2 ∨ j = 3) with rfl | rfl | rfl | rfl <;> exact ⟨by first | exact Or.inr rfl | exact Or.inl rfl | exact rfl | (show narrow _ _ = _; decide), rfl, rfl⟩
    · rcases (by have : am_bl 1 = 3 := rfl; omega : j = 0 ∨ j = 1 ∨ j = 2) with rfl | rfl | rfl <;> exact ⟨by first | exact Or.inr rfl | exact Or.inl rfl | exact rfl | (show narrow _ _ = _; decide), rfl, rfl⟩
  refine am_cl_in am_c225 rfl ?_
  have hv : am_nr 2 (am_bt u j) := by
    rcases hu with rfl | rfl
    · rcases (by have : am_bl 0 = 4 := rfl; omega : j = 0 ∨ j = 1 ∨ j = 2 ∨ j = 3) with rfl | rfl | rfl | rfl <;> first | exact Or.inr rfl | exact Or.inl rfl | exact rfl | (show narrow _ _ = _; decide)
    · rcases (by have : am_bl 1 = 3 := rfl; omega : j = 0 ∨ j = 1 ∨ j = 2) with rfl | rfl | rfl <;> first | exact Or.inr rfl | exact Or.inl rfl | exact rfl | (show narrow _ _ = _; decide)
  repeat' first | refine am_wp_step _ rfl ?_ | refine am_iteB (fun h => ?_) (fun h => ?_) | refine am_iteN (fun h => ?_) (fun h => ?_) | refine am_ite (fun h => ?_) (fun h => ?_) | refine ⟨_, _, s_lat _ u M hu, ?_⟩ | refine ⟨_, _, h231, ?_⟩ | fail
  exact ⟨hv, rfl, rfl⟩
/-- the model's text -/
def TX (M : am_F) (u : Nat) (h : Nat → Int32) (N : Nat) : Prop := M 33 0 0 3 = nI N ∧ N ≤ 50 ∧ TXT h N ∧ (∀ a, a < N → h a = M 33 0 0 (114 + a)) ∧ M 26 0 0 8 = nI u ∧ (u = 0 ∨ u = 1)
/-- all but the reader's fields and its codes is as it was -/
def fm (M M' : am_F) : Prop := (∀ r, r ≠ 26 → r ≠ 33 → M' r = M r) ∧ (∀ b, b ≠ 4 → M' 33 b = M 33 b) ∧ (∀ s, s ≠ 6 → s ≠ 7 → s ≠ 9 → s ≠ 11 → M' 26 0 0 s = M 26 0 0 s)
def MS (M : am_F) (a o : Nat) (E : List Int32) : Prop := M 26 0 0 6 = nI a ∧ M 26 0 0 7 = nI o ∧ M 26 0 0 9 = 0 ∧ M 26 0 0 11 = nI E.length ∧ lsA (M 33 4 0) E
def MW (M : am_F) (a : Nat) : Prop := M 26 0 0 6 = nI a ∧ M 26 0 0 9 = 1
theorem fm_rf (M : am_F) : fm M M := ⟨fun _ _ _ => rfl, fun _ _ => rfl, fun _ _ _ _ _ => rfl⟩
theorem fm_tr {M M1 M2 : am_F} (h : fm M M1) (h2 : fm M1 M2) : fm M M2 := ⟨fun r a b => (h2.1 r a b).trans (h.1 r a b), fun b a => (h2.2.1 b a).trans (h.2.1 b a), fun s a b c d => (h2.2.2 s a b c d).trans (h.2.2 s a b c d)⟩
theorem TX_fm {M M' : am_F} {u N : Nat} {h : Nat → Int32} (p : TX M u h N) (q : fm M M') : TX M' u h N := by
  unfold TX
  rw [q.2.1 0 (by decide), q.2.2 8 (by decide) (by decide) (by decide) (by decide)]
  exact p
theorem fm_26 {M : am_F} {s : Nat} {x : Int32} (h : s = 6 ∨ s = 7 ∨ s = 9 ∨ s = 11) : fm M (am_up M 26 0 0 s x) := by
  refine ⟨fun r q _ => am_up_r q, fun b _ => by rw [am_up_r (by decide)], fun t a b c d => ?_⟩
  rw [am_up_s (by omega)]
theorem fm_33 {M : am_F} {s : Nat} {x : Int32} : fm M (am_up M 33 4 0 s x) := ⟨fun r _ q => am_up_r q, fun b q => am_up_b q, fun t _ _ _ _ => by rw [am_up_r (by decide)]⟩
theorem am_up_id {M : am_F} {r b i s : Nat} {x : Int32} (h : M r b i s = x) : am_up M r b i s x = M := by
  funext r' b' i' s'
  unfold am_up
  split
  · next q => obtain ⟨rfl, rfl, rfl, rfl⟩ := q; exact h.symm
  · rfl
theorem m_here (d u a N : Nat) (h : Nat → Int32) (M : am_F) (hX : TX M u h N) (h6 : M 26 0 0 6 = nI a) (h9 : M 26 0 0 9 = 0) (ha : a ≤ 50) : am_cl am_cds (d + 1) 165 [.inr (.inr (26, 0, 0))] (am_S M) (some (.inl (h a))) (am_S M) := by
  refine am_cl_in am_c165 rfl ?_
  have hN := hX.2.1
  iterate 3 refine am_wp_step _ rfl ?_
  refine am_iteF (show ¬ M 26 0 0 9 ≠ 0 from fun q => q h9) ?_
  iterate 6 refine am_wp_step _ rfl ?_
  refine am_andv (by unfold vp_in; decide) ?_
  iterate 1 refine am_wp_step _ rfl ?_
  by_cases c : a < N
  · refine am_iteF (show ¬ M 33 0 0 3 ≤ M 26 0 0 6 by rw [hX.1, h6]; exact nI_ge c (by omega)) ?_
    iterate 7 refine am_wp_step _ rfl ?_
    refine am_ixN (114 + a) ((show 114 + M 26 0 0 6 = nI (114 + a) by rw [h6, nI_lit, nI_add])) (show _ < 288 by omega) (show (288 : Nat) < 2 ^ 31 by decide) (fun e => ?_); rw [e]
    iterate 2 refine am_wp_step _ rfl ?_
    refine ⟨trivial, ?_, rfl⟩
    show some (Sum.inl (M 33 0 0 (114 + a))) = _
    rw [hX.2.2.2.1 a c]
  · refine am_iteT (show M 33 0 0 3 ≤ M 26 0 0 6 by rw [hX.1, h6]; exact nI_le (by omega) (by omega)) ?_
    iterate 2 refine am_wp_step _ rfl ?_
    refine ⟨trivial, ?_, rfl⟩
    rw [hX.2.2.1.1 a (by omega)]
theorem m_hereW (d : Nat) (M : am_F) (h9 : M 26 0 0 9 = 1) : am_cl am_cds (d + 1) 165 [.inr (.inr (26, 0, 0))] (am_S M) (some (.inl (-1))) (am_S M) := by
  refine am_cl_in am_c165 rfl ?_
  iterate 3 refine am_wp_step _ rfl ?_
  refine am_iteT (show M 26 0 0 9 ≠ 0 by rw [h9]; decide) ?_
  iterate 2 refine am_wp_step _ rfl ?_
  exact ⟨trivial, rfl, rfl⟩
theorem m_takesT {d u a o N : Nat} {h : Nat → Int32} {M : am_F} {E : List Int32} {c : Int32} (hX : TX M u h N) (hS : MS M a o E) (ha : a ≤ 50) (hc : h a = c) : ∃ M', am_cl am_cds (d + 2) 166 [.inr (.inr (26, 0, 0)), .inl c] (am_S M) (some (.inl 1)) (am_S M') ∧ (fm M M' ∧ MS M' (a + 1) o E) := by
  refine ⟨am_up M 26 0 0 6 (nI (a + 1)), am_cl_in am_c166 rfl ?_, fm_26 (by omega), ?_⟩
  · iterate 2 refine am_wp_step _ rfl ?_
    refine ⟨_, _, m_here d u a N h M hX hS.1 hS.2.2.1 ha, ?_⟩
    iterate 2 refine am_wp_step _ rfl ?_
    refine am_iteF (fun q => q hc) ?_
    iterate 14 refine am_wp_step _ rfl ?_
    refine ⟨by first | exact Or.inr rfl | exact Or.inl rfl | exact rfl | (show narrow _ _ = _; decide), rfl, ?_⟩
    show am_S (am_up M 26 0 0 6 (M 26 0 0 6 + 1)) = _
    rw [hS.1, nI_1]
  · exact ⟨am_up_same, by rw [am_up_s (by decide)]; exact hS.2.1, by rw [am_up_s (by decide)]; exact hS.2.2.1, by rw [am_up_s (by decide)]; exact hS.2.2.2.1, by rw [am_up_r (by decide)]; exact hS.2.2.2.2⟩
theorem m_takesF {d u a o N : Nat} {h : Nat → Int32} {M : am_F} {E : List Int32} {c : Int32} (hX : TX M u h N) (hS : MS M a o E) (ha : a ≤ 50) (hc : h a ≠ c) : am_cl am_cds (d + 2) 166 [.inr (.inr (26, 0, 0)), .inl c] (am_S M) (some (.inl 0)) (am_S M) := by
  refine am_cl_in am_c166 rfl ?_
  iterate 2 refine am_wp_step _ rfl ?_
  refine ⟨_, _, m_here d u a N h M hX hS.1 hS.2.2.1 ha, ?_⟩
  iterate 2 refine am_wp_step _ rfl ?_
  refine am_iteT hc ?_
  iterate 12 refine am_wp_step _ rfl ?_
  refine ⟨by first | exact Or.inr rfl | exact Or.inl rfl | exact rfl | (show narrow _ _ = _; decide), rfl, ?_⟩
  show am_S (am_up M 26 0 0 6 (M 26 0 0 6 + 0)) = _
  rw [Int32.add_zero, am_up_id rfl]
theorem m_takesW {d : Nat} {M : am_F} {c : Int32} (h9 : M 26 0 0 9 = 1) (hc : c ≠ -1) : am_cl am_cds (d + 2) 166 [.inr (.inr (26, 0, 0)), .inl c] (am_S M) (some (.inl 0)) (am_S M) := by
  refine am_cl_in am_c166 rfl ?_
  iterate 2 refine am_wp_step _ rfl ?_
  refine ⟨_, _, m_hereW d M h9, ?_⟩
  iterate 2 refine am_wp_step _ rfl ?_
  refine am_iteT (fun q => hc q.symm) ?_
  iterate 12 refine am_wp_step _ rfl ?_
  refine ⟨by first | exact Or.inr rfl | exact Or.inl rfl | exact rfl | (show narrow _ _ = _; decide), rfl, ?_⟩
  show am_S (am_up M 26 0 0 6 (M 26 0 0 6 + 0)) = _
  rw [Int32.add_zero, am_up_id rfl]
theorem m_codes {d a o : Nat} {M : am_F} {E : List Int32} {v : Int32} (hS : MS M a o E) (hE : E.length < 60) : ∃ M', am_cl am_cds (d + 1) 167 [.inr (.inr (26, 0, 0)), .inl v] (am_S M) none (am_S M') ∧ (fm M M' ∧ MS M' a o (v :: E)) := by
  refine ⟨am_up (am_up M 33 4 0 E.length v) 26 0 0 11 (nI (E.length + 1)), am_cl_in am_c167 rfl ?_, fm_tr fm_33 (fm_26 (by omega)), ?_⟩
  · iterate 3 refine am_wp_step _ rfl ?_
    refine am_iteF (show ¬ M 26 0 0 9 ≠ 0 from fun q => q hS.2.2.1) ?_
    iterate 6 refine am_wp_step _ rfl ?_
    refine am_ixN (E.length) ((show M 26 0 0 11 = nI E.length from hS.2.2.2.1)) (show _ < 60 by omega) (show (60 : Nat) < 2 ^ 31 by decide) (fun e => ?_); rw [e]
    iterate 7 refine am_wp_step _ rfl ?_
    refine ⟨rfl, ?_⟩
    show am_S (am_up (am_up M 33 4 0 E.length v) 26 0 0 11 (am_up M 33 4 0 E.length v 26 0 0 11 + 1)) = _
    rw [am_up_r (by decide), hS.2.2.2.1, nI_1]
  · refine ⟨?_, ?_, ?_, am_up_same, ?_⟩
    · rw [am_up_s (by decide), am_up_r (by decide)]; exact hS.1
    · rw [am_up_s (by decide), am_up_r (by decide)]; exact hS.2.1
    · rw [am_up_s (by decide), am_up_r (by decide)]; exact hS.2.2.1
    · rw [am_up_r (by decide)]
      exact ⟨am_up_same, lsA_cg (fun j hj => am_up_s (by omega)) hS.2.2.2.2⟩
theorem m_codesW {d : Nat} {M : am_F} {v : Int32} (h9 : M 26 0 0 9 = 1) : am_cl am_cds (d + 1) 167 [.inr (.inr (26, 0, 0)), .inl v] (am_S M) none (am_S M) := by
  refine am_cl_in am_c167 rfl ?_
  iterate 3 refine am_wp_step _ rfl ?_
  refine am_iteT (show M 26 0 0 9 ≠ 0 by rw [h9]; decide) ?_
  iterate 1 refine am_wp_step _ rfl ?_
  exact ⟨rfl, rfl⟩
