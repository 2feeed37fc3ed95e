/-! TEXT, THE MODEL; TOGETHER -/
def mK (M M2 : am_F) : Prop := (∀ r, r ≠ 26 → r ≠ 33 → M2 r = M r) ∧ (∀ bb, bb ≠ 0 → bb ≠ 4 → M2 33 bb = M 33 bb) ∧ (∀ s, s ≠ 6 → s ≠ 7 → s ≠ 8 → s ≠ 9 → s ≠ 11 → M2 26 0 0 s = M 26 0 0 s)
theorem mK_tr {M M1 M2 : am_F} (h : mK M M1) (h2 : mK M1 M2) : mK M M2 := ⟨fun r a b => (h2.1 r a b).trans (h.1 r a b), fun b a c => (h2.2.1 b a c).trans (h.2.1 b a c), fun s a b c d e => (h2.2.2 s a b c d e).trans (h.2.2 s a b c d e)⟩
theorem mK_fm {M M1 : am_F} (h : fm M M1) : mK M M1 := ⟨h.1, fun b _ c => h.2.1 b c, fun s a b _ c d => h.2.2 s a b c d⟩
theorem mK_26 {M : am_F} {s : Nat} {x : Int32} (h : s = 6 ∨ s = 7 ∨ s = 8 ∨ s = 9 ∨ s = 11) : mK M (am_up M 26 0 0 s x) := ⟨fun r q _ => am_up_r q, fun b _ _ => by rw [am_up_r (by decide)], fun t a b c d e => am_up_s (by omega)⟩
theorem mK_33 {M : am_F} {s : Nat} {x : Int32} : mK M (am_up M 33 0 0 s x) := ⟨fun r _ q => am_up_r q, fun b q _ => am_up_b q, fun t _ _ _ _ _ => by rw [am_up_r (by decide)]⟩
theorem m_txt0 {u N d b : Nat} {h : Nat → Int32} {ok : Bool} {E : List Int32} {M : am_F} {Q : Option am_V → am_M → Prop} (hu : u = 0 ∨ u = 1) (hN : N ≤ 50) (H : TXT h N) (hd : d + 8 ≤ 999) (h3 : M 33 0 0 3 = nI N) (hh : ∀ a, a < N → h a = M 33 0 0 (114 + a)) (p : PP h (nmU u) d 1 0 0 ok b E) (K : ∀ M2, mK M M2 → M2 33 0 = M 33 0 → M2 26 0 0 8 = nI u → (if ok = true then MS M2 b 0 E else MW M2 b) → am_wp (am_cl am_cds 999) am_c175 Q 26 [(0, .inr (.inr (26, 0, 0))), (1, .inl (nI u))] [] (am_S M2)) : am_wp (am_cl am_cds 999) am_c175 Q 0 [(0, .inr (.inr (26, 0, 0))), (1, .inl (nI u))] [] (am_S M) := by
  iterate 4 refine am_wp_step _ rfl ?_
  refine ⟨_, _, cl_t (by rcases hu with rfl | rfl <;> decide) (m_within _ _ _ _ _), ?_⟩
  iterate 13 refine am_wp_step _ rfl ?_
  refine ⟨Or.inl rfl, ?_⟩
  iterate 5 refine am_wp_step _ rfl ?_
  obtain ⟨Mi, hi⟩ : ∃ Mi, am_up (am_up (am_up (am_up (am_up M 26 0 0 8 (nI u)) 26 0 0 6 0) 26 0 0 7 0) 26 0 0 9 0) 26 0 0 11 0 = Mi := ⟨_, rfl⟩
  have e33 : Mi 33 = M 33 := by rw [← hi, am_up_r (by decide), am_up_r (by decide), am_up_r (by decide), am_up_r (by decide), am_up_r (by decide)]
  have e8 : Mi 26 0 0 8 = nI u := by rw [← hi, am_up_s (by decide), am_up_s (by decide), am_up_s (by decide), am_up_s (by decide), am_up_same]
  have hX : TX Mi u h N := ⟨by rw [e33]; exact h3, hN, H, fun a ha => by rw [e33]; exact hh a ha, e8, hu⟩
  have hS : MS Mi 0 0 [] := ⟨by rw [← hi]; rfl, by rw [← hi]; rfl, by rw [← hi]; rfl, by rw [← hi]; rfl, trivial⟩
  have hK : mK M Mi := by
    rw [← hi]
    exact mK_tr (mK_tr (mK_tr (mK_tr (mK_26 (by omega)) (mK_26 (by omega))) (mK_26 (by omega))) (mK_26 (by omega))) (mK_26 (by omega))
  obtain ⟨M2, k1, k2⟩ := (m_all H hN p).1 (by omega) (by omega) 999 Mi [] hd (by omega) (by omega) (by simp) hX hS
  have k1 : am_cl am_cds 999 168 [.inr (.inr (26, 0, 0))] (am_S Mi) none (am_S M2) := k1
  refine ⟨am_S M2, ?_, ?_⟩
  · show am_cl am_cds 999 168 [.inr (.inr (26, 0, 0))] (am_S (am_up (am_up (am_up (am_up (am_up M 26 0 0 8 (nI u)) 26 0 0 6 0) 26 0 0 7 0) 26 0 0 9 0) 26 0 0 11 0)) none (am_S M2)
    rw [hi]
    exact k1
  · have k3 := k2.2
    rw [List.append_nil] at k3
    refine K M2 (mK_tr hK (mK_fm k2.1)) ?_ ?_ k3
    · rw [k2.1.2.1 0 (by decide), e33]
    · rw [k2.1.2.2 8 (by decide) (by decide) (by decide) (by decide), e8]
theorem m_textF {u N d b : Nat} {h : Nat → Int32} {ok : Bool} {E : List Int32} {M : am_F} (hu : u = 0 ∨ u = 1) (hN : N ≤ 50) (H : TXT h N) (hd : d + 8 ≤ 999) (h3 : M 33 0 0 3 = nI N) (hh : ∀ a, a < N → h a = M 33 0 0 (114 + a)) (p : PP h (nmU u) d 1 0 0 ok b E) (hf : ¬ (ok = true ∧ b = N)) : ∃ M2, am_cl am_cds 1000 175 [.inr (.inr (26, 0, 0)), .inl (nI u)] (am_S M) (some (.inl (-10 - nI b))) (am_S M2) ∧ (mK M M2 ∧ M2 33 0 0 = fu (M 33 0 0) 3 0) := by
  refine am_cl_v (fun M2 => mK M M2 ∧ M2 33 0 0 = fu (M 33 0 0) 3 0) am_c175 rfl ?_
  have hb := PP_bd H p (Nat.zero_le _)
  refine m_txt0 hu hN H hd h3 hh p (fun M2 g1 g2 g3 g4 => ?_)
  have fin : ∀ h6 : M2 26 0 0 6 = nI b, am_wp (am_cl am_cds 999) am_c175 (fun w m => w = some (Sum.inl (-10 - nI b)) ∧ ∃ M', m = am_S M' ∧ mK M M' ∧ M' 33 0 0 = fu (M 33 0 0) 3 0) 37 [(0, .inr (.inr (26, 0, 0))), (1, .inl (nI u))] [.inr (.inr (26, 0, 0))] (am_S M2) := by
    intro h6
    iterate 3 refine am_wp_step _ rfl ?_
    refine ⟨Or.inr rfl, ?_⟩
    iterate 5 refine am_wp_step _ rfl ?_
    refine am_andv (by unfold vp_in; decide) ?_
    iterate 8 refine am_wp_step _ rfl ?_
    refine ⟨trivial, ?_, _, rfl, mK_tr (mK_tr g1 (mK_26 (s := 9) (x := 1) (by omega))) (mK_33 (s := 3) (x := 0)), ?_⟩
    · show some (Sum.inl (-10 - M2 26 0 0 6)) = _
      rw [h6]
    · show am_up (am_up M2 26 0 0 9 1) 33 0 0 3 0 33 0 0 = _
      rw [am_up_fu, am_up_r (by decide), g2]
  iterate 4 refine am_wp_step _ rfl ?_
  cases ok with
  | false =>
    have g4 : MW M2 b := g4
    exact am_iteT (show M2 26 0 0 9 ≠ 0 by rw [g4.2]; decide) (fin g4.1)
  | true =>
    have g4 : MS M2 b 0 E := g4
    have hbN : b < N := by
      have : b ≠ N := fun w => hf ⟨rfl, w⟩
      omega
    refine am_iteF (show ¬ M2 26 0 0 9 ≠ 0 from fun w => w g4.2.2.1) ?_
    iterate 6 refine am_wp_step _ rfl ?_
    refine am_andv (by unfold vp_in; decide) ?_
    iterate 1 refine am_wp_step _ rfl ?_
    refine am_iteF (show ¬ M2 33 0 0 3 ≤ M2 26 0 0 6 by rw [g2, h3, g4.1]; exact nI_ge hbN (by omega)) ?_
    exact fin g4.1
theorem m_textT {u N d : Nat} {h : Nat → Int32} {E : List Int32} {M : am_F} (hu : u = 0 ∨ u = 1) (hN : N ≤ 50) (H : TXT h N) (hd : d + 8 ≤ 999) (h3 : M 33 0 0 3 = nI N) (hh : ∀ a, a < N → h a = M 33 0 0 (114 + a)) (p : PP h (nmU u) d 1 0 0 true N E) : ∃ M2, am_cl am_cds 1000 175 [.inr (.inr (26, 0, 0)), .inl (nI u)] (am_S M) (some (.inl 1)) (am_S M2) ∧ (mK M M2 ∧ ∃ A, lsA A E ∧ M2 33 0 0 3 = 0 ∧ M2 33 0 0 (184 + 52 * u) = nI E.length ∧ (∀ j, j < E.length → M2 33 0 0 (185 + 52 * u + j) = A j) ∧ ∀ c, c ≠ 3 → ¬ (184 + 52 * u ≤ c ∧ c < 185 + 52 * u + E.length) → M2 33 0 0 c = M 33 0 0 c) := by
  refine am_cl_v (fun M2 => mK M M2 ∧ ∃ A, lsA A E ∧ M2 33 0 0 3 = 0 ∧ M2 33 0 0 (184 + 52 * u) = nI E.length ∧ (∀ j, j < E.length → M2 33 0 0 (185 + 52 * u + j) = A j) ∧ ∀ c, c ≠ 3 → ¬ (184 + 52 * u ≤ c ∧ c < 185 + 52 * u + E.length) → M2 33 0 0 c = M 33 0 0 c) am_c175 rfl ?_
  have hb := PP_bd H p (Nat.zero_le _)
  have hE : E.length ≤ 50 := by have := hb.2.2.2 rfl; omega
  refine m_txt0 hu hN H hd h3 hh p (fun M2 g1 g2 g3 g4 => ?_)
  have g4 : MS M2 N 0 E := g4
  iterate 4 refine am_wp_step _ rfl ?_
  refine am_iteF (show ¬ M2 26 0 0 9 ≠ 0 from fun w => w g4.2.2.1) ?_
  iterate 6 refine am_wp_step _ rfl ?_
  refine am_andv (by unfold vp_in; decide) ?_
  iterate 1 refine am_wp_step _ rfl ?_
  refine am_iteT (show M2 33 0 0 3 ≤ M2 26 0 0 6 by rw [g2, h3, g4.1]; exact Int32.le_refl _) ?_
  iterate 2 refine am_wp_step _ rfl ?_
  refine ⟨Or.inl rfl, ?_⟩
  iterate 5 refine am_wp_step _ rfl ?_
  refine am_andv (by unfold vp_in; decide) ?_
  obtain ⟨M3, e3⟩ : ∃ M3, am_up (am_up M2 26 0 0 9 0) 33 0 0 3 0 = M3 := ⟨_, rfl⟩
  have g5 : mK M M3 := by rw [← e3]; exact mK_tr (mK_tr g1 (mK_26 (by omega))) mK_33
  have g8 : M3 26 0 0 8 = nI u := by rw [← e3, am_up_r (by decide), am_up_s (by decide)]; exact g3
  have g11 : M3 26 0 0 11 = nI E.length := by rw [← e3, am_up_r (by decide), am_up_s (by decide)]; exact g4.2.2.2.1
  have g9 : M3 26 0 0 9 = 0 := by rw [← e3]; rfl
  have gA : M3 33 4 = M2 33 4 := by rw [← e3, am_up_b (by decide), am_up_r (by decide)]
  have g33 : M3 33 0 0 = fu (M 33 0 0) 3 0 := by rw [← e3, am_up_fu, am_up_r (by decide), g2]
  show am_wp (am_cl am_cds 999) am_c175 _ 46 [(0, .inr (.inr (26, 0, 0))), (1, .inl (nI u))] [] (am_S (am_up (am_up M2 26 0 0 9 0) 33 0 0 3 0))
  rw [e3]
  iterate 3 refine am_wp_step _ rfl ?_
  refine am_iteT (show M3 26 0 0 9 = 0 from g9) ?_
  iterate 11 refine am_wp_step _ rfl ?_
  refine am_ixN (184 + 52 * u) ((show 184 + 52 * M3 26 0 0 8 = nI (184 + 52 * u) by rw [g8]; simp only [nI_lit, nI_add, nI_mul])) (show _ < 288 by omega) (show (288 : Nat) < 2 ^ 31 by decide) (fun e => ?_); rw [e]
  iterate 2 refine am_wp_step _ rfl ?_
  have hloop : ∀ (j : Nat) (M4 : am_F), j ≤ E.length → mK M M4 → M4 26 0 0 8 = nI u → M4 26 0 0 11 = nI E.length → M4 33 4 = M2 33 4 → M4 33 0 0 3 = 0 → M4 33 0 0 (184 + 52 * u) = nI E.length → (∀ i, i < j → M4 33 0 0 (185 + 52 * u + i) = M2 33 4 0 i) → (∀ c, c ≠ 3 → ¬ (184 + 52 * u ≤ c ∧ c < 185 + 52 * u + j) → M4 33 0 0 c = M 33 0 0 c) → am_wp (am_cl am_cds 999) am_c175 (fun w m => w = some (Sum.inl 1) ∧ ∃ M', m = am_S M' ∧ mK M M' ∧ ∃ A, lsA A E ∧ M' 33 0 0 3 = 0 ∧ M' 33 0 0 (184 + 52 * u) = nI E.length ∧ (∀ j, j < E.length → M' 33 0 0 (185 + 52 * u + j) = A j) ∧ ∀ c, c ≠ 3 → ¬ (184 + 52 * u ≤ c ∧ c < 185 + 52 * u + E.length) → M' 33 0 0 c = M 33 0 0 c) 67 [(0, .inr (.inr (26, 0, 0))), (1, .inl (nI u)), (2, .inl (nI j))] [] (am_S M4) := by
    intro j
    induction hk : E.length - j generalizing j with
    | zero =>
      intro M4 hj f1 f2 f3 f4 f5 f6 f7 f8
      have hj : j = E.length := by omega
      subst hj
      iterate 4 refine am_wp_step _ rfl ?_
      refine am_iteT (show M4 26 0 0 11 ≤ nI E.length by rw [f3]; exact Int32.le_refl _) ?_
      iterate 2 refine am_wp_step _ rfl ?_
      exact ⟨trivial, rfl, M4, rfl, f1, _, g4.2.2.2.2, f5, f6, f7, f8⟩
    | succ k ih =>
      intro M4 hj f1 f2 f3 f4 f5 f6 f7 f8
      iterate 4 refine am_wp_step _ rfl ?_
      refine am_iteF (show ¬ M4 26 0 0 11 ≤ nI j by rw [f3]; exact nI_ge (by omega) (by omega)) ?_
      iterate 16 refine am_wp_step _ rfl ?_
      refine am_ixN (j) (rfl) (show _ < 60 by omega) (show (60 : Nat) < 2 ^ 31 by decide) (fun e => ?_); rw [e]
      iterate 1 refine am_wp_step _ rfl ?_
      refine am_ixN (185 + 52 * u + j) ((show 184 + 52 * M4 26 0 0 8 + 1 + nI j = nI (185 + 52 * u + j) by rw [f2]; simp only [nI_lit, nI_add, nI_mul]; congr 1; omega)) (show _ < 288 by omega) (show (288 : Nat) < 2 ^ 31 by decide) (fun e => ?_); rw [e]
      iterate 2 refine am_wp_step _ rfl ?_
      rw [show nI j + 1 = nI (j + 1) from nI_1 j]
      refine ih (j + 1) (by omega) (am_up M4 33 0 0 (185 + 52 * u + j) (M4 33 4 0 j)) (by omega) (mK_tr f1 mK_33) ?_ ?_ ?_ ?_ ?_ ?_ ?_
      · rw [am_up_r (by decide)]; exact f2
      · rw [am_up_r (by decide)]; exact f3
      · rw [am_up_b (by decide)]; exact f4
      · rw [am_up_s (by omega)]; exact f5
      · rw [am_up_s (by omega)]; exact f6
      · intro i hi
        rcases (by omega : i < j ∨ i = j) with q | q
        · rw [am_up_s (by omega)]; exact f7 i q
        · subst q
          rw [am_up_same, f4]
      · intro c c1 c2
        rw [am_up_s (by omega)]
        exact f8 c c1 (by omega)
  refine hloop 0 (am_up M3 33 0 0 (184 + 52 * u) (M3 26 0 0 11)) (Nat.zero_le _) (mK_tr g5 mK_33) ?_ ?_ ?_ ?_ ?_ ?_ ?_
  · rw [am_up_r (by decide)]; exact g8
  · rw [am_up_r (by decide)]; exact g11
  · rw [am_up_b (by decide)]; exact gA
  · rw [am_up_s (by omega), g33]; rfl
  · rw [am_up_same]; exact g11
  · intro i hi; omega
  · intro c c1 c2
    rw [am_up_s (by omega), g33, fu_ne c1]
theorem jj_text (x : Int32) : JJ 88 175 [.inl x] := by
  intro M hR
  obtain ⟨n, m, a, ha, hG, hB, hab, hT0, hT1, hW4, hW5, hz, hbl, hBY, h288, hTC⟩ := RC_get hR; have hn := hB.1; have hm := hB.2.1; have hn8 := hG.1; have hm8 := hG.2.1; have hX0 := hG.2.2.2.2.2.2.1; have hX1 := hG.2.2.2.2.2.2.2; have ho : ∀ i, i < n → odr a n i < n := (fun i hi => odr_lt hi)
  by_cases hx : x = 0 ∨ x = 1
  · obtain ⟨u, hu, rfl⟩ : ∃ u, (u = 0 ∨ u = 1) ∧ x = nI u := by
      rcases hx with rfl | rfl
      · exact ⟨0, .inl rfl, rfl⟩
      · exact ⟨1, .inr rfl, rfl⟩
    obtain ⟨N, hN, hN3, hN21, hN27⟩ := hW4
    obtain ⟨h, hh⟩ : ∃ h : Nat → Int32, h = fun i => if i < N then a (114 + i) else -1 := ⟨_, rfl⟩
    have hlt : ∀ i, i < N → h i = a (114 + i) := fun i hi => by rw [hh]; exact if_pos hi
    have H : TXT h N := ⟨fun i hi => by rw [hh]; exact if_neg (by omega), fun i hi => by rw [hlt i hi]; exact (hBY N hN3 hN i hi).1⟩
    have T0 : TR M h N := ⟨hN21, hN, H, fun i hi => by rw [hlt i hi]; exact (hN27 i hi).symm, fun i hi => by rw [hlt i hi]; exact (hBY N hN3 hN i hi).2⟩
    obtain ⟨ok, b, E, p⟩ := PP_ex (nm := nmU u) H (8 * N + 8) 1 0 0 (Nat.zero_le _) (by omega) (by omega)
    have hb := PP_bd H p (Nat.zero_le _)
    have hCR := PP_top H (fun c => by have := nmU_lt u c; lia) p
    have hRR : RR M 0 a := by rw [← ha]; exact hR.1
    have hfin : ∀ M1, fc M M1 → RR (am_up M1 21 4 0 1 0) 0 (fu a 3 0) := by
      intro M1 k2
      have e : ∀ r bb, ¬ ((r = 21 ∨ r = 27) ∧ (bb = 12 ∨ bb = 13 ∨ bb = 4)) → r ≠ 19 → am_up M1 21 4 0 1 0 r bb = M r bb := fun r bb q q2 => by
        rw [am_up_rb (by omega)]
        exact k2 r bb (by omega) q2
      refine RR_r hRR (fun r hr => e r 0 (by omega) (by omega)) (fun bb hbb => ⟨e 21 bb (by omega) (by decide), e 27 bb (by omega) (by decide)⟩) ⟨0, by omega, rfl, am_up_same, fun j hj => by omega⟩ ?_ ?_ (fun c c1 c2 c3 => fu_ne c1)
      · obtain ⟨k, j1, j2, j3, j4⟩ := hW5
        exact ⟨k, j1, j2, by rw [e 21 5 (by omega) (by decide)]; exact j3, fun j hj => by show _ = fu a 3 0 (164 + j); rw [e 27 5 (by omega) (by decide), fu_ne (by omega)]; exact j4 j hj⟩
      · intro k hk hk2 j hj
        exfalso
        have hk : (0 : Int32) = nI k := hk
        exact nI_ne0 (n := k) (by omega) (by omega) hk.symm
    by_cases hok : ok = true ∧ b = N
    · rw [if_pos hok] at hCR
      obtain ⟨rfl, rfl⟩ := hok
      have hEl : E.length ≤ 50 := by have := hb.2.2.2 rfl; omega
      obtain ⟨M1, M2, c1, k2, k4, k6⟩ := c_textT hu (by rw [List.length_map]; exact hEl) T0 hCR
      rw [List.length_map] at k6
      have f1 : ∀ r bb, ¬ ((r = 21 ∨ r = 27) ∧ (bb = 12 ∨ bb = 13 ∨ bb = 4 ∨ bb = 2 * u)) → r ≠ 19 → M2 r bb = M r bb := fun r bb q q2 => by
        rw [k6.2.2 r bb (by omega), am_up_rb (by omega)]
        exact k2 r bb (by omega) q2
      have e33 : M2 33 = M 33 := funext fun bb => f1 33 bb (by omega) (by decide)
      obtain ⟨M3, c2, l1, A, l2, l3, l4, l5, l6⟩ := m_textT (M := M2) hu hN H (by omega) (by rw [e33, ha]; exact hN3) (fun i hi => by rw [e33, ha]; exact hlt i hi) p
      rw [e33, ha] at l6
      refine JJ_w hR c1 c2 (fun r bb q1 q2 q3 q4 q5 => f1 r bb (by omega) q4) ⟨l1.1, fun bb hbb => l1.2.1 bb (by omega) (by omega), l1.2.2 3 (by decide) (by decide) (by decide) (by decide) (by decide), l1.2.2 16 (by decide) (by decide) (by decide) (by decide) (by decide)⟩ ?_
      have hwf := PP_wfc (nmU_lt u) p l2
      have hE1 : 0 < E.length := by
        rcases Nat.eq_zero_or_pos E.length with w | w
        · rw [w] at hwf; have w2 : (0 : Nat) = 1 := hwf.1; omega
        · exact w
      have hx0 : tx (M3 33 0 0) (52 * u) = nI E.length := l4
      have hxj : ∀ j, j < E.length → tx (M3 33 0 0) (52 * u + 1 + j) = A j := fun j hj => by
        show M3 33 0 0 (184 + (52 * u + 1 + j)) = A j
        rw [show 184 + (52 * u + 1 + j) = 185 + 52 * u + j by omega]
        exact l5 j hj
      refine RR_x hu (hfin M1 k2) k6.2.2 (fun c q => ?_) ?_ ?_
      · by_cases c3 : c = 3
        · rw [c3, l3, fu_at]
        · rw [l6 c c3 (by omega), fu_ne c3]
      · have er : 6 * (u / 2) + 2 * (u % 2) = 2 * u := by omega
        refine ⟨by rw [er, hx0]; exact k6.1, fun j hj => ?_⟩
        rw [hx0, nI_clamp (by omega)] at hj
        rw [er, hxj j hj, k6.2.1 j hj, am_up_r (by decide)]
        have hls : ∀ (L : List Int32), rwC M1 12 L → lsA (M1 27 12 0) L := fun L => by
          induction L with
          | nil => intro _; trivial
          | cons v t ih => intro w; exact ⟨w.1, ih w.2⟩
        exact lsA_get l2 (M1 27 12 0) (hls _ k4.2) j hj
      · exact ⟨E.length, hEl, hx0, fun _ => wfc_cg hxj hwf⟩
    · rw [if_neg hok] at hCR
      obtain ⟨M1, c1, k2⟩ := c_textF hu (by omega) T0 hCR
      have f1 : ∀ r bb, ¬ ((r = 21 ∨ r = 27) ∧ (bb = 12 ∨ bb = 13 ∨ bb = 4)) → r ≠ 19 → am_up M1 21 4 0 1 0 r bb = M r bb := fun r bb q q2 => by
        rw [am_up_rb (by omega)]
        exact k2 r bb (by omega) q2
      have e33 : am_up M1 21 4 0 1 0 33 = M 33 := funext fun bb => f1 33 bb (by omega) (by decide)
      obtain ⟨M3, c2, l1, l2⟩ := m_textF (M := am_up M1 21 4 0 1 0) hu hN H (by omega) (by rw [e33, ha]; exact hN3) (fun i hi => by rw [e33, ha]; exact hlt i hi) p hok
      refine JJ_w hR c1 c2 (fun r bb q1 q2 q3 q4 q5 => f1 r bb (by omega) q4) ⟨l1.1, fun bb hbb => l1.2.1 bb (by omega) (by omega), l1.2.2 3 (by decide) (by decide) (by decide) (by decide) (by decide), l1.2.2 16 (by decide) (by decide) (by decide) (by decide) (by decide)⟩ ?_
      rw [l2, e33, ha]
      exact hfin M1 k2
  · refine JJ_e (k := 1) (by decide) (by decide) hR ?_ (fun M1 e33 e26 => ?_)
    · refine am_cl_in am_c88 rfl ?_
      repeat' first | refine am_wp_step _ rfl ?_ | refine am_iteB (fun h => ?_) (fun h => ?_) | refine am_iteN (fun h => ?_) (fun h => ?_) | refine am_ite (fun h => ?_) (fun h => ?_) | refine ⟨_, _, cl_f hx (c_isUse _ _ _), ?_⟩ | refine ⟨_, _, c_err1 _ _, ?_⟩ | fail
      exact ⟨trivial, rfl, rfl⟩
    · refine am_cl_in am_c175 rfl ?_
      repeat' first | refine am_wp_step _ rfl ?_ | refine am_iteB (fun h => ?_) (fun h => ?_) | refine am_iteN (fun h => ?_) (fun h => ?_) | refine am_ite (fun h => ?_) (fun h => ?_) | refine ⟨_, _, cl_f (show ¬ (0 ≤ x ∧ x ≤ 1) from fun w => hx (by lia)) (m_within _ _ _ _ _), ?_⟩ | refine ⟨_, _, m_find1 _ _, ?_⟩ | fail
      exact ⟨trivial, rfl, rfl⟩
