/-! THE MODEL'S OPERAND -/
theorem m_up67 {M : am_F} {a o : Nat} {E : List Int32} (hS : MS M a o E) (a' o' : Nat) : MS (am_up (am_up M 26 0 0 7 (nI o')) 26 0 0 6 (nI a')) a' o' E := by
  refine ⟨am_up_same, ?_, ?_, ?_, ?_⟩
  · rw [am_up_s (by decide), am_up_same]
  · rw [am_up_s (by decide), am_up_s (by decide)]; exact hS.2.2.1
  · rw [am_up_s (by decide), am_up_s (by decide)]; exact hS.2.2.2.1
  · rw [am_up_r (by decide), am_up_r (by decide)]; exact hS.2.2.2.2
theorem m_up7 {M : am_F} {a o : Nat} {E : List Int32} (hS : MS M a o E) (o' : Nat) : MS (am_up M 26 0 0 7 (nI o')) a o' E := by
  refine ⟨?_, am_up_same, ?_, ?_, ?_⟩
  · rw [am_up_s (by decide)]; exact hS.1
  · rw [am_up_s (by decide)]; exact hS.2.2.1
  · rw [am_up_s (by decide)]; exact hS.2.2.2.1
  · rw [am_up_r (by decide)]; exact hS.2.2.2.2
/-- from the sign's byte to the call within: open and at have moved on -/
theorem m_sign {D u a o N : Nat} {h : Nat → Int32} {M : am_F} {E : List Int32} {Q : Option am_V → am_M → Prop} (hX : TX M u h N) (hN : N ≤ 50) (ha : a ≤ N) (ho : o < 5) (hS : MS M a o E) (hc : h a = 33 ∨ h a = 40) (K : ∀ M1, fm M M1 → MS M1 (a + 1) (o + 1) E → am_wp (am_cl am_cds (D + 8)) am_c174 Q 33 [(0, .inr (.inr (26, 0, 0))), (1, .inl (h a))] [] (am_S M1)) : am_wp (am_cl am_cds (D + 8)) am_c174 Q 0 [(0, .inr (.inr (26, 0, 0)))] [] (am_S M) := by
  iterate 2 refine am_wp_step _ rfl ?_
  refine ⟨_, _, m_here _ u a N h M hX hS.1 hS.2.2.1 (by omega), ?_⟩
  iterate 4 refine am_wp_step _ rfl ?_
  have K9 : am_wp (am_cl am_cds (D + 8)) am_c174 Q 9 [(0, .inr (.inr (26, 0, 0))), (1, .inl (h a))] [] (am_S M) := by
    iterate 5 refine am_wp_step _ rfl ?_
    refine am_iteT (show M 26 0 0 7 ≠ 5 by rw [hS.2.1]; rcases (by omega : o = 0 ∨ o = 1 ∨ o = 2 ∨ o = 3 ∨ o = 4) with rfl | rfl | rfl | rfl | rfl <;> decide) ?_
    iterate 2 refine am_wp_step _ rfl ?_
    refine ⟨Or.inl rfl, ?_⟩
    have e : am_up M 26 0 0 9 0 = M := am_up_id hS.2.2.1
    show am_wp (am_cl am_cds (D + 8)) am_c174 Q 18 [(0, .inr (.inr (26, 0, 0))), (1, .inl (h a))] [] (am_S (am_up M 26 0 0 9 0))
    rw [e]
    iterate 3 refine am_wp_step _ rfl ?_
    refine am_iteF (show ¬ M 26 0 0 9 ≠ 0 from fun w => w hS.2.2.1) ?_
    iterate 12 refine am_wp_step _ rfl ?_
    have e2 : am_up (am_up M 26 0 0 7 (M 26 0 0 7 + 1)) 26 0 0 6 (am_up M 26 0 0 7 (M 26 0 0 7 + 1) 26 0 0 6 + 1) = am_up (am_up M 26 0 0 7 (nI (o + 1))) 26 0 0 6 (nI (a + 1)) := by
      rw [am_up_s (by decide), hS.1, hS.2.1, nI_1, nI_1]
    show am_wp (am_cl am_cds (D + 8)) am_c174 Q 33 [(0, .inr (.inr (26, 0, 0))), (1, .inl (h a))] [] (am_S (am_up (am_up M 26 0 0 7 (M 26 0 0 7 + 1)) 26 0 0 6 (am_up M 26 0 0 7 (M 26 0 0 7 + 1) 26 0 0 6 + 1)))
    rw [e2]
    exact K _ (fm_tr (fm_26 (by omega)) (fm_26 (by omega))) (m_up67 hS _ _)
  rcases hc with hc | hc
  · exact am_iteT hc K9
  · refine am_iteF (show ¬ h a = 33 by rw [hc]; decide) ?_
    iterate 3 refine am_wp_step _ rfl ?_
    exact am_iteF (show ¬ h a ≠ 40 from fun w => w hc) K9
/-- the end of a sign: open falls back -/
theorem m_signE {D : Nat} {M : am_F} {x : Int32} {Q : Option am_V → am_M → Prop} (K : Q none (am_S (am_up M 26 0 0 7 (M 26 0 0 7 - 1)))) : am_wp (am_cl am_cds (D + 8)) am_c174 Q 53 [(0, .inr (.inr (26, 0, 0))), (1, .inl x)] [] (am_S M) := by
  iterate 8 refine am_wp_step _ rfl ?_
  exact K
theorem m_deep {u N : Nat} {h : Nat → Int32} (hN : N ≤ 50) (d a : Nat) (q : h a = 33 ∨ h a = 40) : mLv u N h (d + 1) 6 5 a false a [] := by
  intro D M E0 hD ho ha hE hX hS
  obtain ⟨D, rfl⟩ : ∃ D', D = D' + 9 := ⟨D - 9, by omega⟩
  refine am_cl_v (fun M3 => mRes M M3 false a 5 ([] ++ E0)) am_c174 rfl ?_
  iterate 2 refine am_wp_step _ rfl ?_
  refine ⟨_, _, m_here _ u a N h M hX hS.1 hS.2.2.1 (by omega), ?_⟩
  iterate 4 refine am_wp_step _ rfl ?_
  have K9 : am_wp (am_cl am_cds (D + 8)) am_c174 (mQ M false a 5 ([] ++ E0)) 9 [(0, .inr (.inr (26, 0, 0))), (1, .inl (h a))] [] (am_S M) := by
    iterate 5 refine am_wp_step _ rfl ?_
    refine am_iteF (show ¬ M 26 0 0 7 ≠ 5 by rw [hS.2.1]; decide) ?_
    iterate 3 refine am_wp_step _ rfl ?_
    refine ⟨Or.inr rfl, ?_⟩
    iterate 3 refine am_wp_step _ rfl ?_
    iterate 1 refine am_wp_step _ rfl ?_
    exact ⟨rfl, _, rfl, fm_26 (by omega), (by rw [am_up_s (by decide)]; exact hS.1 : am_up M 26 0 0 9 1 26 0 0 6 = nI a), am_up_same⟩
  rcases q with hc | hc
  · exact am_iteT hc K9
  · refine am_iteF (show ¬ h a = 33 by rw [hc]; decide) ?_
    iterate 3 refine am_wp_step _ rfl ?_
    exact am_iteF (show ¬ h a ≠ 40 from fun w => w hc) K9
theorem m_notT {u N : Nat} {h : Nat → Int32} (H : TXT h N) (hN : N ≤ 50) (d o a b : Nat) (E : List Int32) (q : h a = 33) (q2 : o < 5) (p : PP h (nmU u) d 6 (o + 1) (a + 1) true b E) (ih : mLv u N h d 6 (o + 1) (a + 1) true b E) : mLv u N h (d + 1) 6 o a true b (20010 :: E) := by
  intro D M E0 hD ho ha hE hX hS
  obtain ⟨D, rfl⟩ : ∃ D', D = D' + 9 := ⟨D - 9, by omega⟩
  have hla := TXT_lt H (a := a) (by rw [q]; decide)
  have hb := PP_bd H p (by omega)
  have hl2 : (E ++ E0).length < 60 := by have := hb.2.2.2 rfl; rw [List.length_append]; omega
  refine am_cl_v (fun M3 => mRes M M3 true b o (20010 :: E ++ E0)) am_c174 rfl ?_
  refine m_sign hX hN ha q2 hS (.inl q) (fun M1 g1 g2 => ?_)
  iterate 3 refine am_wp_step _ rfl ?_
  refine am_iteF (show ¬ h a ≠ 33 from fun w => w q) ?_
  iterate 2 refine am_wp_step _ rfl ?_
  obtain ⟨M2, k1, k2⟩ := ih (D + 8) M1 E0 (by omega) (by omega) (by omega) (by omega) (TX_fm hX g1) g2
  have k1 : am_cl am_cds (D + 8) 174 [.inr (.inr (26, 0, 0))] (am_S M1) none (am_S M2) := k1
  refine ⟨_, k1, ?_⟩
  have e2 : MS M2 b (o + 1) (E ++ E0) := k2.2
  iterate 3 refine am_wp_step _ rfl ?_
  refine am_call0 (m_codes (v := 20010) e2 hl2) (fun M3 h3 => ?_)
  iterate 1 refine am_wp_step _ rfl ?_
  refine m_signE ⟨rfl, _, rfl, fm_tr (fm_tr (fm_tr g1 k2.1) h3.1) (fm_26 (by omega)), ?_⟩
  show MS (am_up M3 26 0 0 7 (M3 26 0 0 7 - 1)) b o (20010 :: (E ++ E0))
  rw [h3.2.2.1, nI_pred o]
  exact m_up7 h3.2 o
theorem m_notF {u N : Nat} {h : Nat → Int32} (H : TXT h N) (hN : N ≤ 50) (d o a b : Nat) (E : List Int32) (q : h a = 33) (q2 : o < 5) (ih : mLv u N h d 6 (o + 1) (a + 1) false b E) : mLv u N h (d + 1) 6 o a false b E := by
  intro D M E0 hD ho ha hE hX hS
  obtain ⟨D, rfl⟩ : ∃ D', D = D' + 9 := ⟨D - 9, by omega⟩
  have hla := TXT_lt H (a := a) (by rw [q]; decide)
  refine am_cl_v (fun M3 => mRes M M3 false b o (E ++ E0)) am_c174 rfl ?_
  refine m_sign hX hN ha q2 hS (.inl q) (fun M1 g1 g2 => ?_)
  iterate 3 refine am_wp_step _ rfl ?_
  refine am_iteF (show ¬ h a ≠ 33 from fun w => w q) ?_
  iterate 2 refine am_wp_step _ rfl ?_
  obtain ⟨M2, k1, k2⟩ := ih (D + 8) M1 E0 (by omega) (by omega) (by omega) (by omega) (TX_fm hX g1) g2
  have k1 : am_cl am_cds (D + 8) 174 [.inr (.inr (26, 0, 0))] (am_S M1) none (am_S M2) := k1
  refine ⟨_, k1, ?_⟩
  have e2 : MW M2 b := k2.2
  iterate 3 refine am_wp_step _ rfl ?_
  refine ⟨_, m_codesW e2.2, ?_⟩
  iterate 1 refine am_wp_step _ rfl ?_
  refine m_signE ⟨rfl, _, rfl, fm_tr (fm_tr g1 k2.1) (fm_26 (by omega)), ?_⟩
  exact ⟨(am_up_s (by decide)).trans e2.1, (am_up_s (by decide)).trans e2.2⟩
theorem m_brT {u N : Nat} {h : Nat → Int32} (H : TXT h N) (hN : N ≤ 50) (d o a b : Nat) (E : List Int32) (q : h a = 40) (q2 : o < 5) (p : PP h (nmU u) d 1 (o + 1) (a + 1) true b E) (q3 : h b = 41) (ih : mLv u N h d 1 (o + 1) (a + 1) true b E) : mLv u N h (d + 1) 6 o a true (b + 1) E := by
  intro D M E0 hD ho ha hE hX hS
  obtain ⟨D, rfl⟩ : ∃ D', D = D' + 9 := ⟨D - 9, by omega⟩
  have hla := TXT_lt H (a := a) (by rw [q]; decide)
  have hb := PP_bd H p (by omega)
  refine am_cl_v (fun M3 => mRes M M3 true (b + 1) o (E ++ E0)) am_c174 rfl ?_
  refine m_sign hX hN ha q2 hS (.inr q) (fun M1 g1 g2 => ?_)
  iterate 3 refine am_wp_step _ rfl ?_
  refine am_iteT (show h a ≠ 33 by rw [q]; decide) ?_
  iterate 2 refine am_wp_step _ rfl ?_
  obtain ⟨M2, k1, k2⟩ := ih (D + 8) M1 E0 (by omega) (by omega) (by omega) (by omega) (TX_fm hX g1) g2
  have k1 : am_cl am_cds (D + 8) 168 [.inr (.inr (26, 0, 0))] (am_S M1) none (am_S M2) := k1
  refine ⟨_, k1, ?_⟩
  have e2 : MS M2 b (o + 1) (E ++ E0) := k2.2
  iterate 4 refine am_wp_step _ rfl ?_
  refine am_call1 (m_takesT (TX_fm (TX_fm hX g1) k2.1) e2 (by omega) q3) (fun M3 h3 => ?_)
  iterate 3 refine am_wp_step _ rfl ?_
  refine ⟨Or.inl rfl, ?_⟩
  have e : am_up M3 26 0 0 9 0 = M3 := am_up_id h3.2.2.2.1
  show am_wp (am_cl am_cds (D + 8)) am_c174 _ 53 [(0, .inr (.inr (26, 0, 0))), (1, .inl (h a))] [] (am_S (am_up M3 26 0 0 9 0))
  rw [e]
  refine m_signE ⟨rfl, _, rfl, fm_tr (fm_tr (fm_tr g1 k2.1) h3.1) (fm_26 (by omega)), ?_⟩
  show MS (am_up M3 26 0 0 7 (M3 26 0 0 7 - 1)) (b + 1) o (E ++ E0)
  rw [h3.2.2.1, nI_pred o]
  exact m_up7 h3.2 o
theorem m_brC {u N : Nat} {h : Nat → Int32} (H : TXT h N) (hN : N ≤ 50) (d o a b : Nat) (E : List Int32) (q : h a = 40) (q2 : o < 5) (p : PP h (nmU u) d 1 (o + 1) (a + 1) true b E) (q3 : h b ≠ 41) (ih : mLv u N h d 1 (o + 1) (a + 1) true b E) : mLv u N h (d + 1) 6 o a false b E := by
  intro D M E0 hD ho ha hE hX hS
  obtain ⟨D, rfl⟩ : ∃ D', D = D' + 9 := ⟨D - 9, by omega⟩
  have hla := TXT_lt H (a := a) (by rw [q]; decide)
  have hb := PP_bd H p (by omega)
  refine am_cl_v (fun M3 => mRes M M3 false b o (E ++ E0)) am_c174 rfl ?_
  refine m_sign hX hN ha q2 hS (.inr q) (fun M1 g1 g2 => ?_)
  iterate 3 refine am_wp_step _ rfl ?_
  refine am_iteT (show h a ≠ 33 by rw [q]; decide) ?_
  iterate 2 refine am_wp_step _ rfl ?_
  obtain ⟨M2, k1, k2⟩ := ih (D + 8) M1 E0 (by omega) (by omega) (by omega) (by omega) (TX_fm hX g1) g2
  have k1 : am_cl am_cds (D + 8) 168 [.inr (.inr (26, 0, 0))] (am_S M1) none (am_S M2) := k1
  refine ⟨_, k1, ?_⟩
  have e2 : MS M2 b (o + 1) (E ++ E0) := k2.2
  iterate 4 refine am_wp_step _ rfl ?_
  refine ⟨_, _, m_takesF (TX_fm (TX_fm hX g1) k2.1) e2 (by omega) q3, ?_⟩
  iterate 4 refine am_wp_step _ rfl ?_
  refine ⟨Or.inr rfl, ?_⟩
  refine m_signE ⟨rfl, _, rfl, fm_tr (fm_tr (fm_tr g1 k2.1) (fm_26 (by omega))) (fm_26 (by omega)), ?_⟩
  exact ⟨(am_up_s (by decide)).trans ((am_up_s (by decide)).trans e2.1), (am_up_s (by decide)).trans am_up_same⟩
theorem m_brF {u N : Nat} {h : Nat → Int32} (H : TXT h N) (hN : N ≤ 50) (d o a b : Nat) (E : List Int32) (q : h a = 40) (q2 : o < 5) (ih : mLv u N h d 1 (o + 1) (a + 1) false b E) : mLv u N h (d + 1) 6 o a false b E := by
  intro D M E0 hD ho ha hE hX hS
  obtain ⟨D, rfl⟩ : ∃ D', D = D' + 9 := ⟨D - 9, by omega⟩
  have hla := TXT_lt H (a := a) (by rw [q]; decide)
  refine am_cl_v (fun M3 => mRes M M3 false b o (E ++ E0)) am_c174 rfl ?_
  refine m_sign hX hN ha q2 hS (.inr q) (fun M1 g1 g2 => ?_)
  iterate 3 refine am_wp_step _ rfl ?_
  refine am_iteT (show h a ≠ 33 by rw [q]; decide) ?_
  iterate 2 refine am_wp_step _ rfl ?_
  obtain ⟨M2, k1, k2⟩ := ih (D + 8) M1 E0 (by omega) (by omega) (by omega) (by omega) (TX_fm hX g1) g2
  have k1 : am_cl am_cds (D + 8) 168 [.inr (.inr (26, 0, 0))] (am_S M1) none (am_S M2) := k1
  refine ⟨_, k1, ?_⟩
  have e2 : MW M2 b := k2.2
  iterate 4 refine am_wp_step _ rfl ?_
  refine ⟨_, _, m_takesW e2.2 (by decide), ?_⟩
  iterate 4 refine am_wp_step _ rfl ?_
  refine ⟨Or.inr rfl, ?_⟩
  refine m_signE ⟨rfl, _, rfl, fm_tr (fm_tr (fm_tr g1 k2.1) (fm_26 (by omega))) (fm_26 (by omega)), ?_⟩
  exact ⟨(am_up_s (by decide)).trans ((am_up_s (by decide)).trans e2.1), (am_up_s (by decide)).trans am_up_same⟩
/-- to the place after the two signs -/
theorem m_no {D u a o N : Nat} {h : Nat → Int32} {M : am_F} {E : List Int32} {Q : Option am_V → am_M → Prop} (hX : TX M u h N) (hN : N ≤ 50) (ha : a ≤ N) (hS : MS M a o E) (q : h a ≠ 33) (q2 : h a ≠ 40) (K : am_wp (am_cl am_cds (D + 8)) am_c174 Q 60 [(0, .inr (.inr (26, 0, 0))), (1, .inl (h a))] [] (am_S M)) : am_wp (am_cl am_cds (D + 8)) am_c174 Q 0 [(0, .inr (.inr (26, 0, 0)))] [] (am_S M) := by
  iterate 2 refine am_wp_step _ rfl ?_
  refine ⟨_, _, m_here _ u a N h M hX hS.1 hS.2.2.1 (by omega), ?_⟩
  iterate 4 refine am_wp_step _ rfl ?_
  refine am_iteF q ?_
  iterate 3 refine am_wp_step _ rfl ?_
  exact am_iteT q2 K
theorem m_nam {u N : Nat} {h : Nat → Int32} (H : TXT h N) (hN : N ≤ 50) (d o a : Nat) (q : h a ≠ 33) (q2 : h a ≠ 40) (q3 : ¬ isDg (h a)) (q4 : 0 ≤ h a) (q5 : 0 ≤ nmU u (h a)) : mLv u N h (d + 1) 6 o a true (a + 1) [10000 + nmU u (h a)] := by
  intro D M E0 hD ho ha hE hX hS
  obtain ⟨D, rfl⟩ : ∃ D', D = D' + 9 := ⟨D - 9, by omega⟩
  refine am_cl_v (fun M3 => mRes M M3 true (a + 1) o ([10000 + nmU u (h a)] ++ E0)) am_c174 rfl ?_
  refine m_no hX hN ha hS q q2 ?_
  iterate 4 refine am_wp_step _ rfl ?_
  refine ⟨_, _, cl_f (show ¬ (48 ≤ h a ∧ h a ≤ 57) from q3) (m_within _ _ _ _ _), ?_⟩
  iterate 3 refine am_wp_step _ rfl ?_
  refine am_iteT q4 ?_
  iterate 3 refine am_wp_step _ rfl ?_
  refine ⟨_, _, m_nameOf _ u (h a) M hX.2.2.2.2.2 hX.2.2.2.2.1, ?_⟩
  iterate 5 refine am_wp_step _ rfl ?_
  refine am_iteF (show ¬ M 26 0 0 9 ≠ 0 from fun w => w hS.2.2.1) ?_
  iterate 2 refine am_wp_step _ rfl ?_
  refine am_iteT q5 ?_
  iterate 2 refine am_wp_step _ rfl ?_
  refine ⟨Or.inl rfl, ?_⟩
  have e : am_up M 26 0 0 9 0 = M := am_up_id hS.2.2.1
  show am_wp (am_cl am_cds (D + 8)) am_c174 _ 117 [(0, .inr (.inr (26, 0, 0))), (1, .inl (h a)), (2, .inl (nmU u (h a)))] [] (am_S (am_up M 26 0 0 9 0))
  rw [e]
  iterate 3 refine am_wp_step _ rfl ?_
  refine am_iteF (show ¬ M 26 0 0 9 ≠ 0 from fun w => w hS.2.2.1) ?_
  iterate 5 refine am_wp_step _ rfl ?_
  refine am_call0 (m_codes (v := 10000 + nmU u (h a)) hS (by omega)) (fun M3 h3 => ?_)
  iterate 7 refine am_wp_step _ rfl ?_
  refine ⟨rfl, _, rfl, fm_tr h3.1 (fm_26 (by omega)), ?_⟩
  show MS (am_up M3 26 0 0 6 (M3 26 0 0 6 + 1)) (a + 1) o ((10000 + nmU u (h a)) :: E0)
  rw [h3.2.1, nI_1]
  exact ⟨am_up_same, (am_up_s (by decide)).trans h3.2.2.1, (am_up_s (by decide)).trans h3.2.2.2.1, (am_up_s (by decide)).trans h3.2.2.2.2.1, by rw [am_up_r (by decide)]; exact h3.2.2.2.2.2⟩
theorem m_bad {u N : Nat} {h : Nat → Int32} (hN : N ≤ 50) (d o a : Nat) (q : h a ≠ 33) (q2 : h a ≠ 40) (q3 : ¬ isDg (h a)) (q4 : h a < 0 ∨ nmU u (h a) < 0) : mLv u N h (d + 1) 6 o a false a [] := by
  intro D M E0 hD ho ha hE hX hS
  obtain ⟨D, rfl⟩ : ∃ D', D = D' + 9 := ⟨D - 9, by omega⟩
  refine am_cl_v (fun M3 => mRes M M3 false a o ([] ++ E0)) am_c174 rfl ?_
  refine m_no hX hN ha hS q q2 ?_
  iterate 4 refine am_wp_step _ rfl ?_
  refine ⟨_, _, cl_f (show ¬ (48 ≤ h a ∧ h a ≤ 57) from q3) (m_within _ _ _ _ _), ?_⟩
  iterate 3 refine am_wp_step _ rfl ?_
  have K : ∀ x : Int32, x < 0 → am_wp (am_cl am_cds (D + 8)) am_c174 (mQ M false a o ([] ++ E0)) 107 [(0, .inr (.inr (26, 0, 0))), (1, .inl (h a)), (2, .inl x)] [] (am_S M) := by
    intro x hx
    iterate 4 refine am_wp_step _ rfl ?_
    refine am_iteF (show ¬ M 26 0 0 9 ≠ 0 from fun w => w hS.2.2.1) ?_
    iterate 2 refine am_wp_step _ rfl ?_
    refine am_iteF (Int32.not_le.mpr hx) ?_
    iterate 3 refine am_wp_step _ rfl ?_
    refine ⟨Or.inr rfl, ?_⟩
    iterate 3 refine am_wp_step _ rfl ?_
    iterate 1 refine am_wp_step _ rfl ?_
    exact ⟨rfl, _, rfl, fm_26 (by omega), (by rw [am_up_s (by decide)]; exact hS.1 : am_up M 26 0 0 9 1 26 0 0 6 = nI a), am_up_same⟩
  by_cases c : h a < 0
  · refine am_iteF (Int32.not_le.mpr c) ?_
    iterate 3 refine am_wp_step _ rfl ?_
    exact K (-1) (by decide)
  · refine am_iteT (Int32.not_lt.mp c) ?_
    iterate 3 refine am_wp_step _ rfl ?_
    refine ⟨_, _, m_nameOf _ u (h a) M hX.2.2.2.2.2 hX.2.2.2.2.1, ?_⟩
    iterate 1 refine am_wp_step _ rfl ?_
    exact K _ (by rcases q4 with q4 | q4; exact absurd q4 c; exact q4)
theorem m_num {u N : Nat} {h : Nat → Int32} (H : TXT h N) (hN : N ≤ 50) (d o a k : Nat) (q : DG h a k) (q2 : 0 < k) : mLv u N h (d + 1) 6 o a true (a + k) [nvl h a k] := by
  intro D M E0 hD ho ha hE hX hS
  obtain ⟨D, rfl⟩ : ∃ D', D = D' + 9 := ⟨D - 9, by omega⟩
  have q0 : isDg (h a) := q.1 0 q2
  have hk4 := q.2.1
  have hak : a + k ≤ N := by
    have := TXT_lt H (a := a + (k - 1)) (Int32.le_trans (by decide) (q.1 (k - 1) (by omega)).1)
    omega
  refine am_cl_v (fun M3 => mRes M M3 true (a + k) o ([nvl h a k] ++ E0)) am_c174 rfl ?_
  refine m_no hX hN ha hS (fun w => by rw [w] at q0; exact absurd q0 (by unfold isDg; decide)) (fun w => by rw [w] at q0; exact absurd q0 (by unfold isDg; decide)) ?_
  iterate 4 refine am_wp_step _ rfl ?_
  refine ⟨_, _, cl_t (show 48 ≤ h a ∧ h a ≤ 57 from q0) (m_within _ _ _ _ _), ?_⟩
  iterate 5 refine am_wp_step _ rfl ?_
  have hloop : ∀ (j : Nat) (M1 : am_F), j ≤ k → fm M M1 → MS M1 (a + j) o E0 → am_wp (am_cl am_cds (D + 8)) am_c174 (mQ M true (a + k) o ([nvl h a k] ++ E0)) 69 [(0, .inr (.inr (26, 0, 0))), (1, .inl (h a)), (2, .inl (nvl h a j)), (3, .inl (nI j))] [] (am_S M1) := by
    intro j
    induction hk : k - j generalizing j with
    | zero =>
      intro M1 hj hf h1
      have hj : j = k := by omega
      subst hj
      have K : am_wp (am_cl am_cds (D + 8)) am_c174 (mQ M true (a + j) o ([nvl h a j] ++ E0)) 95 [(0, .inr (.inr (26, 0, 0))), (1, .inl (h a)), (2, .inl (nvl h a j)), (3, .inl (nI j))] [] (am_S M1) := by
        iterate 3 refine am_wp_step _ rfl ?_
        refine am_call0 (m_codes (v := nvl h a j) h1 (by omega)) (fun M3 h3 => ?_)
        iterate 2 refine am_wp_step _ rfl ?_
        exact ⟨rfl, M3, rfl, fm_tr hf h3.1, h3.2⟩
      iterate 3 refine am_wp_step _ rfl ?_
      by_cases c : j = 4
      · exact am_iteT (show (4 : Int32) ≤ nI j by rw [c]; decide) K
      · refine am_iteF (show ¬ nI 4 ≤ nI j from nI_ge (by omega) (by decide)) ?_
        iterate 2 refine am_wp_step _ rfl ?_
        refine ⟨_, _, m_here _ u (a + j) N h M1 (TX_fm hX hf) h1.1 h1.2.2.1 (by omega), ?_⟩
        iterate 3 refine am_wp_step _ rfl ?_
        refine ⟨_, _, cl_f (show ¬ (48 ≤ h (a + j) ∧ h (a + j) ≤ 57) from q.2.2 (by omega)) (m_within _ _ _ _ _), ?_⟩
        iterate 1 refine am_wp_step _ rfl ?_
        exact K
    | succ l ih =>
      intro M1 hj hf h1
      iterate 3 refine am_wp_step _ rfl ?_
      refine am_iteF (show ¬ nI 4 ≤ nI j from nI_ge (by omega) (by decide)) ?_
      iterate 2 refine am_wp_step _ rfl ?_
      refine ⟨_, _, m_here _ u (a + j) N h M1 (TX_fm hX hf) h1.1 h1.2.2.1 (by omega), ?_⟩
      iterate 3 refine am_wp_step _ rfl ?_
      refine ⟨_, _, cl_t (show 48 ≤ h (a + j) ∧ h (a + j) ≤ 57 from q.1 j (by omega)) (m_within _ _ _ _ _), ?_⟩
      iterate 6 refine am_wp_step _ rfl ?_
      refine ⟨_, _, m_here _ u (a + j) N h M1 (TX_fm hX hf) h1.1 h1.2.2.1 (by omega), ?_⟩
      iterate 12 refine am_wp_step _ rfl ?_
      have e1 : 10 * nvl h a j + h (a + j) - 48 = nvl h a (j + 1) := by
        show _ = nvl h a j * 10 + h (a + j) - 48
        rw [Int32.mul_comm]
      have e2 : am_up M1 26 0 0 6 (M1 26 0 0 6 + 1) = am_up M1 26 0 0 6 (nI (a + (j + 1))) := by rw [h1.1, nI_1]; rfl
      show am_wp (am_cl am_cds (D + 8)) am_c174 (mQ M true (a + k) o ([nvl h a k] ++ E0)) 69 [(0, .inr (.inr (26, 0, 0))), (1, .inl (h a)), (2, .inl (10 * nvl h a j + h (a + j) - 48)), (3, .inl (nI j + 1))] [] (am_S (am_up M1 26 0 0 6 (M1 26 0 0 6 + 1)))
      rw [e1, e2, nI_1]
      refine ih (j + 1) (by omega) _ (by omega) (fm_tr hf (fm_26 (by omega))) ?_
      exact ⟨am_up_same, (am_up_s (by decide)).trans h1.2.1, (am_up_s (by decide)).trans h1.2.2.1, (am_up_s (by decide)).trans h1.2.2.2.1, by rw [am_up_r (by decide)]; exact h1.2.2.2.2⟩
  exact hloop 0 M (Nat.zero_le _) (fm_rf M) hS
theorem m_all {u N : Nat} {h : Nat → Int32} (H : TXT h N) (hN : N ≤ 50) {d n o a : Nat} {ok : Bool} {b : Nat} {E : List Int32} (p : PP h (nmU u) d n o a ok b E) : (1 ≤ n → n ≤ 6 → mLv u N h d n o a ok b E) ∧ (11 ≤ n → mLp u N h d (n - 10) o a ok b E) := by
  refine PP_ind (fun d n o a ok b E => (1 ≤ n → n ≤ 6 → mLv u N h d n o a ok b E) ∧ (11 ≤ n → mLp u N h d (n - 10) o a ok b E)) ?_ ?_ ?_ ?_ ?_ ?_ ?_ ?_ ?_ ?_ ?_ ?_ ?_ ?_ ?_ p
  · exact fun d a q => ⟨fun _ _ => m_deep hN d a q, fun _ => by omega⟩
  · exact fun d o a b E q q2 p ih => ⟨fun _ _ => m_notT H hN d o a b E q q2 p (ih.1 (by omega) (by omega)), fun _ => by omega⟩
  · exact fun d o a b E q q2 p ih => ⟨fun _ _ => m_notF H hN d o a b E q q2 (ih.1 (by omega) (by omega)), fun _ => by omega⟩
  · exact fun d o a b E q q2 p q3 ih => ⟨fun _ _ => m_brT H hN d o a b E q q2 p q3 (ih.1 (by omega) (by omega)), fun _ => by omega⟩
  · exact fun d o a b E q q2 p q3 ih => ⟨fun _ _ => m_brC H hN d o a b E q q2 p q3 (ih.1 (by omega) (by omega)), fun _ => by omega⟩
  · exact fun d o a b E q q2 p ih => ⟨fun _ _ => m_brF H hN d o a b E q q2 (ih.1 (by omega) (by omega)), fun _ => by omega⟩
  · exact fun d o a k q q2 => ⟨fun _ _ => m_num H hN d o a k q q2, fun _ => by omega⟩
  · exact fun d o a q q2 q3 q4 q5 => ⟨fun _ _ => m_nam H hN d o a q q2 q3 q4 q5, fun _ => by omega⟩
  · exact fun d o a q q2 q3 q4 => ⟨fun _ _ => m_bad hN d o a q q2 q3 q4, fun _ => by omega⟩
  · exact fun d n o a b ok c E F q q2 p p2 ih ih2 => ⟨fun _ _ => m_bT H hN d n o a b ok c E F q q2 p (ih.1 (by omega) (by omega)) (by have := ih2.2 (by omega); rwa [show 10 + n - 10 = n from by omega] at this), fun _ => by omega⟩
  · exact fun d n o a b E q q2 p ih => ⟨fun _ _ => m_bF d n o a b E q q2 (ih.1 (by omega) (by omega)), fun _ => by omega⟩
  · exact fun d n o a q q2 q3 => ⟨fun _ _ => by omega, fun _ => by rw [show 10 + n - 10 = n from by omega]; exact m_lE hN d n o a q q2 q3⟩
  · exact fun d n o a b ok c E F q q2 q3 q4 p p2 ih ih2 => ⟨fun _ _ => by omega, fun _ => by
      have i2 := ih2.2 (by omega)
      rw [show 10 + n - 10 = n from by omega] at i2 ⊢
      exact m_lT H hN d n o a b ok c E F q q2 q3 q4 p (ih.1 (by omega) (by omega)) i2⟩
  · exact fun d o a b E q4 p ih => ⟨fun _ _ => by omega, fun _ => m_l3 H hN d o a b E q4 p (ih.1 (by omega) (by omega))⟩
  · exact fun d n o a b E q q2 q4 p ih => ⟨fun _ _ => by omega, fun _ => by
      rw [show 10 + n - 10 = n from by omega]
      exact m_lF H hN d n o a b E q q2 q4 (ih.1 (by omega) (by omega))⟩
