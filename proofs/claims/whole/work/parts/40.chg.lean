/-! CALLS THAT CHANGE WHAT IS -/
def cN (M M1 : am_F) : Prop := ∀ r bb, ¬ ((r = 16 ∨ r = 17 ∨ r = 18 ∨ r = 28 ∨ r = 29 ∨ r = 20) ∧ (bb = 0 ∨ bb = 2)) → ¬ ((r = 21 ∨ r = 27) ∧ (bb ≤ 5 ∨ bb = 12 ∨ bb = 13)) → r ≠ 30 → r ≠ 19 → r ≠ 23 → M1 r bb = M r bb
theorem cN_tr {M M1 M2 : am_F} (h1 : cN M M1) (h2 : cN M1 M2) : cN M M2 := fun r bb a b c d e => (h2 r bb a b c d e).trans (h1 r bb a b c d e)
theorem cN_r {M M' : am_F} (h : cN M M') (r : Nat) (hr : r = 0 ∨ r = 22 ∨ r = 24 ∨ r = 25 ∨ r = 26 ∨ r = 31 ∨ r = 32 ∨ r = 33) : M' r = M r := by
  funext bb
  exact h r bb (by omega) (by omega) (by omega) (by omega) (by omega)
def kN (M1 M2 : am_F) : Prop := kM M1 M2 ∧ (∀ bb, bb = 1 ∨ bb = 3 ∨ 8 ≤ bb → M2 33 bb = M1 33 bb) ∧ M2 26 0 0 3 = M1 26 0 0 3 ∧ M2 26 0 0 16 = M1 26 0 0 16
theorem RC_w {M M1 M2 : am_F} (hR : RC M M) (f1 : cN M M1) (f2 : kN M1 M2) (h : RR M1 0 (M2 33 0 0)) : RC M1 M2 := by
  obtain ⟨q1, q2, q3, q4, q5, q6, q7, q8⟩ := hR
  have e1 := cN_r f1 33 (by omega)
  have e2 := cN_r f1 26 (by omega)
  obtain ⟨-, g2, g3, g4⟩ := f2
  rw [e1] at g2
  rw [e2] at g3 g4
  unfold RC
  rw [g3, g4, g2 1 (by omega), g2 3 (by omega), g2 8 (by omega), g2 9 (by omega), g2 10 (by omega), g2 11 (by omega), cN_r f1 25 (by omega)]
  refine ⟨h, q2.imp id (RR_cg (fun r hr => f1 r 1 (by omega) (by omega) (by omega) (by omega) (by omega)) (fun bb hb => ⟨f1 21 bb (by omega) (by omega) (by omega) (by omega) (by omega), f1 27 bb (by omega) (by omega) (by omega) (by omega) (by omega)⟩)), q3, ?_, RW_cg (f1 21 14 (by omega) (by omega) (by omega) (by omega) (by omega)) (f1 27 14 (by omega) (by omega) (by omega) (by omega) (by omega)) q5, ?_, TC_cg (cN_r f1 24 (by omega)) q7, q8⟩
  · unfold RE at *
    rw [cN_r f1 32 (by omega)]
    exact q4
  · unfold RS at *
    rw [cN_r f1 22 (by omega), cN_r f1 31 (by omega)]
    exact q6
theorem JJ_w {M M1 M2 : am_F} {y ym : Nat} {as : List am_V} {v : Int32} (hR : RC M M) (c1 : am_cl am_cds 1000 y (.inr (.inr (25, 0, 0)) :: as) (am_S M) (some (.inl v)) (am_S M1)) (c2 : am_cl am_cds 1000 ym (.inr (.inr (26, 0, 0)) :: as) (am_S M1) (some (.inl v)) (am_S M2)) (f1 : cN M M1) (f2 : kN M1 M2) (h : RR M1 0 (M2 33 0 0)) : ∃ v M1 M2, am_cl am_cds 1000 y (.inr (.inr (25, 0, 0)) :: as) (am_S M) (some (.inl v)) (am_S M1) ∧ am_cl am_cds 1000 ym (.inr (.inr (26, 0, 0)) :: as) (am_S M1) (some (.inl v)) (am_S M2) ∧ RC M2 M2 ∧ M2 0 = M 0 ∧ M1 0 = M 0 :=
  JJ_u c1 c2 (RC_w hR f1 f2 h) f2.1 NQ_rf (cN_r f1 0 (by omega))
def FX (M M' : am_F) : Prop := ∀ r bb, ¬ ((r = 16 ∨ r = 17 ∨ r = 18 ∨ r = 28 ∨ r = 29) ∧ bb = 0) → ¬ ((r = 21 ∨ r = 27) ∧ (bb = 1 ∨ bb = 3)) → M' r bb = M r bb
theorem FX_rf {M : am_F} : FX M M := fun _ _ _ _ => rfl
theorem FX_tr {M M1 M2 : am_F} (h1 : FX M M1) (h2 : FX M1 M2) : FX M M2 := fun r bb a b => (h2 r bb a b).trans (h1 r bb a b)
theorem FX_up {M : am_F} {r i s : Nat} {x : Int32} (h : r = 16 ∨ r = 17 ∨ r = 18 ∨ r = 28 ∨ r = 29) : FX M (am_up M r 0 i s x) := fun r' bb h1 _ => am_up_rb (fun q => h1 ⟨by rw [q.1]; exact h, q.2⟩)
theorem FX_FB {M M' : am_F} (h : FB 0 M M') : FX M M' := fun r bb a b => h r bb a (by omega)
theorem FX_fO {M M' : am_F} (h : fO M M' 29 0) : FX M M' := fun r bb a b => h r bb (by omega)
theorem FX_rw {M M' : am_F} {q : Nat} (h : rwF M M' q) (hq : q = 1 ∨ q = 3) : FX M M' := fun r bb a b => h r bb (by omega)
theorem cN_FX {M M' : am_F} (h : FX M M') : cN M M' := fun r bb a b _ _ _ => h r bb (by omega) (by omega)
def kB (M1 M2 : am_F) : Prop := ∀ r bb, ¬ (r = 33 ∧ (bb = 0 ∨ bb = 2 ∨ bb = 4 ∨ bb = 5 ∨ bb = 6 ∨ bb = 7)) → M2 r bb = M1 r bb
theorem kB_rf {M : am_F} : kB M M := fun _ _ _ => rfl
theorem kB_tr {M M1 M2 : am_F} (h1 : kB M M1) (h2 : kB M1 M2) : kB M M2 := fun r bb a => (h2 r bb a).trans (h1 r bb a)
theorem kB_up {M : am_F} {s : Nat} {x : Int32} : kB M (am_up M 33 0 0 s x) := fun r bb h => am_up_rb (by omega)
theorem kB_G {M M' : am_F} (h : mG M M') : kB M M' := fun r bb h' => h r bb (by omega)
theorem kB_B {M M' : am_F} (h : mB M M') : kB M M' := fun r bb h' => h r bb (by omega)
theorem kB_7 {M M' : am_F} (h : fO M M' 33 7) : kB M M' := fun r bb h' => h r bb (by omega)
theorem kN_B {M M' : am_F} (h : kB M M') : kN M M' := ⟨fun r _ h2 => funext fun bb => h r bb (by omega), fun bb hb => h 33 bb (by omega), by rw [h 26 0 (by omega)], by rw [h 26 0 (by omega)]⟩
theorem RR_b {M M1 : am_F} {n m : Nat} {a a' : Nat → Int32} (hR : RR M 0 a) (hF : FX M M1) (hG : GA n m a') (hB : RB M1 0 n m (odr a' n) a') (hab : M1 16 0 0 7 = -1) (hbl : 0 ≤ a' 0 ∧ a' 0 ≤ 9999) (hs : ∀ c, c = 3 ∨ c = 4 ∨ c = 5 ∨ 114 ≤ c → a' c = a c) : RR M1 0 a' := by
  obtain ⟨n0, m0, q1, q2, q3, q4, q5, q6, q7, q8, q9, q10, q11⟩ := hR
  have ht : tx a' = tx a := tx_of fun c hc => hs c (by omega)
  refine ⟨n, m, hG, hB, hab, ?_, ?_, ?_, ?_, ?_, hbl, ?_, ?_⟩
  · rw [ht]; exact RT_cg2 (hF 21 _ (by omega) (by omega)) (hF 27 _ (by omega) (by omega)) q4
  · rw [ht]; exact RT_cg2 (hF 21 _ (by omega) (by omega)) (hF 27 _ (by omega) (by omega)) q5
  · rw [hs 3 (by omega), show (fun j => a' (114 + j)) = (fun j => a (114 + j)) from funext fun j => hs _ (by omega)]
    exact RW_cg (hF 21 _ (by omega) (by omega)) (hF 27 _ (by omega) (by omega)) q6
  · rw [hs 4 (by omega), show (fun j => a' (164 + j)) = (fun j => a (164 + j)) from funext fun j => hs _ (by omega)]
    exact RW_cg (hF 21 _ (by omega) (by omega)) (hF 27 _ (by omega) (by omega)) q7
  · rw [hF 20 0 (by omega) (by omega), q8, hs 5 (by omega)]
  · intro k h1 h2 j hj
    rw [hs 3 (by omega)] at h1
    rw [hs (114 + j) (by omega)]
    exact q10 k h1 h2 j hj
  · intro k hk
    rw [hs k (by omega)]
    exact q11 k hk
theorem JJ_b {M M1 M2 : am_F} {y ym n m : Nat} {a a' : Nat → Int32} {as : List am_V} {v : Int32} (hR : RC M M) (ha : M 33 0 0 = a) (c1 : am_cl am_cds 1000 y (.inr (.inr (25, 0, 0)) :: as) (am_S M) (some (.inl v)) (am_S M1)) (c2 : am_cl am_cds 1000 ym (.inr (.inr (26, 0, 0)) :: as) (am_S M1) (some (.inl v)) (am_S M2)) (hF : FX M M1) (hk : kB M1 M2) (h2 : M2 33 0 0 = a') (hG : GA n m a') (hB : RB M1 0 n m (odr a' n) a') (hab : M1 16 0 0 7 = -1) (hbl : 0 ≤ a' 0 ∧ a' 0 ≤ 9999) (hs : ∀ c, c = 3 ∨ c = 4 ∨ c = 5 ∨ 114 ≤ c → a' c = a c) : ∃ v M1 M2, am_cl am_cds 1000 y (.inr (.inr (25, 0, 0)) :: as) (am_S M) (some (.inl v)) (am_S M1) ∧ am_cl am_cds 1000 ym (.inr (.inr (26, 0, 0)) :: as) (am_S M1) (some (.inl v)) (am_S M2) ∧ RC M2 M2 ∧ M2 0 = M 0 ∧ M1 0 = M 0 := by
  refine JJ_w hR c1 c2 (cN_FX hF) (kN_B hk) ?_
  rw [h2]
  subst ha
  exact RR_b hR.1 hF hG hB hab hbl hs
def okG (k : Nat) (v : Int32) : Prop := (k = 0 → 0 ≤ v ∧ v ≤ 6) ∧ (k = 2 → 0 ≤ v ∧ v ≤ 3) ∧ (k = 3 → 0 ≤ v ∧ v ≤ 9) ∧ (k = 5 → 0 ≤ v ∧ v ≤ 2) ∧ (k = 6 → 0 ≤ v ∧ v ≤ 9999)
def okH (k : Nat) (v : Int32) : Prop := (k = 2 → 0 ≤ v ∧ v ≤ 99) ∧ (k = 3 → 0 ≤ v ∧ v ≤ 3) ∧ (k = 4 → -1 ≤ v ∧ v ≤ 2)
theorem GA_fu {n m c : Nat} {a : Nat → Int32} {v : Int32} (hc : 6 ≤ c) (hc2 : c < 10) (h : GA n m a) : GA n m (fu a c v) := by
  obtain ⟨hn, hm, h1, h2, h3, h4, h5, h6⟩ := h
  have ht : tx (fu a c v) = tx a := tx_of fun c hc => fu_ne (by omega)
  have e : ∀ q, 10 ≤ q → fu a c v q = a q := fun q hq => fu_ne (by omega)
  refine ⟨hn, hm, (fu_ne (by omega)).trans h1, (fu_ne (by omega)).trans h2, fun i hi => ?_, fun j hj => ?_, by rw [ht]; exact h5, by rw [ht]; exact h6⟩
  · rw [e _ (by omega), e _ (by omega), e _ (by omega), e _ (by omega), e _ (by omega)]
    exact h3 i hi
  · rw [e _ (by omega), e _ (by omega), e _ (by omega)]
    exact h4 j hj
theorem GA_g {n m i k : Nat} {a : Nat → Int32} {v : Int32} (hi : i < n) (hk : k < 8) (ok : okG k v) (h : GA n m a) : GA n m (fu a (10 + 8 * i + k) v) := by
  obtain ⟨hn, hm, h1, h2, h3, h4, h5, h6⟩ := h
  have ht : tx (fu a (10 + 8 * i + k) v) = tx a := tx_of fun c hc => fu_ne (by omega)
  refine ⟨hn, hm, (fu_ne (by omega)).trans h1, (fu_ne (by omega)).trans h2, fun j hj => ?_, fun j hj => ?_, by rw [ht]; exact h5, by rw [ht]; exact h6⟩
  · have h7 := h3 j hj
    unfold okG at ok
    unfold fu
    clear h3 h4 h5 h6 ht
    grind (splits := 40)
  · have e : ∀ q, fu a (10 + 8 * i + k) v (74 + 5 * j + q) = a (74 + 5 * j + q) := fun q => fu_ne (by omega)
    rw [e, e, e]
    exact h4 j hj
theorem GA_h {n m i k : Nat} {a : Nat → Int32} {v : Int32} (hi : i < m) (hk : k < 5) (ok : okH k v) (h : GA n m a) : GA n m (fu a (74 + 5 * i + k) v) := by
  obtain ⟨hn, hm, h1, h2, h3, h4, h5, h6⟩ := h
  have ht : tx (fu a (74 + 5 * i + k) v) = tx a := tx_of fun c hc => fu_ne (by omega)
  refine ⟨hn, hm, (fu_ne (by omega)).trans h1, (fu_ne (by omega)).trans h2, fun j hj => ?_, fun j hj => ?_, by rw [ht]; exact h5, by rw [ht]; exact h6⟩
  · have e : ∀ q, q < 8 → fu a (74 + 5 * i + k) v (10 + 8 * j + q) = a (10 + 8 * j + q) := fun q hq => fu_ne (by omega)
    rw [e 0 (by omega), e 2 (by omega), e 3 (by omega), e 5 (by omega), e 6 (by omega)]
    exact h3 j hj
  · have h7 := h4 j hj
    unfold okH at ok
    unfold fu
    clear h3 h4 h5 h6 ht
    grind (splits := 40)
theorem odr_h {n i k : Nat} {a : Nat → Int32} {v : Int32} (hn : n ≤ 8) : odr (fu a (74 + 5 * i + k) v) n = odr a n := odr_cg fun j hj => fu_ne (by omega)
theorem odr_g {n i k : Nat} {a : Nat → Int32} {v : Int32} (hk : k < 8) (h3 : k ≠ 3) : odr (fu a (10 + 8 * i + k) v) n = odr a n := odr_cg fun j hj => fu_ne (by omega)
theorem odr_u {n c : Nat} {a : Nat → Int32} {v : Int32} (hc : c < 10) : odr (fu a c v) n = odr a n := odr_cg fun j hj => fu_ne (by omega)
theorem fu_comm {a : Nat → Int32} {j k : Nat} {u v : Int32} (h : j ≠ k) : fu (fu a j u) k v = fu (fu a k v) j u := by
  funext q
  unfold fu
  grind
theorem m_putIn (d k : Nat) (x v : Int32) (M : am_F) (hx : x = nI k) (hk : k < 288) : am_cl am_cds (d + 1) 140 [.inr (.inr (26, 0, 0)), .inl x, .inl v] (am_S M) (some (.inl (M 33 0 0 k))) (am_S (am_up M 33 0 0 k v)) := by
  refine am_cl_in am_c140 rfl ?_
  repeat' first | refine am_wp_step _ rfl ?_ | refine am_iteB (fun h => ?_) (fun h => ?_) | refine am_iteN (fun h => ?_) (fun h => ?_) | refine am_ite (fun h => ?_) (fun h => ?_) | refine am_ixN (k) (hx) (show _ < 288 by omega) (show (288 : Nat) < 2 ^ 31 by decide) (fun e => ?_) | fail
  refine ⟨trivial, ?_, ?_⟩
  · rw [e]
  · rw [e]
theorem RB_srt {M M' : am_F} {b n m : Nat} {o : Nat → Nat} {a : Nat → Int32} (hB : RB M b n m o a) (hs : plN (M' 29 b 0) (so (fun j => M 18 b j 3) n)) (hf : fO M M' 29 b) : RB M' b n m (odr a n) a := by
  obtain ⟨b1, b2, b3, b4, b5, b6, b7⟩ := hB
  unfold RB
  rw [hf 16 b (by omega), hf 17 b (by omega), hf 18 b (by omega), hf 28 b (by omega)]
  refine ⟨b1, b2, b3, b4, b5, b6, fun i hi => ?_⟩
  rw [plN_at hs i (by rw [so_len]; exact hi)]
  unfold odr
  rw [so_cg (r := fun j => a (10 + 8 * j + 3)) (r' := fun j => M 18 b j 3) (fun j hj => b4 j 3 hj (by omega))]
/-- one of a dish's numbers changes -/
theorem JJ_h {M : am_F} {y ym n m i k : Nat} {a : Nat → Int32} {as : List am_V} {v w : Int32} (hR : RC M M) (ha : M 33 0 0 = a) (hG : GA n m a) (hB : RB M 0 n m (odr a n) a) (hab : M 16 0 0 7 = -1) (hbl : 0 ≤ a 0 ∧ a 0 ≤ 9999) (hi : i < m) (hk : k < 5) (ok : okH k w) (c1 : am_cl am_cds 1000 y (.inr (.inr (25, 0, 0)) :: as) (am_S M) (some (.inl v)) (am_S (am_up M 17 0 i k w))) (c2 : am_cl am_cds 1000 ym (.inr (.inr (26, 0, 0)) :: as) (am_S (am_up M 17 0 i k w)) (some (.inl v)) (am_S (am_up (am_up M 17 0 i k w) 33 0 0 (74 + 5 * i + k) w))) : ∃ v M1 M2, am_cl am_cds 1000 y (.inr (.inr (25, 0, 0)) :: as) (am_S M) (some (.inl v)) (am_S M1) ∧ am_cl am_cds 1000 ym (.inr (.inr (26, 0, 0)) :: as) (am_S M1) (some (.inl v)) (am_S M2) ∧ RC M2 M2 ∧ M2 0 = M 0 ∧ M1 0 = M 0 := by
  refine JJ_b (n := n) (m := m) hR ha c1 c2 (FX_up (by omega)) kB_up (a' := fu a (74 + 5 * i + k) w) ?_ (GA_h hi hk ok hG) ?_ ?_ ?_ ?_
  · rw [am_up_fu, am_up_r (by decide), ha]
  · rw [odr_h hG.1]
    exact RB_h hG.1 hi hk hB
  · rw [am_up_r (by decide)]
    exact hab
  · rw [fu_ne (by omega)]
    exact hbl
  · intro c hc
    have := hG.2.1
    exact fu_ne (by omega)
theorem jj_serve (x y : Int32) : JJ 83 160 [.inl x, .inl y] := by
  intro M hR
  obtain ⟨n, m, a, ha, hG, hB, hab, hT0, hT1, hW4, hW5, hz, hbl, hBY, h288, hTC⟩ := RC_get hR; have hn := hB.1; have hm := hB.2.1; have hn8 := hG.1; have hm8 := hG.2.1; have hX0 := hG.2.2.2.2.2.2.1; have hX1 := hG.2.2.2.2.2.2.2
  by_cases hg : isN x m ∧ -1 ≤ y ∧ y ≤ 2
  · obtain ⟨i, hi, rfl⟩ := isN_ex hg.1 (by omega)
    refine JJ_h (k := 4) (v := a (74 + 5 * i + 4)) hR ha hG hB hab hbl hi (by decide) (by unfold okH; exact ⟨fun q => by omega, fun q => by omega, fun _ => hg.2⟩) ?_ ?_
    · refine am_cl_in am_c83 rfl ?_
      iterate 3 refine am_wp_step _ rfl ?_
      refine ⟨_, _, cl_t hg.1 (c_isDish _ _ _ hm), ?_⟩
      iterate 5 refine am_wp_step _ rfl ?_
      refine ⟨_, _, cl_t hg.2 (c_within _ _ _ _ _), ?_⟩
      iterate 7 refine am_wp_step _ rfl ?_
      refine am_ixN (i) (rfl) (show _ < 8 by omega) (show (8 : Nat) < 2 ^ 31 by decide) (fun e => ?_); rw [e]
      iterate 9 refine am_wp_step _ rfl ?_
      refine ⟨trivial, ?_, rfl⟩
      rw [← RB_hv hi (by decide) hB]
      rfl
    · refine am_cl_in am_c160 rfl ?_
      have em : am_up M 17 0 i 4 y 33 0 0 2 = nI m := by rw [am_up_r (by decide), ha]; exact hG.2.2.2.1
      repeat' first | refine am_wp_step _ rfl ?_ | refine am_iteB (fun h => ?_) (fun h => ?_) | refine am_iteN (fun h => ?_) (fun h => ?_) | refine am_ite (fun h => ?_) (fun h => ?_) | refine ⟨_, _, cl_t hg.1 (m_isH _ _ _ em), ?_⟩ | refine ⟨_, _, cl_t hg.2 (m_within _ _ _ _ _), ?_⟩ | refine ⟨_, _, m_putIn _ (74 + 5 * i + 4) _ _ _ (by simp only [nI_lit, nI_add, nI_mul]) (by omega), ?_⟩ | fail
      refine ⟨trivial, ?_, rfl⟩
      rw [am_up_r (by decide), ha]
  · refine JJ_e (k := 1) (by decide) (by decide) hR ?_ (fun M1 e33 e26 => ?_)
    · refine am_cl_in am_c83 rfl ?_
      repeat' first | refine am_wp_step _ rfl ?_ | refine am_iteB (fun h => ?_) (fun h => ?_) | refine am_iteN (fun h => ?_) (fun h => ?_) | refine am_ite (fun h => ?_) (fun h => ?_) | refine ⟨_, _, c_isDead _ _ _ hn, ?_⟩ | refine ⟨_, _, c_isDish _ _ _ hm, ?_⟩ | refine ⟨_, _, c_within _ _ _ _ _, ?_⟩ | refine ⟨_, _, c_isKM _ _ _, ?_⟩ | refine ⟨_, _, c_isHouse _ _ _, ?_⟩ | refine ⟨_, _, c_isAhead _ _ _, ?_⟩ | refine ⟨_, _, c_isSheet _ _ _, ?_⟩ | refine ⟨_, _, c_mostOf _ _ _, ?_⟩ | refine ⟨_, _, c_err1 _ _, ?_⟩ | refine ⟨_, _, c_err2 _ _, ?_⟩ | refine ⟨_, _, c_err3 _ _, ?_⟩ | refine ⟨_, _, c_err4 _ _, ?_⟩ | refine ⟨_, _, c_err5 _ _, ?_⟩ | refine ⟨by decide, ?_⟩ | fail
      all_goals first | exact ⟨trivial, rfl, rfl⟩ | (exfalso; grind)
    · have ea : M1 33 0 0 = a := (by rw [e33]; exact ha); have en : M1 33 0 0 1 = nI n := (by rw [ea]; exact hG.2.2.1); have em : M1 33 0 0 2 = nI m := (by rw [ea]; exact hG.2.2.2.1)
      refine am_cl_in am_c160 rfl ?_
      repeat' first | refine am_wp_step _ rfl ?_ | refine am_iteB (fun h => ?_) (fun h => ?_) | refine am_iteN (fun h => ?_) (fun h => ?_) | refine am_ite (fun h => ?_) (fun h => ?_) | refine ⟨_, _, m_isD _ _ _ en, ?_⟩ | refine ⟨_, _, m_isH _ _ _ em, ?_⟩ | refine ⟨_, _, m_within _ _ _ _ _, ?_⟩ | refine ⟨_, _, m_isHouse _ _ _, ?_⟩ | refine ⟨_, _, m_isAhead _ _ _, ?_⟩ | refine ⟨_, _, m_isSheet _ _ _, ?_⟩ | refine ⟨_, _, m_find1 _ _, ?_⟩ | refine ⟨_, _, m_find2 _ _, ?_⟩ | refine ⟨_, _, m_find3 _ _, ?_⟩ | refine ⟨_, _, m_find4 _ _, ?_⟩ | refine ⟨_, _, m_find5 _ _, ?_⟩ | refine am_andv (by unfold vp_in; decide) ?_ | refine ⟨by decide, ?_⟩ | fail
      all_goals first | exact ⟨trivial, rfl, rfl⟩ | (exfalso; grind)
theorem c_mostOf (d : Nat) (x : Int32) (me : am_M) : am_cl am_cds (d + 1) 123 [.inl x] me (some (.inl (if x = 3 then 9 else if x = 4 then 5 else if x = 5 then 2 else 9999))) me := by
  refine am_cl_in am_c123 rfl ?_
  repeat' first | refine am_wp_step _ rfl ?_ | refine am_iteB (fun h => ?_) (fun h => ?_) | refine am_iteN (fun h => ?_) (fun h => ?_) | refine am_ite (fun h => ?_) (fun h => ?_) | fail
  all_goals
    refine ⟨trivial, ?_, rfl⟩
    grind
theorem jj_cook (x y z : Int32) : JJ 82 159 [.inl x, .inl y, .inl z] := by
  intro M hR
  obtain ⟨n, m, a, ha, hG, hB, hab, hT0, hT1, hW4, hW5, hz, hbl, hBY, h288, hTC⟩ := RC_get hR; have hn := hB.1; have hm := hB.2.1; have hn8 := hG.1; have hm8 := hG.2.1; have hX0 := hG.2.2.2.2.2.2.1; have hX1 := hG.2.2.2.2.2.2.2
  by_cases hg : isN x m ∧ ((y = 1 ∧ 0 ≤ z ∧ z ≤ 20) ∨ (y = 2 ∧ 0 ≤ z ∧ z ≤ 99))
  · obtain ⟨i, hi, rfl⟩ := isN_ex hg.1 (by omega)
    have em : ∀ k, am_up M 17 0 i k z 33 0 0 2 = nI m := fun k => by rw [am_up_r (by decide), ha]; exact hG.2.2.2.1
    rcases hg.2 with ⟨rfl, h2⟩ | ⟨rfl, h2⟩
    · refine JJ_h (k := 1) (v := a (74 + 5 * i + 1)) (w := z) hR ha hG hB hab hbl hi (by decide) (by unfold okH; exact ⟨fun q => by omega, fun q => by omega, fun q => by omega⟩) ?_ ?_
      · refine am_cl_in am_c82 rfl ?_
        iterate 3 refine am_wp_step _ rfl ?_
        refine ⟨_, _, cl_t hg.1 (c_isDish _ _ _ hm), ?_⟩
        iterate 5 refine am_wp_step _ rfl ?_
        refine ⟨_, _, cl_t (by decide) (c_within _ _ _ _ _), ?_⟩
        repeat' first | refine am_wp_step _ rfl ?_ | refine am_iteB (fun h => ?_) (fun h => ?_) | refine am_iteN (fun h => ?_) (fun h => ?_) | refine am_ite (fun h => ?_) (fun h => ?_) | refine ⟨_, _, cl_t h2 (c_within _ _ _ _ _), ?_⟩ | refine am_ixN (i) (rfl) (show _ < 8 by omega) (show (8 : Nat) < 2 ^ 31 by decide) (fun e => ?_) | fail
        rw [e]
        repeat' first | refine am_wp_step _ rfl ?_ | refine am_iteB (fun h => ?_) (fun h => ?_) | refine am_iteN (fun h => ?_) (fun h => ?_) | refine am_ite (fun h => ?_) (fun h => ?_) | refine ⟨_, _, c_dishFact _ 0 i 1 M (by omega), ?_⟩ | fail
        refine ⟨trivial, ?_, rfl⟩
        rw [RB_hv hi (by decide) hB]
      · refine am_cl_in am_c159 rfl ?_
        repeat' first | refine am_wp_step _ rfl ?_ | refine am_iteB (fun h => ?_) (fun h => ?_) | refine am_iteN (fun h => ?_) (fun h => ?_) | refine am_ite (fun h => ?_) (fun h => ?_) | refine ⟨_, _, cl_t hg.1 (m_isH _ _ _ (em 1)), ?_⟩ | refine ⟨_, _, cl_t h2 (m_within _ _ _ _ _), ?_⟩ | refine ⟨_, _, m_putIn _ (74 + 5 * i + 1) _ _ _ (by simp only [nI_lit, nI_add, nI_mul]) (by omega), ?_⟩ | fail
        refine ⟨trivial, ?_, rfl⟩
        rw [am_up_r (by decide), ha]
    · refine JJ_h (k := 2) (v := a (74 + 5 * i + 2)) (w := z) hR ha hG hB hab hbl hi (by decide) (by unfold okH; exact ⟨fun _ => h2, fun q => by omega, fun q => by omega⟩) ?_ ?_
      · refine am_cl_in am_c82 rfl ?_
        iterate 3 refine am_wp_step _ rfl ?_
        refine ⟨_, _, cl_t hg.1 (c_isDish _ _ _ hm), ?_⟩
        iterate 5 refine am_wp_step _ rfl ?_
        refine ⟨_, _, cl_t (by decide) (c_within _ _ _ _ _), ?_⟩
        repeat' first | refine am_wp_step _ rfl ?_ | refine am_iteB (fun h => ?_) (fun h => ?_) | refine am_iteN (fun h => ?_) (fun h => ?_) | refine am_ite (fun h => ?_) (fun h => ?_) | refine ⟨_, _, cl_t h2 (c_within _ _ _ _ _), ?_⟩ | refine am_ixN (i) (rfl) (show _ < 8 by omega) (show (8 : Nat) < 2 ^ 31 by decide) (fun e => ?_) | fail
        rw [e]
        repeat' first | refine am_wp_step _ rfl ?_ | refine am_iteB (fun h => ?_) (fun h => ?_) | refine am_iteN (fun h => ?_) (fun h => ?_) | refine am_ite (fun h => ?_) (fun h => ?_) | refine ⟨_, _, c_dishFact _ 0 i 2 M (by omega), ?_⟩ | fail
        refine ⟨trivial, ?_, rfl⟩
        rw [RB_hv hi (by decide) hB]
      · refine am_cl_in am_c159 rfl ?_
        repeat' first | refine am_wp_step _ rfl ?_ | refine am_iteB (fun h => ?_) (fun h => ?_) | refine am_iteN (fun h => ?_) (fun h => ?_) | refine am_ite (fun h => ?_) (fun h => ?_) | refine ⟨_, _, cl_t hg.1 (m_isH _ _ _ (em 2)), ?_⟩ | refine ⟨_, _, cl_t h2 (m_within _ _ _ _ _), ?_⟩ | refine ⟨_, _, m_putIn _ (74 + 5 * i + 2) _ _ _ (by simp only [nI_lit, nI_add, nI_mul]) (by omega), ?_⟩ | fail
        refine ⟨trivial, ?_, rfl⟩
        rw [am_up_r (by decide), ha]
  · refine JJ_e (k := 1) (by decide) (by decide) hR ?_ (fun M1 e33 e26 => ?_)
    · refine am_cl_in am_c82 rfl ?_
      repeat' first | refine am_wp_step _ rfl ?_ | refine am_iteB (fun h => ?_) (fun h => ?_) | refine am_iteN (fun h => ?_) (fun h => ?_) | refine am_ite (fun h => ?_) (fun h => ?_) | refine ⟨_, _, c_isDead _ _ _ hn, ?_⟩ | refine ⟨_, _, c_isDish _ _ _ hm, ?_⟩ | refine ⟨_, _, c_within _ _ _ _ _, ?_⟩ | refine ⟨_, _, c_isKM _ _ _, ?_⟩ | refine ⟨_, _, c_isHouse _ _ _, ?_⟩ | refine ⟨_, _, c_isAhead _ _ _, ?_⟩ | refine ⟨_, _, c_isSheet _ _ _, ?_⟩ | refine ⟨_, _, c_mostOf _ _ _, ?_⟩ | refine ⟨_, _, c_err1 _ _, ?_⟩ | refine ⟨_, _, c_err2 _ _, ?_⟩ | refine ⟨_, _, c_err3 _ _, ?_⟩ | refine ⟨_, _, c_err4 _ _, ?_⟩ | refine ⟨_, _, c_err5 _ _, ?_⟩ | refine ⟨by decide, ?_⟩ | fail
      all_goals first | exact ⟨trivial, rfl, rfl⟩ | (exfalso; clear hR hG hB hT0 hT1 hW4 hW5 hBY h288 hTC hX0 hX1; grind)
    · have ea : M1 33 0 0 = a := (by rw [e33]; exact ha); have en : M1 33 0 0 1 = nI n := (by rw [ea]; exact hG.2.2.1); have em : M1 33 0 0 2 = nI m := (by rw [ea]; exact hG.2.2.2.1)
      refine am_cl_in am_c159 rfl ?_
      repeat' first | refine am_wp_step _ rfl ?_ | refine am_iteB (fun h => ?_) (fun h => ?_) | refine am_iteN (fun h => ?_) (fun h => ?_) | refine am_ite (fun h => ?_) (fun h => ?_) | refine ⟨_, _, m_isD _ _ _ en, ?_⟩ | refine ⟨_, _, m_isH _ _ _ em, ?_⟩ | refine ⟨_, _, m_within _ _ _ _ _, ?_⟩ | refine ⟨_, _, m_isHouse _ _ _, ?_⟩ | refine ⟨_, _, m_isAhead _ _ _, ?_⟩ | refine ⟨_, _, m_isSheet _ _ _, ?_⟩ | refine ⟨_, _, m_find1 _ _, ?_⟩ | refine ⟨_, _, m_find2 _ _, ?_⟩ | refine ⟨_, _, m_find3 _ _, ?_⟩ | refine ⟨_, _, m_find4 _ _, ?_⟩ | refine ⟨_, _, m_find5 _ _, ?_⟩ | refine am_andv (by unfold vp_in; decide) ?_ | refine ⟨by decide, ?_⟩ | fail
      all_goals first | exact ⟨trivial, rfl, rfl⟩ | (exfalso; clear hR hG hB hT0 hT1 hW4 hW5 hBY h288 hTC hX0 hX1; grind)
theorem jj_become (x y : Int32) : JJ 77 149 [.inl x, .inl y] := by
  intro M hR
  obtain ⟨n, m, a, ha, hG, hB, hab, hT0, hT1, hW4, hW5, hz, hbl, hBY, h288, hTC⟩ := RC_get hR; have hn := hB.1; have hm := hB.2.1; have hn8 := hG.1; have hm8 := hG.2.1; have hX0 := hG.2.2.2.2.2.2.1; have hX1 := hG.2.2.2.2.2.2.2
  by_cases hg : isN x n ∧ 0 ≤ y ∧ y ≤ 69
  · obtain ⟨i, hi, rfl⟩ := isN_ex hg.1 (by omega)
    obtain ⟨k, hk, rfl⟩ := wI_ex (b := 69) hg.2 (by decide)
    have hd : nI k / 10 = nI (k / 10) := pk_div (by omega) (by decide) (by decide)
    have hr : nI k - nI (k / 10) * 10 = nI (k % 10) := by
      rw [← hd]
      exact pk_rem (by omega) (by decide) (by decide)
    refine JJ_b (n := n) (m := m) (v := a (10 + 8 * i + 0)) (M1 := am_up (am_up M 18 0 i 0 (nI (k / 10))) 18 0 i 1 (nI (k % 10))) (M2 := am_up (am_up (am_up (am_up M 18 0 i 0 (nI (k / 10))) 18 0 i 1 (nI (k % 10))) 33 0 0 (10 + 8 * i + 1) (nI (k % 10))) 33 0 0 (10 + 8 * i + 0) (nI (k / 10))) (a' := fu (fu a (10 + 8 * i + 0) (nI (k / 10))) (10 + 8 * i + 1) (nI (k % 10))) hR ha ?_ ?_ (FX_tr (FX_up (by omega)) (FX_up (by omega))) (kB_tr kB_up kB_up) ?_ ?_ ?_ ?_ ?_ ?_
    · refine am_cl_in am_c77 rfl ?_
      iterate 3 refine am_wp_step _ rfl ?_
      refine ⟨_, _, cl_t hg.1 (c_isDead _ _ _ hn), ?_⟩
      iterate 3 refine am_wp_step _ rfl ?_
      refine ⟨_, _, cl_t hg.2 (c_isKM _ _ _), ?_⟩
      iterate 7 refine am_wp_step _ rfl ?_
      refine am_ixN (i) (rfl) (show _ < 8 by omega) (show (8 : Nat) < 2 ^ 31 by decide) (fun e => ?_); rw [e]
      repeat' first | refine am_wp_step _ rfl ?_ | refine am_iteB (fun h => ?_) (fun h => ?_) | refine am_iteN (fun h => ?_) (fun h => ?_) | refine am_ite (fun h => ?_) (fun h => ?_) | refine ⟨by decide, ?_⟩ | fail
      refine ⟨trivial, ?_, ?_⟩
      · rw [← RB_gv hi (by decide) hB]
        rfl
      · rw [hd, hr]
        rfl
    · refine am_cl_in am_c149 rfl ?_
      have en : am_up (am_up M 18 0 i 0 (nI (k / 10))) 18 0 i 1 (nI (k % 10)) 33 0 0 1 = nI n := by rw [am_up_r (by decide), am_up_r (by decide), ha]; exact hG.2.2.1
      repeat' first | refine am_wp_step _ rfl ?_ | refine am_iteB (fun h => ?_) (fun h => ?_) | refine am_iteN (fun h => ?_) (fun h => ?_) | refine am_ite (fun h => ?_) (fun h => ?_) | refine ⟨_, _, cl_t hg.1 (m_isD _ _ _ en), ?_⟩ | refine ⟨_, _, cl_t hg.2 (m_within _ _ _ _ _), ?_⟩ | refine ⟨_, _, m_putIn _ (10 + 8 * i + 0) _ _ _ (by simp only [nI_lit, nI_add, nI_mul]) (by omega), ?_⟩ | refine ⟨by decide, ?_⟩ | refine am_ixN (10 + 8 * i + 1) (by simp only [nI_lit, nI_add, nI_mul]) (show _ < 288 by omega) (show (288 : Nat) < 2 ^ 31 by decide) (fun e => ?_) | fail
      rw [e]
      refine ⟨trivial, ?_, ?_⟩
      · dsimp only [am_S]
        rw [am_up_s (by omega), am_up_r (by decide), am_up_r (by decide), ha]
      · dsimp only [am_S]
        rw [hd, hr]
    · rw [am_up_fu, am_up_fu, am_up_r (by decide), am_up_r (by decide), ha, fu_comm (by omega)]
    · refine GA_g hi (by decide) ?_ (GA_g hi (by decide) ?_ hG)
      · unfold okG
        exact ⟨fun q => by omega, fun q => by omega, fun q => by omega, fun q => by omega, fun q => by omega⟩
      · unfold okG
        exact ⟨fun q => ⟨nI_pos' (by omega), nI_le (b := 6) (by omega) (by decide)⟩, fun q => by omega, fun q => by omega, fun q => by omega, fun q => by omega⟩
    · rw [odr_g (by decide) (by decide), odr_g (by decide) (by decide)]
      exact RB_g hn8 hi (by decide) (RB_g hn8 hi (by decide) hB)
    · rw [am_up_r (by decide), am_up_r (by decide)]
      exact hab
    · rw [fu_ne (by omega), fu_ne (by omega)]
      exact hbl
    · intro c hc
      rw [fu_ne (by omega), fu_ne (by omega)]
  · refine JJ_e (k := 1) (by decide) (by decide) hR ?_ (fun M1 e33 e26 => ?_)
    · refine am_cl_in am_c77 rfl ?_
      repeat' first | refine am_wp_step _ rfl ?_ | refine am_iteB (fun h => ?_) (fun h => ?_) | refine am_iteN (fun h => ?_) (fun h => ?_) | refine am_ite (fun h => ?_) (fun h => ?_) | refine ⟨_, _, c_isDead _ _ _ hn, ?_⟩ | refine ⟨_, _, c_isDish _ _ _ hm, ?_⟩ | refine ⟨_, _, c_within _ _ _ _ _, ?_⟩ | refine ⟨_, _, c_isKM _ _ _, ?_⟩ | refine ⟨_, _, c_isHouse _ _ _, ?_⟩ | refine ⟨_, _, c_isAhead _ _ _, ?_⟩ | refine ⟨_, _, c_isSheet _ _ _, ?_⟩ | refine ⟨_, _, c_mostOf _ _ _, ?_⟩ | refine ⟨_, _, c_err1 _ _, ?_⟩ | refine ⟨_, _, c_err2 _ _, ?_⟩ | refine ⟨_, _, c_err3 _ _, ?_⟩ | refine ⟨_, _, c_err4 _ _, ?_⟩ | refine ⟨_, _, c_err5 _ _, ?_⟩ | refine ⟨by decide, ?_⟩ | fail
      all_goals first | exact ⟨trivial, rfl, rfl⟩ | (exfalso; grind)
    · have ea : M1 33 0 0 = a := (by rw [e33]; exact ha); have en : M1 33 0 0 1 = nI n := (by rw [ea]; exact hG.2.2.1); have em : M1 33 0 0 2 = nI m := (by rw [ea]; exact hG.2.2.2.1)
      refine am_cl_in am_c149 rfl ?_
      repeat' first | refine am_wp_step _ rfl ?_ | refine am_iteB (fun h => ?_) (fun h => ?_) | refine am_iteN (fun h => ?_) (fun h => ?_) | refine am_ite (fun h => ?_) (fun h => ?_) | refine ⟨_, _, m_isD _ _ _ en, ?_⟩ | refine ⟨_, _, m_isH _ _ _ em, ?_⟩ | refine ⟨_, _, m_within _ _ _ _ _, ?_⟩ | refine ⟨_, _, m_isHouse _ _ _, ?_⟩ | refine ⟨_, _, m_isAhead _ _ _, ?_⟩ | refine ⟨_, _, m_isSheet _ _ _, ?_⟩ | refine ⟨_, _, m_find1 _ _, ?_⟩ | refine ⟨_, _, m_find2 _ _, ?_⟩ | refine ⟨_, _, m_find3 _ _, ?_⟩ | refine ⟨_, _, m_find4 _ _, ?_⟩ | refine ⟨_, _, m_find5 _ _, ?_⟩ | refine am_andv (by unfold vp_in; decide) ?_ | refine ⟨by decide, ?_⟩ | fail
      all_goals first | exact ⟨trivial, rfl, rfl⟩ | (exfalso; grind)
theorem c_setFact (d b i k : Nat) (v : Int32) (M : am_F) (hk : 3 ≤ k) (hk2 : k ≤ 6) : am_cl am_cds (d + 1) 25 [.inr (.inr (18, b, i)), .inl (nI k), .inl v] (am_S M) none (am_S (am_up M 18 b i k v)) := by
  refine am_cl_in am_c25 rfl ?_
  rcases (by omega : k = 3 ∨ k = 4 ∨ k = 5 ∨ k = 6) with rfl | rfl | rfl | rfl
  all_goals
    repeat' first | refine am_wp_step _ rfl ?_ | refine am_iteB (fun h => ?_) (fun h => ?_) | refine am_iteN (fun h => ?_) (fun h => ?_) | refine am_ite (fun h => ?_) (fun h => ?_) | fail
    exact ⟨rfl, rfl⟩
theorem jj_change (x y z : Int32) : JJ 76 148 [.inl x, .inl y, .inl z] := by
  intro M hR
  obtain ⟨n, m, a, ha, hG, hB, hab, hT0, hT1, hW4, hW5, hz, hbl, hBY, h288, hTC⟩ := RC_get hR; have hn := hB.1; have hm := hB.2.1; have hn8 := hG.1; have hm8 := hG.2.1; have hX0 := hG.2.2.2.2.2.2.1; have hX1 := hG.2.2.2.2.2.2.2
  by_cases hg : isN x n ∧ (3 ≤ y ∧ y ≤ 6) ∧ 0 ≤ z ∧ z ≤ (if y = 3 then 9 else if y = 4 then 5 else if y = 5 then 2 else 9999)
  · obtain ⟨i, hi, rfl⟩ := isN_ex hg.1 (by omega)
    obtain ⟨k, hk, rfl⟩ := wI_ex (y := y) (b := 6) ⟨by lia, hg.2.1.2⟩ (by decide)
    have hk3 : 3 ≤ k := (nI_leI (a := 3) (by decide) (by omega)).mp hg.2.1.1
    have hB1 := RB_g (v := z) hn8 hi (show k < 8 by omega) hB
    obtain ⟨M1, c1, hs, hf⟩ := c_sort 997 0 n (am_up M 18 0 i k z) hn8 (by rw [am_up_r (by decide)]; exact hn)
    have e33 : M1 33 = M 33 := by
      funext bb
      rw [hf 33 bb (by omega), am_up_r (by decide)]
    have c5 : am_cl am_cds 999 5 [.inr (.inr (16, 0, 0)), .inl (nI i), .inl (nI k), .inl z] (am_S M) (some (.inl (a (10 + 8 * i + k)))) (am_S M1) := by
      refine am_cl_in am_c5 rfl ?_
      iterate 4 refine am_wp_step _ rfl ?_
      refine am_ixN (i) (rfl) (show _ < 8 by omega) (show (8 : Nat) < 2 ^ 31 by decide) (fun e => ?_); rw [e]
      iterate 2 refine am_wp_step _ rfl ?_
      refine ⟨_, _, c_ghostFact _ 0 i k M (by omega), ?_⟩
      iterate 5 refine am_wp_step _ rfl ?_
      refine am_ixN (i) (rfl) (show _ < 8 by omega) (show (8 : Nat) < 2 ^ 31 by decide) (fun e => ?_); rw [e]
      iterate 3 refine am_wp_step _ rfl ?_
      refine ⟨_, c_setFact _ 0 i k z M hk3 hk, ?_⟩
      iterate 2 refine am_wp_step _ rfl ?_
      refine ⟨_, c1, ?_⟩
      iterate 2 refine am_wp_step _ rfl ?_
      refine ⟨trivial, ?_, rfl⟩
      rw [RB_gv hi (by omega) hB]
    refine JJ_b (n := n) (m := m) (v := a (10 + 8 * i + k)) (M1 := M1) (M2 := am_up M1 33 0 0 (10 + 8 * i + k) z) (a' := fu a (10 + 8 * i + k) z) hR ha ?_ ?_ (FX_tr (FX_up (by omega)) (FX_fO hf)) kB_up ?_ ?_ (RB_srt hB1 hs hf) ?_ ?_ ?_
    · refine am_cl_in am_c76 rfl ?_
      iterate 3 refine am_wp_step _ rfl ?_
      refine ⟨_, _, cl_t hg.1 (c_isDead _ _ _ hn), ?_⟩
      iterate 5 refine am_wp_step _ rfl ?_
      refine ⟨_, _, cl_t hg.2.1 (c_within _ _ _ _ _), ?_⟩
      iterate 5 refine am_wp_step _ rfl ?_
      refine ⟨_, _, c_mostOf _ _ _, ?_⟩
      iterate 1 refine am_wp_step _ rfl ?_
      refine ⟨_, _, cl_t hg.2.2 (c_within _ _ _ _ _), ?_⟩
      iterate 8 refine am_wp_step _ rfl ?_
      refine ⟨_, _, c5, ?_⟩
      iterate 1 refine am_wp_step _ rfl ?_
      exact ⟨trivial, rfl, rfl⟩
    · refine am_cl_in am_c148 rfl ?_
      have en : M1 33 0 0 1 = nI n := by rw [e33, ha]; exact hG.2.2.1
      rcases (by omega : k = 3 ∨ k = 4 ∨ k = 5 ∨ k = 6) with rfl | rfl | rfl | rfl
      · repeat' first | refine am_wp_step _ rfl ?_ | refine am_iteB (fun h => ?_) (fun h => ?_) | refine am_iteN (fun h => ?_) (fun h => ?_) | refine am_ite (fun h => ?_) (fun h => ?_) | refine ⟨_, _, cl_t hg.1 (m_isD _ _ _ en), ?_⟩ | refine ⟨_, _, cl_t hg.2.1 (m_within _ _ _ _ _), ?_⟩ | refine ⟨_, _, cl_t hg.2.2 (m_within _ _ _ _ _), ?_⟩ | refine ⟨_, _, m_putIn _ (10 + 8 * i + 3) _ _ _ (by simp only [nI_lit, nI_add, nI_mul]) (by omega), ?_⟩ | fail
        refine ⟨trivial, ?_, rfl⟩
        rw [e33, ha]
      · repeat' first | refine am_wp_step _ rfl ?_ | refine am_iteB (fun h => ?_) (fun h => ?_) | refine am_iteN (fun h => ?_) (fun h => ?_) | refine am_ite (fun h => ?_) (fun h => ?_) | refine ⟨_, _, cl_t hg.1 (m_isD _ _ _ en), ?_⟩ | refine ⟨_, _, cl_t hg.2.1 (m_within _ _ _ _ _), ?_⟩ | refine ⟨_, _, cl_t hg.2.2 (m_within _ _ _ _ _), ?_⟩ | refine ⟨_, _, m_putIn _ (10 + 8 * i + 4) _ _ _ (by simp only [nI_lit, nI_add, nI_mul]) (by omega), ?_⟩ | fail
        refine ⟨trivial, ?_, rfl⟩
        rw [e33, ha]
      · repeat' first | refine am_wp_step _ rfl ?_ | refine am_iteB (fun h => ?_) (fun h => ?_) | refine am_iteN (fun h => ?_) (fun h => ?_) | refine am_ite (fun h => ?_) (fun h => ?_) | refine ⟨_, _, cl_t hg.1 (m_isD _ _ _ en), ?_⟩ | refine ⟨_, _, cl_t hg.2.1 (m_within _ _ _ _ _), ?_⟩ | refine ⟨_, _, cl_t hg.2.2 (m_within _ _ _ _ _), ?_⟩ | refine ⟨_, _, m_putIn _ (10 + 8 * i + 5) _ _ _ (by simp only [nI_lit, nI_add, nI_mul]) (by omega), ?_⟩ | fail
        refine ⟨trivial, ?_, rfl⟩
        rw [e33, ha]
      · repeat' first | refine am_wp_step _ rfl ?_ | refine am_iteB (fun h => ?_) (fun h => ?_) | refine am_iteN (fun h => ?_) (fun h => ?_) | refine am_ite (fun h => ?_) (fun h => ?_) | refine ⟨_, _, cl_t hg.1 (m_isD _ _ _ en), ?_⟩ | refine ⟨_, _, cl_t hg.2.1 (m_within _ _ _ _ _), ?_⟩ | refine ⟨_, _, cl_t hg.2.2 (m_within _ _ _ _ _), ?_⟩ | refine ⟨_, _, m_putIn _ (10 + 8 * i + 6) _ _ _ (by simp only [nI_lit, nI_add, nI_mul]) (by omega), ?_⟩ | fail
        refine ⟨trivial, ?_, rfl⟩
        rw [e33, ha]
    · rw [am_up_fu, e33, ha]
    · refine GA_g hi (by omega) ?_ hG
      obtain ⟨-, -, g1, g2⟩ := hg
      unfold okG
      rcases (by omega : k = 3 ∨ k = 4 ∨ k = 5 ∨ k = 6) with rfl | rfl | rfl | rfl
      · exact ⟨fun q => by omega, fun q => by omega, fun q => ⟨g1, g2⟩, fun q => by omega, fun q => by omega⟩
      · exact ⟨fun q => by omega, fun q => by omega, fun q => by omega, fun q => by omega, fun q => by omega⟩
      · exact ⟨fun q => by omega, fun q => by omega, fun q => by omega, fun q => ⟨g1, g2⟩, fun q => by omega⟩
      · exact ⟨fun q => by omega, fun q => by omega, fun q => by omega, fun q => by omega, fun q => ⟨g1, g2⟩⟩
    · rw [hf 16 0 (by omega), am_up_r (by decide)]
      exact hab
    · rw [fu_ne (by omega)]
      exact hbl
    · intro c hc
      exact fu_ne (by omega)
  · refine JJ_e (k := 1) (by decide) (by decide) hR ?_ (fun M1 e33 e26 => ?_)
    · refine am_cl_in am_c76 rfl ?_
      repeat' first | refine am_wp_step _ rfl ?_ | refine am_iteB (fun h => ?_) (fun h => ?_) | refine am_iteN (fun h => ?_) (fun h => ?_) | refine am_ite (fun h => ?_) (fun h => ?_) | refine ⟨_, _, c_isDead _ _ _ hn, ?_⟩ | refine ⟨_, _, c_isDish _ _ _ hm, ?_⟩ | refine ⟨_, _, c_within _ _ _ _ _, ?_⟩ | refine ⟨_, _, c_isKM _ _ _, ?_⟩ | refine ⟨_, _, c_isHouse _ _ _, ?_⟩ | refine ⟨_, _, c_isAhead _ _ _, ?_⟩ | refine ⟨_, _, c_isSheet _ _ _, ?_⟩ | refine ⟨_, _, c_mostOf _ _ _, ?_⟩ | refine ⟨_, _, c_err1 _ _, ?_⟩ | refine ⟨_, _, c_err2 _ _, ?_⟩ | refine ⟨_, _, c_err3 _ _, ?_⟩ | refine ⟨_, _, c_err4 _ _, ?_⟩ | refine ⟨_, _, c_err5 _ _, ?_⟩ | refine ⟨by decide, ?_⟩ | fail
      all_goals first | exact ⟨trivial, rfl, rfl⟩ | (exfalso; clear hR hG hB hT0 hT1 hW4 hW5 hBY h288 hTC hX0 hX1; grind)
    · have ea : M1 33 0 0 = a := (by rw [e33]; exact ha); have en : M1 33 0 0 1 = nI n := (by rw [ea]; exact hG.2.2.1); have em : M1 33 0 0 2 = nI m := (by rw [ea]; exact hG.2.2.2.1)
      refine am_cl_in am_c148 rfl ?_
      repeat' first | refine am_wp_step _ rfl ?_ | refine am_iteB (fun h => ?_) (fun h => ?_) | refine am_iteN (fun h => ?_) (fun h => ?_) | refine am_ite (fun h => ?_) (fun h => ?_) | refine ⟨_, _, m_isD _ _ _ en, ?_⟩ | refine ⟨_, _, m_isH _ _ _ em, ?_⟩ | refine ⟨_, _, m_within _ _ _ _ _, ?_⟩ | refine ⟨_, _, m_isHouse _ _ _, ?_⟩ | refine ⟨_, _, m_isAhead _ _ _, ?_⟩ | refine ⟨_, _, m_isSheet _ _ _, ?_⟩ | refine ⟨_, _, m_find1 _ _, ?_⟩ | refine ⟨_, _, m_find2 _ _, ?_⟩ | refine ⟨_, _, m_find3 _ _, ?_⟩ | refine ⟨_, _, m_find4 _ _, ?_⟩ | refine ⟨_, _, m_find5 _ _, ?_⟩ | refine am_andv (by unfold vp_in; decide) ?_ | refine ⟨by decide, ?_⟩ | fail
      all_goals first | exact ⟨trivial, rfl, rfl⟩ | (exfalso; clear hR hG hB hT0 hT1 hW4 hW5 hBY h288 hTC hX0 hX1; grind)
theorem jj_seed (x : Int32) : JJ 100 203 [.inl x] := by
  intro M hR
  obtain ⟨n, m, a, ha, hG, hB, hab, hT0, hT1, hW4, hW5, hz, hbl, hBY, h288, hTC⟩ := RC_get hR; have hn := hB.1; have hm := hB.2.1; have hn8 := hG.1; have hm8 := hG.2.1; have hX0 := hG.2.2.2.2.2.2.1; have hX1 := hG.2.2.2.2.2.2.2
  refine JJ_w (v := a 5) (M1 := am_up M 20 0 0 5 x) (M2 := am_up (am_up M 20 0 0 5 x) 33 0 0 5 x) hR ?_ ?_ (fun r bb a _ _ _ _ => am_up_rb (by omega)) (kN_B kB_up) ?_
  · refine am_cl_in am_c100 rfl ?_
    repeat' first | refine am_wp_step _ rfl ?_ | refine am_iteB (fun h => ?_) (fun h => ?_) | refine am_iteN (fun h => ?_) (fun h => ?_) | refine am_ite (fun h => ?_) (fun h => ?_) | fail
    refine ⟨trivial, ?_, rfl⟩
    rw [← hz]
  · refine am_cl_in am_c203 rfl ?_
    repeat' first | refine am_wp_step _ rfl ?_ | refine am_iteB (fun h => ?_) (fun h => ?_) | refine am_iteN (fun h => ?_) (fun h => ?_) | refine am_ite (fun h => ?_) (fun h => ?_) | refine ⟨_, _, m_putIn _ 5 _ _ _ rfl (by decide), ?_⟩ | fail
    refine ⟨trivial, ?_, rfl⟩
    rw [am_up_r (by decide), ha]
  · rw [am_up_fu, am_up_r (by decide), ha]
    have hr := hR.1
    rw [ha] at hr
    obtain ⟨n0, m0, q1, q2, q3, q4, q5, q6, q7, q8, q9, q10, q11⟩ := hr
    have e : ∀ c, c ≠ 5 → fu a 5 x c = a c := fun c hc => fu_ne hc
    have er : ∀ r, r ≠ 20 → am_up M 20 0 0 5 x r = M r := fun r hr => am_up_r hr
    have ht : tx (fu a 5 x) = tx a := tx_of fun c hc => e c (by omega)
    obtain ⟨g1, g2, g3, g4, g5, g6, g7, g8⟩ := q1
    refine ⟨n0, m0, ⟨g1, g2, ?_, ?_, ?_, ?_, ?_, ?_⟩, ?_, ?_, ?_, ?_, ?_, ?_, ?_, ?_, ?_, ?_⟩
    · rw [e 1 (by omega)]; exact g3
    · rw [e 2 (by omega)]; exact g4
    · intro i hi
      rw [e _ (by omega), e _ (by omega), e _ (by omega), e _ (by omega), e _ (by omega)]
      exact g5 i hi
    · intro i hi
      rw [e _ (by omega), e _ (by omega), e _ (by omega)]
      exact g6 i hi
    · rw [ht]; exact g7
    · rw [ht]; exact g8
    · rw [odr_u (by omega)]
      obtain ⟨b1, b2, b3, b4, b5, b6, b7⟩ := q2
      unfold RB
      rw [er 16 (by omega), er 17 (by omega), er 18 (by omega), er 28 (by omega), er 29 (by omega)]
      exact ⟨b1, b2, by rw [e 0 (by omega)]; exact b3, fun i k hi hk => by rw [e _ (by omega)]; exact b4 i k hi hk, fun i k hi hk => by rw [e _ (by omega)]; exact b5 i k hi hk, fun j hj => by rw [e _ (by omega)]; exact b6 j hj, b7⟩
    · rw [er 16 (by omega)]; exact q3
    · rw [ht]; exact RT_cg2 (by rw [er 21 (by omega)]) (by rw [er 27 (by omega)]) q4
    · rw [ht]; exact RT_cg2 (by rw [er 21 (by omega)]) (by rw [er 27 (by omega)]) q5
    · rw [e 3 (by omega), show (fun j => fu a 5 x (114 + j)) = (fun j => a (114 + j)) from funext fun j => e _ (by omega)]
      exact RW_cg (by rw [er 21 (by omega)]) (by rw [er 27 (by omega)]) q6
    · rw [e 4 (by omega), show (fun j => fu a 5 x (164 + j)) = (fun j => a (164 + j)) from funext fun j => e _ (by omega)]
      exact RW_cg (by rw [er 21 (by omega)]) (by rw [er 27 (by omega)]) q7
    · rw [am_up_same, fu_at]
    · rw [e 0 (by omega)]; exact q9
    · intro k h1 h2 j hj
      rw [e 3 (by omega)] at h1
      rw [e (114 + j) (by omega)]
      exact q10 k h1 h2 j hj
    · intro k hk
      rw [e k (by omega)]
      exact q11 k hk
