/-! CLASS AND MODEL: what ties them -/
def RW (M : am_F) (b : Nat) (c : Int32) (f : Nat → Int32) (cap : Nat) : Prop := ∃ k, k ≤ cap ∧ c = nI k ∧ M 21 b 0 1 = nI k ∧ ∀ j, j < k → M 27 b 0 j = f j
def BY (a : Nat → Int32) : Prop := ∀ k, a 3 = nI k → k ≤ 50 → ∀ j, j < k → 0 ≤ a (114 + j) ∧ a (114 + j) ≤ 255
def RR (M : am_F) (b : Nat) (a : Nat → Int32) : Prop := ∃ n m, GA n m a ∧ RB M b n m (odr a n) a ∧ M 16 b 0 7 = -1 ∧ RT M (2 * b) 0 (tx a) ∧ RT M (2 * b + 1) 1 (tx a) ∧ RW M (6 * b + 4) (a 3) (fun j => a (114 + j)) 50 ∧ RW M (6 * b + 5) (a 4) (fun j => a (164 + j)) 20 ∧ M 20 b 0 5 = a 5 ∧ (0 ≤ a 0 ∧ a 0 ≤ 9999) ∧ BY a ∧ ∀ k, 288 ≤ k → a k = 0
def RE (M : am_F) (e : Nat → Int32) : Prop := ∀ k, 1 ≤ k → k ≤ 5 → M 32 0 0 k = e k
def RS (M : am_F) (w s nu : Nat → Int32) : Prop := ∀ i, i < 4 → M 22 0 i 1 = w i ∧ M 22 0 i 2 = s i ∧ (∃ z, z ≤ 40 ∧ s i = nI z) ∧ (w i = 0 ∨ w i = 8 ∨ w i = 16 ∨ w i = 32) ∧ ∀ j, j < 40 → M 31 0 i j = nu (40 * i + j)
def RC (M N : am_F) : Prop := RR M 0 (N 33 0 0) ∧ (N 26 0 0 3 = 0 ∨ RR M 1 (N 33 1 0)) ∧ M 25 0 0 2 = N 26 0 0 3 ∧ RE M (N 33 3 0) ∧ RW M 14 (N 26 0 0 16) (N 33 8 0) 40 ∧ RS M (N 33 9 0) (N 33 10 0) (N 33 11 0) ∧ TC M ∧ ∀ k, 288 ≤ k → N 33 1 0 k = 0
/-- what of the model's counts -/
def NQ (N N' : am_F) : Prop := N' 33 0 0 = N 33 0 0 ∧ N' 26 0 0 3 = N 26 0 0 3 ∧ N' 33 1 0 = N 33 1 0 ∧ N' 33 3 0 = N 33 3 0 ∧ N' 26 0 0 16 = N 26 0 0 16 ∧ N' 33 8 0 = N 33 8 0 ∧ N' 33 9 0 = N 33 9 0 ∧ N' 33 10 0 = N 33 10 0 ∧ N' 33 11 0 = N 33 11 0
theorem RC_NQ {M N N' : am_F} (h : NQ N N') (hR : RC M N) : RC M N' := by
  obtain ⟨h1, h2, h3, h4, h5, h6, h7, h8, h9⟩ := h
  unfold RC at *
  rw [h1, h2, h3, h4, h5, h6, h7, h8, h9]
  exact hR
/-- what of the class's counts stays -/
def cS (M M' : am_F) : Prop := ∀ r bb, ¬ ((r = 16 ∨ r = 17 ∨ r = 18 ∨ r = 28 ∨ r = 29) ∧ bb = 2) → ¬ ((r = 21 ∨ r = 27) ∧ (bb = 1 ∨ bb = 3 ∨ bb = 12 ∨ bb = 13)) → r ≠ 30 → r ≠ 19 → r ≠ 23 → M' r bb = M r bb
theorem cS_rf {M : am_F} : cS M M := fun _ _ _ _ _ _ _ => rfl
theorem cS_tr {M M1 M2 : am_F} (h1 : cS M M1) (h2 : cS M1 M2) : cS M M2 := fun r bb a b c d e => (h2 r bb a b c d e).trans (h1 r bb a b c d e)
theorem cS_of {M M' : am_F} (h : rwF M M' 1) : cS M M' := fun r bb _ b _ _ _ => h r bb (by omega)
theorem cS_of3 {M M' : am_F} (h : rwF M M' 3) : cS M M' := fun r bb _ b _ _ _ => h r bb (by omega)
theorem cS_FB {M M' : am_F} (h : FB 2 M M') : cS M M' := fun r bb a b _ _ _ => h r bb a (by omega)
theorem cS_r {M M' : am_F} (h : cS M M') (r : Nat) (hr : r = 0 ∨ r = 20 ∨ r = 22 ∨ r = 24 ∨ r = 25 ∨ r = 26 ∨ r = 31 ∨ r = 32 ∨ r = 33) : M' r = M r := by
  funext bb
  exact h r bb (by omega) (by omega) (by omega) (by omega) (by omega)
theorem RW_cg {M M' : am_F} {b cap : Nat} {c : Int32} {f : Nat → Int32} (h1 : M' 21 b = M 21 b) (h2 : M' 27 b = M 27 b) (h : RW M b c f cap) : RW M' b c f cap := by
  unfold RW at *
  rw [h1, h2]
  exact h
theorem RT_cg2 {M M' : am_F} {t u : Nat} {x : Nat → Int32} (h1 : M' 21 (6 * (t / 2) + 2 * (t % 2)) = M 21 (6 * (t / 2) + 2 * (t % 2))) (h2 : M' 27 (6 * (t / 2) + 2 * (t % 2)) = M 27 (6 * (t / 2) + 2 * (t % 2))) (h : RT M t u x) : RT M' t u x := by
  unfold RT at *
  rw [h1, h2]
  exact h
theorem RR_cg {M M' : am_F} {b : Nat} {a : Nat → Int32} (h : ∀ r, r = 16 ∨ r = 17 ∨ r = 18 ∨ r = 28 ∨ r = 29 ∨ r = 20 → M' r b = M r b) (h2 : ∀ bb, bb = 6 * b ∨ bb = 6 * b + 2 ∨ bb = 6 * b + 4 ∨ bb = 6 * b + 5 → M' 21 bb = M 21 bb ∧ M' 27 bb = M 27 bb) (hR : RR M b a) : RR M' b a := by
  obtain ⟨n, m, q1, q2, q3, q4, q5, q6, q7, q8, q9, q10, q11⟩ := hR
  refine ⟨n, m, q1, RB_cg (fun r hr => h r (by omega)) q2, by rw [h 16 (by omega)]; exact q3, RT_cg2 (h2 _ (by omega)).1 (h2 _ (by omega)).2 q4, RT_cg2 (h2 _ (by omega)).1 (h2 _ (by omega)).2 q5, RW_cg (h2 _ (by omega)).1 (h2 _ (by omega)).2 q6, RW_cg (h2 _ (by omega)).1 (h2 _ (by omega)).2 q7, by rw [h 20 (by omega)]; exact q8, q9, q10, q11⟩
def cW (M M' : am_F) : Prop := ∀ r bb, ¬ ((r = 16 ∨ r = 17 ∨ r = 18 ∨ r = 28 ∨ r = 29) ∧ bb = 2) → ¬ ((r = 21 ∨ r = 27) ∧ (bb = 1 ∨ bb = 3 ∨ bb = 12 ∨ bb = 13)) → r ≠ 30 → r ≠ 19 → r ≠ 23 → r ≠ 26 → r ≠ 33 → M' r bb = M r bb
theorem cW_r {M M' : am_F} (h : cW M M') (r : Nat) (hr : r = 20 ∨ r = 22 ∨ r = 24 ∨ r = 25 ∨ r = 31 ∨ r = 32) : M' r = M r := by
  funext bb
  exact h r bb (by omega) (by omega) (by omega) (by omega) (by omega) (by omega) (by omega)
theorem RC_cW {M M' N : am_F} (h : cW M M') (hR : RC M N) : RC M' N := by
  obtain ⟨q1, q2, q3, q4, q5, q6, q7, q8⟩ := hR
  refine ⟨RR_cg (fun r hr => h r 0 (by omega) (by omega) (by omega) (by omega) (by omega) (by omega) (by omega)) (fun bb hb => ⟨h 21 bb (by omega) (by omega) (by omega) (by omega) (by omega) (by omega) (by omega), h 27 bb (by omega) (by omega) (by omega) (by omega) (by omega) (by omega) (by omega)⟩) q1, q2.imp id (RR_cg (fun r hr => h r 1 (by omega) (by omega) (by omega) (by omega) (by omega) (by omega) (by omega)) (fun bb hb => ⟨h 21 bb (by omega) (by omega) (by omega) (by omega) (by omega) (by omega) (by omega), h 27 bb (by omega) (by omega) (by omega) (by omega) (by omega) (by omega) (by omega)⟩)), by rw [cW_r h 25 (by omega)]; exact q3, ?_, RW_cg (h 21 14 (by omega) (by omega) (by omega) (by omega) (by omega) (by omega) (by omega)) (h 27 14 (by omega) (by omega) (by omega) (by omega) (by omega) (by omega) (by omega)) q5, ?_, TC_cg (cW_r h 24 (by omega)) q7, q8⟩
  · unfold RE at *
    rw [cW_r h 32 (by omega)]
    exact q4
  · unfold RS at *
    rw [cW_r h 22 (by omega), cW_r h 31 (by omega)]
    exact q6
theorem RC_cS {M M' N : am_F} (h : cS M M') (hR : RC M N) : RC M' N := RC_cW (fun r bb a b c d e _ _ => h r bb a b c d e) hR
/-- the model's frame -/
def kM (M M' : am_F) : Prop := ∀ r, r ≠ 26 → r ≠ 33 → M' r = M r
theorem kM_rf {M : am_F} : kM M M := fun _ _ _ => rfl
theorem kM_tr {M M1 M2 : am_F} (h1 : kM M M1) (h2 : kM M1 M2) : kM M M2 := fun r a b => (h2 r a b).trans (h1 r a b)
theorem kM_up {M : am_F} {r b i s : Nat} {x : Int32} (h : r = 26 ∨ r = 33) : kM M (am_up M r b i s x) := fun r' a b => am_up_r (by omega)
theorem kM_of {M M' : am_F} (h : ∀ r bb, ¬ r = 33 → M' r bb = M r bb) : kM M M' := fun r _ b => funext fun bb => h r bb b
theorem RC_kM {M M' N : am_F} (h : kM M M') (hR : RC M N) : RC M' N := RC_cW (fun r bb _ _ _ _ _ a b => by rw [h r a b]) hR
theorem RC_fin {M1 M2 N : am_F} (hR : RC M1 N) (hk : kM M1 M2) (hq : NQ N M2) : RC M2 M2 := RC_NQ hq (RC_kM hk hR)
theorem NQ_rf {N : am_F} : NQ N N := ⟨rfl, rfl, rfl, rfl, rfl, rfl, rfl, rfl, rfl⟩
theorem NQ_tr {N N1 N2 : am_F} (h1 : NQ N N1) (h2 : NQ N1 N2) : NQ N N2 := by
  obtain ⟨a1, a2, a3, a4, a5, a6, a7, a8, a9⟩ := h1
  obtain ⟨b1, b2, b3, b4, b5, b6, b7, b8, b9⟩ := h2
  exact ⟨b1.trans a1, b2.trans a2, b3.trans a3, b4.trans a4, b5.trans a5, b6.trans a6, b7.trans a7, b8.trans a8, b9.trans a9⟩
def JJ (y ym : Nat) (as : List am_V) : Prop := ∀ M, RC M M → ∃ v M1 M2, am_cl am_cds 1000 y (.inr (.inr (25, 0, 0)) :: as) (am_S M) (some (.inl v)) (am_S M1) ∧ am_cl am_cds 1000 ym (.inr (.inr (26, 0, 0)) :: as) (am_S M1) (some (.inl v)) (am_S M2) ∧ RC M2 M2 ∧ M2 0 = M 0 ∧ M1 0 = M 0

/-- an answer that changes nothing -/
theorem JJ_q {M : am_F} {y ym : Nat} {as : List am_V} {v : Int32} (hR : RC M M) (h1 : ∃ M1, am_cl am_cds 1000 y (.inr (.inr (25, 0, 0)) :: as) (am_S M) (some (.inl v)) (am_S M1) ∧ cS M M1) (h2 : ∀ M1, M1 33 = M 33 → M1 26 = M 26 → ∃ M2, am_cl am_cds 1000 ym (.inr (.inr (26, 0, 0)) :: as) (am_S M1) (some (.inl v)) (am_S M2) ∧ kM M1 M2 ∧ NQ M1 M2) : ∃ v M1 M2, am_cl am_cds 1000 y (.inr (.inr (25, 0, 0)) :: as) (am_S M) (some (.inl v)) (am_S M1) ∧ am_cl am_cds 1000 ym (.inr (.inr (26, 0, 0)) :: as) (am_S M1) (some (.inl v)) (am_S M2) ∧ RC M2 M2 ∧ M2 0 = M 0 ∧ M1 0 = M 0 := by
  obtain ⟨M1, c1, f1⟩ := h1
  have e33 := cS_r f1 33 (by omega)
  have e26 := cS_r f1 26 (by omega)
  obtain ⟨M2, c2, k2, q2⟩ := h2 M1 e33 e26
  refine ⟨v, M1, M2, c1, c2, RC_fin (N := M1) ?_ k2 q2, (k2 0 (by omega) (by omega)).trans (cS_r f1 0 (by omega)), cS_r f1 0 (by omega)⟩
  refine RC_NQ (N := M) ?_ (RC_cS f1 hR)
  unfold NQ
  rw [e33, e26]
  exact ⟨rfl, rfl, rfl, rfl, rfl, rfl, rfl, rfl, rfl⟩
/-- an answer that changes what counts: the class's first -/
theorem JJ_u {M M1 M2 N : am_F} {y ym : Nat} {as : List am_V} {v : Int32} (c1 : am_cl am_cds 1000 y (.inr (.inr (25, 0, 0)) :: as) (am_S M) (some (.inl v)) (am_S M1)) (c2 : am_cl am_cds 1000 ym (.inr (.inr (26, 0, 0)) :: as) (am_S M1) (some (.inl v)) (am_S M2)) (hR : RC M1 N) (hk : kM M1 M2) (hq : NQ N M2) (h0 : M1 0 = M 0) : ∃ v M1 M2, am_cl am_cds 1000 y (.inr (.inr (25, 0, 0)) :: as) (am_S M) (some (.inl v)) (am_S M1) ∧ am_cl am_cds 1000 ym (.inr (.inr (26, 0, 0)) :: as) (am_S M1) (some (.inl v)) (am_S M2) ∧ RC M2 M2 ∧ M2 0 = M 0 ∧ M1 0 = M 0 := ⟨v, M1, M2, c1, c2, RC_fin hR hk hq, (hk 0 (by omega) (by omega)).trans h0, h0⟩
/-! ERRORS -/
theorem c_err (d k : Nat) (M : am_F) (h1 : 1 ≤ k) (h2 : k ≤ 5) : am_cl am_cds (d + 2) 113 [.inr (.inr (25, 0, 0)), .inl (-1000000000 - nI k)] (am_S M) (some (.inl (-1000000000 - nI k))) (am_S (am_up M 32 0 0 k (M 32 0 0 k + 1))) := by
  rcases (by omega : k = 1 ∨ k = 2 ∨ k = 3 ∨ k = 4 ∨ k = 5) with rfl | rfl | rfl | rfl | rfl
  · exact c_err1 d M
  · exact c_err2 d M
  · exact c_err3 d M
  · exact c_err4 d M
  · exact c_err5 d M
theorem m_find (d k : Nat) (M : am_F) (h1 : 1 ≤ k) (h2 : k ≤ 5) : am_cl am_cds (d + 1) 135 [.inr (.inr (26, 0, 0)), .inl (-1000000000 - nI k)] (am_S M) (some (.inl (-1000000000 - nI k))) (am_S (am_up M 33 3 0 k (M 33 3 0 k + 1))) := by
  rcases (by omega : k = 1 ∨ k = 2 ∨ k = 3 ∨ k = 4 ∨ k = 5) with rfl | rfl | rfl | rfl | rfl
  all_goals
    refine am_cl_in am_c135 rfl ?_
    repeat' first | refine am_wp_step _ rfl ?_ | refine am_ite (fun h => ?_) (fun h => ?_) | refine am_andv (by unfold vp_in; decide) ?_ | fail
    exact ⟨trivial, rfl, rfl⟩
theorem RC_err {M N : am_F} {k : Nat} (h1 : 1 ≤ k) (h2 : k ≤ 5) (hR : RC M N) : RC (am_up M 32 0 0 k (M 32 0 0 k + 1)) (am_up N 33 3 0 k (N 33 3 0 k + 1)) := by
  obtain ⟨q1, q2, q3, q4, q5, q6, q7, q8⟩ := hR
  have e : ∀ r, r ≠ 32 → am_up M 32 0 0 k (M 32 0 0 k + 1) r = M r := fun r hr => am_up_r hr
  have f : ∀ b, b ≠ 3 → am_up N 33 3 0 k (N 33 3 0 k + 1) 33 b = N 33 b := fun b hb => am_up_b hb
  have g : am_up N 33 3 0 k (N 33 3 0 k + 1) 26 = N 26 := am_up_r (by decide)
  unfold RC
  rw [f 0 (by omega), f 1 (by omega), f 8 (by omega), f 9 (by omega), f 10 (by omega), f 11 (by omega), g, e 25 (by omega)]
  refine ⟨RR_cg (fun r hr => by rw [e r (by omega)]) (fun bb _ => ⟨by rw [e 21 (by omega)], by rw [e 27 (by omega)]⟩) q1, q2.imp id (RR_cg (fun r hr => by rw [e r (by omega)]) (fun bb _ => ⟨by rw [e 21 (by omega)], by rw [e 27 (by omega)]⟩)), q3, ?_, RW_cg (by rw [e 21 (by omega)]) (by rw [e 27 (by omega)]) q5, ?_, TC_cg (e 24 (by omega)) q7, q8⟩
  · intro j hj hj2
    rw [am_up_fu, am_up_fu]
    have h3 := q4 k h1 h2
    have h4 := q4 j hj hj2
    unfold fu
    split
    · rw [h3]
    · exact h4
  · unfold RS at *
    rw [e 22 (by omega), e 31 (by omega)]
    exact q6
/-- both tell an error -/
theorem JJ_e {M : am_F} {y ym k : Nat} {as : List am_V} (h1 : 1 ≤ k) (h2 : k ≤ 5) (hR : RC M M) (c1 : am_cl am_cds 1000 y (.inr (.inr (25, 0, 0)) :: as) (am_S M) (some (.inl (-1000000000 - nI k))) (am_S (am_up M 32 0 0 k (M 32 0 0 k + 1)))) (c2 : ∀ M1, M1 33 = M 33 → M1 26 = M 26 → am_cl am_cds 1000 ym (.inr (.inr (26, 0, 0)) :: as) (am_S M1) (some (.inl (-1000000000 - nI k))) (am_S (am_up M1 33 3 0 k (M1 33 3 0 k + 1)))) : ∃ v M1 M2, am_cl am_cds 1000 y (.inr (.inr (25, 0, 0)) :: as) (am_S M) (some (.inl v)) (am_S M1) ∧ am_cl am_cds 1000 ym (.inr (.inr (26, 0, 0)) :: as) (am_S M1) (some (.inl v)) (am_S M2) ∧ RC M2 M2 ∧ M2 0 = M 0 ∧ M1 0 = M 0 := by
  refine JJ_u c1 (c2 _ (am_up_r (by decide)) (am_up_r (by decide))) (RC_err h1 h2 hR) (kM_up (by omega)) ?_ (am_up_r (by decide))
  have key : ∀ M1 : am_F, M1 33 = M 33 → M1 26 = M 26 → NQ (am_up M 33 3 0 k (M 33 3 0 k + 1)) (am_up M1 33 3 0 k (M1 33 3 0 k + 1)) := by
    intro M1 e33 e26
    have h33 : am_up M1 33 3 0 k (M1 33 3 0 k + 1) 33 = am_up M 33 3 0 k (M 33 3 0 k + 1) 33 := by
      funext b i s
      unfold am_up
      rw [e33]
    have h26 : am_up M1 33 3 0 k (M1 33 3 0 k + 1) 26 = am_up M 33 3 0 k (M 33 3 0 k + 1) 26 := by rw [am_up_r (by decide), am_up_r (by decide), e26]
    unfold NQ
    rw [h33, h26]
    exact ⟨rfl, rfl, rfl, rfl, rfl, rfl, rfl, rfl, rfl⟩
  exact key _ (am_up_r (by decide)) (am_up_r (by decide))
