/-! BELLS: the model's -/
def dr1 (z : Int32) : Int32 := z * 1103515245 + 12345
def shr8 (z : Int32) : Int32 := (z.toUInt32 >>> (Int32.toUInt32 8 &&& Int32.toUInt32 31)).toInt32
def rm (x y : Int32) : Int32 := x - x / y * y
def dg1 (a : Nat → Int32) (k : Nat) : Nat → Int32 := if a (74 + 5 * k + 4) = -1 then a else if rm (shr8 (dr1 (a 5))) 10 = 0 then fu (fu (fu a 5 (dr1 (a 5))) 5 (dr1 (dr1 (a 5)))) (74 + 5 * k + 1) (sp_max 0 (a (74 + 5 * k + 1) - rm (shr8 (dr1 (dr1 (a 5)))) 3 - 1)) else fu a 5 (dr1 (a 5))
def dgK (a : Nat → Int32) : Nat → Nat → Int32
  | 0 => a
  | k + 1 => dg1 (dgK a k) k
theorem dgK_s (a : Nat → Int32) (k : Nat) : dgK a (k + 1) = dg1 (dgK a k) k := rfl
theorem dg1_out {a : Nat → Int32} {k c : Nat} (h1 : c ≠ 5) (h2 : c ≠ 74 + 5 * k + 1) : dg1 a k c = a c := by
  unfold dg1
  split
  · rfl
  · split
    · exact (if_neg h2).trans ((if_neg h1).trans (if_neg h1))
    · exact if_neg h1
theorem dgK_out {a : Nat → Int32} {k c : Nat} (h1 : c ≠ 5) (h2 : ∀ j, j < k → c ≠ 74 + 5 * j + 1) : dgK a k c = a c := by
  induction k with
  | zero => rfl
  | succ k ih => rw [dgK_s, dg1_out h1 (h2 k (by omega)), ih (fun j hj => h2 j (by omega))]
theorem m_drawn (d : Nat) (v : Int32) (M : am_F) (hv : v ≠ 0) : am_cl am_cds (d + 1) 183 [.inr (.inr (26, 0, 0)), .inl v] (am_S M) (some (.inl (rm (shr8 (dr1 (M 33 0 0 5))) v))) (am_S (am_up M 33 0 0 5 (dr1 (M 33 0 0 5)))) := by
  refine am_cl_in am_c183 rfl ?_
  repeat' first | refine am_wp_step _ rfl ?_ | refine am_ite (fun h => ?_) (fun h => ?_) | refine am_andv (by unfold vp_in; decide) ?_ | fail
  refine ⟨hv, ?_⟩
  iterate 1 refine am_wp_step _ rfl ?_
  exact ⟨trivial, rfl, rfl⟩
theorem fu_at {a : Nat → Int32} {k : Nat} {v : Int32} : fu a k v k = v := if_pos rfl
theorem fu_ne {a : Nat → Int32} {k j : Nat} {v : Int32} (h : j ≠ k) : fu a k v j = a j := if_neg h
theorem m_dogs (d n m : Nat) (M : am_F) (hG : GA n m (M 33 0 0)) : ∃ M', am_cl am_cds (d + 2) 184 [.inr (.inr (26, 0, 0))] (am_S M) none (am_S M') ∧ M' 33 0 0 = dgK (M 33 0 0) m ∧ mF M M' 0 := by
  refine am_cl_v (fun M' => M' 33 0 0 = dgK (M 33 0 0) m ∧ mF M M' 0) am_c184 rfl ?_
  generalize ha : M 33 0 0 = a at *
  obtain ⟨hn, hm, h1, h2, h3, h4, h5, h6⟩ := hG
  have hsh : ∀ k, dgK a k 2 = nI m ∧ ∀ j, dgK a k (74 + 5 * j + 4) = a (74 + 5 * j + 4) := by
    intro k
    exact ⟨(dgK_out (by omega) (fun j _ => by omega)).trans h2, fun j => dgK_out (by omega) (fun j _ => by omega)⟩
  iterate 2 refine am_wp_step _ rfl ?_
  refine am_for1 2 (fun x => [(0, .inr (.inr (26, 0, 0))), (1, .inl x)]) (fun i x M1 => x = nI i ∧ M1 33 0 0 = dgK a i ∧ mF M M1 0) m ?_ ?_ 0 0 M (Nat.zero_le _) ⟨nI_0.symm, ha, mF_rf⟩
  · intro i x M1 hi hP K
    obtain ⟨hx, hA1, hF⟩ := hP
    have hnx : x + 1 = nI (i + 1) := by rw [hx, nI_1]
    obtain ⟨s1, s2⟩ := hsh i
    have s3 := (h4 i hi).2.2
    have e1 : M1 33 0 0 2 = nI m := by rw [hA1]; exact s1
    iterate 5 refine am_wp_step _ rfl ?_
    refine am_andv (by unfold vp_in; decide) ?_
    iterate 1 refine am_wp_step _ rfl ?_
    refine am_iteF (by show ¬ M1 33 0 0 2 ≤ x; rw [e1, hx]; exact nI_ge hi (by omega)) ?_
    subst hx
    iterate 4 refine am_wp_step _ rfl ?_
    refine ⟨_, _, m_dishIs _ i 4 M1 (by omega) (by decide), ?_⟩
    iterate 1 refine am_wp_step _ rfl ?_
    refine am_ite (fun h => ?_) (fun h => ?_)
    · iterate 2 refine am_wp_step _ rfl ?_
      refine K _ _ ⟨hnx, ?_, hF⟩
      rw [dgK_s]
      unfold dg1
      rw [hA1, s2] at h
      rw [s2, if_pos (by lia), hA1]
    · rw [hA1, s2] at h
      iterate 3 refine am_wp_step _ rfl ?_
      refine ⟨_, _, m_drawn _ 10 M1 (by decide), ?_⟩
      iterate 1 refine am_wp_step _ rfl ?_
      refine am_ite (fun h7 => ?_) (fun h7 => ?_)
      · rw [hA1] at h7
        iterate 2 refine am_wp_step _ rfl ?_
        refine K _ _ ⟨hnx, ?_, mF_tr hF mF_up⟩
        rw [am_up_fu, hA1]
        rw [dgK_s]
        unfold dg1
        rw [s2, if_neg (by lia), if_neg h7]
      · rw [hA1] at h7
        have h7 := Decidable.not_not.mp h7
        iterate 16 refine am_wp_step _ rfl ?_
        refine am_ixN (74 + 5 * i + 1) (by simp only [nI_lit, nI_add, nI_mul]) (show _ < 288 by omega) (show (288 : Nat) < 2 ^ 31 by decide) (fun ex => ?_)
        iterate 3 refine am_wp_step _ rfl ?_
        refine ⟨_, _, m_drawn _ 3 _ (by decide), ?_⟩
        iterate 4 refine am_wp_step _ rfl ?_
        refine ⟨_, _, c_max _ _ _ _, ?_⟩
        iterate 1 refine am_wp_step _ rfl ?_
        refine am_ixN (74 + 5 * i + 1) (by simp only [nI_lit, nI_add, nI_mul]) (show _ < 288 by omega) (show (288 : Nat) < 2 ^ 31 by decide) (fun ex2 => ?_)
        iterate 2 refine am_wp_step _ rfl ?_
        refine K _ _ ⟨hnx, ?_, mF_tr hF (mF_tr mF_up (mF_tr mF_up mF_up))⟩
        dsimp only [am_S]
        rw [ex, am_up_fu, am_up_fu, am_up_fu, hA1, fu_at, fu_ne (by omega)]
        rw [dgK_s]
        unfold dg1
        rw [s2, if_neg (by lia), if_pos h7]
  · intro x M1 hP
    obtain ⟨hx, hA1, hF⟩ := hP
    have e1 : M1 33 0 0 2 = nI m := by rw [hA1]; exact (hsh m).1
    iterate 5 refine am_wp_step _ rfl ?_
    refine am_andv (by unfold vp_in; decide) ?_
    iterate 1 refine am_wp_step _ rfl ?_
    refine am_iteT (by show M1 33 0 0 2 ≤ x; rw [e1, hx]; exact nI_le (Nat.le_refl _) (by omega)) ?_
    iterate 1 refine am_wp_step _ rfl ?_
    exact ⟨rfl, M1, rfl, hA1, hF⟩
/-- the rows that bells touch -/
def mH (M M' : am_F) : Prop := ∀ r bb, ¬ (r = 33 ∧ (bb = 0 ∨ bb = 5 ∨ bb = 6)) → M' r bb = M r bb
theorem mH_rf {M : am_F} : mH M M := fun _ _ _ => rfl
theorem mH_tr {M M1 M2 : am_F} (h1 : mH M M1) (h2 : mH M1 M2) : mH M M2 := fun r bb h => (h2 r bb h).trans (h1 r bb h)
theorem mH_G {M M' : am_F} (h : mG M M') : mH M M' := fun r bb h' => h r bb (by omega)
theorem mH_0 {M M' : am_F} (h : mF M M' 0) : mH M M' := fun r bb h' => h r bb (by omega)
theorem m_eats (d i n m : Nat) (M : am_F) (hi : i < n) (hG : GA n m (M 33 0 0)) : ∃ M', am_cl am_cds (d + 6) 182 [.inr (.inr (26, 0, 0)), .inl (nI i)] (am_S M) none (am_S M') ∧ M' 33 0 0 = eat1 (gv (tx (M 33 0 0)) 0) m i (M 33 0 0) ∧ mH M M' := by
  refine am_cl_v (fun M' => M' 33 0 0 = eat1 (gv (tx (M 33 0 0)) 0) m i (M 33 0 0) ∧ mH M M') am_c182 rfl ?_
  generalize ha : M 33 0 0 = a at *
  have hH := GA_hh hG
  obtain ⟨hn, hm, h1, h2, h3, h4, h5, h6⟩ := hG
  iterate 3 refine am_wp_step _ rfl ?_
  refine am_call1 (m_picks d i m M (by omega) hm (by rw [ha]; exact h2) (by rw [ha]; exact hH) (by rw [ha]; exact h5)) (fun M1 hF => ?_)
  rw [ha]
  have e0 : M1 33 0 0 = a := by rw [hF 33 0 (by omega)]; exact ha
  iterate 9 refine am_wp_step _ rfl ?_
  refine am_ite (fun h => ?_) (fun h => ?_)
  · rcases pkx_lt (gv (tx a) 0) (gA a i) (hA a) m with q | ⟨j, hj, q⟩
    · rw [q] at h
      exact absurd h (by decide)
    · rw [q]
      unfold eat1
      rw [q, if_neg (nI_pos (by omega)), nI_clamp (by omega)]
      iterate 4 refine am_wp_step _ rfl ?_
      refine am_call1 (m_takenOf _ i j M1 (by omega) (by omega) (by rw [e0]; exact h5)) (fun M2 hF2 => ?_)
      rw [e0]
      have e2 : M2 33 0 0 = a := by rw [hF2 33 0 (by omega)]; exact e0
      generalize tk (gv (tx a) 0) (gA a i) (hA a j) = t
      iterate 12 refine am_wp_step _ rfl ?_
      refine am_ixN (74 + 5 * j + 2) (by simp only [nI_lit, nI_add, nI_mul]) (show _ < 288 by omega) (show (288 : Nat) < 2 ^ 31 by decide) (fun ex1 => ?_)
      iterate 3 refine am_wp_step _ rfl ?_
      refine am_ixN (74 + 5 * j + 2) (by simp only [nI_lit, nI_add, nI_mul]) (show _ < 288 by omega) (show (288 : Nat) < 2 ^ 31 by decide) (fun ex2 => ?_)
      iterate 12 refine am_wp_step _ rfl ?_
      refine am_ixN (10 + 8 * i + 7) (by simp only [nI_lit, nI_add, nI_mul]) (show _ < 288 by omega) (show (288 : Nat) < 2 ^ 31 by decide) (fun ex3 => ?_)
      iterate 3 refine am_wp_step _ rfl ?_
      refine ⟨_, _, c_min _ _ _ _, ?_⟩
      iterate 1 refine am_wp_step _ rfl ?_
      refine am_ixN (10 + 8 * i + 7) (by simp only [nI_lit, nI_add, nI_mul]) (show _ < 288 by omega) (show (288 : Nat) < 2 ^ 31 by decide) (fun ex4 => ?_)
      iterate 7 refine am_wp_step _ rfl ?_
      refine am_ixN (10 + 8 * i + 6) (by simp only [nI_lit, nI_add, nI_mul]) (show _ < 288 by omega) (show (288 : Nat) < 2 ^ 31 by decide) (fun ex5 => ?_)
      iterate 1 refine am_wp_step _ rfl ?_
      refine ⟨rfl, _, rfl, ?_, mH_tr (mH_G hF) (mH_tr (mH_G hF2) (mH_0 (mF_tr mF_up (mF_tr mF_up mF_up))))⟩
      dsimp only [am_S]
      rw [ex1, ex3, ex5, am_up_fu, am_up_fu, am_up_fu, e2, fu_ne (by omega)]
  · unfold eat1
    rw [if_pos (Int32.not_le.mp h)]
    iterate 12 refine am_wp_step _ rfl ?_
    refine am_ixN (10 + 8 * i + 6) (by simp only [nI_lit, nI_add, nI_mul]) (show _ < 288 by omega) (show (288 : Nat) < 2 ^ 31 by decide) (fun ex1 => ?_)
    iterate 3 refine am_wp_step _ rfl ?_
    refine ⟨_, _, c_min _ _ _ _, ?_⟩
    iterate 1 refine am_wp_step _ rfl ?_
    refine am_ixN (10 + 8 * i + 6) (by simp only [nI_lit, nI_add, nI_mul]) (show _ < 288 by omega) (show (288 : Nat) < 2 ^ 31 by decide) (fun ex2 => ?_)
    iterate 1 refine am_wp_step _ rfl ?_
    refine ⟨rfl, _, rfl, ?_, mH_tr (mH_G hF) (mH_0 mF_up)⟩
    dsimp only [am_S]
    rw [ex1, am_up_fu, e0]

theorem GA_dgK {n m k : Nat} {a : Nat → Int32} (hk : k ≤ m) (h : GA n m a) : GA n m (dgK a k) ∧ tx (dgK a k) = tx a ∧ odr (dgK a k) n = odr a n := by
  obtain ⟨hn, hm, h1, h2, h3, h4, h5, h6⟩ := h
  have hx : tx (dgK a k) = tx a := tx_of fun c hc => dgK_out (by omega) (fun j hj => by omega)
  have hg : ∀ i q, i < n → q < 8 → dgK a k (10 + 8 * i + q) = a (10 + 8 * i + q) := fun i q hi hq => dgK_out (by omega) (fun j hj => by omega)
  have hh : ∀ i q, q < 5 → q ≠ 1 → dgK a k (74 + 5 * i + q) = a (74 + 5 * i + q) := fun i q hq hq1 => dgK_out (by omega) (fun j hj => by omega)
  refine ⟨⟨hn, hm, (dgK_out (by omega) (fun j hj => by omega)).trans h1, (dgK_out (by omega) (fun j hj => by omega)).trans h2, fun i hi => ?_, fun i hi => ?_, by rw [hx]; exact h5, by rw [hx]; exact h6⟩, hx, odr_cg fun j hj => hg j 3 hj (by omega)⟩
  · rw [hg i 0 hi (by omega), hg i 2 hi (by omega), hg i 3 hi (by omega), hg i 5 hi (by omega), hg i 6 hi (by omega)]
    exact h3 i hi
  · rw [hh i 2 (by omega) (by omega), hh i 3 (by omega) (by omega), hh i 4 (by omega) (by omega)]
    exact h4 i hi
/-- so many bells, with dogs or without -/
def bgN (l : Bool) (E : Int32 → Int32 → Int32 → Int32 → Int32) (n m : Nat) (o : Nat → Nat) (ab : Int32) (a : Nat → Int32) : Nat → Nat → Int32
  | 0 => a
  | k + 1 => rg E n m o ab (if l = true then dgK (bgN l E n m o ab a k) m else bgN l E n m o ab a k)
theorem bgN_s (l : Bool) (E : Int32 → Int32 → Int32 → Int32 → Int32) (n m : Nat) (o : Nat → Nat) (ab : Int32) (a : Nat → Int32) (k : Nat) : bgN l E n m o ab a (k + 1) = rg E n m o ab (if l = true then dgK (bgN l E n m o ab a k) m else bgN l E n m o ab a k) := rfl
theorem bgN_f (E : Int32 → Int32 → Int32 → Int32 → Int32) (n m : Nat) (o : Nat → Nat) (ab : Int32) (a : Nat → Int32) (k : Nat) : bgN false E n m o ab a k = rgN E n m o ab a k := by
  induction k with
  | zero => rfl
  | succ k ih =>
    rw [bgN_s, ih]
    rfl
theorem GA_bgN {l : Bool} {E : Int32 → Int32 → Int32 → Int32 → Int32} {n m k : Nat} {o : Nat → Nat} {ab : Int32} {a : Nat → Int32} (ho : ∀ i, i < n → o i < n) (h : GA n m a) : GA n m (bgN l E n m o ab a k) ∧ tx (bgN l E n m o ab a k) = tx a ∧ odr (bgN l E n m o ab a k) n = odr a n := by
  induction k with
  | zero => exact ⟨h, rfl, rfl⟩
  | succ k ih =>
    obtain ⟨i1, i2, i3⟩ := ih
    rw [bgN_s]
    cases l with
    | true =>
      rw [if_pos rfl]
      obtain ⟨g1, g2, g3⟩ := GA_dgK (Nat.le_refl m) i1
      obtain ⟨j1, j2, j3⟩ := GA_rg (E := E) (ab := ab) ho g1
      exact ⟨j1, j2.trans (g2.trans i2), j3.trans (g3.trans i3)⟩
    | false =>
      rw [if_neg (by decide)]
      obtain ⟨j1, j2, j3⟩ := GA_rg (E := E) (ab := ab) ho i1
      exact ⟨j1, j2.trans i2, j3.trans i3⟩
def mB (M M' : am_F) : Prop := ∀ r bb, ¬ (r = 33 ∧ (bb = 0 ∨ bb = 5 ∨ bb = 6 ∨ bb = 7)) → M' r bb = M r bb
theorem mB_rf {M : am_F} : mB M M := fun _ _ _ => rfl
theorem mB_tr {M M1 M2 : am_F} (h1 : mB M M1) (h2 : mB M1 M2) : mB M M2 := fun r bb h => (h2 r bb h).trans (h1 r bb h)
theorem mB_H {M M' : am_F} (h : mH M M') : mB M M' := fun r bb h' => h r bb (by omega)
theorem mB_7 {M M' : am_F} (h : fO M M' 33 7) : mB M M' := fun r bb h' => h r bb (by omega)
theorem mB_G {M M' : am_F} (h : mG M M') : mB M M' := fun r bb h' => h r bb (by omega)
