/-! LOOKING AHEAD -/
def fBd (b : Nat) (M M' : am_F) : Prop := ∀ r bb, ¬ ((r = 16 ∨ r = 17 ∨ r = 18 ∨ r = 28 ∨ r = 29) ∧ bb = b) → M' r bb = M r bb
theorem fBd_rf {b : Nat} {M : am_F} : fBd b M M := fun _ _ _ => rfl
theorem fBd_tr {b : Nat} {M M1 M2 : am_F} (h1 : fBd b M M1) (h2 : fBd b M1 M2) : fBd b M M2 := fun r bb h => (h2 r bb h).trans (h1 r bb h)
theorem fBd_up {b r i s : Nat} {x : Int32} {M : am_F} (h : r = 16 ∨ r = 17 ∨ r = 18 ∨ r = 28 ∨ r = 29) : fBd b M (am_up M r b i s x) := fun r' bb h1 => am_up_rb (fun q => h1 ⟨by rw [q.1]; exact h, q.2⟩)
theorem FB_fBd {b : Nat} {M M' : am_F} (h : fBd b M M') : FB b M M' := fun r bb h1 _ => h r bb h1
theorem c_copyGhost (d b i b2 i2 : Nat) (M : am_F) (hb : b ≠ b2) : ∃ M', am_cl am_cds (d + 1) 31 [.inr (.inr (18, b, i)), .inr (.inr (18, b2, i2))] (am_S M) none (am_S M') ∧ (∀ k, k < 8 → M' 18 b i k = M 18 b2 i2 k) ∧ (∀ j, j ≠ i → M' 18 b j = M 18 b j) ∧ ∀ r bb, ¬ (r = 18 ∧ bb = b) → M' r bb = M r bb := by
  refine am_cl_v (fun M' => (∀ k, k < 8 → M' 18 b i k = M 18 b2 i2 k) ∧ (∀ j, j ≠ i → M' 18 b j = M 18 b j) ∧ ∀ r bb, ¬ (r = 18 ∧ bb = b) → M' r bb = M r bb) am_c31 rfl ?_
  repeat' first | refine am_wp_step _ rfl ?_ | refine am_iteB (fun h => ?_) (fun h => ?_) | refine am_iteN (fun h => ?_) (fun h => ?_) | refine am_ite (fun h => ?_) (fun h => ?_) | fail
  refine ⟨rfl, _, rfl, ?_, ?_, ?_⟩
  · intro k hk
    rcases (by omega : k = 0 ∨ k = 1 ∨ k = 2 ∨ k = 3 ∨ k = 4 ∨ k = 5 ∨ k = 6 ∨ k = 7) with rfl | rfl | rfl | rfl | rfl | rfl | rfl | rfl <;> simp [am_up, hb.symm]
  · intro j hj
    funext k
    simp [am_up, hj]
  · intro r bb h
    dsimp only [am_S]
    rw [am_up_rb h, am_up_rb h, am_up_rb h, am_up_rb h, am_up_rb h, am_up_rb h, am_up_rb h, am_up_rb h]
theorem c_copyDish (d b i b2 i2 : Nat) (M : am_F) (hb : b ≠ b2) : ∃ M', am_cl am_cds (d + 1) 22 [.inr (.inr (17, b, i)), .inr (.inr (17, b2, i2))] (am_S M) none (am_S M') ∧ (∀ k, k < 5 → M' 17 b i k = M 17 b2 i2 k) ∧ (∀ j, j ≠ i → M' 17 b j = M 17 b j) ∧ ∀ r bb, ¬ (r = 17 ∧ bb = b) → M' r bb = M r bb := by
  refine am_cl_v (fun M' => (∀ k, k < 5 → M' 17 b i k = M 17 b2 i2 k) ∧ (∀ j, j ≠ i → M' 17 b j = M 17 b j) ∧ ∀ r bb, ¬ (r = 17 ∧ bb = b) → M' r bb = M r bb) am_c22 rfl ?_
  repeat' first | refine am_wp_step _ rfl ?_ | refine am_iteB (fun h => ?_) (fun h => ?_) | refine am_iteN (fun h => ?_) (fun h => ?_) | refine am_ite (fun h => ?_) (fun h => ?_) | fail
  refine ⟨rfl, _, rfl, ?_, ?_, ?_⟩
  · intro k hk
    rcases (by omega : k = 0 ∨ k = 1 ∨ k = 2 ∨ k = 3 ∨ k = 4) with rfl | rfl | rfl | rfl | rfl <;> simp [am_up, hb.symm]
  · intro j hj
    funext k
    simp [am_up, hj]
  · intro r bb h
    dsimp only [am_S]
    rw [am_up_rb h, am_up_rb h, am_up_rb h, am_up_rb h, am_up_rb h]
theorem c_copyBoard (d b b2 n m : Nat) (o : Nat → Nat) (ab : Int32) (a : Nat → Int32) (M : am_F) (hb : b ≠ b2) (hn : n ≤ 8) (hm : m ≤ 8) (hB : RB M b2 n m o a) (hab : M 16 b2 0 7 = ab) : ∃ M', am_cl am_cds (d + 2) 18 [.inr (.inr (16, b, 0)), .inr (.inr (16, b2, 0))] (am_S M) none (am_S M') ∧ RB M' b n m o a ∧ M' 16 b 0 7 = ab ∧ fBd b M M' := by
  refine am_cl_v (fun M' => RB M' b n m o a ∧ M' 16 b 0 7 = ab ∧ fBd b M M') am_c18 rfl ?_
  obtain ⟨b1, b2', b3, b4, b5, b6, b7⟩ := hB
  have hb' : b2 ≠ b := fun q => hb q.symm
  iterate 6 refine am_wp_step _ rfl ?_
  refine am_for1 6 (fun y => [(0, .inr (.inr (16, b, 0))), (1, .inr (.inr (16, b2, 0))), (2, .inl y)]) (fun i y M1 => y = nI i ∧ M1 16 b 0 1 = nI n ∧ (∀ j, j < i → (∀ k, k < 8 → M1 18 b j k = a (10 + 8 * j + k)) ∧ M1 29 b 0 j = nI (o j)) ∧ fBd b M M1) n ?_ ?_ 0 0 _ (Nat.zero_le _) ⟨nI_0.symm, am_up_same.trans b1, fun j hj => absurd hj (Nat.not_lt_zero _), fBd_up (by omega)⟩
  · intro i y M1 hi hP K
    obtain ⟨hy, h1, h2, hF⟩ := hP
    have hnx : y + 1 = nI (i + 1) := by rw [hy, nI_1]
    have e18 : ∀ k, k < 8 → M1 18 b2 i k = a (10 + 8 * i + k) := fun k hk => by rw [hF 18 b2 (by omega)]; exact b4 i k hi hk
    have e29 : M1 29 b2 0 i = nI (o i) := by rw [hF 29 b2 (by omega)]; exact b7 i hi
    iterate 4 refine am_wp_step _ rfl ?_
    refine am_iteF (by show ¬ M1 16 b 0 1 ≤ y; rw [h1, hy]; exact nI_ge hi (by omega)) ?_
    iterate 4 refine am_wp_step _ rfl ?_
    refine am_ixN (i) (hy) (show _ < 8 by omega) (show (8 : Nat) < 2 ^ 31 by decide) (fun e => ?_); rw [e]
    iterate 4 refine am_wp_step _ rfl ?_
    refine am_ixN (i) (hy) (show _ < 8 by omega) (show (8 : Nat) < 2 ^ 31 by decide) (fun e => ?_); rw [e]
    iterate 1 refine am_wp_step _ rfl ?_
    refine am_call0 (c_copyGhost _ b i b2 i M1 hb) (fun M2 hh => ?_)
    obtain ⟨q1, q2, q3⟩ := hh
    iterate 7 refine am_wp_step _ rfl ?_
    refine am_ixN (i) (hy) (show _ < 8 by omega) (show (8 : Nat) < 2 ^ 31 by decide) (fun e => ?_); rw [e]
    iterate 1 refine am_wp_step _ rfl ?_
    refine am_ixN (i) (hy) (show _ < 8 by omega) (show (8 : Nat) < 2 ^ 31 by decide) (fun e => ?_); rw [e]
    iterate 2 refine am_wp_step _ rfl ?_
    refine K _ _ ⟨hnx, ?_, ?_, ?_⟩
    · dsimp only [am_S]
      rw [am_up_r (by decide), q3 16 b (by omega)]
      exact h1
    · intro j hj
      dsimp only [am_S]
      refine ⟨fun k hk => ?_, ?_⟩
      · rw [am_up_r (by decide)]
        by_cases hji : j = i
        · rw [hji, q1 k hk, e18 k hk]
        · rw [q2 j hji]
          exact (h2 j (by omega)).1 k hk
      · by_cases hji : j = i
        · rw [hji, am_up_same, q3 29 b2 (by omega)]
          exact e29
        · rw [am_up_s hji, q3 29 b (by omega)]
          exact (h2 j (by omega)).2
    · exact fBd_tr hF (fBd_tr (fun r bb h => q3 r bb (by omega)) (fBd_up (by omega)))
  · intro y M1 hP
    obtain ⟨hy, h1, h2, hF⟩ := hP
    iterate 4 refine am_wp_step _ rfl ?_
    refine am_iteT (by show M1 16 b 0 1 ≤ y; rw [h1, hy]; exact nI_le (Nat.le_refl _) (by omega)) ?_
    iterate 6 refine am_wp_step _ rfl ?_
    refine am_for1 35 (fun y => [(0, .inr (.inr (16, b, 0))), (1, .inr (.inr (16, b2, 0))), (2, .inl y)]) (fun i y M1 => y = nI i ∧ M1 16 b 0 1 = nI n ∧ M1 16 b 0 3 = nI m ∧ (∀ j, j < n → (∀ k, k < 8 → M1 18 b j k = a (10 + 8 * j + k)) ∧ M1 29 b 0 j = nI (o j)) ∧ (∀ j, j < i → ∀ k, k < 5 → M1 17 b j k = a (74 + 5 * j + k)) ∧ fBd b M M1) m ?_ ?_ 0 0 _ (Nat.zero_le _) ⟨nI_0.symm, ?_, ?_, ?_, fun j hj => absurd hj (Nat.not_lt_zero _), fBd_tr hF (fBd_up (by omega))⟩
    · intro i y M1 hi hP K
      obtain ⟨hy, h1, h3, h2, h5, hF⟩ := hP
      have hnx : y + 1 = nI (i + 1) := by rw [hy, nI_1]
      have e17 : ∀ k, k < 5 → M1 17 b2 i k = a (74 + 5 * i + k) := fun k hk => by rw [hF 17 b2 (by omega)]; exact b5 i k hi hk
      iterate 4 refine am_wp_step _ rfl ?_
      refine am_iteF (by show ¬ M1 16 b 0 3 ≤ y; rw [h3, hy]; exact nI_ge hi (by omega)) ?_
      iterate 4 refine am_wp_step _ rfl ?_
      refine am_ixN (i) (hy) (show _ < 8 by omega) (show (8 : Nat) < 2 ^ 31 by decide) (fun e => ?_); rw [e]
      iterate 4 refine am_wp_step _ rfl ?_
      refine am_ixN (i) (hy) (show _ < 8 by omega) (show (8 : Nat) < 2 ^ 31 by decide) (fun e => ?_); rw [e]
      iterate 1 refine am_wp_step _ rfl ?_
      refine am_call0 (c_copyDish _ b i b2 i M1 hb) (fun M2 hh => ?_)
      obtain ⟨q1, q2, q3⟩ := hh
      iterate 2 refine am_wp_step _ rfl ?_
      refine K _ _ ⟨hnx, ?_, ?_, ?_, ?_, ?_⟩
      · rw [q3 16 b (by omega)]
        exact h1
      · rw [q3 16 b (by omega)]
        exact h3
      · rw [q3 18 b (by omega), q3 29 b (by omega)]
        exact h2
      · intro j hj k hk
        by_cases hji : j = i
        · rw [hji, q1 k hk, e17 k hk]
        · rw [q2 j hji]
          exact h5 j (by omega) k hk
      · exact fBd_tr hF (fun r bb h => q3 r bb (by omega))
    · intro y M1 hP
      obtain ⟨hy, h1, h3, h2, h5, hF⟩ := hP
      iterate 4 refine am_wp_step _ rfl ?_
      refine am_iteT (by show M1 16 b 0 3 ≤ y; rw [h3, hy]; exact nI_le (Nat.le_refl _) (by omega)) ?_
      iterate 2 refine am_wp_step _ rfl ?_
      refine am_for1 52 (fun y => [(0, .inr (.inr (16, b, 0))), (1, .inr (.inr (16, b2, 0))), (2, .inl y)]) (fun i y M1 => y = nI i ∧ M1 16 b 0 1 = nI n ∧ M1 16 b 0 3 = nI m ∧ (∀ j, j < n → (∀ k, k < 8 → M1 18 b j k = a (10 + 8 * j + k)) ∧ M1 29 b 0 j = nI (o j)) ∧ (∀ j, j < m → ∀ k, k < 5 → M1 17 b j k = a (74 + 5 * j + k)) ∧ (∀ j, j < i → M1 28 b 0 j = a (6 + j)) ∧ fBd b M M1) 4 ?_ ?_ 0 0 M1 (Nat.zero_le _) ⟨nI_0.symm, h1, h3, h2, h5, fun j hj => absurd hj (Nat.not_lt_zero _), hF⟩
      · intro i y M1 hi hP K
        obtain ⟨hy, h1, h3, h2, h5, h6, hF⟩ := hP
        have hnx : y + 1 = nI (i + 1) := by rw [hy, nI_1]
        have e28 : M1 28 b2 0 i = a (6 + i) := by rw [hF 28 b2 (by omega)]; exact b6 i hi
        iterate 3 refine am_wp_step _ rfl ?_
        refine am_iteF (by rw [hy]; exact nI_ge (b := 4) hi (by decide)) ?_
        iterate 7 refine am_wp_step _ rfl ?_
        refine am_ixN (i) (hy) (show _ < 4 by omega) (show (4 : Nat) < 2 ^ 31 by decide) (fun e => ?_); rw [e]
        iterate 1 refine am_wp_step _ rfl ?_
        refine am_ixN (i) (hy) (show _ < 4 by omega) (show (4 : Nat) < 2 ^ 31 by decide) (fun e => ?_); rw [e]
        iterate 2 refine am_wp_step _ rfl ?_
        refine K _ _ ⟨hnx, ?_, ?_, ?_, ?_, ?_, fBd_tr hF (fBd_up (by omega))⟩
        · dsimp only [am_S]
          rw [am_up_r (by decide)]
          exact h1
        · dsimp only [am_S]
          rw [am_up_r (by decide)]
          exact h3
        · dsimp only [am_S]
          rw [am_up_r (by decide), am_up_r (by decide)]
          exact h2
        · dsimp only [am_S]
          rw [am_up_r (by decide)]
          exact h5
        · intro j hj
          dsimp only [am_S]
          by_cases hji : j = i
          · rw [hji, am_up_same]
            exact e28
          · rw [am_up_s hji]
            exact h6 j (by omega)
      · intro y M1 hP
        obtain ⟨hy, h1, h3, h2, h5, h6, hF⟩ := hP
        have e5 : M1 16 b2 0 5 = a 0 := by rw [hF 16 b2 (by omega)]; exact b3
        have e7 : M1 16 b2 0 7 = ab := by rw [hF 16 b2 (by omega)]; exact hab
        iterate 3 refine am_wp_step _ rfl ?_
        refine am_iteT (by rw [hy]; exact nI_le (b := 4) (Nat.le_refl _) (by omega)) ?_
        iterate 9 refine am_wp_step _ rfl ?_
        have hx : ∀ r, r ≠ 16 → am_up (am_up M1 16 b 0 5 (M1 16 b2 0 5)) 16 b 0 7 (am_up M1 16 b 0 5 (M1 16 b2 0 5) 16 b2 0 7) r = M1 r := fun r hr => by rw [am_up_r hr, am_up_r hr]
        refine ⟨rfl, _, rfl, ⟨?_, ?_, ?_, ?_, ?_, ?_, ?_⟩, ?_, fBd_tr hF (fBd_tr (fBd_up (by omega)) (fBd_up (by omega)))⟩
        · dsimp only [am_S]
          rw [am_up_s (by decide), am_up_s (by decide)]
          exact h1
        · dsimp only [am_S]
          rw [am_up_s (by decide), am_up_s (by decide)]
          exact h3
        · dsimp only [am_S]
          rw [am_up_s (by decide), am_up_same]
          exact e5
        · dsimp only [am_S]
          rw [hx 18 (by decide)]
          exact fun i k hi hk => (h2 i hi).1 k hk
        · dsimp only [am_S]
          rw [hx 17 (by decide)]
          exact fun i k hi hk => h5 i hi k hk
        · dsimp only [am_S]
          rw [hx 28 (by decide)]
          exact h6
        · dsimp only [am_S]
          rw [hx 29 (by decide)]
          exact fun i hi => (h2 i hi).2
        · dsimp only [am_S]
          rw [am_up_same, am_up_s (by decide)]
          exact e7
    · dsimp only [am_S]
      rw [am_up_s (by decide)]
      exact h1
    · dsimp only [am_S]
      rw [am_up_same, hF 16 b2 (by omega)]
      exact b2'
    · dsimp only [am_S]
      rw [am_up_r (by decide), am_up_r (by decide)]
      exact h2
theorem RT_FB {b : Nat} {M M' : am_F} {x : Nat → Int32} (hF : FB b M M') (hR : RT M 0 0 x) : RT M' 0 0 x := ⟨by rw [hF 21 _ (by omega) (by omega)]; exact hR.1, fun j hj => by rw [hF 27 _ (by omega) (by omega)]; exact hR.2 j hj⟩
theorem TC_FB {b : Nat} {M M' : am_F} (hF : FB b M M') (hT : TC M) : TC M' := by
  unfold TC
  rw [hF 24 0 (by omega) (by omega), hF 24 1 (by omega) (by omega)]
  exact hT
theorem rgN_s (E : Int32 → Int32 → Int32 → Int32 → Int32) (n m : Nat) (o : Nat → Nat) (ab : Int32) (a : Nat → Int32) (k : Nat) : rgN E n m o ab a (k + 1) = rg E n m o ab (rgN E n m o ab a k) := rfl
theorem c_lookAhead (d n m cnt : Nat) (o : Nat → Nat) (a x : Nat → Int32) (M : am_F) (hR : RT M 0 0 x) (hW : WX x 0) (hT : TC M) (hn : n ≤ 8) (hm : m ≤ 8) (ho : ∀ i, i < n → o i < n) (hB : RB M 0 n m o a) (hab : M 16 0 0 7 = -1) (hc : cnt < 2 ^ 31) : ∃ M', am_cl am_cds (d + 7) 126 [.inr (.inr (25, 0, 0)), .inl (nI cnt)] (am_S M) none (am_S M') ∧ RB M' 2 n m o (rgN (gv x 0) n m o (-1) a cnt) ∧ M' 16 2 0 7 = -1 ∧ FB 2 M M' := by
  refine am_cl_v (fun M' => RB M' 2 n m o (rgN (gv x 0) n m o (-1) a cnt) ∧ M' 16 2 0 7 = -1 ∧ FB 2 M M') am_c126 rfl ?_
  iterate 6 refine am_wp_step _ rfl ?_
  refine am_call0 (c_copyBoard _ 2 0 n m o (-1) a M (by decide) hn hm hB hab) (fun M1 hh => ?_)
  obtain ⟨q1, q2, q3⟩ := hh
  iterate 2 refine am_wp_step _ rfl ?_
  refine am_for1 8 (fun y => [(0, .inr (.inr (25, 0, 0))), (1, .inl (nI cnt)), (2, .inl y)]) (fun i y M1 => y = nI i ∧ RB M1 2 n m o (rgN (gv x 0) n m o (-1) a i) ∧ M1 16 2 0 7 = -1 ∧ FB 2 M M1) cnt ?_ ?_ 0 0 M1 (Nat.zero_le _) ⟨nI_0.symm, q1, q2, FB_fBd q3⟩
  · intro i y M1 hi hP K
    obtain ⟨hy, h1, h2, hF⟩ := hP
    iterate 3 refine am_wp_step _ rfl ?_
    refine am_iteF (by rw [hy]; exact nI_ge hi hc) ?_
    iterate 6 refine am_wp_step _ rfl ?_
    refine am_call0 (c_ring _ 2 n m o (-1) _ x M1 (RT_FB hF hR) hW (TC_FB hF hT) hn hm ho h1 h2) (fun M2 hh => ?_)
    iterate 2 refine am_wp_step _ rfl ?_
    exact K _ _ ⟨by rw [hy, nI_1], hh.1, hh.2.2, FB_tr hF hh.2.1⟩
  · intro y M1 hP
    obtain ⟨hy, h1, h2, hF⟩ := hP
    iterate 3 refine am_wp_step _ rfl ?_
    refine am_iteT (by rw [hy]; exact nI_le (Nat.le_refl _) hc) ?_
    iterate 1 refine am_wp_step _ rfl ?_
    exact ⟨rfl, M1, rfl, h1, h2, hF⟩
/-- of all but one -/
def smF (a : Nat → Int32) (k : Nat) (ab : Int32) : Nat → Int32
  | 0 => 0
  | i + 1 => smF a k ab i + (if nI i = ab then 0 else a (10 + 8 * i + k))
theorem c_angers (d b n m : Nat) (o : Nat → Nat) (ab : Int32) (a : Nat → Int32) (M : am_F) (hn : n ≤ 8) (hB : RB M b n m o a) (hab : M 16 b 0 7 = ab) : am_cl am_cds (d + 1) 10 [.inr (.inr (16, b, 0))] (am_S M) (some (.inl (smF a 6 ab n))) (am_S M) := by
  refine am_cl_in am_c10 rfl ?_
  iterate 4 refine am_wp_step _ rfl ?_
  refine am_for2 4 (fun x y => [(0, .inr (.inr (16, b, 0))), (1, .inl x), (2, .inl y)]) (fun i x y M1 => y = nI i ∧ x = smF a 6 ab i ∧ M1 = M) n ?_ ?_ 0 0 0 M (Nat.zero_le _) ⟨nI_0.symm, rfl, rfl⟩
  · intro i x y M1 hi hP K
    obtain ⟨hy, hx, rfl⟩ := hP
    have hnx : y + 1 = nI (i + 1) := by rw [hy, nI_1]
    iterate 4 refine am_wp_step _ rfl ?_
    refine am_iteF (by show ¬ M1 16 b 0 1 ≤ y; rw [hB.1, hy]; exact nI_ge hi (by omega)) ?_
    iterate 5 refine am_wp_step _ rfl ?_
    refine am_ite (fun h => ?_) (fun h => ?_)
    · have h : y ≠ M1 16 b 0 7 := h
      rw [hab, hy] at h
      iterate 4 refine am_wp_step _ rfl ?_
      refine am_ixN (i) (hy) (show _ < 8 by omega) (show (8 : Nat) < 2 ^ 31 by decide) (fun e => ?_); rw [e]
      iterate 5 refine am_wp_step _ rfl ?_
      refine K _ _ _ ⟨hnx, ?_, rfl⟩
      show x + M1 18 b i 6 = _
      rw [RB_gv hi (by decide) hB, hx]
      show _ = smF a 6 ab i + _
      rw [if_neg h]
    · have h : ¬ y ≠ M1 16 b 0 7 := h
      rw [hab, hy] at h
      iterate 6 refine am_wp_step _ rfl ?_
      refine K _ _ _ ⟨hnx, ?_, rfl⟩
      rw [hx]
      show _ = smF a 6 ab i + _
      rw [if_pos (Decidable.not_not.mp h)]
  · intro x y M1 hP
    obtain ⟨hy, hx, rfl⟩ := hP
    iterate 4 refine am_wp_step _ rfl ?_
    refine am_iteT (by show M1 16 b 0 1 ≤ y; rw [hB.1, hy]; exact nI_le (Nat.le_refl _) (by omega)) ?_
    iterate 2 refine am_wp_step _ rfl ?_
    exact ⟨trivial, by rw [hx], rfl⟩
theorem m_sumOf (d k n : Nat) (ab : Int32) (M : am_F) (hk : k < 8) (hn : n ≤ 8) (hc : M 33 0 0 1 = nI n) : am_cl am_cds (d + 2) 186 [.inr (.inr (26, 0, 0)), .inl (nI k), .inl ab] (am_S M) (some (.inl (smF (M 33 0 0) k ab n))) (am_S M) := by
  refine am_cl_in am_c186 rfl ?_
  iterate 4 refine am_wp_step _ rfl ?_
  refine am_for2 4 (fun x y => [(0, .inr (.inr (26, 0, 0))), (1, .inl (nI k)), (2, .inl ab), (3, .inl x), (4, .inl y)]) (fun i x y M1 => y = nI i ∧ x = smF (M 33 0 0) k ab i ∧ M1 = M) n ?_ ?_ 0 0 0 M (Nat.zero_le _) ⟨nI_0.symm, rfl, rfl⟩
  · intro i x y M1 hi hP K
    obtain ⟨hy, hx, rfl⟩ := hP
    have hnx : y + 1 = nI (i + 1) := by rw [hy, nI_1]
    iterate 5 refine am_wp_step _ rfl ?_
    refine am_andv (by unfold vp_in; decide) ?_
    iterate 1 refine am_wp_step _ rfl ?_
    refine am_iteF (by show ¬ M1 33 0 0 1 ≤ y; rw [hc, hy]; exact nI_ge hi (by omega)) ?_
    iterate 4 refine am_wp_step _ rfl ?_
    refine am_ite (fun h => ?_) (fun h => ?_)
    · rw [hy] at h
      iterate 3 refine am_wp_step _ rfl ?_
      rw [hy]
      iterate 1 refine am_wp_step _ rfl ?_
      refine ⟨_, _, m_deadIs _ i k M1 (by omega) hk, ?_⟩
      iterate 4 refine am_wp_step _ rfl ?_
      refine K _ _ _ ⟨nI_1 i, ?_, rfl⟩
      rw [hx]
      show _ = smF (M1 33 0 0) k ab i + _
      rw [if_neg h]
    · rw [hy] at h
      iterate 6 refine am_wp_step _ rfl ?_
      refine K _ _ _ ⟨hnx, ?_, rfl⟩
      rw [hx]
      show _ = smF (M1 33 0 0) k ab i + _
      rw [if_pos (Decidable.not_not.mp h)]
  · intro x y M1 hP
    obtain ⟨hy, hx, rfl⟩ := hP
    iterate 5 refine am_wp_step _ rfl ?_
    refine am_andv (by unfold vp_in; decide) ?_
    iterate 1 refine am_wp_step _ rfl ?_
    refine am_iteT (by show M1 33 0 0 1 ≤ y; rw [hc, hy]; exact nI_le (Nat.le_refl _) (by omega)) ?_
    iterate 2 refine am_wp_step _ rfl ?_
    exact ⟨trivial, by rw [hx], rfl⟩
theorem m_copy (d b1 b2 : Nat) (M : am_F) (h1 : b1 < 3) (h2 : b2 < 3) (hb : b1 ≠ b2) : ∃ M', am_cl am_cds (d + 1) 139 [.inr (.inr (33, b1, 0)), .inr (.inr (33, b2, 0))] (am_S M) none (am_S M') ∧ (∀ k, M' 33 b2 0 k = if k < 288 then M 33 b1 0 k else M 33 b2 0 k) ∧ mF M M' b2 := by
  refine am_cl_v (fun M' => (∀ k, M' 33 b2 0 k = if k < 288 then M 33 b1 0 k else M 33 b2 0 k) ∧ mF M M' b2) am_c139 rfl ?_
  have hl1 : am_ln 33 b1 = 288 := by rcases (by omega : b1 = 0 ∨ b1 = 1 ∨ b1 = 2) with rfl | rfl | rfl <;> rfl
  have hl2 : am_ln 33 b2 = 288 := by rcases (by omega : b2 = 0 ∨ b2 = 1 ∨ b2 = 2) with rfl | rfl | rfl <;> rfl
  iterate 2 refine am_wp_step _ rfl ?_
  refine am_for1 2 (fun y => [(0, .inr (.inr (33, b1, 0))), (1, .inr (.inr (33, b2, 0))), (2, .inl y)]) (fun i y M1 => y = nI i ∧ (∀ k, M1 33 b2 0 k = if k < i then M 33 b1 0 k else M 33 b2 0 k) ∧ mF M M1 b2) 288 ?_ ?_ 0 0 M (Nat.zero_le _) ⟨nI_0.symm, fun k => (if_neg (by omega)).symm, mF_rf⟩
  · intro i y M1 hi hP K
    obtain ⟨hy, hc, hF⟩ := hP
    iterate 3 refine am_wp_step _ rfl ?_
    refine am_iteF (by rw [hy]; exact nI_ge (b := 288) hi (by decide)) ?_
    iterate 5 refine am_wp_step _ rfl ?_
    refine am_ixN i hy (by rw [hl1]; exact hi) (by rw [hl1]; decide) (fun e => ?_)
    rw [e]
    iterate 1 refine am_wp_step _ rfl ?_
    refine am_ixN i hy (by rw [hl2]; exact hi) (by rw [hl2]; decide) (fun e => ?_)
    rw [e]
    iterate 2 refine am_wp_step _ rfl ?_
    refine K _ _ ⟨by rw [hy, nI_1], fun k => ?_, mF_tr hF mF_up⟩
    dsimp only [am_S]
    by_cases hk : k = i
    · rw [hk, am_up_same, hF 33 b1 (by omega), if_pos (by omega)]
    · rw [am_up_s hk, hc k]
      by_cases hk2 : k < i
      · rw [if_pos hk2, if_pos (by omega)]
      · rw [if_neg hk2, if_neg (by omega)]
  · intro y M1 hP
    obtain ⟨hy, hc, hF⟩ := hP
    iterate 3 refine am_wp_step _ rfl ?_
    refine am_iteT (by rw [hy]; exact nI_le (b := 288) (Nat.le_refl _) (by decide)) ?_
    iterate 1 refine am_wp_step _ rfl ?_
    exact ⟨rfl, M1, rfl, hc, hF⟩
/-- what is kept aside -/
def AS (M : am_F) (a : Nat → Int32) : Prop := ∀ k, k < 288 → M 33 2 0 k = a k
theorem AS_B {M M' : am_F} {a : Nat → Int32} (h : mB M M') (hA : AS M a) : AS M' a := fun k hk => by rw [h 33 2 (by omega)]; exact hA k hk
theorem m_aside (d : Nat) (M : am_F) : ∃ M', am_cl am_cds (d + 1) 139 [.inr (.inr (33, 0, 0)), .inr (.inr (33, 2, 0))] (am_S M) none (am_S M') ∧ AS M' (M 33 0 0) ∧ M' 33 0 0 = M 33 0 0 ∧ kB M M' := by
  obtain ⟨M', c, h1, h2⟩ := m_copy d 0 2 M (by decide) (by decide) (by decide)
  exact ⟨M', c, fun k hk => by rw [h1 k, if_pos hk], by rw [h2 33 0 (by omega)], fun r bb h => h2 r bb (by omega)⟩
theorem m_putBack (d : Nat) (v : Int32) (a : Nat → Int32) (M : am_F) (hA : AS M a) (h288 : ∀ k, 288 ≤ k → M 33 0 0 k = a k) : ∃ M', am_cl am_cds (d + 2) 141 [.inr (.inr (26, 0, 0)), .inl v] (am_S M) (some (.inl v)) (am_S M') ∧ M' 33 0 0 = a ∧ AS M' a ∧ kB M M' := by
  refine am_cl_v (fun M' => M' 33 0 0 = a ∧ AS M' a ∧ kB M M') am_c141 rfl ?_
  iterate 5 refine am_wp_step _ rfl ?_
  refine am_call0 (m_copy d 2 0 M (by decide) (by decide) (by decide)) (fun M1 hh => ?_)
  iterate 2 refine am_wp_step _ rfl ?_
  refine ⟨trivial, rfl, M1, rfl, ?_, ?_, fun r bb h => hh.2 r bb (by omega)⟩
  · funext k
    rw [hh.1 k]
    by_cases hk : k < 288
    · rw [if_pos hk, hA k hk]
    · rw [if_neg hk, h288 k (by omega)]
  · intro k hk
    rw [hh.2 33 2 (by omega)]
    exact hA k hk
theorem kq_B {M M' : am_F} (h : kB M M') (h0 : M' 33 0 0 = M 33 0 0) : kM M M' ∧ NQ M M' := by
  refine ⟨(kN_B h).1, ?_⟩
  unfold NQ
  rw [h 33 1 (by omega), h 33 3 (by omega), h 33 8 (by omega), h 33 9 (by omega), h 33 10 (by omega), h 33 11 (by omega), h 26 0 (by omega)]
  exact ⟨h0, rfl, rfl, rfl, rfl, rfl, rfl, rfl, rfl⟩
theorem m_angersBy (d n m cnt : Nat) (ab : Int32) (a a1 : Nat → Int32) (M : am_F) (hA : AS M a) (h1 : M 33 0 0 = a1) (hG : GA n m a1) (h288 : ∀ k, 288 ≤ k → a1 k = a k) (hc : cnt < 2 ^ 31) : ∃ M', am_cl am_cds (d + 8) 193 [.inr (.inr (26, 0, 0)), .inl (nI cnt), .inl ab] (am_S M) (some (.inl (smF (rgN (gv (tx a1) 0) n m (odr a1 n) ab a1 cnt) 6 ab n))) (am_S M') ∧ M' 33 0 0 = a ∧ AS M' a ∧ kB M M' := by
  refine am_cl_v (fun M' => M' 33 0 0 = a ∧ AS M' a ∧ kB M M') am_c193 rfl ?_
  have ho : ∀ i, i < n → odr a1 n i < n := fun i hi => odr_lt hi
  subst h1
  iterate 5 refine am_wp_step _ rfl ?_
  refine am_call0 (m_bellsGo d n m cnt false ab M hG hc) (fun M1 hh => ?_)
  rw [bgN_f] at hh
  obtain ⟨g1, g2, g3⟩ := GA_rgN (E := gv (tx (M 33 0 0)) 0) (k := cnt) (ab := ab) ho hG
  iterate 5 refine am_wp_step _ rfl ?_
  refine ⟨_, _, m_sumOf _ 6 n ab M1 (by decide) hG.1 (by rw [hh.1]; exact g1.2.2.1), ?_⟩
  rw [hh.1]
  iterate 1 refine am_wp_step _ rfl ?_
  refine am_call1 (m_putBack _ _ a M1 (AS_B hh.2 hA) (fun k hk => ?_)) (fun M2 h2 => ?_)
  · rw [hh.1, rgN_out hG.2.1 ho (KC_hi hG.1 hG.2.1 (by omega))]
    exact h288 k hk
  iterate 1 refine am_wp_step _ rfl ?_
  exact ⟨trivial, rfl, M2, rfl, h2.1, h2.2.1, kB_tr (kB_B hh.2) h2.2.2⟩
