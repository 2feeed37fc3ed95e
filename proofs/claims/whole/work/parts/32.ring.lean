/-! A BOARD OF THE CLASS AND A ROW OF NUMBERS -/
def gA (a : Nat → Int32) (i : Nat) : Nat → Int32 := fun k => a (10 + 8 * i + k)
def hA (a : Nat → Int32) (i : Nat) : Nat → Int32 := fun k => a (74 + 5 * i + k)
def RB (M : am_F) (b n m : Nat) (o : Nat → Nat) (a : Nat → Int32) : Prop := M 16 b 0 1 = nI n ∧ M 16 b 0 3 = nI m ∧ M 16 b 0 5 = a 0 ∧ (∀ i k, i < n → k < 8 → M 18 b i k = a (10 + 8 * i + k)) ∧ (∀ i k, i < m → k < 5 → M 17 b i k = a (74 + 5 * i + k)) ∧ (∀ j, j < 4 → M 28 b 0 j = a (6 + j)) ∧ (∀ i, i < n → M 29 b 0 i = nI (o i))
/-- all but a board and the row of values is as it was -/
def FB (b : Nat) (M M' : am_F) : Prop := ∀ r bb, ¬ ((r = 16 ∨ r = 17 ∨ r = 18 ∨ r = 28 ∨ r = 29) ∧ bb = b) → ¬ ((r = 21 ∨ r = 27) ∧ bb = 1) → M' r bb = M r bb
theorem FB_rf {b : Nat} {M : am_F} : FB b M M := fun _ _ _ _ => rfl
theorem FB_tr {b : Nat} {M M1 M2 : am_F} (h1 : FB b M M1) (h2 : FB b M1 M2) : FB b M M2 := fun r bb h h' => (h2 r bb h h').trans (h1 r bb h h')
theorem FB_of {b : Nat} {M M' : am_F} (h : rwF M M' 1) : FB b M M' := fun r bb _ h' => h r bb h'
theorem FB_up {b r i s : Nat} {x : Int32} {M : am_F} (h : r = 16 ∨ r = 17 ∨ r = 18 ∨ r = 28 ∨ r = 29) : FB b M (am_up M r b i s x) := fun r' bb h1 _ => am_up_rb (fun q => h1 ⟨by rw [q.1]; exact h, q.2⟩)
theorem RB_cg {M M' : am_F} {b n m : Nat} {o : Nat → Nat} {a : Nat → Int32} (h : ∀ r, r = 16 ∨ r = 17 ∨ r = 18 ∨ r = 28 ∨ r = 29 → M' r b = M r b) (hR : RB M b n m o a) : RB M' b n m o a := by
  unfold RB at *
  rw [h 16 (by omega), h 17 (by omega), h 18 (by omega), h 28 (by omega), h 29 (by omega)]
  exact hR
theorem RB_rw {M M' : am_F} {b n m : Nat} {o : Nat → Nat} {a : Nat → Int32} (h : rwF M M' 1) (hR : RB M b n m o a) : RB M' b n m o a := RB_cg (fun r hr => h r b (by omega)) hR
theorem RB_g {M : am_F} {b n m i k : Nat} {o : Nat → Nat} {a : Nat → Int32} {v : Int32} (hn : n ≤ 8) (hi : i < n) (hk : k < 8) (hR : RB M b n m o a) : RB (am_up M 18 b i k v) b n m o (fu a (10 + 8 * i + k) v) := by
  unfold RB at *
  unfold am_up fu
  grind
theorem RB_h {M : am_F} {b n m i k : Nat} {o : Nat → Nat} {a : Nat → Int32} {v : Int32} (hn : n ≤ 8) (hi : i < m) (hk : k < 5) (hR : RB M b n m o a) : RB (am_up M 17 b i k v) b n m o (fu a (74 + 5 * i + k) v) := by
  unfold RB at *
  unfold am_up fu
  grind
theorem RB_u {M : am_F} {b n m j : Nat} {o : Nat → Nat} {a : Nat → Int32} {v : Int32} (hj : j < 4) (hR : RB M b n m o a) : RB (am_up M 28 b 0 j v) b n m o (fu a (6 + j) v) := by
  unfold RB at *
  unfold am_up fu
  grind
theorem RB_t {M : am_F} {b n m : Nat} {o : Nat → Nat} {a : Nat → Int32} {v : Int32} (hR : RB M b n m o a) : RB (am_up M 16 b 0 5 v) b n m o (fu a 0 v) := by
  unfold RB at *
  unfold am_up fu
  grind
def eat1 (E : Int32 → Int32 → Int32 → Int32 → Int32) (m d : Nat) (a : Nat → Int32) : Nat → Int32 :=
  if pk E (gA a d) (hA a) m < 0 then fu a (10 + 8 * d + 6) (sp_min 9999 (a (10 + 8 * d + 6) + 1))
  else fu (fu (fu a (74 + 5 * (pk E (gA a d) (hA a) m).toNatClampNeg + 2) (a (74 + 5 * (pk E (gA a d) (hA a) m).toNatClampNeg + 2) - tk E (gA a d) (hA a (pk E (gA a d) (hA a) m).toNatClampNeg))) (10 + 8 * d + 7) (sp_min 99999 (a (10 + 8 * d + 7) + tk E (gA a d) (hA a (pk E (gA a d) (hA a) m).toNatClampNeg)))) (10 + 8 * d + 6) 0
def rgG (E : Int32 → Int32 → Int32 → Int32 → Int32) (m : Nat) (o : Nat → Nat) (ab : Int32) (a : Nat → Int32) : Nat → Nat → Int32
  | 0 => a
  | k + 1 => if nI (o k) = ab then rgG E m o ab a k else eat1 E m (o k) (rgG E m o ab a k)
def clK (a : Nat → Int32) : Nat → Nat → Int32
  | 0 => a
  | k + 1 => fu (clK a k) (74 + 5 * k + 2) (sp_max 0 (clK a k (74 + 5 * k + 2) - (if clK a k (74 + 5 * k + 4) = -1 then 1 else 2)))
def hgK (a : Nat → Int32) : Nat → Nat → Int32
  | 0 => a
  | k + 1 => fu (hgK a k) (6 + k) (sp_min 9999 (hgK a k (6 + k) + 1))
def rg (E : Int32 → Int32 → Int32 → Int32 → Int32) (n m : Nat) (o : Nat → Nat) (ab : Int32) (a : Nat → Int32) : Nat → Int32 := fu (hgK (clK (rgG E m o ab a n) m) 4) 0 (hgK (clK (rgG E m o ab a n) m) 4 0 + 1)
theorem RB_pk {E : Int32 → Int32 → Int32 → Int32 → Int32} {M : am_F} {b n m i : Nat} {o : Nat → Nat} {a : Nat → Int32} (hm : m ≤ 8) (hi : i < n) (hR : RB M b n m o a) : pk E (M 18 b i) (M 17 b) m = pk E (gA a i) (hA a) m := pk_cg hm (fun k hk => hR.2.2.2.1 i k hi hk) (fun j hj k hk => hR.2.2.2.2.1 j k hj hk)
theorem RB_tk {E : Int32 → Int32 → Int32 → Int32 → Int32} {M : am_F} {b n m i j : Nat} {o : Nat → Nat} {a : Nat → Int32} (hi : i < n) (hj : j < m) (hR : RB M b n m o a) : tk E (M 18 b i) (M 17 b j) = tk E (gA a i) (hA a j) := tk_cg (fun k hk => hR.2.2.2.1 i k hi hk) (fun k hk => hR.2.2.2.2.1 j k hj hk)
theorem RB_gv {M : am_F} {b n m i k : Nat} {o : Nat → Nat} {a : Nat → Int32} (hi : i < n) (hk : k < 8) (hR : RB M b n m o a) : M 18 b i k = a (10 + 8 * i + k) := hR.2.2.2.1 i k hi hk
theorem RB_hv {M : am_F} {b n m i k : Nat} {o : Nat → Nat} {a : Nat → Int32} (hi : i < m) (hk : k < 5) (hR : RB M b n m o a) : M 17 b i k = a (74 + 5 * i + k) := hR.2.2.2.2.1 i k hi hk
theorem c_ring (d b n m : Nat) (o : Nat → Nat) (ab : Int32) (a x : Nat → Int32) (M : am_F) (hR : RT M 0 0 x) (hW : WX x 0) (hT : TC M) (hn : n ≤ 8) (hm : m ≤ 8) (ho : ∀ i, i < n → o i < n) (hB : RB M b n m o a) (hab : M 16 b 0 7 = ab) : ∃ M', am_cl am_cds (d + 6) 8 [.inr (.inr (16, b, 0)), .inr (.inr (24, 0, 0))] (am_S M) none (am_S M') ∧ RB M' b n m o (rg (gv x 0) n m o ab a) ∧ FB b M M' ∧ M' 16 b 0 7 = ab := by
  refine am_cl_v (fun M' => RB M' b n m o (rg (gv x 0) n m o ab a) ∧ FB b M M' ∧ M' 16 b 0 7 = ab) am_c8 rfl ?_
  iterate 2 refine am_wp_step _ rfl ?_
  refine am_for1 2 (fun y => [(0, .inr (.inr (16, b, 0))), (1, .inr (.inr (24, 0, 0))), (2, .inl y)]) (fun i y M1 => y = nI i ∧ RB M1 b n m o (rgG (gv x 0) m o ab a i) ∧ FB b M M1 ∧ M1 16 b 0 7 = ab) n ?_ ?_ 0 0 M (Nat.zero_le _) ⟨nI_0.symm, hB, FB_rf, hab⟩
  · intro i y M1 hi hP K
    obtain ⟨hy, hB1, hF, hab1⟩ := hP
    have hoi := ho i hi
    have e29 : M1 29 b 0 i = nI (o i) := hB1.2.2.2.2.2.2 i hi
    have hnx : y + 1 = nI (i + 1) := by rw [hy, nI_1]
    have hR1 : RT M1 0 0 x := ⟨by rw [hF 21 _ (by omega) (by omega)]; exact hR.1, fun j hj => by rw [hF 27 _ (by omega) (by omega)]; exact hR.2 j hj⟩
    have hT1 : TC M1 := by
      unfold TC
      rw [hF 24 0 (by omega) (by omega), hF 24 1 (by omega) (by omega)]
      exact hT
    iterate 4 refine am_wp_step _ rfl ?_
    refine am_iteF (by show ¬ M1 16 b 0 1 ≤ y; rw [hB1.1, hy]; exact nI_ge hi (by omega)) ?_
    iterate 4 refine am_wp_step _ rfl ?_
    refine am_ixN (i) (hy) (show _ < 8 by omega) (show (8 : Nat) < 2 ^ 31 by decide) (fun hix => ?_)
    rw [hix, show (am_S M1).2.2 29 b 0 i = nI (o i) from e29]
    iterate 3 refine am_wp_step _ rfl ?_
    refine am_ite (fun h => ?_) (fun h => ?_)
    · have h : nI (o i) ≠ M1 16 b 0 7 := h
      rw [hab1] at h
      iterate 6 refine am_wp_step _ rfl ?_
      refine am_ixN (i) (hy) (show _ < 8 by omega) (show (8 : Nat) < 2 ^ 31 by decide) (fun hix2 => ?_)
      rw [hix2, show (am_S M1).2.2 29 b 0 i = nI (o i) from e29]
      iterate 1 refine am_wp_step _ rfl ?_
      refine am_ixN (o i) (rfl) (show _ < 8 by omega) (show (8 : Nat) < 2 ^ 31 by decide) (fun hix3 => ?_)
      rw [hix3]
      iterate 5 refine am_wp_step _ rfl ?_
      refine am_call1 (c_pick d b (o i) m x M1 hR1 hW hT1 hm hB1.2.1) (fun M2 hF2 => ?_)
      have hB2 := RB_rw hF2 hB1
      rw [RB_pk hm hoi hB1]
      have e7 : M2 16 b 0 7 = ab := by rw [hF2 16 b (by omega)]; exact hab1
      generalize ha1 : rgG (gv x 0) m o ab a i = a1 at *
      iterate 3 refine am_wp_step _ rfl ?_
      refine am_ite (fun h3 => ?_) (fun h3 => ?_)
      · rcases pkx_lt (gv x 0) (gA a1 (o i)) (hA a1) m with q | ⟨j, hj, q⟩
        · rw [q] at h3
          exact absurd h3 (by decide)
        · rw [q]
          have hR2 := RT_cg hF2 rfl hR1
          have hT2 : TC M2 := by
            unfold TC
            rw [hF2 24 0 (by omega), hF2 24 1 (by omega)]
            exact hT1
          iterate 5 refine am_wp_step _ rfl ?_
          refine am_ixN (j) (rfl) (show _ < 8 by omega) (show (8 : Nat) < 2 ^ 31 by decide) (fun hix4 => ?_)
          rw [hix4]
          iterate 5 refine am_wp_step _ rfl ?_
          refine am_ixN (j) (rfl) (show _ < 8 by omega) (show (8 : Nat) < 2 ^ 31 by decide) (fun hix5 => ?_)
          rw [hix5]
          iterate 2 refine am_wp_step _ rfl ?_
          refine am_call1 (c_heatTaken _ b (o i) j x M2 hR2 hW hT2) (fun M3 hF3 => ?_)
          have hB3 := RB_rw hF3 hB2
          rw [RB_tk hoi hj hB2]
          iterate 1 refine am_wp_step _ rfl ?_
          refine ⟨_, c_eatOf _ _ _ _ _ _, ?_⟩
          iterate 2 refine am_wp_step _ rfl ?_
          refine K _ _ ⟨hnx, ?_, ?_, ?_⟩
          · unfold rgG
            rw [if_neg h, ha1]
            unfold eat1
            rw [q, if_neg (nI_pos (by omega)), nI_clamp (by omega), ← RB_hv hj (by decide) hB3, ← RB_gv hoi (by decide) hB3]
            exact RB_g hn hoi (by decide) (RB_g hn hoi (by decide) (RB_h hn hj (by decide) hB3))
          · exact FB_tr hF (FB_tr (FB_of hF2) (FB_tr (FB_of hF3) (FB_tr (FB_up (by omega)) (FB_tr (FB_up (by omega)) (FB_up (by omega))))))
          · rw [am_up_r (by decide), am_up_r (by decide), am_up_r (by decide), hF3 16 b (by omega)]
            exact e7
      · iterate 2 refine am_wp_step _ rfl ?_
        refine ⟨_, c_goHungry _ _ _ _, ?_⟩
        iterate 3 refine am_wp_step _ rfl ?_
        refine K _ _ ⟨hnx, ?_, ?_, ?_⟩
        · unfold rgG
          rw [if_neg h, ha1]
          unfold eat1
          rw [if_pos (Int32.not_le.mp h3), ← RB_gv hoi (by decide) hB2]
          exact RB_g hn hoi (by decide) hB2
        · exact FB_tr hF (FB_tr (FB_of hF2) (FB_up (by omega)))
        · rw [am_up_r (by decide)]
          exact e7
    · have h : ¬ nI (o i) ≠ M1 16 b 0 7 := h
      rw [hab1] at h
      iterate 3 refine am_wp_step _ rfl ?_
      refine K _ _ ⟨hnx, ?_, hF, hab1⟩
      unfold rgG
      rw [if_pos (Decidable.not_not.mp h)]
      exact hB1
  · intro y M1 hP
    obtain ⟨hy, hB1, hF, hab1⟩ := hP
    iterate 4 refine am_wp_step _ rfl ?_
    refine am_iteT (by show M1 16 b 0 1 ≤ y; rw [hB1.1, hy]; exact nI_le (Nat.le_refl _) (by omega)) ?_
    iterate 2 refine am_wp_step _ rfl ?_
    refine am_for1 49 (fun y => [(0, .inr (.inr (16, b, 0))), (1, .inr (.inr (24, 0, 0))), (2, .inl y)]) (fun i y M1 => y = nI i ∧ RB M1 b n m o (clK (rgG (gv x 0) m o ab a n) i) ∧ FB b M M1 ∧ M1 16 b 0 7 = ab) m ?_ ?_ 0 0 M1 (Nat.zero_le _) ⟨nI_0.symm, hB1, hF, hab1⟩
    · intro i y M1 hi hP K
      obtain ⟨hy, hB1, hF, hab1⟩ := hP
      have hnx : y + 1 = nI (i + 1) := by rw [hy, nI_1]
      iterate 4 refine am_wp_step _ rfl ?_
      refine am_iteF (by show ¬ M1 16 b 0 3 ≤ y; rw [hB1.2.1, hy]; exact nI_ge hi (by omega)) ?_
      iterate 4 refine am_wp_step _ rfl ?_
      refine am_ixN (i) (hy) (show _ < 8 by omega) (show (8 : Nat) < 2 ^ 31 by decide) (fun hix => ?_)
      rw [hix]
      iterate 1 refine am_wp_step _ rfl ?_
      refine ⟨_, c_cool _ _ _ _, ?_⟩
      iterate 2 refine am_wp_step _ rfl ?_
      refine K _ _ ⟨hnx, ?_, FB_tr hF (FB_up (by omega)), ?_⟩
      · unfold clK
        rw [← RB_hv hi (by decide) hB1, ← RB_hv hi (by decide) hB1]
        exact RB_h hn hi (by decide) hB1
      · rw [am_up_r (by decide)]
        exact hab1
    · intro y M1 hP
      obtain ⟨hy, hB1, hF, hab1⟩ := hP
      iterate 4 refine am_wp_step _ rfl ?_
      refine am_iteT (by show M1 16 b 0 3 ≤ y; rw [hB1.2.1, hy]; exact nI_le (Nat.le_refl _) (by omega)) ?_
      iterate 2 refine am_wp_step _ rfl ?_
      refine am_for1 62 (fun y => [(0, .inr (.inr (16, b, 0))), (1, .inr (.inr (24, 0, 0))), (2, .inl y)]) (fun i y M1 => y = nI i ∧ RB M1 b n m o (hgK (clK (rgG (gv x 0) m o ab a n) m) i) ∧ FB b M M1 ∧ M1 16 b 0 7 = ab) 4 ?_ ?_ 0 0 M1 (Nat.zero_le _) ⟨nI_0.symm, hB1, hF, hab1⟩
      · intro i y M1 hi hP K
        obtain ⟨hy, hB1, hF, hab1⟩ := hP
        have hnx : y + 1 = nI (i + 1) := by rw [hy, nI_1]
        iterate 3 refine am_wp_step _ rfl ?_
        refine am_iteF (by rw [hy]; exact nI_ge (b := 4) hi (by decide)) ?_
        iterate 8 refine am_wp_step _ rfl ?_
        refine am_ixN (i) (hy) (show _ < 4 by omega) (show (4 : Nat) < 2 ^ 31 by decide) (fun hix => ?_)
        rw [hix]
        iterate 3 refine am_wp_step _ rfl ?_
        refine ⟨_, _, c_min _ _ _ _, ?_⟩
        iterate 1 refine am_wp_step _ rfl ?_
        refine am_ixN (i) (hy) (show _ < 4 by omega) (show (4 : Nat) < 2 ^ 31 by decide) (fun hix2 => ?_)
        rw [hix2]
        iterate 2 refine am_wp_step _ rfl ?_
        refine K _ _ ⟨hnx, ?_, FB_tr hF (FB_up (by omega)), ?_⟩
        · unfold hgK
          rw [← hB1.2.2.2.2.2.1 i hi]
          exact RB_u hi hB1
        · dsimp only [am_S]
          rw [am_up_r (by decide)]
          exact hab1
      · intro y M1 hP
        obtain ⟨hy, hB1, hF, hab1⟩ := hP
        iterate 3 refine am_wp_step _ rfl ?_
        refine am_iteT (by rw [hy]; exact nI_le (b := 4) (Nat.le_refl _) (by omega)) ?_
        iterate 7 refine am_wp_step _ rfl ?_
        refine ⟨rfl, _, rfl, ?_, FB_tr hF (FB_up (by omega)), ?_⟩
        · unfold rg
          rw [← hB1.2.2.1]
          exact RB_t hB1
        · dsimp only [am_S]
          rw [am_up_s (by decide)]
          exact hab1
