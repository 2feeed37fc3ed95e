/-! THE TABLE -/
def dg (row p i : Nat) : Nat := row / 2 ^ (2 * (p - 1 - i)) % 4
theorem dg_lt (row p i : Nat) : dg row p i < 4 := Nat.mod_lt _ (by decide)
theorem dg_e {row p i : Nat} (hr : row < 2 ^ 31) (hp : p ≤ 5) (hi : i < p) : nI row >>> ((2 * (nI p - 1 - nI i)) &&& 31) &&& 3 = nI (dg row p i) := by
  have e1 : nI p - 1 - nI i = nI (p - 1 - i) := by
    rw [show nI p - 1 = nI (p - 1) from pk_sub (b := 1) (by omega), pk_sub (by omega)]
  rw [e1, show (2 : Int32) * nI (p - 1 - i) = nI (2 * (p - 1 - i)) from nI_mul 2 _, pk_shrN hr _ (2 * (p - 1 - i)) (s_l _ (by omega))]
  have hd : row / 2 ^ (2 * (p - 1 - i)) < 2 ^ 31 := Nat.lt_of_le_of_lt (Nat.div_le_self _ _) hr
  rw [pk_andN (by omega) 2 (by decide)]
  rfl
theorem c_placeIn (d row p i : Nat) (me : am_M) (hr : row < 2 ^ 31) (hp : p ≤ 5) (hi : i < p) : am_cl am_cds (d + 1) 132 [.inl (nI row), .inl (nI p), .inl (nI i)] me (some (.inl (nI (dg row p i)))) me := by
  refine am_cl_in am_c132 rfl ?_
  repeat' first | refine am_wp_step _ rfl ?_ | refine am_iteB (fun h => ?_) (fun h => ?_) | refine am_iteN (fun h => ?_) (fun h => ?_) | refine am_ite (fun h => ?_) (fun h => ?_) | fail
  exact ⟨trivial, by rw [dg_e hr hp hi], rfl⟩
theorem m_digit (d row p i : Nat) (me : am_M) (hr : row < 2 ^ 31) (hp : p ≤ 5) (hi : i < p) : am_cl am_cds (d + 1) 195 [.inr (.inr (26, 0, 0)), .inl (nI row), .inl (nI p), .inl (nI i)] me (some (.inl (nI (dg row p i)))) me := by
  refine am_cl_in am_c195 rfl ?_
  repeat' first | refine am_wp_step _ rfl ?_ | refine am_iteB (fun h => ?_) (fun h => ?_) | refine am_iteN (fun h => ?_) (fun h => ?_) | refine am_ite (fun h => ?_) (fun h => ?_) | fail
  exact ⟨trivial, by rw [dg_e hr hp hi], rfl⟩
def plS (a : Nat → Int32) (set s : Nat) : Nat → Nat → Int32
  | 0 => a
  | i + 1 => fu (plS a set s i) (74 + 5 * i + 4) (if set.testBit i = true then nI s else -1)
def aR (a : Nat → Int32) (row p : Nat) : Nat → Nat → Int32
  | 0 => a
  | i + 1 => fu (aR a row p i) (74 + 5 * i + 4) (if dg row p i = 3 then -1 else nI (dg row p i))
def stN (row p s : Nat) : Nat → Nat
  | 0 => 0
  | i + 1 => if dg row p i = s then stN row p s i + 2 ^ i else stN row p s i
theorem stN_lt (row p s k : Nat) : stN row p s k < 2 ^ k := by
  induction k with
  | zero => exact Nat.one_pos
  | succ k ih =>
    show (if dg row p k = s then stN row p s k + 2 ^ k else stN row p s k) < 2 ^ (k + 1)
    rw [Nat.pow_succ]
    split <;> omega
theorem stN_bit (row p s k i : Nat) (hi : i < k) : (stN row p s k).testBit i = decide (dg row p i = s) := by
  induction k with
  | zero => omega
  | succ k ih =>
    show (if dg row p k = s then stN row p s k + 2 ^ k else stN row p s k).testBit i = _
    have hl := stN_lt row p s k
    by_cases hik : i = k
    · subst hik
      split
      · rename_i h
        rw [Nat.add_comm, Nat.testBit_two_pow_add_eq, Nat.testBit_lt_two_pow hl, decide_eq_true h]
        rfl
      · rename_i h
        rw [Nat.testBit_lt_two_pow hl, decide_eq_false h]
    · have ih := ih (by omega)
      split
      · rw [Nat.add_comm, Nat.testBit_two_pow_add_gt (by omega), ih]
      · exact ih
theorem plS_v (a : Nat → Int32) (set s k : Nat) : (∀ j, j < k → plS a set s k (74 + 5 * j + 4) = if set.testBit j = true then nI s else -1) ∧ ∀ c, (∀ j, j < k → c ≠ 74 + 5 * j + 4) → plS a set s k c = a c := by
  induction k with
  | zero => exact ⟨fun j hj => absurd hj (Nat.not_lt_zero _), fun _ _ => rfl⟩
  | succ k ih =>
    obtain ⟨i1, i2⟩ := ih
    refine ⟨fun j hj => ?_, fun c hc => ?_⟩
    · show fu (plS a set s k) _ _ _ = _
      by_cases hjk : j = k
      · rw [hjk, fu_at]
      · rw [fu_ne (by omega)]
        exact i1 j (by omega)
    · show fu (plS a set s k) _ _ _ = _
      rw [fu_ne (hc k (by omega))]
      exact i2 c (fun j hj => hc j (by omega))
theorem aR_v (a : Nat → Int32) (row p k : Nat) : (∀ j, j < k → aR a row p k (74 + 5 * j + 4) = if dg row p j = 3 then -1 else nI (dg row p j)) ∧ ∀ c, (∀ j, j < k → c ≠ 74 + 5 * j + 4) → aR a row p k c = a c := by
  induction k with
  | zero => exact ⟨fun j hj => absurd hj (Nat.not_lt_zero _), fun _ _ => rfl⟩
  | succ k ih =>
    obtain ⟨i1, i2⟩ := ih
    refine ⟨fun j hj => ?_, fun c hc => ?_⟩
    · show fu (aR a row p k) _ _ _ = _
      by_cases hjk : j = k
      · rw [hjk, fu_at]
      · rw [fu_ne (by omega)]
        exact i1 j (by omega)
    · show fu (aR a row p k) _ _ _ = _
      rw [fu_ne (hc k (by omega))]
      exact i2 c (fun j hj => hc j (by omega))
theorem GA_aR {n m row p k : Nat} {a : Nat → Int32} (hk : k ≤ m) (hG : GA n m a) : GA n m (aR a row p k) ∧ tx (aR a row p k) = tx a ∧ odr (aR a row p k) n = odr a n := by
  have hn := hG.1
  have hm := hG.2.1
  refine ⟨?_, tx_of fun c hc => (aR_v a row p k).2 c (fun j hj => by omega), odr_cg fun j hj => (aR_v a row p k).2 _ (fun j hj => by omega)⟩
  induction k with
  | zero => exact hG
  | succ k ih =>
    refine GA_h (by omega) (by decide) ?_ (ih (by omega))
    unfold okH
    refine ⟨fun q => by omega, fun q => by omega, fun _ => ?_⟩
    have := dg_lt row p k
    split
    · exact ⟨by decide, by decide⟩
    · refine ⟨?_, nI_le (b := 2) (by omega) (by decide)⟩
      have h0 := nI_pos' (n := dg row p k) (by omega)
      generalize nI (dg row p k) = w at h0
      lia
theorem VS_tab {n m row p s : Nat} {a : Nat → Int32} (hn : n ≤ 8) (hs : s < 3) (hp : p ≤ m) : VS n m (nI s) (aR a row p p) (plS a (stN row p s p) s p) := by
  obtain ⟨r1, r2⟩ := aR_v a row p p
  obtain ⟨s1, s2⟩ := plS_v a (stN row p s p) s p
  refine ⟨fun i hi k hk => ?_, fun i hi _ => ?_, fun j hj => ?_⟩
  · rw [r2 _ (fun j hj => by omega), s2 _ (fun j hj => by omega)]
  · rw [r2 _ (fun j hj => by omega), s2 _ (fun j hj => by omega)]
  · rw [r2 (74 + 5 * j + 0) (fun t ht => by omega), s2 (74 + 5 * j + 0) (fun t ht => by omega), r2 (74 + 5 * j + 2) (fun t ht => by omega), s2 (74 + 5 * j + 2) (fun t ht => by omega)]
    refine ⟨?_, fun _ => ⟨rfl, rfl⟩⟩
    by_cases hjp : j < p
    · rw [r1 j hjp, s1 j hjp, stN_bit row p s p j hjp]
      have hd := dg_lt row p j
      have hm1 : ¬ (-1 : Int32) = nI s := fun q => nI_nm1 (by omega) q.symm
      by_cases h : dg row p j = s
      · rw [if_neg (by omega), if_pos (by rw [decide_eq_true h]), h]
      · rw [if_neg (show ¬ decide (dg row p j = s) = true by rw [decide_eq_false h]; decide)]
        refine ⟨fun q => ?_, fun q => absurd q hm1⟩
        exfalso
        by_cases h3 : dg row p j = 3
        · rw [if_pos h3] at q
          exact hm1 q
        · rw [if_neg h3] at q
          exact h ((nI_eq (by omega) (by omega)).mp q)
    · rw [r2 _ (fun t ht => by omega), s2 _ (fun t ht => by omega)]
theorem bit5 : ∀ i, i < 5 → ∀ set, set < 32 → nI set >>> (nI i &&& 31) &&& 1 = if set.testBit i = true then 1 else 0 := by decide +kernel
theorem or5 : ∀ i, i < 5 → ∀ x, x < 32 → x < 2 ^ i → nI x ||| ((1 : Int32) <<< (nI i &&& 31)) = nI (x + 2 ^ i) := by decide +kernel
theorem sh5 : ∀ p, p < 6 → (1 : Int32) <<< (nI p &&& 31) = nI (2 ^ p) := by decide +kernel
theorem sh10 : ∀ p, p < 6 → (1 : Int32) <<< ((2 * nI p) &&& 31) = nI (4 ^ p) := by decide +kernel
theorem c_placeSet (d n m p s set : Nat) (o : Nat → Nat) (a : Nat → Int32) (M : am_F) (hn : n ≤ 8) (hm : m ≤ 8) (hp : p ≤ 5) (hpm : p ≤ m) (hset : set < 32) (hB : RB M 2 n m o a) (hab : M 16 2 0 7 = -1) : ∃ M', am_cl am_cds (d + 1) 9 [.inr (.inr (16, 2, 0)), .inl (nI set), .inl (nI p), .inl (nI s)] (am_S M) none (am_S M') ∧ RB M' 2 n m o (plS a set s p) ∧ M' 16 2 0 7 = -1 ∧ fBd 2 M M' := by
  refine am_cl_v (fun M' => RB M' 2 n m o (plS a set s p) ∧ M' 16 2 0 7 = -1 ∧ fBd 2 M M') am_c9 rfl ?_
  iterate 2 refine am_wp_step _ rfl ?_
  refine am_for1 2 (fun w => [(0, .inr (.inr (16, 2, 0))), (1, .inl (nI set)), (2, .inl (nI p)), (3, .inl (nI s)), (4, .inl w)]) (fun i w M' => w = nI i ∧ RB M' 2 n m o (plS a set s i) ∧ M' 16 2 0 7 = -1 ∧ fBd 2 M M') p ?_ ?_ 0 0 M (Nat.zero_le _) ⟨nI_0.symm, hB, hab, fBd_rf⟩
  · intro i w M1 hi hP K
    obtain ⟨rfl, hB1, hab1, hF⟩ := hP
    iterate 3 refine am_wp_step _ rfl ?_
    refine am_iteF (nI_ge hi (by omega)) ?_
    iterate 4 refine am_wp_step _ rfl ?_
    refine am_iteF (by show ¬ M1 16 2 0 3 ≤ nI i; rw [hB1.2.1]; exact nI_ge (by omega) (by omega)) ?_
    iterate 4 refine am_wp_step _ rfl ?_
    refine am_ixN (i) (rfl) (show _ < 8 by omega) (show (8 : Nat) < 2 ^ 31 by decide) (fun e => ?_); rw [e]
    iterate 6 refine am_wp_step _ rfl ?_
    by_cases hb : set.testBit i = true
    · refine am_iteF (by rw [bit5 i (by omega) set hset, if_pos hb]; decide) ?_
      iterate 5 refine am_wp_step _ rfl ?_
      refine K _ _ ⟨nI_1 i, ?_, ?_, fBd_tr hF (fBd_up (by decide))⟩
      · show RB _ 2 n m o (fu (plS a set s i) (74 + 5 * i + 4) (if set.testBit i = true then nI s else -1))
        rw [if_pos hb]
        exact RB_h hn (by omega) (by decide) hB1
      · dsimp only [am_S]; rw [am_up_r (by decide)]; exact hab1
    · refine am_iteT (by rw [bit5 i (by omega) set hset, if_neg hb]) ?_
      iterate 4 refine am_wp_step _ rfl ?_
      refine K _ _ ⟨nI_1 i, ?_, ?_, fBd_tr hF (fBd_up (by decide))⟩
      · show RB _ 2 n m o (fu (plS a set s i) (74 + 5 * i + 4) (if set.testBit i = true then nI s else -1))
        rw [if_neg hb]
        exact RB_h hn (by omega) (by decide) hB1
      · dsimp only [am_S]; rw [am_up_r (by decide)]; exact hab1
  · intro w M1 hP
    obtain ⟨rfl, hB1, hab1, hF⟩ := hP
    iterate 3 refine am_wp_step _ rfl ?_
    refine am_iteT (nI_le (Nat.le_refl _) (by omega)) ?_
    iterate 1 refine am_wp_step _ rfl ?_
    exact ⟨rfl, M1, rfl, hB1, hab1, hF⟩
theorem c_angerAt (d b n m : Nat) (o : Nat → Nat) (s : Int32) (a : Nat → Int32) (M : am_F) (hn : n ≤ 8) (hB : RB M b n m o a) : am_cl am_cds (d + 1) 11 [.inr (.inr (16, b, 0)), .inl s] (am_S M) (some (.inl (smS a s n))) (am_S M) := by
  refine am_cl_in am_c11 rfl ?_
  iterate 4 refine am_wp_step _ rfl ?_
  refine am_for2 4 (fun x y => [(0, .inr (.inr (16, b, 0))), (1, .inl s), (2, .inl x), (3, .inl y)]) (fun i x y M1 => y = nI i ∧ x = smS a s i ∧ M1 = M) n ?_ ?_ 0 0 0 M (Nat.zero_le _) ⟨nI_0.symm, rfl, rfl⟩
  · intro i x y M1 hi hP K
    obtain ⟨rfl, hx, rfl⟩ := hP
    have e5 : M1 18 b i 5 = a (10 + 8 * i + 5) := RB_gv hi (by decide) hB
    have e6 : M1 18 b i 6 = a (10 + 8 * i + 6) := RB_gv hi (by decide) hB
    iterate 4 refine am_wp_step _ rfl ?_
    refine am_iteF (by show ¬ M1 16 b 0 1 ≤ nI i; rw [hB.1]; exact nI_ge hi (by omega)) ?_
    iterate 5 refine am_wp_step _ rfl ?_
    refine am_ixN (i) (rfl) (show _ < 8 by omega) (show (8 : Nat) < 2 ^ 31 by decide) (fun e => ?_); rw [e]
    iterate 3 refine am_wp_step _ rfl ?_
    refine am_ite (fun h => ?_) (fun h => ?_)
    · have h : M1 18 b i 5 ≠ s := h
      rw [e5] at h
      iterate 5 refine am_wp_step _ rfl ?_
      refine K _ _ _ ⟨nI_1 i, ?_, rfl⟩
      show x + 0 = smS a s i + _
      rw [if_neg h, hx]
    · have h : ¬ M1 18 b i 5 ≠ s := h
      rw [e5] at h
      iterate 4 refine am_wp_step _ rfl ?_
      refine am_ixN (i) (rfl) (show _ < 8 by omega) (show (8 : Nat) < 2 ^ 31 by decide) (fun e => ?_); rw [e]
      iterate 6 refine am_wp_step _ rfl ?_
      refine K _ _ _ ⟨nI_1 i, ?_, rfl⟩
      show x + M1 18 b i 6 = smS a s i + _
      rw [if_pos (Decidable.not_not.mp h), hx, e6]
  · intro x y M1 hP
    obtain ⟨rfl, hx, rfl⟩ := hP
    iterate 4 refine am_wp_step _ rfl ?_
    refine am_iteT (by show M1 16 b 0 1 ≤ nI n; rw [hB.1]; exact nI_le (Nat.le_refl _) (by omega)) ?_
    iterate 2 refine am_wp_step _ rfl ?_
    exact ⟨trivial, by rw [hx], rfl⟩
def F30 (M M' : am_F) : Prop := ∀ r bb, ¬ ((r = 16 ∨ r = 17 ∨ r = 18 ∨ r = 28 ∨ r = 29) ∧ bb = 2) → ¬ ((r = 21 ∨ r = 27) ∧ bb = 1) → r ≠ 30 → M' r bb = M r bb
theorem F30_rf {M : am_F} : F30 M M := fun _ _ _ _ _ => rfl
theorem F30_tr {M M1 M2 : am_F} (h1 : F30 M M1) (h2 : F30 M1 M2) : F30 M M2 := fun r bb a b c => (h2 r bb a b c).trans (h1 r bb a b c)
theorem F30_FB {M M' : am_F} (h : FB 2 M M') : F30 M M' := fun r bb a b _ => h r bb a b
theorem cS_F30 {M M' : am_F} (h : F30 M M') : cS M M' := fun r bb a b c _ _ => h r bb a (by omega) c
def SAv (E : Int32 → Int32 → Int32 → Int32 → Int32) (n m : Nat) (o : Nat → Nat) (a : Nat → Int32) (cnt p s set : Nat) : Int32 := smS (rgN E n m o (-1) (plS a set s p) cnt) (nI s) n
theorem c_findSA (d n m p cnt : Nat) (o : Nat → Nat) (a x : Nat → Int32) (M : am_F) (hR : RT M 0 0 x) (hW : WX x 0) (hT : TC M) (hn : n ≤ 8) (hm : m ≤ 8) (hp : p ≤ 5) (hpm : p ≤ m) (ho : ∀ i, i < n → o i < n) (hB : RB M 0 n m o a) (hab : M 16 0 0 7 = -1) (hc : cnt < 2 ^ 31) : ∃ M', am_cl am_cds (d + 7) 129 [.inr (.inr (25, 0, 0)), .inl (nI cnt), .inl (nI p)] (am_S M) none (am_S M') ∧ (∀ s set, s < 3 → set < 2 ^ p → M' 30 0 0 (32 * s + set) = SAv (gv x 0) n m o a cnt p s set) ∧ F30 M M' := by
  have hp2 : 2 ^ p ≤ 32 := by
    rcases (by omega : p = 0 ∨ p = 1 ∨ p = 2 ∨ p = 3 ∨ p = 4 ∨ p = 5) with rfl | rfl | rfl | rfl | rfl | rfl <;> decide
  refine am_cl_v (fun M' => (∀ s set, s < 3 → set < 2 ^ p → M' 30 0 0 (32 * s + set) = SAv (gv x 0) n m o a cnt p s set) ∧ F30 M M') am_c129 rfl ?_
  iterate 2 refine am_wp_step _ rfl ?_
  refine am_for1 2 (fun w => [(0, .inr (.inr (25, 0, 0))), (1, .inl (nI cnt)), (2, .inl (nI p)), (3, .inl w)]) (fun sh w M1 => w = nI sh ∧ (∀ s set, s < sh → set < 2 ^ p → M1 30 0 0 (32 * s + set) = SAv (gv x 0) n m o a cnt p s set) ∧ F30 M M1) 3 ?_ ?_ 0 0 M (Nat.zero_le _) ⟨nI_0.symm, fun s set hs => absurd hs (Nat.not_lt_zero _), F30_rf⟩
  · intro sh w M1 hsh hP K
    obtain ⟨rfl, h1, hF⟩ := hP
    iterate 3 refine am_wp_step _ rfl ?_
    refine am_iteF (nI_ge (b := 3) hsh (by decide)) ?_
    iterate 2 refine am_wp_step _ rfl ?_
    refine am_for1 7 (fun w => [(0, .inr (.inr (25, 0, 0))), (1, .inl (nI cnt)), (2, .inl (nI p)), (3, .inl (nI sh)), (4, .inl w)]) (fun st w M1 => w = nI st ∧ (∀ s set, s < sh ∨ s = sh ∧ set < st → set < 2 ^ p → M1 30 0 0 (32 * s + set) = SAv (gv x 0) n m o a cnt p s set) ∧ F30 M M1) (2 ^ p) ?_ ?_ 0 0 M1 (Nat.zero_le _) ⟨nI_0.symm, fun s set hs h2 => h1 s set (by omega) h2, hF⟩
    · intro st w M1 hst hP K2
      obtain ⟨rfl, h1, hF⟩ := hP
      have hB1 : RB M1 0 n m o a := RB_cg (fun r hr => hF r 0 (by omega) (by omega) (by omega)) hB
      have hab1 : M1 16 0 0 7 = -1 := by rw [hF 16 0 (by omega) (by omega) (by omega)]; exact hab
      iterate 5 refine am_wp_step _ rfl ?_
      refine am_iteF (by rw [sh5 p (by omega)]; exact nI_ge hst (by omega)) ?_
      iterate 6 refine am_wp_step _ rfl ?_
      refine am_call0 (c_copyBoard _ 2 0 n m o (-1) a M1 (by decide) hn hm hB1 hab1) (fun M2 hh => ?_)
      obtain ⟨q1, q2, q3⟩ := hh
      iterate 6 refine am_wp_step _ rfl ?_
      refine am_call0 (c_placeSet _ n m p sh st o a M2 hn hm hp hpm (by omega) q1 q2) (fun M3 hh => ?_)
      obtain ⟨t1, t2, t3⟩ := hh
      have hF3 : F30 M M3 := F30_tr hF (F30_FB (FB_fBd (fBd_tr q3 t3)))
      have k30 : M3 30 = M1 30 := by
        funext bb
        rw [t3 30 bb (by omega), q3 30 bb (by omega)]
      iterate 2 refine am_wp_step _ rfl ?_
      refine am_for1 26 (fun w => [(0, .inr (.inr (25, 0, 0))), (1, .inl (nI cnt)), (2, .inl (nI p)), (3, .inl (nI sh)), (4, .inl (nI st)), (5, .inl w)]) (fun i w M4 => w = nI i ∧ RB M4 2 n m o (rgN (gv x 0) n m o (-1) (plS a st sh p) i) ∧ M4 16 2 0 7 = -1 ∧ F30 M M4 ∧ M4 30 = M1 30) cnt ?_ ?_ 0 0 M3 (Nat.zero_le _) ⟨nI_0.symm, t1, t2, hF3, k30⟩
      · intro i w M4 hi hP K3
        obtain ⟨rfl, g1, g2, g3, g4⟩ := hP
        have hR4 : RT M4 0 0 x := RT_cg2 (g3 21 _ (by omega) (by omega) (by omega)) (g3 27 _ (by omega) (by omega) (by omega)) hR
        have hT4 : TC M4 := TC_cg (funext fun bb => g3 24 bb (by omega) (by omega) (by omega)) hT
        iterate 3 refine am_wp_step _ rfl ?_
        refine am_iteF (nI_ge hi hc) ?_
        iterate 6 refine am_wp_step _ rfl ?_
        refine am_call0 (c_ring _ 2 n m o (-1) _ x M4 hR4 hW hT4 hn hm ho g1 g2) (fun M5 hh => ?_)
        iterate 2 refine am_wp_step _ rfl ?_
        exact K3 _ _ ⟨nI_1 i, hh.1, hh.2.2, F30_tr g3 (F30_FB hh.2.1), by rw [← g4]; funext bb; exact hh.2.1 30 bb (by omega) (by omega)⟩
      · intro w M4 hP
        obtain ⟨rfl, g1, g2, g3, g4⟩ := hP
        iterate 3 refine am_wp_step _ rfl ?_
        refine am_iteT (nI_le (Nat.le_refl _) hc) ?_
        iterate 11 refine am_wp_step _ rfl ?_
        refine ⟨_, _, c_angerAt _ 2 n m o (nI sh) _ M4 hn g1, ?_⟩
        iterate 1 refine am_wp_step _ rfl ?_
        refine am_ixN (32 * sh + st) ((by rw [show nI sh * 32 = nI (32 * sh) from by rw [show nI sh * 32 = nI (sh * 32) from nI_mul sh 32, Nat.mul_comm]]; exact nI_add _ _)) (show _ < 96 by omega) (show (96 : Nat) < 2 ^ 31 by decide) (fun e => ?_); rw [e]
        iterate 2 refine am_wp_step _ rfl ?_
        refine K2 _ _ ⟨nI_1 st, fun s set hs h2 => ?_, F30_tr g3 (fun r bb _ _ h => congrFun (am_up_r h) bb)⟩
        dsimp only [am_S]
        by_cases hq : 32 * s + set = 32 * sh + st
        · have e1 : s = sh := by omega
          have e2 : set = st := by omega
          rw [hq, am_up_same, e1, e2]
          rfl
        · rw [am_up_s hq, g4]
          exact h1 s set (by omega) h2
    · intro w M1 hP
      obtain ⟨rfl, h1, hF⟩ := hP
      iterate 5 refine am_wp_step _ rfl ?_
      refine am_iteT (by rw [sh5 p (by omega)]; exact nI_le (Nat.le_refl _) (by omega)) ?_
      iterate 2 refine am_wp_step _ rfl ?_
      exact K _ _ ⟨nI_1 sh, fun s set hs h2 => h1 s set (by omega) h2, hF⟩
  · intro w M1 hP
    obtain ⟨rfl, h1, hF⟩ := hP
    iterate 3 refine am_wp_step _ rfl ?_
    iterate 1 refine am_wp_step _ rfl ?_
    exact ⟨rfl, M1, rfl, h1, hF⟩
def TAk (SA : Nat → Nat → Int32) (row p : Nat) : Nat → Int32
  | 0 => 0
  | s + 1 => TAk SA row p s + SA s (stN row p s p)
theorem c_tableA (d row p : Nat) (SA : Nat → Nat → Int32) (M : am_F) (hr : row < 2 ^ 31) (hp : p ≤ 5) (hS : ∀ s set, s < 3 → set < 2 ^ p → M 30 0 0 (32 * s + set) = SA s set) : am_cl am_cds (d + 2) 131 [.inr (.inr (25, 0, 0)), .inl (nI row), .inl (nI p)] (am_S M) (some (.inl (TAk SA row p 3))) (am_S M) := by
  have hp2 : 2 ^ p ≤ 32 := by
    rcases (by omega : p = 0 ∨ p = 1 ∨ p = 2 ∨ p = 3 ∨ p = 4 ∨ p = 5) with rfl | rfl | rfl | rfl | rfl | rfl <;> decide
  refine am_cl_in am_c131 rfl ?_
  iterate 4 refine am_wp_step _ rfl ?_
  refine am_for2 4 (fun u w => [(0, .inr (.inr (25, 0, 0))), (1, .inl (nI row)), (2, .inl (nI p)), (3, .inl u), (4, .inl w)]) (fun s u w M1 => w = nI s ∧ u = TAk SA row p s ∧ M1 = M) 3 ?_ ?_ 0 0 0 M (Nat.zero_le _) ⟨nI_0.symm, rfl, rfl⟩
  · intro s u w M1 hs hP K
    obtain ⟨rfl, hu, rfl⟩ := hP
    iterate 3 refine am_wp_step _ rfl ?_
    refine am_iteF (nI_ge (b := 3) hs (by decide)) ?_
    iterate 4 refine am_wp_step _ rfl ?_
    refine am_for2 11 (fun x y => [(0, .inr (.inr (25, 0, 0))), (1, .inl (nI row)), (2, .inl (nI p)), (3, .inl u), (4, .inl (nI s)), (5, .inl x), (6, .inl y)]) (fun i x y M2 => y = nI i ∧ x = nI (stN row p s i) ∧ M2 = M1) p ?_ ?_ 0 0 0 M1 (Nat.zero_le _) ⟨nI_0.symm, nI_0.symm, rfl⟩
    · intro i x y M2 hi hP K2
      obtain ⟨rfl, rfl, rfl⟩ := hP
      have hd := dg_lt row p i
      have hl := stN_lt row p s i
      have hl2 : (2 : Nat) ^ i ≤ 32 := by
        rcases (by omega : i = 0 ∨ i = 1 ∨ i = 2 ∨ i = 3 ∨ i = 4) with rfl | rfl | rfl | rfl | rfl <;> decide
      iterate 3 refine am_wp_step _ rfl ?_
      refine am_iteF (nI_ge hi (by omega)) ?_
      iterate 4 refine am_wp_step _ rfl ?_
      refine ⟨_, _, c_placeIn _ row p i _ hr hp hi, ?_⟩
      iterate 2 refine am_wp_step _ rfl ?_
      by_cases h : dg row p i = s
      · refine am_iteF (by rw [h]; exact fun q => q rfl) ?_
        iterate 8 refine am_wp_step _ rfl ?_
        refine K2 _ _ _ ⟨nI_1 i, ?_, rfl⟩
        rw [or5 i (by omega) _ (by omega) hl]
        show _ = nI (if dg row p i = s then stN row p s i + 2 ^ i else stN row p s i)
        rw [if_pos h]
      · refine am_iteT (fun q => h ((nI_eq (by omega) (by omega)).mp q)) ?_
        iterate 2 refine am_wp_step _ rfl ?_
        refine K2 _ _ _ ⟨nI_1 i, ?_, rfl⟩
        show _ = nI (if dg row p i = s then stN row p s i + 2 ^ i else stN row p s i)
        rw [if_neg h]
    · intro x y M2 hP
      obtain ⟨rfl, rfl, rfl⟩ := hP
      have hl := stN_lt row p s p
      iterate 3 refine am_wp_step _ rfl ?_
      refine am_iteT (nI_le (Nat.le_refl _) (by omega)) ?_
      iterate 9 refine am_wp_step _ rfl ?_
      refine am_ixN (32 * s + stN row p s p) ((by rw [show nI s * 32 = nI (32 * s) from by rw [show nI s * 32 = nI (s * 32) from nI_mul s 32, Nat.mul_comm]]; exact nI_add _ _)) (show _ < 96 by omega) (show (96 : Nat) < 2 ^ 31 by decide) (fun e => ?_); rw [e]
      iterate 4 refine am_wp_step _ rfl ?_
      refine K _ _ _ ⟨nI_1 s, ?_, rfl⟩
      show u + M2 30 0 0 (32 * s + stN row p s p) = TAk SA row p s + SA s (stN row p s p)
      rw [hS s _ hs hl, hu]
  · intro u w M1 hP
    obtain ⟨rfl, hu, rfl⟩ := hP
    iterate 3 refine am_wp_step _ rfl ?_
    iterate 2 refine am_wp_step _ rfl ?_
    exact ⟨trivial, by rw [hu], rfl⟩
theorem bst_le (f : Nat → Int32) (k : Nat) : bst f k ≤ k := by
  induction k with
  | zero => exact Nat.le_refl _
  | succ k ih =>
    rw [bst_s]
    split <;> omega
theorem bst_lt (f : Nat → Int32) (k : Nat) (hk : 0 < k) : bst f k < k := by
  induction k with
  | zero => omega
  | succ k ih =>
    rw [bst_s]
    split
    · omega
    · have := bst_le f k
      omega
theorem bst_cg {f g : Nat → Int32} {k : Nat} (h : ∀ j, j < k → f j = g j) : bst f k = bst g k := by
  induction k with
  | zero => rfl
  | succ k ih =>
    have ih := ih (fun j hj => h j (by omega))
    rw [bst_s, bst_s, ih, h k (by omega), h (bst g k) (by have := bst_le g k; omega)]
theorem c_best (d p : Nat) (SA : Nat → Nat → Int32) (M : am_F) (hp : p ≤ 5) (hS : ∀ s set, s < 3 → set < 2 ^ p → M 30 0 0 (32 * s + set) = SA s set) : am_cl am_cds (d + 3) 130 [.inr (.inr (25, 0, 0)), .inl (nI p)] (am_S M) (some (.inl (nI (bst (fun row => TAk SA row p 3) (4 ^ p))))) (am_S M) := by
  have hp4 : 1 ≤ 4 ^ p ∧ 4 ^ p ≤ 1024 := by
    rcases (by omega : p = 0 ∨ p = 1 ∨ p = 2 ∨ p = 3 ∨ p = 4 ∨ p = 5) with rfl | rfl | rfl | rfl | rfl | rfl <;> decide
  generalize hf : (fun row => TAk SA row p 3) = f
  have hfj : ∀ row, TAk SA row p 3 = f row := fun row => by rw [← hf]
  refine am_cl_in am_c130 rfl ?_
  iterate 6 refine am_wp_step _ rfl ?_
  refine ⟨_, _, c_tableA _ 0 p SA M (by decide) hp hS, ?_⟩
  rw [hfj]
  iterate 3 refine am_wp_step _ rfl ?_
  refine am_for3 9 (fun u v w => [(0, .inr (.inr (25, 0, 0))), (1, .inl (nI p)), (2, .inl u), (3, .inl v), (4, .inl w)]) (fun i u v w M1 => w = nI i ∧ u = nI (bst f i) ∧ v = f (bst f i) ∧ M1 = M) (4 ^ p) ?_ ?_ 1 0 _ 1 M hp4.1 ⟨rfl, by rw [bst_1]; rfl, by rw [bst_1], rfl⟩
  · intro i u v w M1 hi hP K
    obtain ⟨rfl, hu, hv, rfl⟩ := hP
    iterate 7 refine am_wp_step _ rfl ?_
    refine am_iteF (by rw [sh10 p (by omega)]; exact nI_ge hi (by omega)) ?_
    iterate 4 refine am_wp_step _ rfl ?_
    refine ⟨_, _, c_tableA _ i p SA M1 (by omega) hp hS, ?_⟩
    rw [hfj]
    iterate 4 refine am_wp_step _ rfl ?_
    refine am_ite (fun h => ?_) (fun h => ?_)
    · iterate 2 refine am_wp_step _ rfl ?_
      refine K _ _ _ _ ⟨nI_1 i, ?_, ?_, rfl⟩
      · rw [bst_s, if_neg (by rw [← hv]; exact Int32.not_lt.mpr h), hu]
      · rw [bst_s, if_neg (by rw [← hv]; exact Int32.not_lt.mpr h), hv]
    · iterate 6 refine am_wp_step _ rfl ?_
      refine K _ _ _ _ ⟨nI_1 i, ?_, ?_, rfl⟩
      · rw [bst_s, if_pos (by rw [← hv]; exact Int32.not_le.mp h)]
      · rw [bst_s, if_pos (by rw [← hv]; exact Int32.not_le.mp h)]
  · intro u v w M1 hP
    obtain ⟨rfl, hu, hv, rfl⟩ := hP
    iterate 7 refine am_wp_step _ rfl ?_
    refine am_iteT (by rw [sh10 p (by omega)]; exact nI_le (Nat.le_refl _) (by omega)) ?_
    iterate 2 refine am_wp_step _ rfl ?_
    exact ⟨trivial, by rw [hu], rfl⟩
