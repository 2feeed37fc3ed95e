/-! NOBODY EATS AT TWO SHRINES -/
def VS (n m : Nat) (s : Int32) (a b : Nat → Int32) : Prop := (∀ i, i < n → ∀ k, k < 6 → a (10 + 8 * i + k) = b (10 + 8 * i + k)) ∧ (∀ i, i < n → a (10 + 8 * i + 5) = s → a (10 + 8 * i + 6) = b (10 + 8 * i + 6)) ∧ (∀ j, j < m → (a (74 + 5 * j + 4) = s ↔ b (74 + 5 * j + 4) = s) ∧ (a (74 + 5 * j + 4) = s → a (74 + 5 * j + 0) = b (74 + 5 * j + 0) ∧ a (74 + 5 * j + 2) = b (74 + 5 * j + 2)))
theorem pk_own {E : Int32 → Int32 → Int32 → Int32 → Int32} {g : Nat → Int32} {h : Nat → Nat → Int32} {n j : Nat} (hn : n ≤ 8) (hj : j < 8) (hp : pk E g h n = nI j) : h j 4 = g 5 := by
  induction n with
  | zero =>
    have : (-1 : Int32) = nI j := hp
    exact absurd this.symm (nI_nm1 (by omega))
  | succ n ih =>
    rw [pk_s] at hp
    split at hp
    · rename_i hc
      have : n = j := (nI_eq (by omega) (by omega)).mp hp
      rw [← this]
      exact hc.1
    · exact ih (by omega) hp
theorem pk_VS {E : Int32 → Int32 → Int32 → Int32 → Int32} {s : Int32} {g g' : Nat → Int32} {h h' : Nat → Nat → Int32} {n : Nat} (hn : n ≤ 8) (hg : ∀ k, k < 6 → g' k = g k) (hs : g 5 = s) (hh : ∀ j, j < n → (h j 4 = s ↔ h' j 4 = s) ∧ (h j 4 = s → h j 0 = h' j 0 ∧ h j 2 = h' j 2)) : pk E g' h' n = pk E g h n := by
  induction n with
  | zero => rfl
  | succ n ih =>
    have ih := ih (by omega) (fun j hj => hh j (by omega))
    obtain ⟨h1, h2⟩ := hh n (by omega)
    rw [pk_s, pk_s, ih, hg 5 (by omega), hs]
    by_cases hc : h n 4 = s
    · obtain ⟨e0, e2⟩ := h2 hc
      have hc' := h1.mp hc
      have ht : tk E g' (h' n) = tk E g (h n) := by
        unfold tk sp_app
        rw [hg 0 (by omega), hg 1 (by omega), hg 3 (by omega), hg 4 (by omega), e0, e2]
      rw [ht]
      rcases pkx_lt E g h n with q | ⟨j, hj, q⟩
      · rw [q]
        simp only [hc, hc', show ((-1 : Int32) < 0) = True from eq_true (by decide), true_or]
      · have hj4 := pk_own (by omega) (show j < 8 by omega) q
        rw [hs] at hj4
        obtain ⟨f0, f2⟩ := (hh j (by omega)).2 hj4
        have hp : sp_pref g' (h' n) (h' j) = sp_pref g (h n) (h j) := by
          unfold sp_pref
          rw [hg 4 (by omega), e0, e2, f0, f2]
        rw [q, nI_clamp (by omega), hp]
        simp only [hc, hc']
    · have hc' : ¬ h' n 4 = s := fun q => hc (h1.mpr q)
      rw [if_neg (fun q => hc' q.1), if_neg (fun q => hc q.1)]
theorem eat1_alone {E : Int32 → Int32 → Int32 → Int32 → Int32} {n m d : Nat} {s : Int32} {a b : Nat → Int32} (hn : n ≤ 8) (hm : m ≤ 8) (hd : d < n) (hs : a (10 + 8 * d + 5) ≠ s) (hV : VS n m s a b) : VS n m s (eat1 E m d a) b := by
  obtain ⟨v1, v2, v3⟩ := hV
  unfold eat1
  rcases pkx_lt E (gA a d) (hA a) m with q | ⟨j, hj, q⟩
  · rw [q, if_pos (by decide)]
    refine ⟨fun i hi k hk => by rw [fu_ne (by omega)]; exact v1 i hi k hk, fun i hi h5 => ?_, fun j hj => ?_⟩
    · rw [fu_ne (by omega)] at h5
      have hid : i ≠ d := fun q => hs (by rw [← q]; exact h5)
      rw [fu_ne (by omega)]
      exact v2 i hi h5
    · rw [fu_ne (by omega), fu_ne (by omega), fu_ne (by omega)]
      exact v3 j hj
  · have hown : a (74 + 5 * j + 4) = a (10 + 8 * d + 5) := pk_own hm (by omega) q
    rw [q, if_neg (nI_pos (by omega)), nI_clamp (by omega)]
    refine ⟨fun i hi k hk => by rw [fu_ne (by omega), fu_ne (by omega), fu_ne (by omega)]; exact v1 i hi k hk, fun i hi h5 => ?_, fun t ht => ?_⟩
    · rw [fu_ne (by omega), fu_ne (by omega), fu_ne (by omega)] at h5
      have hid : i ≠ d := fun q => hs (by rw [← q]; exact h5)
      rw [fu_ne (by omega), fu_ne (by omega), fu_ne (by omega)]
      exact v2 i hi h5
    · rw [fu_ne (by omega), fu_ne (by omega), fu_ne (by omega), fu_ne (by omega), fu_ne (by omega), fu_ne (by omega), fu_ne (show 74 + 5 * t + 2 ≠ 10 + 8 * d + 6 by omega), fu_ne (show 74 + 5 * t + 2 ≠ 10 + 8 * d + 7 by omega)]
      refine ⟨(v3 t ht).1, fun h4 => ?_⟩
      have htj : t ≠ j := fun q => hs (by rw [← hown, ← q]; exact h4)
      rw [fu_ne (by omega)]
      exact (v3 t ht).2 h4
theorem VS_symm {n m : Nat} {s : Int32} {a b : Nat → Int32} (h : VS n m s a b) : VS n m s b a := by
  obtain ⟨v1, v2, v3⟩ := h
  refine ⟨fun i hi k hk => (v1 i hi k hk).symm, fun i hi h5 => (v2 i hi (by rw [v1 i hi 5 (by omega)]; exact h5)).symm, fun j hj => ⟨(v3 j hj).1.symm, fun h4 => ?_⟩⟩
  obtain ⟨e0, e2⟩ := (v3 j hj).2 ((v3 j hj).1.mpr h4)
  exact ⟨e0.symm, e2.symm⟩
theorem eat1_VS {E : Int32 → Int32 → Int32 → Int32 → Int32} {n m d : Nat} {s : Int32} {a b : Nat → Int32} (hn : n ≤ 8) (hm : m ≤ 8) (hd : d < n) (hV : VS n m s a b) : VS n m s (eat1 E m d a) (eat1 E m d b) := by
  have hV0 := hV
  obtain ⟨v1, v2, v3⟩ := hV
  by_cases hs : a (10 + 8 * d + 5) = s
  · have hp : pk E (gA b d) (hA b) m = pk E (gA a d) (hA a) m := pk_VS (s := s) hm (fun k hk => (v1 d hd k hk).symm) hs (fun j hj => v3 j hj)
    have hc6 := v2 d hd hs
    unfold eat1
    rw [hp]
    rcases pkx_lt E (gA a d) (hA a) m with q | ⟨j, hj, q⟩
    · rw [q, if_pos (by decide), if_pos (by decide)]
      refine ⟨fun i hi k hk => by rw [fu_ne (by omega), fu_ne (by omega)]; exact v1 i hi k hk, fun i hi h5 => ?_, fun j hj => ?_⟩
      · rw [fu_ne (by omega)] at h5
        by_cases hid : i = d
        · rw [hid, fu_at, fu_at, hc6]
        · rw [fu_ne (by omega), fu_ne (by omega)]
          exact v2 i hi h5
      · rw [fu_ne (by omega), fu_ne (by omega), fu_ne (by omega), fu_ne (by omega), fu_ne (by omega), fu_ne (by omega)]
        exact v3 j hj
    · have hown : a (74 + 5 * j + 4) = a (10 + 8 * d + 5) := pk_own hm (by omega) q
      rw [hs] at hown
      obtain ⟨e0, e2⟩ := (v3 j hj).2 hown
      have ht : tk E (gA b d) (hA b j) = tk E (gA a d) (hA a j) := by
        unfold tk sp_app
        have g0 := v1 d hd 0 (by omega)
        have g1 := v1 d hd 1 (by omega)
        have g3 := v1 d hd 3 (by omega)
        have g4 := v1 d hd 4 (by omega)
        show sp_max 0 (sp_min (b (74 + 5 * j + 2)) ((if b (10 + 8 * d + 0) = 1 then 4 + b (10 + 8 * d + 3) else if b (10 + 8 * d + 0) = 2 then (if b (74 + 5 * j + 0) = b (10 + 8 * d + 4) then 2 * (4 + b (10 + 8 * d + 1)) else 4 + b (10 + 8 * d + 1)) else if b (10 + 8 * d + 0) = 3 then 2 else if b (10 + 8 * d + 0) = 4 then 2 * (4 + b (10 + 8 * d + 3)) else if b (10 + 8 * d + 0) = 5 then (if b (74 + 5 * j + 0) = b (10 + 8 * d + 4) then 2 * (4 + b (10 + 8 * d + 1)) else 0) else if b (10 + 8 * d + 0) = 6 then (if b (74 + 5 * j + 2) < 50 then 2 + b (10 + 8 * d + 1) else 2) else 4) + E (b (74 + 5 * j + 2)) (b (74 + 5 * j + 0)) (b (10 + 8 * d + 3)) (b (10 + 8 * d + 0)))) = _
        rw [← g0, ← g1, ← g3, ← g4, ← e0, ← e2]
        rfl
      rw [q, if_neg (nI_pos (by omega)), if_neg (nI_pos (by omega)), nI_clamp (by omega), ht]
      refine ⟨fun i hi k hk => by rw [fu_ne (by omega), fu_ne (by omega), fu_ne (by omega), fu_ne (by omega), fu_ne (by omega), fu_ne (by omega)]; exact v1 i hi k hk, fun i hi h5 => ?_, fun t ht2 => ?_⟩
      · rw [fu_ne (by omega), fu_ne (by omega), fu_ne (by omega)] at h5
        by_cases hid : i = d
        · rw [hid, fu_at, fu_at]
        · rw [fu_ne (by omega), fu_ne (by omega), fu_ne (by omega), fu_ne (by omega), fu_ne (by omega), fu_ne (by omega)]
          exact v2 i hi h5
      · have o4 : ∀ (z : Nat → Int32) (x y w : Int32) (r : Nat), r ≠ 2 → r < 5 → fu (fu (fu z (74 + 5 * j + 2) x) (10 + 8 * d + 7) y) (10 + 8 * d + 6) w (74 + 5 * t + r) = z (74 + 5 * t + r) := fun z x y w r h1 h2 => by rw [fu_ne (by omega), fu_ne (by omega), fu_ne (by omega)]
        rw [o4 _ _ _ _ 4 (by omega) (by omega), o4 _ _ _ _ 4 (by omega) (by omega), o4 _ _ _ _ 0 (by omega) (by omega), o4 _ _ _ _ 0 (by omega) (by omega)]
        refine ⟨(v3 t ht2).1, fun h4 => ⟨((v3 t ht2).2 h4).1, ?_⟩⟩
        have o2 : ∀ (z : Nat → Int32) (x y w : Int32), fu (fu (fu z (74 + 5 * j + 2) x) (10 + 8 * d + 7) y) (10 + 8 * d + 6) w (74 + 5 * t + 2) = fu z (74 + 5 * j + 2) x (74 + 5 * t + 2) := fun z x y w => by rw [fu_ne (by omega), fu_ne (by omega)]
        rw [o2, o2]
        by_cases htj : t = j
        · rw [htj, fu_at, fu_at, e2]
        · rw [fu_ne (by omega), fu_ne (by omega)]
          exact ((v3 t ht2).2 h4).2
  · have hs' : b (10 + 8 * d + 5) ≠ s := by rw [← v1 d hd 5 (by omega)]; exact hs
    exact VS_symm (eat1_alone hn hm hd hs' (VS_symm (eat1_alone hn hm hd hs hV0)))
theorem rgG_VS {E : Int32 → Int32 → Int32 → Int32 → Int32} {n m k : Nat} {o : Nat → Nat} {s : Int32} {a b : Nat → Int32} (hn : n ≤ 8) (hm : m ≤ 8) (ho : ∀ i, i < n → o i < n) (hk : k ≤ n) (hV : VS n m s a b) : VS n m s (rgG E m o (-1) a k) (rgG E m o (-1) b k) := by
  induction k with
  | zero => exact hV
  | succ k ih =>
    unfold rgG
    split
    · exact ih (by omega)
    · exact eat1_VS hn hm (ho k (by omega)) (ih (by omega))
theorem clK_VS {n m k : Nat} {s : Int32} {a b : Nat → Int32} (hn : n ≤ 8) (hk : k ≤ m) (h1 : s ≠ -1) (hV : VS n m s a b) : VS n m s (clK a k) (clK b k) := by
  induction k with
  | zero => exact hV
  | succ k ih =>
    obtain ⟨v1, v2, v3⟩ := ih (by omega)
    unfold clK
    generalize clK a k = a1 at *
    generalize clK b k = b1 at *
    refine ⟨fun i hi q hq => by rw [fu_ne (by omega), fu_ne (by omega)]; exact v1 i hi q hq, fun i hi h5 => ?_, fun t ht => ?_⟩
    · rw [fu_ne (by omega)] at h5
      rw [fu_ne (by omega), fu_ne (by omega)]
      exact v2 i hi h5
    · rw [fu_ne (show 74 + 5 * t + 4 ≠ 74 + 5 * k + 2 by omega), fu_ne (show 74 + 5 * t + 4 ≠ 74 + 5 * k + 2 by omega), fu_ne (show 74 + 5 * t + 0 ≠ 74 + 5 * k + 2 by omega), fu_ne (show 74 + 5 * t + 0 ≠ 74 + 5 * k + 2 by omega)]
      refine ⟨(v3 t ht).1, fun h4 => ⟨((v3 t ht).2 h4).1, ?_⟩⟩
      by_cases htk : t = k
      · subst htk
        have h4' := (v3 t ht).1.mp h4
        rw [fu_at, fu_at, h4, h4', ((v3 t ht).2 h4).2]
      · rw [fu_ne (by omega), fu_ne (by omega)]
        exact ((v3 t ht).2 h4).2
theorem VS_lo {n m : Nat} {s : Int32} {a b a' b' : Nat → Int32} (ha : ∀ c, 10 ≤ c → a' c = a c) (hb : ∀ c, 10 ≤ c → b' c = b c) (hV : VS n m s a b) : VS n m s a' b' := by
  obtain ⟨v1, v2, v3⟩ := hV
  refine ⟨fun i hi k hk => by rw [ha _ (by omega), hb _ (by omega)]; exact v1 i hi k hk, fun i hi h5 => ?_, fun j hj => ?_⟩
  · rw [ha _ (by omega)] at h5
    rw [ha _ (by omega), hb _ (by omega)]
    exact v2 i hi h5
  · rw [ha _ (by omega), hb _ (by omega), ha _ (by omega), hb _ (by omega), ha _ (by omega), hb _ (by omega)]
    exact v3 j hj
theorem rg_VS {E : Int32 → Int32 → Int32 → Int32 → Int32} {n m : Nat} {o : Nat → Nat} {s : Int32} {a b : Nat → Int32} (hn : n ≤ 8) (hm : m ≤ 8) (ho : ∀ i, i < n → o i < n) (h1 : s ≠ -1) (hV : VS n m s a b) : VS n m s (rg E n m o (-1) a) (rg E n m o (-1) b) := by
  have h := clK_VS hn (Nat.le_refl m) h1 (rgG_VS (E := E) hn hm ho (Nat.le_refl n) hV)
  refine VS_lo (fun c hc => ?_) (fun c hc => ?_) h
  · unfold rg
    rw [fu_ne (by omega), hgK_out (Nat.le_refl _) (fun j hj => by omega)]
  · unfold rg
    rw [fu_ne (by omega), hgK_out (Nat.le_refl _) (fun j hj => by omega)]
theorem rgN_VS {E : Int32 → Int32 → Int32 → Int32 → Int32} {n m k : Nat} {o : Nat → Nat} {s : Int32} {a b : Nat → Int32} (hn : n ≤ 8) (hm : m ≤ 8) (ho : ∀ i, i < n → o i < n) (h1 : s ≠ -1) (hV : VS n m s a b) : VS n m s (rgN E n m o (-1) a k) (rgN E n m o (-1) b k) := by
  induction k with
  | zero => exact hV
  | succ k ih => exact rg_VS hn hm ho h1 ih
/-- anger at a shrine -/
def smS (a : Nat → Int32) (s : Int32) : Nat → Int32
  | 0 => 0
  | i + 1 => smS a s i + (if a (10 + 8 * i + 5) = s then a (10 + 8 * i + 6) else 0)
theorem smS_VS {n m k : Nat} {s : Int32} {a b : Nat → Int32} (hk : k ≤ n) (hV : VS n m s a b) : smS a s k = smS b s k := by
  induction k with
  | zero => rfl
  | succ k ih =>
    show smS a s k + _ = smS b s k + _
    rw [ih (by omega), ← hV.1 k (by omega) 5 (by omega)]
    split
    · rename_i h
      rw [hV.2.1 k (by omega) h]
    · rfl
theorem smF_S {n m k : Nat} {a : Nat → Int32} (hk : k ≤ n) (hG : GA n m a) : smF a 6 (-1) k = smS a 0 k + smS a 1 k + smS a 2 k := by
  induction k with
  | zero => rfl
  | succ k ih =>
    have hn := hG.1
    have hs := (hG.2.2.2.2.1 k (by omega)).2.2.2.1
    show smF a 6 (-1) k + (if nI k = -1 then 0 else a (10 + 8 * k + 6)) = (smS a 0 k + _) + (smS a 1 k + _) + (smS a 2 k + _)
    rw [ih (by omega), if_neg (nI_nm1 (by omega))]
    have h3 : a (10 + 8 * k + 5) = 0 ∨ a (10 + 8 * k + 5) = 1 ∨ a (10 + 8 * k + 5) = 2 := by
      generalize a (10 + 8 * k + 5) = w at hs
      obtain ⟨h1, h2⟩ := hs
      lia
    generalize smS a 0 k = x0
    generalize smS a 1 k = x1
    generalize smS a 2 k = x2
    generalize a (10 + 8 * k + 6) = w
    rcases h3 with h | h | h
    · rw [h, if_pos rfl, if_neg (by decide), if_neg (by decide)]; lia
    · rw [h, if_neg (by decide), if_pos rfl, if_neg (by decide)]; lia
    · rw [h, if_neg (by decide), if_neg (by decide), if_pos rfl]; lia
