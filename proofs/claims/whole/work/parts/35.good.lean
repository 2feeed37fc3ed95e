/-! WHAT HOLDS OF A ROW OF NUMBERS -/
def RG1 (n : Nat) (a : Nat → Int32) : Prop := ∀ i, i < n → (0 ≤ a (10 + 8 * i + 0) ∧ a (10 + 8 * i + 0) ≤ 6) ∧ (0 ≤ a (10 + 8 * i + 2) ∧ a (10 + 8 * i + 2) ≤ 3) ∧ (0 ≤ a (10 + 8 * i + 3) ∧ a (10 + 8 * i + 3) ≤ 9) ∧ (0 ≤ a (10 + 8 * i + 5) ∧ a (10 + 8 * i + 5) ≤ 2) ∧ (0 ≤ a (10 + 8 * i + 6) ∧ a (10 + 8 * i + 6) ≤ 9999)
def RG2 (m : Nat) (a : Nat → Int32) : Prop := ∀ j, j < m → (0 ≤ a (74 + 5 * j + 2) ∧ a (74 + 5 * j + 2) ≤ 99) ∧ (0 ≤ a (74 + 5 * j + 3) ∧ a (74 + 5 * j + 3) ≤ 3) ∧ (-1 ≤ a (74 + 5 * j + 4) ∧ a (74 + 5 * j + 4) ≤ 2)
def GA (n m : Nat) (a : Nat → Int32) : Prop := n ≤ 8 ∧ m ≤ 8 ∧ a 1 = nI n ∧ a 2 = nI m ∧ RG1 n a ∧ RG2 m a ∧ WX (tx a) 0 ∧ WX (tx a) 1
theorem GA_hh {n m : Nat} {a : Nat → Int32} (h : GA n m a) : HH a m := fun i hi => (h.2.2.2.2.2.1 i hi).1
/-- cells that bells leave alone -/
def KC (n m c : Nat) : Prop := (∀ i, i < n → c ≠ 10 + 8 * i + 6 ∧ c ≠ 10 + 8 * i + 7) ∧ (∀ j, j < m → c ≠ 74 + 5 * j + 2) ∧ (∀ j, j < 4 → c ≠ 6 + j) ∧ c ≠ 0
theorem tk_rg {E : Int32 → Int32 → Int32 → Int32 → Int32} {g h : Nat → Int32} (h1 : 0 ≤ h 2) : 0 ≤ tk E g h ∧ tk E g h ≤ h 2 := by
  unfold tk sp_max sp_min
  grind
theorem eat1_out {E : Int32 → Int32 → Int32 → Int32 → Int32} {n m d c : Nat} {a : Nat → Int32} (hm : m ≤ 8) (hd : d < n) (hc : KC n m c) : eat1 E m d a c = a c := by
  unfold eat1
  rcases pkx_lt E (gA a d) (hA a) m with q | ⟨j, hj, q⟩
  · rw [q, if_pos (by decide)]
    exact if_neg (hc.1 d hd).1
  · rw [q, if_neg (nI_pos (by omega)), nI_clamp (by omega)]
    exact (if_neg (hc.1 d hd).1).trans ((if_neg (hc.1 d hd).2).trans (if_neg (hc.2.1 j hj)))
theorem eat1_rg {E : Int32 → Int32 → Int32 → Int32 → Int32} {n m d : Nat} {a : Nat → Int32} (hn : n ≤ 8) (hm : m ≤ 8) (hd : d < n) (h1 : RG1 n a) (h2 : RG2 m a) : RG1 n (eat1 E m d a) ∧ RG2 m (eat1 E m d a) := by
  unfold eat1
  rcases pkx_lt E (gA a d) (hA a) m with q | ⟨j, hj, q⟩
  · rw [q, if_pos (by decide)]
    unfold RG1 RG2 fu sp_min at *
    constructor
    · intro i hi
      have := h1 i hi
      have := h1 d hd
      grind
    · intro i hi
      have := h2 i hi
      grind
  · rw [q, if_neg (nI_pos (by omega)), nI_clamp (by omega)]
    have ht := tk_rg (E := E) (g := gA a d) (h := hA a j) (h2 j hj).1.1
    have ht2 : hA a j 2 = a (74 + 5 * j + 2) := rfl
    rw [ht2] at ht
    generalize tk E (gA a d) (hA a j) = t at *
    unfold RG1 RG2 fu at *
    constructor
    · intro i hi
      have := h1 i hi
      clear h1 h2 ht
      grind (splits := 40)
    · intro i hi
      have := h2 i hi
      have := h2 j hj
      grind
theorem rgG_out {E : Int32 → Int32 → Int32 → Int32 → Int32} {n m k c : Nat} {o : Nat → Nat} {ab : Int32} {a : Nat → Int32} (hm : m ≤ 8) (ho : ∀ i, i < n → o i < n) (hk : k ≤ n) (hc : KC n m c) : rgG E m o ab a k c = a c := by
  induction k with
  | zero => rfl
  | succ k ih =>
    unfold rgG
    split
    · exact ih (by omega)
    · rw [eat1_out hm (ho k (by omega)) hc]
      exact ih (by omega)
theorem rgG_rg {E : Int32 → Int32 → Int32 → Int32 → Int32} {n m k : Nat} {o : Nat → Nat} {ab : Int32} {a : Nat → Int32} (hn : n ≤ 8) (hm : m ≤ 8) (ho : ∀ i, i < n → o i < n) (hk : k ≤ n) (h1 : RG1 n a) (h2 : RG2 m a) : RG1 n (rgG E m o ab a k) ∧ RG2 m (rgG E m o ab a k) := by
  induction k with
  | zero => exact ⟨h1, h2⟩
  | succ k ih =>
    have ih := ih (by omega)
    unfold rgG
    split
    · exact ih
    · exact eat1_rg hn hm (ho k (by omega)) ih.1 ih.2
theorem clK_out {m k c : Nat} {a : Nat → Int32} (hk : k ≤ m) (hc : ∀ j, j < m → c ≠ 74 + 5 * j + 2) : clK a k c = a c := by
  induction k with
  | zero => rfl
  | succ k ih => exact (if_neg (hc k (by omega))).trans (ih (by omega))
theorem clK_rg {n m k : Nat} {a : Nat → Int32} (hn : n ≤ 8) (hk : k ≤ m) (h1 : RG1 n a) (h2 : RG2 m a) : RG1 n (clK a k) ∧ RG2 m (clK a k) := by
  induction k with
  | zero => exact ⟨h1, h2⟩
  | succ k ih =>
    have ih := ih (by omega)
    unfold clK
    generalize clK a k = a1 at *
    unfold RG1 RG2 fu sp_max at *
    constructor
    · intro i hi
      have := ih.1 i hi
      grind
    · intro i hi
      have := ih.2 i hi
      have := ih.2 k (by omega)
      grind
theorem hgK_out {k c : Nat} {a : Nat → Int32} (hk : k ≤ 4) (hc : ∀ j, j < 4 → c ≠ 6 + j) : hgK a k c = a c := by
  induction k with
  | zero => rfl
  | succ k ih => exact (if_neg (hc k (by omega))).trans (ih (by omega))
theorem rg_out {E : Int32 → Int32 → Int32 → Int32 → Int32} {n m c : Nat} {o : Nat → Nat} {ab : Int32} {a : Nat → Int32} (hm : m ≤ 8) (ho : ∀ i, i < n → o i < n) (hc : KC n m c) : rg E n m o ab a c = a c := by
  unfold rg
  refine (if_neg hc.2.2.2).trans ?_
  rw [hgK_out (Nat.le_refl _) hc.2.2.1, clK_out (Nat.le_refl _) hc.2.1, rgG_out hm ho (Nat.le_refl _) hc]
theorem KC_hi {n m c : Nat} (hn : n ≤ 8) (hm : m ≤ 8) (hc : 114 ≤ c) : KC n m c := ⟨fun i hi => by omega, fun j hj => by omega, fun j hj => by omega, by omega⟩
theorem KC_lo {n m c : Nat} (h1 : 1 ≤ c) (hc : c < 6) : KC n m c := ⟨fun i hi => by omega, fun j hj => by omega, fun j hj => by omega, by omega⟩
theorem KC_g {n m i k : Nat} (hn : n ≤ 8) (hi : i < n) (hk : k < 6) : KC n m (10 + 8 * i + k) := ⟨fun i hi => by omega, fun j hj => by omega, fun j hj => by omega, by omega⟩
theorem KC_h {n m i k : Nat} (hn : n ≤ 8) (hk : k < 5) (hk2 : k ≠ 2) : KC n m (74 + 5 * i + k) := ⟨fun i hi => by omega, fun j hj => by omega, fun j hj => by omega, by omega⟩
theorem tx_of {a a' : Nat → Int32} (h : ∀ c, 114 ≤ c → a' c = a c) : tx a' = tx a := by
  funext j
  exact h _ (by omega)
theorem GA_rg {E : Int32 → Int32 → Int32 → Int32 → Int32} {n m : Nat} {o : Nat → Nat} {ab : Int32} {a : Nat → Int32} (ho : ∀ i, i < n → o i < n) (h : GA n m a) : GA n m (rg E n m o ab a) ∧ tx (rg E n m o ab a) = tx a ∧ odr (rg E n m o ab a) n = odr a n := by
  obtain ⟨hn, hm, h1, h2, h3, h4, h5, h6⟩ := h
  have ht : tx (rg E n m o ab a) = tx a := tx_of fun c hc => rg_out hm ho (KC_hi hn hm hc)
  refine ⟨⟨hn, hm, (rg_out hm ho (KC_lo (by omega) (by omega))).trans h1, (rg_out hm ho (KC_lo (by omega) (by omega))).trans h2, ?_, ?_, by rw [ht]; exact h5, by rw [ht]; exact h6⟩, ht, odr_cg fun j hj => rg_out hm ho (KC_g hn hj (by decide))⟩
  · have hh := clK_rg (k := m) hn (Nat.le_refl _) (rgG_rg (E := E) (ab := ab) hn hm ho (Nat.le_refl _) h3 h4).1 (rgG_rg (E := E) (ab := ab) hn hm ho (Nat.le_refl _) h3 h4).2
    unfold rg
    intro i hi
    have e : ∀ k, k < 8 → fu (hgK (clK (rgG E m o ab a n) m) 4) 0 (hgK (clK (rgG E m o ab a n) m) 4 0 + 1) (10 + 8 * i + k) = clK (rgG E m o ab a n) m (10 + 8 * i + k) := fun k hk => (if_neg (by omega)).trans (hgK_out (Nat.le_refl _) (fun j hj => by omega))
    rw [e 0 (by omega), e 2 (by omega), e 3 (by omega), e 5 (by omega), e 6 (by omega)]
    exact hh.1 i hi
  · have hh := clK_rg (k := m) hn (Nat.le_refl _) (rgG_rg (E := E) (ab := ab) hn hm ho (Nat.le_refl _) h3 h4).1 (rgG_rg (E := E) (ab := ab) hn hm ho (Nat.le_refl _) h3 h4).2
    unfold rg
    intro i hi
    have e : ∀ k, k < 8 → fu (hgK (clK (rgG E m o ab a n) m) 4) 0 (hgK (clK (rgG E m o ab a n) m) 4 0 + 1) (74 + 5 * i + k) = clK (rgG E m o ab a n) m (74 + 5 * i + k) := fun k hk => (if_neg (by omega)).trans (hgK_out (Nat.le_refl _) (fun j hj => by omega))
    rw [e 2 (by omega), e 3 (by omega), e 4 (by omega)]
    exact hh.2 i hi
def rgN (E : Int32 → Int32 → Int32 → Int32 → Int32) (n m : Nat) (o : Nat → Nat) (ab : Int32) (a : Nat → Int32) : Nat → Nat → Int32
  | 0 => a
  | k + 1 => rg E n m o ab (rgN E n m o ab a k)
theorem GA_rgN {E : Int32 → Int32 → Int32 → Int32 → Int32} {n m k : Nat} {o : Nat → Nat} {ab : Int32} {a : Nat → Int32} (ho : ∀ i, i < n → o i < n) (h : GA n m a) : GA n m (rgN E n m o ab a k) ∧ tx (rgN E n m o ab a k) = tx a ∧ odr (rgN E n m o ab a k) n = odr a n := by
  induction k with
  | zero => exact ⟨h, rfl, rfl⟩
  | succ k ih =>
    obtain ⟨i1, i2, i3⟩ := ih
    obtain ⟨j1, j2, j3⟩ := GA_rg (E := E) (ab := ab) ho i1
    exact ⟨j1, j2.trans i2, j3.trans i3⟩
theorem rgN_out {E : Int32 → Int32 → Int32 → Int32 → Int32} {n m c k : Nat} {o : Nat → Nat} {ab : Int32} {a : Nat → Int32} (hm : m ≤ 8) (ho : ∀ i, i < n → o i < n) (hc : KC n m c) : rgN E n m o ab a k c = a c := by
  induction k with
  | zero => rfl
  | succ k ih => exact (rg_out hm ho hc).trans ih
theorem am_up_fu {M : am_F} {r b i s : Nat} {x : Int32} : am_up M r b i s x r b i = fu (M r b i) s x := by
  funext j
  unfold am_up fu
  simp
