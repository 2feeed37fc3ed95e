/-! VOICES -/
def bdy (c f : Nat) : Nat := am_nth (am_nth [[10, 11, 12, 13], [10, 20, 12, 13], [30, 11, 12, 13], [10, 11, 40, 13], [10, 50, 12, 13], [30, 11, 12, 60], [10, 11, 70, 71]] f []) c 0
def vo (p : Nat) (m u : Int32) : Nat → Nat → Nat → Int32 → Int32 × List Int32
  | 0, _, _, _ => (0, [])
  | k + 1, c, f, x => match bdy c f with
    | 10 => (x + u, [10])
    | 11 => ((vo p m u k 0 p x).1 * 2, 11 :: (vo p m u k 0 p x).2)
    | 12 => (x - m, [12])
    | 13 => ((vo p m u k 1 p x).1 ^^^ (vo p m u k 2 p x).1, 13 :: ((vo p m u k 1 p x).2 ++ (vo p m u k 2 p x).2))
    | 20 => ((vo p m u k 1 0 x).1 - (vo p m u k 2 p 1).1, 20 :: ((vo p m u k 1 0 x).2 ++ (vo p m u k 2 p 1).2))
    | 30 => ((vo p m u k 0 0 x).1 * 3, 30 :: (vo p m u k 0 0 x).2)
    | 40 => (-(vo p m u k 2 0 x).1, 40 :: (vo p m u k 2 0 x).2)
    | 50 => ((vo p m u k 1 1 (x + 1)).1, 50 :: (vo p m u k 1 1 (x + 1)).2)
    | 60 => ((vo p m u k 3 2 x).1 - (vo p m u k 0 p 2).1, 60 :: ((vo p m u k 3 2 x).2 ++ (vo p m u k 0 p 2).2))
    | 70 => ((vo p m u k 2 3 x).1 ^^^ u, 70 :: (vo p m u k 2 3 x).2)
    | _ => ((vo p m u k 1 p x).1 - (vo p m u k 3 3 x).1, 71 :: ((vo p m u k 1 p x).2 ++ (vo p m u k 3 3 x).2))
def okk (p : Nat) : Nat → Nat → Nat → Bool
  | 0, _, _ => false
  | k + 1, c, f => match bdy c f with
    | 10 => true
    | 11 => okk p k 0 p
    | 12 => true
    | 13 => okk p k 1 p && okk p k 2 p
    | 20 => okk p k 1 0 && okk p k 2 p
    | 30 => okk p k 0 0
    | 40 => okk p k 2 0
    | 50 => okk p k 1 1
    | 60 => okk p k 3 2 && okk p k 0 p
    | 70 => okk p k 2 3
    | _ => okk p k 1 p && okk p k 3 3
def rwL (M : am_F) (l : List Int32) : Prop := M 21 14 0 1 = nI l.length ∧ ∀ j, j < l.length → M 27 14 0 j = l.getD j 0
def rmL (M : am_F) (l : List Int32) : Prop := M 26 0 0 16 = nI l.length ∧ ∀ j, j < l.length → M 33 8 0 j = l.getD j 0
theorem getD_app {l : List Int32} {b : Int32} {j : Nat} (hj : j < l.length) : (l ++ [b]).getD j 0 = l.getD j 0 := by
  rw [List.getD_eq_getElem?_getD, List.getD_eq_getElem?_getD, List.getElem?_append_left hj]
theorem getD_last {l : List Int32} {b : Int32} : (l ++ [b]).getD l.length 0 = b := by
  rw [List.getD_eq_getElem?_getD]
  simp
theorem c_addL (d : Nat) (b : Int32) (l : List Int32) (M : am_F) (h : rwL M l) (hl : l.length < 40) : ∃ M', am_cl am_cds (d + 1) 50 [.inr (.inr (21, 14, 0)), .inl b] (am_S M) none (am_S M') ∧ rwL M' (l ++ [b]) ∧ rwF M M' 14 := by
  refine ⟨_, c_add d 14 l.length b M h.1 hl (by decide), ⟨?_, fun j hj => ?_⟩, fun r bb h => ?_⟩
  · rw [am_up_same]; simp
  · rw [am_up_r (by decide)]
    by_cases hjl : j = l.length
    · rw [hjl, am_up_same, getD_last]
    · have hj2 : j < l.length := by simp at hj; omega
      rw [am_up_s hjl, getD_app hj2]
      exact h.2 j hj2
  · rw [am_up_rb (fun q => h ⟨Or.inl q.1, q.2⟩), am_up_rb (fun q => h ⟨Or.inr q.1, q.2⟩)]
def fV (M M' : am_F) : Prop := ∀ r bb, ¬ (r = 33 ∧ bb = 8) → (∀ s, ¬ (r = 26 ∧ s = 16) → ∀ i, M' r bb i s = M r bb i s)
theorem fV_rf {M : am_F} : fV M M := fun _ _ _ _ _ _ => rfl
theorem fV_tr {M M1 M2 : am_F} (h1 : fV M M1) (h2 : fV M1 M2) : fV M M2 := fun r bb a s b i => (h2 r bb a s b i).trans (h1 r bb a s b i)
theorem m_began (d : Nat) (b : Int32) (l : List Int32) (M : am_F) (h : rmL M l) (hl : l.length < 40) : ∃ M', am_cl am_cds (d + 1) 204 [.inr (.inr (26, 0, 0)), .inl b] (am_S M) none (am_S M') ∧ rmL M' (l ++ [b]) ∧ fV M M' := by
  refine am_cl_v (fun M' => rmL M' (l ++ [b]) ∧ fV M M') am_c204 rfl ?_
  iterate 4 refine am_wp_step _ rfl ?_
  refine am_iteF (by show ¬ 40 ≤ M 26 0 0 16; rw [h.1]; exact nI_ge (b := 40) hl (by decide)) ?_
  iterate 5 refine am_wp_step _ rfl ?_
  rw [show (am_S M).2.2 26 0 0 16 = nI l.length from h.1]
  iterate 1 refine am_wp_step _ rfl ?_
  refine am_ixN (l.length) (rfl) (show _ < 40 by omega) (show (40 : Nat) < 2 ^ 31 by decide) (fun e => ?_); rw [e]
  iterate 7 refine am_wp_step _ rfl ?_
  refine ⟨rfl, _, rfl, ⟨?_, fun j hj => ?_⟩, fun r bb h1 s h2 i => ?_⟩
  · dsimp only [am_S]
    rw [am_up_same, am_up_r (by decide), h.1, nI_1]
    simp
  · dsimp only [am_S]
    rw [am_up_r (by decide)]
    by_cases hjl : j = l.length
    · rw [hjl, am_up_same, getD_last]
    · have hj2 : j < l.length := by simp at hj; omega
      rw [am_up_s hjl, getD_app hj2]
      exact h.2 j hj2
  · dsimp only [am_S]
    unfold am_up
    rw [if_neg (by omega), if_neg (by omega)]
theorem c_bodyOf (d c f : Nat) (M : am_F) (hc : c ≤ 3) (hf : f ≤ 6) : am_cl am_cds (d + 2) 64 [.inl (nI c), .inl (nI f)] (am_S M) (some (.inl (nI (bdy c f)))) (am_S M) := by
  refine am_cl_in am_c64 rfl ?_
  rcases (by omega : c = 0 ∨ c = 1 ∨ c = 2 ∨ c = 3) with rfl | rfl | rfl | rfl <;> rcases (by omega : f = 0 ∨ f = 1 ∨ f = 2 ∨ f = 3 ∨ f = 4 ∨ f = 5 ∨ f = 6) with rfl | rfl | rfl | rfl | rfl | rfl | rfl
  all_goals
    repeat' first | refine am_wp_step _ rfl ?_ | refine am_iteB (fun h => ?_) (fun h => ?_) | refine am_iteN (fun h => ?_) (fun h => ?_) | refine am_ite (fun h => ?_) (fun h => ?_) | refine ⟨_, _, c_within _ _ _ _ _, ?_⟩ | refine am_andv (by unfold vp_in; decide) ?_ | fail
    exact ⟨trivial, rfl, rfl⟩
def abB (b : Nat) : Int32 := if b = 50 then 1 else if b = 60 then 2 else if b = 70 then 3 else if b = 71 then 3 else if b < 20 then -1 else 0
theorem bdy_in (c f : Nat) (hc : c ≤ 3) (hf : f ≤ 6) : bdy c f = 10 ∨ bdy c f = 11 ∨ bdy c f = 12 ∨ bdy c f = 13 ∨ bdy c f = 20 ∨ bdy c f = 30 ∨ bdy c f = 40 ∨ bdy c f = 50 ∨ bdy c f = 60 ∨ bdy c f = 70 ∨ bdy c f = 71 := by
  rcases (by omega : c = 0 ∨ c = 1 ∨ c = 2 ∨ c = 3) with rfl | rfl | rfl | rfl <;> rcases (by omega : f = 0 ∨ f = 1 ∨ f = 2 ∨ f = 3 ∨ f = 4 ∨ f = 5 ∨ f = 6) with rfl | rfl | rfl | rfl | rfl | rfl | rfl <;> decide
theorem c_aboveBody (d b : Nat) (M : am_F) (hb : b = 10 ∨ b = 11 ∨ b = 12 ∨ b = 13 ∨ b = 20 ∨ b = 30 ∨ b = 40 ∨ b = 50 ∨ b = 60 ∨ b = 70 ∨ b = 71) : am_cl am_cds (d + 2) 65 [.inl (nI b)] (am_S M) (some (.inl (abB b))) (am_S M) := by
  refine am_cl_in am_c65 rfl ?_
  rcases hb with rfl | rfl | rfl | rfl | rfl | rfl | rfl | rfl | rfl | rfl | rfl
  all_goals
    repeat' first | refine am_wp_step _ rfl ?_ | refine am_iteB (fun h => ?_) (fun h => ?_) | refine am_iteN (fun h => ?_) (fun h => ?_) | refine am_ite (fun h => ?_) (fun h => ?_) | refine ⟨_, _, c_within _ _ _ _ _, ?_⟩ | refine am_andv (by unfold vp_in; decide) ?_ | refine ⟨by decide, ?_⟩ | fail
    exact ⟨trivial, rfl, rfl⟩
def SY (p : Nat) (m u : Int32) (M : am_F) : Prop := M 23 0 0 1 = nI p ∧ M 23 0 0 2 = m ∧ M 23 0 0 3 = u
theorem SY_F {p : Nat} {m u : Int32} {M M' : am_F} (h : rwF M M' 14) (hS : SY p m u M) : SY p m u M' := by
  unfold SY at *
  rw [h 23 0 (by omega)]
  exact hS
def Sayc (p : Nat) (m u : Int32) (k : Nat) : Prop := ∀ (e c f : Nat) (x : Int32) (M : am_F) (l : List Int32), k + 3 ≤ e → c ≤ 3 → f ≤ 6 → l.length + (vo p m u k c f x).2.length ≤ 40 → SY p m u M → rwL M l → ∃ M', am_cl am_cds e 63 [.inr (.inr (23, 0, 0)), .inl (nI c), .inl (nI f), .inl x, .inl (nI (13 - k))] (am_S M) (some (.inl (vo p m u k c f x).1)) (am_S M') ∧ rwL M' (l ++ (vo p m u k c f x).2) ∧ rwF M M' 14
theorem vo_10 {p k c f : Nat} {m u x : Int32} (hb : bdy c f = 10) : vo p m u (k + 1) c f x = (x + u, [10]) := by
  simp only [vo, hb]
theorem okk_10 {p k c f : Nat} (hb : bdy c f = 10) : okk p (k + 1) c f = (true) := by
  simp only [okk, hb]
theorem vo_11 {p k c f : Nat} {m u x : Int32} (hb : bdy c f = 11) : vo p m u (k + 1) c f x = ((vo p m u k 0 p x).1 * 2, 11 :: (vo p m u k 0 p x).2) := by
  simp only [vo, hb]
theorem okk_11 {p k c f : Nat} (hb : bdy c f = 11) : okk p (k + 1) c f = (okk p k 0 p) := by
  simp only [okk, hb]
theorem vo_12 {p k c f : Nat} {m u x : Int32} (hb : bdy c f = 12) : vo p m u (k + 1) c f x = (x - m, [12]) := by
  simp only [vo, hb]
theorem okk_12 {p k c f : Nat} (hb : bdy c f = 12) : okk p (k + 1) c f = (true) := by
  simp only [okk, hb]
theorem vo_13 {p k c f : Nat} {m u x : Int32} (hb : bdy c f = 13) : vo p m u (k + 1) c f x = ((vo p m u k 1 p x).1 ^^^ (vo p m u k 2 p x).1, 13 :: ((vo p m u k 1 p x).2 ++ (vo p m u k 2 p x).2)) := by
  simp only [vo, hb]
theorem okk_13 {p k c f : Nat} (hb : bdy c f = 13) : okk p (k + 1) c f = (okk p k 1 p && okk p k 2 p) := by
  simp only [okk, hb]
theorem vo_20 {p k c f : Nat} {m u x : Int32} (hb : bdy c f = 20) : vo p m u (k + 1) c f x = ((vo p m u k 1 0 x).1 - (vo p m u k 2 p 1).1, 20 :: ((vo p m u k 1 0 x).2 ++ (vo p m u k 2 p 1).2)) := by
  simp only [vo, hb]
theorem okk_20 {p k c f : Nat} (hb : bdy c f = 20) : okk p (k + 1) c f = (okk p k 1 0 && okk p k 2 p) := by
  simp only [okk, hb]
theorem vo_30 {p k c f : Nat} {m u x : Int32} (hb : bdy c f = 30) : vo p m u (k + 1) c f x = ((vo p m u k 0 0 x).1 * 3, 30 :: (vo p m u k 0 0 x).2) := by
  simp only [vo, hb]
theorem okk_30 {p k c f : Nat} (hb : bdy c f = 30) : okk p (k + 1) c f = (okk p k 0 0) := by
  simp only [okk, hb]
theorem vo_40 {p k c f : Nat} {m u x : Int32} (hb : bdy c f = 40) : vo p m u (k + 1) c f x = (-(vo p m u k 2 0 x).1, 40 :: (vo p m u k 2 0 x).2) := by
  simp only [vo, hb]
theorem okk_40 {p k c f : Nat} (hb : bdy c f = 40) : okk p (k + 1) c f = (okk p k 2 0) := by
  simp only [okk, hb]
theorem vo_50 {p k c f : Nat} {m u x : Int32} (hb : bdy c f = 50) : vo p m u (k + 1) c f x = ((vo p m u k 1 1 (x + 1)).1, 50 :: (vo p m u k 1 1 (x + 1)).2) := by
  simp only [vo, hb]
theorem okk_50 {p k c f : Nat} (hb : bdy c f = 50) : okk p (k + 1) c f = (okk p k 1 1) := by
  simp only [okk, hb]
theorem vo_60 {p k c f : Nat} {m u x : Int32} (hb : bdy c f = 60) : vo p m u (k + 1) c f x = ((vo p m u k 3 2 x).1 - (vo p m u k 0 p 2).1, 60 :: ((vo p m u k 3 2 x).2 ++ (vo p m u k 0 p 2).2)) := by
  simp only [vo, hb]
theorem okk_60 {p k c f : Nat} (hb : bdy c f = 60) : okk p (k + 1) c f = (okk p k 3 2 && okk p k 0 p) := by
  simp only [okk, hb]
theorem vo_70 {p k c f : Nat} {m u x : Int32} (hb : bdy c f = 70) : vo p m u (k + 1) c f x = ((vo p m u k 2 3 x).1 ^^^ u, 70 :: (vo p m u k 2 3 x).2) := by
  simp only [vo, hb]
theorem okk_70 {p k c f : Nat} (hb : bdy c f = 70) : okk p (k + 1) c f = (okk p k 2 3) := by
  simp only [okk, hb]
theorem vo_71 {p k c f : Nat} {m u x : Int32} (hb : bdy c f = 71) : vo p m u (k + 1) c f x = ((vo p m u k 1 p x).1 - (vo p m u k 3 3 x).1, 71 :: ((vo p m u k 1 p x).2 ++ (vo p m u k 3 3 x).2)) := by
  simp only [vo, hb]
theorem okk_71 {p k c f : Nat} (hb : bdy c f = 71) : okk p (k + 1) c f = (okk p k 1 p && okk p k 3 3) := by
  simp only [okk, hb]
theorem c_say (p : Nat) (m u : Int32) (hp : p ≤ 6) (k : Nat) (hk : k ≤ 13) : Sayc p m u k := by
  induction k with
  | zero =>
    intro e c f x M l he hc hf hl hS hw
    obtain ⟨e', rfl⟩ : ∃ e', e = e' + 3 := ⟨e - 3, by omega⟩
    refine am_cl_v (fun M' => rwL M' (l ++ (vo p m u 0 c f x).2) ∧ rwF M M' 14) am_c63 rfl ?_
    iterate 5 refine am_wp_step _ rfl ?_
    refine ⟨trivial, rfl, M, rfl, ?_, rwF_rf⟩
    show rwL M (l ++ [])
    rw [List.append_nil]
    exact hw
  | succ k ih =>
    have ih := ih (by omega)
    intro e c f x M l he hc hf hl hS hw
    obtain ⟨e', rfl⟩ : ∃ e', e = e' + 4 := ⟨e - 4, by omega⟩
    have hde : nI (13 - (k + 1)) + 1 = nI (13 - k) := by rw [nI_1]; congr 1; omega
    have hb := bdy_in c f hc hf
    refine am_cl_v (fun M' => rwL M' (l ++ (vo p m u (k + 1) c f x).2) ∧ rwF M M' 14) am_c63 rfl ?_
    iterate 3 refine am_wp_step _ rfl ?_
    refine am_iteT (nI_le (b := 12) (by omega) (by decide)) ?_
    iterate 3 refine am_wp_step _ rfl ?_
    refine ⟨_, _, c_bodyOf _ c f M hc hf, ?_⟩
    rcases hb with q | q | q | q | q | q | q | q | q | q | q
    · rw [q]
      rw [vo_10 q] at hl ⊢
      simp only [List.length_cons, List.length_append, List.length_nil] at hl
      iterate 3 refine am_wp_step _ rfl ?_
      refine ⟨_, _, c_aboveBody _ 10 M (by decide), ?_⟩
      iterate 5 refine am_wp_step _ rfl ?_
      rw [hde]
      iterate 4 refine am_wp_step _ rfl ?_
      refine am_call0 (c_addL _ (nI 10) l M hw (by omega)) (fun M1 h1 => ?_)
      obtain ⟨w1, f1⟩ := h1
      have s1 := SY_F f1 hS
      iterate 7 refine am_wp_step _ rfl ?_
      refine ⟨trivial, ?_, M1, rfl, w1, f1⟩
      show some (Sum.inl (x + M1 23 0 0 3)) = _
      rw [s1.2.2]
    · rw [q]
      rw [vo_11 q] at hl ⊢
      simp only [List.length_cons, List.length_append, List.length_nil] at hl
      iterate 3 refine am_wp_step _ rfl ?_
      refine ⟨_, _, c_aboveBody _ 11 M (by decide), ?_⟩
      iterate 5 refine am_wp_step _ rfl ?_
      rw [hde]
      iterate 4 refine am_wp_step _ rfl ?_
      refine am_call0 (c_addL _ (nI 11) l M hw (by omega)) (fun M1 h1 => ?_)
      obtain ⟨w1, f1⟩ := h1
      have s1 := SY_F f1 hS
      iterate 2 refine am_wp_step _ rfl ?_
      iterate 6 refine am_wp_step _ rfl ?_
      rw [show (am_S M1).2.2 23 0 0 1 = nI p from s1.1]
      iterate 1 refine am_wp_step _ rfl ?_
      refine am_call1 (ih _ 0 p x M1 (l ++ [nI 11]) (by omega) (by decide) hp (by simp only [List.length_cons, List.length_append, List.length_nil]; omega) s1 w1) (fun M2 h2 => ?_)
      obtain ⟨w2, f2⟩ := h2
      have s2 := SY_F f2 s1
      iterate 3 refine am_wp_step _ rfl ?_
      refine ⟨trivial, ?_, M2, rfl, ?_, (rwF_tr f1 f2)⟩
      · rfl
      · simp only [List.append_assoc, List.cons_append, List.nil_append] at w2 ⊢
        exact w2
    · rw [q]
      rw [vo_12 q] at hl ⊢
      simp only [List.length_cons, List.length_append, List.length_nil] at hl
      iterate 3 refine am_wp_step _ rfl ?_
      refine ⟨_, _, c_aboveBody _ 12 M (by decide), ?_⟩
      iterate 5 refine am_wp_step _ rfl ?_
      rw [hde]
      iterate 4 refine am_wp_step _ rfl ?_
      refine am_call0 (c_addL _ (nI 12) l M hw (by omega)) (fun M1 h1 => ?_)
      obtain ⟨w1, f1⟩ := h1
      have s1 := SY_F f1 hS
      iterate 7 refine am_wp_step _ rfl ?_
      refine ⟨trivial, ?_, M1, rfl, w1, f1⟩
      show some (Sum.inl (x - M1 23 0 0 2)) = _
      rw [s1.2.1]
    · rw [q]
      rw [vo_13 q] at hl ⊢
      simp only [List.length_cons, List.length_append, List.length_nil] at hl
      iterate 3 refine am_wp_step _ rfl ?_
      refine ⟨_, _, c_aboveBody _ 13 M (by decide), ?_⟩
      iterate 5 refine am_wp_step _ rfl ?_
      rw [hde]
      iterate 4 refine am_wp_step _ rfl ?_
      refine am_call0 (c_addL _ (nI 13) l M hw (by omega)) (fun M1 h1 => ?_)
      obtain ⟨w1, f1⟩ := h1
      have s1 := SY_F f1 hS
      iterate 2 refine am_wp_step _ rfl ?_
      iterate 6 refine am_wp_step _ rfl ?_
      rw [show (am_S M1).2.2 23 0 0 1 = nI p from s1.1]
      iterate 1 refine am_wp_step _ rfl ?_
      refine am_call1 (ih _ 1 p x M1 (l ++ [nI 13]) (by omega) (by decide) hp (by simp only [List.length_cons, List.length_append, List.length_nil]; omega) s1 w1) (fun M2 h2 => ?_)
      obtain ⟨w2, f2⟩ := h2
      have s2 := SY_F f2 s1
      iterate 6 refine am_wp_step _ rfl ?_
      rw [show (am_S M2).2.2 23 0 0 1 = nI p from s2.1]
      iterate 1 refine am_wp_step _ rfl ?_
      refine am_call1 (ih _ 2 p x M2 ((l ++ [nI 13]) ++ (vo p m u k 1 p x).2) (by omega) (by decide) hp (by simp only [List.length_cons, List.length_append, List.length_nil]; omega) s2 w2) (fun M3 h3 => ?_)
      obtain ⟨w3, f3⟩ := h3
      have s3 := SY_F f3 s2
      iterate 2 refine am_wp_step _ rfl ?_
      refine ⟨trivial, ?_, M3, rfl, ?_, (rwF_tr (rwF_tr f1 f2) f3)⟩
      · rfl
      · simp only [List.append_assoc, List.cons_append, List.nil_append] at w3 ⊢
        exact w3
    · rw [q]
      rw [vo_20 q] at hl ⊢
      simp only [List.length_cons, List.length_append, List.length_nil] at hl
      iterate 3 refine am_wp_step _ rfl ?_
      refine ⟨_, _, c_aboveBody _ 20 M (by decide), ?_⟩
      iterate 5 refine am_wp_step _ rfl ?_
      rw [hde]
      iterate 4 refine am_wp_step _ rfl ?_
      refine am_call0 (c_addL _ (nI 20) l M hw (by omega)) (fun M1 h1 => ?_)
      obtain ⟨w1, f1⟩ := h1
      have s1 := SY_F f1 hS
      iterate 2 refine am_wp_step _ rfl ?_
      iterate 5 refine am_wp_step _ rfl ?_
      rw [show abB 20 = nI 0 from rfl]
      iterate 1 refine am_wp_step _ rfl ?_
      refine am_call1 (ih _ 1 0 x M1 (l ++ [nI 20]) (by omega) (by decide) (by decide) (by simp only [List.length_cons, List.length_append, List.length_nil]; omega) s1 w1) (fun M2 h2 => ?_)
      obtain ⟨w2, f2⟩ := h2
      have s2 := SY_F f2 s1
      iterate 6 refine am_wp_step _ rfl ?_
      rw [show (am_S M2).2.2 23 0 0 1 = nI p from s2.1]
      iterate 1 refine am_wp_step _ rfl ?_
      refine am_call1 (ih _ 2 p 1 M2 ((l ++ [nI 20]) ++ (vo p m u k 1 0 x).2) (by omega) (by decide) hp (by simp only [List.length_cons, List.length_append, List.length_nil]; omega) s2 w2) (fun M3 h3 => ?_)
      obtain ⟨w3, f3⟩ := h3
      have s3 := SY_F f3 s2
      iterate 2 refine am_wp_step _ rfl ?_
      refine ⟨trivial, ?_, M3, rfl, ?_, (rwF_tr (rwF_tr f1 f2) f3)⟩
      · rfl
      · simp only [List.append_assoc, List.cons_append, List.nil_append] at w3 ⊢
        exact w3
    · rw [q]
      rw [vo_30 q] at hl ⊢
      simp only [List.length_cons, List.length_append, List.length_nil] at hl
      iterate 3 refine am_wp_step _ rfl ?_
      refine ⟨_, _, c_aboveBody _ 30 M (by decide), ?_⟩
      iterate 5 refine am_wp_step _ rfl ?_
      rw [hde]
      iterate 4 refine am_wp_step _ rfl ?_
      refine am_call0 (c_addL _ (nI 30) l M hw (by omega)) (fun M1 h1 => ?_)
      obtain ⟨w1, f1⟩ := h1
      have s1 := SY_F f1 hS
      iterate 2 refine am_wp_step _ rfl ?_
      iterate 5 refine am_wp_step _ rfl ?_
      rw [show abB 30 = nI 0 from rfl]
      iterate 1 refine am_wp_step _ rfl ?_
      refine am_call1 (ih _ 0 0 x M1 (l ++ [nI 30]) (by omega) (by decide) (by decide) (by simp only [List.length_cons, List.length_append, List.length_nil]; omega) s1 w1) (fun M2 h2 => ?_)
      obtain ⟨w2, f2⟩ := h2
      have s2 := SY_F f2 s1
      iterate 3 refine am_wp_step _ rfl ?_
      refine ⟨trivial, ?_, M2, rfl, ?_, (rwF_tr f1 f2)⟩
      · rfl
      · simp only [List.append_assoc, List.cons_append, List.nil_append] at w2 ⊢
        exact w2
    · rw [q]
      rw [vo_40 q] at hl ⊢
      simp only [List.length_cons, List.length_append, List.length_nil] at hl
      iterate 3 refine am_wp_step _ rfl ?_
      refine ⟨_, _, c_aboveBody _ 40 M (by decide), ?_⟩
      iterate 5 refine am_wp_step _ rfl ?_
      rw [hde]
      iterate 4 refine am_wp_step _ rfl ?_
      refine am_call0 (c_addL _ (nI 40) l M hw (by omega)) (fun M1 h1 => ?_)
      obtain ⟨w1, f1⟩ := h1
      have s1 := SY_F f1 hS
      iterate 2 refine am_wp_step _ rfl ?_
      iterate 5 refine am_wp_step _ rfl ?_
      rw [show abB 40 = nI 0 from rfl]
      iterate 1 refine am_wp_step _ rfl ?_
      refine am_call1 (ih _ 2 0 x M1 (l ++ [nI 40]) (by omega) (by decide) (by decide) (by simp only [List.length_cons, List.length_append, List.length_nil]; omega) s1 w1) (fun M2 h2 => ?_)
      obtain ⟨w2, f2⟩ := h2
      have s2 := SY_F f2 s1
      iterate 2 refine am_wp_step _ rfl ?_
      refine ⟨trivial, ?_, M2, rfl, ?_, (rwF_tr f1 f2)⟩
      · rfl
      · simp only [List.append_assoc, List.cons_append, List.nil_append] at w2 ⊢
        exact w2
    · rw [q]
      rw [vo_50 q] at hl ⊢
      simp only [List.length_cons, List.length_append, List.length_nil] at hl
      iterate 3 refine am_wp_step _ rfl ?_
      refine ⟨_, _, c_aboveBody _ 50 M (by decide), ?_⟩
      iterate 5 refine am_wp_step _ rfl ?_
      rw [hde]
      iterate 4 refine am_wp_step _ rfl ?_
      refine am_call0 (c_addL _ (nI 50) l M hw (by omega)) (fun M1 h1 => ?_)
      obtain ⟨w1, f1⟩ := h1
      have s1 := SY_F f1 hS
      iterate 2 refine am_wp_step _ rfl ?_
      iterate 7 refine am_wp_step _ rfl ?_
      rw [show abB 50 = nI 1 from rfl]
      iterate 1 refine am_wp_step _ rfl ?_
      refine am_call1 (ih _ 1 1 (x + 1) M1 (l ++ [nI 50]) (by omega) (by decide) (by decide) (by simp only [List.length_cons, List.length_append, List.length_nil]; omega) s1 w1) (fun M2 h2 => ?_)
      obtain ⟨w2, f2⟩ := h2
      have s2 := SY_F f2 s1
      iterate 1 refine am_wp_step _ rfl ?_
      refine ⟨trivial, ?_, M2, rfl, ?_, (rwF_tr f1 f2)⟩
      · rfl
      · simp only [List.append_assoc, List.cons_append, List.nil_append] at w2 ⊢
        exact w2
    · rw [q]
      rw [vo_60 q] at hl ⊢
      simp only [List.length_cons, List.length_append, List.length_nil] at hl
      iterate 3 refine am_wp_step _ rfl ?_
      refine ⟨_, _, c_aboveBody _ 60 M (by decide), ?_⟩
      iterate 5 refine am_wp_step _ rfl ?_
      rw [hde]
      iterate 4 refine am_wp_step _ rfl ?_
      refine am_call0 (c_addL _ (nI 60) l M hw (by omega)) (fun M1 h1 => ?_)
      obtain ⟨w1, f1⟩ := h1
      have s1 := SY_F f1 hS
      iterate 2 refine am_wp_step _ rfl ?_
      iterate 5 refine am_wp_step _ rfl ?_
      rw [show abB 60 = nI 2 from rfl]
      iterate 1 refine am_wp_step _ rfl ?_
      refine am_call1 (ih _ 3 2 x M1 (l ++ [nI 60]) (by omega) (by decide) (by decide) (by simp only [List.length_cons, List.length_append, List.length_nil]; omega) s1 w1) (fun M2 h2 => ?_)
      obtain ⟨w2, f2⟩ := h2
      have s2 := SY_F f2 s1
      iterate 6 refine am_wp_step _ rfl ?_
      rw [show (am_S M2).2.2 23 0 0 1 = nI p from s2.1]
      iterate 1 refine am_wp_step _ rfl ?_
      refine am_call1 (ih _ 0 p 2 M2 ((l ++ [nI 60]) ++ (vo p m u k 3 2 x).2) (by omega) (by decide) hp (by simp only [List.length_cons, List.length_append, List.length_nil]; omega) s2 w2) (fun M3 h3 => ?_)
      obtain ⟨w3, f3⟩ := h3
      have s3 := SY_F f3 s2
      iterate 2 refine am_wp_step _ rfl ?_
      refine ⟨trivial, ?_, M3, rfl, ?_, (rwF_tr (rwF_tr f1 f2) f3)⟩
      · rfl
      · simp only [List.append_assoc, List.cons_append, List.nil_append] at w3 ⊢
        exact w3
    · rw [q]
      rw [vo_70 q] at hl ⊢
      simp only [List.length_cons, List.length_append, List.length_nil] at hl
      iterate 3 refine am_wp_step _ rfl ?_
      refine ⟨_, _, c_aboveBody _ 70 M (by decide), ?_⟩
      iterate 5 refine am_wp_step _ rfl ?_
      rw [hde]
      iterate 4 refine am_wp_step _ rfl ?_
      refine am_call0 (c_addL _ (nI 70) l M hw (by omega)) (fun M1 h1 => ?_)
      obtain ⟨w1, f1⟩ := h1
      have s1 := SY_F f1 hS
      iterate 2 refine am_wp_step _ rfl ?_
      iterate 5 refine am_wp_step _ rfl ?_
      rw [show abB 70 = nI 3 from rfl]
      iterate 1 refine am_wp_step _ rfl ?_
      refine am_call1 (ih _ 2 3 x M1 (l ++ [nI 70]) (by omega) (by decide) (by decide) (by simp only [List.length_cons, List.length_append, List.length_nil]; omega) s1 w1) (fun M2 h2 => ?_)
      obtain ⟨w2, f2⟩ := h2
      have s2 := SY_F f2 s1
      iterate 4 refine am_wp_step _ rfl ?_
      refine ⟨trivial, ?_, M2, rfl, ?_, (rwF_tr f1 f2)⟩
      · show some (Sum.inl (_ ^^^ M2 23 0 0 3)) = _
        rw [s2.2.2]
      · simp only [List.append_assoc, List.cons_append, List.nil_append] at w2 ⊢
        exact w2
    · rw [q]
      rw [vo_71 q] at hl ⊢
      simp only [List.length_cons, List.length_append, List.length_nil] at hl
      iterate 3 refine am_wp_step _ rfl ?_
      refine ⟨_, _, c_aboveBody _ 71 M (by decide), ?_⟩
      iterate 5 refine am_wp_step _ rfl ?_
      rw [hde]
      iterate 4 refine am_wp_step _ rfl ?_
      refine am_call0 (c_addL _ (nI 71) l M hw (by omega)) (fun M1 h1 => ?_)
      obtain ⟨w1, f1⟩ := h1
      have s1 := SY_F f1 hS
      iterate 2 refine am_wp_step _ rfl ?_
      iterate 6 refine am_wp_step _ rfl ?_
      rw [show (am_S M1).2.2 23 0 0 1 = nI p from s1.1]
      iterate 1 refine am_wp_step _ rfl ?_
      refine am_call1 (ih _ 1 p x M1 (l ++ [nI 71]) (by omega) (by decide) hp (by simp only [List.length_cons, List.length_append, List.length_nil]; omega) s1 w1) (fun M2 h2 => ?_)
      obtain ⟨w2, f2⟩ := h2
      have s2 := SY_F f2 s1
      iterate 5 refine am_wp_step _ rfl ?_
      iterate 1 refine am_wp_step _ rfl ?_
      refine am_call1 (ih _ 3 3 x M2 ((l ++ [nI 71]) ++ (vo p m u k 1 p x).2) (by omega) (by decide) (by decide) (by simp only [List.length_cons, List.length_append, List.length_nil]; omega) s2 w2) (fun M3 h3 => ?_)
      obtain ⟨w3, f3⟩ := h3
      have s3 := SY_F f3 s2
      iterate 2 refine am_wp_step _ rfl ?_
      refine ⟨trivial, ?_, M3, rfl, ?_, (rwF_tr (rwF_tr f1 f2) f3)⟩
      · rfl
      · simp only [List.append_assoc, List.cons_append, List.nil_append] at w3 ⊢
        exact w3
def hasO (f c : Nat) : Bool := decide (f = 0) || ((decide (f = 1) || decide (f = 4)) && decide (c = 1)) || (decide (f = 2) && decide (c = 0)) || (decide (f = 3) && decide (c = 2)) || (decide (f = 5) && decide (c = 3)) || (decide (f = 6) && decide (1 < c))
theorem m_hasOwn (d c f : Nat) (M : am_F) (hc : c ≤ 3) (hf : f ≤ 6) : am_cl am_cds (d + 1) 205 [.inl (nI f), .inl (nI c)] (am_S M) (some (.inl (if hasO f c = true then 1 else 0))) (am_S M) := by
  refine am_cl_in am_c205 rfl ?_
  rcases (by omega : c = 0 ∨ c = 1 ∨ c = 2 ∨ c = 3) with rfl | rfl | rfl | rfl <;> rcases (by omega : f = 0 ∨ f = 1 ∨ f = 2 ∨ f = 3 ∨ f = 4 ∨ f = 5 ∨ f = 6) with rfl | rfl | rfl | rfl | rfl | rfl | rfl
  all_goals
    repeat' first | refine am_wp_step _ rfl ?_ | refine am_iteB (fun h => ?_) (fun h => ?_) | refine am_iteN (fun h => ?_) (fun h => ?_) | refine am_ite (fun h => ?_) (fun h => ?_) | fail
    first | exact ⟨Or.inl rfl, rfl, rfl⟩ | exact ⟨Or.inr rfl, rfl, rfl⟩
def SM (i p : Nat) (m : Int32) (M : am_F) : Prop := M 26 0 0 17 = nI i ∧ M 33 0 0 (10 + 8 * i + 0) = nI p ∧ M 33 0 0 (10 + 8 * i + 1) = m
theorem SM_F {i p : Nat} {m : Int32} {M M' : am_F} (h : fV M M') (hS : SM i p m M) : SM i p m M' := by
  unfold SM at *
  rw [h 26 0 (by omega) 17 (by omega), h 33 0 (by omega) _ (by omega), h 33 0 (by omega) _ (by omega)]
  exact hS
def Bdf (i p : Nat) (m : Int32) (k : Nat) : Prop := ∀ (e c f : Nat) (x : Int32) (M : am_F) (l : List Int32), 3 * k + 6 ≤ e → c ≤ 3 → f ≤ 6 → okk p k c f = true → l.length + (vo p m (nI i) k c f x).2.length ≤ 40 → SM i p m M → rmL M l → ∃ M', am_cl am_cds e 207 [.inr (.inr (26, 0, 0)), .inl (nI f), .inl (nI c), .inl x] (am_S M) (some (.inl (vo p m (nI i) k c f x).1)) (am_S M') ∧ rmL M' (l ++ (vo p m (nI i) k c f x).2) ∧ fV M M'
theorem vo_cg {p k c f f' : Nat} {m u x : Int32} (h : bdy c f = bdy c f') : vo p m u (k + 1) c f x = vo p m u (k + 1) c f' x := by
  simp only [vo, h]
theorem okk_cg {p k c f f' : Nat} (h : bdy c f = bdy c f') : okk p (k + 1) c f = okk p (k + 1) c f' := by
  simp only [okk, h]
theorem m_voiced (i p k e' : Nat) (m : Int32) (hi : i < 8) (hp : p ≤ 6) (hk : 3 * k ≤ e') (ih : Bdf i p m k) (c : Nat) (x : Int32) (M : am_F) (l : List Int32) (hc : c ≤ 3) (ho : okk p k c p = true) (hl : l.length + (vo p m (nI i) k c p x).2.length ≤ 40) (hS : SM i p m M) (hw : rmL M l) : ∃ M', am_cl am_cds (e' + 7) 206 [.inr (.inr (26, 0, 0)), .inl (nI c), .inl x] (am_S M) (some (.inl (vo p m (nI i) k c p x).1)) (am_S M') ∧ rmL M' (l ++ (vo p m (nI i) k c p x).2) ∧ fV M M' := by
  refine am_cl_v (fun M' => rmL M' (l ++ (vo p m (nI i) k c p x).2) ∧ fV M M') am_c206 rfl ?_
  iterate 5 refine am_wp_step _ rfl ?_
  rw [show (am_S M).2.2 26 0 0 17 = nI i from hS.1]
  iterate 1 refine am_wp_step _ rfl ?_
  refine ⟨_, _, m_deadIs _ i 0 M hi (by decide), ?_⟩
  rw [hS.2.1]
  iterate 3 refine am_wp_step _ rfl ?_
  refine am_call1 (ih _ c p x M l (by omega) hc hp ho hl hS hw) (fun M' h => ?_)
  iterate 1 refine am_wp_step _ rfl ?_
  exact ⟨trivial, rfl, M', rfl, h⟩
theorem m_body10 (i p k e' : Nat) (m : Int32) (hi : i < 8) (hp : p ≤ 6) (hk : 3 * k ≤ e') (ih : Bdf i p m k) (x : Int32) (M : am_F) (l : List Int32) (ho : okk p (k + 1) 0 0 = true) (hl : l.length + (vo p m (nI i) (k + 1) 0 0 x).2.length ≤ 40) (hS : SM i p m M) (hw : rmL M l) : ∃ M', am_cl am_cds (e' + 8) 208 [.inr (.inr (26, 0, 0)), .inl (nI 0), .inl (nI 0), .inl x] (am_S M) (some (.inl (vo p m (nI i) (k + 1) 0 0 x).1)) (am_S M') ∧ rmL M' (l ++ (vo p m (nI i) (k + 1) 0 0 x).2) ∧ fV M M' := by
  rw [vo_10 rfl] at hl ⊢
  simp only [List.length_cons, List.length_append, List.length_nil] at hl
  refine am_cl_v (fun M' => rmL M' (l ++ ([10])) ∧ fV M M') am_c208 rfl ?_
  iterate 3 refine am_wp_step _ rfl ?_
  rw [show (am_S M).2.2 26 0 0 17 = nI i from hS.1]
  iterate 4 refine am_wp_step _ rfl ?_
  rw [show (am_S M).2.2 26 0 0 17 = nI i from hS.1]
  iterate 1 refine am_wp_step _ rfl ?_
  refine ⟨_, _, m_deadIs _ i 1 M hi (by decide), ?_⟩
  rw [hS.2.2]
  iterate 7 refine am_wp_step _ rfl ?_
  iterate 3 refine am_wp_step _ rfl ?_
  refine am_call0 (m_began _ 10 l M hw (by omega)) (fun M1 h1 => ?_)
  obtain ⟨w1, f1⟩ := h1
  have s1 := SM_F f1 hS
  iterate 4 refine am_wp_step _ rfl ?_
  exact ⟨trivial, rfl, M1, rfl, w1, f1⟩
theorem m_body11 (i p k e' : Nat) (m : Int32) (hi : i < 8) (hp : p ≤ 6) (hk : 3 * k ≤ e') (ih : Bdf i p m k) (x : Int32) (M : am_F) (l : List Int32) (ho : okk p (k + 1) 1 0 = true) (hl : l.length + (vo p m (nI i) (k + 1) 1 0 x).2.length ≤ 40) (hS : SM i p m M) (hw : rmL M l) : ∃ M', am_cl am_cds (e' + 8) 208 [.inr (.inr (26, 0, 0)), .inl (nI 0), .inl (nI 1), .inl x] (am_S M) (some (.inl (vo p m (nI i) (k + 1) 1 0 x).1)) (am_S M') ∧ rmL M' (l ++ (vo p m (nI i) (k + 1) 1 0 x).2) ∧ fV M M' := by
  rw [vo_11 rfl] at hl ⊢
  rw [okk_11 rfl] at ho
  simp only [List.length_cons, List.length_append, List.length_nil] at hl
  refine am_cl_v (fun M' => rmL M' (l ++ (11 :: (vo p m (nI i) k 0 p x).2)) ∧ fV M M') am_c208 rfl ?_
  iterate 3 refine am_wp_step _ rfl ?_
  rw [show (am_S M).2.2 26 0 0 17 = nI i from hS.1]
  iterate 4 refine am_wp_step _ rfl ?_
  rw [show (am_S M).2.2 26 0 0 17 = nI i from hS.1]
  iterate 1 refine am_wp_step _ rfl ?_
  refine ⟨_, _, m_deadIs _ i 1 M hi (by decide), ?_⟩
  rw [hS.2.2]
  iterate 7 refine am_wp_step _ rfl ?_
  iterate 3 refine am_wp_step _ rfl ?_
  refine am_call0 (m_began _ 11 l M hw (by omega)) (fun M1 h1 => ?_)
  obtain ⟨w1, f1⟩ := h1
  have s1 := SM_F f1 hS
  iterate 4 refine am_wp_step _ rfl ?_
  refine am_call1 (m_voiced i p k e' m hi hp hk ih 0 x M1 (l ++ [11]) (by decide) ho (by simp only [List.length_cons, List.length_append, List.length_nil]; omega) s1 w1) (fun M2 h2 => ?_)
  obtain ⟨w2, f2⟩ := h2
  have s2 := SM_F f2 s1
  iterate 3 refine am_wp_step _ rfl ?_
  refine ⟨trivial, rfl, M2, rfl, ?_, (fV_tr f1 f2)⟩
  simp only [List.append_assoc, List.cons_append, List.nil_append] at w2 ⊢
  exact w2
theorem m_body12 (i p k e' : Nat) (m : Int32) (hi : i < 8) (hp : p ≤ 6) (hk : 3 * k ≤ e') (ih : Bdf i p m k) (x : Int32) (M : am_F) (l : List Int32) (ho : okk p (k + 1) 2 0 = true) (hl : l.length + (vo p m (nI i) (k + 1) 2 0 x).2.length ≤ 40) (hS : SM i p m M) (hw : rmL M l) : ∃ M', am_cl am_cds (e' + 8) 208 [.inr (.inr (26, 0, 0)), .inl (nI 0), .inl (nI 2), .inl x] (am_S M) (some (.inl (vo p m (nI i) (k + 1) 2 0 x).1)) (am_S M') ∧ rmL M' (l ++ (vo p m (nI i) (k + 1) 2 0 x).2) ∧ fV M M' := by
  rw [vo_12 rfl] at hl ⊢
  simp only [List.length_cons, List.length_append, List.length_nil] at hl
  refine am_cl_v (fun M' => rmL M' (l ++ ([12])) ∧ fV M M') am_c208 rfl ?_
  iterate 3 refine am_wp_step _ rfl ?_
  rw [show (am_S M).2.2 26 0 0 17 = nI i from hS.1]
  iterate 4 refine am_wp_step _ rfl ?_
  rw [show (am_S M).2.2 26 0 0 17 = nI i from hS.1]
  iterate 1 refine am_wp_step _ rfl ?_
  refine ⟨_, _, m_deadIs _ i 1 M hi (by decide), ?_⟩
  rw [hS.2.2]
  iterate 7 refine am_wp_step _ rfl ?_
  iterate 3 refine am_wp_step _ rfl ?_
  refine am_call0 (m_began _ 12 l M hw (by omega)) (fun M1 h1 => ?_)
  obtain ⟨w1, f1⟩ := h1
  have s1 := SM_F f1 hS
  iterate 4 refine am_wp_step _ rfl ?_
  exact ⟨trivial, rfl, M1, rfl, w1, f1⟩
theorem m_body13 (i p k e' : Nat) (m : Int32) (hi : i < 8) (hp : p ≤ 6) (hk : 3 * k ≤ e') (ih : Bdf i p m k) (x : Int32) (M : am_F) (l : List Int32) (ho : okk p (k + 1) 3 0 = true) (hl : l.length + (vo p m (nI i) (k + 1) 3 0 x).2.length ≤ 40) (hS : SM i p m M) (hw : rmL M l) : ∃ M', am_cl am_cds (e' + 8) 208 [.inr (.inr (26, 0, 0)), .inl (nI 0), .inl (nI 3), .inl x] (am_S M) (some (.inl (vo p m (nI i) (k + 1) 3 0 x).1)) (am_S M') ∧ rmL M' (l ++ (vo p m (nI i) (k + 1) 3 0 x).2) ∧ fV M M' := by
  rw [vo_13 rfl] at hl ⊢
  rw [okk_13 rfl] at ho
  obtain ⟨ho1, ho2⟩ := Bool.and_eq_true_iff.mp ho
  simp only [List.length_cons, List.length_append, List.length_nil] at hl
  refine am_cl_v (fun M' => rmL M' (l ++ (13 :: ((vo p m (nI i) k 1 p x).2 ++ (vo p m (nI i) k 2 p x).2))) ∧ fV M M') am_c208 rfl ?_
  iterate 3 refine am_wp_step _ rfl ?_
  rw [show (am_S M).2.2 26 0 0 17 = nI i from hS.1]
  iterate 4 refine am_wp_step _ rfl ?_
  rw [show (am_S M).2.2 26 0 0 17 = nI i from hS.1]
  iterate 1 refine am_wp_step _ rfl ?_
  refine ⟨_, _, m_deadIs _ i 1 M hi (by decide), ?_⟩
  rw [hS.2.2]
  iterate 7 refine am_wp_step _ rfl ?_
  iterate 3 refine am_wp_step _ rfl ?_
  refine am_call0 (m_began _ 13 l M hw (by omega)) (fun M1 h1 => ?_)
  obtain ⟨w1, f1⟩ := h1
  have s1 := SM_F f1 hS
  iterate 4 refine am_wp_step _ rfl ?_
  refine am_call1 (m_voiced i p k e' m hi hp hk ih 1 x M1 (l ++ [13]) (by decide) ho1 (by simp only [List.length_cons, List.length_append, List.length_nil]; omega) s1 w1) (fun M2 h2 => ?_)
  obtain ⟨w2, f2⟩ := h2
  have s2 := SM_F f2 s1
  iterate 6 refine am_wp_step _ rfl ?_
  refine am_call1 (m_voiced i p k e' m hi hp hk ih 2 x M2 ((l ++ [13]) ++ (vo p m (nI i) k 1 p x).2) (by decide) ho2 (by simp only [List.length_cons, List.length_append, List.length_nil]; omega) s2 w2) (fun M3 h3 => ?_)
  obtain ⟨w3, f3⟩ := h3
  have s3 := SM_F f3 s2
  iterate 2 refine am_wp_step _ rfl ?_
  refine ⟨trivial, rfl, M3, rfl, ?_, (fV_tr (fV_tr f1 f2) f3)⟩
  simp only [List.append_assoc, List.cons_append, List.nil_append] at w3 ⊢
  exact w3
theorem m_body20 (i p k e' : Nat) (m : Int32) (hi : i < 8) (hp : p ≤ 6) (hk : 3 * k ≤ e') (ih : Bdf i p m k) (x : Int32) (M : am_F) (l : List Int32) (ho : okk p (k + 1) 1 1 = true) (hl : l.length + (vo p m (nI i) (k + 1) 1 1 x).2.length ≤ 40) (hS : SM i p m M) (hw : rmL M l) : ∃ M', am_cl am_cds (e' + 8) 208 [.inr (.inr (26, 0, 0)), .inl (nI 1), .inl (nI 1), .inl x] (am_S M) (some (.inl (vo p m (nI i) (k + 1) 1 1 x).1)) (am_S M') ∧ rmL M' (l ++ (vo p m (nI i) (k + 1) 1 1 x).2) ∧ fV M M' := by
  rw [vo_20 rfl] at hl ⊢
  rw [okk_20 rfl] at ho
  obtain ⟨ho1, ho2⟩ := Bool.and_eq_true_iff.mp ho
  simp only [List.length_cons, List.length_append, List.length_nil] at hl
  refine am_cl_v (fun M' => rmL M' (l ++ (20 :: ((vo p m (nI i) k 1 0 x).2 ++ (vo p m (nI i) k 2 p 1).2))) ∧ fV M M') am_c208 rfl ?_
  iterate 3 refine am_wp_step _ rfl ?_
  rw [show (am_S M).2.2 26 0 0 17 = nI i from hS.1]
  iterate 4 refine am_wp_step _ rfl ?_
  rw [show (am_S M).2.2 26 0 0 17 = nI i from hS.1]
  iterate 1 refine am_wp_step _ rfl ?_
  refine ⟨_, _, m_deadIs _ i 1 M hi (by decide), ?_⟩
  rw [hS.2.2]
  iterate 7 refine am_wp_step _ rfl ?_
  iterate 3 refine am_wp_step _ rfl ?_
  refine am_call0 (m_began _ 20 l M hw (by omega)) (fun M1 h1 => ?_)
  obtain ⟨w1, f1⟩ := h1
  have s1 := SM_F f1 hS
  iterate 5 refine am_wp_step _ rfl ?_
  refine am_call1 (ih (e' + 7) 1 0 x M1 (l ++ [20]) (by omega) (by decide) (by decide) ho1 (by simp only [List.length_cons, List.length_append, List.length_nil]; omega) s1 w1) (fun M2 h2 => ?_)
  obtain ⟨w2, f2⟩ := h2
  have s2 := SM_F f2 s1
  iterate 6 refine am_wp_step _ rfl ?_
  refine am_call1 (m_voiced i p k e' m hi hp hk ih 2 1 M2 ((l ++ [20]) ++ (vo p m (nI i) k 1 0 x).2) (by decide) ho2 (by simp only [List.length_cons, List.length_append, List.length_nil]; omega) s2 w2) (fun M3 h3 => ?_)
  obtain ⟨w3, f3⟩ := h3
  have s3 := SM_F f3 s2
  iterate 2 refine am_wp_step _ rfl ?_
  refine ⟨trivial, rfl, M3, rfl, ?_, (fV_tr (fV_tr f1 f2) f3)⟩
  simp only [List.append_assoc, List.cons_append, List.nil_append] at w3 ⊢
  exact w3
theorem m_body30 (i p k e' : Nat) (m : Int32) (hi : i < 8) (hp : p ≤ 6) (hk : 3 * k ≤ e') (ih : Bdf i p m k) (x : Int32) (M : am_F) (l : List Int32) (ho : okk p (k + 1) 0 2 = true) (hl : l.length + (vo p m (nI i) (k + 1) 0 2 x).2.length ≤ 40) (hS : SM i p m M) (hw : rmL M l) : ∃ M', am_cl am_cds (e' + 8) 208 [.inr (.inr (26, 0, 0)), .inl (nI 2), .inl (nI 0), .inl x] (am_S M) (some (.inl (vo p m (nI i) (k + 1) 0 2 x).1)) (am_S M') ∧ rmL M' (l ++ (vo p m (nI i) (k + 1) 0 2 x).2) ∧ fV M M' := by
  rw [vo_30 rfl] at hl ⊢
  rw [okk_30 rfl] at ho
  simp only [List.length_cons, List.length_append, List.length_nil] at hl
  refine am_cl_v (fun M' => rmL M' (l ++ (30 :: (vo p m (nI i) k 0 0 x).2)) ∧ fV M M') am_c208 rfl ?_
  iterate 3 refine am_wp_step _ rfl ?_
  rw [show (am_S M).2.2 26 0 0 17 = nI i from hS.1]
  iterate 4 refine am_wp_step _ rfl ?_
  rw [show (am_S M).2.2 26 0 0 17 = nI i from hS.1]
  iterate 1 refine am_wp_step _ rfl ?_
  refine ⟨_, _, m_deadIs _ i 1 M hi (by decide), ?_⟩
  rw [hS.2.2]
  iterate 7 refine am_wp_step _ rfl ?_
  iterate 3 refine am_wp_step _ rfl ?_
  refine am_call0 (m_began _ 30 l M hw (by omega)) (fun M1 h1 => ?_)
  obtain ⟨w1, f1⟩ := h1
  have s1 := SM_F f1 hS
  iterate 5 refine am_wp_step _ rfl ?_
  refine am_call1 (ih (e' + 7) 0 0 x M1 (l ++ [30]) (by omega) (by decide) (by decide) ho (by simp only [List.length_cons, List.length_append, List.length_nil]; omega) s1 w1) (fun M2 h2 => ?_)
  obtain ⟨w2, f2⟩ := h2
  have s2 := SM_F f2 s1
  iterate 3 refine am_wp_step _ rfl ?_
  refine ⟨trivial, rfl, M2, rfl, ?_, (fV_tr f1 f2)⟩
  simp only [List.append_assoc, List.cons_append, List.nil_append] at w2 ⊢
  exact w2
theorem m_body40 (i p k e' : Nat) (m : Int32) (hi : i < 8) (hp : p ≤ 6) (hk : 3 * k ≤ e') (ih : Bdf i p m k) (x : Int32) (M : am_F) (l : List Int32) (ho : okk p (k + 1) 2 3 = true) (hl : l.length + (vo p m (nI i) (k + 1) 2 3 x).2.length ≤ 40) (hS : SM i p m M) (hw : rmL M l) : ∃ M', am_cl am_cds (e' + 8) 208 [.inr (.inr (26, 0, 0)), .inl (nI 3), .inl (nI 2), .inl x] (am_S M) (some (.inl (vo p m (nI i) (k + 1) 2 3 x).1)) (am_S M') ∧ rmL M' (l ++ (vo p m (nI i) (k + 1) 2 3 x).2) ∧ fV M M' := by
  rw [vo_40 rfl] at hl ⊢
  rw [okk_40 rfl] at ho
  simp only [List.length_cons, List.length_append, List.length_nil] at hl
  refine am_cl_v (fun M' => rmL M' (l ++ (40 :: (vo p m (nI i) k 2 0 x).2)) ∧ fV M M') am_c208 rfl ?_
  iterate 3 refine am_wp_step _ rfl ?_
  rw [show (am_S M).2.2 26 0 0 17 = nI i from hS.1]
  iterate 4 refine am_wp_step _ rfl ?_
  rw [show (am_S M).2.2 26 0 0 17 = nI i from hS.1]
  iterate 1 refine am_wp_step _ rfl ?_
  refine ⟨_, _, m_deadIs _ i 1 M hi (by decide), ?_⟩
  rw [hS.2.2]
  iterate 7 refine am_wp_step _ rfl ?_
  iterate 3 refine am_wp_step _ rfl ?_
  refine am_call0 (m_began _ 40 l M hw (by omega)) (fun M1 h1 => ?_)
  obtain ⟨w1, f1⟩ := h1
  have s1 := SM_F f1 hS
  iterate 5 refine am_wp_step _ rfl ?_
  refine am_call1 (ih (e' + 7) 2 0 x M1 (l ++ [40]) (by omega) (by decide) (by decide) ho (by simp only [List.length_cons, List.length_append, List.length_nil]; omega) s1 w1) (fun M2 h2 => ?_)
  obtain ⟨w2, f2⟩ := h2
  have s2 := SM_F f2 s1
  iterate 2 refine am_wp_step _ rfl ?_
  refine ⟨trivial, rfl, M2, rfl, ?_, (fV_tr f1 f2)⟩
  simp only [List.append_assoc, List.cons_append, List.nil_append] at w2 ⊢
  exact w2
theorem m_body50 (i p k e' : Nat) (m : Int32) (hi : i < 8) (hp : p ≤ 6) (hk : 3 * k ≤ e') (ih : Bdf i p m k) (x : Int32) (M : am_F) (l : List Int32) (ho : okk p (k + 1) 1 4 = true) (hl : l.length + (vo p m (nI i) (k + 1) 1 4 x).2.length ≤ 40) (hS : SM i p m M) (hw : rmL M l) : ∃ M', am_cl am_cds (e' + 8) 208 [.inr (.inr (26, 0, 0)), .inl (nI 4), .inl (nI 1), .inl x] (am_S M) (some (.inl (vo p m (nI i) (k + 1) 1 4 x).1)) (am_S M') ∧ rmL M' (l ++ (vo p m (nI i) (k + 1) 1 4 x).2) ∧ fV M M' := by
  rw [vo_50 rfl] at hl ⊢
  rw [okk_50 rfl] at ho
  simp only [List.length_cons, List.length_append, List.length_nil] at hl
  refine am_cl_v (fun M' => rmL M' (l ++ (50 :: (vo p m (nI i) k 1 1 (x + 1)).2)) ∧ fV M M') am_c208 rfl ?_
  iterate 3 refine am_wp_step _ rfl ?_
  rw [show (am_S M).2.2 26 0 0 17 = nI i from hS.1]
  iterate 4 refine am_wp_step _ rfl ?_
  rw [show (am_S M).2.2 26 0 0 17 = nI i from hS.1]
  iterate 1 refine am_wp_step _ rfl ?_
  refine ⟨_, _, m_deadIs _ i 1 M hi (by decide), ?_⟩
  rw [hS.2.2]
  iterate 7 refine am_wp_step _ rfl ?_
  iterate 3 refine am_wp_step _ rfl ?_
  refine am_call0 (m_began _ 50 l M hw (by omega)) (fun M1 h1 => ?_)
  obtain ⟨w1, f1⟩ := h1
  have s1 := SM_F f1 hS
  iterate 7 refine am_wp_step _ rfl ?_
  refine am_call1 (ih (e' + 7) 1 1 (x + 1) M1 (l ++ [50]) (by omega) (by decide) (by decide) ho (by simp only [List.length_cons, List.length_append, List.length_nil]; omega) s1 w1) (fun M2 h2 => ?_)
  obtain ⟨w2, f2⟩ := h2
  have s2 := SM_F f2 s1
  iterate 1 refine am_wp_step _ rfl ?_
  refine ⟨trivial, rfl, M2, rfl, ?_, (fV_tr f1 f2)⟩
  simp only [List.append_assoc, List.cons_append, List.nil_append] at w2 ⊢
  exact w2
theorem m_body60 (i p k e' : Nat) (m : Int32) (hi : i < 8) (hp : p ≤ 6) (hk : 3 * k ≤ e') (ih : Bdf i p m k) (x : Int32) (M : am_F) (l : List Int32) (ho : okk p (k + 1) 3 5 = true) (hl : l.length + (vo p m (nI i) (k + 1) 3 5 x).2.length ≤ 40) (hS : SM i p m M) (hw : rmL M l) : ∃ M', am_cl am_cds (e' + 8) 208 [.inr (.inr (26, 0, 0)), .inl (nI 5), .inl (nI 3), .inl x] (am_S M) (some (.inl (vo p m (nI i) (k + 1) 3 5 x).1)) (am_S M') ∧ rmL M' (l ++ (vo p m (nI i) (k + 1) 3 5 x).2) ∧ fV M M' := by
  rw [vo_60 rfl] at hl ⊢
  rw [okk_60 rfl] at ho
  obtain ⟨ho1, ho2⟩ := Bool.and_eq_true_iff.mp ho
  simp only [List.length_cons, List.length_append, List.length_nil] at hl
  refine am_cl_v (fun M' => rmL M' (l ++ (60 :: ((vo p m (nI i) k 3 2 x).2 ++ (vo p m (nI i) k 0 p 2).2))) ∧ fV M M') am_c208 rfl ?_
  iterate 3 refine am_wp_step _ rfl ?_
  rw [show (am_S M).2.2 26 0 0 17 = nI i from hS.1]
  iterate 4 refine am_wp_step _ rfl ?_
  rw [show (am_S M).2.2 26 0 0 17 = nI i from hS.1]
  iterate 1 refine am_wp_step _ rfl ?_
  refine ⟨_, _, m_deadIs _ i 1 M hi (by decide), ?_⟩
  rw [hS.2.2]
  iterate 7 refine am_wp_step _ rfl ?_
  iterate 3 refine am_wp_step _ rfl ?_
  refine am_call0 (m_began _ 60 l M hw (by omega)) (fun M1 h1 => ?_)
  obtain ⟨w1, f1⟩ := h1
  have s1 := SM_F f1 hS
  iterate 5 refine am_wp_step _ rfl ?_
  refine am_call1 (ih (e' + 7) 3 2 x M1 (l ++ [60]) (by omega) (by decide) (by decide) ho1 (by simp only [List.length_cons, List.length_append, List.length_nil]; omega) s1 w1) (fun M2 h2 => ?_)
  obtain ⟨w2, f2⟩ := h2
  have s2 := SM_F f2 s1
  iterate 6 refine am_wp_step _ rfl ?_
  refine am_call1 (m_voiced i p k e' m hi hp hk ih 0 2 M2 ((l ++ [60]) ++ (vo p m (nI i) k 3 2 x).2) (by decide) ho2 (by simp only [List.length_cons, List.length_append, List.length_nil]; omega) s2 w2) (fun M3 h3 => ?_)
  obtain ⟨w3, f3⟩ := h3
  have s3 := SM_F f3 s2
  iterate 2 refine am_wp_step _ rfl ?_
  refine ⟨trivial, rfl, M3, rfl, ?_, (fV_tr (fV_tr f1 f2) f3)⟩
  simp only [List.append_assoc, List.cons_append, List.nil_append] at w3 ⊢
  exact w3
theorem m_body70 (i p k e' : Nat) (m : Int32) (hi : i < 8) (hp : p ≤ 6) (hk : 3 * k ≤ e') (ih : Bdf i p m k) (x : Int32) (M : am_F) (l : List Int32) (ho : okk p (k + 1) 2 6 = true) (hl : l.length + (vo p m (nI i) (k + 1) 2 6 x).2.length ≤ 40) (hS : SM i p m M) (hw : rmL M l) : ∃ M', am_cl am_cds (e' + 8) 208 [.inr (.inr (26, 0, 0)), .inl (nI 6), .inl (nI 2), .inl x] (am_S M) (some (.inl (vo p m (nI i) (k + 1) 2 6 x).1)) (am_S M') ∧ rmL M' (l ++ (vo p m (nI i) (k + 1) 2 6 x).2) ∧ fV M M' := by
  rw [vo_70 rfl] at hl ⊢
  rw [okk_70 rfl] at ho
  simp only [List.length_cons, List.length_append, List.length_nil] at hl
  refine am_cl_v (fun M' => rmL M' (l ++ (70 :: (vo p m (nI i) k 2 3 x).2)) ∧ fV M M') am_c208 rfl ?_
  iterate 3 refine am_wp_step _ rfl ?_
  rw [show (am_S M).2.2 26 0 0 17 = nI i from hS.1]
  iterate 4 refine am_wp_step _ rfl ?_
  rw [show (am_S M).2.2 26 0 0 17 = nI i from hS.1]
  iterate 1 refine am_wp_step _ rfl ?_
  refine ⟨_, _, m_deadIs _ i 1 M hi (by decide), ?_⟩
  rw [hS.2.2]
  iterate 7 refine am_wp_step _ rfl ?_
  iterate 3 refine am_wp_step _ rfl ?_
  refine am_call0 (m_began _ 70 l M hw (by omega)) (fun M1 h1 => ?_)
  obtain ⟨w1, f1⟩ := h1
  have s1 := SM_F f1 hS
  iterate 5 refine am_wp_step _ rfl ?_
  refine am_call1 (ih (e' + 7) 2 3 x M1 (l ++ [70]) (by omega) (by decide) (by decide) ho (by simp only [List.length_cons, List.length_append, List.length_nil]; omega) s1 w1) (fun M2 h2 => ?_)
  obtain ⟨w2, f2⟩ := h2
  have s2 := SM_F f2 s1
  iterate 3 refine am_wp_step _ rfl ?_
  refine ⟨trivial, rfl, M2, rfl, ?_, (fV_tr f1 f2)⟩
  simp only [List.append_assoc, List.cons_append, List.nil_append] at w2 ⊢
  exact w2
theorem m_body71 (i p k e' : Nat) (m : Int32) (hi : i < 8) (hp : p ≤ 6) (hk : 3 * k ≤ e') (ih : Bdf i p m k) (x : Int32) (M : am_F) (l : List Int32) (ho : okk p (k + 1) 3 6 = true) (hl : l.length + (vo p m (nI i) (k + 1) 3 6 x).2.length ≤ 40) (hS : SM i p m M) (hw : rmL M l) : ∃ M', am_cl am_cds (e' + 8) 208 [.inr (.inr (26, 0, 0)), .inl (nI 6), .inl (nI 3), .inl x] (am_S M) (some (.inl (vo p m (nI i) (k + 1) 3 6 x).1)) (am_S M') ∧ rmL M' (l ++ (vo p m (nI i) (k + 1) 3 6 x).2) ∧ fV M M' := by
  rw [vo_71 rfl] at hl ⊢
  rw [okk_71 rfl] at ho
  obtain ⟨ho1, ho2⟩ := Bool.and_eq_true_iff.mp ho
  simp only [List.length_cons, List.length_append, List.length_nil] at hl
  refine am_cl_v (fun M' => rmL M' (l ++ (71 :: ((vo p m (nI i) k 1 p x).2 ++ (vo p m (nI i) k 3 3 x).2))) ∧ fV M M') am_c208 rfl ?_
  iterate 3 refine am_wp_step _ rfl ?_
  rw [show (am_S M).2.2 26 0 0 17 = nI i from hS.1]
  iterate 4 refine am_wp_step _ rfl ?_
  rw [show (am_S M).2.2 26 0 0 17 = nI i from hS.1]
  iterate 1 refine am_wp_step _ rfl ?_
  refine ⟨_, _, m_deadIs _ i 1 M hi (by decide), ?_⟩
  rw [hS.2.2]
  iterate 7 refine am_wp_step _ rfl ?_
  iterate 3 refine am_wp_step _ rfl ?_
  refine am_call0 (m_began _ 71 l M hw (by omega)) (fun M1 h1 => ?_)
  obtain ⟨w1, f1⟩ := h1
  have s1 := SM_F f1 hS
  iterate 4 refine am_wp_step _ rfl ?_
  refine am_call1 (m_voiced i p k e' m hi hp hk ih 1 x M1 (l ++ [71]) (by decide) ho1 (by simp only [List.length_cons, List.length_append, List.length_nil]; omega) s1 w1) (fun M2 h2 => ?_)
  obtain ⟨w2, f2⟩ := h2
  have s2 := SM_F f2 s1
  iterate 7 refine am_wp_step _ rfl ?_
  refine am_call1 (ih (e' + 7) 3 3 x M2 ((l ++ [71]) ++ (vo p m (nI i) k 1 p x).2) (by omega) (by decide) (by decide) ho2 (by simp only [List.length_cons, List.length_append, List.length_nil]; omega) s2 w2) (fun M3 h3 => ?_)
  obtain ⟨w3, f3⟩ := h3
  have s3 := SM_F f3 s2
  iterate 2 refine am_wp_step _ rfl ?_
  refine ⟨trivial, rfl, M3, rfl, ?_, (fV_tr (fV_tr f1 f2) f3)⟩
  simp only [List.append_assoc, List.cons_append, List.nil_append] at w3 ⊢
  exact w3
theorem m_bodyFrom (i p : Nat) (m : Int32) (hi : i < 8) (hp : p ≤ 6) (k : Nat) : Bdf i p m k := by
  induction k with
  | zero =>
    intro e c f x M l he hc hf ho
    exact nomatch (show false = true from ho)
  | succ k ih =>
    intro e c f x M l he hc hf ho hl hS hw
    obtain ⟨e', rfl⟩ : ∃ e', e = e' + 9 := ⟨e - 9, by omega⟩
    have hk : 3 * k ≤ e' := by omega
    refine am_cl_v (fun M' => rmL M' (l ++ (vo p m (nI i) (k + 1) c f x).2) ∧ fV M M') am_c207 rfl ?_
    rcases (by omega : c = 0 ∨ c = 1 ∨ c = 2 ∨ c = 3) with rfl | rfl | rfl | rfl
    · rcases (by omega : f = 0 ∨ f = 1 ∨ f = 2 ∨ f = 3 ∨ f = 4 ∨ f = 5 ∨ f = 6) with rfl | rfl | rfl | rfl | rfl | rfl | rfl
      · rw [vo_cg (show bdy 0 0 = bdy 0 0 from rfl)] at hl ⊢
        rw [okk_cg (show bdy 0 0 = bdy 0 0 from rfl)] at ho
        repeat' first | refine am_wp_step _ rfl ?_ | refine am_iteB (fun h => ?_) (fun h => ?_) | refine am_iteN (fun h => ?_) (fun h => ?_) | refine am_ite (fun h => ?_) (fun h => ?_) | refine ⟨_, _, m_hasOwn _ 0 _ M (by decide) (by decide), ?_⟩ | refine ⟨_, _, m_above _ _ _, ?_⟩ | refine am_call1 (m_body10 i p k e' m hi hp hk ih x M l ho hl hS hw) (fun M' h => ?_) | fail
        exact ⟨trivial, rfl, M', rfl, h⟩
      · rw [vo_cg (show bdy 0 1 = bdy 0 0 from rfl)] at hl ⊢
        rw [okk_cg (show bdy 0 1 = bdy 0 0 from rfl)] at ho
        repeat' first | refine am_wp_step _ rfl ?_ | refine am_iteB (fun h => ?_) (fun h => ?_) | refine am_iteN (fun h => ?_) (fun h => ?_) | refine am_ite (fun h => ?_) (fun h => ?_) | refine ⟨_, _, m_hasOwn _ 0 _ M (by decide) (by decide), ?_⟩ | refine ⟨_, _, m_above _ _ _, ?_⟩ | refine am_call1 (m_body10 i p k e' m hi hp hk ih x M l ho hl hS hw) (fun M' h => ?_) | fail
        exact ⟨trivial, rfl, M', rfl, h⟩
      · rw [vo_cg (show bdy 0 2 = bdy 0 2 from rfl)] at hl ⊢
        rw [okk_cg (show bdy 0 2 = bdy 0 2 from rfl)] at ho
        repeat' first | refine am_wp_step _ rfl ?_ | refine am_iteB (fun h => ?_) (fun h => ?_) | refine am_iteN (fun h => ?_) (fun h => ?_) | refine am_ite (fun h => ?_) (fun h => ?_) | refine ⟨_, _, m_hasOwn _ 0 _ M (by decide) (by decide), ?_⟩ | refine ⟨_, _, m_above _ _ _, ?_⟩ | refine am_call1 (m_body30 i p k e' m hi hp hk ih x M l ho hl hS hw) (fun M' h => ?_) | fail
        exact ⟨trivial, rfl, M', rfl, h⟩
      · rw [vo_cg (show bdy 0 3 = bdy 0 0 from rfl)] at hl ⊢
        rw [okk_cg (show bdy 0 3 = bdy 0 0 from rfl)] at ho
        repeat' first | refine am_wp_step _ rfl ?_ | refine am_iteB (fun h => ?_) (fun h => ?_) | refine am_iteN (fun h => ?_) (fun h => ?_) | refine am_ite (fun h => ?_) (fun h => ?_) | refine ⟨_, _, m_hasOwn _ 0 _ M (by decide) (by decide), ?_⟩ | refine ⟨_, _, m_above _ _ _, ?_⟩ | refine am_call1 (m_body10 i p k e' m hi hp hk ih x M l ho hl hS hw) (fun M' h => ?_) | fail
        exact ⟨trivial, rfl, M', rfl, h⟩
      · rw [vo_cg (show bdy 0 4 = bdy 0 0 from rfl)] at hl ⊢
        rw [okk_cg (show bdy 0 4 = bdy 0 0 from rfl)] at ho
        repeat' first | refine am_wp_step _ rfl ?_ | refine am_iteB (fun h => ?_) (fun h => ?_) | refine am_iteN (fun h => ?_) (fun h => ?_) | refine am_ite (fun h => ?_) (fun h => ?_) | refine ⟨_, _, m_hasOwn _ 0 _ M (by decide) (by decide), ?_⟩ | refine ⟨_, _, m_above _ _ _, ?_⟩ | refine am_call1 (m_body10 i p k e' m hi hp hk ih x M l ho hl hS hw) (fun M' h => ?_) | fail
        exact ⟨trivial, rfl, M', rfl, h⟩
      · rw [vo_cg (show bdy 0 5 = bdy 0 2 from rfl)] at hl ⊢
        rw [okk_cg (show bdy 0 5 = bdy 0 2 from rfl)] at ho
        repeat' first | refine am_wp_step _ rfl ?_ | refine am_iteB (fun h => ?_) (fun h => ?_) | refine am_iteN (fun h => ?_) (fun h => ?_) | refine am_ite (fun h => ?_) (fun h => ?_) | refine ⟨_, _, m_hasOwn _ 0 _ M (by decide) (by decide), ?_⟩ | refine ⟨_, _, m_above _ _ _, ?_⟩ | refine am_call1 (m_body30 i p k e' m hi hp hk ih x M l ho hl hS hw) (fun M' h => ?_) | fail
        exact ⟨trivial, rfl, M', rfl, h⟩
      · rw [vo_cg (show bdy 0 6 = bdy 0 0 from rfl)] at hl ⊢
        rw [okk_cg (show bdy 0 6 = bdy 0 0 from rfl)] at ho
        repeat' first | refine am_wp_step _ rfl ?_ | refine am_iteB (fun h => ?_) (fun h => ?_) | refine am_iteN (fun h => ?_) (fun h => ?_) | refine am_ite (fun h => ?_) (fun h => ?_) | refine ⟨_, _, m_hasOwn _ 0 _ M (by decide) (by decide), ?_⟩ | refine ⟨_, _, m_above _ _ _, ?_⟩ | refine am_call1 (m_body10 i p k e' m hi hp hk ih x M l ho hl hS hw) (fun M' h => ?_) | fail
        exact ⟨trivial, rfl, M', rfl, h⟩
    · rcases (by omega : f = 0 ∨ f = 1 ∨ f = 2 ∨ f = 3 ∨ f = 4 ∨ f = 5 ∨ f = 6) with rfl | rfl | rfl | rfl | rfl | rfl | rfl
      · rw [vo_cg (show bdy 1 0 = bdy 1 0 from rfl)] at hl ⊢
        rw [okk_cg (show bdy 1 0 = bdy 1 0 from rfl)] at ho
        repeat' first | refine am_wp_step _ rfl ?_ | refine am_iteB (fun h => ?_) (fun h => ?_) | refine am_iteN (fun h => ?_) (fun h => ?_) | refine am_ite (fun h => ?_) (fun h => ?_) | refine ⟨_, _, m_hasOwn _ 1 _ M (by decide) (by decide), ?_⟩ | refine ⟨_, _, m_above _ _ _, ?_⟩ | refine am_call1 (m_body11 i p k e' m hi hp hk ih x M l ho hl hS hw) (fun M' h => ?_) | fail
        exact ⟨trivial, rfl, M', rfl, h⟩
      · rw [vo_cg (show bdy 1 1 = bdy 1 1 from rfl)] at hl ⊢
        rw [okk_cg (show bdy 1 1 = bdy 1 1 from rfl)] at ho
        repeat' first | refine am_wp_step _ rfl ?_ | refine am_iteB (fun h => ?_) (fun h => ?_) | refine am_iteN (fun h => ?_) (fun h => ?_) | refine am_ite (fun h => ?_) (fun h => ?_) | refine ⟨_, _, m_hasOwn _ 1 _ M (by decide) (by decide), ?_⟩ | refine ⟨_, _, m_above _ _ _, ?_⟩ | refine am_call1 (m_body20 i p k e' m hi hp hk ih x M l ho hl hS hw) (fun M' h => ?_) | fail
        exact ⟨trivial, rfl, M', rfl, h⟩
      · rw [vo_cg (show bdy 1 2 = bdy 1 0 from rfl)] at hl ⊢
        rw [okk_cg (show bdy 1 2 = bdy 1 0 from rfl)] at ho
        repeat' first | refine am_wp_step _ rfl ?_ | refine am_iteB (fun h => ?_) (fun h => ?_) | refine am_iteN (fun h => ?_) (fun h => ?_) | refine am_ite (fun h => ?_) (fun h => ?_) | refine ⟨_, _, m_hasOwn _ 1 _ M (by decide) (by decide), ?_⟩ | refine ⟨_, _, m_above _ _ _, ?_⟩ | refine am_call1 (m_body11 i p k e' m hi hp hk ih x M l ho hl hS hw) (fun M' h => ?_) | fail
        exact ⟨trivial, rfl, M', rfl, h⟩
      · rw [vo_cg (show bdy 1 3 = bdy 1 0 from rfl)] at hl ⊢
        rw [okk_cg (show bdy 1 3 = bdy 1 0 from rfl)] at ho
        repeat' first | refine am_wp_step _ rfl ?_ | refine am_iteB (fun h => ?_) (fun h => ?_) | refine am_iteN (fun h => ?_) (fun h => ?_) | refine am_ite (fun h => ?_) (fun h => ?_) | refine ⟨_, _, m_hasOwn _ 1 _ M (by decide) (by decide), ?_⟩ | refine ⟨_, _, m_above _ _ _, ?_⟩ | refine am_call1 (m_body11 i p k e' m hi hp hk ih x M l ho hl hS hw) (fun M' h => ?_) | fail
        exact ⟨trivial, rfl, M', rfl, h⟩
      · rw [vo_cg (show bdy 1 4 = bdy 1 4 from rfl)] at hl ⊢
        rw [okk_cg (show bdy 1 4 = bdy 1 4 from rfl)] at ho
        repeat' first | refine am_wp_step _ rfl ?_ | refine am_iteB (fun h => ?_) (fun h => ?_) | refine am_iteN (fun h => ?_) (fun h => ?_) | refine am_ite (fun h => ?_) (fun h => ?_) | refine ⟨_, _, m_hasOwn _ 1 _ M (by decide) (by decide), ?_⟩ | refine ⟨_, _, m_above _ _ _, ?_⟩ | refine am_call1 (m_body50 i p k e' m hi hp hk ih x M l ho hl hS hw) (fun M' h => ?_) | fail
        exact ⟨trivial, rfl, M', rfl, h⟩
      · rw [vo_cg (show bdy 1 5 = bdy 1 0 from rfl)] at hl ⊢
        rw [okk_cg (show bdy 1 5 = bdy 1 0 from rfl)] at ho
        repeat' first | refine am_wp_step _ rfl ?_ | refine am_iteB (fun h => ?_) (fun h => ?_) | refine am_iteN (fun h => ?_) (fun h => ?_) | refine am_ite (fun h => ?_) (fun h => ?_) | refine ⟨_, _, m_hasOwn _ 1 _ M (by decide) (by decide), ?_⟩ | refine ⟨_, _, m_above _ _ _, ?_⟩ | refine am_call1 (m_body11 i p k e' m hi hp hk ih x M l ho hl hS hw) (fun M' h => ?_) | fail
        exact ⟨trivial, rfl, M', rfl, h⟩
      · rw [vo_cg (show bdy 1 6 = bdy 1 0 from rfl)] at hl ⊢
        rw [okk_cg (show bdy 1 6 = bdy 1 0 from rfl)] at ho
        repeat' first | refine am_wp_step _ rfl ?_ | refine am_iteB (fun h => ?_) (fun h => ?_) | refine am_iteN (fun h => ?_) (fun h => ?_) | refine am_ite (fun h => ?_) (fun h => ?_) | refine ⟨_, _, m_hasOwn _ 1 _ M (by decide) (by decide), ?_⟩ | refine ⟨_, _, m_above _ _ _, ?_⟩ | refine am_call1 (m_body11 i p k e' m hi hp hk ih x M l ho hl hS hw) (fun M' h => ?_) | fail
        exact ⟨trivial, rfl, M', rfl, h⟩
    · rcases (by omega : f = 0 ∨ f = 1 ∨ f = 2 ∨ f = 3 ∨ f = 4 ∨ f = 5 ∨ f = 6) with rfl | rfl | rfl | rfl | rfl | rfl | rfl
      · rw [vo_cg (show bdy 2 0 = bdy 2 0 from rfl)] at hl ⊢
        rw [okk_cg (show bdy 2 0 = bdy 2 0 from rfl)] at ho
        repeat' first | refine am_wp_step _ rfl ?_ | refine am_iteB (fun h => ?_) (fun h => ?_) | refine am_iteN (fun h => ?_) (fun h => ?_) | refine am_ite (fun h => ?_) (fun h => ?_) | refine ⟨_, _, m_hasOwn _ 2 _ M (by decide) (by decide), ?_⟩ | refine ⟨_, _, m_above _ _ _, ?_⟩ | refine am_call1 (m_body12 i p k e' m hi hp hk ih x M l ho hl hS hw) (fun M' h => ?_) | fail
        exact ⟨trivial, rfl, M', rfl, h⟩
      · rw [vo_cg (show bdy 2 1 = bdy 2 0 from rfl)] at hl ⊢
        rw [okk_cg (show bdy 2 1 = bdy 2 0 from rfl)] at ho
        repeat' first | refine am_wp_step _ rfl ?_ | refine am_iteB (fun h => ?_) (fun h => ?_) | refine am_iteN (fun h => ?_) (fun h => ?_) | refine am_ite (fun h => ?_) (fun h => ?_) | refine ⟨_, _, m_hasOwn _ 2 _ M (by decide) (by decide), ?_⟩ | refine ⟨_, _, m_above _ _ _, ?_⟩ | refine am_call1 (m_body12 i p k e' m hi hp hk ih x M l ho hl hS hw) (fun M' h => ?_) | fail
        exact ⟨trivial, rfl, M', rfl, h⟩
      · rw [vo_cg (show bdy 2 2 = bdy 2 0 from rfl)] at hl ⊢
        rw [okk_cg (show bdy 2 2 = bdy 2 0 from rfl)] at ho
        repeat' first | refine am_wp_step _ rfl ?_ | refine am_iteB (fun h => ?_) (fun h => ?_) | refine am_iteN (fun h => ?_) (fun h => ?_) | refine am_ite (fun h => ?_) (fun h => ?_) | refine ⟨_, _, m_hasOwn _ 2 _ M (by decide) (by decide), ?_⟩ | refine ⟨_, _, m_above _ _ _, ?_⟩ | refine am_call1 (m_body12 i p k e' m hi hp hk ih x M l ho hl hS hw) (fun M' h => ?_) | fail
        exact ⟨trivial, rfl, M', rfl, h⟩
      · rw [vo_cg (show bdy 2 3 = bdy 2 3 from rfl)] at hl ⊢
        rw [okk_cg (show bdy 2 3 = bdy 2 3 from rfl)] at ho
        repeat' first | refine am_wp_step _ rfl ?_ | refine am_iteB (fun h => ?_) (fun h => ?_) | refine am_iteN (fun h => ?_) (fun h => ?_) | refine am_ite (fun h => ?_) (fun h => ?_) | refine ⟨_, _, m_hasOwn _ 2 _ M (by decide) (by decide), ?_⟩ | refine ⟨_, _, m_above _ _ _, ?_⟩ | refine am_call1 (m_body40 i p k e' m hi hp hk ih x M l ho hl hS hw) (fun M' h => ?_) | fail
        exact ⟨trivial, rfl, M', rfl, h⟩
      · rw [vo_cg (show bdy 2 4 = bdy 2 0 from rfl)] at hl ⊢
        rw [okk_cg (show bdy 2 4 = bdy 2 0 from rfl)] at ho
        repeat' first | refine am_wp_step _ rfl ?_ | refine am_iteB (fun h => ?_) (fun h => ?_) | refine am_iteN (fun h => ?_) (fun h => ?_) | refine am_ite (fun h => ?_) (fun h => ?_) | refine ⟨_, _, m_hasOwn _ 2 _ M (by decide) (by decide), ?_⟩ | refine ⟨_, _, m_above _ _ _, ?_⟩ | refine am_call1 (m_body12 i p k e' m hi hp hk ih x M l ho hl hS hw) (fun M' h => ?_) | fail
        exact ⟨trivial, rfl, M', rfl, h⟩
      · rw [vo_cg (show bdy 2 5 = bdy 2 0 from rfl)] at hl ⊢
        rw [okk_cg (show bdy 2 5 = bdy 2 0 from rfl)] at ho
        repeat' first | refine am_wp_step _ rfl ?_ | refine am_iteB (fun h => ?_) (fun h => ?_) | refine am_iteN (fun h => ?_) (fun h => ?_) | refine am_ite (fun h => ?_) (fun h => ?_) | refine ⟨_, _, m_hasOwn _ 2 _ M (by decide) (by decide), ?_⟩ | refine ⟨_, _, m_above _ _ _, ?_⟩ | refine am_call1 (m_body12 i p k e' m hi hp hk ih x M l ho hl hS hw) (fun M' h => ?_) | fail
        exact ⟨trivial, rfl, M', rfl, h⟩
      · rw [vo_cg (show bdy 2 6 = bdy 2 6 from rfl)] at hl ⊢
        rw [okk_cg (show bdy 2 6 = bdy 2 6 from rfl)] at ho
        repeat' first | refine am_wp_step _ rfl ?_ | refine am_iteB (fun h => ?_) (fun h => ?_) | refine am_iteN (fun h => ?_) (fun h => ?_) | refine am_ite (fun h => ?_) (fun h => ?_) | refine ⟨_, _, m_hasOwn _ 2 _ M (by decide) (by decide), ?_⟩ | refine ⟨_, _, m_above _ _ _, ?_⟩ | refine am_call1 (m_body70 i p k e' m hi hp hk ih x M l ho hl hS hw) (fun M' h => ?_) | fail
        exact ⟨trivial, rfl, M', rfl, h⟩
    · rcases (by omega : f = 0 ∨ f = 1 ∨ f = 2 ∨ f = 3 ∨ f = 4 ∨ f = 5 ∨ f = 6) with rfl | rfl | rfl | rfl | rfl | rfl | rfl
      · rw [vo_cg (show bdy 3 0 = bdy 3 0 from rfl)] at hl ⊢
        rw [okk_cg (show bdy 3 0 = bdy 3 0 from rfl)] at ho
        repeat' first | refine am_wp_step _ rfl ?_ | refine am_iteB (fun h => ?_) (fun h => ?_) | refine am_iteN (fun h => ?_) (fun h => ?_) | refine am_ite (fun h => ?_) (fun h => ?_) | refine ⟨_, _, m_hasOwn _ 3 _ M (by decide) (by decide), ?_⟩ | refine ⟨_, _, m_above _ _ _, ?_⟩ | refine am_call1 (m_body13 i p k e' m hi hp hk ih x M l ho hl hS hw) (fun M' h => ?_) | fail
        exact ⟨trivial, rfl, M', rfl, h⟩
      · rw [vo_cg (show bdy 3 1 = bdy 3 0 from rfl)] at hl ⊢
        rw [okk_cg (show bdy 3 1 = bdy 3 0 from rfl)] at ho
        repeat' first | refine am_wp_step _ rfl ?_ | refine am_iteB (fun h => ?_) (fun h => ?_) | refine am_iteN (fun h => ?_) (fun h => ?_) | refine am_ite (fun h => ?_) (fun h => ?_) | refine ⟨_, _, m_hasOwn _ 3 _ M (by decide) (by decide), ?_⟩ | refine ⟨_, _, m_above _ _ _, ?_⟩ | refine am_call1 (m_body13 i p k e' m hi hp hk ih x M l ho hl hS hw) (fun M' h => ?_) | fail
        exact ⟨trivial, rfl, M', rfl, h⟩
      · rw [vo_cg (show bdy 3 2 = bdy 3 0 from rfl)] at hl ⊢
        rw [okk_cg (show bdy 3 2 = bdy 3 0 from rfl)] at ho
        repeat' first | refine am_wp_step _ rfl ?_ | refine am_iteB (fun h => ?_) (fun h => ?_) | refine am_iteN (fun h => ?_) (fun h => ?_) | refine am_ite (fun h => ?_) (fun h => ?_) | refine ⟨_, _, m_hasOwn _ 3 _ M (by decide) (by decide), ?_⟩ | refine ⟨_, _, m_above _ _ _, ?_⟩ | refine am_call1 (m_body13 i p k e' m hi hp hk ih x M l ho hl hS hw) (fun M' h => ?_) | fail
        exact ⟨trivial, rfl, M', rfl, h⟩
      · rw [vo_cg (show bdy 3 3 = bdy 3 0 from rfl)] at hl ⊢
        rw [okk_cg (show bdy 3 3 = bdy 3 0 from rfl)] at ho
        repeat' first | refine am_wp_step _ rfl ?_ | refine am_iteB (fun h => ?_) (fun h => ?_) | refine am_iteN (fun h => ?_) (fun h => ?_) | refine am_ite (fun h => ?_) (fun h => ?_) | refine ⟨_, _, m_hasOwn _ 3 _ M (by decide) (by decide), ?_⟩ | refine ⟨_, _, m_above _ _ _, ?_⟩ | refine am_call1 (m_body13 i p k e' m hi hp hk ih x M l ho hl hS hw) (fun M' h => ?_) | fail
        exact ⟨trivial, rfl, M', rfl, h⟩
      · rw [vo_cg (show bdy 3 4 = bdy 3 0 from rfl)] at hl ⊢
        rw [okk_cg (show bdy 3 4 = bdy 3 0 from rfl)] at ho
        repeat' first | refine am_wp_step _ rfl ?_ | refine am_iteB (fun h => ?_) (fun h => ?_) | refine am_iteN (fun h => ?_) (fun h => ?_) | refine am_ite (fun h => ?_) (fun h => ?_) | refine ⟨_, _, m_hasOwn _ 3 _ M (by decide) (by decide), ?_⟩ | refine ⟨_, _, m_above _ _ _, ?_⟩ | refine am_call1 (m_body13 i p k e' m hi hp hk ih x M l ho hl hS hw) (fun M' h => ?_) | fail
        exact ⟨trivial, rfl, M', rfl, h⟩
      · rw [vo_cg (show bdy 3 5 = bdy 3 5 from rfl)] at hl ⊢
        rw [okk_cg (show bdy 3 5 = bdy 3 5 from rfl)] at ho
        repeat' first | refine am_wp_step _ rfl ?_ | refine am_iteB (fun h => ?_) (fun h => ?_) | refine am_iteN (fun h => ?_) (fun h => ?_) | refine am_ite (fun h => ?_) (fun h => ?_) | refine ⟨_, _, m_hasOwn _ 3 _ M (by decide) (by decide), ?_⟩ | refine ⟨_, _, m_above _ _ _, ?_⟩ | refine am_call1 (m_body60 i p k e' m hi hp hk ih x M l ho hl hS hw) (fun M' h => ?_) | fail
        exact ⟨trivial, rfl, M', rfl, h⟩
      · rw [vo_cg (show bdy 3 6 = bdy 3 6 from rfl)] at hl ⊢
        rw [okk_cg (show bdy 3 6 = bdy 3 6 from rfl)] at ho
        repeat' first | refine am_wp_step _ rfl ?_ | refine am_iteB (fun h => ?_) (fun h => ?_) | refine am_iteN (fun h => ?_) (fun h => ?_) | refine am_ite (fun h => ?_) (fun h => ?_) | refine ⟨_, _, m_hasOwn _ 3 _ M (by decide) (by decide), ?_⟩ | refine ⟨_, _, m_above _ _ _, ?_⟩ | refine am_call1 (m_body71 i p k e' m hi hp hk ih x M l ho hl hS hw) (fun M' h => ?_) | fail
        exact ⟨trivial, rfl, M', rfl, h⟩
theorem rwL_RW {M N : am_F} {l : List Int32} (h1 : rwL M l) (h2 : rmL N l) (hl : l.length ≤ 40) : RW M 14 (N 26 0 0 16) (N 33 8 0) 40 := ⟨l.length, hl, h2.1, h1.1, fun j hj => by rw [h1.2 j hj, h2.2 j hj]⟩
theorem vo_len (p c : Nat) (m u x : Int32) (hp : p ≤ 6) (hc : c ≤ 3) : (vo p m u 13 c p x).2.length ≤ 40 ∧ okk p 13 c p = true := by
  rcases (by omega : c = 0 ∨ c = 1 ∨ c = 2 ∨ c = 3) with rfl | rfl | rfl | rfl <;> rcases (by omega : p = 0 ∨ p = 1 ∨ p = 2 ∨ p = 3 ∨ p = 4 ∨ p = 5 ∨ p = 6) with rfl | rfl | rfl | rfl | rfl | rfl | rfl
  all_goals exact ⟨Nat.le_of_ble_eq_true rfl, rfl⟩
theorem jj_voice (x y z : Int32) : JJ 101 209 [.inl x, .inl y, .inl z] := by
  intro M hR
  obtain ⟨n, m, a, ha, hG, hB, hab, hT0, hT1, hW4, hW5, hz, hbl, hBY, h288, hTC⟩ := RC_get hR; have hn := hB.1; have hm := hB.2.1; have hn8 := hG.1; have hm8 := hG.2.1; have hX0 := hG.2.2.2.2.2.2.1; have hX1 := hG.2.2.2.2.2.2.2; have ho : ∀ i, i < n → odr a n i < n := (fun i hi => odr_lt hi)
  by_cases hg : isN x n ∧ 0 ≤ y ∧ y ≤ 3
  · obtain ⟨i, hi, rfl⟩ := isN_ex hg.1 (by omega)
    obtain ⟨c, hc, rfl⟩ := wI_ex (b := 3) hg.2 (by decide)
    obtain ⟨p, hp, hpe⟩ := wI_ex (b := 6) (hG.2.2.2.2.1 i hi).1 (by decide)
    generalize hmm : a (10 + 8 * i + 1) = mm
    have e0 : M 18 0 i 0 = nI p := by rw [RB_gv hi (by decide) hB]; exact hpe
    have e1 : M 18 0 i 1 = mm := by rw [RB_gv hi (by decide) hB]; exact hmm
    obtain ⟨hlen, hok⟩ := vo_len p c mm (nI i) z hp hc
    have hcl : ∃ M1, am_cl am_cds 999 62 [.inr (.inr (23, 0, 0)), .inl (nI p), .inl mm, .inl (nI i), .inl (nI c), .inl z] (am_S M) (some (.inl (vo p mm (nI i) 13 c p z).1)) (am_S M1) ∧ rwL M1 (vo p mm (nI i) 13 c p z).2 ∧ (∀ r bb, r ≠ 23 → ¬ ((r = 21 ∨ r = 27) ∧ bb = 14) → M1 r bb = M r bb) := by
      refine am_cl_v (fun M1 => rwL M1 (vo p mm (nI i) 13 c p z).2 ∧ (∀ r bb, r ≠ 23 → ¬ ((r = 21 ∨ r = 27) ∧ bb = 14) → M1 r bb = M r bb)) am_c62 rfl ?_
      iterate 3 refine am_wp_step _ rfl ?_
      refine ⟨_, c_clear _ 14 M, ?_⟩
      iterate 13 refine am_wp_step _ rfl ?_
      obtain ⟨X, hX⟩ : ∃ X, am_up (am_up (am_up (am_up M 21 14 0 1 0) 23 0 0 1 (nI p)) 23 0 0 2 mm) 23 0 0 3 (nI i) = X := ⟨_, rfl⟩
      have hXS : SY p mm (nI i) X := by
        rw [← hX]
        exact ⟨by rw [am_up_s (by decide), am_up_s (by decide), am_up_same], by rw [am_up_s (by decide), am_up_same], am_up_same⟩
      have hXw : rwL X [] := by
        rw [← hX]
        exact ⟨by rw [am_up_r (by decide), am_up_r (by decide), am_up_r (by decide), am_up_same]; rfl, fun j hj => absurd hj (Nat.not_lt_zero _)⟩
      have hk : am_wp (am_cl am_cds 998) am_c62 (fun w m_1 => w = some (.inl (vo p mm (nI i) 13 c p z).1) ∧ ∃ M', m_1 = am_S M' ∧ rwL M' (vo p mm (nI i) 13 c p z).2 ∧ (∀ r bb, r ≠ 23 → ¬ ((r = 21 ∨ r = 27) ∧ bb = 14) → M' r bb = M r bb)) 16 [(0, .inr (.inr (23, 0, 0))), (1, .inl (nI p)), (2, .inl mm), (3, .inl (nI i)), (4, .inl (nI c)), (5, .inl z)] [.inl (nI p), .inl (nI c), .inr (.inr (23, 0, 0))] (am_S X) := by
        iterate 3 refine am_wp_step _ rfl ?_
        refine am_call1 (c_say p mm (nI i) hp 13 (Nat.le_refl _) _ c p z X [] (by omega) hc hp (by simpa using hlen) hXS hXw) (fun M1 h1 => ?_)
        iterate 1 refine am_wp_step _ rfl ?_
        refine ⟨trivial, rfl, M1, rfl, by simpa using h1.1, fun r bb r1 r2 => ?_⟩
        rw [h1.2 r bb r2, ← hX, am_up_r r1, am_up_r r1, am_up_r r1, am_up_rb (by omega)]
      have e7 : X 23 0 0 1 = nI p := hXS.1
      rw [← e7] at hk
      have hk2 : ∀ v, v = X 23 0 0 1 → am_wp (am_cl am_cds 998) am_c62 (fun w m_1 => w = some (.inl (vo p mm (nI i) 13 c p z).1) ∧ ∃ M', m_1 = am_S M' ∧ rwL M' (vo p mm (nI i) 13 c p z).2 ∧ (∀ r bb, r ≠ 23 → ¬ ((r = 21 ∨ r = 27) ∧ bb = 14) → M' r bb = M r bb)) 16 [(0, .inr (.inr (23, 0, 0))), (1, .inl (nI p)), (2, .inl mm), (3, .inl (nI i)), (4, .inl (nI c)), (5, .inl z)] [.inl v, .inl (nI c), .inr (.inr (23, 0, 0))] (am_S X) := by
        intro v hv
        rw [hv, e7]
        rw [e7] at hk
        exact hk
      rw [← hX] at hk2
      exact hk2 _ rfl
    obtain ⟨M1, c1, w1, f1⟩ := hcl
    have ea : M1 33 0 0 = a := by rw [f1 33 0 (by omega) (by omega)]; exact ha
    have hmod : ∃ M2, am_cl am_cds 1000 209 [.inr (.inr (26, 0, 0)), .inl (nI i), .inl (nI c), .inl z] (am_S M1) (some (.inl (vo p mm (nI i) 13 c p z).1)) (am_S M2) ∧ rmL M2 (vo p mm (nI i) 13 c p z).2 ∧ (∀ r bb, ¬ (r = 33 ∧ bb = 8) → r ≠ 26 → M2 r bb = M1 r bb) ∧ M2 26 0 0 3 = M1 26 0 0 3 := by
      refine am_cl_v (fun M2 => rmL M2 (vo p mm (nI i) 13 c p z).2 ∧ (∀ r bb, ¬ (r = 33 ∧ bb = 8) → r ≠ 26 → M2 r bb = M1 r bb) ∧ M2 26 0 0 3 = M1 26 0 0 3) am_c209 rfl ?_
      iterate 4 refine am_wp_step _ rfl ?_
      refine ⟨_, _, cl_t hg.1 (m_isD _ _ _ (by rw [ea]; exact hG.2.2.1)), ?_⟩
      iterate 5 refine am_wp_step _ rfl ?_
      refine ⟨_, _, cl_t hg.2 (m_within _ _ _ _ _), ?_⟩
      iterate 11 refine am_wp_step _ rfl ?_
      obtain ⟨X, hX⟩ : ∃ X, am_up (am_up M1 26 0 0 16 0) 26 0 0 17 (nI i) = X := ⟨_, rfl⟩
      have hX33 : X 33 = M1 33 := by rw [← hX, am_up_r (by decide), am_up_r (by decide)]
      have hXS : SM i p mm X := ⟨by rw [← hX, am_up_same], by rw [hX33, ea]; exact hpe, by rw [hX33, ea]; exact hmm⟩
      have hXw : rmL X [] := ⟨by rw [← hX, am_up_s (by decide), am_up_same]; rfl, fun j hj => absurd hj (Nat.not_lt_zero _)⟩
      have hv := m_voiced i p 13 992 mm (by omega) hp (by decide) (m_bodyFrom i p mm (by omega) hp 13) c z X [] hc hok (by simpa using hlen) hXS hXw
      rw [← hX] at hv
      refine am_call1 hv (fun M2 h2 => ?_)
      rw [hX] at h2
      iterate 1 refine am_wp_step _ rfl ?_
      refine ⟨trivial, rfl, M2, rfl, by simpa using h2.1, fun r bb r1 r2 => ?_, ?_⟩
      · funext q1 q2
        rw [h2.2 r bb r1 q2 (by omega) q1, ← hX]
        unfold am_up
        rw [if_neg (by omega), if_neg (by omega)]
      · rw [h2.2 26 0 (by omega) 3 (by omega) 0, ← hX, am_up_s (by decide), am_up_s (by decide)]
    obtain ⟨M2, c2, w2, f2, f3⟩ := hmod
    have e33 : M1 33 = M 33 := funext fun bb => f1 33 bb (by omega) (by omega)
    have e26 : M1 26 = M 26 := funext fun bb => f1 26 bb (by omega) (by omega)
    have g33 : ∀ bb, bb ≠ 8 → M2 33 bb = M 33 bb := fun bb hb => by rw [f2 33 bb (by omega) (by omega), e33]
    refine JJ_u (v := (vo p mm (nI i) 13 c p z).1) (M1 := M1) (M2 := M2) (N := M2) ?_ c2 ?_ (fun r r1 r2 => funext fun bb => f2 r bb (by omega) r1) NQ_rf (funext fun bb => f1 0 bb (by omega) (by omega))
    · refine am_cl_in am_c101 rfl ?_
      iterate 3 refine am_wp_step _ rfl ?_
      refine ⟨_, _, cl_t hg.1 (c_isDead _ _ _ hn), ?_⟩
      iterate 5 refine am_wp_step _ rfl ?_
      refine ⟨_, _, cl_t hg.2 (c_within _ _ _ _ _), ?_⟩
      iterate 7 refine am_wp_step _ rfl ?_
      refine am_ixN (i) (rfl) (show _ < 8 by omega) (show (8 : Nat) < 2 ^ 31 by decide) (fun e => ?_); rw [e]
      iterate 8 refine am_wp_step _ rfl ?_
      rw [show (am_S M).2.2 (am_el 34) 0 i 0 = nI p from e0, show (am_S M).2.2 (am_el 34) 0 i 1 = mm from e1]
      iterate 3 refine am_wp_step _ rfl ?_
      refine ⟨_, _, c1, ?_⟩
      iterate 1 refine am_wp_step _ rfl ?_
      exact ⟨trivial, rfl, rfl⟩
    · obtain ⟨q1, q2, q3, q4, q5, q6, q7, q8⟩ := hR
      unfold RC
      rw [g33 0 (by omega), g33 1 (by omega), g33 3 (by omega), g33 9 (by omega), g33 10 (by omega), g33 11 (by omega), f3, e26, f1 25 0 (by omega) (by omega)]
      refine ⟨RR_cg (fun r hr => f1 r 0 (by omega) (by omega)) (fun bb hb => ⟨f1 21 bb (by omega) (by omega), f1 27 bb (by omega) (by omega)⟩) q1, q2.imp id (RR_cg (fun r hr => f1 r 1 (by omega) (by omega)) (fun bb hb => ⟨f1 21 bb (by omega) (by omega), f1 27 bb (by omega) (by omega)⟩)), q3, ?_, rwL_RW w1 w2 hlen, ?_, TC_cg (funext fun bb => f1 24 bb (by omega) (by omega)) q7, q8⟩
      · unfold RE at *
        rw [f1 32 0 (by omega) (by omega)]
        exact q4
      · unfold RS at *
        rw [f1 22 0 (by omega) (by omega), f1 31 0 (by omega) (by omega)]
        exact q6
  · refine JJ_e (k := 1) (by decide) (by decide) hR ?_ (fun M1 e33 e26 => ?_)
    · refine am_cl_in am_c101 rfl ?_
      repeat' first | refine am_wp_step _ rfl ?_ | refine am_iteB (fun h => ?_) (fun h => ?_) | refine am_iteN (fun h => ?_) (fun h => ?_) | refine am_ite (fun h => ?_) (fun h => ?_) | refine ⟨_, _, c_isDead _ _ _ hn, ?_⟩ | refine ⟨_, _, c_isDish _ _ _ hm, ?_⟩ | refine ⟨_, _, c_within _ _ _ _ _, ?_⟩ | refine ⟨_, _, c_isKM _ _ _, ?_⟩ | refine ⟨_, _, c_isHouse _ _ _, ?_⟩ | refine ⟨_, _, c_isAhead _ _ _, ?_⟩ | refine ⟨_, _, c_isSheet _ _ _, ?_⟩ | refine ⟨_, _, c_mostOf _ _ _, ?_⟩ | refine ⟨_, _, c_err1 _ _, ?_⟩ | refine ⟨_, _, c_err2 _ _, ?_⟩ | refine ⟨_, _, c_err3 _ _, ?_⟩ | refine ⟨_, _, c_err4 _ _, ?_⟩ | refine ⟨_, _, c_err5 _ _, ?_⟩ | refine ⟨by decide, ?_⟩ | fail
      all_goals first | exact ⟨trivial, rfl, rfl⟩ | (exfalso; clear hR hG hB hT0 hT1 hW4 hW5 hBY h288 hTC hX0 hX1; grind)
    · have ea : M1 33 0 0 = a := (by rw [e33]; exact ha); have en : M1 33 0 0 1 = nI n := (by rw [ea]; exact hG.2.2.1); have em : M1 33 0 0 2 = nI m := (by rw [ea]; exact hG.2.2.2.1)
      refine am_cl_in am_c209 rfl ?_
      repeat' first | refine am_wp_step _ rfl ?_ | refine am_iteB (fun h => ?_) (fun h => ?_) | refine am_iteN (fun h => ?_) (fun h => ?_) | refine am_ite (fun h => ?_) (fun h => ?_) | refine ⟨_, _, m_isD _ _ _ en, ?_⟩ | refine ⟨_, _, m_isH _ _ _ em, ?_⟩ | refine ⟨_, _, m_within _ _ _ _ _, ?_⟩ | refine ⟨_, _, m_isHouse _ _ _, ?_⟩ | refine ⟨_, _, m_isAhead _ _ _, ?_⟩ | refine ⟨_, _, m_isSheet _ _ _, ?_⟩ | refine ⟨_, _, m_find1 _ _, ?_⟩ | refine ⟨_, _, m_find2 _ _, ?_⟩ | refine ⟨_, _, m_find3 _ _, ?_⟩ | refine ⟨_, _, m_find4 _ _, ?_⟩ | refine ⟨_, _, m_find5 _ _, ?_⟩ | refine am_andv (by unfold vp_in; decide) ?_ | refine ⟨by decide, ?_⟩ | fail
      all_goals first | exact ⟨trivial, rfl, rfl⟩ | (exfalso; clear hR hG hB hT0 hT1 hW4 hW5 hBY h288 hTC hX0 hX1; grind)
