/-! THE MODEL'S READER -/
def mRes (M M' : am_F) (ok : Bool) (b o : Nat) (E : List Int32) : Prop := fm M M' ∧ (if ok = true then MS M' b o E else MW M' b)
theorem mRes_tr {M M1 M2 : am_F} {ok : Bool} {b o : Nat} {E : List Int32} (h : fm M M1) (h2 : mRes M1 M2 ok b o E) : mRes M M2 ok b o E := ⟨fm_tr h h2.1, h2.2⟩
def mQ (M : am_F) (ok : Bool) (b o : Nat) (E : List Int32) : Option am_V → am_M → Prop := fun w m => w = none ∧ ∃ M', m = am_S M' ∧ mRes M M' ok b o E
/-- an operator of the level was taken, or none -/
def Tk (h : Nat → Int32) (n : Nat) (M : am_F) (a o : Nat) (E : List Int32) (x : Int32) : Prop := (lvl (h a) = n ∧ x = opc (h a) ∧ MS M (a + 1) o E) ∨ (lvl (h a) ≠ n ∧ x = 0 ∧ MS M a o E)
theorem tk170_2 {D u a o N : Nat} {h : Nat → Int32} {M : am_F} {E : List Int32} {y : Int32} {Q : Option am_V → am_M → Prop} (hX : TX M u h N) (hS : MS M a o E) (ha : a ≤ 50) (K : ∀ x M1, fm M M1 → Tk h 3 M1 a o E x → am_wp (am_cl am_cds (D + 2)) am_c170 Q 22 [(0, .inr (.inr (26, 0, 0))), (1, .inl x)] [] (am_S M1)) : am_wp (am_cl am_cds (D + 2)) am_c170 Q 2 [(0, .inr (.inr (26, 0, 0)))] [] (am_S M) := by
  by_cases c0 : h a = 60
  · iterate 3 refine am_wp_step _ rfl ?_
    refine am_call1 (m_takesT hX hS ha c0) (fun M1 h1 => ?_)
    iterate 4 refine am_wp_step _ rfl ?_
    exact K _ M1 h1.1 (.inl ⟨by rw [c0]; rfl, by rw [c0]; rfl, h1.2⟩)
  · iterate 3 refine am_wp_step _ rfl ?_
    refine ⟨_, _, m_takesF hX hS ha c0, ?_⟩
    iterate 1 refine am_wp_step _ rfl ?_
    by_cases c1 : h a = 61
    · iterate 3 refine am_wp_step _ rfl ?_
      refine am_call1 (m_takesT hX hS ha c1) (fun M1 h1 => ?_)
      iterate 4 refine am_wp_step _ rfl ?_
      exact K _ M1 h1.1 (.inl ⟨by rw [c1]; rfl, by rw [c1]; rfl, h1.2⟩)
    · iterate 3 refine am_wp_step _ rfl ?_
      refine ⟨_, _, m_takesF hX hS ha c1, ?_⟩
      iterate 1 refine am_wp_step _ rfl ?_
      by_cases c2 : h a = 62
      · iterate 3 refine am_wp_step _ rfl ?_
        refine am_call1 (m_takesT hX hS ha c2) (fun M1 h1 => ?_)
        iterate 4 refine am_wp_step _ rfl ?_
        exact K _ M1 h1.1 (.inl ⟨by rw [c2]; rfl, by rw [c2]; rfl, h1.2⟩)
      · iterate 3 refine am_wp_step _ rfl ?_
        refine ⟨_, _, m_takesF hX hS ha c2, ?_⟩
        iterate 1 refine am_wp_step _ rfl ?_
        iterate 2 refine am_wp_step _ rfl ?_
        refine K _ M (fm_rf M) (.inr ⟨?_, rfl, hS⟩)
        unfold lvl; grind
theorem tkW170_2 {D b : Nat} {M : am_F} {y : Int32} {Q : Option am_V → am_M → Prop} (hS : MW M b) (K : Q none (am_S M)) : am_wp (am_cl am_cds (D + 2)) am_c170 Q 2 [(0, .inr (.inr (26, 0, 0)))] [] (am_S M) := by
  iterate 3 refine am_wp_step _ rfl ?_
  refine ⟨_, _, m_takesW hS.2 (by decide), ?_⟩
  iterate 1 refine am_wp_step _ rfl ?_
  iterate 3 refine am_wp_step _ rfl ?_
  refine ⟨_, _, m_takesW hS.2 (by decide), ?_⟩
  iterate 1 refine am_wp_step _ rfl ?_
  iterate 3 refine am_wp_step _ rfl ?_
  refine ⟨_, _, m_takesW hS.2 (by decide), ?_⟩
  iterate 1 refine am_wp_step _ rfl ?_
  iterate 2 refine am_wp_step _ rfl ?_
  iterate 2 refine am_wp_step _ rfl ?_
  iterate 1 refine am_wp_step _ rfl ?_
  exact K
theorem tk171_2 {D u a o N : Nat} {h : Nat → Int32} {M : am_F} {E : List Int32} {y : Int32} {Q : Option am_V → am_M → Prop} (hX : TX M u h N) (hS : MS M a o E) (ha : a ≤ 50) (K : ∀ x M1, fm M M1 → Tk h 4 M1 a o E x → am_wp (am_cl am_cds (D + 2)) am_c171 Q 16 [(0, .inr (.inr (26, 0, 0))), (1, .inl x)] [] (am_S M1)) : am_wp (am_cl am_cds (D + 2)) am_c171 Q 2 [(0, .inr (.inr (26, 0, 0)))] [] (am_S M) := by
  by_cases c0 : h a = 43
  · iterate 3 refine am_wp_step _ rfl ?_
    refine am_call1 (m_takesT hX hS ha c0) (fun M1 h1 => ?_)
    iterate 4 refine am_wp_step _ rfl ?_
    exact K _ M1 h1.1 (.inl ⟨by rw [c0]; rfl, by rw [c0]; rfl, h1.2⟩)
  · iterate 3 refine am_wp_step _ rfl ?_
    refine ⟨_, _, m_takesF hX hS ha c0, ?_⟩
    iterate 1 refine am_wp_step _ rfl ?_
    by_cases c1 : h a = 45
    · iterate 3 refine am_wp_step _ rfl ?_
      refine am_call1 (m_takesT hX hS ha c1) (fun M1 h1 => ?_)
      iterate 4 refine am_wp_step _ rfl ?_
      exact K _ M1 h1.1 (.inl ⟨by rw [c1]; rfl, by rw [c1]; rfl, h1.2⟩)
    · iterate 3 refine am_wp_step _ rfl ?_
      refine ⟨_, _, m_takesF hX hS ha c1, ?_⟩
      iterate 1 refine am_wp_step _ rfl ?_
      iterate 2 refine am_wp_step _ rfl ?_
      refine K _ M (fm_rf M) (.inr ⟨?_, rfl, hS⟩)
      unfold lvl; grind
theorem tkW171_2 {D b : Nat} {M : am_F} {y : Int32} {Q : Option am_V → am_M → Prop} (hS : MW M b) (K : Q none (am_S M)) : am_wp (am_cl am_cds (D + 2)) am_c171 Q 2 [(0, .inr (.inr (26, 0, 0)))] [] (am_S M) := by
  iterate 3 refine am_wp_step _ rfl ?_
  refine ⟨_, _, m_takesW hS.2 (by decide), ?_⟩
  iterate 1 refine am_wp_step _ rfl ?_
  iterate 3 refine am_wp_step _ rfl ?_
  refine ⟨_, _, m_takesW hS.2 (by decide), ?_⟩
  iterate 1 refine am_wp_step _ rfl ?_
  iterate 2 refine am_wp_step _ rfl ?_
  iterate 2 refine am_wp_step _ rfl ?_
  iterate 1 refine am_wp_step _ rfl ?_
  exact K
theorem tk171_23 {D u a o N : Nat} {h : Nat → Int32} {M : am_F} {E : List Int32} {y : Int32} {Q : Option am_V → am_M → Prop} (hX : TX M u h N) (hS : MS M a o E) (ha : a ≤ 50) (K : ∀ x M1, fm M M1 → Tk h 4 M1 a o E x → am_wp (am_cl am_cds (D + 2)) am_c171 Q 16 [(0, .inr (.inr (26, 0, 0))), (1, .inl x)] [] (am_S M1)) : am_wp (am_cl am_cds (D + 2)) am_c171 Q 23 [(0, .inr (.inr (26, 0, 0))), (1, .inl y)] [] (am_S M) := by
  by_cases c0 : h a = 43
  · iterate 3 refine am_wp_step _ rfl ?_
    refine am_call1 (m_takesT hX hS ha c0) (fun M1 h1 => ?_)
    iterate 5 refine am_wp_step _ rfl ?_
    exact K _ M1 h1.1 (.inl ⟨by rw [c0]; rfl, by rw [c0]; rfl, h1.2⟩)
  · iterate 3 refine am_wp_step _ rfl ?_
    refine ⟨_, _, m_takesF hX hS ha c0, ?_⟩
    iterate 1 refine am_wp_step _ rfl ?_
    by_cases c1 : h a = 45
    · iterate 3 refine am_wp_step _ rfl ?_
      refine am_call1 (m_takesT hX hS ha c1) (fun M1 h1 => ?_)
      iterate 5 refine am_wp_step _ rfl ?_
      exact K _ M1 h1.1 (.inl ⟨by rw [c1]; rfl, by rw [c1]; rfl, h1.2⟩)
    · iterate 3 refine am_wp_step _ rfl ?_
      refine ⟨_, _, m_takesF hX hS ha c1, ?_⟩
      iterate 1 refine am_wp_step _ rfl ?_
      iterate 3 refine am_wp_step _ rfl ?_
      refine K _ M (fm_rf M) (.inr ⟨?_, rfl, hS⟩)
      unfold lvl; grind
theorem tkW171_23 {D b : Nat} {M : am_F} {y : Int32} {Q : Option am_V → am_M → Prop} (hS : MW M b) (K : Q none (am_S M)) : am_wp (am_cl am_cds (D + 2)) am_c171 Q 23 [(0, .inr (.inr (26, 0, 0))), (1, .inl y)] [] (am_S M) := by
  iterate 3 refine am_wp_step _ rfl ?_
  refine ⟨_, _, m_takesW hS.2 (by decide), ?_⟩
  iterate 1 refine am_wp_step _ rfl ?_
  iterate 3 refine am_wp_step _ rfl ?_
  refine ⟨_, _, m_takesW hS.2 (by decide), ?_⟩
  iterate 1 refine am_wp_step _ rfl ?_
  iterate 3 refine am_wp_step _ rfl ?_
  iterate 2 refine am_wp_step _ rfl ?_
  iterate 1 refine am_wp_step _ rfl ?_
  exact K
theorem tk172_2 {D u a o N : Nat} {h : Nat → Int32} {M : am_F} {E : List Int32} {y : Int32} {Q : Option am_V → am_M → Prop} (hX : TX M u h N) (hS : MS M a o E) (ha : a ≤ 50) (K : ∀ x M1, fm M M1 → Tk h 5 M1 a o E x → am_wp (am_cl am_cds (D + 2)) am_c172 Q 22 [(0, .inr (.inr (26, 0, 0))), (1, .inl x)] [] (am_S M1)) : am_wp (am_cl am_cds (D + 2)) am_c172 Q 2 [(0, .inr (.inr (26, 0, 0)))] [] (am_S M) := by
  by_cases c0 : h a = 42
  · iterate 3 refine am_wp_step _ rfl ?_
    refine am_call1 (m_takesT hX hS ha c0) (fun M1 h1 => ?_)
    iterate 4 refine am_wp_step _ rfl ?_
    exact K _ M1 h1.1 (.inl ⟨by rw [c0]; rfl, by rw [c0]; rfl, h1.2⟩)
  · iterate 3 refine am_wp_step _ rfl ?_
    refine ⟨_, _, m_takesF hX hS ha c0, ?_⟩
    iterate 1 refine am_wp_step _ rfl ?_
    by_cases c1 : h a = 47
    · iterate 3 refine am_wp_step _ rfl ?_
      refine am_call1 (m_takesT hX hS ha c1) (fun M1 h1 => ?_)
      iterate 4 refine am_wp_step _ rfl ?_
      exact K _ M1 h1.1 (.inl ⟨by rw [c1]; rfl, by rw [c1]; rfl, h1.2⟩)
    · iterate 3 refine am_wp_step _ rfl ?_
      refine ⟨_, _, m_takesF hX hS ha c1, ?_⟩
      iterate 1 refine am_wp_step _ rfl ?_
      by_cases c2 : h a = 37
      · iterate 3 refine am_wp_step _ rfl ?_
        refine am_call1 (m_takesT hX hS ha c2) (fun M1 h1 => ?_)
        iterate 4 refine am_wp_step _ rfl ?_
        exact K _ M1 h1.1 (.inl ⟨by rw [c2]; rfl, by rw [c2]; rfl, h1.2⟩)
      · iterate 3 refine am_wp_step _ rfl ?_
        refine ⟨_, _, m_takesF hX hS ha c2, ?_⟩
        iterate 1 refine am_wp_step _ rfl ?_
        iterate 2 refine am_wp_step _ rfl ?_
        refine K _ M (fm_rf M) (.inr ⟨?_, rfl, hS⟩)
        unfold lvl; grind
theorem tkW172_2 {D b : Nat} {M : am_F} {y : Int32} {Q : Option am_V → am_M → Prop} (hS : MW M b) (K : Q none (am_S M)) : am_wp (am_cl am_cds (D + 2)) am_c172 Q 2 [(0, .inr (.inr (26, 0, 0)))] [] (am_S M) := by
  iterate 3 refine am_wp_step _ rfl ?_
  refine ⟨_, _, m_takesW hS.2 (by decide), ?_⟩
  iterate 1 refine am_wp_step _ rfl ?_
  iterate 3 refine am_wp_step _ rfl ?_
  refine ⟨_, _, m_takesW hS.2 (by decide), ?_⟩
  iterate 1 refine am_wp_step _ rfl ?_
  iterate 3 refine am_wp_step _ rfl ?_
  refine ⟨_, _, m_takesW hS.2 (by decide), ?_⟩
  iterate 1 refine am_wp_step _ rfl ?_
  iterate 2 refine am_wp_step _ rfl ?_
  iterate 2 refine am_wp_step _ rfl ?_
  iterate 1 refine am_wp_step _ rfl ?_
  exact K
theorem tk172_29 {D u a o N : Nat} {h : Nat → Int32} {M : am_F} {E : List Int32} {y : Int32} {Q : Option am_V → am_M → Prop} (hX : TX M u h N) (hS : MS M a o E) (ha : a ≤ 50) (K : ∀ x M1, fm M M1 → Tk h 5 M1 a o E x → am_wp (am_cl am_cds (D + 2)) am_c172 Q 22 [(0, .inr (.inr (26, 0, 0))), (1, .inl x)] [] (am_S M1)) : am_wp (am_cl am_cds (D + 2)) am_c172 Q 29 [(0, .inr (.inr (26, 0, 0))), (1, .inl y)] [] (am_S M) := by
  by_cases c0 : h a = 42
  · iterate 3 refine am_wp_step _ rfl ?_
    refine am_call1 (m_takesT hX hS ha c0) (fun M1 h1 => ?_)
    iterate 5 refine am_wp_step _ rfl ?_
    exact K _ M1 h1.1 (.inl ⟨by rw [c0]; rfl, by rw [c0]; rfl, h1.2⟩)
  · iterate 3 refine am_wp_step _ rfl ?_
    refine ⟨_, _, m_takesF hX hS ha c0, ?_⟩
    iterate 1 refine am_wp_step _ rfl ?_
    by_cases c1 : h a = 47
    · iterate 3 refine am_wp_step _ rfl ?_
      refine am_call1 (m_takesT hX hS ha c1) (fun M1 h1 => ?_)
      iterate 5 refine am_wp_step _ rfl ?_
      exact K _ M1 h1.1 (.inl ⟨by rw [c1]; rfl, by rw [c1]; rfl, h1.2⟩)
    · iterate 3 refine am_wp_step _ rfl ?_
      refine ⟨_, _, m_takesF hX hS ha c1, ?_⟩
      iterate 1 refine am_wp_step _ rfl ?_
      by_cases c2 : h a = 37
      · iterate 3 refine am_wp_step _ rfl ?_
        refine am_call1 (m_takesT hX hS ha c2) (fun M1 h1 => ?_)
        iterate 5 refine am_wp_step _ rfl ?_
        exact K _ M1 h1.1 (.inl ⟨by rw [c2]; rfl, by rw [c2]; rfl, h1.2⟩)
      · iterate 3 refine am_wp_step _ rfl ?_
        refine ⟨_, _, m_takesF hX hS ha c2, ?_⟩
        iterate 1 refine am_wp_step _ rfl ?_
        iterate 3 refine am_wp_step _ rfl ?_
        refine K _ M (fm_rf M) (.inr ⟨?_, rfl, hS⟩)
        unfold lvl; grind
theorem tkW172_29 {D b : Nat} {M : am_F} {y : Int32} {Q : Option am_V → am_M → Prop} (hS : MW M b) (K : Q none (am_S M)) : am_wp (am_cl am_cds (D + 2)) am_c172 Q 29 [(0, .inr (.inr (26, 0, 0))), (1, .inl y)] [] (am_S M) := by
  iterate 3 refine am_wp_step _ rfl ?_
  refine ⟨_, _, m_takesW hS.2 (by decide), ?_⟩
  iterate 1 refine am_wp_step _ rfl ?_
  iterate 3 refine am_wp_step _ rfl ?_
  refine ⟨_, _, m_takesW hS.2 (by decide), ?_⟩
  iterate 1 refine am_wp_step _ rfl ?_
  iterate 3 refine am_wp_step _ rfl ?_
  refine ⟨_, _, m_takesW hS.2 (by decide), ?_⟩
  iterate 1 refine am_wp_step _ rfl ?_
  iterate 3 refine am_wp_step _ rfl ?_
  iterate 2 refine am_wp_step _ rfl ?_
  iterate 1 refine am_wp_step _ rfl ?_
  exact K
