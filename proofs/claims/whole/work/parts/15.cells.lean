def am_two (me0 : am_M) (Q : Option am_V → am_M → Prop) (F : am_N → Prop) : Prop := ∀ N, F N → (∃ ip L st me, N ip L st me ∧ me0.1 ≤ me.1) ∨ ∃ v, Q v me0
theorem am_two_n {me0 : am_M} {Q : Option am_V → am_M → Prop} (ip : Nat) (L : am_L) (st : List am_V) (me : am_M) (h : me0.1 ≤ me.1) : am_two me0 Q (fun N => N ip L st me) := fun _ q => Or.inl ⟨ip, L, st, me, q, h⟩
theorem am_two_f {me0 : am_M} {Q : Option am_V → am_M → Prop} : am_two me0 Q (fun _ => False) := fun _ h => h.elim
theorem am_two_andh {me0 : am_M} {Q : Option am_V → am_M → Prop} {A : Prop} {F : am_N → Prop} (h : A → am_two me0 Q F) : am_two me0 Q (fun N => A ∧ F N) := fun N q => h q.1 N q.2
theorem am_two_and {me0 : am_M} {Q : Option am_V → am_M → Prop} {A : Prop} {F : am_N → Prop} (h : am_two me0 Q F) : am_two me0 Q (fun N => A ∧ F N) := fun N q => h N q.2
theorem am_two_ite {me0 : am_M} {Q : Option am_V → am_M → Prop} {c : Prop} [Decidable c] {F G : am_N → Prop} (h1 : am_two me0 Q F) (h2 : am_two me0 Q G) : am_two me0 Q (fun N => if c then F N else G N) := by
  by_cases h : c
  · simp only [if_pos h]; exact h1
  · simp only [if_neg h]; exact h2
theorem am_two_ex {me0 : am_M} {Q : Option am_V → am_M → Prop} {α : Type} {F : α → am_N → Prop} (h : ∀ x, am_two me0 Q (F x)) : am_two me0 Q (fun N => ∃ x, F x N) := fun N ⟨x, q⟩ => h x N q
theorem am_two_sw {me : am_M} {Q : Option am_V → am_M → Prop} (x : Int32) (L : am_L) (st : List am_V) (d : Nat) (ts : List (Int32 × Nat)) : am_two me Q (fun N => am_sw x (fun t => N t L st me) d ts) := by
  induction ts with
  | nil => exact am_two_n d L st me (Nat.le_refl _)
  | cons q r ih => exact am_two_ite (am_two_n q.2 L st me (Nat.le_refl _)) ih
theorem am_t_iconst (Cl : Nat → List am_V → am_M → Option am_V → am_M → Prop) (hm : ∀ a as me v me', Cl a as me v me' → me.1 ≤ me'.1) (nx a b : Nat) (v : Int32) (ts : List (Int32 × Nat)) (L : am_L) (st : List am_V) (me : am_M) (Q : Option am_V → am_M → Prop) : am_two me Q (fun N => am_s_iconst Cl nx a b v ts L st me N Q) := by
  exact am_two_n _ _ _ _ (by first | exact Nat.le_refl _ | exact Nat.le_succ _)
theorem am_t_bipush (Cl : Nat → List am_V → am_M → Option am_V → am_M → Prop) (hm : ∀ a as me v me', Cl a as me v me' → me.1 ≤ me'.1) (nx a b : Nat) (v : Int32) (ts : List (Int32 × Nat)) (L : am_L) (st : List am_V) (me : am_M) (Q : Option am_V → am_M → Prop) : am_two me Q (fun N => am_s_bipush Cl nx a b v ts L st me N Q) := by
  exact am_two_n _ _ _ _ (by first | exact Nat.le_refl _ | exact Nat.le_succ _)
theorem am_t_sipush (Cl : Nat → List am_V → am_M → Option am_V → am_M → Prop) (hm : ∀ a as me v me', Cl a as me v me' → me.1 ≤ me'.1) (nx a b : Nat) (v : Int32) (ts : List (Int32 × Nat)) (L : am_L) (st : List am_V) (me : am_M) (Q : Option am_V → am_M → Prop) : am_two me Q (fun N => am_s_sipush Cl nx a b v ts L st me N Q) := by
  exact am_two_n _ _ _ _ (by first | exact Nat.le_refl _ | exact Nat.le_succ _)
theorem am_t_ldc (Cl : Nat → List am_V → am_M → Option am_V → am_M → Prop) (hm : ∀ a as me v me', Cl a as me v me' → me.1 ≤ me'.1) (nx a b : Nat) (v : Int32) (ts : List (Int32 × Nat)) (L : am_L) (st : List am_V) (me : am_M) (Q : Option am_V → am_M → Prop) : am_two me Q (fun N => am_s_ldc Cl nx a b v ts L st me N Q) := by
  rcases ts with _ | ⟨t, ts⟩ <;> exact am_two_n _ _ _ _ (by first | exact Nat.le_refl _ | exact Nat.le_succ _)
theorem am_t_ldc_w (Cl : Nat → List am_V → am_M → Option am_V → am_M → Prop) (hm : ∀ a as me v me', Cl a as me v me' → me.1 ≤ me'.1) (nx a b : Nat) (v : Int32) (ts : List (Int32 × Nat)) (L : am_L) (st : List am_V) (me : am_M) (Q : Option am_V → am_M → Prop) : am_two me Q (fun N => am_s_ldc_w Cl nx a b v ts L st me N Q) := by
  exact am_two_n _ _ _ _ (by first | exact Nat.le_refl _ | exact Nat.le_succ _)
theorem am_t_ldc2_w (Cl : Nat → List am_V → am_M → Option am_V → am_M → Prop) (hm : ∀ a as me v me', Cl a as me v me' → me.1 ≤ me'.1) (nx a b : Nat) (v : Int32) (ts : List (Int32 × Nat)) (L : am_L) (st : List am_V) (me : am_M) (Q : Option am_V → am_M → Prop) : am_two me Q (fun N => am_s_ldc2_w Cl nx a b v ts L st me N Q) := by
  exact am_two_n _ _ _ _ (by first | exact Nat.le_refl _ | exact Nat.le_succ _)
theorem am_t_iload_n (Cl : Nat → List am_V → am_M → Option am_V → am_M → Prop) (hm : ∀ a as me v me', Cl a as me v me' → me.1 ≤ me'.1) (nx a b : Nat) (v : Int32) (ts : List (Int32 × Nat)) (L : am_L) (st : List am_V) (me : am_M) (Q : Option am_V → am_M → Prop) : am_two me Q (fun N => am_s_iload_n Cl nx a b v ts L st me N Q) := by
  unfold am_s_iload_n; generalize am_get L a = w; rcases w with _ | x | x | q <;> first | exact am_two_f | exact am_two_n _ _ _ _ (by first | exact Nat.le_refl _ | exact Nat.le_succ _)
theorem am_t_iload (Cl : Nat → List am_V → am_M → Option am_V → am_M → Prop) (hm : ∀ a as me v me', Cl a as me v me' → me.1 ≤ me'.1) (nx a b : Nat) (v : Int32) (ts : List (Int32 × Nat)) (L : am_L) (st : List am_V) (me : am_M) (Q : Option am_V → am_M → Prop) : am_two me Q (fun N => am_s_iload Cl nx a b v ts L st me N Q) := by
  unfold am_s_iload; generalize am_get L a = w; rcases w with _ | x | x | q <;> first | exact am_two_f | exact am_two_n _ _ _ _ (by first | exact Nat.le_refl _ | exact Nat.le_succ _)
theorem am_t_lload_n (Cl : Nat → List am_V → am_M → Option am_V → am_M → Prop) (hm : ∀ a as me v me', Cl a as me v me' → me.1 ≤ me'.1) (nx a b : Nat) (v : Int32) (ts : List (Int32 × Nat)) (L : am_L) (st : List am_V) (me : am_M) (Q : Option am_V → am_M → Prop) : am_two me Q (fun N => am_s_lload_n Cl nx a b v ts L st me N Q) := by
  unfold am_s_lload_n; generalize am_get L a = w; rcases w with _ | x | x | q <;> first | exact am_two_f | exact am_two_n _ _ _ _ (by first | exact Nat.le_refl _ | exact Nat.le_succ _)
theorem am_t_aload_n (Cl : Nat → List am_V → am_M → Option am_V → am_M → Prop) (hm : ∀ a as me v me', Cl a as me v me' → me.1 ≤ me'.1) (nx a b : Nat) (v : Int32) (ts : List (Int32 × Nat)) (L : am_L) (st : List am_V) (me : am_M) (Q : Option am_V → am_M → Prop) : am_two me Q (fun N => am_s_aload_n Cl nx a b v ts L st me N Q) := by
  unfold am_s_aload_n; generalize am_get L a = w; rcases w with _ | x | x | ⟨r, q⟩ <;> first | exact am_two_f | (dsimp only; generalize Nat.beq r 5 = t; cases t <;> first | exact am_two_f | exact am_two_n _ _ _ _ (by first | exact Nat.le_refl _ | exact Nat.le_succ _))
theorem am_t_aload (Cl : Nat → List am_V → am_M → Option am_V → am_M → Prop) (hm : ∀ a as me v me', Cl a as me v me' → me.1 ≤ me'.1) (nx a b : Nat) (v : Int32) (ts : List (Int32 × Nat)) (L : am_L) (st : List am_V) (me : am_M) (Q : Option am_V → am_M → Prop) : am_two me Q (fun N => am_s_aload Cl nx a b v ts L st me N Q) := by
  unfold am_s_aload; generalize am_get L a = w; rcases w with _ | x | x | ⟨r, q⟩ <;> first | exact am_two_f | (dsimp only; generalize Nat.beq r 5 = t; cases t <;> first | exact am_two_f | exact am_two_n _ _ _ _ (by first | exact Nat.le_refl _ | exact Nat.le_succ _))
theorem am_t_istore_n (Cl : Nat → List am_V → am_M → Option am_V → am_M → Prop) (hm : ∀ a as me v me', Cl a as me v me' → me.1 ≤ me'.1) (nx a b : Nat) (v : Int32) (ts : List (Int32 × Nat)) (L : am_L) (st : List am_V) (me : am_M) (Q : Option am_V → am_M → Prop) : am_two me Q (fun N => am_s_istore_n Cl nx a b v ts L st me N Q) := by
  unfold am_s_istore_n; rcases st with _ | ⟨x | x | q, st⟩ <;> first | exact am_two_f | (dsimp only; generalize am_set L a _ = w; cases w <;> first | exact am_two_f | exact am_two_n _ _ _ _ (by first | exact Nat.le_refl _ | exact Nat.le_succ _))
theorem am_t_istore (Cl : Nat → List am_V → am_M → Option am_V → am_M → Prop) (hm : ∀ a as me v me', Cl a as me v me' → me.1 ≤ me'.1) (nx a b : Nat) (v : Int32) (ts : List (Int32 × Nat)) (L : am_L) (st : List am_V) (me : am_M) (Q : Option am_V → am_M → Prop) : am_two me Q (fun N => am_s_istore Cl nx a b v ts L st me N Q) := by
  unfold am_s_istore; rcases st with _ | ⟨x | x | q, st⟩ <;> first | exact am_two_f | (dsimp only; generalize am_set L a _ = w; cases w <;> first | exact am_two_f | exact am_two_n _ _ _ _ (by first | exact Nat.le_refl _ | exact Nat.le_succ _))
theorem am_t_astore_n (Cl : Nat → List am_V → am_M → Option am_V → am_M → Prop) (hm : ∀ a as me v me', Cl a as me v me' → me.1 ≤ me'.1) (nx a b : Nat) (v : Int32) (ts : List (Int32 × Nat)) (L : am_L) (st : List am_V) (me : am_M) (Q : Option am_V → am_M → Prop) : am_two me Q (fun N => am_s_astore_n Cl nx a b v ts L st me N Q) := by
  unfold am_s_astore_n; rcases st with _ | ⟨x | x | ⟨r, q⟩, st⟩ <;> first | exact am_two_f | (dsimp only; generalize am_set L a _ = w; generalize Nat.beq r 5 = t; cases t <;> cases w <;> first | exact am_two_f | exact am_two_n _ _ _ _ (by first | exact Nat.le_refl _ | exact Nat.le_succ _))
theorem am_t_astore (Cl : Nat → List am_V → am_M → Option am_V → am_M → Prop) (hm : ∀ a as me v me', Cl a as me v me' → me.1 ≤ me'.1) (nx a b : Nat) (v : Int32) (ts : List (Int32 × Nat)) (L : am_L) (st : List am_V) (me : am_M) (Q : Option am_V → am_M → Prop) : am_two me Q (fun N => am_s_astore Cl nx a b v ts L st me N Q) := by
  unfold am_s_astore; rcases st with _ | ⟨x | x | ⟨r, q⟩, st⟩ <;> first | exact am_two_f | (dsimp only; generalize am_set L a _ = w; generalize Nat.beq r 5 = t; cases t <;> cases w <;> first | exact am_two_f | exact am_two_n _ _ _ _ (by first | exact Nat.le_refl _ | exact Nat.le_succ _))
theorem am_t_iinc (Cl : Nat → List am_V → am_M → Option am_V → am_M → Prop) (hm : ∀ a as me v me', Cl a as me v me' → me.1 ≤ me'.1) (nx a b : Nat) (v : Int32) (ts : List (Int32 × Nat)) (L : am_L) (st : List am_V) (me : am_M) (Q : Option am_V → am_M → Prop) : am_two me Q (fun N => am_s_iinc Cl nx a b v ts L st me N Q) := by
  unfold am_s_iinc; generalize am_get L a = w; rcases w with _ | x | x | q <;> first | exact am_two_f | (dsimp only; generalize am_set L a _ = w; cases w <;> first | exact am_two_f | exact am_two_n _ _ _ _ (by first | exact Nat.le_refl _ | exact Nat.le_succ _))
theorem am_t_iadd (Cl : Nat → List am_V → am_M → Option am_V → am_M → Prop) (hm : ∀ a as me v me', Cl a as me v me' → me.1 ≤ me'.1) (nx a b : Nat) (v : Int32) (ts : List (Int32 × Nat)) (L : am_L) (st : List am_V) (me : am_M) (Q : Option am_V → am_M → Prop) : am_two me Q (fun N => am_s_iadd Cl nx a b v ts L st me N Q) := by
  rcases st with _ | ⟨y | y, _ | ⟨x | x, st⟩⟩ <;> first | exact am_two_f | exact am_two_n _ _ _ _ (by first | exact Nat.le_refl _ | exact Nat.le_succ _)
theorem am_t_isub (Cl : Nat → List am_V → am_M → Option am_V → am_M → Prop) (hm : ∀ a as me v me', Cl a as me v me' → me.1 ≤ me'.1) (nx a b : Nat) (v : Int32) (ts : List (Int32 × Nat)) (L : am_L) (st : List am_V) (me : am_M) (Q : Option am_V → am_M → Prop) : am_two me Q (fun N => am_s_isub Cl nx a b v ts L st me N Q) := by
  rcases st with _ | ⟨y | y, _ | ⟨x | x, st⟩⟩ <;> first | exact am_two_f | exact am_two_n _ _ _ _ (by first | exact Nat.le_refl _ | exact Nat.le_succ _)
theorem am_t_imul (Cl : Nat → List am_V → am_M → Option am_V → am_M → Prop) (hm : ∀ a as me v me', Cl a as me v me' → me.1 ≤ me'.1) (nx a b : Nat) (v : Int32) (ts : List (Int32 × Nat)) (L : am_L) (st : List am_V) (me : am_M) (Q : Option am_V → am_M → Prop) : am_two me Q (fun N => am_s_imul Cl nx a b v ts L st me N Q) := by
  rcases st with _ | ⟨y | y, _ | ⟨x | x, st⟩⟩ <;> first | exact am_two_f | exact am_two_n _ _ _ _ (by first | exact Nat.le_refl _ | exact Nat.le_succ _)
theorem am_t_idiv (Cl : Nat → List am_V → am_M → Option am_V → am_M → Prop) (hm : ∀ a as me v me', Cl a as me v me' → me.1 ≤ me'.1) (nx a b : Nat) (v : Int32) (ts : List (Int32 × Nat)) (L : am_L) (st : List am_V) (me : am_M) (Q : Option am_V → am_M → Prop) : am_two me Q (fun N => am_s_idiv Cl nx a b v ts L st me N Q) := by
  rcases st with _ | ⟨y | y, _ | ⟨x | x, st⟩⟩ <;> first | exact am_two_f | exact am_two_and (am_two_n _ _ _ _ (by first | exact Nat.le_refl _ | exact Nat.le_succ _))
theorem am_t_irem (Cl : Nat → List am_V → am_M → Option am_V → am_M → Prop) (hm : ∀ a as me v me', Cl a as me v me' → me.1 ≤ me'.1) (nx a b : Nat) (v : Int32) (ts : List (Int32 × Nat)) (L : am_L) (st : List am_V) (me : am_M) (Q : Option am_V → am_M → Prop) : am_two me Q (fun N => am_s_irem Cl nx a b v ts L st me N Q) := by
  rcases st with _ | ⟨y | y, _ | ⟨x | x, st⟩⟩ <;> first | exact am_two_f | exact am_two_and (am_two_n _ _ _ _ (by first | exact Nat.le_refl _ | exact Nat.le_succ _))
theorem am_t_ineg (Cl : Nat → List am_V → am_M → Option am_V → am_M → Prop) (hm : ∀ a as me v me', Cl a as me v me' → me.1 ≤ me'.1) (nx a b : Nat) (v : Int32) (ts : List (Int32 × Nat)) (L : am_L) (st : List am_V) (me : am_M) (Q : Option am_V → am_M → Prop) : am_two me Q (fun N => am_s_ineg Cl nx a b v ts L st me N Q) := by
  rcases st with _ | ⟨x | x | x, st⟩ <;> first | exact am_two_f | exact am_two_n _ _ _ _ (by first | exact Nat.le_refl _ | exact Nat.le_succ _)
theorem am_t_iand (Cl : Nat → List am_V → am_M → Option am_V → am_M → Prop) (hm : ∀ a as me v me', Cl a as me v me' → me.1 ≤ me'.1) (nx a b : Nat) (v : Int32) (ts : List (Int32 × Nat)) (L : am_L) (st : List am_V) (me : am_M) (Q : Option am_V → am_M → Prop) : am_two me Q (fun N => am_s_iand Cl nx a b v ts L st me N Q) := by
  rcases st with _ | ⟨y | y, _ | ⟨x | x, st⟩⟩ <;> first | exact am_two_f | exact am_two_n _ _ _ _ (by first | exact Nat.le_refl _ | exact Nat.le_succ _)
theorem am_t_ior (Cl : Nat → List am_V → am_M → Option am_V → am_M → Prop) (hm : ∀ a as me v me', Cl a as me v me' → me.1 ≤ me'.1) (nx a b : Nat) (v : Int32) (ts : List (Int32 × Nat)) (L : am_L) (st : List am_V) (me : am_M) (Q : Option am_V → am_M → Prop) : am_two me Q (fun N => am_s_ior Cl nx a b v ts L st me N Q) := by
  rcases st with _ | ⟨y | y, _ | ⟨x | x, st⟩⟩ <;> first | exact am_two_f | exact am_two_n _ _ _ _ (by first | exact Nat.le_refl _ | exact Nat.le_succ _)
theorem am_t_ixor (Cl : Nat → List am_V → am_M → Option am_V → am_M → Prop) (hm : ∀ a as me v me', Cl a as me v me' → me.1 ≤ me'.1) (nx a b : Nat) (v : Int32) (ts : List (Int32 × Nat)) (L : am_L) (st : List am_V) (me : am_M) (Q : Option am_V → am_M → Prop) : am_two me Q (fun N => am_s_ixor Cl nx a b v ts L st me N Q) := by
  rcases st with _ | ⟨y | y, _ | ⟨x | x, st⟩⟩ <;> first | exact am_two_f | exact am_two_n _ _ _ _ (by first | exact Nat.le_refl _ | exact Nat.le_succ _)
theorem am_t_ishl (Cl : Nat → List am_V → am_M → Option am_V → am_M → Prop) (hm : ∀ a as me v me', Cl a as me v me' → me.1 ≤ me'.1) (nx a b : Nat) (v : Int32) (ts : List (Int32 × Nat)) (L : am_L) (st : List am_V) (me : am_M) (Q : Option am_V → am_M → Prop) : am_two me Q (fun N => am_s_ishl Cl nx a b v ts L st me N Q) := by
  rcases st with _ | ⟨y | y, _ | ⟨x | x, st⟩⟩ <;> first | exact am_two_f | exact am_two_n _ _ _ _ (by first | exact Nat.le_refl _ | exact Nat.le_succ _)
theorem am_t_ishr (Cl : Nat → List am_V → am_M → Option am_V → am_M → Prop) (hm : ∀ a as me v me', Cl a as me v me' → me.1 ≤ me'.1) (nx a b : Nat) (v : Int32) (ts : List (Int32 × Nat)) (L : am_L) (st : List am_V) (me : am_M) (Q : Option am_V → am_M → Prop) : am_two me Q (fun N => am_s_ishr Cl nx a b v ts L st me N Q) := by
  rcases st with _ | ⟨y | y, _ | ⟨x | x, st⟩⟩ <;> first | exact am_two_f | exact am_two_n _ _ _ _ (by first | exact Nat.le_refl _ | exact Nat.le_succ _)
theorem am_t_iushr (Cl : Nat → List am_V → am_M → Option am_V → am_M → Prop) (hm : ∀ a as me v me', Cl a as me v me' → me.1 ≤ me'.1) (nx a b : Nat) (v : Int32) (ts : List (Int32 × Nat)) (L : am_L) (st : List am_V) (me : am_M) (Q : Option am_V → am_M → Prop) : am_two me Q (fun N => am_s_iushr Cl nx a b v ts L st me N Q) := by
  rcases st with _ | ⟨y | y, _ | ⟨x | x, st⟩⟩ <;> first | exact am_two_f | exact am_two_n _ _ _ _ (by first | exact Nat.le_refl _ | exact Nat.le_succ _)
theorem am_t_i2l (Cl : Nat → List am_V → am_M → Option am_V → am_M → Prop) (hm : ∀ a as me v me', Cl a as me v me' → me.1 ≤ me'.1) (nx a b : Nat) (v : Int32) (ts : List (Int32 × Nat)) (L : am_L) (st : List am_V) (me : am_M) (Q : Option am_V → am_M → Prop) : am_two me Q (fun N => am_s_i2l Cl nx a b v ts L st me N Q) := by
  rcases st with _ | ⟨x | x | x, st⟩ <;> first | exact am_two_f | exact am_two_n _ _ _ _ (by first | exact Nat.le_refl _ | exact Nat.le_succ _)
theorem am_t_l2i (Cl : Nat → List am_V → am_M → Option am_V → am_M → Prop) (hm : ∀ a as me v me', Cl a as me v me' → me.1 ≤ me'.1) (nx a b : Nat) (v : Int32) (ts : List (Int32 × Nat)) (L : am_L) (st : List am_V) (me : am_M) (Q : Option am_V → am_M → Prop) : am_two me Q (fun N => am_s_l2i Cl nx a b v ts L st me N Q) := by
  rcases st with _ | ⟨x | x | x, st⟩ <;> first | exact am_two_f | exact am_two_n _ _ _ _ (by first | exact Nat.le_refl _ | exact Nat.le_succ _)
theorem am_t_i2b (Cl : Nat → List am_V → am_M → Option am_V → am_M → Prop) (hm : ∀ a as me v me', Cl a as me v me' → me.1 ≤ me'.1) (nx a b : Nat) (v : Int32) (ts : List (Int32 × Nat)) (L : am_L) (st : List am_V) (me : am_M) (Q : Option am_V → am_M → Prop) : am_two me Q (fun N => am_s_i2b Cl nx a b v ts L st me N Q) := by
  rcases st with _ | ⟨x | x | x, st⟩ <;> first | exact am_two_f | exact am_two_n _ _ _ _ (by first | exact Nat.le_refl _ | exact Nat.le_succ _)
theorem am_t_i2s (Cl : Nat → List am_V → am_M → Option am_V → am_M → Prop) (hm : ∀ a as me v me', Cl a as me v me' → me.1 ≤ me'.1) (nx a b : Nat) (v : Int32) (ts : List (Int32 × Nat)) (L : am_L) (st : List am_V) (me : am_M) (Q : Option am_V → am_M → Prop) : am_two me Q (fun N => am_s_i2s Cl nx a b v ts L st me N Q) := by
  rcases st with _ | ⟨x | x | x, st⟩ <;> first | exact am_two_f | exact am_two_n _ _ _ _ (by first | exact Nat.le_refl _ | exact Nat.le_succ _)
theorem am_t_i2c (Cl : Nat → List am_V → am_M → Option am_V → am_M → Prop) (hm : ∀ a as me v me', Cl a as me v me' → me.1 ≤ me'.1) (nx a b : Nat) (v : Int32) (ts : List (Int32 × Nat)) (L : am_L) (st : List am_V) (me : am_M) (Q : Option am_V → am_M → Prop) : am_two me Q (fun N => am_s_i2c Cl nx a b v ts L st me N Q) := by
  rcases st with _ | ⟨x | x | x, st⟩ <;> first | exact am_two_f | exact am_two_n _ _ _ _ (by first | exact Nat.le_refl _ | exact Nat.le_succ _)
theorem am_t_ladd (Cl : Nat → List am_V → am_M → Option am_V → am_M → Prop) (hm : ∀ a as me v me', Cl a as me v me' → me.1 ≤ me'.1) (nx a b : Nat) (v : Int32) (ts : List (Int32 × Nat)) (L : am_L) (st : List am_V) (me : am_M) (Q : Option am_V → am_M → Prop) : am_two me Q (fun N => am_s_ladd Cl nx a b v ts L st me N Q) := by
  rcases st with _ | ⟨y | y | y, _ | ⟨x | x | x, st⟩⟩ <;> first | exact am_two_f | exact am_two_n _ _ _ _ (by first | exact Nat.le_refl _ | exact Nat.le_succ _)
theorem am_t_land (Cl : Nat → List am_V → am_M → Option am_V → am_M → Prop) (hm : ∀ a as me v me', Cl a as me v me' → me.1 ≤ me'.1) (nx a b : Nat) (v : Int32) (ts : List (Int32 × Nat)) (L : am_L) (st : List am_V) (me : am_M) (Q : Option am_V → am_M → Prop) : am_two me Q (fun N => am_s_land Cl nx a b v ts L st me N Q) := by
  rcases st with _ | ⟨y | y | y, _ | ⟨x | x | x, st⟩⟩ <;> first | exact am_two_f | exact am_two_n _ _ _ _ (by first | exact Nat.le_refl _ | exact Nat.le_succ _)
theorem am_t_lor (Cl : Nat → List am_V → am_M → Option am_V → am_M → Prop) (hm : ∀ a as me v me', Cl a as me v me' → me.1 ≤ me'.1) (nx a b : Nat) (v : Int32) (ts : List (Int32 × Nat)) (L : am_L) (st : List am_V) (me : am_M) (Q : Option am_V → am_M → Prop) : am_two me Q (fun N => am_s_lor Cl nx a b v ts L st me N Q) := by
  rcases st with _ | ⟨y | y | y, _ | ⟨x | x | x, st⟩⟩ <;> first | exact am_two_f | exact am_two_n _ _ _ _ (by first | exact Nat.le_refl _ | exact Nat.le_succ _)
theorem am_t_lshl (Cl : Nat → List am_V → am_M → Option am_V → am_M → Prop) (hm : ∀ a as me v me', Cl a as me v me' → me.1 ≤ me'.1) (nx a b : Nat) (v : Int32) (ts : List (Int32 × Nat)) (L : am_L) (st : List am_V) (me : am_M) (Q : Option am_V → am_M → Prop) : am_two me Q (fun N => am_s_lshl Cl nx a b v ts L st me N Q) := by
  rcases st with _ | ⟨y | y | y, _ | ⟨x | x | x, st⟩⟩ <;> first | exact am_two_f | exact am_two_n _ _ _ _ (by first | exact Nat.le_refl _ | exact Nat.le_succ _)
theorem am_t_lshr (Cl : Nat → List am_V → am_M → Option am_V → am_M → Prop) (hm : ∀ a as me v me', Cl a as me v me' → me.1 ≤ me'.1) (nx a b : Nat) (v : Int32) (ts : List (Int32 × Nat)) (L : am_L) (st : List am_V) (me : am_M) (Q : Option am_V → am_M → Prop) : am_two me Q (fun N => am_s_lshr Cl nx a b v ts L st me N Q) := by
  rcases st with _ | ⟨y | y | y, _ | ⟨x | x | x, st⟩⟩ <;> first | exact am_two_f | exact am_two_n _ _ _ _ (by first | exact Nat.le_refl _ | exact Nat.le_succ _)
theorem am_t_lushr (Cl : Nat → List am_V → am_M → Option am_V → am_M → Prop) (hm : ∀ a as me v me', Cl a as me v me' → me.1 ≤ me'.1) (nx a b : Nat) (v : Int32) (ts : List (Int32 × Nat)) (L : am_L) (st : List am_V) (me : am_M) (Q : Option am_V → am_M → Prop) : am_two me Q (fun N => am_s_lushr Cl nx a b v ts L st me N Q) := by
  rcases st with _ | ⟨y | y | y, _ | ⟨x | x | x, st⟩⟩ <;> first | exact am_two_f | exact am_two_n _ _ _ _ (by first | exact Nat.le_refl _ | exact Nat.le_succ _)
theorem am_t_lcmp (Cl : Nat → List am_V → am_M → Option am_V → am_M → Prop) (hm : ∀ a as me v me', Cl a as me v me' → me.1 ≤ me'.1) (nx a b : Nat) (v : Int32) (ts : List (Int32 × Nat)) (L : am_L) (st : List am_V) (me : am_M) (Q : Option am_V → am_M → Prop) : am_two me Q (fun N => am_s_lcmp Cl nx a b v ts L st me N Q) := by
  rcases st with _ | ⟨y | y | y, _ | ⟨x | x | x, st⟩⟩ <;> first | exact am_two_f | exact am_two_n _ _ _ _ (by first | exact Nat.le_refl _ | exact Nat.le_succ _)
theorem am_t_dup (Cl : Nat → List am_V → am_M → Option am_V → am_M → Prop) (hm : ∀ a as me v me', Cl a as me v me' → me.1 ≤ me'.1) (nx a b : Nat) (v : Int32) (ts : List (Int32 × Nat)) (L : am_L) (st : List am_V) (me : am_M) (Q : Option am_V → am_M → Prop) : am_two me Q (fun N => am_s_dup Cl nx a b v ts L st me N Q) := by
  rcases st with _ | ⟨x | x | x, st⟩ <;> first | exact am_two_f | exact am_two_n _ _ _ _ (by first | exact Nat.le_refl _ | exact Nat.le_succ _)
theorem am_t_dup2 (Cl : Nat → List am_V → am_M → Option am_V → am_M → Prop) (hm : ∀ a as me v me', Cl a as me v me' → me.1 ≤ me'.1) (nx a b : Nat) (v : Int32) (ts : List (Int32 × Nat)) (L : am_L) (st : List am_V) (me : am_M) (Q : Option am_V → am_M → Prop) : am_two me Q (fun N => am_s_dup2 Cl nx a b v ts L st me N Q) := by
  rcases st with _ | ⟨y | y | y, _ | ⟨x | x | x, st⟩⟩ <;> first | exact am_two_f | exact am_two_n _ _ _ _ (by first | exact Nat.le_refl _ | exact Nat.le_succ _)
theorem am_t_pop (Cl : Nat → List am_V → am_M → Option am_V → am_M → Prop) (hm : ∀ a as me v me', Cl a as me v me' → me.1 ≤ me'.1) (nx a b : Nat) (v : Int32) (ts : List (Int32 × Nat)) (L : am_L) (st : List am_V) (me : am_M) (Q : Option am_V → am_M → Prop) : am_two me Q (fun N => am_s_pop Cl nx a b v ts L st me N Q) := by
  rcases st with _ | ⟨x | x | x, st⟩ <;> first | exact am_two_f | exact am_two_n _ _ _ _ (by first | exact Nat.le_refl _ | exact Nat.le_succ _)
theorem am_t_ifCond (Cl : Nat → List am_V → am_M → Option am_V → am_M → Prop) (hm : ∀ a as me v me', Cl a as me v me' → me.1 ≤ me'.1) (nx a b : Nat) (v : Int32) (ts : List (Int32 × Nat)) (L : am_L) (st : List am_V) (me : am_M) (Q : Option am_V → am_M → Prop) (cn : ClassFile.Cond) : am_two me Q (fun N => am_s_ifCond Cl nx a b v ts L st me N Q cn) := by
  rcases st with _ | ⟨x | x, st⟩ <;> first | exact am_two_f | (cases cn <;> exact am_two_ite (am_two_n _ _ _ _ (by first | exact Nat.le_refl _ | exact Nat.le_succ _)) (am_two_n _ _ _ _ (by first | exact Nat.le_refl _ | exact Nat.le_succ _)))
theorem am_t_if_icmp (Cl : Nat → List am_V → am_M → Option am_V → am_M → Prop) (hm : ∀ a as me v me', Cl a as me v me' → me.1 ≤ me'.1) (nx a b : Nat) (v : Int32) (ts : List (Int32 × Nat)) (L : am_L) (st : List am_V) (me : am_M) (Q : Option am_V → am_M → Prop) (cn : ClassFile.Cond) : am_two me Q (fun N => am_s_if_icmp Cl nx a b v ts L st me N Q cn) := by
  rcases st with _ | ⟨y | y, _ | ⟨x | x, st⟩⟩ <;> first | exact am_two_f | (cases cn <;> exact am_two_ite (am_two_n _ _ _ _ (by first | exact Nat.le_refl _ | exact Nat.le_succ _)) (am_two_n _ _ _ _ (by first | exact Nat.le_refl _ | exact Nat.le_succ _)))
theorem am_t_goto (Cl : Nat → List am_V → am_M → Option am_V → am_M → Prop) (hm : ∀ a as me v me', Cl a as me v me' → me.1 ≤ me'.1) (nx a b : Nat) (v : Int32) (ts : List (Int32 × Nat)) (L : am_L) (st : List am_V) (me : am_M) (Q : Option am_V → am_M → Prop) : am_two me Q (fun N => am_s_goto Cl nx a b v ts L st me N Q) := by
  unfold am_s_goto; rcases ts with _ | ⟨t, ts⟩; exact am_two_n _ _ _ _ (by first | exact Nat.le_refl _ | exact Nat.le_succ _); dsimp only; generalize am_keep L _ = w; cases w <;> first | exact am_two_f | exact am_two_n _ _ _ _ (by first | exact Nat.le_refl _ | exact Nat.le_succ _)
theorem am_t_tableswitch (Cl : Nat → List am_V → am_M → Option am_V → am_M → Prop) (hm : ∀ a as me v me', Cl a as me v me' → me.1 ≤ me'.1) (nx a b : Nat) (v : Int32) (ts : List (Int32 × Nat)) (L : am_L) (st : List am_V) (me : am_M) (Q : Option am_V → am_M → Prop) : am_two me Q (fun N => am_s_tableswitch Cl nx a b v ts L st me N Q) := by
  rcases st with _ | ⟨x | x, st⟩ <;> first | exact am_two_f | exact am_two_sw _ _ _ _ _
theorem am_t_lookupswitch (Cl : Nat → List am_V → am_M → Option am_V → am_M → Prop) (hm : ∀ a as me v me', Cl a as me v me' → me.1 ≤ me'.1) (nx a b : Nat) (v : Int32) (ts : List (Int32 × Nat)) (L : am_L) (st : List am_V) (me : am_M) (Q : Option am_V → am_M → Prop) : am_two me Q (fun N => am_s_lookupswitch Cl nx a b v ts L st me N Q) := by
  rcases st with _ | ⟨x | x, st⟩ <;> first | exact am_two_f | exact am_two_sw _ _ _ _ _
theorem am_t_getfield (Cl : Nat → List am_V → am_M → Option am_V → am_M → Prop) (hm : ∀ a as me v me', Cl a as me v me' → me.1 ≤ me'.1) (nx a b : Nat) (v : Int32) (ts : List (Int32 × Nat)) (L : am_L) (st : List am_V) (me : am_M) (Q : Option am_V → am_M → Prop) : am_two me Q (fun N => am_s_getfield Cl nx a b v ts L st me N Q) := by
  unfold am_s_getfield
  rcases st with _ | ⟨x | x | ⟨r, bb, i⟩, st⟩ <;> try exact am_two_f
  dsimp only
  generalize Nat.beq r b = t
  cases t
  · exact am_two_f
  dsimp only
  by_cases h3 : b = 3
  · subst h3
    rcases a with _ | a <;> exact am_two_n _ _ _ _ (by first | exact Nat.le_refl _ | exact Nat.le_succ _)
  have key : am_two me Q (fun N => match am_fk (b - 16) a with
            | (2, f) => match me.2.1 r bb i a with
              | true => match f bb i with
                | (r', b', i') => N nx L (.inr (.inr (r', b', i')) :: st) me
              | false => False
            | _ => N nx L (.inl (me.2.2 r bb i a) :: st) me) := by
    generalize am_fk (b - 16) a = w
    obtain ⟨k, f⟩ := w
    rcases k with _ | _ | _ | k
    · exact am_two_n _ _ _ _ (by first | exact Nat.le_refl _ | exact Nat.le_succ _)
    · exact am_two_n _ _ _ _ (by first | exact Nat.le_refl _ | exact Nat.le_succ _)
    · dsimp only
      generalize me.2.1 r bb i a = z
      cases z
      · exact am_two_f
      · exact am_two_n _ _ _ _ (by first | exact Nat.le_refl _ | exact Nat.le_succ _)
    · exact am_two_n _ _ _ _ (by first | exact Nat.le_refl _ | exact Nat.le_succ _)
  simp only [h3]
  exact key
theorem am_t_putfield (Cl : Nat → List am_V → am_M → Option am_V → am_M → Prop) (hm : ∀ a as me v me', Cl a as me v me' → me.1 ≤ me'.1) (nx a b : Nat) (v : Int32) (ts : List (Int32 × Nat)) (L : am_L) (st : List am_V) (me : am_M) (Q : Option am_V → am_M → Prop) : am_two me Q (fun N => am_s_putfield Cl nx a b v ts L st me N Q) := by
  unfold am_s_putfield
  rcases st with _ | ⟨w, _ | ⟨x | x | ⟨r, bb, i⟩, st⟩⟩ <;> try exact am_two_f
  dsimp only
  generalize Nat.beq r b = t
  cases t
  · exact am_two_f
  dsimp only
  generalize am_fk (b - 16) a = z
  obtain ⟨k, f⟩ := z
  rcases w with x | x | q
  · rcases k with _ | _ | _ | k
    · exact am_two_n _ _ _ _ (by first | exact Nat.le_refl _ | exact Nat.le_succ _)
    · exact am_two_and (am_two_n _ _ _ _ (by first | exact Nat.le_refl _ | exact Nat.le_succ _))
    · exact am_two_f
    · exact am_two_f
  · rcases k with _ | _ | _ | k <;> exact am_two_f
  · rcases k with _ | _ | _ | k
    · exact am_two_f
    · exact am_two_f
    · exact am_two_and (am_two_n _ _ _ _ (by first | exact Nat.le_refl _ | exact Nat.le_succ _))
    · exact am_two_f
theorem am_t_getstatic (Cl : Nat → List am_V → am_M → Option am_V → am_M → Prop) (hm : ∀ a as me v me', Cl a as me v me' → me.1 ≤ me'.1) (nx a b : Nat) (v : Int32) (ts : List (Int32 × Nat)) (L : am_L) (st : List am_V) (me : am_M) (Q : Option am_V → am_M → Prop) : am_two me Q (fun N => am_s_getstatic Cl nx a b v ts L st me N Q) := by
  rcases b with _ | b <;> exact am_two_n _ _ _ _ (by first | exact Nat.le_refl _ | exact Nat.le_succ _)
theorem am_t_iaload (Cl : Nat → List am_V → am_M → Option am_V → am_M → Prop) (hm : ∀ a as me v me', Cl a as me v me' → me.1 ≤ me'.1) (nx a b : Nat) (v : Int32) (ts : List (Int32 × Nat)) (L : am_L) (st : List am_V) (me : am_M) (Q : Option am_V → am_M → Prop) : am_two me Q (fun N => am_s_iaload Cl nx a b v ts L st me N Q) := by
  unfold am_s_iaload
  rcases st with _ | ⟨j | j, _ | ⟨x | x | ⟨r, bb, i⟩, st⟩⟩ <;> try exact am_two_f
  dsimp only
  generalize am_rd me.2.2 r bb i = w
  rcases w with _ | ⟨n, f⟩
  · exact am_two_f
  · exact am_two_and (am_two_n _ _ _ _ (by first | exact Nat.le_refl _ | exact Nat.le_succ _))
theorem am_t_baload (Cl : Nat → List am_V → am_M → Option am_V → am_M → Prop) (hm : ∀ a as me v me', Cl a as me v me' → me.1 ≤ me'.1) (nx a b : Nat) (v : Int32) (ts : List (Int32 × Nat)) (L : am_L) (st : List am_V) (me : am_M) (Q : Option am_V → am_M → Prop) : am_two me Q (fun N => am_s_baload Cl nx a b v ts L st me N Q) := by
  unfold am_s_baload
  rcases st with _ | ⟨j | j, _ | ⟨x | x | ⟨r, bb, i⟩, st⟩⟩ <;> try exact am_two_f
  dsimp only
  generalize Nat.beq r 4 = t
  cases t
  · exact am_two_f
  · exact am_two_and (am_two_n _ _ _ _ (by first | exact Nat.le_refl _ | exact Nat.le_succ _))
theorem am_t_iastore (Cl : Nat → List am_V → am_M → Option am_V → am_M → Prop) (hm : ∀ a as me v me', Cl a as me v me' → me.1 ≤ me'.1) (nx a b : Nat) (v : Int32) (ts : List (Int32 × Nat)) (L : am_L) (st : List am_V) (me : am_M) (Q : Option am_V → am_M → Prop) : am_two me Q (fun N => am_s_iastore Cl nx a b v ts L st me N Q) := by
  unfold am_s_iastore
  rcases st with _ | ⟨z | z, _ | ⟨j | j, _ | ⟨x | x | ⟨r, bb, i⟩, st⟩⟩⟩ <;> try exact am_two_f
  dsimp only
  generalize (Nat.ble 27 r && Nat.ble r 33) = t
  cases t
  · exact am_two_f
  · exact am_two_and (am_two_n _ _ _ _ (by first | exact Nat.le_refl _ | exact Nat.le_succ _))
theorem am_t_arraylength (Cl : Nat → List am_V → am_M → Option am_V → am_M → Prop) (hm : ∀ a as me v me', Cl a as me v me' → me.1 ≤ me'.1) (nx a b : Nat) (v : Int32) (ts : List (Int32 × Nat)) (L : am_L) (st : List am_V) (me : am_M) (Q : Option am_V → am_M → Prop) : am_two me Q (fun N => am_s_arraylength Cl nx a b v ts L st me N Q) := by
  unfold am_s_arraylength
  rcases st with _ | ⟨x | x | ⟨r, bb, i⟩, st⟩ <;> try exact am_two_f
  dsimp only
  generalize am_len me.2.2 r bb i = w
  cases w <;> first | exact am_two_f | exact am_two_n _ _ _ _ (by first | exact Nat.le_refl _ | exact Nat.le_succ _)
theorem am_t_aaload (Cl : Nat → List am_V → am_M → Option am_V → am_M → Prop) (hm : ∀ a as me v me', Cl a as me v me' → me.1 ≤ me'.1) (nx a b : Nat) (v : Int32) (ts : List (Int32 × Nat)) (L : am_L) (st : List am_V) (me : am_M) (Q : Option am_V → am_M → Prop) : am_two me Q (fun N => am_s_aaload Cl nx a b v ts L st me N Q) := by
  unfold am_s_aaload
  rcases st with _ | ⟨j | j, _ | ⟨x | x | ⟨r, bb, i⟩, st⟩⟩ <;> try exact am_two_f
  dsimp only
  generalize (Nat.ble 34 r && Nat.ble r 37) = t
  generalize me.2.1 r bb i j.toNatClampNeg = z
  cases t
  · exact am_two_f
  · refine am_two_and ?_
    cases z
    · exact am_two_f
    · exact am_two_n _ _ _ _ (by first | exact Nat.le_refl _ | exact Nat.le_succ _)
theorem am_t_aastore (Cl : Nat → List am_V → am_M → Option am_V → am_M → Prop) (hm : ∀ a as me v me', Cl a as me v me' → me.1 ≤ me'.1) (nx a b : Nat) (v : Int32) (ts : List (Int32 × Nat)) (L : am_L) (st : List am_V) (me : am_M) (Q : Option am_V → am_M → Prop) : am_two me Q (fun N => am_s_aastore Cl nx a b v ts L st me N Q) := by
  unfold am_s_aastore
  rcases st with _ | ⟨z | z | z, _ | ⟨j | j, _ | ⟨x | x | ⟨r, bb, i⟩, st⟩⟩⟩ <;> try exact am_two_f
  dsimp only
  generalize (Nat.ble 34 r && Nat.ble r 37) = t
  cases t
  · exact am_two_f
  · exact am_two_and (am_two_and (am_two_n _ _ _ _ (by first | exact Nat.le_refl _ | exact Nat.le_succ _)))
theorem am_t_new (Cl : Nat → List am_V → am_M → Option am_V → am_M → Prop) (hm : ∀ a as me v me', Cl a as me v me' → me.1 ≤ me'.1) (nx a b : Nat) (v : Int32) (ts : List (Int32 × Nat)) (L : am_L) (st : List am_V) (me : am_M) (Q : Option am_V → am_M → Prop) : am_two me Q (fun N => am_s_new Cl nx a b v ts L st me N Q) := by
  exact am_two_and (am_two_and (am_two_and (am_two_n _ _ _ _ (by first | exact Nat.le_refl _ | exact Nat.le_succ _))))
theorem am_t_newarray (Cl : Nat → List am_V → am_M → Option am_V → am_M → Prop) (hm : ∀ a as me v me', Cl a as me v me' → me.1 ≤ me'.1) (nx a b : Nat) (v : Int32) (ts : List (Int32 × Nat)) (L : am_L) (st : List am_V) (me : am_M) (Q : Option am_V → am_M → Prop) : am_two me Q (fun N => am_s_newarray Cl nx a b v ts L st me N Q) := by
  rcases st with _ | ⟨x | x, st⟩ <;> first | exact am_two_f | exact am_two_and (am_two_and (am_two_and (am_two_and (am_two_n _ _ _ _ (by first | exact Nat.le_refl _ | exact Nat.le_succ _)))))
theorem am_t_anewarray (Cl : Nat → List am_V → am_M → Option am_V → am_M → Prop) (hm : ∀ a as me v me', Cl a as me v me' → me.1 ≤ me'.1) (nx a b : Nat) (v : Int32) (ts : List (Int32 × Nat)) (L : am_L) (st : List am_V) (me : am_M) (Q : Option am_V → am_M → Prop) : am_two me Q (fun N => am_s_anewarray Cl nx a b v ts L st me N Q) := by
  rcases st with _ | ⟨x | x, st⟩ <;> first | exact am_two_f | exact am_two_and (am_two_and (am_two_and (am_two_and (am_two_n _ _ _ _ (by first | exact Nat.le_refl _ | exact Nat.le_succ _)))))
theorem am_t_invokestatic (Cl : Nat → List am_V → am_M → Option am_V → am_M → Prop) (hm : ∀ a as me v me', Cl a as me v me' → me.1 ≤ me'.1) (nx a b : Nat) (v : Int32) (ts : List (Int32 × Nat)) (L : am_L) (st : List am_V) (me : am_M) (Q : Option am_V → am_M → Prop) : am_two me Q (fun N => am_s_invokestatic Cl nx a b v ts L st me N Q) := by
  unfold am_s_invokestatic
  generalize Nat.beq a 1000 = t
  cases t
  · dsimp only
    generalize am_pop st b [] = w
    rcases w with _ | ⟨as, st'⟩
    · exact am_two_f
    dsimp only
    generalize (Nat.ble st'.length 4 && Nat.ble (am_wds as) (am_mlx a)) = t
    cases t
    · exact am_two_f
    rcases ts with _ | ⟨q, ts⟩
    · exact am_two_ex fun _ => am_two_andh fun hc => am_two_n _ _ _ _ (hm _ _ _ _ _ hc)
    · exact am_two_ex fun _ => am_two_ex fun _ => am_two_andh fun hc => am_two_n _ _ _ _ (hm _ _ _ _ _ hc)
  · rcases st with _ | ⟨n | n, _ | ⟨dp | dp, _ | ⟨x | x | ⟨r2, b2, i2⟩, _ | ⟨sp | sp, _ | ⟨x | x | ⟨r1, b1, i1⟩, st⟩⟩⟩⟩⟩ <;> try exact am_two_f
    dsimp only
    generalize ((Nat.ble 27 r1 && Nat.ble r1 33) && (Nat.ble 27 r2 && Nat.ble r2 33) && Nat.ble st.length 4) = t
    cases t
    · exact am_two_f
    · exact am_two_and (am_two_and (am_two_and (am_two_and (am_two_and (am_two_n _ _ _ _ (by first | exact Nat.le_refl _ | exact Nat.le_succ _))))))
theorem am_t_invokevirtual (Cl : Nat → List am_V → am_M → Option am_V → am_M → Prop) (hm : ∀ a as me v me', Cl a as me v me' → me.1 ≤ me'.1) (nx a b : Nat) (v : Int32) (ts : List (Int32 × Nat)) (L : am_L) (st : List am_V) (me : am_M) (Q : Option am_V → am_M → Prop) : am_two me Q (fun N => am_s_invokevirtual Cl nx a b v ts L st me N Q) := by
  unfold am_s_invokevirtual
  generalize am_pop st b [] = w
  rcases w with _ | ⟨_ | ⟨x | x | ⟨r, q⟩, as⟩, st'⟩ <;> try exact am_two_f
  dsimp only
  generalize (Nat.beq r (am_rcv a) && (Nat.ble st'.length 4 && Nat.ble (am_wds (.inr (.inr (r, q)) :: as)) (am_mlx a))) = t
  cases t
  · exact am_two_f
  rcases ts with _ | ⟨q, ts⟩
  · exact am_two_ex fun _ => am_two_andh fun hc => am_two_n _ _ _ _ (hm _ _ _ _ _ hc)
  · exact am_two_ex fun _ => am_two_ex fun _ => am_two_andh fun hc => am_two_n _ _ _ _ (hm _ _ _ _ _ hc)
theorem am_t_invokespecial (Cl : Nat → List am_V → am_M → Option am_V → am_M → Prop) (hm : ∀ a as me v me', Cl a as me v me' → me.1 ≤ me'.1) (nx a b : Nat) (v : Int32) (ts : List (Int32 × Nat)) (L : am_L) (st : List am_V) (me : am_M) (Q : Option am_V → am_M → Prop) : am_two me Q (fun N => am_s_invokespecial Cl nx a b v ts L st me N Q) := by
  unfold am_s_invokespecial
  generalize Nat.beq a 2000 = t
  cases t
  · dsimp only
    generalize am_pop st b [] = w
    rcases w with _ | ⟨_ | ⟨x | x | ⟨r, q⟩, as⟩, st'⟩ <;> try exact am_two_f
    dsimp only
    generalize (Nat.ble 16 r && (Nat.ble st'.length 4 && Nat.ble (am_wds (.inr (.inr (r, q)) :: as)) (am_mlx a))) = t
    cases t
    · exact am_two_f
    · exact am_two_ex fun _ => am_two_andh fun hc => am_two_n _ _ _ _ (hm _ _ _ _ _ hc)
  · rcases st with _ | ⟨x | x | ⟨r, q⟩, st⟩ <;> try exact am_two_f
    dsimp only
    generalize (Nat.ble 16 r && Nat.ble st.length 4) = t
    cases t
    · exact am_two_f
    · exact am_two_n _ _ _ _ (by first | exact Nat.le_refl _ | exact Nat.le_succ _)
theorem am_t_ireturn (Cl : Nat → List am_V → am_M → Option am_V → am_M → Prop) (hm : ∀ a as me v me', Cl a as me v me' → me.1 ≤ me'.1) (nx a b : Nat) (v : Int32) (ts : List (Int32 × Nat)) (L : am_L) (st : List am_V) (me : am_M) (Q : Option am_V → am_M → Prop) : am_two me Q (fun N => am_s_ireturn Cl nx a b v ts L st me N Q) := by
  rcases st with _ | ⟨x | x, _ | ⟨z, st⟩⟩ <;> first | exact am_two_f | exact fun _ h => Or.inr ⟨_, h.2⟩
theorem am_t_areturn (Cl : Nat → List am_V → am_M → Option am_V → am_M → Prop) (hm : ∀ a as me v me', Cl a as me v me' → me.1 ≤ me'.1) (nx a b : Nat) (v : Int32) (ts : List (Int32 × Nat)) (L : am_L) (st : List am_V) (me : am_M) (Q : Option am_V → am_M → Prop) : am_two me Q (fun N => am_s_areturn Cl nx a b v ts L st me N Q) := by
  unfold am_s_areturn
  rcases st with _ | ⟨x | x | ⟨r, q⟩, _ | ⟨z, st⟩⟩ <;> first | exact am_two_f | (dsimp only; generalize Nat.beq r 5 = t; cases t <;> first | exact am_two_f | exact fun _ h => Or.inr ⟨_, h⟩)
theorem am_t_return_ (Cl : Nat → List am_V → am_M → Option am_V → am_M → Prop) (hm : ∀ a as me v me', Cl a as me v me' → me.1 ≤ me'.1) (nx a b : Nat) (v : Int32) (ts : List (Int32 × Nat)) (L : am_L) (st : List am_V) (me : am_M) (Q : Option am_V → am_M → Prop) : am_two me Q (fun N => am_s_return_ Cl nx a b v ts L st me N Q) := by
  rcases st with _ | ⟨x, st⟩ <;> first | exact am_two_f | exact fun _ h => Or.inr ⟨_, h⟩
theorem am_step_two (Cl : Nat → List am_V → am_M → Option am_V → am_M → Prop) (hm : ∀ a as me v me', Cl a as me v me' → me.1 ≤ me'.1) (o : am_O) (L : am_L) (st : List am_V) (me : am_M) (Q : Option am_V → am_M → Prop) : am_two me Q (fun N => am_step Cl o L st me N Q) := by
  obtain ⟨pc, ln, ins, nx, a, b, v, ts, w⟩ := o
  cases ins <;> first
    | exact am_t_iconst Cl hm nx a b v ts L st me Q
    | exact am_t_bipush Cl hm nx a b v ts L st me Q
    | exact am_t_sipush Cl hm nx a b v ts L st me Q
    | exact am_t_ldc Cl hm nx a b v ts L st me Q
    | exact am_t_ldc_w Cl hm nx a b v ts L st me Q
    | exact am_t_ldc2_w Cl hm nx a b v ts L st me Q
    | exact am_t_iload_n Cl hm nx a b v ts L st me Q
    | exact am_t_iload Cl hm nx a b v ts L st me Q
    | exact am_t_lload_n Cl hm nx a b v ts L st me Q
    | exact am_t_aload_n Cl hm nx a b v ts L st me Q
    | exact am_t_aload Cl hm nx a b v ts L st me Q
    | exact am_t_istore_n Cl hm nx a b v ts L st me Q
    | exact am_t_istore Cl hm nx a b v ts L st me Q
    | exact am_t_astore_n Cl hm nx a b v ts L st me Q
    | exact am_t_astore Cl hm nx a b v ts L st me Q
    | exact am_t_iinc Cl hm nx a b v ts L st me Q
    | exact am_t_iadd Cl hm nx a b v ts L st me Q
    | exact am_t_isub Cl hm nx a b v ts L st me Q
    | exact am_t_imul Cl hm nx a b v ts L st me Q
    | exact am_t_idiv Cl hm nx a b v ts L st me Q
    | exact am_t_irem Cl hm nx a b v ts L st me Q
    | exact am_t_ineg Cl hm nx a b v ts L st me Q
    | exact am_t_iand Cl hm nx a b v ts L st me Q
    | exact am_t_ior Cl hm nx a b v ts L st me Q
    | exact am_t_ixor Cl hm nx a b v ts L st me Q
    | exact am_t_ishl Cl hm nx a b v ts L st me Q
    | exact am_t_ishr Cl hm nx a b v ts L st me Q
    | exact am_t_iushr Cl hm nx a b v ts L st me Q
    | exact am_t_i2l Cl hm nx a b v ts L st me Q
    | exact am_t_l2i Cl hm nx a b v ts L st me Q
    | exact am_t_i2b Cl hm nx a b v ts L st me Q
    | exact am_t_i2s Cl hm nx a b v ts L st me Q
    | exact am_t_i2c Cl hm nx a b v ts L st me Q
    | exact am_t_ladd Cl hm nx a b v ts L st me Q
    | exact am_t_land Cl hm nx a b v ts L st me Q
    | exact am_t_lor Cl hm nx a b v ts L st me Q
    | exact am_t_lshl Cl hm nx a b v ts L st me Q
    | exact am_t_lshr Cl hm nx a b v ts L st me Q
    | exact am_t_lushr Cl hm nx a b v ts L st me Q
    | exact am_t_lcmp Cl hm nx a b v ts L st me Q
    | exact am_t_dup Cl hm nx a b v ts L st me Q
    | exact am_t_dup2 Cl hm nx a b v ts L st me Q
    | exact am_t_pop Cl hm nx a b v ts L st me Q
    | exact am_t_ifCond Cl hm nx a b v ts L st me Q _
    | exact am_t_if_icmp Cl hm nx a b v ts L st me Q _
    | exact am_t_goto Cl hm nx a b v ts L st me Q
    | exact am_t_tableswitch Cl hm nx a b v ts L st me Q
    | exact am_t_lookupswitch Cl hm nx a b v ts L st me Q
    | exact am_t_getfield Cl hm nx a b v ts L st me Q
    | exact am_t_putfield Cl hm nx a b v ts L st me Q
    | exact am_t_getstatic Cl hm nx a b v ts L st me Q
    | exact am_t_iaload Cl hm nx a b v ts L st me Q
    | exact am_t_baload Cl hm nx a b v ts L st me Q
    | exact am_t_iastore Cl hm nx a b v ts L st me Q
    | exact am_t_arraylength Cl hm nx a b v ts L st me Q
    | exact am_t_aaload Cl hm nx a b v ts L st me Q
    | exact am_t_aastore Cl hm nx a b v ts L st me Q
    | exact am_t_new Cl hm nx a b v ts L st me Q
    | exact am_t_newarray Cl hm nx a b v ts L st me Q
    | exact am_t_anewarray Cl hm nx a b v ts L st me Q
    | exact am_t_invokestatic Cl hm nx a b v ts L st me Q
    | exact am_t_invokevirtual Cl hm nx a b v ts L st me Q
    | exact am_t_invokespecial Cl hm nx a b v ts L st me Q
    | exact am_t_ireturn Cl hm nx a b v ts L st me Q
    | exact am_t_areturn Cl hm nx a b v ts L st me Q
    | exact am_t_return_ Cl hm nx a b v ts L st me Q
    | exact am_two_f
theorem am_run_le {Cl : Nat → List am_V → am_M → Option am_V → am_M → Prop} (hm : ∀ a as me v me', Cl a as me v me' → me.1 ≤ me'.1) {cd : am_C} {Q : Option am_V → am_M → Prop} {f ip : Nat} {L : am_L} {st : List am_V} {me : am_M} (h : am_run Cl cd Q f ip L st me) : ∃ v me', Q v me' ∧ me.1 ≤ me'.1 := by
  induction f generalizing ip L st me with
  | zero => exact False.elim h
  | succ f ih =>
    have h : (match am_at cd ip with | none => False | some o => am_step Cl o L st me (am_run Cl cd Q f) Q) := h
    cases ho : am_at cd ip with
    | none => rw [ho] at h; exact False.elim h
    | some o =>
      rw [ho] at h
      rcases am_step_two Cl hm o L st me Q _ h with ⟨ip', L', st', me', h1, h2⟩ | ⟨v, h1⟩
      · obtain ⟨v, me2, h3, h4⟩ := ih h1
        exact ⟨v, me2, h3, Nat.le_trans h2 h4⟩
      · exact ⟨v, me, h1, Nat.le_refl _⟩
theorem am_cl_le {cds : Nat → am_C} {d : Nat} : ∀ a as me v me', am_cl cds d a as me v me' → me.1 ≤ me'.1 := by
  induction d with
  | zero => exact fun _ _ _ _ _ h => False.elim h
  | succ d ih =>
    rintro a as me v me' ⟨f, h⟩
    obtain ⟨v2, me2, ⟨_, h3⟩, h4⟩ := am_run_le ih h
    rw [← h3]
    exact h4
/-- back from one instruction to the next -/
theorem am_wp_inv {Cl : Nat → List am_V → am_M → Option am_V → am_M → Prop} {cd : am_C} {Q : Option am_V → am_M → Prop} {ip : Nat} {L : am_L} {st : List am_V} {me : am_M} (o : am_O) (ho : am_at cd ip = some o) (h : am_wp Cl cd Q ip L st me) : am_step Cl o L st me (am_wp Cl cd Q) Q := by
  obtain ⟨f, h⟩ := h
  cases f with
  | zero => exact False.elim h
  | succ f =>
    have h : (match am_at cd ip with | none => False | some o => am_step Cl o L st me (am_run Cl cd Q f) Q) := h
    rw [ho] at h
    exact am_step_mono h fun ip L st me q => ⟨f, q⟩
theorem am_max_inv {Cl : Nat → List am_V → am_M → Option am_V → am_M → Prop} {x y : Int32} {me me' : am_M} {v : Option am_V} (h : am_wp Cl am_c222 (fun w m => w = v ∧ m = me') 0 [(0, .inl x), (1, .inl y)] [] me) : v = some (.inl (if x < y then y else x)) ∧ me' = me := by
  have h := am_wp_inv _ rfl h
  have h := am_wp_inv _ rfl h
  have h1 := am_wp_inv _ rfl h
  have h : (if x < y then am_wp Cl am_c222 (fun w m => w = v ∧ m = me') 5 [(0, .inl x), (1, .inl y)] [] me else am_wp Cl am_c222 (fun w m => w = v ∧ m = me') 3 [(0, .inl x), (1, .inl y)] [] me) := h1
  by_cases hc : x < y
  · rw [if_pos hc] at h ⊢
    have h := am_wp_inv _ rfl h
    have h := am_wp_inv _ rfl h
    exact ⟨h.2.1.symm, h.2.2.symm⟩
  · rw [if_neg hc] at h ⊢
    have h := am_wp_inv _ rfl h
    have h := am_wp_inv _ rfl h
    have h := am_wp_inv _ rfl h
    exact ⟨h.2.1.symm, h.2.2.symm⟩
theorem am_min_inv {Cl : Nat → List am_V → am_M → Option am_V → am_M → Prop} {x y : Int32} {me me' : am_M} {v : Option am_V} (h : am_wp Cl am_c223 (fun w m => w = v ∧ m = me') 0 [(0, .inl x), (1, .inl y)] [] me) : v = some (.inl (if y < x then y else x)) ∧ me' = me := by
  have h := am_wp_inv _ rfl h
  have h := am_wp_inv _ rfl h
  have h1 := am_wp_inv _ rfl h
  have h : (if y < x then am_wp Cl am_c223 (fun w m => w = v ∧ m = me') 5 [(0, .inl x), (1, .inl y)] [] me else am_wp Cl am_c223 (fun w m => w = v ∧ m = me') 3 [(0, .inl x), (1, .inl y)] [] me) := h1
  by_cases hc : y < x
  · rw [if_pos hc] at h ⊢
    have h := am_wp_inv _ rfl h
    have h := am_wp_inv _ rfl h
    exact ⟨h.2.1.symm, h.2.2.symm⟩
  · rw [if_neg hc] at h ⊢
    have h := am_wp_inv _ rfl h
    have h := am_wp_inv _ rfl h
    have h := am_wp_inv _ rfl h
    exact ⟨h.2.1.symm, h.2.2.symm⟩
