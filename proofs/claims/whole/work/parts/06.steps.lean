theorem am_ite {c : Prop} [Decidable c] {A B : Prop} (h1 : c → A) (h2 : ¬ c → B) : (if c then A else B) := by
  by_cases h : c
  · rw [if_pos h]; exact h1 h
  · rw [if_neg h]; exact h2 h
abbrev am_N : Type := Nat → am_L → List am_V → am_M → Prop
/-- what asks the next one at one place alone, or not at all -/
def am_one (F : am_N → Prop) : Prop := ∀ N, F N → (∃ ip L st me, N ip L st me ∧ ∀ N' : am_N, N' ip L st me → F N') ∨ ∀ N' : am_N, F N'
theorem am_one_n (ip : Nat) (L : am_L) (st : List am_V) (me : am_M) : am_one (fun N => N ip L st me) := fun _ h => Or.inl ⟨ip, L, st, me, h, fun _ h => h⟩
theorem am_one_c (A : Prop) : am_one (fun _ => A) := fun _ h => Or.inr fun _ => h
theorem am_one_and {A : Prop} {F : am_N → Prop} (h : am_one F) : am_one (fun N => A ∧ F N) := fun N q => by
  rcases h N q.2 with ⟨ip, L, st, me, h1, h2⟩ | h1
  · exact Or.inl ⟨ip, L, st, me, h1, fun N' z => ⟨q.1, h2 N' z⟩⟩
  · exact Or.inr fun N' => ⟨q.1, h1 N'⟩
theorem am_one_ite {c : Prop} [Decidable c] {F G : am_N → Prop} (h1 : am_one F) (h2 : am_one G) : am_one (fun N => if c then F N else G N) := by
  by_cases h : c
  · simp only [if_pos h]; exact h1
  · simp only [if_neg h]; exact h2
theorem am_one_ex {α : Type} {F : α → am_N → Prop} (h : ∀ x, am_one (F x)) : am_one (fun N => ∃ x, F x N) := fun N ⟨x, q⟩ => by
  rcases h x N q with ⟨ip, L, st, me, h1, h2⟩ | h1
  · exact Or.inl ⟨ip, L, st, me, h1, fun N' z => ⟨x, h2 N' z⟩⟩
  · exact Or.inr fun N' => ⟨x, h1 N'⟩
theorem am_one_sw (x : Int32) (L : am_L) (st : List am_V) (me : am_M) (d : Nat) (ts : List (Int32 × Nat)) : am_one (fun N => am_sw x (fun t => N t L st me) d ts) := by
  induction ts with
  | nil => exact am_one_n d L st me
  | cons q r ih => exact am_one_ite (am_one_n q.2 L st me) ih
theorem am_o_iconst (Cl : Nat → List am_V → am_M → Option am_V → am_M → Prop) (nx a b : Nat) (v : Int32) (ts : List (Int32 × Nat)) (L : am_L) (st : List am_V) (me : am_M) (Q : Option am_V → am_M → Prop) : am_one (fun N => am_s_iconst Cl nx a b v ts L st me N Q) := by
  exact am_one_n _ _ _ _
theorem am_o_bipush (Cl : Nat → List am_V → am_M → Option am_V → am_M → Prop) (nx a b : Nat) (v : Int32) (ts : List (Int32 × Nat)) (L : am_L) (st : List am_V) (me : am_M) (Q : Option am_V → am_M → Prop) : am_one (fun N => am_s_bipush Cl nx a b v ts L st me N Q) := by
  exact am_one_n _ _ _ _
theorem am_o_sipush (Cl : Nat → List am_V → am_M → Option am_V → am_M → Prop) (nx a b : Nat) (v : Int32) (ts : List (Int32 × Nat)) (L : am_L) (st : List am_V) (me : am_M) (Q : Option am_V → am_M → Prop) : am_one (fun N => am_s_sipush Cl nx a b v ts L st me N Q) := by
  exact am_one_n _ _ _ _
theorem am_o_ldc (Cl : Nat → List am_V → am_M → Option am_V → am_M → Prop) (nx a b : Nat) (v : Int32) (ts : List (Int32 × Nat)) (L : am_L) (st : List am_V) (me : am_M) (Q : Option am_V → am_M → Prop) : am_one (fun N => am_s_ldc Cl nx a b v ts L st me N Q) := by
  rcases ts with _ | ⟨t, ts⟩ <;> exact am_one_n _ _ _ _
theorem am_o_ldc_w (Cl : Nat → List am_V → am_M → Option am_V → am_M → Prop) (nx a b : Nat) (v : Int32) (ts : List (Int32 × Nat)) (L : am_L) (st : List am_V) (me : am_M) (Q : Option am_V → am_M → Prop) : am_one (fun N => am_s_ldc_w Cl nx a b v ts L st me N Q) := by
  exact am_one_n _ _ _ _
theorem am_o_ldc2_w (Cl : Nat → List am_V → am_M → Option am_V → am_M → Prop) (nx a b : Nat) (v : Int32) (ts : List (Int32 × Nat)) (L : am_L) (st : List am_V) (me : am_M) (Q : Option am_V → am_M → Prop) : am_one (fun N => am_s_ldc2_w Cl nx a b v ts L st me N Q) := by
  exact am_one_n _ _ _ _
theorem am_o_iload_n (Cl : Nat → List am_V → am_M → Option am_V → am_M → Prop) (nx a b : Nat) (v : Int32) (ts : List (Int32 × Nat)) (L : am_L) (st : List am_V) (me : am_M) (Q : Option am_V → am_M → Prop) : am_one (fun N => am_s_iload_n Cl nx a b v ts L st me N Q) := by
  unfold am_s_iload_n; generalize am_get L a = w; rcases w with _ | x | x | q <;> first | exact am_one_c _ | exact am_one_n _ _ _ _
theorem am_o_iload (Cl : Nat → List am_V → am_M → Option am_V → am_M → Prop) (nx a b : Nat) (v : Int32) (ts : List (Int32 × Nat)) (L : am_L) (st : List am_V) (me : am_M) (Q : Option am_V → am_M → Prop) : am_one (fun N => am_s_iload Cl nx a b v ts L st me N Q) := by
  unfold am_s_iload; generalize am_get L a = w; rcases w with _ | x | x | q <;> first | exact am_one_c _ | exact am_one_n _ _ _ _
theorem am_o_lload_n (Cl : Nat → List am_V → am_M → Option am_V → am_M → Prop) (nx a b : Nat) (v : Int32) (ts : List (Int32 × Nat)) (L : am_L) (st : List am_V) (me : am_M) (Q : Option am_V → am_M → Prop) : am_one (fun N => am_s_lload_n Cl nx a b v ts L st me N Q) := by
  unfold am_s_lload_n; generalize am_get L a = w; rcases w with _ | x | x | q <;> first | exact am_one_c _ | exact am_one_n _ _ _ _
theorem am_o_aload_n (Cl : Nat → List am_V → am_M → Option am_V → am_M → Prop) (nx a b : Nat) (v : Int32) (ts : List (Int32 × Nat)) (L : am_L) (st : List am_V) (me : am_M) (Q : Option am_V → am_M → Prop) : am_one (fun N => am_s_aload_n Cl nx a b v ts L st me N Q) := by
  unfold am_s_aload_n; generalize am_get L a = w; rcases w with _ | x | x | ⟨r, q⟩ <;> first | exact am_one_c _ | (dsimp only; generalize Nat.beq r 5 = t; cases t <;> first | exact am_one_c _ | exact am_one_n _ _ _ _)
theorem am_o_aload (Cl : Nat → List am_V → am_M → Option am_V → am_M → Prop) (nx a b : Nat) (v : Int32) (ts : List (Int32 × Nat)) (L : am_L) (st : List am_V) (me : am_M) (Q : Option am_V → am_M → Prop) : am_one (fun N => am_s_aload Cl nx a b v ts L st me N Q) := by
  unfold am_s_aload; generalize am_get L a = w; rcases w with _ | x | x | ⟨r, q⟩ <;> first | exact am_one_c _ | (dsimp only; generalize Nat.beq r 5 = t; cases t <;> first | exact am_one_c _ | exact am_one_n _ _ _ _)
theorem am_o_istore_n (Cl : Nat → List am_V → am_M → Option am_V → am_M → Prop) (nx a b : Nat) (v : Int32) (ts : List (Int32 × Nat)) (L : am_L) (st : List am_V) (me : am_M) (Q : Option am_V → am_M → Prop) : am_one (fun N => am_s_istore_n Cl nx a b v ts L st me N Q) := by
  unfold am_s_istore_n; rcases st with _ | ⟨x | x | q, st⟩ <;> first | exact am_one_c _ | (dsimp only; generalize am_set L a _ = w; cases w <;> first | exact am_one_c _ | exact am_one_n _ _ _ _)
theorem am_o_istore (Cl : Nat → List am_V → am_M → Option am_V → am_M → Prop) (nx a b : Nat) (v : Int32) (ts : List (Int32 × Nat)) (L : am_L) (st : List am_V) (me : am_M) (Q : Option am_V → am_M → Prop) : am_one (fun N => am_s_istore Cl nx a b v ts L st me N Q) := by
  unfold am_s_istore; rcases st with _ | ⟨x | x | q, st⟩ <;> first | exact am_one_c _ | (dsimp only; generalize am_set L a _ = w; cases w <;> first | exact am_one_c _ | exact am_one_n _ _ _ _)
theorem am_o_astore_n (Cl : Nat → List am_V → am_M → Option am_V → am_M → Prop) (nx a b : Nat) (v : Int32) (ts : List (Int32 × Nat)) (L : am_L) (st : List am_V) (me : am_M) (Q : Option am_V → am_M → Prop) : am_one (fun N => am_s_astore_n Cl nx a b v ts L st me N Q) := by
  unfold am_s_astore_n; rcases st with _ | ⟨x | x | ⟨r, q⟩, st⟩ <;> first | exact am_one_c _ | (dsimp only; generalize am_set L a _ = w; generalize Nat.beq r 5 = t; cases t <;> cases w <;> first | exact am_one_c _ | exact am_one_n _ _ _ _)
theorem am_o_astore (Cl : Nat → List am_V → am_M → Option am_V → am_M → Prop) (nx a b : Nat) (v : Int32) (ts : List (Int32 × Nat)) (L : am_L) (st : List am_V) (me : am_M) (Q : Option am_V → am_M → Prop) : am_one (fun N => am_s_astore Cl nx a b v ts L st me N Q) := by
  unfold am_s_astore; rcases st with _ | ⟨x | x | ⟨r, q⟩, st⟩ <;> first | exact am_one_c _ | (dsimp only; generalize am_set L a _ = w; generalize Nat.beq r 5 = t; cases t <;> cases w <;> first | exact am_one_c _ | exact am_one_n _ _ _ _)
theorem am_o_iinc (Cl : Nat → List am_V → am_M → Option am_V → am_M → Prop) (nx a b : Nat) (v : Int32) (ts : List (Int32 × Nat)) (L : am_L) (st : List am_V) (me : am_M) (Q : Option am_V → am_M → Prop) : am_one (fun N => am_s_iinc Cl nx a b v ts L st me N Q) := by
  unfold am_s_iinc; generalize am_get L a = w; rcases w with _ | x | x | q <;> first | exact am_one_c _ | (dsimp only; generalize am_set L a _ = w; cases w <;> first | exact am_one_c _ | exact am_one_n _ _ _ _)
theorem am_o_iadd (Cl : Nat → List am_V → am_M → Option am_V → am_M → Prop) (nx a b : Nat) (v : Int32) (ts : List (Int32 × Nat)) (L : am_L) (st : List am_V) (me : am_M) (Q : Option am_V → am_M → Prop) : am_one (fun N => am_s_iadd Cl nx a b v ts L st me N Q) := by
  rcases st with _ | ⟨y | y, _ | ⟨x | x, st⟩⟩ <;> first | exact am_one_c _ | exact am_one_n _ _ _ _
theorem am_o_isub (Cl : Nat → List am_V → am_M → Option am_V → am_M → Prop) (nx a b : Nat) (v : Int32) (ts : List (Int32 × Nat)) (L : am_L) (st : List am_V) (me : am_M) (Q : Option am_V → am_M → Prop) : am_one (fun N => am_s_isub Cl nx a b v ts L st me N Q) := by
  rcases st with _ | ⟨y | y, _ | ⟨x | x, st⟩⟩ <;> first | exact am_one_c _ | exact am_one_n _ _ _ _
theorem am_o_imul (Cl : Nat → List am_V → am_M → Option am_V → am_M → Prop) (nx a b : Nat) (v : Int32) (ts : List (Int32 × Nat)) (L : am_L) (st : List am_V) (me : am_M) (Q : Option am_V → am_M → Prop) : am_one (fun N => am_s_imul Cl nx a b v ts L st me N Q) := by
  rcases st with _ | ⟨y | y, _ | ⟨x | x, st⟩⟩ <;> first | exact am_one_c _ | exact am_one_n _ _ _ _
theorem am_o_idiv (Cl : Nat → List am_V → am_M → Option am_V → am_M → Prop) (nx a b : Nat) (v : Int32) (ts : List (Int32 × Nat)) (L : am_L) (st : List am_V) (me : am_M) (Q : Option am_V → am_M → Prop) : am_one (fun N => am_s_idiv Cl nx a b v ts L st me N Q) := by
  rcases st with _ | ⟨y | y, _ | ⟨x | x, st⟩⟩ <;> first | exact am_one_c _ | exact am_one_and (am_one_n _ _ _ _)
theorem am_o_irem (Cl : Nat → List am_V → am_M → Option am_V → am_M → Prop) (nx a b : Nat) (v : Int32) (ts : List (Int32 × Nat)) (L : am_L) (st : List am_V) (me : am_M) (Q : Option am_V → am_M → Prop) : am_one (fun N => am_s_irem Cl nx a b v ts L st me N Q) := by
  rcases st with _ | ⟨y | y, _ | ⟨x | x, st⟩⟩ <;> first | exact am_one_c _ | exact am_one_and (am_one_n _ _ _ _)
theorem am_o_ineg (Cl : Nat → List am_V → am_M → Option am_V → am_M → Prop) (nx a b : Nat) (v : Int32) (ts : List (Int32 × Nat)) (L : am_L) (st : List am_V) (me : am_M) (Q : Option am_V → am_M → Prop) : am_one (fun N => am_s_ineg Cl nx a b v ts L st me N Q) := by
  rcases st with _ | ⟨x | x | x, st⟩ <;> first | exact am_one_c _ | exact am_one_n _ _ _ _
theorem am_o_iand (Cl : Nat → List am_V → am_M → Option am_V → am_M → Prop) (nx a b : Nat) (v : Int32) (ts : List (Int32 × Nat)) (L : am_L) (st : List am_V) (me : am_M) (Q : Option am_V → am_M → Prop) : am_one (fun N => am_s_iand Cl nx a b v ts L st me N Q) := by
  rcases st with _ | ⟨y | y, _ | ⟨x | x, st⟩⟩ <;> first | exact am_one_c _ | exact am_one_n _ _ _ _
theorem am_o_ior (Cl : Nat → List am_V → am_M → Option am_V → am_M → Prop) (nx a b : Nat) (v : Int32) (ts : List (Int32 × Nat)) (L : am_L) (st : List am_V) (me : am_M) (Q : Option am_V → am_M → Prop) : am_one (fun N => am_s_ior Cl nx a b v ts L st me N Q) := by
  rcases st with _ | ⟨y | y, _ | ⟨x | x, st⟩⟩ <;> first | exact am_one_c _ | exact am_one_n _ _ _ _
theorem am_o_ixor (Cl : Nat → List am_V → am_M → Option am_V → am_M → Prop) (nx a b : Nat) (v : Int32) (ts : List (Int32 × Nat)) (L : am_L) (st : List am_V) (me : am_M) (Q : Option am_V → am_M → Prop) : am_one (fun N => am_s_ixor Cl nx a b v ts L st me N Q) := by
  rcases st with _ | ⟨y | y, _ | ⟨x | x, st⟩⟩ <;> first | exact am_one_c _ | exact am_one_n _ _ _ _
theorem am_o_ishl (Cl : Nat → List am_V → am_M → Option am_V → am_M → Prop) (nx a b : Nat) (v : Int32) (ts : List (Int32 × Nat)) (L : am_L) (st : List am_V) (me : am_M) (Q : Option am_V → am_M → Prop) : am_one (fun N => am_s_ishl Cl nx a b v ts L st me N Q) := by
  rcases st with _ | ⟨y | y, _ | ⟨x | x, st⟩⟩ <;> first | exact am_one_c _ | exact am_one_n _ _ _ _
theorem am_o_ishr (Cl : Nat → List am_V → am_M → Option am_V → am_M → Prop) (nx a b : Nat) (v : Int32) (ts : List (Int32 × Nat)) (L : am_L) (st : List am_V) (me : am_M) (Q : Option am_V → am_M → Prop) : am_one (fun N => am_s_ishr Cl nx a b v ts L st me N Q) := by
  rcases st with _ | ⟨y | y, _ | ⟨x | x, st⟩⟩ <;> first | exact am_one_c _ | exact am_one_n _ _ _ _
theorem am_o_iushr (Cl : Nat → List am_V → am_M → Option am_V → am_M → Prop) (nx a b : Nat) (v : Int32) (ts : List (Int32 × Nat)) (L : am_L) (st : List am_V) (me : am_M) (Q : Option am_V → am_M → Prop) : am_one (fun N => am_s_iushr Cl nx a b v ts L st me N Q) := by
  rcases st with _ | ⟨y | y, _ | ⟨x | x, st⟩⟩ <;> first | exact am_one_c _ | exact am_one_n _ _ _ _
theorem am_o_i2l (Cl : Nat → List am_V → am_M → Option am_V → am_M → Prop) (nx a b : Nat) (v : Int32) (ts : List (Int32 × Nat)) (L : am_L) (st : List am_V) (me : am_M) (Q : Option am_V → am_M → Prop) : am_one (fun N => am_s_i2l Cl nx a b v ts L st me N Q) := by
  rcases st with _ | ⟨x | x | x, st⟩ <;> first | exact am_one_c _ | exact am_one_n _ _ _ _
theorem am_o_l2i (Cl : Nat → List am_V → am_M → Option am_V → am_M → Prop) (nx a b : Nat) (v : Int32) (ts : List (Int32 × Nat)) (L : am_L) (st : List am_V) (me : am_M) (Q : Option am_V → am_M → Prop) : am_one (fun N => am_s_l2i Cl nx a b v ts L st me N Q) := by
  rcases st with _ | ⟨x | x | x, st⟩ <;> first | exact am_one_c _ | exact am_one_n _ _ _ _
theorem am_o_i2b (Cl : Nat → List am_V → am_M → Option am_V → am_M → Prop) (nx a b : Nat) (v : Int32) (ts : List (Int32 × Nat)) (L : am_L) (st : List am_V) (me : am_M) (Q : Option am_V → am_M → Prop) : am_one (fun N => am_s_i2b Cl nx a b v ts L st me N Q) := by
  rcases st with _ | ⟨x | x | x, st⟩ <;> first | exact am_one_c _ | exact am_one_n _ _ _ _
theorem am_o_i2s (Cl : Nat → List am_V → am_M → Option am_V → am_M → Prop) (nx a b : Nat) (v : Int32) (ts : List (Int32 × Nat)) (L : am_L) (st : List am_V) (me : am_M) (Q : Option am_V → am_M → Prop) : am_one (fun N => am_s_i2s Cl nx a b v ts L st me N Q) := by
  rcases st with _ | ⟨x | x | x, st⟩ <;> first | exact am_one_c _ | exact am_one_n _ _ _ _
theorem am_o_i2c (Cl : Nat → List am_V → am_M → Option am_V → am_M → Prop) (nx a b : Nat) (v : Int32) (ts : List (Int32 × Nat)) (L : am_L) (st : List am_V) (me : am_M) (Q : Option am_V → am_M → Prop) : am_one (fun N => am_s_i2c Cl nx a b v ts L st me N Q) := by
  rcases st with _ | ⟨x | x | x, st⟩ <;> first | exact am_one_c _ | exact am_one_n _ _ _ _
theorem am_o_ladd (Cl : Nat → List am_V → am_M → Option am_V → am_M → Prop) (nx a b : Nat) (v : Int32) (ts : List (Int32 × Nat)) (L : am_L) (st : List am_V) (me : am_M) (Q : Option am_V → am_M → Prop) : am_one (fun N => am_s_ladd Cl nx a b v ts L st me N Q) := by
  rcases st with _ | ⟨y | y | y, _ | ⟨x | x | x, st⟩⟩ <;> first | exact am_one_c _ | exact am_one_n _ _ _ _
theorem am_o_land (Cl : Nat → List am_V → am_M → Option am_V → am_M → Prop) (nx a b : Nat) (v : Int32) (ts : List (Int32 × Nat)) (L : am_L) (st : List am_V) (me : am_M) (Q : Option am_V → am_M → Prop) : am_one (fun N => am_s_land Cl nx a b v ts L st me N Q) := by
  rcases st with _ | ⟨y | y | y, _ | ⟨x | x | x, st⟩⟩ <;> first | exact am_one_c _ | exact am_one_n _ _ _ _
theorem am_o_lor (Cl : Nat → List am_V → am_M → Option am_V → am_M → Prop) (nx a b : Nat) (v : Int32) (ts : List (Int32 × Nat)) (L : am_L) (st : List am_V) (me : am_M) (Q : Option am_V → am_M → Prop) : am_one (fun N => am_s_lor Cl nx a b v ts L st me N Q) := by
  rcases st with _ | ⟨y | y | y, _ | ⟨x | x | x, st⟩⟩ <;> first | exact am_one_c _ | exact am_one_n _ _ _ _
theorem am_o_lshl (Cl : Nat → List am_V → am_M → Option am_V → am_M → Prop) (nx a b : Nat) (v : Int32) (ts : List (Int32 × Nat)) (L : am_L) (st : List am_V) (me : am_M) (Q : Option am_V → am_M → Prop) : am_one (fun N => am_s_lshl Cl nx a b v ts L st me N Q) := by
  rcases st with _ | ⟨y | y | y, _ | ⟨x | x | x, st⟩⟩ <;> first | exact am_one_c _ | exact am_one_n _ _ _ _
theorem am_o_lshr (Cl : Nat → List am_V → am_M → Option am_V → am_M → Prop) (nx a b : Nat) (v : Int32) (ts : List (Int32 × Nat)) (L : am_L) (st : List am_V) (me : am_M) (Q : Option am_V → am_M → Prop) : am_one (fun N => am_s_lshr Cl nx a b v ts L st me N Q) := by
  rcases st with _ | ⟨y | y | y, _ | ⟨x | x | x, st⟩⟩ <;> first | exact am_one_c _ | exact am_one_n _ _ _ _
theorem am_o_lushr (Cl : Nat → List am_V → am_M → Option am_V → am_M → Prop) (nx a b : Nat) (v : Int32) (ts : List (Int32 × Nat)) (L : am_L) (st : List am_V) (me : am_M) (Q : Option am_V → am_M → Prop) : am_one (fun N => am_s_lushr Cl nx a b v ts L st me N Q) := by
  rcases st with _ | ⟨y | y | y, _ | ⟨x | x | x, st⟩⟩ <;> first | exact am_one_c _ | exact am_one_n _ _ _ _
theorem am_o_lcmp (Cl : Nat → List am_V → am_M → Option am_V → am_M → Prop) (nx a b : Nat) (v : Int32) (ts : List (Int32 × Nat)) (L : am_L) (st : List am_V) (me : am_M) (Q : Option am_V → am_M → Prop) : am_one (fun N => am_s_lcmp Cl nx a b v ts L st me N Q) := by
  rcases st with _ | ⟨y | y | y, _ | ⟨x | x | x, st⟩⟩ <;> first | exact am_one_c _ | exact am_one_n _ _ _ _
theorem am_o_dup (Cl : Nat → List am_V → am_M → Option am_V → am_M → Prop) (nx a b : Nat) (v : Int32) (ts : List (Int32 × Nat)) (L : am_L) (st : List am_V) (me : am_M) (Q : Option am_V → am_M → Prop) : am_one (fun N => am_s_dup Cl nx a b v ts L st me N Q) := by
  rcases st with _ | ⟨x | x | x, st⟩ <;> first | exact am_one_c _ | exact am_one_n _ _ _ _
theorem am_o_dup2 (Cl : Nat → List am_V → am_M → Option am_V → am_M → Prop) (nx a b : Nat) (v : Int32) (ts : List (Int32 × Nat)) (L : am_L) (st : List am_V) (me : am_M) (Q : Option am_V → am_M → Prop) : am_one (fun N => am_s_dup2 Cl nx a b v ts L st me N Q) := by
  rcases st with _ | ⟨y | y | y, _ | ⟨x | x | x, st⟩⟩ <;> first | exact am_one_c _ | exact am_one_n _ _ _ _
theorem am_o_pop (Cl : Nat → List am_V → am_M → Option am_V → am_M → Prop) (nx a b : Nat) (v : Int32) (ts : List (Int32 × Nat)) (L : am_L) (st : List am_V) (me : am_M) (Q : Option am_V → am_M → Prop) : am_one (fun N => am_s_pop Cl nx a b v ts L st me N Q) := by
  rcases st with _ | ⟨x | x | x, st⟩ <;> first | exact am_one_c _ | exact am_one_n _ _ _ _
theorem am_o_ifCond (Cl : Nat → List am_V → am_M → Option am_V → am_M → Prop) (nx a b : Nat) (v : Int32) (ts : List (Int32 × Nat)) (L : am_L) (st : List am_V) (me : am_M) (Q : Option am_V → am_M → Prop) (cn : ClassFile.Cond) : am_one (fun N => am_s_ifCond Cl nx a b v ts L st me N Q cn) := by
  rcases st with _ | ⟨x | x, st⟩ <;> first | exact am_one_c _ | (cases cn <;> exact am_one_ite (am_one_n _ _ _ _) (am_one_n _ _ _ _))
theorem am_o_if_icmp (Cl : Nat → List am_V → am_M → Option am_V → am_M → Prop) (nx a b : Nat) (v : Int32) (ts : List (Int32 × Nat)) (L : am_L) (st : List am_V) (me : am_M) (Q : Option am_V → am_M → Prop) (cn : ClassFile.Cond) : am_one (fun N => am_s_if_icmp Cl nx a b v ts L st me N Q cn) := by
  rcases st with _ | ⟨y | y, _ | ⟨x | x, st⟩⟩ <;> first | exact am_one_c _ | (cases cn <;> exact am_one_ite (am_one_n _ _ _ _) (am_one_n _ _ _ _))
theorem am_o_goto (Cl : Nat → List am_V → am_M → Option am_V → am_M → Prop) (nx a b : Nat) (v : Int32) (ts : List (Int32 × Nat)) (L : am_L) (st : List am_V) (me : am_M) (Q : Option am_V → am_M → Prop) : am_one (fun N => am_s_goto Cl nx a b v ts L st me N Q) := by
  unfold am_s_goto; rcases ts with _ | ⟨t, ts⟩; exact am_one_n _ _ _ _; dsimp only; generalize am_keep L _ = w; cases w <;> first | exact am_one_c _ | exact am_one_n _ _ _ _
theorem am_o_tableswitch (Cl : Nat → List am_V → am_M → Option am_V → am_M → Prop) (nx a b : Nat) (v : Int32) (ts : List (Int32 × Nat)) (L : am_L) (st : List am_V) (me : am_M) (Q : Option am_V → am_M → Prop) : am_one (fun N => am_s_tableswitch Cl nx a b v ts L st me N Q) := by
  rcases st with _ | ⟨x | x, st⟩ <;> first | exact am_one_c _ | exact am_one_sw _ _ _ _ _ _
theorem am_o_lookupswitch (Cl : Nat → List am_V → am_M → Option am_V → am_M → Prop) (nx a b : Nat) (v : Int32) (ts : List (Int32 × Nat)) (L : am_L) (st : List am_V) (me : am_M) (Q : Option am_V → am_M → Prop) : am_one (fun N => am_s_lookupswitch Cl nx a b v ts L st me N Q) := by
  rcases st with _ | ⟨x | x, st⟩ <;> first | exact am_one_c _ | exact am_one_sw _ _ _ _ _ _
theorem am_o_getfield (Cl : Nat → List am_V → am_M → Option am_V → am_M → Prop) (nx a b : Nat) (v : Int32) (ts : List (Int32 × Nat)) (L : am_L) (st : List am_V) (me : am_M) (Q : Option am_V → am_M → Prop) : am_one (fun N => am_s_getfield Cl nx a b v ts L st me N Q) := by
  unfold am_s_getfield
  rcases st with _ | ⟨x | x | ⟨r, bb, i⟩, st⟩ <;> try exact am_one_c _
  dsimp only
  generalize Nat.beq r b = t
  cases t
  · exact am_one_c _
  dsimp only
  by_cases h3 : b = 3
  · subst h3
    rcases a with _ | a <;> exact am_one_n _ _ _ _
  have key : am_one (fun N => match am_fk (b - 16) a with
            | (2, f) => match me.2.1 r bb i a with
              | true => match f bb i with
                | (r', b', i') => N nx L (.inr (.inr (r', b', i')) :: st) me
              | false => False
            | _ => N nx L (.inl (me.2.2 r bb i a) :: st) me) := by
    generalize am_fk (b - 16) a = w
    obtain ⟨k, f⟩ := w
    rcases k with _ | _ | _ | k
    · exact am_one_n _ _ _ _
    · exact am_one_n _ _ _ _
    · dsimp only
      generalize me.2.1 r bb i a = z
      cases z
      · exact am_one_c _
      · exact am_one_n _ _ _ _
    · exact am_one_n _ _ _ _
  simp only [h3]
  exact key
theorem am_o_putfield (Cl : Nat → List am_V → am_M → Option am_V → am_M → Prop) (nx a b : Nat) (v : Int32) (ts : List (Int32 × Nat)) (L : am_L) (st : List am_V) (me : am_M) (Q : Option am_V → am_M → Prop) : am_one (fun N => am_s_putfield Cl nx a b v ts L st me N Q) := by
  unfold am_s_putfield
  rcases st with _ | ⟨w, _ | ⟨x | x | ⟨r, bb, i⟩, st⟩⟩ <;> try exact am_one_c _
  dsimp only
  generalize Nat.beq r b = t
  cases t
  · exact am_one_c _
  dsimp only
  generalize am_fk (b - 16) a = z
  obtain ⟨k, f⟩ := z
  rcases w with x | x | q
  · rcases k with _ | _ | _ | k
    · exact am_one_n _ _ _ _
    · exact am_one_and (am_one_n _ _ _ _)
    · exact am_one_c _
    · exact am_one_c _
  · rcases k with _ | _ | _ | k <;> exact am_one_c _
  · rcases k with _ | _ | _ | k
    · exact am_one_c _
    · exact am_one_c _
    · exact am_one_and (am_one_n _ _ _ _)
    · exact am_one_c _
theorem am_o_getstatic (Cl : Nat → List am_V → am_M → Option am_V → am_M → Prop) (nx a b : Nat) (v : Int32) (ts : List (Int32 × Nat)) (L : am_L) (st : List am_V) (me : am_M) (Q : Option am_V → am_M → Prop) : am_one (fun N => am_s_getstatic Cl nx a b v ts L st me N Q) := by
  rcases b with _ | b <;> exact am_one_n _ _ _ _
theorem am_o_iaload (Cl : Nat → List am_V → am_M → Option am_V → am_M → Prop) (nx a b : Nat) (v : Int32) (ts : List (Int32 × Nat)) (L : am_L) (st : List am_V) (me : am_M) (Q : Option am_V → am_M → Prop) : am_one (fun N => am_s_iaload Cl nx a b v ts L st me N Q) := by
  unfold am_s_iaload
  rcases st with _ | ⟨j | j, _ | ⟨x | x | ⟨r, bb, i⟩, st⟩⟩ <;> try exact am_one_c _
  dsimp only
  generalize am_rd me.2.2 r bb i = w
  rcases w with _ | ⟨n, f⟩
  · exact am_one_c _
  · exact am_one_and (am_one_n _ _ _ _)
theorem am_o_baload (Cl : Nat → List am_V → am_M → Option am_V → am_M → Prop) (nx a b : Nat) (v : Int32) (ts : List (Int32 × Nat)) (L : am_L) (st : List am_V) (me : am_M) (Q : Option am_V → am_M → Prop) : am_one (fun N => am_s_baload Cl nx a b v ts L st me N Q) := by
  unfold am_s_baload
  rcases st with _ | ⟨j | j, _ | ⟨x | x | ⟨r, bb, i⟩, st⟩⟩ <;> try exact am_one_c _
  dsimp only
  generalize Nat.beq r 4 = t
  cases t
  · exact am_one_c _
  · exact am_one_and (am_one_n _ _ _ _)
theorem am_o_iastore (Cl : Nat → List am_V → am_M → Option am_V → am_M → Prop) (nx a b : Nat) (v : Int32) (ts : List (Int32 × Nat)) (L : am_L) (st : List am_V) (me : am_M) (Q : Option am_V → am_M → Prop) : am_one (fun N => am_s_iastore Cl nx a b v ts L st me N Q) := by
  unfold am_s_iastore
  rcases st with _ | ⟨z | z, _ | ⟨j | j, _ | ⟨x | x | ⟨r, bb, i⟩, st⟩⟩⟩ <;> try exact am_one_c _
  dsimp only
  generalize (Nat.ble 27 r && Nat.ble r 33) = t
  cases t
  · exact am_one_c _
  · exact am_one_and (am_one_n _ _ _ _)
theorem am_o_arraylength (Cl : Nat → List am_V → am_M → Option am_V → am_M → Prop) (nx a b : Nat) (v : Int32) (ts : List (Int32 × Nat)) (L : am_L) (st : List am_V) (me : am_M) (Q : Option am_V → am_M → Prop) : am_one (fun N => am_s_arraylength Cl nx a b v ts L st me N Q) := by
  unfold am_s_arraylength
  rcases st with _ | ⟨x | x | ⟨r, bb, i⟩, st⟩ <;> try exact am_one_c _
  dsimp only
  generalize am_len me.2.2 r bb i = w
  cases w <;> first | exact am_one_c _ | exact am_one_n _ _ _ _
theorem am_o_aaload (Cl : Nat → List am_V → am_M → Option am_V → am_M → Prop) (nx a b : Nat) (v : Int32) (ts : List (Int32 × Nat)) (L : am_L) (st : List am_V) (me : am_M) (Q : Option am_V → am_M → Prop) : am_one (fun N => am_s_aaload Cl nx a b v ts L st me N Q) := by
  unfold am_s_aaload
  rcases st with _ | ⟨j | j, _ | ⟨x | x | ⟨r, bb, i⟩, st⟩⟩ <;> try exact am_one_c _
  dsimp only
  generalize (Nat.ble 34 r && Nat.ble r 37) = t
  generalize me.2.1 r bb i j.toNatClampNeg = z
  cases t
  · exact am_one_c _
  · refine am_one_and ?_
    cases z
    · exact am_one_c _
    · exact am_one_n _ _ _ _
theorem am_o_aastore (Cl : Nat → List am_V → am_M → Option am_V → am_M → Prop) (nx a b : Nat) (v : Int32) (ts : List (Int32 × Nat)) (L : am_L) (st : List am_V) (me : am_M) (Q : Option am_V → am_M → Prop) : am_one (fun N => am_s_aastore Cl nx a b v ts L st me N Q) := by
  unfold am_s_aastore
  rcases st with _ | ⟨z | z | z, _ | ⟨j | j, _ | ⟨x | x | ⟨r, bb, i⟩, st⟩⟩⟩ <;> try exact am_one_c _
  dsimp only
  generalize (Nat.ble 34 r && Nat.ble r 37) = t
  cases t
  · exact am_one_c _
  · exact am_one_and (am_one_and (am_one_n _ _ _ _))
theorem am_o_new (Cl : Nat → List am_V → am_M → Option am_V → am_M → Prop) (nx a b : Nat) (v : Int32) (ts : List (Int32 × Nat)) (L : am_L) (st : List am_V) (me : am_M) (Q : Option am_V → am_M → Prop) : am_one (fun N => am_s_new Cl nx a b v ts L st me N Q) := by
  exact am_one_and (am_one_and (am_one_and (am_one_n _ _ _ _)))
theorem am_o_newarray (Cl : Nat → List am_V → am_M → Option am_V → am_M → Prop) (nx a b : Nat) (v : Int32) (ts : List (Int32 × Nat)) (L : am_L) (st : List am_V) (me : am_M) (Q : Option am_V → am_M → Prop) : am_one (fun N => am_s_newarray Cl nx a b v ts L st me N Q) := by
  rcases st with _ | ⟨x | x, st⟩ <;> first | exact am_one_c _ | exact am_one_and (am_one_and (am_one_and (am_one_and (am_one_n _ _ _ _))))
theorem am_o_anewarray (Cl : Nat → List am_V → am_M → Option am_V → am_M → Prop) (nx a b : Nat) (v : Int32) (ts : List (Int32 × Nat)) (L : am_L) (st : List am_V) (me : am_M) (Q : Option am_V → am_M → Prop) : am_one (fun N => am_s_anewarray Cl nx a b v ts L st me N Q) := by
  rcases st with _ | ⟨x | x, st⟩ <;> first | exact am_one_c _ | exact am_one_and (am_one_and (am_one_and (am_one_and (am_one_n _ _ _ _))))
theorem am_o_invokestatic (Cl : Nat → List am_V → am_M → Option am_V → am_M → Prop) (nx a b : Nat) (v : Int32) (ts : List (Int32 × Nat)) (L : am_L) (st : List am_V) (me : am_M) (Q : Option am_V → am_M → Prop) : am_one (fun N => am_s_invokestatic Cl nx a b v ts L st me N Q) := by
  unfold am_s_invokestatic
  generalize Nat.beq a 1000 = t
  cases t
  · dsimp only
    generalize am_pop st b [] = w
    rcases w with _ | ⟨as, st'⟩
    · exact am_one_c _
    dsimp only
    generalize (Nat.ble st'.length 4 && Nat.ble (am_wds as) (am_mlx a)) = t
    cases t
    · exact am_one_c _
    rcases ts with _ | ⟨q, ts⟩
    · exact am_one_ex fun _ => am_one_and (am_one_n _ _ _ _)
    · exact am_one_ex fun _ => am_one_ex fun _ => am_one_and (am_one_n _ _ _ _)
  · rcases st with _ | ⟨n | n, _ | ⟨dp | dp, _ | ⟨x | x | ⟨r2, b2, i2⟩, _ | ⟨sp | sp, _ | ⟨x | x | ⟨r1, b1, i1⟩, st⟩⟩⟩⟩⟩ <;> try exact am_one_c _
    dsimp only
    generalize ((Nat.ble 27 r1 && Nat.ble r1 33) && (Nat.ble 27 r2 && Nat.ble r2 33) && Nat.ble st.length 4) = t
    cases t
    · exact am_one_c _
    · exact am_one_and (am_one_and (am_one_and (am_one_and (am_one_and (am_one_n _ _ _ _)))))
theorem am_o_invokevirtual (Cl : Nat → List am_V → am_M → Option am_V → am_M → Prop) (nx a b : Nat) (v : Int32) (ts : List (Int32 × Nat)) (L : am_L) (st : List am_V) (me : am_M) (Q : Option am_V → am_M → Prop) : am_one (fun N => am_s_invokevirtual Cl nx a b v ts L st me N Q) := by
  unfold am_s_invokevirtual
  generalize am_pop st b [] = w
  rcases w with _ | ⟨_ | ⟨x | x | ⟨r, q⟩, as⟩, st'⟩ <;> try exact am_one_c _
  dsimp only
  generalize (Nat.beq r (am_rcv a) && (Nat.ble st'.length 4 && Nat.ble (am_wds (.inr (.inr (r, q)) :: as)) (am_mlx a))) = t
  cases t
  · exact am_one_c _
  rcases ts with _ | ⟨q, ts⟩
  · exact am_one_ex fun _ => am_one_and (am_one_n _ _ _ _)
  · exact am_one_ex fun _ => am_one_ex fun _ => am_one_and (am_one_n _ _ _ _)
theorem am_o_invokespecial (Cl : Nat → List am_V → am_M → Option am_V → am_M → Prop) (nx a b : Nat) (v : Int32) (ts : List (Int32 × Nat)) (L : am_L) (st : List am_V) (me : am_M) (Q : Option am_V → am_M → Prop) : am_one (fun N => am_s_invokespecial Cl nx a b v ts L st me N Q) := by
  unfold am_s_invokespecial
  generalize Nat.beq a 2000 = t
  cases t
  · dsimp only
    generalize am_pop st b [] = w
    rcases w with _ | ⟨_ | ⟨x | x | ⟨r, q⟩, as⟩, st'⟩ <;> try exact am_one_c _
    dsimp only
    generalize (Nat.ble 16 r && (Nat.ble st'.length 4 && Nat.ble (am_wds (.inr (.inr (r, q)) :: as)) (am_mlx a))) = t
    cases t
    · exact am_one_c _
    · exact am_one_ex fun _ => am_one_and (am_one_n _ _ _ _)
  · rcases st with _ | ⟨x | x | ⟨r, q⟩, st⟩ <;> try exact am_one_c _
    dsimp only
    generalize (Nat.ble 16 r && Nat.ble st.length 4) = t
    cases t
    · exact am_one_c _
    · exact am_one_n _ _ _ _
theorem am_o_ireturn (Cl : Nat → List am_V → am_M → Option am_V → am_M → Prop) (nx a b : Nat) (v : Int32) (ts : List (Int32 × Nat)) (L : am_L) (st : List am_V) (me : am_M) (Q : Option am_V → am_M → Prop) : am_one (fun N => am_s_ireturn Cl nx a b v ts L st me N Q) := by
  exact am_one_c _
theorem am_o_areturn (Cl : Nat → List am_V → am_M → Option am_V → am_M → Prop) (nx a b : Nat) (v : Int32) (ts : List (Int32 × Nat)) (L : am_L) (st : List am_V) (me : am_M) (Q : Option am_V → am_M → Prop) : am_one (fun N => am_s_areturn Cl nx a b v ts L st me N Q) := by
  exact am_one_c _
theorem am_o_return_ (Cl : Nat → List am_V → am_M → Option am_V → am_M → Prop) (nx a b : Nat) (v : Int32) (ts : List (Int32 × Nat)) (L : am_L) (st : List am_V) (me : am_M) (Q : Option am_V → am_M → Prop) : am_one (fun N => am_s_return_ Cl nx a b v ts L st me N Q) := by
  exact am_one_c _
theorem am_step_one (Cl : Nat → List am_V → am_M → Option am_V → am_M → Prop) (o : am_O) (L : am_L) (st : List am_V) (me : am_M) (Q : Option am_V → am_M → Prop) : am_one (fun N => am_step Cl o L st me N Q) := by
  obtain ⟨pc, ln, ins, nx, a, b, v, ts, w⟩ := o
  cases ins <;> first
    | exact am_o_iconst Cl nx a b v ts L st me Q
    | exact am_o_bipush Cl nx a b v ts L st me Q
    | exact am_o_sipush Cl nx a b v ts L st me Q
    | exact am_o_ldc Cl nx a b v ts L st me Q
    | exact am_o_ldc_w Cl nx a b v ts L st me Q
    | exact am_o_ldc2_w Cl nx a b v ts L st me Q
    | exact am_o_iload_n Cl nx a b v ts L st me Q
    | exact am_o_iload Cl nx a b v ts L st me Q
    | exact am_o_lload_n Cl nx a b v ts L st me Q
    | exact am_o_aload_n Cl nx a b v ts L st me Q
    | exact am_o_aload Cl nx a b v ts L st me Q
    | exact am_o_istore_n Cl nx a b v ts L st me Q
    | exact am_o_istore Cl nx a b v ts L st me Q
    | exact am_o_astore_n Cl nx a b v ts L st me Q
    | exact am_o_astore Cl nx a b v ts L st me Q
    | exact am_o_iinc Cl nx a b v ts L st me Q
    | exact am_o_iadd Cl nx a b v ts L st me Q
    | exact am_o_isub Cl nx a b v ts L st me Q
    | exact am_o_imul Cl nx a b v ts L st me Q
    | exact am_o_idiv Cl nx a b v ts L st me Q
    | exact am_o_irem Cl nx a b v ts L st me Q
    | exact am_o_ineg Cl nx a b v ts L st me Q
    | exact am_o_iand Cl nx a b v ts L st me Q
    | exact am_o_ior Cl nx a b v ts L st me Q
    | exact am_o_ixor Cl nx a b v ts L st me Q
    | exact am_o_ishl Cl nx a b v ts L st me Q
    | exact am_o_ishr Cl nx a b v ts L st me Q
    | exact am_o_iushr Cl nx a b v ts L st me Q
    | exact am_o_i2l Cl nx a b v ts L st me Q
    | exact am_o_l2i Cl nx a b v ts L st me Q
    | exact am_o_i2b Cl nx a b v ts L st me Q
    | exact am_o_i2s Cl nx a b v ts L st me Q
    | exact am_o_i2c Cl nx a b v ts L st me Q
    | exact am_o_ladd Cl nx a b v ts L st me Q
    | exact am_o_land Cl nx a b v ts L st me Q
    | exact am_o_lor Cl nx a b v ts L st me Q
    | exact am_o_lshl Cl nx a b v ts L st me Q
    | exact am_o_lshr Cl nx a b v ts L st me Q
    | exact am_o_lushr Cl nx a b v ts L st me Q
    | exact am_o_lcmp Cl nx a b v ts L st me Q
    | exact am_o_dup Cl nx a b v ts L st me Q
    | exact am_o_dup2 Cl nx a b v ts L st me Q
    | exact am_o_pop Cl nx a b v ts L st me Q
    | exact am_o_ifCond Cl nx a b v ts L st me Q _
    | exact am_o_if_icmp Cl nx a b v ts L st me Q _
    | exact am_o_goto Cl nx a b v ts L st me Q
    | exact am_o_tableswitch Cl nx a b v ts L st me Q
    | exact am_o_lookupswitch Cl nx a b v ts L st me Q
    | exact am_o_getfield Cl nx a b v ts L st me Q
    | exact am_o_putfield Cl nx a b v ts L st me Q
    | exact am_o_getstatic Cl nx a b v ts L st me Q
    | exact am_o_iaload Cl nx a b v ts L st me Q
    | exact am_o_baload Cl nx a b v ts L st me Q
    | exact am_o_iastore Cl nx a b v ts L st me Q
    | exact am_o_arraylength Cl nx a b v ts L st me Q
    | exact am_o_aaload Cl nx a b v ts L st me Q
    | exact am_o_aastore Cl nx a b v ts L st me Q
    | exact am_o_new Cl nx a b v ts L st me Q
    | exact am_o_newarray Cl nx a b v ts L st me Q
    | exact am_o_anewarray Cl nx a b v ts L st me Q
    | exact am_o_invokestatic Cl nx a b v ts L st me Q
    | exact am_o_invokevirtual Cl nx a b v ts L st me Q
    | exact am_o_invokespecial Cl nx a b v ts L st me Q
    | exact am_o_ireturn Cl nx a b v ts L st me Q
    | exact am_o_areturn Cl nx a b v ts L st me Q
    | exact am_o_return_ Cl nx a b v ts L st me Q
    | exact am_one_c False
theorem am_step_mono {Cl : Nat → List am_V → am_M → Option am_V → am_M → Prop} {o : am_O} {L : am_L} {st : List am_V} {me : am_M} {N N' : am_N} {Q : Option am_V → am_M → Prop} (h : am_step Cl o L st me N Q) (k : ∀ ip L st me, N ip L st me → N' ip L st me) : am_step Cl o L st me N' Q := by
  rcases am_step_one Cl o L st me Q N h with ⟨ip, L', st', me', h1, h2⟩ | h1
  · exact h2 N' (k _ _ _ _ h1)
  · exact h1 N'
/-- from one instruction to the next -/
theorem am_wp_step {Cl : Nat → List am_V → am_M → Option am_V → am_M → Prop} {cd : am_C} {Q : Option am_V → am_M → Prop} {ip : Nat} {L : am_L} {st : List am_V} {me : am_M} (o : am_O) (h : am_at cd ip = some o) (k : am_step Cl o L st me (am_wp Cl cd Q) Q) : am_wp Cl cd Q ip L st me := by
  rcases am_step_one Cl o L st me Q _ k with ⟨ip', L', st', me', ⟨f, h1⟩, h2⟩ | h1
  · refine ⟨f + 1, ?_⟩
    show (match am_at cd ip with | none => False | some o => am_step Cl o L st me (am_run Cl cd Q f) Q)
    rw [h]
    exact h2 _ h1
  · refine ⟨1, ?_⟩
    show (match am_at cd ip with | none => False | some o => am_step Cl o L st me (am_run Cl cd Q 0) Q)
    rw [h]
    exact h1 _
/-- the methods: a call of depth d -/
def am_cl (cds : Nat → am_C) : Nat → Nat → List am_V → am_M → Option am_V → am_M → Prop
  | 0, _, _, _, _, _ => False
  | d + 1, y, as, me, v, me' => am_wp (am_cl cds d) (cds y) (fun w m => w = v ∧ m = me') 0 (am_args 0 as) [] me
