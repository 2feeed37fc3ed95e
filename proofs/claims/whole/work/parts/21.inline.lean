/-! CONTRACTS OVER THE ABSTRACT MACHINE -/
abbrev am_S (M : am_F) : am_M := (128, am_all, M)
theorem am_cl_in {d y : Nat} {as : List am_V} {me me' : am_M} {v : Option am_V} (cd : am_C) (hcd : am_cds y = cd) (h : am_wp (am_cl am_cds d) cd (fun w m => w = v ∧ m = me') 0 (am_args 0 as) [] me) : am_cl am_cds (d + 1) y as me v me' := by
  subst hcd
  exact h
theorem am_iteT {c : Prop} [Decidable c] {A B : Prop} (h : c) (a : A) : (if c then A else B) := by rw [if_pos h]; exact a
theorem am_iteF {c : Prop} [Decidable c] {A B : Prop} (h : ¬ c) (b : B) : (if c then A else B) := by rw [if_neg h]; exact b
def bI (c : Prop) [Decidable c] : Int32 := if c then 1 else 0
theorem bI_t {c : Prop} [Decidable c] (h : c) : bI c = 1 := if_pos h
theorem bI_f {c : Prop} [Decidable c] (h : ¬ c) : bI c = 0 := if_neg h
theorem bI_01 {c : Prop} [Decidable c] : bI c = 0 ∨ bI c = 1 := by
  by_cases h : c
  · exact Or.inr (bI_t h)
  · exact Or.inl (bI_f h)
theorem bI_0 {c : Prop} [Decidable c] : bI c = 0 ↔ ¬ c := by
  by_cases h : c
  · rw [bI_t h]; exact ⟨fun q => absurd q (by decide), fun q => absurd h q⟩
  · rw [bI_f h]; exact ⟨fun _ => h, fun _ => rfl⟩
abbrev am_Qt : Type := Option am_V → am_M → Prop
def am_tq (me0 : am_M) (F : am_N → am_Qt → Prop) : Prop := ∀ N Q, F N Q → (∃ ip L st me, N ip L st me ∧ ∀ (N' : am_N) (Q' : am_Qt), N' ip L st me → F N' Q') ∨ ∃ v, Q v me0 ∧ ∀ (N' : am_N) (Q' : am_Qt), Q' v me0 → F N' Q'
theorem am_tq_n {me0 : am_M} (ip : Nat) (L : am_L) (st : List am_V) (me : am_M) : am_tq me0 (fun N _ => N ip L st me) := fun _ _ h => Or.inl ⟨ip, L, st, me, h, fun _ _ h => h⟩
theorem am_tq_f {me0 : am_M} : am_tq me0 (fun _ _ => False) := fun _ _ h => h.elim
theorem am_tq_r {me0 : am_M} {A : Prop} {v : Option am_V} : am_tq me0 (fun _ Q => A ∧ Q v me0) := fun _ _ h => Or.inr ⟨v, h.2, fun _ _ q => ⟨h.1, q⟩⟩
theorem am_tq_r0 {me0 : am_M} {v : Option am_V} : am_tq me0 (fun _ Q => Q v me0) := fun _ _ h => Or.inr ⟨v, h, fun _ _ q => q⟩
theorem am_tq_and {me0 : am_M} {A : Prop} {F : am_N → am_Qt → Prop} (h : am_tq me0 F) : am_tq me0 (fun N Q => A ∧ F N Q) := fun N Q q => by
  rcases h N Q q.2 with ⟨ip, L, st, me, h1, h2⟩ | ⟨v, h1, h2⟩
  · exact Or.inl ⟨ip, L, st, me, h1, fun N' Q' z => ⟨q.1, h2 N' Q' z⟩⟩
  · exact Or.inr ⟨v, h1, fun N' Q' z => ⟨q.1, h2 N' Q' z⟩⟩
theorem am_tq_ite {me0 : am_M} {c : Prop} [Decidable c] {F G : am_N → am_Qt → Prop} (h1 : am_tq me0 F) (h2 : am_tq me0 G) : am_tq me0 (fun N Q => if c then F N Q else G N Q) := by
  by_cases h : c
  · simp only [if_pos h]; exact h1
  · simp only [if_neg h]; exact h2
theorem am_tq_ex {me0 : am_M} {α : Type} {F : α → am_N → am_Qt → Prop} (h : ∀ x, am_tq me0 (F x)) : am_tq me0 (fun N Q => ∃ x, F x N Q) := fun N Q ⟨x, q⟩ => by
  rcases h x N Q q with ⟨ip, L, st, me, h1, h2⟩ | ⟨v, h1, h2⟩
  · exact Or.inl ⟨ip, L, st, me, h1, fun N' Q' z => ⟨x, h2 N' Q' z⟩⟩
  · exact Or.inr ⟨v, h1, fun N' Q' z => ⟨x, h2 N' Q' z⟩⟩
theorem am_tq_sw {me0 : am_M} (x : Int32) (L : am_L) (st : List am_V) (me : am_M) (d : Nat) (ts : List (Int32 × Nat)) : am_tq me0 (fun N _ => am_sw x (fun t => N t L st me) d ts) := by
  induction ts with
  | nil => exact am_tq_n d L st me
  | cons q r ih => exact am_tq_ite (am_tq_n q.2 L st me) ih
theorem am_q_iconst (Cl : Nat → List am_V → am_M → Option am_V → am_M → Prop) (nx a b : Nat) (v : Int32) (ts : List (Int32 × Nat)) (L : am_L) (st : List am_V) (me : am_M) : am_tq me (fun N Q => am_s_iconst Cl nx a b v ts L st me N Q) := by
  exact am_tq_n _ _ _ _
theorem am_q_bipush (Cl : Nat → List am_V → am_M → Option am_V → am_M → Prop) (nx a b : Nat) (v : Int32) (ts : List (Int32 × Nat)) (L : am_L) (st : List am_V) (me : am_M) : am_tq me (fun N Q => am_s_bipush Cl nx a b v ts L st me N Q) := by
  exact am_tq_n _ _ _ _
theorem am_q_sipush (Cl : Nat → List am_V → am_M → Option am_V → am_M → Prop) (nx a b : Nat) (v : Int32) (ts : List (Int32 × Nat)) (L : am_L) (st : List am_V) (me : am_M) : am_tq me (fun N Q => am_s_sipush Cl nx a b v ts L st me N Q) := by
  exact am_tq_n _ _ _ _
theorem am_q_ldc (Cl : Nat → List am_V → am_M → Option am_V → am_M → Prop) (nx a b : Nat) (v : Int32) (ts : List (Int32 × Nat)) (L : am_L) (st : List am_V) (me : am_M) : am_tq me (fun N Q => am_s_ldc Cl nx a b v ts L st me N Q) := by
  rcases ts with _ | ⟨t, ts⟩ <;> exact am_tq_n _ _ _ _
theorem am_q_ldc_w (Cl : Nat → List am_V → am_M → Option am_V → am_M → Prop) (nx a b : Nat) (v : Int32) (ts : List (Int32 × Nat)) (L : am_L) (st : List am_V) (me : am_M) : am_tq me (fun N Q => am_s_ldc_w Cl nx a b v ts L st me N Q) := by
  exact am_tq_n _ _ _ _
theorem am_q_ldc2_w (Cl : Nat → List am_V → am_M → Option am_V → am_M → Prop) (nx a b : Nat) (v : Int32) (ts : List (Int32 × Nat)) (L : am_L) (st : List am_V) (me : am_M) : am_tq me (fun N Q => am_s_ldc2_w Cl nx a b v ts L st me N Q) := by
  exact am_tq_n _ _ _ _
theorem am_q_iload_n (Cl : Nat → List am_V → am_M → Option am_V → am_M → Prop) (nx a b : Nat) (v : Int32) (ts : List (Int32 × Nat)) (L : am_L) (st : List am_V) (me : am_M) : am_tq me (fun N Q => am_s_iload_n Cl nx a b v ts L st me N Q) := by
  unfold am_s_iload_n; generalize am_get L a = w; rcases w with _ | x | x | q <;> first | exact am_tq_f | exact am_tq_n _ _ _ _
theorem am_q_iload (Cl : Nat → List am_V → am_M → Option am_V → am_M → Prop) (nx a b : Nat) (v : Int32) (ts : List (Int32 × Nat)) (L : am_L) (st : List am_V) (me : am_M) : am_tq me (fun N Q => am_s_iload Cl nx a b v ts L st me N Q) := by
  unfold am_s_iload; generalize am_get L a = w; rcases w with _ | x | x | q <;> first | exact am_tq_f | exact am_tq_n _ _ _ _
theorem am_q_lload_n (Cl : Nat → List am_V → am_M → Option am_V → am_M → Prop) (nx a b : Nat) (v : Int32) (ts : List (Int32 × Nat)) (L : am_L) (st : List am_V) (me : am_M) : am_tq me (fun N Q => am_s_lload_n Cl nx a b v ts L st me N Q) := by
  unfold am_s_lload_n; generalize am_get L a = w; rcases w with _ | x | x | q <;> first | exact am_tq_f | exact am_tq_n _ _ _ _
theorem am_q_aload_n (Cl : Nat → List am_V → am_M → Option am_V → am_M → Prop) (nx a b : Nat) (v : Int32) (ts : List (Int32 × Nat)) (L : am_L) (st : List am_V) (me : am_M) : am_tq me (fun N Q => am_s_aload_n Cl nx a b v ts L st me N Q) := by
  unfold am_s_aload_n; generalize am_get L a = w; rcases w with _ | x | x | ⟨r, q⟩ <;> first | exact am_tq_f | (dsimp only; generalize Nat.beq r 5 = t; cases t <;> first | exact am_tq_f | exact am_tq_n _ _ _ _)
theorem am_q_aload (Cl : Nat → List am_V → am_M → Option am_V → am_M → Prop) (nx a b : Nat) (v : Int32) (ts : List (Int32 × Nat)) (L : am_L) (st : List am_V) (me : am_M) : am_tq me (fun N Q => am_s_aload Cl nx a b v ts L st me N Q) := by
  unfold am_s_aload; generalize am_get L a = w; rcases w with _ | x | x | ⟨r, q⟩ <;> first | exact am_tq_f | (dsimp only; generalize Nat.beq r 5 = t; cases t <;> first | exact am_tq_f | exact am_tq_n _ _ _ _)
theorem am_q_istore_n (Cl : Nat → List am_V → am_M → Option am_V → am_M → Prop) (nx a b : Nat) (v : Int32) (ts : List (Int32 × Nat)) (L : am_L) (st : List am_V) (me : am_M) : am_tq me (fun N Q => am_s_istore_n Cl nx a b v ts L st me N Q) := by
  unfold am_s_istore_n; rcases st with _ | ⟨x | x | q, st⟩ <;> first | exact am_tq_f | (dsimp only; generalize am_set L a _ = w; cases w <;> first | exact am_tq_f | exact am_tq_n _ _ _ _)
theorem am_q_istore (Cl : Nat → List am_V → am_M → Option am_V → am_M → Prop) (nx a b : Nat) (v : Int32) (ts : List (Int32 × Nat)) (L : am_L) (st : List am_V) (me : am_M) : am_tq me (fun N Q => am_s_istore Cl nx a b v ts L st me N Q) := by
  unfold am_s_istore; rcases st with _ | ⟨x | x | q, st⟩ <;> first | exact am_tq_f | (dsimp only; generalize am_set L a _ = w; cases w <;> first | exact am_tq_f | exact am_tq_n _ _ _ _)
theorem am_q_astore_n (Cl : Nat → List am_V → am_M → Option am_V → am_M → Prop) (nx a b : Nat) (v : Int32) (ts : List (Int32 × Nat)) (L : am_L) (st : List am_V) (me : am_M) : am_tq me (fun N Q => am_s_astore_n Cl nx a b v ts L st me N Q) := by
  unfold am_s_astore_n; rcases st with _ | ⟨x | x | ⟨r, q⟩, st⟩ <;> first | exact am_tq_f | (dsimp only; generalize am_set L a _ = w; generalize Nat.beq r 5 = t; cases t <;> cases w <;> first | exact am_tq_f | exact am_tq_n _ _ _ _)
theorem am_q_astore (Cl : Nat → List am_V → am_M → Option am_V → am_M → Prop) (nx a b : Nat) (v : Int32) (ts : List (Int32 × Nat)) (L : am_L) (st : List am_V) (me : am_M) : am_tq me (fun N Q => am_s_astore Cl nx a b v ts L st me N Q) := by
  unfold am_s_astore; rcases st with _ | ⟨x | x | ⟨r, q⟩, st⟩ <;> first | exact am_tq_f | (dsimp only; generalize am_set L a _ = w; generalize Nat.beq r 5 = t; cases t <;> cases w <;> first | exact am_tq_f | exact am_tq_n _ _ _ _)
theorem am_q_iinc (Cl : Nat → List am_V → am_M → Option am_V → am_M → Prop) (nx a b : Nat) (v : Int32) (ts : List (Int32 × Nat)) (L : am_L) (st : List am_V) (me : am_M) : am_tq me (fun N Q => am_s_iinc Cl nx a b v ts L st me N Q) := by
  unfold am_s_iinc; generalize am_get L a = w; rcases w with _ | x | x | q <;> first | exact am_tq_f | (dsimp only; generalize am_set L a _ = w; cases w <;> first | exact am_tq_f | exact am_tq_n _ _ _ _)
theorem am_q_iadd (Cl : Nat → List am_V → am_M → Option am_V → am_M → Prop) (nx a b : Nat) (v : Int32) (ts : List (Int32 × Nat)) (L : am_L) (st : List am_V) (me : am_M) : am_tq me (fun N Q => am_s_iadd Cl nx a b v ts L st me N Q) := by
  rcases st with _ | ⟨y | y, _ | ⟨x | x, st⟩⟩ <;> first | exact am_tq_f | exact am_tq_n _ _ _ _
theorem am_q_isub (Cl : Nat → List am_V → am_M → Option am_V → am_M → Prop) (nx a b : Nat) (v : Int32) (ts : List (Int32 × Nat)) (L : am_L) (st : List am_V) (me : am_M) : am_tq me (fun N Q => am_s_isub Cl nx a b v ts L st me N Q) := by
  rcases st with _ | ⟨y | y, _ | ⟨x | x, st⟩⟩ <;> first | exact am_tq_f | exact am_tq_n _ _ _ _
theorem am_q_imul (Cl : Nat → List am_V → am_M → Option am_V → am_M → Prop) (nx a b : Nat) (v : Int32) (ts : List (Int32 × Nat)) (L : am_L) (st : List am_V) (me : am_M) : am_tq me (fun N Q => am_s_imul Cl nx a b v ts L st me N Q) := by
  rcases st with _ | ⟨y | y, _ | ⟨x | x, st⟩⟩ <;> first | exact am_tq_f | exact am_tq_n _ _ _ _
theorem am_q_idiv (Cl : Nat → List am_V → am_M → Option am_V → am_M → Prop) (nx a b : Nat) (v : Int32) (ts : List (Int32 × Nat)) (L : am_L) (st : List am_V) (me : am_M) : am_tq me (fun N Q => am_s_idiv Cl nx a b v ts L st me N Q) := by
  rcases st with _ | ⟨y | y, _ | ⟨x | x, st⟩⟩ <;> first | exact am_tq_f | exact am_tq_and (am_tq_n _ _ _ _)
theorem am_q_irem (Cl : Nat → List am_V → am_M → Option am_V → am_M → Prop) (nx a b : Nat) (v : Int32) (ts : List (Int32 × Nat)) (L : am_L) (st : List am_V) (me : am_M) : am_tq me (fun N Q => am_s_irem Cl nx a b v ts L st me N Q) := by
  rcases st with _ | ⟨y | y, _ | ⟨x | x, st⟩⟩ <;> first | exact am_tq_f | exact am_tq_and (am_tq_n _ _ _ _)
theorem am_q_ineg (Cl : Nat → List am_V → am_M → Option am_V → am_M → Prop) (nx a b : Nat) (v : Int32) (ts : List (Int32 × Nat)) (L : am_L) (st : List am_V) (me : am_M) : am_tq me (fun N Q => am_s_ineg Cl nx a b v ts L st me N Q) := by
  rcases st with _ | ⟨x | x | x, st⟩ <;> first | exact am_tq_f | exact am_tq_n _ _ _ _
theorem am_q_iand (Cl : Nat → List am_V → am_M → Option am_V → am_M → Prop) (nx a b : Nat) (v : Int32) (ts : List (Int32 × Nat)) (L : am_L) (st : List am_V) (me : am_M) : am_tq me (fun N Q => am_s_iand Cl nx a b v ts L st me N Q) := by
  rcases st with _ | ⟨y | y, _ | ⟨x | x, st⟩⟩ <;> first | exact am_tq_f | exact am_tq_n _ _ _ _
theorem am_q_ior (Cl : Nat → List am_V → am_M → Option am_V → am_M → Prop) (nx a b : Nat) (v : Int32) (ts : List (Int32 × Nat)) (L : am_L) (st : List am_V) (me : am_M) : am_tq me (fun N Q => am_s_ior Cl nx a b v ts L st me N Q) := by
  rcases st with _ | ⟨y | y, _ | ⟨x | x, st⟩⟩ <;> first | exact am_tq_f | exact am_tq_n _ _ _ _
theorem am_q_ixor (Cl : Nat → List am_V → am_M → Option am_V → am_M → Prop) (nx a b : Nat) (v : Int32) (ts : List (Int32 × Nat)) (L : am_L) (st : List am_V) (me : am_M) : am_tq me (fun N Q => am_s_ixor Cl nx a b v ts L st me N Q) := by
  rcases st with _ | ⟨y | y, _ | ⟨x | x, st⟩⟩ <;> first | exact am_tq_f | exact am_tq_n _ _ _ _
theorem am_q_ishl (Cl : Nat → List am_V → am_M → Option am_V → am_M → Prop) (nx a b : Nat) (v : Int32) (ts : List (Int32 × Nat)) (L : am_L) (st : List am_V) (me : am_M) : am_tq me (fun N Q => am_s_ishl Cl nx a b v ts L st me N Q) := by
  rcases st with _ | ⟨y | y, _ | ⟨x | x, st⟩⟩ <;> first | exact am_tq_f | exact am_tq_n _ _ _ _
theorem am_q_ishr (Cl : Nat → List am_V → am_M → Option am_V → am_M → Prop) (nx a b : Nat) (v : Int32) (ts : List (Int32 × Nat)) (L : am_L) (st : List am_V) (me : am_M) : am_tq me (fun N Q => am_s_ishr Cl nx a b v ts L st me N Q) := by
  rcases st with _ | ⟨y | y, _ | ⟨x | x, st⟩⟩ <;> first | exact am_tq_f | exact am_tq_n _ _ _ _
theorem am_q_iushr (Cl : Nat → List am_V → am_M → Option am_V → am_M → Prop) (nx a b : Nat) (v : Int32) (ts : List (Int32 × Nat)) (L : am_L) (st : List am_V) (me : am_M) : am_tq me (fun N Q => am_s_iushr Cl nx a b v ts L st me N Q) := by
  rcases st with _ | ⟨y | y, _ | ⟨x | x, st⟩⟩ <;> first | exact am_tq_f | exact am_tq_n _ _ _ _
theorem am_q_i2l (Cl : Nat → List am_V → am_M → Option am_V → am_M → Prop) (nx a b : Nat) (v : Int32) (ts : List (Int32 × Nat)) (L : am_L) (st : List am_V) (me : am_M) : am_tq me (fun N Q => am_s_i2l Cl nx a b v ts L st me N Q) := by
  rcases st with _ | ⟨x | x | x, st⟩ <;> first | exact am_tq_f | exact am_tq_n _ _ _ _
theorem am_q_l2i (Cl : Nat → List am_V → am_M → Option am_V → am_M → Prop) (nx a b : Nat) (v : Int32) (ts : List (Int32 × Nat)) (L : am_L) (st : List am_V) (me : am_M) : am_tq me (fun N Q => am_s_l2i Cl nx a b v ts L st me N Q) := by
  rcases st with _ | ⟨x | x | x, st⟩ <;> first | exact am_tq_f | exact am_tq_n _ _ _ _
theorem am_q_i2b (Cl : Nat → List am_V → am_M → Option am_V → am_M → Prop) (nx a b : Nat) (v : Int32) (ts : List (Int32 × Nat)) (L : am_L) (st : List am_V) (me : am_M) : am_tq me (fun N Q => am_s_i2b Cl nx a b v ts L st me N Q) := by
  rcases st with _ | ⟨x | x | x, st⟩ <;> first | exact am_tq_f | exact am_tq_n _ _ _ _
theorem am_q_i2s (Cl : Nat → List am_V → am_M → Option am_V → am_M → Prop) (nx a b : Nat) (v : Int32) (ts : List (Int32 × Nat)) (L : am_L) (st : List am_V) (me : am_M) : am_tq me (fun N Q => am_s_i2s Cl nx a b v ts L st me N Q) := by
  rcases st with _ | ⟨x | x | x, st⟩ <;> first | exact am_tq_f | exact am_tq_n _ _ _ _
theorem am_q_i2c (Cl : Nat → List am_V → am_M → Option am_V → am_M → Prop) (nx a b : Nat) (v : Int32) (ts : List (Int32 × Nat)) (L : am_L) (st : List am_V) (me : am_M) : am_tq me (fun N Q => am_s_i2c Cl nx a b v ts L st me N Q) := by
  rcases st with _ | ⟨x | x | x, st⟩ <;> first | exact am_tq_f | exact am_tq_n _ _ _ _
theorem am_q_ladd (Cl : Nat → List am_V → am_M → Option am_V → am_M → Prop) (nx a b : Nat) (v : Int32) (ts : List (Int32 × Nat)) (L : am_L) (st : List am_V) (me : am_M) : am_tq me (fun N Q => am_s_ladd Cl nx a b v ts L st me N Q) := by
  rcases st with _ | ⟨y | y | y, _ | ⟨x | x | x, st⟩⟩ <;> first | exact am_tq_f | exact am_tq_n _ _ _ _
theorem am_q_land (Cl : Nat → List am_V → am_M → Option am_V → am_M → Prop) (nx a b : Nat) (v : Int32) (ts : List (Int32 × Nat)) (L : am_L) (st : List am_V) (me : am_M) : am_tq me (fun N Q => am_s_land Cl nx a b v ts L st me N Q) := by
  rcases st with _ | ⟨y | y | y, _ | ⟨x | x | x, st⟩⟩ <;> first | exact am_tq_f | exact am_tq_n _ _ _ _
theorem am_q_lor (Cl : Nat → List am_V → am_M → Option am_V → am_M → Prop) (nx a b : Nat) (v : Int32) (ts : List (Int32 × Nat)) (L : am_L) (st : List am_V) (me : am_M) : am_tq me (fun N Q => am_s_lor Cl nx a b v ts L st me N Q) := by
  rcases st with _ | ⟨y | y | y, _ | ⟨x | x | x, st⟩⟩ <;> first | exact am_tq_f | exact am_tq_n _ _ _ _
theorem am_q_lshl (Cl : Nat → List am_V → am_M → Option am_V → am_M → Prop) (nx a b : Nat) (v : Int32) (ts : List (Int32 × Nat)) (L : am_L) (st : List am_V) (me : am_M) : am_tq me (fun N Q => am_s_lshl Cl nx a b v ts L st me N Q) := by
  rcases st with _ | ⟨y | y | y, _ | ⟨x | x | x, st⟩⟩ <;> first | exact am_tq_f | exact am_tq_n _ _ _ _
theorem am_q_lshr (Cl : Nat → List am_V → am_M → Option am_V → am_M → Prop) (nx a b : Nat) (v : Int32) (ts : List (Int32 × Nat)) (L : am_L) (st : List am_V) (me : am_M) : am_tq me (fun N Q => am_s_lshr Cl nx a b v ts L st me N Q) := by
  rcases st with _ | ⟨y | y | y, _ | ⟨x | x | x, st⟩⟩ <;> first | exact am_tq_f | exact am_tq_n _ _ _ _
theorem am_q_lushr (Cl : Nat → List am_V → am_M → Option am_V → am_M → Prop) (nx a b : Nat) (v : Int32) (ts : List (Int32 × Nat)) (L : am_L) (st : List am_V) (me : am_M) : am_tq me (fun N Q => am_s_lushr Cl nx a b v ts L st me N Q) := by
  rcases st with _ | ⟨y | y | y, _ | ⟨x | x | x, st⟩⟩ <;> first | exact am_tq_f | exact am_tq_n _ _ _ _
theorem am_q_lcmp (Cl : Nat → List am_V → am_M → Option am_V → am_M → Prop) (nx a b : Nat) (v : Int32) (ts : List (Int32 × Nat)) (L : am_L) (st : List am_V) (me : am_M) : am_tq me (fun N Q => am_s_lcmp Cl nx a b v ts L st me N Q) := by
  rcases st with _ | ⟨y | y | y, _ | ⟨x | x | x, st⟩⟩ <;> first | exact am_tq_f | exact am_tq_n _ _ _ _
theorem am_q_dup (Cl : Nat → List am_V → am_M → Option am_V → am_M → Prop) (nx a b : Nat) (v : Int32) (ts : List (Int32 × Nat)) (L : am_L) (st : List am_V) (me : am_M) : am_tq me (fun N Q => am_s_dup Cl nx a b v ts L st me N Q) := by
  rcases st with _ | ⟨x | x | x, st⟩ <;> first | exact am_tq_f | exact am_tq_n _ _ _ _
theorem am_q_dup2 (Cl : Nat → List am_V → am_M → Option am_V → am_M → Prop) (nx a b : Nat) (v : Int32) (ts : List (Int32 × Nat)) (L : am_L) (st : List am_V) (me : am_M) : am_tq me (fun N Q => am_s_dup2 Cl nx a b v ts L st me N Q) := by
  rcases st with _ | ⟨y | y | y, _ | ⟨x | x | x, st⟩⟩ <;> first | exact am_tq_f | exact am_tq_n _ _ _ _
theorem am_q_pop (Cl : Nat → List am_V → am_M → Option am_V → am_M → Prop) (nx a b : Nat) (v : Int32) (ts : List (Int32 × Nat)) (L : am_L) (st : List am_V) (me : am_M) : am_tq me (fun N Q => am_s_pop Cl nx a b v ts L st me N Q) := by
  rcases st with _ | ⟨x | x | x, st⟩ <;> first | exact am_tq_f | exact am_tq_n _ _ _ _
theorem am_q_ifCond (Cl : Nat → List am_V → am_M → Option am_V → am_M → Prop) (nx a b : Nat) (v : Int32) (ts : List (Int32 × Nat)) (L : am_L) (st : List am_V) (me : am_M) (cn : ClassFile.Cond) : am_tq me (fun N Q => am_s_ifCond Cl nx a b v ts L st me N Q cn) := by
  rcases st with _ | ⟨x | x, st⟩ <;> first | exact am_tq_f | (cases cn <;> exact am_tq_ite (am_tq_n _ _ _ _) (am_tq_n _ _ _ _))
theorem am_q_if_icmp (Cl : Nat → List am_V → am_M → Option am_V → am_M → Prop) (nx a b : Nat) (v : Int32) (ts : List (Int32 × Nat)) (L : am_L) (st : List am_V) (me : am_M) (cn : ClassFile.Cond) : am_tq me (fun N Q => am_s_if_icmp Cl nx a b v ts L st me N Q cn) := by
  rcases st with _ | ⟨y | y, _ | ⟨x | x, st⟩⟩ <;> first | exact am_tq_f | (cases cn <;> exact am_tq_ite (am_tq_n _ _ _ _) (am_tq_n _ _ _ _))
theorem am_q_goto (Cl : Nat → List am_V → am_M → Option am_V → am_M → Prop) (nx a b : Nat) (v : Int32) (ts : List (Int32 × Nat)) (L : am_L) (st : List am_V) (me : am_M) : am_tq me (fun N Q => am_s_goto Cl nx a b v ts L st me N Q) := by
  unfold am_s_goto; rcases ts with _ | ⟨t, ts⟩; exact am_tq_n _ _ _ _; dsimp only; generalize am_keep L _ = w; cases w <;> first | exact am_tq_f | exact am_tq_n _ _ _ _
theorem am_q_tableswitch (Cl : Nat → List am_V → am_M → Option am_V → am_M → Prop) (nx a b : Nat) (v : Int32) (ts : List (Int32 × Nat)) (L : am_L) (st : List am_V) (me : am_M) : am_tq me (fun N Q => am_s_tableswitch Cl nx a b v ts L st me N Q) := by
  rcases st with _ | ⟨x | x, st⟩ <;> first | exact am_tq_f | exact am_tq_sw _ _ _ _ _ _
theorem am_q_lookupswitch (Cl : Nat → List am_V → am_M → Option am_V → am_M → Prop) (nx a b : Nat) (v : Int32) (ts : List (Int32 × Nat)) (L : am_L) (st : List am_V) (me : am_M) : am_tq me (fun N Q => am_s_lookupswitch Cl nx a b v ts L st me N Q) := by
  rcases st with _ | ⟨x | x, st⟩ <;> first | exact am_tq_f | exact am_tq_sw _ _ _ _ _ _
theorem am_q_getfield (Cl : Nat → List am_V → am_M → Option am_V → am_M → Prop) (nx a b : Nat) (v : Int32) (ts : List (Int32 × Nat)) (L : am_L) (st : List am_V) (me : am_M) : am_tq me (fun N Q => am_s_getfield Cl nx a b v ts L st me N Q) := by
  unfold am_s_getfield
  rcases st with _ | ⟨x | x | ⟨r, bb, i⟩, st⟩ <;> try exact am_tq_f
  dsimp only
  generalize Nat.beq r b = t
  cases t
  · exact am_tq_f
  dsimp only
  by_cases h3 : b = 3
  · subst h3
    rcases a with _ | a <;> exact am_tq_n _ _ _ _
  have key : am_tq me (fun N _ => match am_fk (b - 16) a with
            | (2, f) => match me.2.1 r bb i a with
              | true => match f bb i with
                | (r', b', i') => N nx L (.inr (.inr (r', b', i')) :: st) me
              | false => False
            | _ => N nx L (.inl (me.2.2 r bb i a) :: st) me) := by
    generalize am_fk (b - 16) a = w
    obtain ⟨k, f⟩ := w
    rcases k with _ | _ | _ | k
    · exact am_tq_n _ _ _ _
    · exact am_tq_n _ _ _ _
    · dsimp only
      generalize me.2.1 r bb i a = z
      cases z
      · exact am_tq_f
      · exact am_tq_n _ _ _ _
    · exact am_tq_n _ _ _ _
  simp only [h3]
  exact key
theorem am_q_putfield (Cl : Nat → List am_V → am_M → Option am_V → am_M → Prop) (nx a b : Nat) (v : Int32) (ts : List (Int32 × Nat)) (L : am_L) (st : List am_V) (me : am_M) : am_tq me (fun N Q => am_s_putfield Cl nx a b v ts L st me N Q) := by
  unfold am_s_putfield
  rcases st with _ | ⟨w, _ | ⟨x | x | ⟨r, bb, i⟩, st⟩⟩ <;> try exact am_tq_f
  dsimp only
  generalize Nat.beq r b = t
  cases t
  · exact am_tq_f
  dsimp only
  generalize am_fk (b - 16) a = z
  obtain ⟨k, f⟩ := z
  rcases w with x | x | q
  · rcases k with _ | _ | _ | k
    · exact am_tq_n _ _ _ _
    · exact am_tq_and (am_tq_n _ _ _ _)
    · exact am_tq_f
    · exact am_tq_f
  · rcases k with _ | _ | _ | k <;> exact am_tq_f
  · rcases k with _ | _ | _ | k
    · exact am_tq_f
    · exact am_tq_f
    · exact am_tq_and (am_tq_n _ _ _ _)
    · exact am_tq_f
theorem am_q_getstatic (Cl : Nat → List am_V → am_M → Option am_V → am_M → Prop) (nx a b : Nat) (v : Int32) (ts : List (Int32 × Nat)) (L : am_L) (st : List am_V) (me : am_M) : am_tq me (fun N Q => am_s_getstatic Cl nx a b v ts L st me N Q) := by
  rcases b with _ | b <;> exact am_tq_n _ _ _ _
theorem am_q_iaload (Cl : Nat → List am_V → am_M → Option am_V → am_M → Prop) (nx a b : Nat) (v : Int32) (ts : List (Int32 × Nat)) (L : am_L) (st : List am_V) (me : am_M) : am_tq me (fun N Q => am_s_iaload Cl nx a b v ts L st me N Q) := by
  unfold am_s_iaload
  rcases st with _ | ⟨j | j, _ | ⟨x | x | ⟨r, bb, i⟩, st⟩⟩ <;> try exact am_tq_f
  dsimp only
  generalize am_rd me.2.2 r bb i = w
  rcases w with _ | ⟨n, f⟩
  · exact am_tq_f
  · exact am_tq_and (am_tq_n _ _ _ _)
theorem am_q_baload (Cl : Nat → List am_V → am_M → Option am_V → am_M → Prop) (nx a b : Nat) (v : Int32) (ts : List (Int32 × Nat)) (L : am_L) (st : List am_V) (me : am_M) : am_tq me (fun N Q => am_s_baload Cl nx a b v ts L st me N Q) := by
  unfold am_s_baload
  rcases st with _ | ⟨j | j, _ | ⟨x | x | ⟨r, bb, i⟩, st⟩⟩ <;> try exact am_tq_f
  dsimp only
  generalize Nat.beq r 4 = t
  cases t
  · exact am_tq_f
  · exact am_tq_and (am_tq_n _ _ _ _)
theorem am_q_iastore (Cl : Nat → List am_V → am_M → Option am_V → am_M → Prop) (nx a b : Nat) (v : Int32) (ts : List (Int32 × Nat)) (L : am_L) (st : List am_V) (me : am_M) : am_tq me (fun N Q => am_s_iastore Cl nx a b v ts L st me N Q) := by
  unfold am_s_iastore
  rcases st with _ | ⟨z | z, _ | ⟨j | j, _ | ⟨x | x | ⟨r, bb, i⟩, st⟩⟩⟩ <;> try exact am_tq_f
  dsimp only
  generalize (Nat.ble 27 r && Nat.ble r 33) = t
  cases t
  · exact am_tq_f
  · exact am_tq_and (am_tq_n _ _ _ _)
theorem am_q_arraylength (Cl : Nat → List am_V → am_M → Option am_V → am_M → Prop) (nx a b : Nat) (v : Int32) (ts : List (Int32 × Nat)) (L : am_L) (st : List am_V) (me : am_M) : am_tq me (fun N Q => am_s_arraylength Cl nx a b v ts L st me N Q) := by
  unfold am_s_arraylength
  rcases st with _ | ⟨x | x | ⟨r, bb, i⟩, st⟩ <;> try exact am_tq_f
  dsimp only
  generalize am_len me.2.2 r bb i = w
  cases w <;> first | exact am_tq_f | exact am_tq_n _ _ _ _
theorem am_q_aaload (Cl : Nat → List am_V → am_M → Option am_V → am_M → Prop) (nx a b : Nat) (v : Int32) (ts : List (Int32 × Nat)) (L : am_L) (st : List am_V) (me : am_M) : am_tq me (fun N Q => am_s_aaload Cl nx a b v ts L st me N Q) := by
  unfold am_s_aaload
  rcases st with _ | ⟨j | j, _ | ⟨x | x | ⟨r, bb, i⟩, st⟩⟩ <;> try exact am_tq_f
  dsimp only
  generalize (Nat.ble 34 r && Nat.ble r 37) = t
  generalize me.2.1 r bb i j.toNatClampNeg = z
  cases t
  · exact am_tq_f
  · refine am_tq_and ?_
    cases z
    · exact am_tq_f
    · exact am_tq_n _ _ _ _
theorem am_q_aastore (Cl : Nat → List am_V → am_M → Option am_V → am_M → Prop) (nx a b : Nat) (v : Int32) (ts : List (Int32 × Nat)) (L : am_L) (st : List am_V) (me : am_M) : am_tq me (fun N Q => am_s_aastore Cl nx a b v ts L st me N Q) := by
  unfold am_s_aastore
  rcases st with _ | ⟨z | z | z, _ | ⟨j | j, _ | ⟨x | x | ⟨r, bb, i⟩, st⟩⟩⟩ <;> try exact am_tq_f
  dsimp only
  generalize (Nat.ble 34 r && Nat.ble r 37) = t
  cases t
  · exact am_tq_f
  · exact am_tq_and (am_tq_and (am_tq_n _ _ _ _))
theorem am_q_new (Cl : Nat → List am_V → am_M → Option am_V → am_M → Prop) (nx a b : Nat) (v : Int32) (ts : List (Int32 × Nat)) (L : am_L) (st : List am_V) (me : am_M) : am_tq me (fun N Q => am_s_new Cl nx a b v ts L st me N Q) := by
  exact am_tq_and (am_tq_and (am_tq_and (am_tq_n _ _ _ _)))
theorem am_q_newarray (Cl : Nat → List am_V → am_M → Option am_V → am_M → Prop) (nx a b : Nat) (v : Int32) (ts : List (Int32 × Nat)) (L : am_L) (st : List am_V) (me : am_M) : am_tq me (fun N Q => am_s_newarray Cl nx a b v ts L st me N Q) := by
  rcases st with _ | ⟨x | x, st⟩ <;> first | exact am_tq_f | exact am_tq_and (am_tq_and (am_tq_and (am_tq_and (am_tq_n _ _ _ _))))
theorem am_q_anewarray (Cl : Nat → List am_V → am_M → Option am_V → am_M → Prop) (nx a b : Nat) (v : Int32) (ts : List (Int32 × Nat)) (L : am_L) (st : List am_V) (me : am_M) : am_tq me (fun N Q => am_s_anewarray Cl nx a b v ts L st me N Q) := by
  rcases st with _ | ⟨x | x, st⟩ <;> first | exact am_tq_f | exact am_tq_and (am_tq_and (am_tq_and (am_tq_and (am_tq_n _ _ _ _))))
theorem am_q_invokestatic (Cl : Nat → List am_V → am_M → Option am_V → am_M → Prop) (nx a b : Nat) (v : Int32) (ts : List (Int32 × Nat)) (L : am_L) (st : List am_V) (me : am_M) : am_tq me (fun N Q => am_s_invokestatic Cl nx a b v ts L st me N Q) := by
  unfold am_s_invokestatic
  generalize Nat.beq a 1000 = t
  cases t
  · dsimp only
    generalize am_pop st b [] = w
    rcases w with _ | ⟨as, st'⟩
    · exact am_tq_f
    dsimp only
    generalize (Nat.ble st'.length 4 && Nat.ble (am_wds as) (am_mlx a)) = t
    cases t
    · exact am_tq_f
    rcases ts with _ | ⟨q, ts⟩
    · exact am_tq_ex fun _ => am_tq_and (am_tq_n _ _ _ _)
    · exact am_tq_ex fun _ => am_tq_ex fun _ => am_tq_and (am_tq_n _ _ _ _)
  · rcases st with _ | ⟨n | n, _ | ⟨dp | dp, _ | ⟨x | x | ⟨r2, b2, i2⟩, _ | ⟨sp | sp, _ | ⟨x | x | ⟨r1, b1, i1⟩, st⟩⟩⟩⟩⟩ <;> try exact am_tq_f
    dsimp only
    generalize ((Nat.ble 27 r1 && Nat.ble r1 33) && (Nat.ble 27 r2 && Nat.ble r2 33) && Nat.ble st.length 4) = t
    cases t
    · exact am_tq_f
    · exact am_tq_and (am_tq_and (am_tq_and (am_tq_and (am_tq_and (am_tq_n _ _ _ _)))))
theorem am_q_invokevirtual (Cl : Nat → List am_V → am_M → Option am_V → am_M → Prop) (nx a b : Nat) (v : Int32) (ts : List (Int32 × Nat)) (L : am_L) (st : List am_V) (me : am_M) : am_tq me (fun N Q => am_s_invokevirtual Cl nx a b v ts L st me N Q) := by
  unfold am_s_invokevirtual
  generalize am_pop st b [] = w
  rcases w with _ | ⟨_ | ⟨x | x | ⟨r, q⟩, as⟩, st'⟩ <;> try exact am_tq_f
  dsimp only
  generalize (Nat.beq r (am_rcv a) && (Nat.ble st'.length 4 && Nat.ble (am_wds (.inr (.inr (r, q)) :: as)) (am_mlx a))) = t
  cases t
  · exact am_tq_f
  rcases ts with _ | ⟨q, ts⟩
  · exact am_tq_ex fun _ => am_tq_and (am_tq_n _ _ _ _)
  · exact am_tq_ex fun _ => am_tq_ex fun _ => am_tq_and (am_tq_n _ _ _ _)
theorem am_q_invokespecial (Cl : Nat → List am_V → am_M → Option am_V → am_M → Prop) (nx a b : Nat) (v : Int32) (ts : List (Int32 × Nat)) (L : am_L) (st : List am_V) (me : am_M) : am_tq me (fun N Q => am_s_invokespecial Cl nx a b v ts L st me N Q) := by
  unfold am_s_invokespecial
  generalize Nat.beq a 2000 = t
  cases t
  · dsimp only
    generalize am_pop st b [] = w
    rcases w with _ | ⟨_ | ⟨x | x | ⟨r, q⟩, as⟩, st'⟩ <;> try exact am_tq_f
    dsimp only
    generalize (Nat.ble 16 r && (Nat.ble st'.length 4 && Nat.ble (am_wds (.inr (.inr (r, q)) :: as)) (am_mlx a))) = t
    cases t
    · exact am_tq_f
    · exact am_tq_ex fun _ => am_tq_and (am_tq_n _ _ _ _)
  · rcases st with _ | ⟨x | x | ⟨r, q⟩, st⟩ <;> try exact am_tq_f
    dsimp only
    generalize (Nat.ble 16 r && Nat.ble st.length 4) = t
    cases t
    · exact am_tq_f
    · exact am_tq_n _ _ _ _
theorem am_q_ireturn (Cl : Nat → List am_V → am_M → Option am_V → am_M → Prop) (nx a b : Nat) (v : Int32) (ts : List (Int32 × Nat)) (L : am_L) (st : List am_V) (me : am_M) : am_tq me (fun N Q => am_s_ireturn Cl nx a b v ts L st me N Q) := by
  rcases st with _ | ⟨x | x, _ | ⟨z, st⟩⟩ <;> first | exact am_tq_f | exact am_tq_r
theorem am_q_areturn (Cl : Nat → List am_V → am_M → Option am_V → am_M → Prop) (nx a b : Nat) (v : Int32) (ts : List (Int32 × Nat)) (L : am_L) (st : List am_V) (me : am_M) : am_tq me (fun N Q => am_s_areturn Cl nx a b v ts L st me N Q) := by
  unfold am_s_areturn
  rcases st with _ | ⟨x | x | ⟨r, q⟩, _ | ⟨z, st⟩⟩ <;> first | exact am_tq_f | (dsimp only; generalize Nat.beq r 5 = t; cases t <;> first | exact am_tq_f | exact am_tq_r0)
theorem am_q_return_ (Cl : Nat → List am_V → am_M → Option am_V → am_M → Prop) (nx a b : Nat) (v : Int32) (ts : List (Int32 × Nat)) (L : am_L) (st : List am_V) (me : am_M) : am_tq me (fun N Q => am_s_return_ Cl nx a b v ts L st me N Q) := by
  rcases st with _ | ⟨x, st⟩ <;> first | exact am_tq_f | exact am_tq_r0
theorem am_step_tq (Cl : Nat → List am_V → am_M → Option am_V → am_M → Prop) (o : am_O) (L : am_L) (st : List am_V) (me : am_M) : am_tq me (fun N Q => am_step Cl o L st me N Q) := by
  obtain ⟨pc, ln, ins, nx, a, b, v, ts, w⟩ := o
  cases ins <;> first
    | exact am_q_iconst Cl nx a b v ts L st me
    | exact am_q_bipush Cl nx a b v ts L st me
    | exact am_q_sipush Cl nx a b v ts L st me
    | exact am_q_ldc Cl nx a b v ts L st me
    | exact am_q_ldc_w Cl nx a b v ts L st me
    | exact am_q_ldc2_w Cl nx a b v ts L st me
    | exact am_q_iload_n Cl nx a b v ts L st me
    | exact am_q_iload Cl nx a b v ts L st me
    | exact am_q_lload_n Cl nx a b v ts L st me
    | exact am_q_aload_n Cl nx a b v ts L st me
    | exact am_q_aload Cl nx a b v ts L st me
    | exact am_q_istore_n Cl nx a b v ts L st me
    | exact am_q_istore Cl nx a b v ts L st me
    | exact am_q_astore_n Cl nx a b v ts L st me
    | exact am_q_astore Cl nx a b v ts L st me
    | exact am_q_iinc Cl nx a b v ts L st me
    | exact am_q_iadd Cl nx a b v ts L st me
    | exact am_q_isub Cl nx a b v ts L st me
    | exact am_q_imul Cl nx a b v ts L st me
    | exact am_q_idiv Cl nx a b v ts L st me
    | exact am_q_irem Cl nx a b v ts L st me
    | exact am_q_ineg Cl nx a b v ts L st me
    | exact am_q_iand Cl nx a b v ts L st me
    | exact am_q_ior Cl nx a b v ts L st me
    | exact am_q_ixor Cl nx a b v ts L st me
    | exact am_q_ishl Cl nx a b v ts L st me
    | exact am_q_ishr Cl nx a b v ts L st me
    | exact am_q_iushr Cl nx a b v ts L st me
    | exact am_q_i2l Cl nx a b v ts L st me
    | exact am_q_l2i Cl nx a b v ts L st me
    | exact am_q_i2b Cl nx a b v ts L st me
    | exact am_q_i2s Cl nx a b v ts L st me
    | exact am_q_i2c Cl nx a b v ts L st me
    | exact am_q_ladd Cl nx a b v ts L st me
    | exact am_q_land Cl nx a b v ts L st me
    | exact am_q_lor Cl nx a b v ts L st me
    | exact am_q_lshl Cl nx a b v ts L st me
    | exact am_q_lshr Cl nx a b v ts L st me
    | exact am_q_lushr Cl nx a b v ts L st me
    | exact am_q_lcmp Cl nx a b v ts L st me
    | exact am_q_dup Cl nx a b v ts L st me
    | exact am_q_dup2 Cl nx a b v ts L st me
    | exact am_q_pop Cl nx a b v ts L st me
    | exact am_q_ifCond Cl nx a b v ts L st me _
    | exact am_q_if_icmp Cl nx a b v ts L st me _
    | exact am_q_goto Cl nx a b v ts L st me
    | exact am_q_tableswitch Cl nx a b v ts L st me
    | exact am_q_lookupswitch Cl nx a b v ts L st me
    | exact am_q_getfield Cl nx a b v ts L st me
    | exact am_q_putfield Cl nx a b v ts L st me
    | exact am_q_getstatic Cl nx a b v ts L st me
    | exact am_q_iaload Cl nx a b v ts L st me
    | exact am_q_baload Cl nx a b v ts L st me
    | exact am_q_iastore Cl nx a b v ts L st me
    | exact am_q_arraylength Cl nx a b v ts L st me
    | exact am_q_aaload Cl nx a b v ts L st me
    | exact am_q_aastore Cl nx a b v ts L st me
    | exact am_q_new Cl nx a b v ts L st me
    | exact am_q_newarray Cl nx a b v ts L st me
    | exact am_q_anewarray Cl nx a b v ts L st me
    | exact am_q_invokestatic Cl nx a b v ts L st me
    | exact am_q_invokevirtual Cl nx a b v ts L st me
    | exact am_q_invokespecial Cl nx a b v ts L st me
    | exact am_q_ireturn Cl nx a b v ts L st me
    | exact am_q_areturn Cl nx a b v ts L st me
    | exact am_q_return_ Cl nx a b v ts L st me
    | exact am_tq_f
theorem am_run_q {Cl : Nat → List am_V → am_M → Option am_V → am_M → Prop} {cd : am_C} {Q : am_Qt} {f ip : Nat} {L : am_L} {st : List am_V} {me : am_M} (h : am_run Cl cd Q f ip L st me) : ∃ v me', Q v me' ∧ am_run Cl cd (fun w m => w = v ∧ m = me') f ip L st me := by
  induction f generalizing ip L st me with
  | zero => exact False.elim h
  | succ f ih =>
    have h : (match am_at cd ip with | none => False | some o => am_step Cl o L st me (am_run Cl cd Q f) Q) := h
    cases ho : am_at cd ip with
    | none => rw [ho] at h; exact False.elim h
    | some o =>
      rw [ho] at h
      rcases am_step_tq Cl o L st me _ _ h with ⟨ip', L', st', me', h1, h2⟩ | ⟨v, h1, h2⟩
      · obtain ⟨v, m2, h3, h4⟩ := ih h1
        refine ⟨v, m2, h3, ?_⟩
        show (match am_at cd ip with | none => False | some o => am_step Cl o L st me (am_run Cl cd (fun w m => w = v ∧ m = m2) f) (fun w m => w = v ∧ m = m2))
        rw [ho]
        exact h2 _ _ h4
      · refine ⟨v, me, h1, ?_⟩
        show (match am_at cd ip with | none => False | some o => am_step Cl o L st me (am_run Cl cd (fun w m => w = v ∧ m = me) f) (fun w m => w = v ∧ m = me))
        rw [ho]
        exact h2 _ _ ⟨rfl, rfl⟩
theorem am_wp_q {Cl : Nat → List am_V → am_M → Option am_V → am_M → Prop} {cd : am_C} {Q : am_Qt} {ip : Nat} {L : am_L} {st : List am_V} {me : am_M} (h : am_wp Cl cd Q ip L st me) : ∃ v me', Q v me' ∧ am_wp Cl cd (fun w m => w = v ∧ m = me') ip L st me := by
  obtain ⟨f, h⟩ := h
  obtain ⟨v, me', h1, h2⟩ := am_run_q h
  exact ⟨v, me', h1, f, h2⟩
/-- a call whose body is walked where it stands: nothing is returned -/
theorem am_inv {d y : Nat} {as : List am_V} {me : am_M} {N : am_M → Prop} (cd : am_C) (hcd : am_cds y = cd) (h : am_wp (am_cl am_cds d) cd (fun w m => w = none ∧ N m) 0 (am_args 0 as) [] me) : ∃ me', am_cl am_cds (d + 1) y as me none me' ∧ N me' := by
  obtain ⟨v, me', ⟨h1, h2⟩, h3⟩ := am_wp_q h
  subst h1; subst hcd
  exact ⟨me', h3, h2⟩
/-- something is returned -/
theorem am_inx {d y : Nat} {as : List am_V} {me : am_M} {N : am_V → am_M → Prop} (cd : am_C) (hcd : am_cds y = cd) (h : am_wp (am_cl am_cds d) cd (fun w m => ∃ x, w = some x ∧ N x m) 0 (am_args 0 as) [] me) : ∃ x me', am_cl am_cds (d + 1) y as me (some x) me' ∧ N x me' := by
  obtain ⟨v, me', ⟨x, h1, h2⟩, h3⟩ := am_wp_q h
  subst h1; subst hcd
  exact ⟨x, me', h3, h2⟩
/-- a contract out of a walk to any end -/
theorem am_cl_ex {d y : Nat} {as : List am_V} {me : am_M} {Q : am_Qt} (cd : am_C) (hcd : am_cds y = cd) (h : am_wp (am_cl am_cds d) cd Q 0 (am_args 0 as) [] me) : ∃ v me', am_cl am_cds (d + 1) y as me v me' ∧ Q v me' := by
  obtain ⟨v, me', h1, h3⟩ := am_wp_q h
  subst hcd
  exact ⟨v, me', h3, h1⟩
