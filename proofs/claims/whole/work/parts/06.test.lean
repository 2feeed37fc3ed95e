theorem am_ite {c : Prop} [Decidable c] {A B : Prop} (h1 : c → A) (h2 : ¬ c → B) : (if c then A else B) := by
  by_cases h : c
  · rw [if_pos h]; exact h1 h
  · rw [if_neg h]; exact h2 h
theorem am_wp_step {Cl : Nat → List am_V → am_M → Option am_V → am_M → Prop} {cd : am_C} {Q : Option am_V → am_M → Prop} {ip : Nat} {L : am_L} {st : List am_V} {me : am_M} (o : am_O) (h : am_at cd ip = some o) (k : am_step Cl o L st me (am_wp Cl cd Q) Q) : am_wp Cl cd Q ip L st me := sorry
theorem t_within (Cl : Nat → List am_V → am_M → Option am_V → am_M → Prop) (v lo hi : Int32) (me : am_M) : am_wp Cl am_c114 (fun w m => w = some (.inl (if lo ≤ v ∧ v ≤ hi then 1 else 0)) ∧ m = me) 0 [(0, .inl v), (1, .inl lo), (2, .inl hi)] [] me := by
  iterate 3 refine am_wp_step _ rfl ?_
  refine am_ite (fun h => ?_) (fun h => ?_)
  all_goals trace_state
  all_goals sorry
