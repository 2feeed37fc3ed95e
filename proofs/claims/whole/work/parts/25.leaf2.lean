/-! LEAVES OF THE CLASS, 2: ghosts, dishes, texts -/
def sp_min (x y : Int32) : Int32 := if y < x then y else x
def sp_max (x y : Int32) : Int32 := if x < y then y else x
theorem c_max (d : Nat) (x y : Int32) (me : am_M) : am_cl am_cds (d + 1) 222 [.inl x, .inl y] me (some (.inl (sp_max x y))) me := by
  refine am_cl_in am_c222 rfl ?_
  repeat' first | refine am_wp_step _ rfl ?_ | refine am_ite (fun h => ?_) (fun h => ?_)
  · exact ⟨trivial, by unfold sp_max; rw [if_pos h], rfl⟩
  · exact ⟨trivial, by unfold sp_max; rw [if_neg h], rfl⟩
theorem c_min (d : Nat) (x y : Int32) (me : am_M) : am_cl am_cds (d + 1) 223 [.inl x, .inl y] me (some (.inl (sp_min x y))) me := by
  refine am_cl_in am_c223 rfl ?_
  repeat' first | refine am_wp_step _ rfl ?_ | refine am_ite (fun h => ?_) (fun h => ?_)
  · exact ⟨trivial, by unfold sp_min; rw [if_pos h], rfl⟩
  · exact ⟨trivial, by unfold sp_min; rw [if_neg h], rfl⟩
theorem c_ghostFact (d b i k : Nat) (M : am_F) (hk : k < 8) : am_cl am_cds (d + 1) 24 [.inr (.inr (18, b, i)), .inl (nI k)] (am_S M) (some (.inl (M 18 b i k))) (am_S M) := by
  refine am_cl_in am_c24 rfl ?_
  rcases (by omega : k = 0 ∨ k = 1 ∨ k = 2 ∨ k = 3 ∨ k = 4 ∨ k = 5 ∨ k = 6 ∨ k = 7) with rfl | rfl | rfl | rfl | rfl | rfl | rfl | rfl
  all_goals
    iterate 5 refine am_wp_step _ rfl ?_
    exact ⟨trivial, rfl, rfl⟩
theorem c_dishFact (d b i k : Nat) (M : am_F) (hk : k < 5) : am_cl am_cds (d + 1) 20 [.inr (.inr (17, b, i)), .inl (nI k)] (am_S M) (some (.inl (M 17 b i k))) (am_S M) := by
  refine am_cl_in am_c20 rfl ?_
  rcases (by omega : k = 0 ∨ k = 1 ∨ k = 2 ∨ k = 3 ∨ k = 4) with rfl | rfl | rfl | rfl | rfl
  all_goals
    iterate 5 refine am_wp_step _ rfl ?_
    exact ⟨trivial, rfl, rfl⟩
def sp_pref (g h o : Nat → Int32) : Bool := if decide (h 0 = g 4) = decide (o 0 = g 4) then decide (o 2 < h 2) else decide (h 0 = g 4)
theorem c_prefers (d b i j k : Nat) (M : am_F) : am_cl am_cds (d + 1) 28 [.inr (.inr (18, b, i)), .inr (.inr (17, b, j)), .inr (.inr (17, b, k))] (am_S M) (some (.inl (bI (sp_pref (M 18 b i) (M 17 b j) (M 17 b k) = true)))) (am_S M) := by
  refine am_cl_in am_c28 rfl ?_
  repeat' first | refine am_wp_step _ rfl ?_ | refine am_ite (fun h => ?_) (fun h => ?_)
  all_goals
    refine ⟨by first | exact Or.inl rfl | exact Or.inr rfl, ?_, rfl⟩
    dsimp only [am_S] at *
    simp_all [bI, sp_pref]
theorem c_cool (d b i : Nat) (M : am_F) : am_cl am_cds (d + 2) 21 [.inr (.inr (17, b, i))] (am_S M) none (am_S (am_up M 17 b i 2 (sp_max 0 (M 17 b i 2 - (if M 17 b i 4 = -1 then 1 else 2))))) := by
  refine am_cl_in am_c21 rfl ?_
  repeat' first | refine am_wp_step _ rfl ?_ | refine am_ite (fun h => ?_) (fun h => ?_)
  all_goals
    refine ⟨_, _, c_max _ _ _ _, ?_⟩
    repeat' first | refine am_wp_step _ rfl ?_ | refine am_ite (fun h => ?_) (fun h => ?_)
    refine ⟨rfl, ?_⟩
    dsimp only [am_S] at *
    simp_all
def sp_app (g h : Nat → Int32) : Int32 := if g 0 = 1 then 4 + g 3 else if g 0 = 2 then (if h 0 = g 4 then 2 * (4 + g 1) else 4 + g 1) else if g 0 = 3 then 2 else if g 0 = 4 then 2 * (4 + g 3) else if g 0 = 5 then (if h 0 = g 4 then 2 * (4 + g 1) else 0) else if g 0 = 6 then (if h 2 < 50 then 2 + g 1 else 2) else 4
theorem c_appetite (d b i j : Nat) (M : am_F) : am_cl am_cds (d + 1) 27 [.inr (.inr (18, b, i)), .inr (.inr (17, b, j))] (am_S M) (some (.inl (sp_app (M 18 b i) (M 17 b j)))) (am_S M) := by
  refine am_cl_in am_c27 rfl ?_
  repeat' first | refine am_wp_step _ rfl ?_ | refine am_ite (fun h => ?_) (fun h => ?_)
  all_goals
    refine ⟨trivial, ?_, rfl⟩
    dsimp only [am_S] at *
    simp_all [sp_app]
    try (intro q; rename_i h1; exact absurd q (Int32.not_lt.mpr (by assumption)))
theorem c_eatOf (d b i j : Nat) (t : Int32) (M : am_F) : am_cl am_cds (d + 2) 29 [.inr (.inr (18, b, i)), .inr (.inr (17, b, j)), .inl t] (am_S M) none (am_S (am_up (am_up (am_up M 17 b j 2 (M 17 b j 2 - t)) 18 b i 7 (sp_min 99999 (M 18 b i 7 + t))) 18 b i 6 0)) := by
  refine am_cl_in am_c29 rfl ?_
  iterate 13 refine am_wp_step _ rfl ?_
  refine ⟨_, _, c_min _ _ _ _, ?_⟩
  iterate 5 refine am_wp_step _ rfl ?_
  refine ⟨rfl, ?_⟩
  rfl
theorem c_goHungry (d b i : Nat) (M : am_F) : am_cl am_cds (d + 2) 30 [.inr (.inr (18, b, i))] (am_S M) none (am_S (am_up M 18 b i 6 (sp_min 9999 (M 18 b i 6 + 1)))) := by
  refine am_cl_in am_c30 rfl ?_
  iterate 7 refine am_wp_step _ rfl ?_
  refine ⟨_, _, c_min _ _ _ _, ?_⟩
  iterate 2 refine am_wp_step _ rfl ?_
  exact ⟨rfl, rfl⟩
theorem c_named (d k : Nat) (a b c e : Int32) (me : am_M) (hk : k < 4) : am_cl am_cds (d + 1) 71 [.inl (nI k), .inl a, .inl b, .inl c, .inl e] me (some (.inl (am_nth [a, b, c, e] k 0))) me := by
  refine am_cl_in am_c71 rfl ?_
  rcases (by omega : k = 0 ∨ k = 1 ∨ k = 2 ∨ k = 3) with rfl | rfl | rfl | rfl
  all_goals
    iterate 4 refine am_wp_step _ rfl ?_
    exact ⟨trivial, rfl, rfl⟩
