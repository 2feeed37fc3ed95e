def am_runK (K : am_N) (Cl : Nat → List am_V → am_M → Option am_V → am_M → Prop) (cd : am_C) (Q : am_Qt) : Nat → Nat → am_L → List am_V → am_M → Prop
  | 0, ip, L, st, me => K ip L st me
  | f + 1, ip, L, st, me => match am_at cd ip with
    | none => False
    | some o => am_step Cl o L st me (am_runK K Cl cd Q f) Q
def am_wpK (K : am_N) (Cl : Nat → List am_V → am_M → Option am_V → am_M → Prop) (cd : am_C) (Q : am_Qt) (ip : Nat) (L : am_L) (st : List am_V) (me : am_M) : Prop := ∃ f, am_runK K Cl cd Q f ip L st me
theorem am_wpK_end {K : am_N} {Cl : Nat → List am_V → am_M → Option am_V → am_M → Prop} {cd : am_C} {Q : am_Qt} {ip : Nat} {L : am_L} {st : List am_V} {me : am_M} (h : K ip L st me) : am_wpK K Cl cd Q ip L st me := ⟨0, h⟩
theorem am_wpK_step {K : am_N} {Cl : Nat → List am_V → am_M → Option am_V → am_M → Prop} {cd : am_C} {Q : am_Qt} {ip : Nat} {L : am_L} {st : List am_V} {me : am_M} (o : am_O) (h : am_at cd ip = some o) (k : am_step Cl o L st me (am_wpK K Cl cd Q) Q) : am_wpK K Cl cd Q ip L st me := by
  rcases am_step_one Cl o L st me Q _ k with ⟨ip', L', st', me', ⟨f, h1⟩, h2⟩ | h1
  · refine ⟨f + 1, ?_⟩
    show (match am_at cd ip with | none => False | some o => am_step Cl o L st me (am_runK K Cl cd Q f) Q)
    rw [h]
    exact h2 _ h1
  · refine ⟨1, ?_⟩
    show (match am_at cd ip with | none => False | some o => am_step Cl o L st me (am_runK K Cl cd Q 0) Q)
    rw [h]
    exact h1 _
/-- the cells hold the same -/
def am_smA (As : am_B) : Bool := (List.range 128).all fun k => match am_dec k with
  | ((r, b, i), n) => (List.range n).all fun s => if r < 27 then (match (am_fk (r - 16) s).1 with | 2 => As r b i s | _ => true) else if r < 34 then true else As r b i s
def am_smM (M M' : am_F) : Prop := ∀ k, k < 128 → ∀ s, s < (am_dec k).2 → M (am_dec k).1.1 (am_dec k).1.2.1 (am_dec k).1.2.2 s = M' (am_dec k).1.1 (am_dec k).1.2.1 (am_dec k).1.2.2 s
set_option maxRecDepth 100000 in
def am_mkA : am_B := am_upB (am_upB (am_upB (am_upB (am_upB (am_upB (am_upB (am_upB (am_upB (am_upB (am_upB (am_upB (am_upB (am_upB (am_upB (am_upB (am_upB (am_upB (am_upB (am_upB (am_upB (am_upB (am_upB (am_upB (am_upB (am_upB (am_upB (am_upB (am_upB (am_upB (am_upB (am_upB (am_upB (am_upB (am_upB (am_upB (am_upB (am_upB (am_upB (am_upB (am_upB (am_upB (am_upB (am_upB (am_upB (am_upB (am_upB (am_upB (am_upB (am_upB (am_upB (am_upB (am_upB (am_upB (am_upB (am_upB (am_upB (am_upB (am_upB (am_upB (am_upB (am_upB (am_upB (am_upB (am_upB (am_upB (am_upB (am_upB (am_upB (am_upB (am_upB (am_upB (am_upB (am_upB (am_upB (am_upB (am_upB (am_upB (am_upB (am_upB (am_upB (am_upB (am_upB (am_upB (am_upB (am_upB (am_upB (am_upB (am_upB (am_upB (am_upB (am_upB (am_upB (am_upB (am_upB (am_upB (am_upB (am_upB (am_upB (am_upB (am_upB (am_upB (am_upB (am_upB (am_upB (am_upB (am_upB (am_upB (am_upB (am_upB (am_upB (am_upB (am_upB (am_upB (am_upB (am_upB (am_upB (am_upB (am_upB (am_upB (am_upB (am_upB (am_upB (am_upB (am_upB (am_upB (am_upB (am_upB (am_upB (am_upB (am_upB (am_upB ((fun _ _ _ _ => false)) 16 0 0 0) 34 0 0 0) 34 0 0 1) 34 0 0 2) 34 0 0 3) 34 0 0 4) 34 0 0 5) 34 0 0 6) 34 0 0 7) 16 0 0 2) 35 0 0 0) 35 0 0 1) 35 0 0 2) 35 0 0 3) 35 0 0 4) 35 0 0 5) 35 0 0 6) 35 0 0 7) 16 0 0 4) 16 0 0 6) 20 0 0 0) 24 0 0 1) 21 0 0 0) 24 0 0 4) 21 1 0 0) 24 0 0 5) 20 0 0 1) 24 1 0 1) 21 2 0 0) 24 1 0 4) 21 3 0 0) 24 1 0 5) 20 0 0 2) 21 4 0 0) 20 0 0 3) 21 5 0 0) 20 0 0 4) 25 0 0 0) 16 1 0 0) 34 1 0 0) 34 1 0 1) 34 1 0 2) 34 1 0 3) 34 1 0 4) 34 1 0 5) 34 1 0 6) 34 1 0 7) 16 1 0 2) 35 1 0 0) 35 1 0 1) 35 1 0 2) 35 1 0 3) 35 1 0 4) 35 1 0 5) 35 1 0 6) 35 1 0 7) 16 1 0 4) 16 1 0 6) 20 1 0 0) 24 2 0 1) 21 6 0 0) 24 2 0 4) 21 7 0 0) 24 2 0 5) 20 1 0 1) 24 3 0 1) 21 8 0 0) 24 3 0 4) 21 9 0 0) 24 3 0 5) 20 1 0 2) 21 10 0 0) 20 1 0 3) 21 11 0 0) 20 1 0 4) 25 0 0 1) 16 2 0 0) 34 2 0 0) 34 2 0 1) 34 2 0 2) 34 2 0 3) 34 2 0 4) 34 2 0 5) 34 2 0 6) 34 2 0 7) 16 2 0 2) 35 2 0 0) 35 2 0 1) 35 2 0 2) 35 2 0 3) 35 2 0 4) 35 2 0 5) 35 2 0 6) 35 2 0 7) 16 2 0 4) 16 2 0 6) 25 0 0 3) 25 0 0 4) 21 12 0 0) 19 0 0 0) 21 13 0 0) 19 0 0 1) 25 0 0 5) 21 14 0 0) 23 0 0 0) 25 0 0 6) 25 0 0 7) 22 0 0 0) 36 0 0 0) 22 0 1 0) 36 0 0 1) 22 0 2 0) 36 0 0 2) 22 0 3 0) 36 0 0 3) 25 0 0 8) 26 0 0 0) 26 0 0 1) 26 0 0 2) 26 0 0 4) 37 0 0 0) 37 0 0 1) 26 0 0 5) 26 0 0 10) 26 0 0 12) 26 0 0 13) 26 0 0 14) 26 0 0 15) 26 0 0 18) 26 0 0 19) 26 0 0 20) 26 0 0 21
set_option maxRecDepth 100000 in
theorem am_mkA_ok : am_smA am_mkA = true := by decide +kernel
def am_mkI (Z : am_F) : am_F := am_up (am_up (am_up (am_up (am_up (am_up (am_up (am_up (am_up (am_up (am_up (am_up (am_up (am_up (am_up (am_up (am_up (am_up (am_up (am_up (am_up (am_up (am_up (am_up (am_up (am_up (am_up (am_up (am_up (am_up (am_up (am_up (am_up (am_up (Z) 16 0 0 7 (-1)) 24 0 0 0 (0)) 24 0 0 2 (-20)) 24 0 0 3 (20)) 21 0 0 1 (0)) 21 1 0 1 (0)) 24 1 0 0 (1)) 24 1 0 2 (0)) 24 1 0 3 (999)) 21 2 0 1 (0)) 21 3 0 1 (0)) 21 4 0 1 (0)) 21 5 0 1 (0)) 20 0 0 5 (1)) 16 1 0 7 (-1)) 24 2 0 0 (0)) 24 2 0 2 (-20)) 24 2 0 3 (20)) 21 6 0 1 (0)) 21 7 0 1 (0)) 24 3 0 0 (1)) 24 3 0 2 (0)) 24 3 0 3 (999)) 21 8 0 1 (0)) 21 9 0 1 (0)) 21 10 0 1 (0)) 21 11 0 1 (0)) 20 1 0 5 (1)) 25 0 0 2 (0)) 16 2 0 7 (-1)) 21 12 0 1 (0)) 21 13 0 1 (0)) 21 14 0 1 (0)) 33 0 0 5 (1)
/-- the numbers with which the law's loop begins -/
def am_MI (L : Nat) (xs : Nat → Int32) : am_F := fun r b i s => if r = 0 then am_X0 L xs b i s else am_mkI (fun _ _ _ _ => 0) r b i s
theorem am_up_cg {M M' : am_F} {r b i s r' b' i' s' : Nat} {x : Int32} (h : M r' b' i' s' = M' r' b' i' s') : am_up M r b i s x r' b' i' s' = am_up M' r b i s x r' b' i' s' := by
  unfold am_up
  rw [h]
theorem am_mkI_eq {L : Nat} {xs : Nat → Int32} {r b i s : Nat} (hr : r ≠ 0) : am_mkI (am_M0 L xs) r b i s = am_MI L xs r b i s := by
  unfold am_MI
  rw [if_neg hr]
  unfold am_mkI
  iterate 34 refine am_up_cg ?_
  exact if_neg hr
theorem am_MI_0 {L : Nat} {xs : Nat → Int32} : am_MI L xs 0 = am_X0 L xs := by
  funext b i s
  exact if_pos rfl
theorem am_mkI_0 {L : Nat} {xs : Nat → Int32} : am_mkI (am_M0 L xs) 0 = am_X0 L xs := by
  funext b i s
  unfold am_mkI
  simp [am_up, am_M0]
def am_KK (L : Nat) (xs : Nat → Int32) : am_N := fun ip Lc st me => ip = 10 ∧ Lc = [(0, .inr (.inr (0, 0, 0))), (1, .inr (.inr (25, 0, 0))), (2, .inr (.inr (26, 0, 0))), (3, .inl 0)] ∧ st = [] ∧ me.1 = 128 ∧ am_smA me.2.1 = true ∧ am_smM me.2.2 (am_MI L xs) ∧ me.2.2 0 = am_X0 L xs
set_option maxRecDepth 100000 in
set_option maxHeartbeats 40000000 in
theorem am_ctors (L : Nat) (xs : Nat → Int32) (Q : am_Qt) : am_wpK (am_KK L xs) (am_cl am_cds 1000) am_c236 Q 0 [(0, .inr (.inr (0, 0, 0)))] [] (0, fun _ _ _ _ => false, am_M0 L xs) := by
  refine am_wpK_step _ rfl ?_
  refine ⟨rfl, rfl, rfl, ?_⟩
  iterate 2 refine am_wpK_step _ rfl ?_
  refine am_inv am_c73 rfl ?_
  iterate 4 refine am_wp_step _ rfl ?_
  refine ⟨rfl, rfl, rfl, ?_⟩
  iterate 2 refine am_wp_step _ rfl ?_
  refine am_inv am_c44 rfl ?_
  iterate 4 refine am_wp_step _ rfl ?_
  refine ⟨rfl, rfl, rfl, ?_⟩
  iterate 2 refine am_wp_step _ rfl ?_
  refine am_inv am_c0 rfl ?_
  iterate 5 refine am_wp_step _ rfl ?_
  refine ⟨rfl, by decide, rfl, rfl, ?_⟩
  iterate 1 refine am_wp_step _ rfl ?_
  refine ⟨rfl, ?_⟩
  iterate 9 refine am_wp_step _ rfl ?_
  refine ⟨rfl, rfl, rfl, ?_⟩
  iterate 2 refine am_wp_step _ rfl ?_
  refine am_inv am_c23 rfl ?_
  iterate 3 refine am_wp_step _ rfl ?_
  refine ⟨rfl, ?_⟩
  iterate 1 refine am_wp_step _ rfl ?_
  refine ⟨by unfold vp_in; decide, rfl, ?_⟩
  iterate 9 refine am_wp_step _ rfl ?_
  refine ⟨rfl, rfl, rfl, ?_⟩
  iterate 2 refine am_wp_step _ rfl ?_
  refine am_inv am_c23 rfl ?_
  iterate 3 refine am_wp_step _ rfl ?_
  refine ⟨rfl, ?_⟩
  iterate 1 refine am_wp_step _ rfl ?_
  refine ⟨by unfold vp_in; decide, rfl, ?_⟩
  iterate 9 refine am_wp_step _ rfl ?_
  refine ⟨rfl, rfl, rfl, ?_⟩
  iterate 2 refine am_wp_step _ rfl ?_
  refine am_inv am_c23 rfl ?_
  iterate 3 refine am_wp_step _ rfl ?_
  refine ⟨rfl, ?_⟩
  iterate 1 refine am_wp_step _ rfl ?_
  refine ⟨by unfold vp_in; decide, rfl, ?_⟩
  iterate 9 refine am_wp_step _ rfl ?_
  refine ⟨rfl, rfl, rfl, ?_⟩
  iterate 2 refine am_wp_step _ rfl ?_
  refine am_inv am_c23 rfl ?_
  iterate 3 refine am_wp_step _ rfl ?_
  refine ⟨rfl, ?_⟩
  iterate 1 refine am_wp_step _ rfl ?_
  refine ⟨by unfold vp_in; decide, rfl, ?_⟩
  iterate 9 refine am_wp_step _ rfl ?_
  refine ⟨rfl, rfl, rfl, ?_⟩
  iterate 2 refine am_wp_step _ rfl ?_
  refine am_inv am_c23 rfl ?_
  iterate 3 refine am_wp_step _ rfl ?_
  refine ⟨rfl, ?_⟩
  iterate 1 refine am_wp_step _ rfl ?_
  refine ⟨by unfold vp_in; decide, rfl, ?_⟩
  iterate 9 refine am_wp_step _ rfl ?_
  refine ⟨rfl, rfl, rfl, ?_⟩
  iterate 2 refine am_wp_step _ rfl ?_
  refine am_inv am_c23 rfl ?_
  iterate 3 refine am_wp_step _ rfl ?_
  refine ⟨rfl, ?_⟩
  iterate 1 refine am_wp_step _ rfl ?_
  refine ⟨by unfold vp_in; decide, rfl, ?_⟩
  iterate 9 refine am_wp_step _ rfl ?_
  refine ⟨rfl, rfl, rfl, ?_⟩
  iterate 2 refine am_wp_step _ rfl ?_
  refine am_inv am_c23 rfl ?_
  iterate 3 refine am_wp_step _ rfl ?_
  refine ⟨rfl, ?_⟩
  iterate 1 refine am_wp_step _ rfl ?_
  refine ⟨by unfold vp_in; decide, rfl, ?_⟩
  iterate 9 refine am_wp_step _ rfl ?_
  refine ⟨rfl, rfl, rfl, ?_⟩
  iterate 2 refine am_wp_step _ rfl ?_
  refine am_inv am_c23 rfl ?_
  iterate 3 refine am_wp_step _ rfl ?_
  refine ⟨rfl, ?_⟩
  iterate 1 refine am_wp_step _ rfl ?_
  refine ⟨by unfold vp_in; decide, rfl, ?_⟩
  iterate 8 refine am_wp_step _ rfl ?_
  refine ⟨rfl, by decide, rfl, rfl, ?_⟩
  iterate 1 refine am_wp_step _ rfl ?_
  refine ⟨rfl, ?_⟩
  iterate 9 refine am_wp_step _ rfl ?_
  refine ⟨rfl, rfl, rfl, ?_⟩
  iterate 2 refine am_wp_step _ rfl ?_
  refine am_inv am_c19 rfl ?_
  iterate 3 refine am_wp_step _ rfl ?_
  refine ⟨rfl, ?_⟩
  iterate 1 refine am_wp_step _ rfl ?_
  refine ⟨by unfold vp_in; decide, rfl, ?_⟩
  iterate 9 refine am_wp_step _ rfl ?_
  refine ⟨rfl, rfl, rfl, ?_⟩
  iterate 2 refine am_wp_step _ rfl ?_
  refine am_inv am_c19 rfl ?_
  iterate 3 refine am_wp_step _ rfl ?_
  refine ⟨rfl, ?_⟩
  iterate 1 refine am_wp_step _ rfl ?_
  refine ⟨by unfold vp_in; decide, rfl, ?_⟩
  iterate 9 refine am_wp_step _ rfl ?_
  refine ⟨rfl, rfl, rfl, ?_⟩
  iterate 2 refine am_wp_step _ rfl ?_
  refine am_inv am_c19 rfl ?_
  iterate 3 refine am_wp_step _ rfl ?_
  refine ⟨rfl, ?_⟩
  iterate 1 refine am_wp_step _ rfl ?_
  refine ⟨by unfold vp_in; decide, rfl, ?_⟩
  iterate 9 refine am_wp_step _ rfl ?_
  refine ⟨rfl, rfl, rfl, ?_⟩
  iterate 2 refine am_wp_step _ rfl ?_
  refine am_inv am_c19 rfl ?_
  iterate 3 refine am_wp_step _ rfl ?_
  refine ⟨rfl, ?_⟩
  iterate 1 refine am_wp_step _ rfl ?_
  refine ⟨by unfold vp_in; decide, rfl, ?_⟩
  iterate 9 refine am_wp_step _ rfl ?_
  refine ⟨rfl, rfl, rfl, ?_⟩
  iterate 2 refine am_wp_step _ rfl ?_
  refine am_inv am_c19 rfl ?_
  iterate 3 refine am_wp_step _ rfl ?_
  refine ⟨rfl, ?_⟩
  iterate 1 refine am_wp_step _ rfl ?_
  refine ⟨by unfold vp_in; decide, rfl, ?_⟩
  iterate 9 refine am_wp_step _ rfl ?_
  refine ⟨rfl, rfl, rfl, ?_⟩
  iterate 2 refine am_wp_step _ rfl ?_
  refine am_inv am_c19 rfl ?_
  iterate 3 refine am_wp_step _ rfl ?_
  refine ⟨rfl, ?_⟩
  iterate 1 refine am_wp_step _ rfl ?_
  refine ⟨by unfold vp_in; decide, rfl, ?_⟩
  iterate 9 refine am_wp_step _ rfl ?_
  refine ⟨rfl, rfl, rfl, ?_⟩
  iterate 2 refine am_wp_step _ rfl ?_
  refine am_inv am_c19 rfl ?_
  iterate 3 refine am_wp_step _ rfl ?_
  refine ⟨rfl, ?_⟩
  iterate 1 refine am_wp_step _ rfl ?_
  refine ⟨by unfold vp_in; decide, rfl, ?_⟩
  iterate 9 refine am_wp_step _ rfl ?_
  refine ⟨rfl, rfl, rfl, ?_⟩
  iterate 2 refine am_wp_step _ rfl ?_
  refine am_inv am_c19 rfl ?_
  iterate 3 refine am_wp_step _ rfl ?_
  refine ⟨rfl, ?_⟩
  iterate 1 refine am_wp_step _ rfl ?_
  refine ⟨by unfold vp_in; decide, rfl, ?_⟩
  iterate 8 refine am_wp_step _ rfl ?_
  refine ⟨rfl, by decide, rfl, rfl, ?_⟩
  iterate 1 refine am_wp_step _ rfl ?_
  refine ⟨rfl, ?_⟩
  iterate 3 refine am_wp_step _ rfl ?_
  refine ⟨rfl, by decide, rfl, rfl, ?_⟩
  iterate 1 refine am_wp_step _ rfl ?_
  refine ⟨rfl, ?_⟩
  iterate 3 refine am_wp_step _ rfl ?_
  iterate 1 refine am_wp_step _ rfl ?_
  refine ⟨rfl, ?_⟩
  iterate 1 refine am_wp_step _ rfl ?_
  refine ⟨rfl, ?_⟩
  iterate 2 refine am_wp_step _ rfl ?_
  refine ⟨rfl, rfl, rfl, ?_⟩
  iterate 6 refine am_wp_step _ rfl ?_
  refine am_inv am_c66 rfl ?_
  iterate 5 refine am_wp_step _ rfl ?_
  iterate 3 refine am_wp_step _ rfl ?_
  refine ⟨rfl, ?_⟩
  iterate 3 refine am_wp_step _ rfl ?_
  iterate 3 refine am_wp_step _ rfl ?_
  iterate 2 refine am_wp_step _ rfl ?_
  refine ⟨rfl, rfl, rfl, ?_⟩
  iterate 3 refine am_wp_step _ rfl ?_
  refine am_inv am_c49 rfl ?_
  iterate 6 refine am_wp_step _ rfl ?_
  refine am_inx am_c222 rfl ?_
  iterate 5 refine am_wp_step _ rfl ?_
  refine ⟨trivial, _, rfl, ?_⟩
  iterate 1 refine am_wp_step _ rfl ?_
  refine ⟨rfl, by decide, rfl, rfl, ?_⟩
  iterate 1 refine am_wp_step _ rfl ?_
  refine ⟨rfl, ?_⟩
  iterate 3 refine am_wp_step _ rfl ?_
  iterate 1 refine am_wp_step _ rfl ?_
  refine ⟨rfl, ?_⟩
  iterate 1 refine am_wp_step _ rfl ?_
  refine ⟨rfl, ?_⟩
  iterate 2 refine am_wp_step _ rfl ?_
  refine ⟨rfl, rfl, rfl, ?_⟩
  iterate 3 refine am_wp_step _ rfl ?_
  refine am_inv am_c49 rfl ?_
  iterate 6 refine am_wp_step _ rfl ?_
  refine am_inx am_c222 rfl ?_
  iterate 5 refine am_wp_step _ rfl ?_
  refine ⟨trivial, _, rfl, ?_⟩
  iterate 1 refine am_wp_step _ rfl ?_
  refine ⟨rfl, by decide, rfl, rfl, ?_⟩
  iterate 1 refine am_wp_step _ rfl ?_
  refine ⟨rfl, ?_⟩
  iterate 3 refine am_wp_step _ rfl ?_
  iterate 1 refine am_wp_step _ rfl ?_
  refine ⟨rfl, ?_⟩
  iterate 1 refine am_wp_step _ rfl ?_
  refine ⟨rfl, ?_⟩
  iterate 1 refine am_wp_step _ rfl ?_
  refine ⟨rfl, ?_⟩
  iterate 1 refine am_wp_step _ rfl ?_
  refine ⟨rfl, ?_⟩
  iterate 2 refine am_wp_step _ rfl ?_
  refine ⟨rfl, rfl, rfl, ?_⟩
  iterate 6 refine am_wp_step _ rfl ?_
  refine am_inv am_c66 rfl ?_
  iterate 5 refine am_wp_step _ rfl ?_
  iterate 3 refine am_wp_step _ rfl ?_
  refine ⟨rfl, ?_⟩
  iterate 3 refine am_wp_step _ rfl ?_
  iterate 3 refine am_wp_step _ rfl ?_
  iterate 2 refine am_wp_step _ rfl ?_
  refine ⟨rfl, rfl, rfl, ?_⟩
  iterate 3 refine am_wp_step _ rfl ?_
  refine am_inv am_c49 rfl ?_
  iterate 6 refine am_wp_step _ rfl ?_
  refine am_inx am_c222 rfl ?_
  iterate 5 refine am_wp_step _ rfl ?_
  refine ⟨trivial, _, rfl, ?_⟩
  iterate 1 refine am_wp_step _ rfl ?_
  refine ⟨rfl, by decide, rfl, rfl, ?_⟩
  iterate 1 refine am_wp_step _ rfl ?_
  refine ⟨rfl, ?_⟩
  iterate 3 refine am_wp_step _ rfl ?_
  iterate 1 refine am_wp_step _ rfl ?_
  refine ⟨rfl, ?_⟩
  iterate 1 refine am_wp_step _ rfl ?_
  refine ⟨rfl, ?_⟩
  iterate 2 refine am_wp_step _ rfl ?_
  refine ⟨rfl, rfl, rfl, ?_⟩
  iterate 3 refine am_wp_step _ rfl ?_
  refine am_inv am_c49 rfl ?_
  iterate 6 refine am_wp_step _ rfl ?_
  refine am_inx am_c222 rfl ?_
  iterate 5 refine am_wp_step _ rfl ?_
  refine ⟨trivial, _, rfl, ?_⟩
  iterate 1 refine am_wp_step _ rfl ?_
  refine ⟨rfl, by decide, rfl, rfl, ?_⟩
  iterate 1 refine am_wp_step _ rfl ?_
  refine ⟨rfl, ?_⟩
  iterate 3 refine am_wp_step _ rfl ?_
  iterate 1 refine am_wp_step _ rfl ?_
  refine ⟨rfl, ?_⟩
  iterate 1 refine am_wp_step _ rfl ?_
  refine ⟨rfl, ?_⟩
  iterate 1 refine am_wp_step _ rfl ?_
  refine ⟨rfl, ?_⟩
  iterate 1 refine am_wp_step _ rfl ?_
  refine ⟨rfl, ?_⟩
  iterate 2 refine am_wp_step _ rfl ?_
  refine ⟨rfl, rfl, rfl, ?_⟩
  iterate 3 refine am_wp_step _ rfl ?_
  refine am_inv am_c49 rfl ?_
  iterate 6 refine am_wp_step _ rfl ?_
  refine am_inx am_c222 rfl ?_
  iterate 5 refine am_wp_step _ rfl ?_
  refine ⟨trivial, _, rfl, ?_⟩
  iterate 1 refine am_wp_step _ rfl ?_
  refine ⟨rfl, by decide, rfl, rfl, ?_⟩
  iterate 1 refine am_wp_step _ rfl ?_
  refine ⟨rfl, ?_⟩
  iterate 3 refine am_wp_step _ rfl ?_
  iterate 1 refine am_wp_step _ rfl ?_
  refine ⟨rfl, ?_⟩
  iterate 1 refine am_wp_step _ rfl ?_
  refine ⟨rfl, ?_⟩
  iterate 2 refine am_wp_step _ rfl ?_
  refine ⟨rfl, rfl, rfl, ?_⟩
  iterate 3 refine am_wp_step _ rfl ?_
  refine am_inv am_c49 rfl ?_
  iterate 6 refine am_wp_step _ rfl ?_
  refine am_inx am_c222 rfl ?_
  iterate 5 refine am_wp_step _ rfl ?_
  refine ⟨trivial, _, rfl, ?_⟩
  iterate 1 refine am_wp_step _ rfl ?_
  refine ⟨rfl, by decide, rfl, rfl, ?_⟩
  iterate 1 refine am_wp_step _ rfl ?_
  refine ⟨rfl, ?_⟩
  iterate 3 refine am_wp_step _ rfl ?_
  iterate 1 refine am_wp_step _ rfl ?_
  refine ⟨rfl, ?_⟩
  iterate 1 refine am_wp_step _ rfl ?_
  refine ⟨rfl, ?_⟩
  iterate 3 refine am_wp_step _ rfl ?_
  iterate 1 refine am_wp_step _ rfl ?_
  refine ⟨rfl, ?_⟩
  iterate 1 refine am_wp_step _ rfl ?_
  refine ⟨rfl, ?_⟩
  iterate 2 refine am_wp_step _ rfl ?_
  refine ⟨rfl, rfl, rfl, ?_⟩
  iterate 2 refine am_wp_step _ rfl ?_
  refine am_inv am_c44 rfl ?_
  iterate 4 refine am_wp_step _ rfl ?_
  refine ⟨rfl, rfl, rfl, ?_⟩
  iterate 2 refine am_wp_step _ rfl ?_
  refine am_inv am_c0 rfl ?_
  iterate 5 refine am_wp_step _ rfl ?_
  refine ⟨rfl, by decide, rfl, rfl, ?_⟩
  iterate 1 refine am_wp_step _ rfl ?_
  refine ⟨rfl, ?_⟩
  iterate 9 refine am_wp_step _ rfl ?_
  refine ⟨rfl, rfl, rfl, ?_⟩
  iterate 2 refine am_wp_step _ rfl ?_
  refine am_inv am_c23 rfl ?_
  iterate 3 refine am_wp_step _ rfl ?_
  refine ⟨rfl, ?_⟩
  iterate 1 refine am_wp_step _ rfl ?_
  refine ⟨by unfold vp_in; decide, rfl, ?_⟩
  iterate 9 refine am_wp_step _ rfl ?_
  refine ⟨rfl, rfl, rfl, ?_⟩
  iterate 2 refine am_wp_step _ rfl ?_
  refine am_inv am_c23 rfl ?_
  iterate 3 refine am_wp_step _ rfl ?_
  refine ⟨rfl, ?_⟩
  iterate 1 refine am_wp_step _ rfl ?_
  refine ⟨by unfold vp_in; decide, rfl, ?_⟩
  iterate 9 refine am_wp_step _ rfl ?_
  refine ⟨rfl, rfl, rfl, ?_⟩
  iterate 2 refine am_wp_step _ rfl ?_
  refine am_inv am_c23 rfl ?_
  iterate 3 refine am_wp_step _ rfl ?_
  refine ⟨rfl, ?_⟩
  iterate 1 refine am_wp_step _ rfl ?_
  refine ⟨by unfold vp_in; decide, rfl, ?_⟩
  iterate 9 refine am_wp_step _ rfl ?_
  refine ⟨rfl, rfl, rfl, ?_⟩
  iterate 2 refine am_wp_step _ rfl ?_
  refine am_inv am_c23 rfl ?_
  iterate 3 refine am_wp_step _ rfl ?_
  refine ⟨rfl, ?_⟩
  iterate 1 refine am_wp_step _ rfl ?_
  refine ⟨by unfold vp_in; decide, rfl, ?_⟩
  iterate 9 refine am_wp_step _ rfl ?_
  refine ⟨rfl, rfl, rfl, ?_⟩
  iterate 2 refine am_wp_step _ rfl ?_
  refine am_inv am_c23 rfl ?_
  iterate 3 refine am_wp_step _ rfl ?_
  refine ⟨rfl, ?_⟩
  iterate 1 refine am_wp_step _ rfl ?_
  refine ⟨by unfold vp_in; decide, rfl, ?_⟩
  iterate 9 refine am_wp_step _ rfl ?_
  refine ⟨rfl, rfl, rfl, ?_⟩
  iterate 2 refine am_wp_step _ rfl ?_
  refine am_inv am_c23 rfl ?_
  iterate 3 refine am_wp_step _ rfl ?_
  refine ⟨rfl, ?_⟩
  iterate 1 refine am_wp_step _ rfl ?_
  refine ⟨by unfold vp_in; decide, rfl, ?_⟩
  iterate 9 refine am_wp_step _ rfl ?_
  refine ⟨rfl, rfl, rfl, ?_⟩
  iterate 2 refine am_wp_step _ rfl ?_
  refine am_inv am_c23 rfl ?_
  iterate 3 refine am_wp_step _ rfl ?_
  refine ⟨rfl, ?_⟩
  iterate 1 refine am_wp_step _ rfl ?_
  refine ⟨by unfold vp_in; decide, rfl, ?_⟩
  iterate 9 refine am_wp_step _ rfl ?_
  refine ⟨rfl, rfl, rfl, ?_⟩
  iterate 2 refine am_wp_step _ rfl ?_
  refine am_inv am_c23 rfl ?_
  iterate 3 refine am_wp_step _ rfl ?_
  refine ⟨rfl, ?_⟩
  iterate 1 refine am_wp_step _ rfl ?_
  refine ⟨by unfold vp_in; decide, rfl, ?_⟩
  iterate 8 refine am_wp_step _ rfl ?_
  refine ⟨rfl, by decide, rfl, rfl, ?_⟩
  iterate 1 refine am_wp_step _ rfl ?_
  refine ⟨rfl, ?_⟩
  iterate 9 refine am_wp_step _ rfl ?_
  refine ⟨rfl, rfl, rfl, ?_⟩
  iterate 2 refine am_wp_step _ rfl ?_
  refine am_inv am_c19 rfl ?_
  iterate 3 refine am_wp_step _ rfl ?_
  refine ⟨rfl, ?_⟩
  iterate 1 refine am_wp_step _ rfl ?_
  refine ⟨by unfold vp_in; decide, rfl, ?_⟩
  iterate 9 refine am_wp_step _ rfl ?_
  refine ⟨rfl, rfl, rfl, ?_⟩
  iterate 2 refine am_wp_step _ rfl ?_
  refine am_inv am_c19 rfl ?_
  iterate 3 refine am_wp_step _ rfl ?_
  refine ⟨rfl, ?_⟩
  iterate 1 refine am_wp_step _ rfl ?_
  refine ⟨by unfold vp_in; decide, rfl, ?_⟩
  iterate 9 refine am_wp_step _ rfl ?_
  refine ⟨rfl, rfl, rfl, ?_⟩
  iterate 2 refine am_wp_step _ rfl ?_
  refine am_inv am_c19 rfl ?_
  iterate 3 refine am_wp_step _ rfl ?_
  refine ⟨rfl, ?_⟩
  iterate 1 refine am_wp_step _ rfl ?_
  refine ⟨by unfold vp_in; decide, rfl, ?_⟩
  iterate 9 refine am_wp_step _ rfl ?_
  refine ⟨rfl, rfl, rfl, ?_⟩
  iterate 2 refine am_wp_step _ rfl ?_
  refine am_inv am_c19 rfl ?_
  iterate 3 refine am_wp_step _ rfl ?_
  refine ⟨rfl, ?_⟩
  iterate 1 refine am_wp_step _ rfl ?_
  refine ⟨by unfold vp_in; decide, rfl, ?_⟩
  iterate 9 refine am_wp_step _ rfl ?_
  refine ⟨rfl, rfl, rfl, ?_⟩
  iterate 2 refine am_wp_step _ rfl ?_
  refine am_inv am_c19 rfl ?_
  iterate 3 refine am_wp_step _ rfl ?_
  refine ⟨rfl, ?_⟩
  iterate 1 refine am_wp_step _ rfl ?_
  refine ⟨by unfold vp_in; decide, rfl, ?_⟩
  iterate 9 refine am_wp_step _ rfl ?_
  refine ⟨rfl, rfl, rfl, ?_⟩
  iterate 2 refine am_wp_step _ rfl ?_
  refine am_inv am_c19 rfl ?_
  iterate 3 refine am_wp_step _ rfl ?_
  refine ⟨rfl, ?_⟩
  iterate 1 refine am_wp_step _ rfl ?_
  refine ⟨by unfold vp_in; decide, rfl, ?_⟩
  iterate 9 refine am_wp_step _ rfl ?_
  refine ⟨rfl, rfl, rfl, ?_⟩
  iterate 2 refine am_wp_step _ rfl ?_
  refine am_inv am_c19 rfl ?_
  iterate 3 refine am_wp_step _ rfl ?_
  refine ⟨rfl, ?_⟩
  iterate 1 refine am_wp_step _ rfl ?_
  refine ⟨by unfold vp_in; decide, rfl, ?_⟩
  iterate 9 refine am_wp_step _ rfl ?_
  refine ⟨rfl, rfl, rfl, ?_⟩
  iterate 2 refine am_wp_step _ rfl ?_
  refine am_inv am_c19 rfl ?_
  iterate 3 refine am_wp_step _ rfl ?_
  refine ⟨rfl, ?_⟩
  iterate 1 refine am_wp_step _ rfl ?_
  refine ⟨by unfold vp_in; decide, rfl, ?_⟩
  iterate 8 refine am_wp_step _ rfl ?_
  refine ⟨rfl, by decide, rfl, rfl, ?_⟩
  iterate 1 refine am_wp_step _ rfl ?_
  refine ⟨rfl, ?_⟩
  iterate 3 refine am_wp_step _ rfl ?_
  refine ⟨rfl, by decide, rfl, rfl, ?_⟩
  iterate 1 refine am_wp_step _ rfl ?_
  refine ⟨rfl, ?_⟩
  iterate 3 refine am_wp_step _ rfl ?_
  iterate 1 refine am_wp_step _ rfl ?_
  refine ⟨rfl, ?_⟩
  iterate 1 refine am_wp_step _ rfl ?_
  refine ⟨rfl, ?_⟩
  iterate 2 refine am_wp_step _ rfl ?_
  refine ⟨rfl, rfl, rfl, ?_⟩
  iterate 6 refine am_wp_step _ rfl ?_
  refine am_inv am_c66 rfl ?_
  iterate 5 refine am_wp_step _ rfl ?_
  iterate 3 refine am_wp_step _ rfl ?_
  refine ⟨rfl, ?_⟩
  iterate 3 refine am_wp_step _ rfl ?_
  iterate 3 refine am_wp_step _ rfl ?_
  iterate 2 refine am_wp_step _ rfl ?_
  refine ⟨rfl, rfl, rfl, ?_⟩
  iterate 3 refine am_wp_step _ rfl ?_
  refine am_inv am_c49 rfl ?_
  iterate 6 refine am_wp_step _ rfl ?_
  refine am_inx am_c222 rfl ?_
  iterate 5 refine am_wp_step _ rfl ?_
  refine ⟨trivial, _, rfl, ?_⟩
  iterate 1 refine am_wp_step _ rfl ?_
  refine ⟨rfl, by decide, rfl, rfl, ?_⟩
  iterate 1 refine am_wp_step _ rfl ?_
  refine ⟨rfl, ?_⟩
  iterate 3 refine am_wp_step _ rfl ?_
  iterate 1 refine am_wp_step _ rfl ?_
  refine ⟨rfl, ?_⟩
  iterate 1 refine am_wp_step _ rfl ?_
  refine ⟨rfl, ?_⟩
  iterate 2 refine am_wp_step _ rfl ?_
  refine ⟨rfl, rfl, rfl, ?_⟩
  iterate 3 refine am_wp_step _ rfl ?_
  refine am_inv am_c49 rfl ?_
  iterate 6 refine am_wp_step _ rfl ?_
  refine am_inx am_c222 rfl ?_
  iterate 5 refine am_wp_step _ rfl ?_
  refine ⟨trivial, _, rfl, ?_⟩
  iterate 1 refine am_wp_step _ rfl ?_
  refine ⟨rfl, by decide, rfl, rfl, ?_⟩
  iterate 1 refine am_wp_step _ rfl ?_
  refine ⟨rfl, ?_⟩
  iterate 3 refine am_wp_step _ rfl ?_
  iterate 1 refine am_wp_step _ rfl ?_
  refine ⟨rfl, ?_⟩
  iterate 1 refine am_wp_step _ rfl ?_
  refine ⟨rfl, ?_⟩
  iterate 1 refine am_wp_step _ rfl ?_
  refine ⟨rfl, ?_⟩
  iterate 1 refine am_wp_step _ rfl ?_
  refine ⟨rfl, ?_⟩
  iterate 2 refine am_wp_step _ rfl ?_
  refine ⟨rfl, rfl, rfl, ?_⟩
  iterate 6 refine am_wp_step _ rfl ?_
  refine am_inv am_c66 rfl ?_
  iterate 5 refine am_wp_step _ rfl ?_
  iterate 3 refine am_wp_step _ rfl ?_
  refine ⟨rfl, ?_⟩
  iterate 3 refine am_wp_step _ rfl ?_
  iterate 3 refine am_wp_step _ rfl ?_
  iterate 2 refine am_wp_step _ rfl ?_
  refine ⟨rfl, rfl, rfl, ?_⟩
  iterate 3 refine am_wp_step _ rfl ?_
  refine am_inv am_c49 rfl ?_
  iterate 6 refine am_wp_step _ rfl ?_
  refine am_inx am_c222 rfl ?_
  iterate 5 refine am_wp_step _ rfl ?_
  refine ⟨trivial, _, rfl, ?_⟩
  iterate 1 refine am_wp_step _ rfl ?_
  refine ⟨rfl, by decide, rfl, rfl, ?_⟩
  iterate 1 refine am_wp_step _ rfl ?_
  refine ⟨rfl, ?_⟩
  iterate 3 refine am_wp_step _ rfl ?_
  iterate 1 refine am_wp_step _ rfl ?_
  refine ⟨rfl, ?_⟩
  iterate 1 refine am_wp_step _ rfl ?_
  refine ⟨rfl, ?_⟩
  iterate 2 refine am_wp_step _ rfl ?_
  refine ⟨rfl, rfl, rfl, ?_⟩
  iterate 3 refine am_wp_step _ rfl ?_
  refine am_inv am_c49 rfl ?_
  iterate 6 refine am_wp_step _ rfl ?_
  refine am_inx am_c222 rfl ?_
  iterate 5 refine am_wp_step _ rfl ?_
  refine ⟨trivial, _, rfl, ?_⟩
  iterate 1 refine am_wp_step _ rfl ?_
  refine ⟨rfl, by decide, rfl, rfl, ?_⟩
  iterate 1 refine am_wp_step _ rfl ?_
  refine ⟨rfl, ?_⟩
  iterate 3 refine am_wp_step _ rfl ?_
  iterate 1 refine am_wp_step _ rfl ?_
  refine ⟨rfl, ?_⟩
  iterate 1 refine am_wp_step _ rfl ?_
  refine ⟨rfl, ?_⟩
  iterate 1 refine am_wp_step _ rfl ?_
  refine ⟨rfl, ?_⟩
  iterate 1 refine am_wp_step _ rfl ?_
  refine ⟨rfl, ?_⟩
  iterate 2 refine am_wp_step _ rfl ?_
  refine ⟨rfl, rfl, rfl, ?_⟩
  iterate 3 refine am_wp_step _ rfl ?_
  refine am_inv am_c49 rfl ?_
  iterate 6 refine am_wp_step _ rfl ?_
  refine am_inx am_c222 rfl ?_
  iterate 5 refine am_wp_step _ rfl ?_
  refine ⟨trivial, _, rfl, ?_⟩
  iterate 1 refine am_wp_step _ rfl ?_
  refine ⟨rfl, by decide, rfl, rfl, ?_⟩
  iterate 1 refine am_wp_step _ rfl ?_
  refine ⟨rfl, ?_⟩
  iterate 3 refine am_wp_step _ rfl ?_
  iterate 1 refine am_wp_step _ rfl ?_
  refine ⟨rfl, ?_⟩
  iterate 1 refine am_wp_step _ rfl ?_
  refine ⟨rfl, ?_⟩
  iterate 2 refine am_wp_step _ rfl ?_
  refine ⟨rfl, rfl, rfl, ?_⟩
  iterate 3 refine am_wp_step _ rfl ?_
  refine am_inv am_c49 rfl ?_
  iterate 6 refine am_wp_step _ rfl ?_
  refine am_inx am_c222 rfl ?_
  iterate 5 refine am_wp_step _ rfl ?_
  refine ⟨trivial, _, rfl, ?_⟩
  iterate 1 refine am_wp_step _ rfl ?_
  refine ⟨rfl, by decide, rfl, rfl, ?_⟩
  iterate 1 refine am_wp_step _ rfl ?_
  refine ⟨rfl, ?_⟩
  iterate 3 refine am_wp_step _ rfl ?_
  iterate 1 refine am_wp_step _ rfl ?_
  refine ⟨rfl, ?_⟩
  iterate 1 refine am_wp_step _ rfl ?_
  refine ⟨rfl, ?_⟩
  iterate 3 refine am_wp_step _ rfl ?_
  iterate 1 refine am_wp_step _ rfl ?_
  refine ⟨rfl, ?_⟩
  iterate 1 refine am_wp_step _ rfl ?_
  refine ⟨rfl, ?_⟩
  iterate 3 refine am_wp_step _ rfl ?_
  iterate 2 refine am_wp_step _ rfl ?_
  refine ⟨rfl, rfl, rfl, ?_⟩
  iterate 2 refine am_wp_step _ rfl ?_
  refine am_inv am_c0 rfl ?_
  iterate 5 refine am_wp_step _ rfl ?_
  refine ⟨rfl, by decide, rfl, rfl, ?_⟩
  iterate 1 refine am_wp_step _ rfl ?_
  refine ⟨rfl, ?_⟩
  iterate 9 refine am_wp_step _ rfl ?_
  refine ⟨rfl, rfl, rfl, ?_⟩
  iterate 2 refine am_wp_step _ rfl ?_
  refine am_inv am_c23 rfl ?_
  iterate 3 refine am_wp_step _ rfl ?_
  refine ⟨rfl, ?_⟩
  iterate 1 refine am_wp_step _ rfl ?_
  refine ⟨by unfold vp_in; decide, rfl, ?_⟩
  iterate 9 refine am_wp_step _ rfl ?_
  refine ⟨rfl, rfl, rfl, ?_⟩
  iterate 2 refine am_wp_step _ rfl ?_
  refine am_inv am_c23 rfl ?_
  iterate 3 refine am_wp_step _ rfl ?_
  refine ⟨rfl, ?_⟩
  iterate 1 refine am_wp_step _ rfl ?_
  refine ⟨by unfold vp_in; decide, rfl, ?_⟩
  iterate 9 refine am_wp_step _ rfl ?_
  refine ⟨rfl, rfl, rfl, ?_⟩
  iterate 2 refine am_wp_step _ rfl ?_
  refine am_inv am_c23 rfl ?_
  iterate 3 refine am_wp_step _ rfl ?_
  refine ⟨rfl, ?_⟩
  iterate 1 refine am_wp_step _ rfl ?_
  refine ⟨by unfold vp_in; decide, rfl, ?_⟩
  iterate 9 refine am_wp_step _ rfl ?_
  refine ⟨rfl, rfl, rfl, ?_⟩
  iterate 2 refine am_wp_step _ rfl ?_
  refine am_inv am_c23 rfl ?_
  iterate 3 refine am_wp_step _ rfl ?_
  refine ⟨rfl, ?_⟩
  iterate 1 refine am_wp_step _ rfl ?_
  refine ⟨by unfold vp_in; decide, rfl, ?_⟩
  iterate 9 refine am_wp_step _ rfl ?_
  refine ⟨rfl, rfl, rfl, ?_⟩
  iterate 2 refine am_wp_step _ rfl ?_
  refine am_inv am_c23 rfl ?_
  iterate 3 refine am_wp_step _ rfl ?_
  refine ⟨rfl, ?_⟩
  iterate 1 refine am_wp_step _ rfl ?_
  refine ⟨by unfold vp_in; decide, rfl, ?_⟩
  iterate 9 refine am_wp_step _ rfl ?_
  refine ⟨rfl, rfl, rfl, ?_⟩
  iterate 2 refine am_wp_step _ rfl ?_
  refine am_inv am_c23 rfl ?_
  iterate 3 refine am_wp_step _ rfl ?_
  refine ⟨rfl, ?_⟩
  iterate 1 refine am_wp_step _ rfl ?_
  refine ⟨by unfold vp_in; decide, rfl, ?_⟩
  iterate 9 refine am_wp_step _ rfl ?_
  refine ⟨rfl, rfl, rfl, ?_⟩
  iterate 2 refine am_wp_step _ rfl ?_
  refine am_inv am_c23 rfl ?_
  iterate 3 refine am_wp_step _ rfl ?_
  refine ⟨rfl, ?_⟩
  iterate 1 refine am_wp_step _ rfl ?_
  refine ⟨by unfold vp_in; decide, rfl, ?_⟩
  iterate 9 refine am_wp_step _ rfl ?_
  refine ⟨rfl, rfl, rfl, ?_⟩
  iterate 2 refine am_wp_step _ rfl ?_
  refine am_inv am_c23 rfl ?_
  iterate 3 refine am_wp_step _ rfl ?_
  refine ⟨rfl, ?_⟩
  iterate 1 refine am_wp_step _ rfl ?_
  refine ⟨by unfold vp_in; decide, rfl, ?_⟩
  iterate 8 refine am_wp_step _ rfl ?_
  refine ⟨rfl, by decide, rfl, rfl, ?_⟩
  iterate 1 refine am_wp_step _ rfl ?_
  refine ⟨rfl, ?_⟩
  iterate 9 refine am_wp_step _ rfl ?_
  refine ⟨rfl, rfl, rfl, ?_⟩
  iterate 2 refine am_wp_step _ rfl ?_
  refine am_inv am_c19 rfl ?_
  iterate 3 refine am_wp_step _ rfl ?_
  refine ⟨rfl, ?_⟩
  iterate 1 refine am_wp_step _ rfl ?_
  refine ⟨by unfold vp_in; decide, rfl, ?_⟩
  iterate 9 refine am_wp_step _ rfl ?_
  refine ⟨rfl, rfl, rfl, ?_⟩
  iterate 2 refine am_wp_step _ rfl ?_
  refine am_inv am_c19 rfl ?_
  iterate 3 refine am_wp_step _ rfl ?_
  refine ⟨rfl, ?_⟩
  iterate 1 refine am_wp_step _ rfl ?_
  refine ⟨by unfold vp_in; decide, rfl, ?_⟩
  iterate 9 refine am_wp_step _ rfl ?_
  refine ⟨rfl, rfl, rfl, ?_⟩
  iterate 2 refine am_wp_step _ rfl ?_
  refine am_inv am_c19 rfl ?_
  iterate 3 refine am_wp_step _ rfl ?_
  refine ⟨rfl, ?_⟩
  iterate 1 refine am_wp_step _ rfl ?_
  refine ⟨by unfold vp_in; decide, rfl, ?_⟩
  iterate 9 refine am_wp_step _ rfl ?_
  refine ⟨rfl, rfl, rfl, ?_⟩
  iterate 2 refine am_wp_step _ rfl ?_
  refine am_inv am_c19 rfl ?_
  iterate 3 refine am_wp_step _ rfl ?_
  refine ⟨rfl, ?_⟩
  iterate 1 refine am_wp_step _ rfl ?_
  refine ⟨by unfold vp_in; decide, rfl, ?_⟩
  iterate 9 refine am_wp_step _ rfl ?_
  refine ⟨rfl, rfl, rfl, ?_⟩
  iterate 2 refine am_wp_step _ rfl ?_
  refine am_inv am_c19 rfl ?_
  iterate 3 refine am_wp_step _ rfl ?_
  refine ⟨rfl, ?_⟩
  iterate 1 refine am_wp_step _ rfl ?_
  refine ⟨by unfold vp_in; decide, rfl, ?_⟩
  iterate 9 refine am_wp_step _ rfl ?_
  refine ⟨rfl, rfl, rfl, ?_⟩
  iterate 2 refine am_wp_step _ rfl ?_
  refine am_inv am_c19 rfl ?_
  iterate 3 refine am_wp_step _ rfl ?_
  refine ⟨rfl, ?_⟩
  iterate 1 refine am_wp_step _ rfl ?_
  refine ⟨by unfold vp_in; decide, rfl, ?_⟩
  iterate 9 refine am_wp_step _ rfl ?_
  refine ⟨rfl, rfl, rfl, ?_⟩
  iterate 2 refine am_wp_step _ rfl ?_
  refine am_inv am_c19 rfl ?_
  iterate 3 refine am_wp_step _ rfl ?_
  refine ⟨rfl, ?_⟩
  iterate 1 refine am_wp_step _ rfl ?_
  refine ⟨by unfold vp_in; decide, rfl, ?_⟩
  iterate 9 refine am_wp_step _ rfl ?_
  refine ⟨rfl, rfl, rfl, ?_⟩
  iterate 2 refine am_wp_step _ rfl ?_
  refine am_inv am_c19 rfl ?_
  iterate 3 refine am_wp_step _ rfl ?_
  refine ⟨rfl, ?_⟩
  iterate 1 refine am_wp_step _ rfl ?_
  refine ⟨by unfold vp_in; decide, rfl, ?_⟩
  iterate 8 refine am_wp_step _ rfl ?_
  refine ⟨rfl, by decide, rfl, rfl, ?_⟩
  iterate 1 refine am_wp_step _ rfl ?_
  refine ⟨rfl, ?_⟩
  iterate 3 refine am_wp_step _ rfl ?_
  refine ⟨rfl, by decide, rfl, rfl, ?_⟩
  iterate 1 refine am_wp_step _ rfl ?_
  refine ⟨rfl, ?_⟩
  iterate 3 refine am_wp_step _ rfl ?_
  iterate 1 refine am_wp_step _ rfl ?_
  refine ⟨rfl, ?_⟩
  iterate 1 refine am_wp_step _ rfl ?_
  refine ⟨rfl, ?_⟩
  iterate 3 refine am_wp_step _ rfl ?_
  refine ⟨rfl, by decide, rfl, rfl, ?_⟩
  iterate 1 refine am_wp_step _ rfl ?_
  refine ⟨rfl, ?_⟩
  iterate 2 refine am_wp_step _ rfl ?_
  refine ⟨rfl, rfl, rfl, ?_⟩
  iterate 2 refine am_wp_step _ rfl ?_
  refine am_inv am_c32 rfl ?_
  iterate 4 refine am_wp_step _ rfl ?_
  refine ⟨rfl, rfl, rfl, ?_⟩
  iterate 3 refine am_wp_step _ rfl ?_
  refine am_inv am_c49 rfl ?_
  iterate 6 refine am_wp_step _ rfl ?_
  refine am_inx am_c222 rfl ?_
  iterate 5 refine am_wp_step _ rfl ?_
  refine ⟨trivial, _, rfl, ?_⟩
  iterate 1 refine am_wp_step _ rfl ?_
  refine ⟨rfl, by decide, rfl, rfl, ?_⟩
  iterate 1 refine am_wp_step _ rfl ?_
  refine ⟨rfl, ?_⟩
  iterate 3 refine am_wp_step _ rfl ?_
  iterate 1 refine am_wp_step _ rfl ?_
  refine ⟨rfl, ?_⟩
  iterate 1 refine am_wp_step _ rfl ?_
  refine ⟨rfl, ?_⟩
  iterate 2 refine am_wp_step _ rfl ?_
  refine ⟨rfl, rfl, rfl, ?_⟩
  iterate 3 refine am_wp_step _ rfl ?_
  refine am_inv am_c49 rfl ?_
  iterate 6 refine am_wp_step _ rfl ?_
  refine am_inx am_c222 rfl ?_
  iterate 5 refine am_wp_step _ rfl ?_
  refine ⟨trivial, _, rfl, ?_⟩
  iterate 1 refine am_wp_step _ rfl ?_
  refine ⟨rfl, by decide, rfl, rfl, ?_⟩
  iterate 1 refine am_wp_step _ rfl ?_
  refine ⟨rfl, ?_⟩
  iterate 3 refine am_wp_step _ rfl ?_
  iterate 1 refine am_wp_step _ rfl ?_
  refine ⟨rfl, ?_⟩
  iterate 1 refine am_wp_step _ rfl ?_
  refine ⟨rfl, ?_⟩
  iterate 1 refine am_wp_step _ rfl ?_
  refine ⟨rfl, ?_⟩
  iterate 1 refine am_wp_step _ rfl ?_
  refine ⟨rfl, ?_⟩
  iterate 2 refine am_wp_step _ rfl ?_
  refine ⟨rfl, rfl, rfl, ?_⟩
  iterate 2 refine am_wp_step _ rfl ?_
  refine am_inv am_c61 rfl ?_
  iterate 4 refine am_wp_step _ rfl ?_
  refine ⟨rfl, rfl, rfl, ?_⟩
  iterate 3 refine am_wp_step _ rfl ?_
  refine am_inv am_c49 rfl ?_
  iterate 6 refine am_wp_step _ rfl ?_
  refine am_inx am_c222 rfl ?_
  iterate 5 refine am_wp_step _ rfl ?_
  refine ⟨trivial, _, rfl, ?_⟩
  iterate 1 refine am_wp_step _ rfl ?_
  refine ⟨rfl, by decide, rfl, rfl, ?_⟩
  iterate 1 refine am_wp_step _ rfl ?_
  refine ⟨rfl, ?_⟩
  iterate 3 refine am_wp_step _ rfl ?_
  iterate 1 refine am_wp_step _ rfl ?_
  refine ⟨rfl, ?_⟩
  iterate 1 refine am_wp_step _ rfl ?_
  refine ⟨rfl, ?_⟩
  iterate 1 refine am_wp_step _ rfl ?_
  refine ⟨rfl, ?_⟩
  iterate 1 refine am_wp_step _ rfl ?_
  refine ⟨rfl, ?_⟩
  iterate 3 refine am_wp_step _ rfl ?_
  refine ⟨rfl, by decide, rfl, rfl, ?_⟩
  iterate 1 refine am_wp_step _ rfl ?_
  refine ⟨rfl, ?_⟩
  iterate 9 refine am_wp_step _ rfl ?_
  refine ⟨rfl, rfl, rfl, ?_⟩
  iterate 2 refine am_wp_step _ rfl ?_
  refine am_inv am_c56 rfl ?_
  iterate 5 refine am_wp_step _ rfl ?_
  refine ⟨rfl, by decide, rfl, rfl, ?_⟩
  iterate 1 refine am_wp_step _ rfl ?_
  refine ⟨rfl, ?_⟩
  iterate 1 refine am_wp_step _ rfl ?_
  refine ⟨rfl, ?_⟩
  iterate 1 refine am_wp_step _ rfl ?_
  refine ⟨by unfold vp_in; decide, rfl, ?_⟩
  iterate 9 refine am_wp_step _ rfl ?_
  refine ⟨rfl, rfl, rfl, ?_⟩
  iterate 2 refine am_wp_step _ rfl ?_
  refine am_inv am_c56 rfl ?_
  iterate 5 refine am_wp_step _ rfl ?_
  refine ⟨rfl, by decide, rfl, rfl, ?_⟩
  iterate 1 refine am_wp_step _ rfl ?_
  refine ⟨rfl, ?_⟩
  iterate 1 refine am_wp_step _ rfl ?_
  refine ⟨rfl, ?_⟩
  iterate 1 refine am_wp_step _ rfl ?_
  refine ⟨by unfold vp_in; decide, rfl, ?_⟩
  iterate 9 refine am_wp_step _ rfl ?_
  refine ⟨rfl, rfl, rfl, ?_⟩
  iterate 2 refine am_wp_step _ rfl ?_
  refine am_inv am_c56 rfl ?_
  iterate 5 refine am_wp_step _ rfl ?_
  refine ⟨rfl, by decide, rfl, rfl, ?_⟩
  iterate 1 refine am_wp_step _ rfl ?_
  refine ⟨rfl, ?_⟩
  iterate 1 refine am_wp_step _ rfl ?_
  refine ⟨rfl, ?_⟩
  iterate 1 refine am_wp_step _ rfl ?_
  refine ⟨by unfold vp_in; decide, rfl, ?_⟩
  iterate 9 refine am_wp_step _ rfl ?_
  refine ⟨rfl, rfl, rfl, ?_⟩
  iterate 2 refine am_wp_step _ rfl ?_
  refine am_inv am_c56 rfl ?_
  iterate 5 refine am_wp_step _ rfl ?_
  refine ⟨rfl, by decide, rfl, rfl, ?_⟩
  iterate 1 refine am_wp_step _ rfl ?_
  refine ⟨rfl, ?_⟩
  iterate 1 refine am_wp_step _ rfl ?_
  refine ⟨rfl, ?_⟩
  iterate 1 refine am_wp_step _ rfl ?_
  refine ⟨by unfold vp_in; decide, rfl, ?_⟩
  iterate 8 refine am_wp_step _ rfl ?_
  refine ⟨rfl, by decide, rfl, rfl, ?_⟩
  iterate 1 refine am_wp_step _ rfl ?_
  refine ⟨rfl, ?_⟩
  iterate 1 refine am_wp_step _ rfl ?_
  refine ⟨rfl, ?_⟩
  refine am_wpK_step _ rfl ?_
  refine am_wpK_step _ rfl ?_
  refine ⟨rfl, rfl, rfl, ?_⟩
  iterate 2 refine am_wpK_step _ rfl ?_
  refine am_inv am_c134 rfl ?_
  iterate 5 refine am_wp_step _ rfl ?_
  refine ⟨rfl, by decide, rfl, rfl, ?_⟩
  iterate 1 refine am_wp_step _ rfl ?_
  refine ⟨rfl, ?_⟩
  iterate 3 refine am_wp_step _ rfl ?_
  refine ⟨rfl, by decide, rfl, rfl, ?_⟩
  iterate 1 refine am_wp_step _ rfl ?_
  refine ⟨rfl, ?_⟩
  iterate 3 refine am_wp_step _ rfl ?_
  refine ⟨rfl, by decide, rfl, rfl, ?_⟩
  iterate 1 refine am_wp_step _ rfl ?_
  refine ⟨rfl, ?_⟩
  iterate 3 refine am_wp_step _ rfl ?_
  refine ⟨rfl, by decide, rfl, rfl, ?_⟩
  iterate 1 refine am_wp_step _ rfl ?_
  refine ⟨rfl, ?_⟩
  iterate 3 refine am_wp_step _ rfl ?_
  refine ⟨rfl, by decide, rfl, rfl, ?_⟩
  iterate 4 refine am_wp_step _ rfl ?_
  refine ⟨by unfold vp_in; decide, rfl, ?_⟩
  iterate 4 refine am_wp_step _ rfl ?_
  refine ⟨by unfold vp_in; decide, rfl, ?_⟩
  iterate 1 refine am_wp_step _ rfl ?_
  refine ⟨rfl, ?_⟩
  iterate 3 refine am_wp_step _ rfl ?_
  refine ⟨rfl, by decide, rfl, rfl, ?_⟩
  iterate 1 refine am_wp_step _ rfl ?_
  refine ⟨rfl, ?_⟩
  iterate 3 refine am_wp_step _ rfl ?_
  refine ⟨rfl, by decide, rfl, rfl, ?_⟩
  iterate 1 refine am_wp_step _ rfl ?_
  refine ⟨rfl, ?_⟩
  iterate 3 refine am_wp_step _ rfl ?_
  refine ⟨rfl, by decide, rfl, rfl, ?_⟩
  iterate 1 refine am_wp_step _ rfl ?_
  refine ⟨rfl, ?_⟩
  iterate 3 refine am_wp_step _ rfl ?_
  refine ⟨rfl, by decide, rfl, rfl, ?_⟩
  iterate 1 refine am_wp_step _ rfl ?_
  refine ⟨rfl, ?_⟩
  iterate 3 refine am_wp_step _ rfl ?_
  refine ⟨rfl, by decide, rfl, rfl, ?_⟩
  iterate 1 refine am_wp_step _ rfl ?_
  refine ⟨rfl, ?_⟩
  iterate 3 refine am_wp_step _ rfl ?_
  refine ⟨rfl, by decide, rfl, rfl, ?_⟩
  iterate 1 refine am_wp_step _ rfl ?_
  refine ⟨rfl, ?_⟩
  iterate 3 refine am_wp_step _ rfl ?_
  refine ⟨rfl, by decide, rfl, rfl, ?_⟩
  iterate 1 refine am_wp_step _ rfl ?_
  refine ⟨rfl, ?_⟩
  iterate 3 refine am_wp_step _ rfl ?_
  refine ⟨rfl, by decide, rfl, rfl, ?_⟩
  iterate 1 refine am_wp_step _ rfl ?_
  refine ⟨rfl, ?_⟩
  iterate 3 refine am_wp_step _ rfl ?_
  refine ⟨rfl, by decide, rfl, rfl, ?_⟩
  iterate 1 refine am_wp_step _ rfl ?_
  refine ⟨rfl, ?_⟩
  iterate 5 refine am_wp_step _ rfl ?_
  refine ⟨by unfold vp_in; decide, ?_⟩
  iterate 1 refine am_wp_step _ rfl ?_
  refine ⟨rfl, ?_⟩
  iterate 3 refine am_wpK_step _ rfl ?_
  refine am_wpK_end ?_
  refine ⟨rfl, rfl, rfl, rfl, ?_, ?_, ?_⟩
  · show am_smA am_mkA = true
    exact am_mkA_ok
  · show am_smM (am_mkI (am_M0 L xs)) (am_MI L xs)
    intro k hk s hs
    refine am_mkI_eq ?_
    have := (am_dec_own hk).1.1
    omega
  · show am_mkI (am_M0 L xs) 0 = am_X0 L xs
    exact am_mkI_0
