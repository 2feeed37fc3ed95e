/-! THE LAW'S LOOP -/
theorem mi_33 (L : Nat) (xs : Nat → Int32) (b i k : Nat) : am_MI L xs 33 b i k = if b = 0 ∧ i = 0 ∧ k = 5 then 1 else 0 := by
  simp [am_MI, am_mkI, am_up]
theorem mi_z (L : Nat) (xs : Nat → Int32) (r b i k : Nat) (hr : r = 17 ∨ r = 18 ∨ r = 28 ∨ r = 29 ∨ r = 22 ∨ r = 31 ∨ r = 32 ∨ r = 25 ∨ r = 27) : am_MI L xs r b i k = 0 := by
  rcases hr with rfl | rfl | rfl | rfl | rfl | rfl | rfl | rfl | rfl <;> simp [am_MI, am_mkI, am_up]
theorem RC_init (L : Nat) (xs : Nat → Int32) : RC (am_MI L xs) (am_MI L xs) := by
  have h33 := mi_33 L xs
  have hz := mi_z L xs
  have a0 : ∀ k, k ≠ 5 → am_MI L xs 33 0 0 k = 0 := fun k hk => by rw [h33, if_neg (by omega)]
  have hx : ∀ j, tx (am_MI L xs 33 0 0) j = 0 := fun j => a0 _ (by omega)
  have w0 : ∀ u, WX (tx (am_MI L xs 33 0 0)) u := fun u => ⟨0, by omega, by rw [hx, nI_0], fun q => absurd q (Nat.lt_irrefl _)⟩
  have e21 : ∀ b, b < 15 → am_MI L xs 21 b 0 1 = 0 := by
    intro b hb
    have : b = 0 ∨ b = 1 ∨ b = 2 ∨ b = 3 ∨ b = 4 ∨ b = 5 ∨ b = 6 ∨ b = 7 ∨ b = 8 ∨ b = 9 ∨ b = 10 ∨ b = 11 ∨ b = 12 ∨ b = 13 ∨ b = 14 := by omega
    rcases this with rfl | rfl | rfl | rfl | rfl | rfl | rfl | rfl | rfl | rfl | rfl | rfl | rfl | rfl | rfl <;> simp [am_MI, am_mkI, am_up]
  refine ⟨⟨0, 0, ⟨by omega, by omega, by rw [a0 1 (by omega), nI_0], by rw [a0 2 (by omega), nI_0], fun i hi => absurd hi (Nat.not_lt_zero _), fun i hi => absurd hi (Nat.not_lt_zero _), w0 0, w0 1⟩, ⟨?_, ?_, ?_, fun i k hi => absurd hi (Nat.not_lt_zero _), fun i k hi => absurd hi (Nat.not_lt_zero _), fun j hj => ?_, fun i hi => absurd hi (Nat.not_lt_zero _)⟩, ?_, ⟨?_, fun j hj => ?_⟩, ⟨?_, fun j hj => ?_⟩, ⟨0, by omega, ?_, ?_, fun j hj => absurd hj (Nat.not_lt_zero _)⟩, ⟨0, by omega, ?_, ?_, fun j hj => absurd hj (Nat.not_lt_zero _)⟩, ?_, ?_, ?_, ?_⟩, Or.inl ?_, ?_, fun k h1 h2 => ?_, ⟨0, by omega, ?_, ?_, fun j hj => absurd hj (Nat.not_lt_zero _)⟩, fun i hi => ⟨?_, ?_, ⟨0, by omega, ?_⟩, Or.inl ?_, fun j hj => ?_⟩, ?_, fun k hk => ?_⟩
  · simp [am_MI, am_mkI, am_up, nI_0]
  · simp [am_MI, am_mkI, am_up, nI_0]
  · rw [a0 0 (by omega)]; simp [am_MI, am_mkI, am_up]
  · rw [hz 28 0 0 j (by omega), a0 _ (by omega)]
  · simp [am_MI, am_mkI, am_up]
  · rw [hx]; exact e21 0 (by omega)
  · rw [hx] at hj; exact absurd hj (Nat.not_lt_zero _)
  · rw [hx]; exact e21 2 (by omega)
  · rw [hx] at hj; exact absurd hj (Nat.not_lt_zero _)
  · rw [a0 3 (by omega), nI_0]
  · rw [nI_0]; exact e21 4 (by omega)
  · rw [a0 4 (by omega), nI_0]
  · rw [nI_0]; exact e21 5 (by omega)
  · rw [h33]; simp [am_MI, am_mkI, am_up]
  · rw [a0 0 (by omega)]; decide
  · intro k h1 h2 j hj
    rw [a0 _ (by omega)]; decide
  · intro k hk; exact a0 k (by omega)
  · simp [am_MI, am_mkI, am_up]
  · simp [am_MI, am_mkI, am_up]
  · rw [hz 32 0 0 k (by omega), h33, if_neg (by omega)]
  · simp [am_MI, am_mkI, am_up, nI_0]
  · rw [nI_0]; exact e21 14 (by omega)
  · rw [hz 22 0 i 1 (by omega), h33, if_neg (by omega)]
  · rw [hz 22 0 i 2 (by omega), h33, if_neg (by omega)]
  · rw [h33, if_neg (by omega), nI_0]
  · rw [h33, if_neg (by omega)]
  · rw [hz 31 0 i j (by omega), h33, if_neg (by omega)]
  · unfold TC; simp [am_MI, am_mkI, am_up]
  · rw [h33, if_neg (by omega)]
theorem am_loop0 (hTab : ∀ x y, JJ 95 196 [.inl x, .inl y]) (hTxt : ∀ x, JJ 88 175 [.inl x]) : am_LOOP := by
  intro L xs hL
  refine am_for1 10 (fun x => [(0, .inr (.inr (0, 0, 0))), (1, .inr (.inr (25, 0, 0))), (2, .inr (.inr (26, 0, 0))), (3, .inl x)]) (fun t x M => x = nI (6 * t) ∧ RC M M ∧ M 0 = am_X0 L xs) (L / 6) ?_ ?_ 0 0 (am_MI L xs) (Nat.zero_le _) ⟨nI_0.symm, RC_init L xs, am_MI_0⟩
  · intro t x M ht hP K
    obtain ⟨rfl, hR, h0⟩ := hP
    have h6 : 6 * t + 6 ≤ L := by omega
    have hln : ∀ (N : am_F), N 0 = am_X0 L xs → (N 0 0 1 0).toNatClampNeg = L := fun N hN => by
      rw [hN]
      exact nI_clamp (by omega)
    have hlen := hln M h0
    have fin : ∀ M2, RC M2 M2 → M2 0 = M 0 → am_wp (am_cl am_cds 1000) am_c236 (fun v me => v = some (.inl 1) ∧ me.1 ≤ 128) 1079 [(0, .inr (.inr (0, 0, 0))), (1, .inr (.inr (25, 0, 0))), (2, .inr (.inr (26, 0, 0))), (3, .inl (nI (6 * t)))] [] (am_S M2) := by
      intro M2 r1 r2
      iterate 2 refine am_wp_step _ rfl ?_
      exact K _ _ ⟨nI_add _ 6, r1, r2.trans h0⟩
    iterate 6 refine am_wp_step _ rfl ?_
    refine am_iteF (by show ¬ nI (M 0 0 1 0).toNatClampNeg - 6 < nI (6 * t); rw [hlen, show nI L - 6 = nI (L - 6) from pk_sub (b := 6) (by omega)]; exact nI_nlt (by omega) (by omega)) ?_
    iterate 3 refine am_wp_step _ rfl ?_
    refine am_ixN (6 * t) rfl (by rw [hlen]; omega) (by rw [hlen]; omega) (fun e => ?_)
    rw [e]
    iterate 3 refine am_wp_step _ rfl ?_
    refine am_ite (fun _ => ?_) (fun _ => ?_)
    · obtain ⟨v, M1, M2, c1, c2, r1, r2, r3⟩ := jj_dead (M 0 0 0 (6 * t + 1)) (M 0 0 0 (6 * t + 2)) (M 0 0 0 (6 * t + 3)) M hR
      iterate 6 refine am_wp_step _ rfl ?_
      refine am_ixN (6 * t + 1) (nI_add _ 1) (by rw [hlen]; omega) (by rw [hlen]; omega) (fun e => ?_)
      rw [e]
      iterate 5 refine am_wp_step _ rfl ?_
      refine am_ixN (6 * t + 2) (nI_add _ 2) (by rw [hlen]; omega) (by rw [hlen]; omega) (fun e => ?_)
      rw [e]
      iterate 5 refine am_wp_step _ rfl ?_
      refine am_ixN (6 * t + 3) (nI_add _ 3) (by rw [hlen]; omega) (by rw [hlen]; omega) (fun e => ?_)
      rw [e]
      iterate 1 refine am_wp_step _ rfl ?_
      refine ⟨_, _, c1, ?_⟩
      have hlen1 := hln M1 (r3.trans h0)
      iterate 6 refine am_wp_step _ rfl ?_
      refine am_ixN (6 * t + 1) (nI_add _ 1) (by rw [hlen1]; omega) (by rw [hlen1]; omega) (fun e => ?_)
      rw [e]
      iterate 5 refine am_wp_step _ rfl ?_
      refine am_ixN (6 * t + 2) (nI_add _ 2) (by rw [hlen1]; omega) (by rw [hlen1]; omega) (fun e => ?_)
      rw [e]
      iterate 5 refine am_wp_step _ rfl ?_
      refine am_ixN (6 * t + 3) (nI_add _ 3) (by rw [hlen1]; omega) (by rw [hlen1]; omega) (fun e => ?_)
      rw [e]
      rw [show (am_S M1).2.2 0 = (am_S M).2.2 0 from r3]
      iterate 1 refine am_wp_step _ rfl ?_
      refine ⟨_, _, c2, ?_⟩
      iterate 1 refine am_wp_step _ rfl ?_
      refine am_iteT rfl ?_
      exact fin M2 r1 r2
    refine am_ite (fun _ => ?_) (fun _ => ?_)
    · obtain ⟨v, M1, M2, c1, c2, r1, r2, r3⟩ := jj_ofDead (M 0 0 0 (6 * t + 1)) (M 0 0 0 (6 * t + 2)) M hR
      iterate 6 refine am_wp_step _ rfl ?_
      refine am_ixN (6 * t + 1) (nI_add _ 1) (by rw [hlen]; omega) (by rw [hlen]; omega) (fun e => ?_)
      rw [e]
      iterate 5 refine am_wp_step _ rfl ?_
      refine am_ixN (6 * t + 2) (nI_add _ 2) (by rw [hlen]; omega) (by rw [hlen]; omega) (fun e => ?_)
      rw [e]
      iterate 1 refine am_wp_step _ rfl ?_
      refine ⟨_, _, c1, ?_⟩
      have hlen1 := hln M1 (r3.trans h0)
      iterate 6 refine am_wp_step _ rfl ?_
      refine am_ixN (6 * t + 1) (nI_add _ 1) (by rw [hlen1]; omega) (by rw [hlen1]; omega) (fun e => ?_)
      rw [e]
      iterate 5 refine am_wp_step _ rfl ?_
      refine am_ixN (6 * t + 2) (nI_add _ 2) (by rw [hlen1]; omega) (by rw [hlen1]; omega) (fun e => ?_)
      rw [e]
      rw [show (am_S M1).2.2 0 = (am_S M).2.2 0 from r3]
      iterate 1 refine am_wp_step _ rfl ?_
      refine ⟨_, _, c2, ?_⟩
      iterate 1 refine am_wp_step _ rfl ?_
      refine am_iteT rfl ?_
      exact fin M2 r1 r2
    refine am_ite (fun _ => ?_) (fun _ => ?_)
    · obtain ⟨v, M1, M2, c1, c2, r1, r2, r3⟩ := jj_change (M 0 0 0 (6 * t + 1)) (M 0 0 0 (6 * t + 2)) (M 0 0 0 (6 * t + 3)) M hR
      iterate 6 refine am_wp_step _ rfl ?_
      refine am_ixN (6 * t + 1) (nI_add _ 1) (by rw [hlen]; omega) (by rw [hlen]; omega) (fun e => ?_)
      rw [e]
      iterate 5 refine am_wp_step _ rfl ?_
      refine am_ixN (6 * t + 2) (nI_add _ 2) (by rw [hlen]; omega) (by rw [hlen]; omega) (fun e => ?_)
      rw [e]
      iterate 5 refine am_wp_step _ rfl ?_
      refine am_ixN (6 * t + 3) (nI_add _ 3) (by rw [hlen]; omega) (by rw [hlen]; omega) (fun e => ?_)
      rw [e]
      iterate 1 refine am_wp_step _ rfl ?_
      refine ⟨_, _, c1, ?_⟩
      have hlen1 := hln M1 (r3.trans h0)
      iterate 6 refine am_wp_step _ rfl ?_
      refine am_ixN (6 * t + 1) (nI_add _ 1) (by rw [hlen1]; omega) (by rw [hlen1]; omega) (fun e => ?_)
      rw [e]
      iterate 5 refine am_wp_step _ rfl ?_
      refine am_ixN (6 * t + 2) (nI_add _ 2) (by rw [hlen1]; omega) (by rw [hlen1]; omega) (fun e => ?_)
      rw [e]
      iterate 5 refine am_wp_step _ rfl ?_
      refine am_ixN (6 * t + 3) (nI_add _ 3) (by rw [hlen1]; omega) (by rw [hlen1]; omega) (fun e => ?_)
      rw [e]
      rw [show (am_S M1).2.2 0 = (am_S M).2.2 0 from r3]
      iterate 1 refine am_wp_step _ rfl ?_
      refine ⟨_, _, c2, ?_⟩
      iterate 1 refine am_wp_step _ rfl ?_
      refine am_iteT rfl ?_
      exact fin M2 r1 r2
    refine am_ite (fun _ => ?_) (fun _ => ?_)
    · obtain ⟨v, M1, M2, c1, c2, r1, r2, r3⟩ := jj_become (M 0 0 0 (6 * t + 1)) (M 0 0 0 (6 * t + 2)) M hR
      iterate 6 refine am_wp_step _ rfl ?_
      refine am_ixN (6 * t + 1) (nI_add _ 1) (by rw [hlen]; omega) (by rw [hlen]; omega) (fun e => ?_)
      rw [e]
      iterate 5 refine am_wp_step _ rfl ?_
      refine am_ixN (6 * t + 2) (nI_add _ 2) (by rw [hlen]; omega) (by rw [hlen]; omega) (fun e => ?_)
      rw [e]
      iterate 1 refine am_wp_step _ rfl ?_
      refine ⟨_, _, c1, ?_⟩
      have hlen1 := hln M1 (r3.trans h0)
      iterate 6 refine am_wp_step _ rfl ?_
      refine am_ixN (6 * t + 1) (nI_add _ 1) (by rw [hlen1]; omega) (by rw [hlen1]; omega) (fun e => ?_)
      rw [e]
      iterate 5 refine am_wp_step _ rfl ?_
      refine am_ixN (6 * t + 2) (nI_add _ 2) (by rw [hlen1]; omega) (by rw [hlen1]; omega) (fun e => ?_)
      rw [e]
      rw [show (am_S M1).2.2 0 = (am_S M).2.2 0 from r3]
      iterate 1 refine am_wp_step _ rfl ?_
      refine ⟨_, _, c2, ?_⟩
      iterate 1 refine am_wp_step _ rfl ?_
      refine am_iteT rfl ?_
      exact fin M2 r1 r2
    refine am_ite (fun _ => ?_) (fun _ => ?_)
    · obtain ⟨v, M1, M2, c1, c2, r1, r2, r3⟩ := jj_as (M 0 0 0 (6 * t + 1)) (M 0 0 0 (6 * t + 2)) M hR
      iterate 6 refine am_wp_step _ rfl ?_
      refine am_ixN (6 * t + 1) (nI_add _ 1) (by rw [hlen]; omega) (by rw [hlen]; omega) (fun e => ?_)
      rw [e]
      iterate 5 refine am_wp_step _ rfl ?_
      refine am_ixN (6 * t + 2) (nI_add _ 2) (by rw [hlen]; omega) (by rw [hlen]; omega) (fun e => ?_)
      rw [e]
      iterate 1 refine am_wp_step _ rfl ?_
      refine ⟨_, _, c1, ?_⟩
      have hlen1 := hln M1 (r3.trans h0)
      iterate 6 refine am_wp_step _ rfl ?_
      refine am_ixN (6 * t + 1) (nI_add _ 1) (by rw [hlen1]; omega) (by rw [hlen1]; omega) (fun e => ?_)
      rw [e]
      iterate 5 refine am_wp_step _ rfl ?_
      refine am_ixN (6 * t + 2) (nI_add _ 2) (by rw [hlen1]; omega) (by rw [hlen1]; omega) (fun e => ?_)
      rw [e]
      rw [show (am_S M1).2.2 0 = (am_S M).2.2 0 from r3]
      iterate 1 refine am_wp_step _ rfl ?_
      refine ⟨_, _, c2, ?_⟩
      iterate 1 refine am_wp_step _ rfl ?_
      refine am_iteT rfl ?_
      exact fin M2 r1 r2
    refine am_ite (fun _ => ?_) (fun _ => ?_)
    · obtain ⟨v, M1, M2, c1, c2, r1, r2, r3⟩ := jj_takes (M 0 0 0 (6 * t + 1)) (M 0 0 0 (6 * t + 2)) M hR
      iterate 6 refine am_wp_step _ rfl ?_
      refine am_ixN (6 * t + 1) (nI_add _ 1) (by rw [hlen]; omega) (by rw [hlen]; omega) (fun e => ?_)
      rw [e]
      iterate 5 refine am_wp_step _ rfl ?_
      refine am_ixN (6 * t + 2) (nI_add _ 2) (by rw [hlen]; omega) (by rw [hlen]; omega) (fun e => ?_)
      rw [e]
      iterate 1 refine am_wp_step _ rfl ?_
      refine ⟨_, _, c1, ?_⟩
      have hlen1 := hln M1 (r3.trans h0)
      iterate 6 refine am_wp_step _ rfl ?_
      refine am_ixN (6 * t + 1) (nI_add _ 1) (by rw [hlen1]; omega) (by rw [hlen1]; omega) (fun e => ?_)
      rw [e]
      iterate 5 refine am_wp_step _ rfl ?_
      refine am_ixN (6 * t + 2) (nI_add _ 2) (by rw [hlen1]; omega) (by rw [hlen1]; omega) (fun e => ?_)
      rw [e]
      rw [show (am_S M1).2.2 0 = (am_S M).2.2 0 from r3]
      iterate 1 refine am_wp_step _ rfl ?_
      refine ⟨_, _, c2, ?_⟩
      iterate 1 refine am_wp_step _ rfl ?_
      refine am_iteT rfl ?_
      exact fin M2 r1 r2
    refine am_ite (fun _ => ?_) (fun _ => ?_)
    · obtain ⟨v, M1, M2, c1, c2, r1, r2, r3⟩ := jj_dish (M 0 0 0 (6 * t + 1)) (M 0 0 0 (6 * t + 2)) (M 0 0 0 (6 * t + 3)) M hR
      iterate 6 refine am_wp_step _ rfl ?_
      refine am_ixN (6 * t + 1) (nI_add _ 1) (by rw [hlen]; omega) (by rw [hlen]; omega) (fun e => ?_)
      rw [e]
      iterate 5 refine am_wp_step _ rfl ?_
      refine am_ixN (6 * t + 2) (nI_add _ 2) (by rw [hlen]; omega) (by rw [hlen]; omega) (fun e => ?_)
      rw [e]
      iterate 5 refine am_wp_step _ rfl ?_
      refine am_ixN (6 * t + 3) (nI_add _ 3) (by rw [hlen]; omega) (by rw [hlen]; omega) (fun e => ?_)
      rw [e]
      iterate 1 refine am_wp_step _ rfl ?_
      refine ⟨_, _, c1, ?_⟩
      have hlen1 := hln M1 (r3.trans h0)
      iterate 6 refine am_wp_step _ rfl ?_
      refine am_ixN (6 * t + 1) (nI_add _ 1) (by rw [hlen1]; omega) (by rw [hlen1]; omega) (fun e => ?_)
      rw [e]
      iterate 5 refine am_wp_step _ rfl ?_
      refine am_ixN (6 * t + 2) (nI_add _ 2) (by rw [hlen1]; omega) (by rw [hlen1]; omega) (fun e => ?_)
      rw [e]
      iterate 5 refine am_wp_step _ rfl ?_
      refine am_ixN (6 * t + 3) (nI_add _ 3) (by rw [hlen1]; omega) (by rw [hlen1]; omega) (fun e => ?_)
      rw [e]
      rw [show (am_S M1).2.2 0 = (am_S M).2.2 0 from r3]
      iterate 1 refine am_wp_step _ rfl ?_
      refine ⟨_, _, c2, ?_⟩
      iterate 1 refine am_wp_step _ rfl ?_
      refine am_iteT rfl ?_
      exact fin M2 r1 r2
    refine am_ite (fun _ => ?_) (fun _ => ?_)
    · obtain ⟨v, M1, M2, c1, c2, r1, r2, r3⟩ := jj_ofDish (M 0 0 0 (6 * t + 1)) (M 0 0 0 (6 * t + 2)) M hR
      iterate 6 refine am_wp_step _ rfl ?_
      refine am_ixN (6 * t + 1) (nI_add _ 1) (by rw [hlen]; omega) (by rw [hlen]; omega) (fun e => ?_)
      rw [e]
      iterate 5 refine am_wp_step _ rfl ?_
      refine am_ixN (6 * t + 2) (nI_add _ 2) (by rw [hlen]; omega) (by rw [hlen]; omega) (fun e => ?_)
      rw [e]
      iterate 1 refine am_wp_step _ rfl ?_
      refine ⟨_, _, c1, ?_⟩
      have hlen1 := hln M1 (r3.trans h0)
      iterate 6 refine am_wp_step _ rfl ?_
      refine am_ixN (6 * t + 1) (nI_add _ 1) (by rw [hlen1]; omega) (by rw [hlen1]; omega) (fun e => ?_)
      rw [e]
      iterate 5 refine am_wp_step _ rfl ?_
      refine am_ixN (6 * t + 2) (nI_add _ 2) (by rw [hlen1]; omega) (by rw [hlen1]; omega) (fun e => ?_)
      rw [e]
      rw [show (am_S M1).2.2 0 = (am_S M).2.2 0 from r3]
      iterate 1 refine am_wp_step _ rfl ?_
      refine ⟨_, _, c2, ?_⟩
      iterate 1 refine am_wp_step _ rfl ?_
      refine am_iteT rfl ?_
      exact fin M2 r1 r2
    refine am_ite (fun _ => ?_) (fun _ => ?_)
    · obtain ⟨v, M1, M2, c1, c2, r1, r2, r3⟩ := jj_cook (M 0 0 0 (6 * t + 1)) (M 0 0 0 (6 * t + 2)) (M 0 0 0 (6 * t + 3)) M hR
      iterate 6 refine am_wp_step _ rfl ?_
      refine am_ixN (6 * t + 1) (nI_add _ 1) (by rw [hlen]; omega) (by rw [hlen]; omega) (fun e => ?_)
      rw [e]
      iterate 5 refine am_wp_step _ rfl ?_
      refine am_ixN (6 * t + 2) (nI_add _ 2) (by rw [hlen]; omega) (by rw [hlen]; omega) (fun e => ?_)
      rw [e]
      iterate 5 refine am_wp_step _ rfl ?_
      refine am_ixN (6 * t + 3) (nI_add _ 3) (by rw [hlen]; omega) (by rw [hlen]; omega) (fun e => ?_)
      rw [e]
      iterate 1 refine am_wp_step _ rfl ?_
      refine ⟨_, _, c1, ?_⟩
      have hlen1 := hln M1 (r3.trans h0)
      iterate 6 refine am_wp_step _ rfl ?_
      refine am_ixN (6 * t + 1) (nI_add _ 1) (by rw [hlen1]; omega) (by rw [hlen1]; omega) (fun e => ?_)
      rw [e]
      iterate 5 refine am_wp_step _ rfl ?_
      refine am_ixN (6 * t + 2) (nI_add _ 2) (by rw [hlen1]; omega) (by rw [hlen1]; omega) (fun e => ?_)
      rw [e]
      iterate 5 refine am_wp_step _ rfl ?_
      refine am_ixN (6 * t + 3) (nI_add _ 3) (by rw [hlen1]; omega) (by rw [hlen1]; omega) (fun e => ?_)
      rw [e]
      rw [show (am_S M1).2.2 0 = (am_S M).2.2 0 from r3]
      iterate 1 refine am_wp_step _ rfl ?_
      refine ⟨_, _, c2, ?_⟩
      iterate 1 refine am_wp_step _ rfl ?_
      refine am_iteT rfl ?_
      exact fin M2 r1 r2
    refine am_ite (fun _ => ?_) (fun _ => ?_)
    · obtain ⟨v, M1, M2, c1, c2, r1, r2, r3⟩ := jj_serve (M 0 0 0 (6 * t + 1)) (M 0 0 0 (6 * t + 2)) M hR
      iterate 6 refine am_wp_step _ rfl ?_
      refine am_ixN (6 * t + 1) (nI_add _ 1) (by rw [hlen]; omega) (by rw [hlen]; omega) (fun e => ?_)
      rw [e]
      iterate 5 refine am_wp_step _ rfl ?_
      refine am_ixN (6 * t + 2) (nI_add _ 2) (by rw [hlen]; omega) (by rw [hlen]; omega) (fun e => ?_)
      rw [e]
      iterate 1 refine am_wp_step _ rfl ?_
      refine ⟨_, _, c1, ?_⟩
      have hlen1 := hln M1 (r3.trans h0)
      iterate 6 refine am_wp_step _ rfl ?_
      refine am_ixN (6 * t + 1) (nI_add _ 1) (by rw [hlen1]; omega) (by rw [hlen1]; omega) (fun e => ?_)
      rw [e]
      iterate 5 refine am_wp_step _ rfl ?_
      refine am_ixN (6 * t + 2) (nI_add _ 2) (by rw [hlen1]; omega) (by rw [hlen1]; omega) (fun e => ?_)
      rw [e]
      rw [show (am_S M1).2.2 0 = (am_S M).2.2 0 from r3]
      iterate 1 refine am_wp_step _ rfl ?_
      refine ⟨_, _, c2, ?_⟩
      iterate 1 refine am_wp_step _ rfl ?_
      refine am_iteT rfl ?_
      exact fin M2 r1 r2
    refine am_ite (fun _ => ?_) (fun _ => ?_)
    · obtain ⟨v, M1, M2, c1, c2, r1, r2, r3⟩ := jj_eat (M 0 0 0 (6 * t + 1)) M hR
      iterate 6 refine am_wp_step _ rfl ?_
      refine am_ixN (6 * t + 1) (nI_add _ 1) (by rw [hlen]; omega) (by rw [hlen]; omega) (fun e => ?_)
      rw [e]
      iterate 1 refine am_wp_step _ rfl ?_
      refine ⟨_, _, c1, ?_⟩
      have hlen1 := hln M1 (r3.trans h0)
      iterate 6 refine am_wp_step _ rfl ?_
      refine am_ixN (6 * t + 1) (nI_add _ 1) (by rw [hlen1]; omega) (by rw [hlen1]; omega) (fun e => ?_)
      rw [e]
      rw [show (am_S M1).2.2 0 = (am_S M).2.2 0 from r3]
      iterate 1 refine am_wp_step _ rfl ?_
      refine ⟨_, _, c2, ?_⟩
      iterate 1 refine am_wp_step _ rfl ?_
      refine am_iteT rfl ?_
      exact fin M2 r1 r2
    refine am_ite (fun _ => ?_) (fun _ => ?_)
    · obtain ⟨v, M1, M2, c1, c2, r1, r2, r3⟩ := jj_hunger (M 0 0 0 (6 * t + 1)) M hR
      iterate 6 refine am_wp_step _ rfl ?_
      refine am_ixN (6 * t + 1) (nI_add _ 1) (by rw [hlen]; omega) (by rw [hlen]; omega) (fun e => ?_)
      rw [e]
      iterate 1 refine am_wp_step _ rfl ?_
      refine ⟨_, _, c1, ?_⟩
      have hlen1 := hln M1 (r3.trans h0)
      iterate 6 refine am_wp_step _ rfl ?_
      refine am_ixN (6 * t + 1) (nI_add _ 1) (by rw [hlen1]; omega) (by rw [hlen1]; omega) (fun e => ?_)
      rw [e]
      rw [show (am_S M1).2.2 0 = (am_S M).2.2 0 from r3]
      iterate 1 refine am_wp_step _ rfl ?_
      refine ⟨_, _, c2, ?_⟩
      iterate 1 refine am_wp_step _ rfl ?_
      refine am_iteT rfl ?_
      exact fin M2 r1 r2
    refine am_ite (fun _ => ?_) (fun _ => ?_)
    · obtain ⟨v, M1, M2, c1, c2, r1, r2, r3⟩ := jj_marry (M 0 0 0 (6 * t + 1)) (M 0 0 0 (6 * t + 2)) M hR
      iterate 6 refine am_wp_step _ rfl ?_
      refine am_ixN (6 * t + 1) (nI_add _ 1) (by rw [hlen]; omega) (by rw [hlen]; omega) (fun e => ?_)
      rw [e]
      iterate 5 refine am_wp_step _ rfl ?_
      refine am_ixN (6 * t + 2) (nI_add _ 2) (by rw [hlen]; omega) (by rw [hlen]; omega) (fun e => ?_)
      rw [e]
      iterate 1 refine am_wp_step _ rfl ?_
      refine ⟨_, _, c1, ?_⟩
      have hlen1 := hln M1 (r3.trans h0)
      iterate 6 refine am_wp_step _ rfl ?_
      refine am_ixN (6 * t + 1) (nI_add _ 1) (by rw [hlen1]; omega) (by rw [hlen1]; omega) (fun e => ?_)
      rw [e]
      iterate 5 refine am_wp_step _ rfl ?_
      refine am_ixN (6 * t + 2) (nI_add _ 2) (by rw [hlen1]; omega) (by rw [hlen1]; omega) (fun e => ?_)
      rw [e]
      rw [show (am_S M1).2.2 0 = (am_S M).2.2 0 from r3]
      iterate 1 refine am_wp_step _ rfl ?_
      refine ⟨_, _, c2, ?_⟩
      iterate 1 refine am_wp_step _ rfl ?_
      refine am_iteT rfl ?_
      exact fin M2 r1 r2
    refine am_ite (fun _ => ?_) (fun _ => ?_)
    · iterate 6 refine am_wp_step _ rfl ?_
      refine am_ixN (6 * t + 1) (nI_add _ 1) (by rw [hlen]; omega) (by rw [hlen]; omega) (fun e => ?_)
      rw [e]
      iterate 8 refine am_wp_step _ rfl ?_
      refine am_ixN (6 * t + 2) (nI_add _ 2) (by rw [hlen]; omega) (by rw [hlen]; omega) (fun e => ?_)
      rw [e]
      iterate 9 refine am_wp_step _ rfl ?_
      refine am_ixN (6 * t + 3) (nI_add _ 3) (by rw [hlen]; omega) (by rw [hlen]; omega) (fun e => ?_)
      rw [e]
      iterate 1 refine am_wp_step _ rfl ?_
      obtain ⟨v, M1, M2, c1, c2, r1, r2, r3⟩ := jj_feed (((M 0 0 0 (6 * t + 1)).toInt64 <<< (Int32.toInt64 32 &&& 63)) ||| ((M 0 0 0 (6 * t + 2)).toInt64 &&& Int64.ofNat 4294967295)) (M 0 0 0 (6 * t + 3)) M hR
      refine ⟨_, _, c1, ?_⟩
      have hlen1 := hln M1 (r3.trans h0)
      iterate 6 refine am_wp_step _ rfl ?_
      refine am_ixN (6 * t + 1) (nI_add _ 1) (by rw [hlen1]; omega) (by rw [hlen1]; omega) (fun e => ?_)
      rw [e]
      iterate 8 refine am_wp_step _ rfl ?_
      refine am_ixN (6 * t + 2) (nI_add _ 2) (by rw [hlen1]; omega) (by rw [hlen1]; omega) (fun e => ?_)
      rw [e]
      iterate 9 refine am_wp_step _ rfl ?_
      refine am_ixN (6 * t + 3) (nI_add _ 3) (by rw [hlen1]; omega) (by rw [hlen1]; omega) (fun e => ?_)
      rw [e]
      rw [show (am_S M1).2.2 0 = (am_S M).2.2 0 from r3]
      iterate 1 refine am_wp_step _ rfl ?_
      refine ⟨_, _, c2, ?_⟩
      iterate 1 refine am_wp_step _ rfl ?_
      refine am_iteT rfl ?_
      exact fin M2 r1 r2
    refine am_ite (fun _ => ?_) (fun _ => ?_)
    · obtain ⟨v, M1, M2, c1, c2, r1, r2, r3⟩ := hTxt (M 0 0 0 (6 * t + 1)) M hR
      iterate 6 refine am_wp_step _ rfl ?_
      refine am_ixN (6 * t + 1) (nI_add _ 1) (by rw [hlen]; omega) (by rw [hlen]; omega) (fun e => ?_)
      rw [e]
      iterate 1 refine am_wp_step _ rfl ?_
      refine ⟨_, _, c1, ?_⟩
      have hlen1 := hln M1 (r3.trans h0)
      iterate 6 refine am_wp_step _ rfl ?_
      refine am_ixN (6 * t + 1) (nI_add _ 1) (by rw [hlen1]; omega) (by rw [hlen1]; omega) (fun e => ?_)
      rw [e]
      rw [show (am_S M1).2.2 0 = (am_S M).2.2 0 from r3]
      iterate 1 refine am_wp_step _ rfl ?_
      refine ⟨_, _, c2, ?_⟩
      iterate 1 refine am_wp_step _ rfl ?_
      refine am_iteT rfl ?_
      exact fin M2 r1 r2
    refine am_ite (fun _ => ?_) (fun _ => ?_)
    · obtain ⟨v, M1, M2, c1, c2, r1, r2, r3⟩ := jj_law (M 0 0 0 (6 * t + 1)) (M 0 0 0 (6 * t + 2)) (M 0 0 0 (6 * t + 3)) (M 0 0 0 (6 * t + 4)) (M 0 0 0 (6 * t + 5)) M hR
      iterate 6 refine am_wp_step _ rfl ?_
      refine am_ixN (6 * t + 1) (nI_add _ 1) (by rw [hlen]; omega) (by rw [hlen]; omega) (fun e => ?_)
      rw [e]
      iterate 5 refine am_wp_step _ rfl ?_
      refine am_ixN (6 * t + 2) (nI_add _ 2) (by rw [hlen]; omega) (by rw [hlen]; omega) (fun e => ?_)
      rw [e]
      iterate 5 refine am_wp_step _ rfl ?_
      refine am_ixN (6 * t + 3) (nI_add _ 3) (by rw [hlen]; omega) (by rw [hlen]; omega) (fun e => ?_)
      rw [e]
      iterate 5 refine am_wp_step _ rfl ?_
      refine am_ixN (6 * t + 4) (nI_add _ 4) (by rw [hlen]; omega) (by rw [hlen]; omega) (fun e => ?_)
      rw [e]
      iterate 5 refine am_wp_step _ rfl ?_
      refine am_ixN (6 * t + 5) (nI_add _ 5) (by rw [hlen]; omega) (by rw [hlen]; omega) (fun e => ?_)
      rw [e]
      iterate 1 refine am_wp_step _ rfl ?_
      refine ⟨_, _, c1, ?_⟩
      have hlen1 := hln M1 (r3.trans h0)
      iterate 6 refine am_wp_step _ rfl ?_
      refine am_ixN (6 * t + 1) (nI_add _ 1) (by rw [hlen1]; omega) (by rw [hlen1]; omega) (fun e => ?_)
      rw [e]
      iterate 5 refine am_wp_step _ rfl ?_
      refine am_ixN (6 * t + 2) (nI_add _ 2) (by rw [hlen1]; omega) (by rw [hlen1]; omega) (fun e => ?_)
      rw [e]
      iterate 5 refine am_wp_step _ rfl ?_
      refine am_ixN (6 * t + 3) (nI_add _ 3) (by rw [hlen1]; omega) (by rw [hlen1]; omega) (fun e => ?_)
      rw [e]
      iterate 5 refine am_wp_step _ rfl ?_
      refine am_ixN (6 * t + 4) (nI_add _ 4) (by rw [hlen1]; omega) (by rw [hlen1]; omega) (fun e => ?_)
      rw [e]
      iterate 5 refine am_wp_step _ rfl ?_
      refine am_ixN (6 * t + 5) (nI_add _ 5) (by rw [hlen1]; omega) (by rw [hlen1]; omega) (fun e => ?_)
      rw [e]
      rw [show (am_S M1).2.2 0 = (am_S M).2.2 0 from r3]
      iterate 1 refine am_wp_step _ rfl ?_
      refine ⟨_, _, c2, ?_⟩
      iterate 1 refine am_wp_step _ rfl ?_
      refine am_iteT rfl ?_
      exact fin M2 r1 r2
    refine am_ite (fun _ => ?_) (fun _ => ?_)
    · obtain ⟨v, M1, M2, c1, c2, r1, r2, r3⟩ := jj_bells (M 0 0 0 (6 * t + 1)) M hR
      iterate 6 refine am_wp_step _ rfl ?_
      refine am_ixN (6 * t + 1) (nI_add _ 1) (by rw [hlen]; omega) (by rw [hlen]; omega) (fun e => ?_)
      rw [e]
      iterate 1 refine am_wp_step _ rfl ?_
      refine ⟨_, _, c1, ?_⟩
      have hlen1 := hln M1 (r3.trans h0)
      iterate 6 refine am_wp_step _ rfl ?_
      refine am_ixN (6 * t + 1) (nI_add _ 1) (by rw [hlen1]; omega) (by rw [hlen1]; omega) (fun e => ?_)
      rw [e]
      rw [show (am_S M1).2.2 0 = (am_S M).2.2 0 from r3]
      iterate 1 refine am_wp_step _ rfl ?_
      refine ⟨_, _, c2, ?_⟩
      iterate 1 refine am_wp_step _ rfl ?_
      refine am_iteT rfl ?_
      exact fin M2 r1 r2
    refine am_ite (fun _ => ?_) (fun _ => ?_)
    · obtain ⟨v, M1, M2, c1, c2, r1, r2, r3⟩ := jj_loose (M 0 0 0 (6 * t + 1)) M hR
      iterate 6 refine am_wp_step _ rfl ?_
      refine am_ixN (6 * t + 1) (nI_add _ 1) (by rw [hlen]; omega) (by rw [hlen]; omega) (fun e => ?_)
      rw [e]
      iterate 1 refine am_wp_step _ rfl ?_
      refine ⟨_, _, c1, ?_⟩
      have hlen1 := hln M1 (r3.trans h0)
      iterate 6 refine am_wp_step _ rfl ?_
      refine am_ixN (6 * t + 1) (nI_add _ 1) (by rw [hlen1]; omega) (by rw [hlen1]; omega) (fun e => ?_)
      rw [e]
      rw [show (am_S M1).2.2 0 = (am_S M).2.2 0 from r3]
      iterate 1 refine am_wp_step _ rfl ?_
      refine ⟨_, _, c2, ?_⟩
      iterate 1 refine am_wp_step _ rfl ?_
      refine am_iteT rfl ?_
      exact fin M2 r1 r2
    refine am_ite (fun _ => ?_) (fun _ => ?_)
    · obtain ⟨v, M1, M2, c1, c2, r1, r2, r3⟩ := jj_then (M 0 0 0 (6 * t + 1)) (M 0 0 0 (6 * t + 2)) (M 0 0 0 (6 * t + 3)) M hR
      iterate 6 refine am_wp_step _ rfl ?_
      refine am_ixN (6 * t + 1) (nI_add _ 1) (by rw [hlen]; omega) (by rw [hlen]; omega) (fun e => ?_)
      rw [e]
      iterate 5 refine am_wp_step _ rfl ?_
      refine am_ixN (6 * t + 2) (nI_add _ 2) (by rw [hlen]; omega) (by rw [hlen]; omega) (fun e => ?_)
      rw [e]
      iterate 5 refine am_wp_step _ rfl ?_
      refine am_ixN (6 * t + 3) (nI_add _ 3) (by rw [hlen]; omega) (by rw [hlen]; omega) (fun e => ?_)
      rw [e]
      iterate 1 refine am_wp_step _ rfl ?_
      refine ⟨_, _, c1, ?_⟩
      have hlen1 := hln M1 (r3.trans h0)
      iterate 6 refine am_wp_step _ rfl ?_
      refine am_ixN (6 * t + 1) (nI_add _ 1) (by rw [hlen1]; omega) (by rw [hlen1]; omega) (fun e => ?_)
      rw [e]
      iterate 5 refine am_wp_step _ rfl ?_
      refine am_ixN (6 * t + 2) (nI_add _ 2) (by rw [hlen1]; omega) (by rw [hlen1]; omega) (fun e => ?_)
      rw [e]
      iterate 5 refine am_wp_step _ rfl ?_
      refine am_ixN (6 * t + 3) (nI_add _ 3) (by rw [hlen1]; omega) (by rw [hlen1]; omega) (fun e => ?_)
      rw [e]
      rw [show (am_S M1).2.2 0 = (am_S M).2.2 0 from r3]
      iterate 1 refine am_wp_step _ rfl ?_
      refine ⟨_, _, c2, ?_⟩
      iterate 1 refine am_wp_step _ rfl ?_
      refine am_iteT rfl ?_
      exact fin M2 r1 r2
    refine am_ite (fun _ => ?_) (fun _ => ?_)
    · obtain ⟨v, M1, M2, c1, c2, r1, r2, r3⟩ := jj_thenHeat (M 0 0 0 (6 * t + 1)) (M 0 0 0 (6 * t + 2)) M hR
      iterate 6 refine am_wp_step _ rfl ?_
      refine am_ixN (6 * t + 1) (nI_add _ 1) (by rw [hlen]; omega) (by rw [hlen]; omega) (fun e => ?_)
      rw [e]
      iterate 5 refine am_wp_step _ rfl ?_
      refine am_ixN (6 * t + 2) (nI_add _ 2) (by rw [hlen]; omega) (by rw [hlen]; omega) (fun e => ?_)
      rw [e]
      iterate 1 refine am_wp_step _ rfl ?_
      refine ⟨_, _, c1, ?_⟩
      have hlen1 := hln M1 (r3.trans h0)
      iterate 6 refine am_wp_step _ rfl ?_
      refine am_ixN (6 * t + 1) (nI_add _ 1) (by rw [hlen1]; omega) (by rw [hlen1]; omega) (fun e => ?_)
      rw [e]
      iterate 5 refine am_wp_step _ rfl ?_
      refine am_ixN (6 * t + 2) (nI_add _ 2) (by rw [hlen1]; omega) (by rw [hlen1]; omega) (fun e => ?_)
      rw [e]
      rw [show (am_S M1).2.2 0 = (am_S M).2.2 0 from r3]
      iterate 1 refine am_wp_step _ rfl ?_
      refine ⟨_, _, c2, ?_⟩
      iterate 1 refine am_wp_step _ rfl ?_
      refine am_iteT rfl ?_
      exact fin M2 r1 r2
    refine am_ite (fun _ => ?_) (fun _ => ?_)
    · obtain ⟨v, M1, M2, c1, c2, r1, r2, r3⟩ := jj_angers (M 0 0 0 (6 * t + 1)) M hR
      iterate 6 refine am_wp_step _ rfl ?_
      refine am_ixN (6 * t + 1) (nI_add _ 1) (by rw [hlen]; omega) (by rw [hlen]; omega) (fun e => ?_)
      rw [e]
      iterate 1 refine am_wp_step _ rfl ?_
      refine ⟨_, _, c1, ?_⟩
      have hlen1 := hln M1 (r3.trans h0)
      iterate 6 refine am_wp_step _ rfl ?_
      refine am_ixN (6 * t + 1) (nI_add _ 1) (by rw [hlen1]; omega) (by rw [hlen1]; omega) (fun e => ?_)
      rw [e]
      rw [show (am_S M1).2.2 0 = (am_S M).2.2 0 from r3]
      iterate 1 refine am_wp_step _ rfl ?_
      refine ⟨_, _, c2, ?_⟩
      iterate 1 refine am_wp_step _ rfl ?_
      refine am_iteT rfl ?_
      exact fin M2 r1 r2
    refine am_ite (fun _ => ?_) (fun _ => ?_)
    · obtain ⟨v, M1, M2, c1, c2, r1, r2, r3⟩ := hTab (M 0 0 0 (6 * t + 1)) (M 0 0 0 (6 * t + 2)) M hR
      iterate 6 refine am_wp_step _ rfl ?_
      refine am_ixN (6 * t + 1) (nI_add _ 1) (by rw [hlen]; omega) (by rw [hlen]; omega) (fun e => ?_)
      rw [e]
      iterate 5 refine am_wp_step _ rfl ?_
      refine am_ixN (6 * t + 2) (nI_add _ 2) (by rw [hlen]; omega) (by rw [hlen]; omega) (fun e => ?_)
      rw [e]
      iterate 1 refine am_wp_step _ rfl ?_
      refine ⟨_, _, c1, ?_⟩
      have hlen1 := hln M1 (r3.trans h0)
      iterate 6 refine am_wp_step _ rfl ?_
      refine am_ixN (6 * t + 1) (nI_add _ 1) (by rw [hlen1]; omega) (by rw [hlen1]; omega) (fun e => ?_)
      rw [e]
      iterate 5 refine am_wp_step _ rfl ?_
      refine am_ixN (6 * t + 2) (nI_add _ 2) (by rw [hlen1]; omega) (by rw [hlen1]; omega) (fun e => ?_)
      rw [e]
      rw [show (am_S M1).2.2 0 = (am_S M).2.2 0 from r3]
      iterate 1 refine am_wp_step _ rfl ?_
      refine ⟨_, _, c2, ?_⟩
      iterate 1 refine am_wp_step _ rfl ?_
      refine am_iteT rfl ?_
      exact fin M2 r1 r2
    refine am_ite (fun _ => ?_) (fun _ => ?_)
    · obtain ⟨v, M1, M2, c1, c2, r1, r2, r3⟩ := jj_forget (M 0 0 0 (6 * t + 1)) (M 0 0 0 (6 * t + 2)) M hR
      iterate 6 refine am_wp_step _ rfl ?_
      refine am_ixN (6 * t + 1) (nI_add _ 1) (by rw [hlen]; omega) (by rw [hlen]; omega) (fun e => ?_)
      rw [e]
      iterate 5 refine am_wp_step _ rfl ?_
      refine am_ixN (6 * t + 2) (nI_add _ 2) (by rw [hlen]; omega) (by rw [hlen]; omega) (fun e => ?_)
      rw [e]
      iterate 1 refine am_wp_step _ rfl ?_
      refine ⟨_, _, c1, ?_⟩
      have hlen1 := hln M1 (r3.trans h0)
      iterate 6 refine am_wp_step _ rfl ?_
      refine am_ixN (6 * t + 1) (nI_add _ 1) (by rw [hlen1]; omega) (by rw [hlen1]; omega) (fun e => ?_)
      rw [e]
      iterate 5 refine am_wp_step _ rfl ?_
      refine am_ixN (6 * t + 2) (nI_add _ 2) (by rw [hlen1]; omega) (by rw [hlen1]; omega) (fun e => ?_)
      rw [e]
      rw [show (am_S M1).2.2 0 = (am_S M).2.2 0 from r3]
      iterate 1 refine am_wp_step _ rfl ?_
      refine ⟨_, _, c2, ?_⟩
      iterate 1 refine am_wp_step _ rfl ?_
      refine am_iteT rfl ?_
      exact fin M2 r1 r2
    refine am_ite (fun _ => ?_) (fun _ => ?_)
    · obtain ⟨v, M1, M2, c1, c2, r1, r2, r3⟩ := jj_needs (M 0 0 0 (6 * t + 1)) (M 0 0 0 (6 * t + 2)) (M 0 0 0 (6 * t + 3)) M hR
      iterate 6 refine am_wp_step _ rfl ?_
      refine am_ixN (6 * t + 1) (nI_add _ 1) (by rw [hlen]; omega) (by rw [hlen]; omega) (fun e => ?_)
      rw [e]
      iterate 5 refine am_wp_step _ rfl ?_
      refine am_ixN (6 * t + 2) (nI_add _ 2) (by rw [hlen]; omega) (by rw [hlen]; omega) (fun e => ?_)
      rw [e]
      iterate 5 refine am_wp_step _ rfl ?_
      refine am_ixN (6 * t + 3) (nI_add _ 3) (by rw [hlen]; omega) (by rw [hlen]; omega) (fun e => ?_)
      rw [e]
      iterate 1 refine am_wp_step _ rfl ?_
      refine ⟨_, _, c1, ?_⟩
      have hlen1 := hln M1 (r3.trans h0)
      iterate 6 refine am_wp_step _ rfl ?_
      refine am_ixN (6 * t + 1) (nI_add _ 1) (by rw [hlen1]; omega) (by rw [hlen1]; omega) (fun e => ?_)
      rw [e]
      iterate 5 refine am_wp_step _ rfl ?_
      refine am_ixN (6 * t + 2) (nI_add _ 2) (by rw [hlen1]; omega) (by rw [hlen1]; omega) (fun e => ?_)
      rw [e]
      iterate 5 refine am_wp_step _ rfl ?_
      refine am_ixN (6 * t + 3) (nI_add _ 3) (by rw [hlen1]; omega) (by rw [hlen1]; omega) (fun e => ?_)
      rw [e]
      rw [show (am_S M1).2.2 0 = (am_S M).2.2 0 from r3]
      iterate 1 refine am_wp_step _ rfl ?_
      refine ⟨_, _, c2, ?_⟩
      iterate 1 refine am_wp_step _ rfl ?_
      refine am_iteT rfl ?_
      exact fin M2 r1 r2
    refine am_ite (fun _ => ?_) (fun _ => ?_)
    · obtain ⟨v, M1, M2, c1, c2, r1, r2, r3⟩ := jj_first (M 0 0 0 (6 * t + 1)) M hR
      iterate 6 refine am_wp_step _ rfl ?_
      refine am_ixN (6 * t + 1) (nI_add _ 1) (by rw [hlen]; omega) (by rw [hlen]; omega) (fun e => ?_)
      rw [e]
      iterate 1 refine am_wp_step _ rfl ?_
      refine ⟨_, _, c1, ?_⟩
      have hlen1 := hln M1 (r3.trans h0)
      iterate 6 refine am_wp_step _ rfl ?_
      refine am_ixN (6 * t + 1) (nI_add _ 1) (by rw [hlen1]; omega) (by rw [hlen1]; omega) (fun e => ?_)
      rw [e]
      rw [show (am_S M1).2.2 0 = (am_S M).2.2 0 from r3]
      iterate 1 refine am_wp_step _ rfl ?_
      refine ⟨_, _, c2, ?_⟩
      iterate 1 refine am_wp_step _ rfl ?_
      refine am_iteT rfl ?_
      exact fin M2 r1 r2
    refine am_ite (fun _ => ?_) (fun _ => ?_)
    · obtain ⟨v, M1, M2, c1, c2, r1, r2, r3⟩ := jj_share (M 0 0 0 (6 * t + 1)) (M 0 0 0 (6 * t + 2)) (M 0 0 0 (6 * t + 3)) M hR
      iterate 6 refine am_wp_step _ rfl ?_
      refine am_ixN (6 * t + 1) (nI_add _ 1) (by rw [hlen]; omega) (by rw [hlen]; omega) (fun e => ?_)
      rw [e]
      iterate 5 refine am_wp_step _ rfl ?_
      refine am_ixN (6 * t + 2) (nI_add _ 2) (by rw [hlen]; omega) (by rw [hlen]; omega) (fun e => ?_)
      rw [e]
      iterate 5 refine am_wp_step _ rfl ?_
      refine am_ixN (6 * t + 3) (nI_add _ 3) (by rw [hlen]; omega) (by rw [hlen]; omega) (fun e => ?_)
      rw [e]
      iterate 1 refine am_wp_step _ rfl ?_
      refine ⟨_, _, c1, ?_⟩
      have hlen1 := hln M1 (r3.trans h0)
      iterate 6 refine am_wp_step _ rfl ?_
      refine am_ixN (6 * t + 1) (nI_add _ 1) (by rw [hlen1]; omega) (by rw [hlen1]; omega) (fun e => ?_)
      rw [e]
      iterate 5 refine am_wp_step _ rfl ?_
      refine am_ixN (6 * t + 2) (nI_add _ 2) (by rw [hlen1]; omega) (by rw [hlen1]; omega) (fun e => ?_)
      rw [e]
      iterate 5 refine am_wp_step _ rfl ?_
      refine am_ixN (6 * t + 3) (nI_add _ 3) (by rw [hlen1]; omega) (by rw [hlen1]; omega) (fun e => ?_)
      rw [e]
      rw [show (am_S M1).2.2 0 = (am_S M).2.2 0 from r3]
      iterate 1 refine am_wp_step _ rfl ?_
      refine ⟨_, _, c2, ?_⟩
      iterate 1 refine am_wp_step _ rfl ?_
      refine am_iteT rfl ?_
      exact fin M2 r1 r2
    refine am_ite (fun _ => ?_) (fun _ => ?_)
    · obtain ⟨v, M1, M2, c1, c2, r1, r2, r3⟩ := jj_seed (M 0 0 0 (6 * t + 1)) M hR
      iterate 6 refine am_wp_step _ rfl ?_
      refine am_ixN (6 * t + 1) (nI_add _ 1) (by rw [hlen]; omega) (by rw [hlen]; omega) (fun e => ?_)
      rw [e]
      iterate 1 refine am_wp_step _ rfl ?_
      refine ⟨_, _, c1, ?_⟩
      have hlen1 := hln M1 (r3.trans h0)
      iterate 6 refine am_wp_step _ rfl ?_
      refine am_ixN (6 * t + 1) (nI_add _ 1) (by rw [hlen1]; omega) (by rw [hlen1]; omega) (fun e => ?_)
      rw [e]
      rw [show (am_S M1).2.2 0 = (am_S M).2.2 0 from r3]
      iterate 1 refine am_wp_step _ rfl ?_
      refine ⟨_, _, c2, ?_⟩
      iterate 1 refine am_wp_step _ rfl ?_
      refine am_iteT rfl ?_
      exact fin M2 r1 r2
    refine am_ite (fun _ => ?_) (fun _ => ?_)
    · obtain ⟨v, M1, M2, c1, c2, r1, r2, r3⟩ := jj_voice (M 0 0 0 (6 * t + 1)) (M 0 0 0 (6 * t + 2)) (M 0 0 0 (6 * t + 3)) M hR
      iterate 6 refine am_wp_step _ rfl ?_
      refine am_ixN (6 * t + 1) (nI_add _ 1) (by rw [hlen]; omega) (by rw [hlen]; omega) (fun e => ?_)
      rw [e]
      iterate 5 refine am_wp_step _ rfl ?_
      refine am_ixN (6 * t + 2) (nI_add _ 2) (by rw [hlen]; omega) (by rw [hlen]; omega) (fun e => ?_)
      rw [e]
      iterate 5 refine am_wp_step _ rfl ?_
      refine am_ixN (6 * t + 3) (nI_add _ 3) (by rw [hlen]; omega) (by rw [hlen]; omega) (fun e => ?_)
      rw [e]
      iterate 1 refine am_wp_step _ rfl ?_
      refine ⟨_, _, c1, ?_⟩
      have hlen1 := hln M1 (r3.trans h0)
      iterate 6 refine am_wp_step _ rfl ?_
      refine am_ixN (6 * t + 1) (nI_add _ 1) (by rw [hlen1]; omega) (by rw [hlen1]; omega) (fun e => ?_)
      rw [e]
      iterate 5 refine am_wp_step _ rfl ?_
      refine am_ixN (6 * t + 2) (nI_add _ 2) (by rw [hlen1]; omega) (by rw [hlen1]; omega) (fun e => ?_)
      rw [e]
      iterate 5 refine am_wp_step _ rfl ?_
      refine am_ixN (6 * t + 3) (nI_add _ 3) (by rw [hlen1]; omega) (by rw [hlen1]; omega) (fun e => ?_)
      rw [e]
      rw [show (am_S M1).2.2 0 = (am_S M).2.2 0 from r3]
      iterate 1 refine am_wp_step _ rfl ?_
      refine ⟨_, _, c2, ?_⟩
      iterate 1 refine am_wp_step _ rfl ?_
      refine am_iteT rfl ?_
      exact fin M2 r1 r2
    refine am_ite (fun _ => ?_) (fun _ => ?_)
    · obtain ⟨v, M1, M2, c1, c2, r1, r2, r3⟩ := jj_trace (M 0 0 0 (6 * t + 1)) M hR
      iterate 6 refine am_wp_step _ rfl ?_
      refine am_ixN (6 * t + 1) (nI_add _ 1) (by rw [hlen]; omega) (by rw [hlen]; omega) (fun e => ?_)
      rw [e]
      iterate 1 refine am_wp_step _ rfl ?_
      refine ⟨_, _, c1, ?_⟩
      have hlen1 := hln M1 (r3.trans h0)
      iterate 6 refine am_wp_step _ rfl ?_
      refine am_ixN (6 * t + 1) (nI_add _ 1) (by rw [hlen1]; omega) (by rw [hlen1]; omega) (fun e => ?_)
      rw [e]
      rw [show (am_S M1).2.2 0 = (am_S M).2.2 0 from r3]
      iterate 1 refine am_wp_step _ rfl ?_
      refine ⟨_, _, c2, ?_⟩
      iterate 1 refine am_wp_step _ rfl ?_
      refine am_iteT rfl ?_
      exact fin M2 r1 r2
    refine am_ite (fun _ => ?_) (fun _ => ?_)
    · obtain ⟨v, M1, M2, c1, c2, r1, r2, r3⟩ := jj_sheet (M 0 0 0 (6 * t + 1)) (M 0 0 0 (6 * t + 2)) (M 0 0 0 (6 * t + 3)) M hR
      iterate 6 refine am_wp_step _ rfl ?_
      refine am_ixN (6 * t + 1) (nI_add _ 1) (by rw [hlen]; omega) (by rw [hlen]; omega) (fun e => ?_)
      rw [e]
      iterate 5 refine am_wp_step _ rfl ?_
      refine am_ixN (6 * t + 2) (nI_add _ 2) (by rw [hlen]; omega) (by rw [hlen]; omega) (fun e => ?_)
      rw [e]
      iterate 5 refine am_wp_step _ rfl ?_
      refine am_ixN (6 * t + 3) (nI_add _ 3) (by rw [hlen]; omega) (by rw [hlen]; omega) (fun e => ?_)
      rw [e]
      iterate 1 refine am_wp_step _ rfl ?_
      refine ⟨_, _, c1, ?_⟩
      have hlen1 := hln M1 (r3.trans h0)
      iterate 6 refine am_wp_step _ rfl ?_
      refine am_ixN (6 * t + 1) (nI_add _ 1) (by rw [hlen1]; omega) (by rw [hlen1]; omega) (fun e => ?_)
      rw [e]
      iterate 5 refine am_wp_step _ rfl ?_
      refine am_ixN (6 * t + 2) (nI_add _ 2) (by rw [hlen1]; omega) (by rw [hlen1]; omega) (fun e => ?_)
      rw [e]
      iterate 5 refine am_wp_step _ rfl ?_
      refine am_ixN (6 * t + 3) (nI_add _ 3) (by rw [hlen1]; omega) (by rw [hlen1]; omega) (fun e => ?_)
      rw [e]
      rw [show (am_S M1).2.2 0 = (am_S M).2.2 0 from r3]
      iterate 1 refine am_wp_step _ rfl ?_
      refine ⟨_, _, c2, ?_⟩
      iterate 1 refine am_wp_step _ rfl ?_
      refine am_iteT rfl ?_
      exact fin M2 r1 r2
    refine am_ite (fun _ => ?_) (fun _ => ?_)
    · obtain ⟨v, M1, M2, c1, c2, r1, r2, r3⟩ := jj_put (M 0 0 0 (6 * t + 1)) (M 0 0 0 (6 * t + 2)) (M 0 0 0 (6 * t + 3)) M hR
      iterate 6 refine am_wp_step _ rfl ?_
      refine am_ixN (6 * t + 1) (nI_add _ 1) (by rw [hlen]; omega) (by rw [hlen]; omega) (fun e => ?_)
      rw [e]
      iterate 5 refine am_wp_step _ rfl ?_
      refine am_ixN (6 * t + 2) (nI_add _ 2) (by rw [hlen]; omega) (by rw [hlen]; omega) (fun e => ?_)
      rw [e]
      iterate 5 refine am_wp_step _ rfl ?_
      refine am_ixN (6 * t + 3) (nI_add _ 3) (by rw [hlen]; omega) (by rw [hlen]; omega) (fun e => ?_)
      rw [e]
      iterate 1 refine am_wp_step _ rfl ?_
      refine ⟨_, _, c1, ?_⟩
      have hlen1 := hln M1 (r3.trans h0)
      iterate 6 refine am_wp_step _ rfl ?_
      refine am_ixN (6 * t + 1) (nI_add _ 1) (by rw [hlen1]; omega) (by rw [hlen1]; omega) (fun e => ?_)
      rw [e]
      iterate 5 refine am_wp_step _ rfl ?_
      refine am_ixN (6 * t + 2) (nI_add _ 2) (by rw [hlen1]; omega) (by rw [hlen1]; omega) (fun e => ?_)
      rw [e]
      iterate 5 refine am_wp_step _ rfl ?_
      refine am_ixN (6 * t + 3) (nI_add _ 3) (by rw [hlen1]; omega) (by rw [hlen1]; omega) (fun e => ?_)
      rw [e]
      rw [show (am_S M1).2.2 0 = (am_S M).2.2 0 from r3]
      iterate 1 refine am_wp_step _ rfl ?_
      refine ⟨_, _, c2, ?_⟩
      iterate 1 refine am_wp_step _ rfl ?_
      refine am_iteT rfl ?_
      exact fin M2 r1 r2
    refine am_ite (fun _ => ?_) (fun _ => ?_)
    · obtain ⟨v, M1, M2, c1, c2, r1, r2, r3⟩ := jj_move (M 0 0 0 (6 * t + 1)) (M 0 0 0 (6 * t + 2)) (M 0 0 0 (6 * t + 3)) (M 0 0 0 (6 * t + 4)) (M 0 0 0 (6 * t + 5)) M hR
      iterate 6 refine am_wp_step _ rfl ?_
      refine am_ixN (6 * t + 1) (nI_add _ 1) (by rw [hlen]; omega) (by rw [hlen]; omega) (fun e => ?_)
      rw [e]
      iterate 5 refine am_wp_step _ rfl ?_
      refine am_ixN (6 * t + 2) (nI_add _ 2) (by rw [hlen]; omega) (by rw [hlen]; omega) (fun e => ?_)
      rw [e]
      iterate 5 refine am_wp_step _ rfl ?_
      refine am_ixN (6 * t + 3) (nI_add _ 3) (by rw [hlen]; omega) (by rw [hlen]; omega) (fun e => ?_)
      rw [e]
      iterate 5 refine am_wp_step _ rfl ?_
      refine am_ixN (6 * t + 4) (nI_add _ 4) (by rw [hlen]; omega) (by rw [hlen]; omega) (fun e => ?_)
      rw [e]
      iterate 5 refine am_wp_step _ rfl ?_
      refine am_ixN (6 * t + 5) (nI_add _ 5) (by rw [hlen]; omega) (by rw [hlen]; omega) (fun e => ?_)
      rw [e]
      iterate 1 refine am_wp_step _ rfl ?_
      refine ⟨_, _, c1, ?_⟩
      have hlen1 := hln M1 (r3.trans h0)
      iterate 6 refine am_wp_step _ rfl ?_
      refine am_ixN (6 * t + 1) (nI_add _ 1) (by rw [hlen1]; omega) (by rw [hlen1]; omega) (fun e => ?_)
      rw [e]
      iterate 5 refine am_wp_step _ rfl ?_
      refine am_ixN (6 * t + 2) (nI_add _ 2) (by rw [hlen1]; omega) (by rw [hlen1]; omega) (fun e => ?_)
      rw [e]
      iterate 5 refine am_wp_step _ rfl ?_
      refine am_ixN (6 * t + 3) (nI_add _ 3) (by rw [hlen1]; omega) (by rw [hlen1]; omega) (fun e => ?_)
      rw [e]
      iterate 5 refine am_wp_step _ rfl ?_
      refine am_ixN (6 * t + 4) (nI_add _ 4) (by rw [hlen1]; omega) (by rw [hlen1]; omega) (fun e => ?_)
      rw [e]
      iterate 5 refine am_wp_step _ rfl ?_
      refine am_ixN (6 * t + 5) (nI_add _ 5) (by rw [hlen1]; omega) (by rw [hlen1]; omega) (fun e => ?_)
      rw [e]
      rw [show (am_S M1).2.2 0 = (am_S M).2.2 0 from r3]
      iterate 1 refine am_wp_step _ rfl ?_
      refine ⟨_, _, c2, ?_⟩
      iterate 1 refine am_wp_step _ rfl ?_
      refine am_iteT rfl ?_
      exact fin M2 r1 r2
    refine am_ite (fun _ => ?_) (fun _ => ?_)
    · obtain ⟨v, M1, M2, c1, c2, r1, r2, r3⟩ := jj_dishes (M 0 0 0 (6 * t + 1)) M hR
      iterate 6 refine am_wp_step _ rfl ?_
      refine am_ixN (6 * t + 1) (nI_add _ 1) (by rw [hlen]; omega) (by rw [hlen]; omega) (fun e => ?_)
      rw [e]
      iterate 1 refine am_wp_step _ rfl ?_
      refine ⟨_, _, c1, ?_⟩
      have hlen1 := hln M1 (r3.trans h0)
      iterate 6 refine am_wp_step _ rfl ?_
      refine am_ixN (6 * t + 1) (nI_add _ 1) (by rw [hlen1]; omega) (by rw [hlen1]; omega) (fun e => ?_)
      rw [e]
      rw [show (am_S M1).2.2 0 = (am_S M).2.2 0 from r3]
      iterate 1 refine am_wp_step _ rfl ?_
      refine ⟨_, _, c2, ?_⟩
      iterate 1 refine am_wp_step _ rfl ?_
      refine am_iteT rfl ?_
      exact fin M2 r1 r2
    refine am_ite (fun _ => ?_) (fun _ => ?_)
    · obtain ⟨v, M1, M2, c1, c2, r1, r2, r3⟩ := jj_image  M hR
      iterate 2 refine am_wp_step _ rfl ?_
      refine ⟨_, _, c1, ?_⟩
      iterate 2 refine am_wp_step _ rfl ?_
      refine ⟨_, _, c2, ?_⟩
      iterate 1 refine am_wp_step _ rfl ?_
      refine am_iteT rfl ?_
      exact fin M2 r1 r2
    refine am_ite (fun _ => ?_) (fun _ => ?_)
    · obtain ⟨v, M1, M2, c1, c2, r1, r2, r3⟩ := jj_restore  M hR
      iterate 2 refine am_wp_step _ rfl ?_
      refine ⟨_, _, c1, ?_⟩
      iterate 2 refine am_wp_step _ rfl ?_
      refine ⟨_, _, c2, ?_⟩
      iterate 1 refine am_wp_step _ rfl ?_
      refine am_iteT rfl ?_
      exact fin M2 r1 r2
    refine am_ite (fun _ => ?_) (fun _ => ?_)
    · obtain ⟨v, M1, M2, c1, c2, r1, r2, r3⟩ := jj_tell (M 0 0 0 (6 * t + 1)) M hR
      iterate 6 refine am_wp_step _ rfl ?_
      refine am_ixN (6 * t + 1) (nI_add _ 1) (by rw [hlen]; omega) (by rw [hlen]; omega) (fun e => ?_)
      rw [e]
      iterate 1 refine am_wp_step _ rfl ?_
      refine ⟨_, _, c1, ?_⟩
      have hlen1 := hln M1 (r3.trans h0)
      iterate 6 refine am_wp_step _ rfl ?_
      refine am_ixN (6 * t + 1) (nI_add _ 1) (by rw [hlen1]; omega) (by rw [hlen1]; omega) (fun e => ?_)
      rw [e]
      rw [show (am_S M1).2.2 0 = (am_S M).2.2 0 from r3]
      iterate 1 refine am_wp_step _ rfl ?_
      refine ⟨_, _, c2, ?_⟩
      iterate 1 refine am_wp_step _ rfl ?_
      refine am_iteT rfl ?_
      exact fin M2 r1 r2
    refine am_ite (fun _ => ?_) (fun _ => ?_)
    · obtain ⟨v, M1, M2, c1, c2, r1, r2, r3⟩ := jj_check (M 0 0 0 (6 * t + 1)) M hR
      iterate 6 refine am_wp_step _ rfl ?_
      refine am_ixN (6 * t + 1) (nI_add _ 1) (by rw [hlen]; omega) (by rw [hlen]; omega) (fun e => ?_)
      rw [e]
      iterate 1 refine am_wp_step _ rfl ?_
      refine ⟨_, _, c1, ?_⟩
      have hlen1 := hln M1 (r3.trans h0)
      iterate 6 refine am_wp_step _ rfl ?_
      refine am_ixN (6 * t + 1) (nI_add _ 1) (by rw [hlen1]; omega) (by rw [hlen1]; omega) (fun e => ?_)
      rw [e]
      rw [show (am_S M1).2.2 0 = (am_S M).2.2 0 from r3]
      iterate 1 refine am_wp_step _ rfl ?_
      refine ⟨_, _, c2, ?_⟩
      iterate 1 refine am_wp_step _ rfl ?_
      refine am_iteT rfl ?_
      exact fin M2 r1 r2
    refine am_ite (fun _ => ?_) (fun _ => ?_)
    · obtain ⟨v, M1, M2, c1, c2, r1, r2, r3⟩ := jj_count (M 0 0 0 (6 * t + 1)) M hR
      iterate 6 refine am_wp_step _ rfl ?_
      refine am_ixN (6 * t + 1) (nI_add _ 1) (by rw [hlen]; omega) (by rw [hlen]; omega) (fun e => ?_)
      rw [e]
      iterate 1 refine am_wp_step _ rfl ?_
      refine ⟨_, _, c1, ?_⟩
      have hlen1 := hln M1 (r3.trans h0)
      iterate 6 refine am_wp_step _ rfl ?_
      refine am_ixN (6 * t + 1) (nI_add _ 1) (by rw [hlen1]; omega) (by rw [hlen1]; omega) (fun e => ?_)
      rw [e]
      rw [show (am_S M1).2.2 0 = (am_S M).2.2 0 from r3]
      iterate 1 refine am_wp_step _ rfl ?_
      refine ⟨_, _, c2, ?_⟩
      iterate 1 refine am_wp_step _ rfl ?_
      refine am_iteT rfl ?_
      exact fin M2 r1 r2
    refine am_ite (fun _ => ?_) (fun _ => ?_)
    · obtain ⟨v, M1, M2, c1, c2, r1, r2, r3⟩ := jj_told (M 0 0 0 (6 * t + 1)) M hR
      iterate 6 refine am_wp_step _ rfl ?_
      refine am_ixN (6 * t + 1) (nI_add _ 1) (by rw [hlen]; omega) (by rw [hlen]; omega) (fun e => ?_)
      rw [e]
      iterate 1 refine am_wp_step _ rfl ?_
      refine ⟨_, _, c1, ?_⟩
      have hlen1 := hln M1 (r3.trans h0)
      iterate 6 refine am_wp_step _ rfl ?_
      refine am_ixN (6 * t + 1) (nI_add _ 1) (by rw [hlen1]; omega) (by rw [hlen1]; omega) (fun e => ?_)
      rw [e]
      rw [show (am_S M1).2.2 0 = (am_S M).2.2 0 from r3]
      iterate 1 refine am_wp_step _ rfl ?_
      refine ⟨_, _, c2, ?_⟩
      iterate 1 refine am_wp_step _ rfl ?_
      refine am_iteT rfl ?_
      exact fin M2 r1 r2
    exact fin M hR rfl
  · intro x M hP
    obtain ⟨rfl, hR, h0⟩ := hP
    have hlen : (M 0 0 1 0).toNatClampNeg = L := by
      rw [h0]
      exact nI_clamp (by omega)
    iterate 6 refine am_wp_step _ rfl ?_
    refine am_iteT ?_ ?_
    · show nI (M 0 0 1 0).toNatClampNeg - 6 < nI (6 * (L / 6))
      rw [hlen]
      rcases Nat.lt_or_ge L 6 with q | q
      · have : L = 0 ∨ L = 1 ∨ L = 2 ∨ L = 3 ∨ L = 4 ∨ L = 5 := by omega
        rcases this with rfl | rfl | rfl | rfl | rfl | rfl <;> decide
      · rw [show nI L - 6 = nI (L - 6) from pk_sub (b := 6) (by omega)]
        exact nI_lt (by omega) (by omega)
    iterate 2 refine am_wp_step _ rfl ?_
    exact ⟨Or.inr rfl, rfl, Nat.le_refl _⟩
