theorem m_bellsGo (d n m cnt : Nat) (l : Bool) (ab : Int32) (M : am_F) (hG : GA n m (M 33 0 0)) (hcnt : cnt < 2 ^ 31) : ∃ M', am_cl am_cds (d + 7) 185 [.inr (.inr (26, 0, 0)), .inl (nI cnt), .inl (if l = true then 1 else 0), .inl ab] (am_S M) none (am_S M') ∧ M' 33 0 0 = bgN l (gv (tx (M 33 0 0)) 0) n m (odr (M 33 0 0) n) ab (M 33 0 0) cnt ∧ mB M M' := by
  generalize ha : M 33 0 0 = a at *
  generalize hE : gv (tx a) 0 = E at *
  generalize ho0 : odr a n = o at *
  have ho : ∀ i, i < n → o i < n := fun i hi => by rw [← ho0]; exact odr_lt hi
  refine am_cl_v (fun M' => M' 33 0 0 = bgN l E n m o ab a cnt ∧ mB M M') am_c185 rfl ?_
  have hn := hG.1
  have hm := hG.2.1
  iterate 2 refine am_wp_step _ rfl ?_
  refine am_call0 (m_findOrder _ n M hn (by rw [ha]; exact hG.2.2.1)) (fun M0 hS => ?_)
  obtain ⟨hS0, hF0⟩ := hS
  rw [ha] at hS0
  have hord : ∀ i, i < n → M0 33 7 0 i = nI (o i) := fun i hi => by
    rw [plN_at hS0 i (by rw [so_len]; exact hi), ← ho0]
    rfl
  iterate 2 refine am_wp_step _ rfl ?_
  refine am_for1 4 (fun x => [(0, .inr (.inr (26, 0, 0))), (1, .inl (nI cnt)), (2, .inl (if l = true then 1 else 0)), (3, .inl ab), (4, .inl x)]) (fun t x M1 => x = nI t ∧ M1 33 0 0 = bgN l E n m o ab a t ∧ (∀ i, i < n → M1 33 7 0 i = nI (o i)) ∧ mB M M1) cnt ?_ ?_ 0 0 M0 (Nat.zero_le _) ⟨nI_0.symm, by rw [hF0 33 0 (by omega)]; exact ha, hord, mB_7 hF0⟩
  · intro t z M1 ht hP K
    obtain ⟨hz, hA1, hO1, hB1⟩ := hP
    obtain ⟨G1, G2, G3⟩ := GA_bgN (l := l) (E := E) (k := t) (ab := ab) ho hG
    have hnx : z + 1 = nI (t + 1) := by rw [hz, nI_1]
    have hsM : bgN l E n m o ab a (t + 1) = rg E n m o ab (if l = true then dgK (bgN l E n m o ab a t) m else bgN l E n m o ab a t) := rfl
    generalize bgN l E n m o ab a t = a1 at *
    generalize bgN l E n m o ab a (t + 1) = aN at *
    have hE1 : gv (tx a1) 0 = E := by rw [G2]; exact hE
    iterate 3 refine am_wp_step _ rfl ?_
    refine am_iteF (by rw [hz]; exact nI_ge ht hcnt) ?_
    have fin : ∀ (M2 : am_F) (a2 : Nat → Int32), M2 33 0 0 = a2 → GA n m a2 → gv (tx a2) 0 = E → (∀ i, i < n → M2 33 7 0 i = nI (o i)) → mB M M2 → aN = rg E n m o ab a2 → am_wp (am_cl am_cds (d + 6)) am_c185 (fun w m_1 => w = none ∧ ∃ M', m_1 = am_S M' ∧ M' 33 0 0 = bgN l E n m o ab a cnt ∧ mB M M') 11 [(0, .inr (.inr (26, 0, 0))), (1, .inl (nI cnt)), (2, .inl (if l = true then 1 else 0)), (3, .inl ab), (4, .inl z)] [] (am_S M2) := by
      intro M2 a2 hA2 g1 g2 hO2 hB2 hN
      iterate 2 refine am_wp_step _ rfl ?_
      refine am_for1 13 (fun x => [(0, .inr (.inr (26, 0, 0))), (1, .inl (nI cnt)), (2, .inl (if l = true then 1 else 0)), (3, .inl ab), (4, .inl z), (5, .inl x)]) (fun i x M3 => x = nI i ∧ M3 33 0 0 = rgG E m o ab a2 i ∧ (∀ i, i < n → M3 33 7 0 i = nI (o i)) ∧ mB M M3) n ?_ ?_ 0 0 M2 (Nat.zero_le _) ⟨nI_0.symm, hA2, hO2, hB2⟩
      · intro i x M3 hi hP K2
        obtain ⟨hx, hA3, hO3, hB3⟩ := hP
        have hnx3 : x + 1 = nI (i + 1) := by rw [hx, nI_1]
        obtain ⟨gn, gm, gc, gd, ge, gf, gt, gu⟩ := g1
        have h31 := rgG_rg (E := E) (ab := ab) hn hm ho (Nat.le_of_lt hi) ge gf
        have hout : ∀ c, KC n m c → rgG E m o ab a2 i c = a2 c := fun c hc => rgG_out hm ho (Nat.le_of_lt hi) hc
        have htx : tx (rgG E m o ab a2 i) = tx a2 := tx_of fun c hc => hout c (KC_hi hn hm hc)
        have G3' : GA n m (rgG E m o ab a2 i) := ⟨hn, hm, (hout 1 (KC_lo (by omega) (by omega))).trans gc, (hout 2 (KC_lo (by omega) (by omega))).trans gd, h31.1, h31.2, by rw [htx]; exact gt, by rw [htx]; exact gu⟩
        iterate 5 refine am_wp_step _ rfl ?_
        refine am_andv (by unfold vp_in; decide) ?_
        iterate 1 refine am_wp_step _ rfl ?_
        refine am_iteF (by show ¬ M3 33 0 0 1 ≤ x; rw [hA3, G3'.2.2.1, hx]; exact nI_ge hi (by omega)) ?_
        iterate 4 refine am_wp_step _ rfl ?_
        refine am_ixN (i) (hx) (show _ < 8 by omega) (show (8 : Nat) < 2 ^ 31 by decide) (fun e1 => ?_)
        rw [e1, show (am_S M3).2.2 33 7 0 i = nI (o i) from hO3 i hi]
        iterate 2 refine am_wp_step _ rfl ?_
        refine am_ite (fun h => ?_) (fun h => ?_)
        · iterate 2 refine am_wp_step _ rfl ?_
          refine K2 _ _ ⟨hnx3, ?_, hO3, hB3⟩
          unfold rgG
          rw [if_pos h, hA3]
        · iterate 5 refine am_wp_step _ rfl ?_
          refine am_ixN (i) (hx) (show _ < 8 by omega) (show (8 : Nat) < 2 ^ 31 by decide) (fun e2 => ?_)
          rw [e2, show (am_S M3).2.2 33 7 0 i = nI (o i) from hO3 i hi]
          iterate 1 refine am_wp_step _ rfl ?_
          refine am_call0 (m_eats d (o i) n m M3 (ho i hi) (by rw [hA3]; exact G3')) (fun M4 hh => ?_)
          iterate 2 refine am_wp_step _ rfl ?_
          refine K2 _ _ ⟨hnx3, ?_, fun i hi => ?_, mB_tr hB3 (mB_H hh.2)⟩
          · rw [hh.1, hA3, htx, g2]
            show eat1 E m (o i) (rgG E m o ab a2 i) = if nI (o i) = ab then rgG E m o ab a2 i else eat1 E m (o i) (rgG E m o ab a2 i)
            rw [if_neg h]
          · rw [hh.2 33 7 (by omega)]
            exact hO3 i hi
      · intro x M3 hP
        obtain ⟨hx, hA3, hO3, hB3⟩ := hP
        have hout : ∀ c, KC n m c → rgG E m o ab a2 n c = a2 c := fun c hc => rgG_out hm ho (Nat.le_refl _) hc
        obtain ⟨gn, gm, gc, gd, ge, gf, gt, gu⟩ := g1
        have h31 := rgG_rg (E := E) (ab := ab) hn hm ho (Nat.le_refl _) ge gf
        generalize hag : rgG E m o ab a2 n = ag at *
        iterate 5 refine am_wp_step _ rfl ?_
        refine am_andv (by unfold vp_in; decide) ?_
        iterate 1 refine am_wp_step _ rfl ?_
        refine am_iteT (by show M3 33 0 0 1 ≤ x; rw [hA3, hout 1 (KC_lo (by omega) (by omega)), gc, hx]; exact nI_le (Nat.le_refl _) (by omega)) ?_
        iterate 2 refine am_wp_step _ rfl ?_
        refine am_for1 35 (fun x => [(0, .inr (.inr (26, 0, 0))), (1, .inl (nI cnt)), (2, .inl (if l = true then 1 else 0)), (3, .inl ab), (4, .inl z), (5, .inl x)]) (fun i x M3 => x = nI i ∧ M3 33 0 0 = clK ag i ∧ (∀ i, i < n → M3 33 7 0 i = nI (o i)) ∧ mB M M3) m ?_ ?_ 0 0 M3 (Nat.zero_le _) ⟨nI_0.symm, hA3, hO3, hB3⟩
        · intro i x M3 hi hP K2
          obtain ⟨hx, hA3, hO3, hB3⟩ := hP
          have hnx3 : x + 1 = nI (i + 1) := by rw [hx, nI_1]
          have hc2 : M3 33 0 0 2 = nI m := by rw [hA3, clK_out (m := m) (Nat.le_of_lt hi) (fun j hj => by omega), hout 2 (KC_lo (by omega) (by omega))]; exact gd
          have hc4 : M3 33 0 0 (74 + 5 * i + 4) = ag (74 + 5 * i + 4) := by rw [hA3, clK_out (m := m) (Nat.le_of_lt hi) (fun j hj => by omega)]
          have hr4 := (h31.2 i hi).2.2
          iterate 5 refine am_wp_step _ rfl ?_
          refine am_andv (by unfold vp_in; decide) ?_
          iterate 1 refine am_wp_step _ rfl ?_
          refine am_iteF (by show ¬ M3 33 0 0 2 ≤ x; rw [hc2, hx]; exact nI_ge hi (by omega)) ?_
          subst hx
          iterate 16 refine am_wp_step _ rfl ?_
          refine am_ixN (74 + 5 * i + 2) (by simp only [nI_lit, nI_add, nI_mul]) (show _ < 288 by omega) (show (288 : Nat) < 2 ^ 31 by decide) (fun e1 => ?_)
          iterate 4 refine am_wp_step _ rfl ?_
          refine ⟨_, _, m_dishIs _ i 4 M3 (by omega) (by decide), ?_⟩
          rw [hc4]
          iterate 1 refine am_wp_step _ rfl ?_
          refine am_ite (fun h => ?_) (fun h => ?_)
          · iterate 3 refine am_wp_step _ rfl ?_
            refine ⟨_, _, c_max _ _ _ _, ?_⟩
            iterate 1 refine am_wp_step _ rfl ?_
            refine am_ixN (74 + 5 * i + 2) (by simp only [nI_lit, nI_add, nI_mul]) (show _ < 288 by omega) (show (288 : Nat) < 2 ^ 31 by decide) (fun e2 => ?_)
            iterate 2 refine am_wp_step _ rfl ?_
            refine K2 _ _ ⟨hnx3, ?_, fun i hi => ?_, mB_tr hB3 (mB_H (mH_0 mF_up))⟩
            · dsimp only [am_S]
              rw [e1, am_up_fu]
              show _ = fu (clK ag i) (74 + 5 * i + 2) (sp_max 0 (clK ag i (74 + 5 * i + 2) - (if clK ag i (74 + 5 * i + 4) = -1 then 1 else 2)))
              rw [← hA3, hc4, if_pos (by lia)]
            · dsimp only [am_S]
              rw [am_up_b (by decide)]
              exact hO3 i hi
          · iterate 4 refine am_wp_step _ rfl ?_
            refine ⟨_, _, c_max _ _ _ _, ?_⟩
            iterate 1 refine am_wp_step _ rfl ?_
            refine am_ixN (74 + 5 * i + 2) (by simp only [nI_lit, nI_add, nI_mul]) (show _ < 288 by omega) (show (288 : Nat) < 2 ^ 31 by decide) (fun e2 => ?_)
            iterate 2 refine am_wp_step _ rfl ?_
            refine K2 _ _ ⟨hnx3, ?_, fun i hi => ?_, mB_tr hB3 (mB_H (mH_0 mF_up))⟩
            · dsimp only [am_S]
              rw [e1, am_up_fu]
              show _ = fu (clK ag i) (74 + 5 * i + 2) (sp_max 0 (clK ag i (74 + 5 * i + 2) - (if clK ag i (74 + 5 * i + 4) = -1 then 1 else 2)))
              rw [← hA3, hc4, if_neg (by lia)]
            · dsimp only [am_S]
              rw [am_up_b (by decide)]
              exact hO3 i hi
        · intro x M3 hP
          obtain ⟨hx, hA3, hO3, hB3⟩ := hP
          have hc2 : M3 33 0 0 2 = nI m := by rw [hA3, clK_out (m := m) (Nat.le_refl _) (fun j hj => by omega), hout 2 (KC_lo (by omega) (by omega))]; exact gd
          generalize hac : clK ag m = ac at *
          iterate 5 refine am_wp_step _ rfl ?_
          refine am_andv (by unfold vp_in; decide) ?_
          iterate 1 refine am_wp_step _ rfl ?_
          refine am_iteT (by show M3 33 0 0 2 ≤ x; rw [hc2, hx]; exact nI_le (Nat.le_refl _) (by omega)) ?_
          iterate 2 refine am_wp_step _ rfl ?_
          refine am_for1 72 (fun x => [(0, .inr (.inr (26, 0, 0))), (1, .inl (nI cnt)), (2, .inl (if l = true then 1 else 0)), (3, .inl ab), (4, .inl z), (5, .inl x)]) (fun i x M3 => x = nI i ∧ M3 33 0 0 = hgK ac i ∧ (∀ i, i < n → M3 33 7 0 i = nI (o i)) ∧ mB M M3) 4 ?_ ?_ 0 0 M3 (Nat.zero_le _) ⟨nI_0.symm, hA3, hO3, hB3⟩
          · intro i x M3 hi hP K2
            obtain ⟨hx, hA3, hO3, hB3⟩ := hP
            have hnx3 : x + 1 = nI (i + 1) := by rw [hx, nI_1]
            iterate 3 refine am_wp_step _ rfl ?_
            refine am_iteF (by rw [hx]; exact nI_ge (b := 4) hi (by decide)) ?_
            subst hx
            iterate 12 refine am_wp_step _ rfl ?_
            refine am_ixN (6 + i) (by simp only [nI_lit, nI_add, nI_mul]) (show _ < 288 by omega) (show (288 : Nat) < 2 ^ 31 by decide) (fun e1 => ?_)
            iterate 3 refine am_wp_step _ rfl ?_
            refine ⟨_, _, c_min _ _ _ _, ?_⟩
            iterate 1 refine am_wp_step _ rfl ?_
            refine am_ixN (6 + i) (by simp only [nI_lit, nI_add, nI_mul]) (show _ < 288 by omega) (show (288 : Nat) < 2 ^ 31 by decide) (fun e2 => ?_)
            iterate 2 refine am_wp_step _ rfl ?_
            refine K2 _ _ ⟨hnx3, ?_, fun i hi => ?_, mB_tr hB3 (mB_H (mH_0 mF_up))⟩
            · dsimp only [am_S]
              rw [e1, am_up_fu, hA3]
              rfl
            · dsimp only [am_S]
              rw [am_up_b (by decide)]
              exact hO3 i hi
          · intro x M3 hP
            obtain ⟨hx, hA3, hO3, hB3⟩ := hP
            iterate 3 refine am_wp_step _ rfl ?_
            refine am_iteT (by rw [hx]; exact nI_le (b := 4) (Nat.le_refl _) (by decide)) ?_
            iterate 5 refine am_wp_step _ rfl ?_
            refine am_andv (by unfold vp_in; decide) ?_
            iterate 3 refine am_wp_step _ rfl ?_
            refine am_andv (by unfold vp_in; decide) ?_
            iterate 2 refine am_wp_step _ rfl ?_
            refine K _ _ ⟨hnx, ?_, fun i hi => ?_, mB_tr hB3 (mB_H (mH_0 mF_up))⟩
            · show am_up M3 33 0 0 0 (M3 33 0 0 0 + 1) 33 0 0 = _
              rw [am_up_fu, hA3, hN]
              unfold rg
              rw [hag, hac]
            · dsimp only [am_S]
              rw [am_up_b (by decide)]
              exact hO3 i hi
    iterate 1 refine am_wp_step _ rfl ?_
    cases l with
    | true =>
      iterate 3 refine am_wp_step _ rfl ?_
      refine am_call0 (m_dogs _ n m M1 (by rw [hA1]; exact G1)) (fun M2 hh => ?_)
      rw [hA1] at hh
      obtain ⟨g1, g2, g3⟩ := GA_dgK (Nat.le_refl m) G1
      refine fin M2 _ hh.1 g1 (by rw [g2]; exact hE1) (fun i hi => by rw [hh.2 33 7 (by omega)]; exact hO1 i hi) (mB_tr hB1 (mB_H (mH_0 hh.2))) ?_
      rw [hsM, if_pos rfl]
    | false =>
      iterate 1 refine am_wp_step _ rfl ?_
      refine fin M1 a1 hA1 G1 hE1 hO1 hB1 ?_
      rw [hsM, if_neg (by decide)]
  · intro z M1 hP
    obtain ⟨hz, hA1, hO1, hB1⟩ := hP
    iterate 3 refine am_wp_step _ rfl ?_
    refine am_iteT (by rw [hz]; exact nI_le (Nat.le_refl _) hcnt) ?_
    iterate 1 refine am_wp_step _ rfl ?_
    exact ⟨rfl, M1, rfl, hA1, hB1⟩
