/-! THE CLASS'S READER: operands, the loop -/
theorem i2c_b {x : Int32} (h0 : 0 ≤ x) (h1 : x ≤ 255) : (x.toUInt32 % 65536).toInt32 = x := by
  obtain ⟨j, hj, rfl⟩ := nI_exb h0 (show x < nI 256 by have : nI 256 = 256 := rfl; rw [this]; lia) (by decide)
  exact (by decide +kernel : ∀ k, k < 256 → ((nI k).toUInt32 % 65536).toInt32 = nI k) j hj
theorem c_max1 (d k : Nat) (M : am_F) (hk : k ≤ 4) : am_cl am_cds (d + 1) 222 [.inl 1, .inl (nI k)] (am_S M) (some (.inl (nI (max 1 k)))) (am_S M) := by
  refine am_cl_in am_c222 rfl ?_
  rcases (by omega : k = 0 ∨ k = 1 ∨ k = 2 ∨ k = 3 ∨ k = 4) with rfl | rfl | rfl | rfl | rfl
  all_goals
    repeat' first | refine am_wp_step _ rfl ?_ | refine am_iteB (fun h => ?_) (fun h => ?_) | refine am_iteN (fun h => ?_) (fun h => ?_) | refine am_ite (fun h => ?_) (fun h => ?_) | fail
    all_goals exact ⟨trivial, rfl, rfl⟩
theorem c_od1 {d u a N : Nat} {h : Nat → Int32} {C P : List Int32} {M : am_F} {v : Int32} {R : am_F → Prop} (hu : u = 0 ∨ u = 1) (q : TR M h N) (ha : a < N) (hc : h a = 33 ∨ h a = 40) (K : ∃ M', am_cl am_cds (d + 7) 35 [.inr (.inr (19, 0, 0)), .inl (h a)] (am_S M) (some (.inl v)) (am_S M') ∧ R M') : ∃ M', am_cl am_cds (d + 8) 34 [.inr (.inr (19, 0, 0)), .inr (.inr (21, 4, 0)), .inl (nI a), .inr (.inr (3, 0, u))] (am_S M) (some (.inl v)) (am_S M') ∧ R M' := by
  refine am_cl_v R am_c34 rfl ?_
  have hN := q.2.1
  iterate 3 refine am_wp_step _ rfl ?_
  refine ⟨_, _, c_at4 _ a N h M q (by omega), ?_⟩
  rw [if_pos ha]
  iterate 4 refine am_wp_step _ rfl ?_
  have K10 : am_wp (am_cl am_cds (d + 7)) am_c34 (fun w m => w = some (Sum.inl v) ∧ ∃ M', m = am_S M' ∧ R M') 10 [(0, .inr (.inr (19, 0, 0))), (1, .inr (.inr (21, 4, 0))), (2, .inl (nI a)), (3, .inr (.inr (3, 0, u))), (4, .inl (h a))] [] (am_S M) := by
    iterate 3 refine am_wp_step _ rfl ?_
    refine am_call1 K (fun M1 h1 => ?_)
    iterate 1 refine am_wp_step _ rfl ?_
    exact ⟨trivial, rfl, M1, rfl, h1⟩
  rcases hc with hc | hc
  · exact am_iteT hc K10
  · refine am_iteF (show ¬ h a = 33 by rw [hc]; decide) ?_
    iterate 3 refine am_wp_step _ rfl ?_
    exact am_iteF (show ¬ h a ≠ 40 from fun w => w hc) K10
/-- up to the place where the digits and the name are known -/
theorem c_od2 {d u a k N : Nat} {h : Nat → Int32} {M : am_F} {Q : Option am_V → am_M → Prop} (hu : u = 0 ∨ u = 1) (q : TR M h N) (ha : a < N) (h33 : h a ≠ 33) (h40 : h a ≠ 40) (hk : DG h a k) (K : am_wp (am_cl am_cds (d + 7)) am_c34 Q 23 [(0, .inr (.inr (19, 0, 0))), (1, .inr (.inr (21, 4, 0))), (2, .inl (nI a)), (3, .inr (.inr (3, 0, u))), (4, .inl (h a)), (5, .inl (nI k)), (6, .inl (nmU u (h a)))] [] (am_S M)) : am_wp (am_cl am_cds (d + 7)) am_c34 Q 0 [(0, .inr (.inr (19, 0, 0))), (1, .inr (.inr (21, 4, 0))), (2, .inl (nI a)), (3, .inr (.inr (3, 0, u)))] [] (am_S M) := by
  have hN := q.2.1
  iterate 3 refine am_wp_step _ rfl ?_
  refine ⟨_, _, c_at4 _ a N h M q (by omega), ?_⟩
  rw [if_pos ha]
  iterate 4 refine am_wp_step _ rfl ?_
  refine am_iteF h33 ?_
  iterate 3 refine am_wp_step _ rfl ?_
  refine am_iteT h40 ?_
  iterate 3 refine am_wp_step _ rfl ?_
  refine ⟨_, _, c_cnt _ a k N h M q (by omega) hk, ?_⟩
  iterate 5 refine am_wp_step _ rfl ?_
  rw [i2c_b (q.2.2.1.2 a ha) (q.2.2.2.2 a ha)]
  refine ⟨_, _, s_idx _ u (h a) M hu (q.2.2.1.2 a ha) (q.2.2.2.2 a ha), ?_⟩
  iterate 1 refine am_wp_step _ rfl ?_
  exact K
theorem c_od0 {d u a N : Nat} {h : Nat → Int32} {M : am_F} (hu : u = 0 ∨ u = 1) (q : TR M h N) (ha : a < N) (h33 : h a ≠ 33) (h40 : h a ≠ 40) (hd : ¬ isDg (h a)) (hn : nmU u (h a) < 0) : am_cl am_cds (d + 8) 34 [.inr (.inr (19, 0, 0)), .inr (.inr (21, 4, 0)), .inl (nI a), .inr (.inr (3, 0, u))] (am_S M) (some (.inl 0)) (am_S M) := by
  refine am_cl_in am_c34 rfl ?_
  refine c_od2 (k := 0) hu q ha h33 h40 ⟨fun j hj => by omega, by omega, fun _ => hd⟩ ?_
  iterate 4 refine am_wp_step _ rfl ?_
  refine am_iteF (Int32.not_le.mpr hn) ?_
  iterate 2 refine am_wp_step _ rfl ?_
  exact ⟨trivial, rfl, rfl⟩
/-- the operand's code is taken, and what stood before it -/
theorem c_od3 {d u a k N : Nat} {h : Nat → Int32} {C P : List Int32} {M : am_F} {v : Int32} (hS : RSt M true C P) (hl : C.length + P.length < 50) (hk : k ≤ 4) : am_wp (am_cl am_cds (d + 7)) am_c34 (fun w m => w = some (Sum.inl (nI (max 1 k))) ∧ ∃ M', m = am_S M' ∧ RSt M' false (enO (v :: C) P).1 (enO (v :: C) P).2 ∧ fc M M') 41 [(0, .inr (.inr (19, 0, 0))), (1, .inr (.inr (21, 4, 0))), (2, .inl (nI a)), (3, .inr (.inr (3, 0, u))), (4, .inl (h a)), (5, .inl (nI k)), (6, .inl (nmU u (h a)))] [.inl v, .inr (.inr (21, 12, 0))] (am_S M) := by
  have l12 : am_ln 27 12 = 50 := rfl
  iterate 1 refine am_wp_step _ rfl ?_
  refine am_call0 (c_addS _ 12 v C M hS.1 (by rw [l12]; omega) (by rw [l12]; decide)) (fun M1 h1 => ?_)
  have e19 : M1 19 0 = M 19 0 := h1.2 19 0 (by omega)
  iterate 2 refine am_wp_step _ rfl ?_
  refine am_call0 (c_enO _ (v :: C) P M1 h1.1 (rwS_F (by decide) h1.2 hS.2.1) (by rw [e19]; exact hS.2.2.1) (by rw [e19]; exact hS.2.2.2.1) (by rw [List.length_cons]; omega)) (fun M2 h2 => ?_)
  iterate 3 refine am_wp_step _ rfl ?_
  refine ⟨_, _, c_max1 _ k M2 hk, ?_⟩
  iterate 1 refine am_wp_step _ rfl ?_
  exact ⟨trivial, rfl, M2, rfl, h2.1, fc_tr (fc_R (fR_F (by omega) h1.2)) h2.2⟩
theorem c_odN {d u a N : Nat} {h : Nat → Int32} {C P : List Int32} {M : am_F} (hu : u = 0 ∨ u = 1) (q : TR M h N) (ha : a < N) (h33 : h a ≠ 33) (h40 : h a ≠ 40) (hd : ¬ isDg (h a)) (hn : 0 ≤ nmU u (h a)) (hS : RSt M true C P) (hl : C.length + P.length < 50) : ∃ M', am_cl am_cds (d + 8) 34 [.inr (.inr (19, 0, 0)), .inr (.inr (21, 4, 0)), .inl (nI a), .inr (.inr (3, 0, u))] (am_S M) (some (.inl 1)) (am_S M') ∧ (RSt M' false (enO ((10000 + nmU u (h a)) :: C) P).1 (enO ((10000 + nmU u (h a)) :: C) P).2 ∧ fc M M') := by
  refine am_cl_v (fun M' => RSt M' false (enO ((10000 + nmU u (h a)) :: C) P).1 (enO ((10000 + nmU u (h a)) :: C) P).2 ∧ fc M M') am_c34 rfl ?_
  refine c_od2 (k := 0) hu q ha h33 h40 ⟨fun j hj => by omega, by omega, fun _ => hd⟩ ?_
  iterate 4 refine am_wp_step _ rfl ?_
  refine am_iteT hn ?_
  iterate 7 refine am_wp_step _ rfl ?_
  exact c_od3 (N := N) (k := 0) hS hl (by omega)
theorem c_odK {d u a k N : Nat} {h : Nat → Int32} {C P : List Int32} {M : am_F} (hu : u = 0 ∨ u = 1) (q : TR M h N) (ha : a < N) (hk : DG h a k) (hk0 : 0 < k) (hak : a + k ≤ N) (hS : RSt M true C P) (hl : C.length + P.length < 50) : ∃ M', am_cl am_cds (d + 8) 34 [.inr (.inr (19, 0, 0)), .inr (.inr (21, 4, 0)), .inl (nI a), .inr (.inr (3, 0, u))] (am_S M) (some (.inl (nI k))) (am_S M') ∧ (RSt M' false (enO (nvl h a k :: C) P).1 (enO (nvl h a k :: C) P).2 ∧ fc M M') := by
  refine am_cl_v (fun M' => RSt M' false (enO (nvl h a k :: C) P).1 (enO (nvl h a k :: C) P).2 ∧ fc M M') am_c34 rfl ?_
  have hk4 := hk.2.1
  have q0 : isDg (h a) := hk.1 0 hk0
  refine c_od2 hu q ha (fun w => by rw [w] at q0; exact absurd q0 (by unfold isDg; decide)) (fun w => by rw [w] at q0; exact absurd q0 (by unfold isDg; decide)) hk ?_
  iterate 2 refine am_wp_step _ rfl ?_
  refine am_iteT (show nI k ≠ 0 from nI_ne0 (by omega) (by omega)) ?_
  iterate 4 refine am_wp_step _ rfl ?_
  refine am_iteF (show ¬ nI k ≤ 0 from nI_nle (by omega) (by omega)) ?_
  iterate 4 refine am_wp_step _ rfl ?_
  refine ⟨_, _, c_numA _ a k N h M q hk hak, ?_⟩
  iterate 1 refine am_wp_step _ rfl ?_
  have := c_od3 (d := d) (u := u) (a := a) (h := h) (v := nvl h a k) (N := N) hS hl hk4
  rw [show max 1 k = k by omega] at this
  exact this
/-- what reading gives -/
def cA (r : Nat ⊕ List Int32) (w : Option am_V) (M' : am_F) : Prop := match r with
  | .inl p => w = some (.inl (nI p))
  | .inr E => w = some (.inl (-1)) ∧ rwS M' 12 E
def cQ (M0 : am_F) (r : Nat ⊕ List Int32) : Option am_V → am_M → Prop := fun w m => ∃ M', m = am_S M' ∧ fc M0 M' ∧ cA r w M'
theorem c_loop {d u N : Nat} {h : Nat → Int32} {M0 : am_F} (hu : u = 0 ∨ u = 1) (hN : N ≤ 50) (H : TXT h N) (T0 : TR M0 h N) {w : Bool} {a : Nat} {C P : List Int32} {r : Nat ⊕ List Int32} (p : CR h (nmU u) N w a C P r) : ∀ (M : am_F) (x : Int32), a ≤ N → C.length + P.length ≤ a → RSt M w C P → fc M0 M → am_wp (am_cl am_cds (d + 8)) am_c33 (cQ M0 r) 19 [(0, .inr (.inr (19, 0, 0))), (1, .inr (.inr (21, 4, 0))), (2, .inr (.inr (3, 0, u))), (3, .inl x), (4, .inl (nI a))] [] (am_S M) := by
  have hN1 : N < 2 ^ 31 := by omega
  have top : ∀ (M : am_F) (x : Int32) (a : Nat) (r : Nat ⊕ List Int32), fc M0 M → a < N → am_wp (am_cl am_cds (d + 8)) am_c33 (cQ M0 r) 23 [(0, .inr (.inr (19, 0, 0))), (1, .inr (.inr (21, 4, 0))), (2, .inr (.inr (3, 0, u))), (3, .inl x), (4, .inl (nI a))] [] (am_S M) → am_wp (am_cl am_cds (d + 8)) am_c33 (cQ M0 r) 19 [(0, .inr (.inr (19, 0, 0))), (1, .inr (.inr (21, 4, 0))), (2, .inr (.inr (3, 0, u))), (3, .inl x), (4, .inl (nI a))] [] (am_S M) := by
    intro M x a r hf ha K
    have q := TR_fc hf T0
    iterate 4 refine am_wp_step _ rfl ?_
    exact am_iteF (show ¬ M 21 4 0 1 ≤ nI a by rw [q.1]; exact nI_ge ha hN1) K
  have tW : ∀ (M : am_F) (x : Int32) (a : Nat) (r : Nat ⊕ List Int32) (C P : List Int32), fc M0 M → a < N → RSt M true C P → (∃ v M', am_cl am_cds (d + 8) 34 [.inr (.inr (19, 0, 0)), .inr (.inr (21, 4, 0)), .inl (nI a), .inr (.inr (3, 0, u))] (am_S M) (some (.inl v)) (am_S M') ∧ am_wp (am_cl am_cds (d + 8)) am_c33 (cQ M0 r) 37 [(0, .inr (.inr (19, 0, 0))), (1, .inr (.inr (21, 4, 0))), (2, .inr (.inr (3, 0, u))), (3, .inl x), (4, .inl (nI a))] [.inl v] (am_S M')) → am_wp (am_cl am_cds (d + 8)) am_c33 (cQ M0 r) 19 [(0, .inr (.inr (19, 0, 0))), (1, .inr (.inr (21, 4, 0))), (2, .inr (.inr (3, 0, u))), (3, .inl x), (4, .inl (nI a))] [] (am_S M) := by
    intro M x a r C P hf ha hS ⟨v, M', k1, k2⟩
    refine top M x a r hf ha ?_
    iterate 3 refine am_wp_step _ rfl ?_
    refine am_iteF (show ¬ M 19 0 0 4 = 0 by rw [hS.2.2.2.2]; decide) ?_
    iterate 5 refine am_wp_step _ rfl ?_
    refine ⟨_, _, k1, ?_⟩
    iterate 1 refine am_wp_step _ rfl ?_
    exact k2
  have tS : ∀ (M : am_F) (x : Int32) (a : Nat) (r : Nat ⊕ List Int32) (C P : List Int32), fc M0 M → a < N → RSt M false C P → (∃ v M', am_cl am_cds (d + 8) 39 [.inr (.inr (19, 0, 0)), .inl (h a)] (am_S M) (some (.inl v)) (am_S M') ∧ am_wp (am_cl am_cds (d + 8)) am_c33 (cQ M0 r) 37 [(0, .inr (.inr (19, 0, 0))), (1, .inr (.inr (21, 4, 0))), (2, .inr (.inr (3, 0, u))), (3, .inl x), (4, .inl (nI a))] [.inl v] (am_S M')) → am_wp (am_cl am_cds (d + 8)) am_c33 (cQ M0 r) 19 [(0, .inr (.inr (19, 0, 0))), (1, .inr (.inr (21, 4, 0))), (2, .inr (.inr (3, 0, u))), (3, .inl x), (4, .inl (nI a))] [] (am_S M) := by
    intro M x a r C P hf ha hS ⟨v, M', k1, k2⟩
    refine top M x a r hf ha ?_
    iterate 3 refine am_wp_step _ rfl ?_
    refine am_iteT (show M 19 0 0 4 = 0 by rw [hS.2.2.2.2]; rfl) ?_
    iterate 4 refine am_wp_step _ rfl ?_
    refine ⟨_, _, c_at4 _ a N h M (TR_fc hf T0) (by omega), ?_⟩
    rw [if_pos ha]
    iterate 1 refine am_wp_step _ rfl ?_
    refine ⟨_, _, k1, ?_⟩
    exact k2
  have flt : ∀ (M : am_F) (x : Int32) (a : Nat), fc M0 M → am_wp (am_cl am_cds (d + 8)) am_c33 (cQ M0 (.inl a)) 37 [(0, .inr (.inr (19, 0, 0))), (1, .inr (.inr (21, 4, 0))), (2, .inr (.inr (3, 0, u))), (3, .inl x), (4, .inl (nI a))] [.inl 0] (am_S M) := by
    intro M x a hf
    iterate 5 refine am_wp_step _ rfl ?_
    exact ⟨trivial, M, rfl, hf, rfl⟩
  have nxt : ∀ (M : am_F) (x : Int32) (a k : Nat) (r : Nat ⊕ List Int32), 0 < k → k ≤ 4 → am_wp (am_cl am_cds (d + 8)) am_c33 (cQ M0 r) 19 [(0, .inr (.inr (19, 0, 0))), (1, .inr (.inr (21, 4, 0))), (2, .inr (.inr (3, 0, u))), (3, .inl (nI k)), (4, .inl (nI (a + k)))] [] (am_S M) → am_wp (am_cl am_cds (d + 8)) am_c33 (cQ M0 r) 37 [(0, .inr (.inr (19, 0, 0))), (1, .inr (.inr (21, 4, 0))), (2, .inr (.inr (3, 0, u))), (3, .inl x), (4, .inl (nI a))] [.inl (nI k)] (am_S M) := by
    intro M x a k r hk hk4 K
    iterate 3 refine am_wp_step _ rfl ?_
    refine am_iteT (show 0 < nI k from nI_lt (a := 0) hk (by omega)) ?_
    iterate 5 refine am_wp_step _ rfl ?_
    rw [show nI a + nI k = nI (a + k) from nI_add a k]
    exact K
  refine CR_ind (fun w a C P r => ∀ (M : am_F) (x : Int32), a ≤ N → C.length + P.length ≤ a → RSt M w C P → fc M0 M → am_wp (am_cl am_cds (d + 8)) am_c33 (cQ M0 r) 19 [(0, .inr (.inr (19, 0, 0))), (1, .inr (.inr (21, 4, 0))), (2, .inr (.inr (3, 0, u))), (3, .inl x), (4, .inl (nI a))] [] (am_S M)) ?_ ?_ ?_ ?_ ?_ ?_ ?_ ?_ ?_ ?_ ?_ ?_ p
  · intro w a C P q q2 M x ha hl hS hf
    have hB := nB_le P
    have hT := TR_fc hf T0
    iterate 4 refine am_wp_step _ rfl ?_
    refine am_iteT (show M 21 4 0 1 ≤ nI a by rw [hT.1]; exact nI_le q (by omega)) ?_
    iterate 3 refine am_wp_step _ rfl ?_
    have K : am_wp (am_cl am_cds (d + 8)) am_c33 (cQ M0 (.inl N)) 53 [(0, .inr (.inr (19, 0, 0))), (1, .inr (.inr (21, 4, 0))), (2, .inr (.inr (3, 0, u))), (3, .inl x), (4, .inl (nI a))] [] (am_S M) := by
      iterate 3 refine am_wp_step _ rfl ?_
      refine ⟨trivial, M, rfl, hf, ?_⟩
      show some (Sum.inl (M 21 4 0 1)) = _
      rw [hT.1]
    cases w with
    | true => exact am_iteT (show M 19 0 0 4 ≠ 0 by rw [hS.2.2.2.2]; decide) K
    | false =>
      refine am_iteF (show ¬ M 19 0 0 4 ≠ 0 by rw [hS.2.2.2.2]; decide) ?_
      iterate 3 refine am_wp_step _ rfl ?_
      have q3 : nB P ≠ 0 := by rcases q2 with q2 | q2; cases q2; exact q2
      exact am_iteF (show ¬ M 19 0 0 3 ≤ 0 by rw [hS.2.2.2.1]; exact nI_nle (by omega) (by omega)) K
  · intro a C P q q2 M x ha hl hS hf
    have hT := TR_fc hf T0
    iterate 4 refine am_wp_step _ rfl ?_
    refine am_iteT (show M 21 4 0 1 ≤ nI a by rw [hT.1]; exact nI_le q (by omega)) ?_
    iterate 3 refine am_wp_step _ rfl ?_
    refine am_iteF (show ¬ M 19 0 0 4 ≠ 0 by rw [hS.2.2.2.2]; decide) ?_
    iterate 3 refine am_wp_step _ rfl ?_
    refine am_iteT (show M 19 0 0 3 ≤ 0 by rw [hS.2.2.2.1, q2]; decide) ?_
    iterate 3 refine am_wp_step _ rfl ?_
    refine am_call0 (c_stl _ 1 C P M (by omega) hS.1 hS.2.1 (by omega)) (fun M1 h1 => ?_)
    iterate 2 refine am_wp_step _ rfl ?_
    exact ⟨trivial, M1, rfl, fc_tr hf (fc_R h1.2.2), rfl, h1.1⟩
  · intro a C P q q2 q3 M x ha hl hS hf
    refine tW M x a _ C P hf q hS ?_
    obtain ⟨M1, k1, k2⟩ := c_od1 (d := d) (v := 0) (C := C) (P := P) (R := fun M' => M' = M) hu (TR_fc hf T0) q q2 ⟨M, c_opS0 _ (h a) C P M hS (by omega) q3, rfl⟩
    subst k2
    exact ⟨0, M1, k1, flt M1 x a hf⟩
  · intro a C P r q q2 q3 p ih M x ha hl hS hf
    refine tW M x a _ C P hf q hS ?_
    obtain ⟨M1, k1, k2⟩ := c_od1 (d := d) (C := C) (P := P) hu (TR_fc hf T0) q q2 (c_opS1 _ (h a) C P M q2 hS (by omega) q3)
    exact ⟨1, M1, k1, nxt M1 x a 1 r (by omega) (by omega) (ih M1 _ (by omega) (by rw [List.length_cons]; omega) k2.1 (fc_tr hf k2.2))⟩
  · intro a C P r k q q2 q3 p ih M x ha hl hS hf
    have hak : a + k ≤ N := by
      have := TXT_lt H (a := a + (k - 1)) (Int32.le_trans (by decide) (q2.1 (k - 1) (by omega)).1)
      omega
    refine tW M x a _ C P hf q hS ?_
    obtain ⟨M1, k1, k2⟩ := c_odK (d := d) hu (TR_fc hf T0) q q2 q3 hak hS (by omega)
    have hlen := enO_len P (nvl h a k :: C)
    rw [List.length_cons] at hlen
    exact ⟨_, M1, k1, nxt M1 x a k r q3 q2.2.1 (ih M1 _ hak (by omega) k2.1 (fc_tr hf k2.2))⟩
  · intro a C P r q q2 q3 q4 q5 p ih M x ha hl hS hf
    refine tW M x a _ C P hf q hS ?_
    obtain ⟨M1, k1, k2⟩ := c_odN (d := d) hu (TR_fc hf T0) q q2 q3 q4 q5 hS (by omega)
    have hlen := enO_len P ((10000 + nmU u (h a)) :: C)
    rw [List.length_cons] at hlen
    exact ⟨_, M1, k1, nxt M1 x a 1 r (by omega) (by omega) (ih M1 _ (by omega) (by omega) k2.1 (fc_tr hf k2.2))⟩
  · intro a C P q q2 q3 q4 q5 M x ha hl hS hf
    refine tW M x a _ C P hf q hS ?_
    exact ⟨0, M, c_od0 hu (TR_fc hf T0) q q2 q3 q4 q5, flt M x a hf⟩
  · intro a C P q q2 q3 M x ha hl hS hf
    refine tS M x a _ C P hf q hS ?_
    exact ⟨0, M, c_sg0 _ (h a) C P M hS (.inl ⟨q2, q3⟩), flt M x a hf⟩
  · intro a C P C1 P1 r q q2 q3 q4 p ih M x ha hl hS hf
    refine tS M x a _ C P hf q hS ?_
    obtain ⟨M1, k1, k2⟩ := c_sg41 (d + 3) C P C1 P1 M hS (by omega) q4 q3
    rw [q2]
    have hlen := enO_len P1 C1
    have hl2 := stl_len 1 P C
    rw [q3] at hl2
    have hl2 : C1.length + (P1.length + 1) = C.length + P.length := hl2
    exact ⟨1, M1, k1, nxt M1 x a 1 r (by omega) (by omega) (ih M1 _ (by omega) (by omega) k2.1 (fc_tr hf k2.2))⟩
  · intro a C P q q2 q3 M x ha hl hS hf
    refine tS M x a _ C P hf q hS ?_
    exact ⟨0, M, c_sg0 _ (h a) C P M hS (.inr ⟨q2, q3⟩), flt M x a hf⟩
  · intro a C P q q2 q3 M x ha hl hS hf
    refine tS M x a _ C P hf q hS ?_
    obtain ⟨M1, k1, k2⟩ := c_sg3 (d + 3) (h a) C P M hS (by omega) q2 q3
    exact ⟨0, M1, k1, flt M1 x a (fc_tr hf k2)⟩
  · intro a C P r q q2 q3 p ih M x ha hl hS hf
    refine tS M x a _ C P hf q hS ?_
    obtain ⟨M1, k1, k2⟩ := c_sgO (d + 3) (h a) C P M hS (by omega) q2 q3
    have hlen := stl_len (lvl (h a)) P C
    exact ⟨1, M1, k1, nxt M1 x a 1 r (by omega) (by omega) (ih M1 _ (by omega) (by rw [List.length_cons]; omega) k2.1 (fc_tr hf k2.2))⟩
theorem c_read {d u N : Nat} {h : Nat → Int32} {M : am_F} {r : Nat ⊕ List Int32} (hu : u = 0 ∨ u = 1) (T0 : TR M h N) (p : CR h (nmU u) N true 0 [] [] r) : ∃ v M', am_cl am_cds (d + 9) 33 [.inr (.inr (19, 0, 0)), .inr (.inr (21, 4, 0)), .inr (.inr (3, 0, u))] (am_S M) v (am_S M') ∧ fc M M' ∧ cA r v M' := by
  obtain ⟨v, me, k1, M', rfl, k2, k3⟩ := am_cl_ex (d := d + 8) (y := 33) (as := [.inr (.inr (19, 0, 0)), .inr (.inr (21, 4, 0)), .inr (.inr (3, 0, u))]) (me := am_S M) (Q := cQ M r) am_c33 rfl (by
    iterate 3 refine am_wp_step _ rfl ?_
    refine ⟨_, c_clear _ 12 M, ?_⟩
    iterate 3 refine am_wp_step _ rfl ?_
    refine ⟨_, c_clear _ 13 _, ?_⟩
    iterate 9 refine am_wp_step _ rfl ?_
    refine ⟨Or.inr rfl, ?_⟩
    iterate 4 refine am_wp_step _ rfl ?_
    refine c_loop hu T0.2.1 T0.2.2.1 T0 p _ _ (Nat.zero_le _) (Nat.le_refl _) ⟨⟨?_, trivial⟩, ⟨?_, trivial⟩, ?_, ?_, am_up_same⟩ ?_
    · rfl
    · rfl
    · rfl
    · rfl
    · intro r b q q2
      show am_up (am_up (am_up (am_up (am_up M 21 12 0 1 0) 21 13 0 1 0) 19 0 0 2 0) 19 0 0 3 0) 19 0 0 4 1 r b = M r b
      rw [am_up_r q2, am_up_r q2, am_up_r q2, am_up_rb (by omega), am_up_rb (by omega)])
  exact ⟨v, M', k1, k2, k3⟩
