/-! PUT, MOVE, DISHES, FEED -/
def bt (x : Int32) (i : Nat) : Bool := x.toBitVec.getLsbD i
theorem b_ext {x y : Int32} (h : ∀ i, i < 32 → bt x i = bt y i) : x = y := Int32.toBitVec_inj.mp (BitVec.eq_of_getLsbD_eq (fun i hi => h i hi))
theorem b_and (x y : Int32) (i : Nat) : bt (x &&& y) i = (bt x i && bt y i) := by unfold bt; rw [Int32.toBitVec_and, BitVec.getLsbD_and]
theorem b_big {x : Int32} {i : Nat} (h : 32 ≤ i) : bt x i = false := BitVec.getLsbD_of_ge _ _ h
theorem b_255 (i : Nat) : bt 255 i = decide (i < 8) := by
  rcases Nat.lt_or_ge i 32 with h | h
  · exact (by decide +kernel : ∀ i, i < 32 → bt 255 i = decide (i < 8)) i h
  · rw [b_big h, decide_eq_false (by omega)]
theorem s_l : ∀ n, n < 32 → ((nI n &&& 31).toBitVec.smod 32).toNat = n := by decide +kernel
theorem b_shl (n : Nat) (hn : n < 32) (x : Int32) {i : Nat} (hi : i < 32) : bt (x <<< (nI n &&& 31)) i = (decide (n ≤ i) && bt x (i - n)) := by
  unfold bt
  rw [Int32.toBitVec_shiftLeft]
  show (x.toBitVec <<< ((nI n &&& 31).toBitVec.smod 32).toNat).getLsbD i = _
  rw [s_l n hn, BitVec.getLsbD_shiftLeft]
  rcases Nat.lt_or_ge i n with h | h
  · simp [h, Nat.not_le.mpr h]
  · simp [hi, h, Nat.not_lt.mpr h]
theorem b_sshr (n : Nat) (hn : n < 32) (x : Int32) {i : Nat} (hi : i < 32) : bt (x >>> (nI n &&& 31)) i = if n + i < 32 then bt x (n + i) else bt x 31 := by
  unfold bt
  rw [Int32.toBitVec_shiftRight]
  show (x.toBitVec.sshiftRight ((nI n &&& 31).toBitVec.smod 32).toNat).getLsbD i = _
  rw [s_l n hn, BitVec.getLsbD_sshiftRight, BitVec.msb_eq_getLsbD_last]
  simp [hi]
theorem sx_0 (x : Int32) : x <<< (nI 0 &&& 31) >>> (nI 0 &&& 31) = x := by
  refine b_ext fun i hi => ?_
  rw [b_sshr 0 (by decide) _ hi, if_pos (by omega), b_shl 0 (by decide) _ (by omega)]
  simp
theorem sx_24 (x : Int32) : x <<< (nI 24 &&& 31) >>> (nI 24 &&& 31) = x.toInt8.toInt32 := by
  refine b_ext fun i hi => ?_
  have e : bt x.toInt8.toInt32 i = if i < 8 then bt x i else bt x 7 := by
    unfold bt
    rw [Int8.toBitVec_toInt32, Int32.toBitVec_toInt8, BitVec.getLsbD_signExtend, BitVec.msb_eq_getLsbD_last]
    by_cases h : i < 8
    · rw [if_pos h, if_pos h, BitVec.getLsbD_signExtend]
      simp [h, hi]
    · rw [if_neg h, if_neg h]
      show (decide (i < 32) && (BitVec.signExtend 8 x.toBitVec).getLsbD 7) = _
      rw [BitVec.getLsbD_signExtend]
      simp [hi]
  rw [e, b_sshr 24 (by decide) _ hi]
  by_cases h : i < 8
  · rw [if_pos (by omega), if_pos h, b_shl 24 (by decide) _ (by omega), decide_eq_true (by omega), show 24 + i - 24 = i by omega, Bool.true_and]
  · rw [if_neg (by omega), if_neg h, b_shl 24 (by decide) _ (by omega), decide_eq_true (by omega), Bool.true_and]
theorem sx_16 (x : Int32) : x <<< (nI 16 &&& 31) >>> (nI 16 &&& 31) = x.toInt16.toInt32 := by
  refine b_ext fun i hi => ?_
  have e : bt x.toInt16.toInt32 i = if i < 16 then bt x i else bt x 15 := by
    unfold bt
    rw [Int16.toBitVec_toInt32, Int32.toBitVec_toInt16, BitVec.getLsbD_signExtend, BitVec.msb_eq_getLsbD_last]
    by_cases h : i < 16
    · rw [if_pos h, if_pos h, BitVec.getLsbD_signExtend]
      simp [h, hi]
    · rw [if_neg h, if_neg h]
      show (decide (i < 32) && (BitVec.signExtend 16 x.toBitVec).getLsbD 15) = _
      rw [BitVec.getLsbD_signExtend]
      simp [hi]
  rw [e, b_sshr 16 (by decide) _ hi]
  by_cases h : i < 16
  · rw [if_pos (by omega), if_pos h, b_shl 16 (by decide) _ (by omega), decide_eq_true (by omega), show 16 + i - 16 = i by omega, Bool.true_and]
  · rw [if_neg (by omega), if_neg h, b_shl 16 (by decide) _ (by omega), decide_eq_true (by omega), Bool.true_and]
def pv (w v : Int32) : Int32 := if w = 8 then v.toInt8.toInt32 else if w = 16 then v.toInt16.toInt32 else v
theorem c_isMissing (d i : Nat) (M : am_F) : am_cl am_cds (d + 1) 57 [.inr (.inr (22, 0, i))] (am_S M) (some (.inl (bI (M 22 0 i 1 = 0)))) (am_S M) := by
  refine am_cl_in am_c57 rfl ?_
  repeat' first | refine am_wp_step _ rfl ?_ | refine am_iteB (fun h => ?_) (fun h => ?_) | refine am_iteN (fun h => ?_) (fun h => ?_) | refine am_ite (fun h => ?_) (fun h => ?_) | fail
  · refine ⟨Or.inl rfl, ?_, rfl⟩
    rw [bI_f h]
  · refine ⟨Or.inr rfl, ?_, rfl⟩
    rw [bI_t (Decidable.not_not.mp h)]
theorem c_write (d i k s : Nat) (v : Int32) (M : am_F) (hw : M 22 0 i 1 = 8 ∨ M 22 0 i 1 = 16 ∨ M 22 0 i 1 = 32) (hs : M 22 0 i 2 = nI s) (hs2 : s ≤ 40) (hk : k < s) : am_cl am_cds (d + 1) 59 [.inr (.inr (22, 0, i)), .inl (nI k), .inl v] (am_S M) none (am_S (am_up M 31 0 i k (pv (M 22 0 i 1) v))) := by
  refine am_cl_in am_c59 rfl ?_
  iterate 7 refine am_wp_step _ rfl ?_
  refine am_iteF (nI_pos (by omega)) ?_
  iterate 4 refine am_wp_step _ rfl ?_
  refine am_iteF (by show ¬ M 22 0 i 2 ≤ nI k; rw [hs]; exact nI_ge hk (by omega)) ?_
  iterate 9 refine am_wp_step _ rfl ?_
  refine am_ixN (k) (rfl) (show _ < 40 by omega) (show (40 : Nat) < 2 ^ 31 by decide) (fun e => ?_); rw [e]
  iterate 1 refine am_wp_step _ rfl ?_
  refine ⟨rfl, ?_⟩
  show am_S (am_up M 31 0 i k (v <<< ((32 - M 22 0 i 1) &&& 31) >>> ((32 - M 22 0 i 1) &&& 31))) = _
  rcases hw with h | h | h
  · rw [h, show ((32 : Int32) - 8) = nI 24 from by decide, sx_24]; rfl
  · rw [h, show ((32 : Int32) - 16) = nI 16 from by decide, sx_16]; rfl
  · rw [h, show ((32 : Int32) - 32) = nI 0 from by decide, sx_0]; rfl
theorem jj_put (x y z : Int32) : JJ 104 213 [.inl x, .inl y, .inl z] := by
  intro M hR
  have hS := hR.2.2.2.2.2.1
  by_cases hg : 0 ≤ x ∧ x ≤ 3
  · obtain ⟨i, hi, rfl⟩ := wI_ex (b := 3) hg (by decide)
    obtain ⟨q1, q2, ⟨s, hs, q3⟩, q4, q5⟩ := hS i (by omega)
    have q2' : M 22 0 i 2 = nI s := q2.trans q3
    by_cases h0 : M 33 9 0 i = 0
    · refine JJ_e (k := 2) (by decide) (by decide) hR ?_ (fun M1 e33 e26 => ?_)
      · refine am_cl_in am_c104 rfl ?_
        iterate 2 refine am_wp_step _ rfl ?_
        refine ⟨_, _, cl_t hg (c_isSheet _ _ _), ?_⟩
        iterate 5 refine am_wp_step _ rfl ?_
        refine am_ixN (i) (rfl) (show _ < 4 by omega) (show (4 : Nat) < 2 ^ 31 by decide) (fun e => ?_); rw [e]
        iterate 3 refine am_wp_step _ rfl ?_
        refine ⟨_, _, cl_t (q1.trans h0) (c_isMissing _ i M), ?_⟩
        repeat' first | refine am_wp_step _ rfl ?_ | refine am_iteB (fun h => ?_) (fun h => ?_) | refine am_iteN (fun h => ?_) (fun h => ?_) | refine am_ite (fun h => ?_) (fun h => ?_) | refine ⟨_, _, c_err2 _ _, ?_⟩ | fail
        exact ⟨trivial, rfl, rfl⟩
      · refine am_cl_in am_c213 rfl ?_
        iterate 2 refine am_wp_step _ rfl ?_
        refine ⟨_, _, cl_t hg (m_isSheet _ _ _), ?_⟩
        iterate 5 refine am_wp_step _ rfl ?_
        refine am_ixN (i) (rfl) (show _ < 4 by omega) (show (4 : Nat) < 2 ^ 31 by decide) (fun e => ?_); rw [e]
        iterate 1 refine am_wp_step _ rfl ?_
        refine am_iteF (by show ¬ M1 33 9 0 i ≠ 0; rw [e33, h0]; decide) ?_
        repeat' first | refine am_wp_step _ rfl ?_ | refine am_iteB (fun h => ?_) (fun h => ?_) | refine am_iteN (fun h => ?_) (fun h => ?_) | refine am_ite (fun h => ?_) (fun h => ?_) | refine ⟨_, _, m_find2 _ _, ?_⟩ | fail
        exact ⟨trivial, rfl, rfl⟩
    · have hne : ¬ M 22 0 i 1 = 0 := by rw [q1]; exact h0
      by_cases h1 : isN y s
      · obtain ⟨k, hk, rfl⟩ := isN_ex h1 (by omega)
        have hw : M 22 0 i 1 = 8 ∨ M 22 0 i 1 = 16 ∨ M 22 0 i 1 = 32 := by rw [q1]; exact q4.resolve_left h0
        refine JJ_s (v := 1) (M1 := am_up M 31 0 i k (pv (M 22 0 i 1) z)) (M2 := am_up (am_up M 31 0 i k (pv (M 22 0 i 1) z)) 33 11 0 (40 * i + k) (pv (M 22 0 i 1) z)) hR ?_ ?_ (fun r r1 r2 => am_up_r r2) (fun r bb h => am_up_rb (by omega)) ?_
        · refine am_cl_in am_c104 rfl ?_
          iterate 2 refine am_wp_step _ rfl ?_
          refine ⟨_, _, cl_t hg (c_isSheet _ _ _), ?_⟩
          iterate 5 refine am_wp_step _ rfl ?_
          refine am_ixN (i) (rfl) (show _ < 4 by omega) (show (4 : Nat) < 2 ^ 31 by decide) (fun e => ?_); rw [e]
          iterate 3 refine am_wp_step _ rfl ?_
          refine ⟨_, _, cl_f hne (c_isMissing _ i M), ?_⟩
          iterate 7 refine am_wp_step _ rfl ?_
          rw [show (am_S M).2.2 (am_el 36) 0 i 2 = nI s from q2']
          iterate 1 refine am_wp_step _ rfl ?_
          refine ⟨_, _, cl_t h1 (c_within _ _ _ _ _), ?_⟩
          iterate 5 refine am_wp_step _ rfl ?_
          refine ⟨_, c_write _ i k s z M hw q2' hs hk, ?_⟩
          iterate 2 refine am_wp_step _ rfl ?_
          exact ⟨trivial, rfl, rfl⟩
        · generalize hX : am_up M 31 0 i k (pv (M 22 0 i 1) z) = X
          have e33 : X 33 = M 33 := by rw [← hX]; exact am_up_r (by decide)
          have e9 : X 33 9 0 i = M 22 0 i 1 := by rw [e33, q1]
          have e10 : X 33 10 0 i = nI s := by rw [e33]; exact q3
          refine am_cl_in am_c213 rfl ?_
          iterate 2 refine am_wp_step _ rfl ?_
          refine ⟨_, _, cl_t hg (m_isSheet _ _ _), ?_⟩
          iterate 5 refine am_wp_step _ rfl ?_
          refine am_ixN (i) (rfl) (show _ < 4 by omega) (show (4 : Nat) < 2 ^ 31 by decide) (fun e => ?_); rw [e]
          iterate 1 refine am_wp_step _ rfl ?_
          refine am_iteT (by show X 33 9 0 i ≠ 0; rw [e9]; exact hne) ?_
          iterate 6 refine am_wp_step _ rfl ?_
          refine am_ixN (i) (rfl) (show _ < 4 by omega) (show (4 : Nat) < 2 ^ 31 by decide) (fun e => ?_); rw [e]
          rw [show (am_S X).2.2 33 10 0 i = nI s from e10]
          iterate 3 refine am_wp_step _ rfl ?_
          refine ⟨_, _, cl_t h1 (m_within _ _ _ _ _), ?_⟩
          iterate 12 refine am_wp_step _ rfl ?_
          refine am_ixN (i) (rfl) (show _ < 4 by omega) (show (4 : Nat) < 2 ^ 31 by decide) (fun e => ?_); rw [e]
          rw [show (am_S X).2.2 33 9 0 i = M 22 0 i 1 from e9]
          iterate 2 refine am_wp_step _ rfl ?_
          refine am_ite (fun h => ?_) (fun h => ?_)
          · iterate 4 refine am_wp_step _ rfl ?_
            refine am_ixN (i) (rfl) (show _ < 4 by omega) (show (4 : Nat) < 2 ^ 31 by decide) (fun e => ?_); rw [e]
            rw [show (am_S X).2.2 33 9 0 i = M 22 0 i 1 from e9]
            iterate 2 refine am_wp_step _ rfl ?_
            refine am_ite (fun h2 => ?_) (fun h2 => ?_)
            · iterate 2 refine am_wp_step _ rfl ?_
              refine am_ixN (40 * i + k) (by simp only [nI_lit, nI_add, nI_mul]) (show _ < 160 by omega) (show (160 : Nat) < 2 ^ 31 by decide) (fun e => ?_); rw [e]
              iterate 2 refine am_wp_step _ rfl ?_
              refine ⟨trivial, rfl, ?_⟩
              unfold pv
              rw [if_neg h, if_neg h2]
            · iterate 4 refine am_wp_step _ rfl ?_
              refine am_ixN (40 * i + k) (by simp only [nI_lit, nI_add, nI_mul]) (show _ < 160 by omega) (show (160 : Nat) < 2 ^ 31 by decide) (fun e => ?_); rw [e]
              iterate 2 refine am_wp_step _ rfl ?_
              refine ⟨trivial, rfl, ?_⟩
              unfold pv
              rw [if_neg h, if_pos (Decidable.not_not.mp h2)]
          · iterate 4 refine am_wp_step _ rfl ?_
            refine am_ixN (40 * i + k) (by simp only [nI_lit, nI_add, nI_mul]) (show _ < 160 by omega) (show (160 : Nat) < 2 ^ 31 by decide) (fun e => ?_); rw [e]
            iterate 2 refine am_wp_step _ rfl ?_
            refine ⟨trivial, rfl, ?_⟩
            unfold pv
            rw [if_pos (Decidable.not_not.mp h)]
        · intro j hj
          obtain ⟨p1, p2, p3, p4, p5⟩ := hS j hj
          rw [am_up_r (r' := 22) (by decide), am_up_b (b' := 9) (by decide), am_up_b (b' := 10) (by decide), am_up_r (r' := 33) (by decide)]
          refine ⟨p1, p2, p3, p4, fun t ht => ?_⟩
          rw [am_up_fu, am_up_r (r' := 33) (by decide)]
          by_cases hq : j = i ∧ t = k
          · obtain ⟨rfl, rfl⟩ := hq
            rw [am_up_same, fu_at]
          · rw [fu_ne (by omega), ← p5 t ht]
            unfold am_up
            rw [if_neg (by omega)]
      · refine JJ_e (k := 1) (by decide) (by decide) hR ?_ (fun M1 e33 e26 => ?_)
        · refine am_cl_in am_c104 rfl ?_
          iterate 2 refine am_wp_step _ rfl ?_
          refine ⟨_, _, cl_t hg (c_isSheet _ _ _), ?_⟩
          iterate 5 refine am_wp_step _ rfl ?_
          refine am_ixN (i) (rfl) (show _ < 4 by omega) (show (4 : Nat) < 2 ^ 31 by decide) (fun e => ?_); rw [e]
          iterate 3 refine am_wp_step _ rfl ?_
          refine ⟨_, _, cl_f hne (c_isMissing _ i M), ?_⟩
          iterate 7 refine am_wp_step _ rfl ?_
          rw [show (am_S M).2.2 (am_el 36) 0 i 2 = nI s from q2']
          iterate 1 refine am_wp_step _ rfl ?_
          refine ⟨_, _, cl_f h1 (c_within _ _ _ _ _), ?_⟩
          repeat' first | refine am_wp_step _ rfl ?_ | refine am_iteB (fun h => ?_) (fun h => ?_) | refine am_iteN (fun h => ?_) (fun h => ?_) | refine am_ite (fun h => ?_) (fun h => ?_) | refine ⟨_, _, c_err1 _ _, ?_⟩ | fail
          exact ⟨trivial, rfl, rfl⟩
        · refine am_cl_in am_c213 rfl ?_
          iterate 2 refine am_wp_step _ rfl ?_
          refine ⟨_, _, cl_t hg (m_isSheet _ _ _), ?_⟩
          iterate 5 refine am_wp_step _ rfl ?_
          refine am_ixN (i) (rfl) (show _ < 4 by omega) (show (4 : Nat) < 2 ^ 31 by decide) (fun e => ?_); rw [e]
          iterate 1 refine am_wp_step _ rfl ?_
          refine am_iteT (by show M1 33 9 0 i ≠ 0; rw [e33]; exact h0) ?_
          iterate 6 refine am_wp_step _ rfl ?_
          refine am_ixN (i) (rfl) (show _ < 4 by omega) (show (4 : Nat) < 2 ^ 31 by decide) (fun e => ?_); rw [e]
          rw [show (am_S M1).2.2 33 10 0 i = nI s from by show M1 33 10 0 i = nI s; rw [e33]; exact q3]
          iterate 3 refine am_wp_step _ rfl ?_
          refine ⟨_, _, cl_f h1 (m_within _ _ _ _ _), ?_⟩
          repeat' first | refine am_wp_step _ rfl ?_ | refine am_iteB (fun h => ?_) (fun h => ?_) | refine am_iteN (fun h => ?_) (fun h => ?_) | refine am_ite (fun h => ?_) (fun h => ?_) | refine ⟨_, _, m_find1 _ _, ?_⟩ | fail
          exact ⟨trivial, rfl, rfl⟩
  · refine JJ_e (k := 1) (by decide) (by decide) hR ?_ (fun M1 e33 e26 => ?_)
    · refine am_cl_in am_c104 rfl ?_
      repeat' first | refine am_wp_step _ rfl ?_ | refine am_iteB (fun h => ?_) (fun h => ?_) | refine am_iteN (fun h => ?_) (fun h => ?_) | refine am_ite (fun h => ?_) (fun h => ?_) | refine ⟨_, _, cl_f hg (c_isSheet _ _ _), ?_⟩ | refine ⟨_, _, c_err1 _ _, ?_⟩ | fail
      exact ⟨trivial, rfl, rfl⟩
    · refine am_cl_in am_c213 rfl ?_
      repeat' first | refine am_wp_step _ rfl ?_ | refine am_iteB (fun h => ?_) (fun h => ?_) | refine am_iteN (fun h => ?_) (fun h => ?_) | refine am_ite (fun h => ?_) (fun h => ?_) | refine ⟨_, _, cl_f hg (m_isSheet _ _ _), ?_⟩ | refine ⟨_, _, m_find1 _ _, ?_⟩ | fail
      exact ⟨trivial, rfl, rfl⟩
