/-! THE ORDER -/
def insR (r : Nat → Int32) (i : Nat) : List Nat → List Nat
  | [] => [i]
  | x :: t => if r x < r i then x :: insR r i t else i :: x :: t
def so (r : Nat → Int32) : Nat → List Nat
  | 0 => []
  | k + 1 => insR r k (so r k)
def plN (f : Nat → Int32) : List Nat → Prop
  | [] => True
  | v :: t => f t.length = nI v ∧ plN f t
theorem plN_cg {f g : Nat → Int32} {st : List Nat} (h : ∀ j, j < st.length → g j = f j) (hc : plN f st) : plN g st := by
  induction st with
  | nil => trivial
  | cons v t ih => exact ⟨(h t.length (by simp)).trans hc.1, ih (fun j hj => h j (by simp; omega)) hc.2⟩
theorem insR_len (r : Nat → Int32) (i : Nat) (l : List Nat) : (insR r i l).length = l.length + 1 := by
  induction l with
  | nil => rfl
  | cons x t ih => unfold insR; split <;> simp [ih]
theorem so_len (r : Nat → Int32) (n : Nat) : (so r n).length = n := by
  induction n with
  | zero => rfl
  | succ n ih => unfold so; rw [insR_len, ih]
theorem insR_lt {r : Nat → Int32} {i : Nat} {l : List Nat} {n : Nat} (hi : i < n) (h : ∀ y ∈ l, y < n) : ∀ y ∈ insR r i l, y < n := by
  induction l with
  | nil => intro y hy; simp [insR] at hy; omega
  | cons x t ih =>
    intro y hy
    unfold insR at hy
    split at hy
    · rcases List.mem_cons.mp hy with q | q
      · rw [q]; exact h x (by simp)
      · exact ih (fun y hy => h y (by simp [hy])) y q
    · rcases List.mem_cons.mp hy with q | q
      · omega
      · exact h y q
theorem so_lt (r : Nat → Int32) (n : Nat) : ∀ y ∈ so r n, y < n := by
  induction n with
  | zero => intro y hy; cases hy
  | succ n ih => exact insR_lt (by omega) (fun y hy => by have := ih y hy; omega)
theorem insR_cg {r r' : Nat → Int32} {i n : Nat} {l : List Nat} (hi : i < n) (h : ∀ y ∈ l, y < n) (hr : ∀ j, j < n → r' j = r j) : insR r' i l = insR r i l := by
  induction l with
  | nil => rfl
  | cons x t ih =>
    unfold insR
    rw [hr x (h x (by simp)), hr i hi, ih (fun y hy => h y (by simp [hy]))]
theorem so_cg {r r' : Nat → Int32} {n : Nat} (hr : ∀ j, j < n → r' j = r j) : so r' n = so r n := by
  induction n with
  | zero => rfl
  | succ n ih =>
    unfold so
    rw [ih (fun j hj => hr j (by omega))]
    exact insR_cg (n := n + 1) (by omega) (fun y hy => by have := so_lt r n y hy; omega) hr
def odr (a : Nat → Int32) (n : Nat) : Nat → Nat := fun i => (so (fun j => a (10 + 8 * j + 3)) n).reverse.getD i 0
theorem plN_at {f : Nat → Int32} {l : List Nat} (h : plN f l) : ∀ i, i < l.length → f i = nI (l.reverse.getD i 0) := by
  induction l with
  | nil => intro i hi; simp at hi
  | cons v t ih =>
    intro i hi
    by_cases e : i = t.length
    · rw [e]
      rw [h.1]
      simp
    · have hi2 : i < t.length := by simp at hi; omega
      rw [ih h.2 i hi2]
      congr 1
      rw [List.reverse_cons, List.getD_eq_getElem?_getD, List.getD_eq_getElem?_getD, List.getElem?_append_left (by simp; exact hi2)]
theorem odr_lt {a : Nat → Int32} {n i : Nat} (hi : i < n) : odr a n i < n := by
  refine so_lt (fun j => a (10 + 8 * j + 3)) n _ ?_
  unfold odr
  have hl : i < (so (fun j => a (10 + 8 * j + 3)) n).reverse.length := by simp [so_len, hi]
  rw [List.getD_eq_getElem?_getD, List.getElem?_eq_getElem hl]
  exact List.mem_reverse.mp (List.getElem_mem hl)
theorem odr_cg {a a' : Nat → Int32} {n : Nat} (h : ∀ j, j < n → a' (10 + 8 * j + 3) = a (10 + 8 * j + 3)) : odr a' n = odr a n := by
  unfold odr
  rw [so_cg (r := fun j => a (10 + 8 * j + 3)) (r' := fun j => a' (10 + 8 * j + 3)) h]
def fO (M M' : am_F) (r0 b : Nat) : Prop := ∀ r bb, ¬ (r = r0 ∧ bb = b) → M' r bb = M r bb
theorem fO_rf {M : am_F} {r0 b : Nat} : fO M M r0 b := fun _ _ _ => rfl
theorem fO_tr {M M1 M2 : am_F} {r0 b : Nat} (h1 : fO M M1 r0 b) (h2 : fO M1 M2 r0 b) : fO M M2 r0 b := fun r bb h => (h2 r bb h).trans (h1 r bb h)
theorem fO_up {M : am_F} {r0 b i s : Nat} {x : Int32} : fO M (am_up M r0 b i s x) r0 b := fun r bb h => am_up_rb (fun q => h ⟨q.1, q.2⟩)
theorem c_sort (d b n : Nat) (M : am_F) (hn : n ≤ 8) (hc : M 16 b 0 1 = nI n) : ∃ M', am_cl am_cds (d + 1) 3 [.inr (.inr (16, b, 0))] (am_S M) none (am_S M') ∧ plN (M' 29 b 0) (so (fun j => M 18 b j 3) n) ∧ fO M M' 29 b := by
  refine am_cl_v (fun M' => plN (M' 29 b 0) (so (fun j => M 18 b j 3) n) ∧ fO M M' 29 b) am_c3 rfl ?_
  generalize hr : (fun j => M 18 b j 3) = r
  have hrj : ∀ j, M 18 b j 3 = r j := fun j => by rw [← hr]
  iterate 2 refine am_wp_step _ rfl ?_
  refine am_for1 2 (fun x => [(0, .inr (.inr (16, b, 0))), (1, .inl x)]) (fun i x M1 => x = nI i ∧ plN (M1 29 b 0) (so r i) ∧ fO M M1 29 b) n ?_ ?_ 0 0 M (Nat.zero_le _) ⟨nI_0.symm, trivial, fO_rf⟩
  · intro i z M1 hi hP K
    obtain ⟨hz, hS, hF⟩ := hP
    have hnx : z + 1 = nI (i + 1) := by rw [hz, nI_1]
    have inner : ∀ (t : List Nat) (x : Int32) (M2 : am_F), x = nI t.length → (∀ y ∈ t, y < i) → t.length ≤ i → plN (M2 29 b 0) t → fO M M2 29 b → (∀ M3, plN (M3 29 b 0) (insR r i t) → (∀ j, t.length < j → M3 29 b 0 j = M2 29 b 0 j) → fO M M3 29 b → am_wp (am_cl am_cds d) am_c3 (fun w m => w = none ∧ ∃ M', m = am_S M' ∧ plN (M' 29 b 0) (so r n) ∧ fO M M' 29 b) 2 [(0, .inr (.inr (16, b, 0))), (1, .inl (z + 1))] [] (am_S M3)) → am_wp (am_cl am_cds d) am_c3 (fun w m => w = none ∧ ∃ M', m = am_S M' ∧ plN (M' 29 b 0) (so r n) ∧ fO M M' 29 b) 8 [(0, .inr (.inr (16, b, 0))), (1, .inl z), (2, .inl x)] [] (am_S M2) := by
      intro t
      induction t with
      | nil =>
        intro x M2 hx hlt hle hp hF2 Kc
        iterate 2 refine am_wp_step _ rfl ?_
        refine am_iteT (by rw [hx]; decide) ?_
        iterate 5 refine am_wp_step _ rfl ?_
        refine am_ixN (0) (hx) (show _ < 8 by omega) (show (8 : Nat) < 2 ^ 31 by decide) (fun e => ?_)
        rw [e]
        iterate 2 refine am_wp_step _ rfl ?_
        exact Kc _ ⟨am_up_same.trans hz, trivial⟩ (fun j hj => am_up_s (by simp at hj; omega)) (fO_tr hF2 fO_up)
      | cons y t ih =>
        intro x M2 hx hlt hle hp hF2 Kc
        have hyi : y < i := hlt y (by simp)
        have hle2 : t.length + 1 ≤ i := by simpa using hle
        have hx1 : x - 1 = nI t.length := by rw [hx]; exact nI_pred _
        have e1 : M2 29 b 0 t.length = nI y := hp.1
        have e18 : ∀ j, M2 18 b j 3 = r j := fun j => by rw [hF2 18 b (by omega)]; exact hrj j
        iterate 2 refine am_wp_step _ rfl ?_
        refine am_iteF (by rw [hx]; exact nI_nle (by simp) (by simp; omega)) ?_
        iterate 8 refine am_wp_step _ rfl ?_
        refine am_ixN (t.length) (hx1) (show _ < 8 by omega) (show (8 : Nat) < 2 ^ 31 by decide) (fun e2 => ?_)
        rw [e2, show (am_S M2).2.2 29 b 0 t.length = nI y from e1]
        iterate 1 refine am_wp_step _ rfl ?_
        refine am_ixN (y) (rfl) (show _ < 8 by omega) (show (8 : Nat) < 2 ^ 31 by decide) (fun e3 => ?_)
        rw [e3]
        iterate 5 refine am_wp_step _ rfl ?_
        refine am_ixN (i) (hz) (show _ < 8 by omega) (show (8 : Nat) < 2 ^ 31 by decide) (fun e4 => ?_)
        rw [e4]
        iterate 2 refine am_wp_step _ rfl ?_
        refine am_ite (fun h => ?_) (fun h => ?_)
        · have h : M2 18 b i 3 ≤ M2 18 b y 3 := h
          rw [e18, e18] at h
          iterate 5 refine am_wp_step _ rfl ?_
          refine am_ixN (t.length + 1) (hx) (show _ < 8 by omega) (show (8 : Nat) < 2 ^ 31 by decide) (fun e5 => ?_)
          rw [e5]
          iterate 2 refine am_wp_step _ rfl ?_
          refine Kc _ ?_ (fun j hj => am_up_s (by simp at hj; omega)) (fO_tr hF2 fO_up)
          unfold insR
          rw [if_neg (Int32.not_lt.mpr h)]
          refine ⟨by show am_up M2 29 b 0 (t.length + 1) z 29 b 0 (t.length + 1) = nI i; rw [am_up_same, hz], plN_cg (fun j hj => am_up_s (by simp at hj; omega)) hp⟩
        · have h : ¬ M2 18 b i 3 ≤ M2 18 b y 3 := h
          rw [e18, e18] at h
          iterate 9 refine am_wp_step _ rfl ?_
          refine am_ixN (t.length) (hx1) (show _ < 8 by omega) (show (8 : Nat) < 2 ^ 31 by decide) (fun e6 => ?_)
          rw [e6, show (am_S M2).2.2 29 b 0 t.length = nI y from e1]
          iterate 1 refine am_wp_step _ rfl ?_
          refine am_ixN (t.length + 1) (hx) (show _ < 8 by omega) (show (8 : Nat) < 2 ^ 31 by decide) (fun e5 => ?_)
          rw [e5]
          iterate 2 refine am_wp_step _ rfl ?_
          refine ih _ _ (by rw [hx]; exact nI_m1 _) (fun w hw => hlt w (by simp [hw])) (by omega) (plN_cg (fun j hj => am_up_s (by omega)) hp.2) (fO_tr hF2 fO_up) (fun M3 h1 h2 h3 => ?_)
          refine Kc M3 ?_ (fun j hj => ?_) h3
          · unfold insR
            rw [if_pos (Int32.not_le.mp h)]
            refine ⟨?_, h1⟩
            rw [insR_len, h2 _ (by omega)]
            exact am_up_same
          · rw [h2 j (by simp at hj; omega)]
            exact am_up_s (by simp at hj; omega)
    iterate 4 refine am_wp_step _ rfl ?_
    refine am_iteF (by show ¬ M1 16 b 0 1 ≤ z; rw [hF 16 b (by omega), hc, hz]; exact nI_ge hi (by omega)) ?_
    iterate 2 refine am_wp_step _ rfl ?_
    refine inner (so r i) z M1 (by rw [so_len]; exact hz) (so_lt r i) (by rw [so_len]; omega) hS hF (fun M3 h1 _ h3 => ?_)
    exact K _ _ ⟨hnx, h1, h3⟩
  · intro z M1 hP
    obtain ⟨hz, hS, hF⟩ := hP
    iterate 4 refine am_wp_step _ rfl ?_
    refine am_iteT (by show M1 16 b 0 1 ≤ z; rw [hF 16 b (by omega), hc, hz]; exact nI_le (Nat.le_refl _) (by omega)) ?_
    iterate 1 refine am_wp_step _ rfl ?_
    exact ⟨rfl, M1, rfl, hS, hF⟩
theorem m_findOrder (d n : Nat) (M : am_F) (hn : n ≤ 8) (hc : M 33 0 0 1 = nI n) : ∃ M', am_cl am_cds (d + 2) 181 [.inr (.inr (26, 0, 0))] (am_S M) none (am_S M') ∧ plN (M' 33 7 0) (so (fun j => M 33 0 0 (10 + 8 * j + 3)) n) ∧ fO M M' 33 7 := by
  refine am_cl_v (fun M' => plN (M' 33 7 0) (so (fun j => M 33 0 0 (10 + 8 * j + 3)) n) ∧ fO M M' 33 7) am_c181 rfl ?_
  generalize hr : (fun j => M 33 0 0 (10 + 8 * j + 3)) = r
  have hrj : ∀ j, M 33 0 0 (10 + 8 * j + 3) = r j := fun j => by rw [← hr]
  iterate 2 refine am_wp_step _ rfl ?_
  refine am_for1 2 (fun x => [(0, .inr (.inr (26, 0, 0))), (1, .inl x)]) (fun i x M1 => x = nI i ∧ plN (M1 33 7 0) (so r i) ∧ fO M M1 33 7) n ?_ ?_ 0 0 M (Nat.zero_le _) ⟨nI_0.symm, trivial, fO_rf⟩
  · intro i z M1 hi hP K
    obtain ⟨hz, hS, hF⟩ := hP
    have hnx : z + 1 = nI (i + 1) := by rw [hz, nI_1]
    have inner : ∀ (t : List Nat) (x : Int32) (M2 : am_F), x = nI t.length → (∀ y ∈ t, y < i) → t.length ≤ i → plN (M2 33 7 0) t → fO M M2 33 7 → (∀ M3, plN (M3 33 7 0) (insR r i t) → (∀ j, t.length < j → M3 33 7 0 j = M2 33 7 0 j) → fO M M3 33 7 → am_wp (am_cl am_cds (d + 1)) am_c181 (fun w m => w = none ∧ ∃ M', m = am_S M' ∧ plN (M' 33 7 0) (so r n) ∧ fO M M' 33 7) 2 [(0, .inr (.inr (26, 0, 0))), (1, .inl (z + 1))] [] (am_S M3)) → am_wp (am_cl am_cds (d + 1)) am_c181 (fun w m => w = none ∧ ∃ M', m = am_S M' ∧ plN (M' 33 7 0) (so r n) ∧ fO M M' 33 7) 10 [(0, .inr (.inr (26, 0, 0))), (1, .inl z), (2, .inl x)] [] (am_S M2) := by
      intro t
      induction t with
      | nil =>
        intro x M2 hx hlt hle hp hF2 Kc
        iterate 2 refine am_wp_step _ rfl ?_
        refine am_iteT (by rw [hx]; decide) ?_
        iterate 5 refine am_wp_step _ rfl ?_
        refine am_ixN (0) (hx) (show _ < 8 by omega) (show (8 : Nat) < 2 ^ 31 by decide) (fun e => ?_)
        rw [e]
        iterate 2 refine am_wp_step _ rfl ?_
        exact Kc _ ⟨am_up_same.trans hz, trivial⟩ (fun j hj => am_up_s (by simp at hj; omega)) (fO_tr hF2 fO_up)
      | cons y t ih =>
        intro x M2 hx hlt hle hp hF2 Kc
        have hyi : y < i := hlt y (by simp)
        have hle2 : t.length + 1 ≤ i := by simpa using hle
        have hx1 : x - 1 = nI t.length := by rw [hx]; exact nI_pred _
        have e1 : M2 33 7 0 t.length = nI y := hp.1
        have e18 : ∀ j, M2 33 0 0 (10 + 8 * j + 3) = r j := fun j => by rw [hF2 33 0 (by omega)]; exact hrj j
        iterate 2 refine am_wp_step _ rfl ?_
        refine am_iteF (by rw [hx]; exact nI_nle (by simp) (by simp; omega)) ?_
        iterate 7 refine am_wp_step _ rfl ?_
        refine am_ixN (t.length) (hx1) (show _ < 8 by omega) (show (8 : Nat) < 2 ^ 31 by decide) (fun e2 => ?_)
        rw [e2, show (am_S M2).2.2 33 7 0 t.length = nI y from e1]
        iterate 2 refine am_wp_step _ rfl ?_
        refine ⟨_, _, m_deadIs _ y 3 M2 (by omega) (by decide), ?_⟩
        iterate 4 refine am_wp_step _ rfl ?_
        rw [hz]
        refine ⟨_, _, m_deadIs _ i 3 M2 (by omega) (by decide), ?_⟩
        rw [← hz]
        iterate 1 refine am_wp_step _ rfl ?_
        refine am_ite (fun h => ?_) (fun h => ?_)
        · rw [e18, e18] at h
          iterate 5 refine am_wp_step _ rfl ?_
          refine am_ixN (t.length + 1) (hx) (show _ < 8 by omega) (show (8 : Nat) < 2 ^ 31 by decide) (fun e5 => ?_)
          rw [e5]
          iterate 2 refine am_wp_step _ rfl ?_
          refine Kc _ ?_ (fun j hj => am_up_s (by simp at hj; omega)) (fO_tr hF2 fO_up)
          unfold insR
          rw [if_neg (Int32.not_lt.mpr h)]
          refine ⟨by show am_up M2 33 7 0 (t.length + 1) z 33 7 0 (t.length + 1) = nI i; rw [am_up_same, hz], plN_cg (fun j hj => am_up_s (by simp at hj; omega)) hp⟩
        · rw [e18, e18] at h
          iterate 9 refine am_wp_step _ rfl ?_
          refine am_ixN (t.length) (hx1) (show _ < 8 by omega) (show (8 : Nat) < 2 ^ 31 by decide) (fun e6 => ?_)
          rw [e6, show (am_S M2).2.2 33 7 0 t.length = nI y from e1]
          iterate 1 refine am_wp_step _ rfl ?_
          refine am_ixN (t.length + 1) (hx) (show _ < 8 by omega) (show (8 : Nat) < 2 ^ 31 by decide) (fun e5 => ?_)
          rw [e5]
          iterate 2 refine am_wp_step _ rfl ?_
          refine ih _ _ (by rw [hx]; exact nI_m1 _) (fun w hw => hlt w (by simp [hw])) (by omega) (plN_cg (fun j hj => am_up_s (by omega)) hp.2) (fO_tr hF2 fO_up) (fun M3 h1 h2 h3 => ?_)
          refine Kc M3 ?_ (fun j hj => ?_) h3
          · unfold insR
            rw [if_pos (Int32.not_le.mp h)]
            refine ⟨?_, h1⟩
            rw [insR_len, h2 _ (by omega)]
            exact am_up_same
          · rw [h2 j (by simp at hj; omega)]
            exact am_up_s (by simp at hj; omega)
    iterate 5 refine am_wp_step _ rfl ?_
    refine am_andv (by unfold vp_in; decide) ?_
    iterate 1 refine am_wp_step _ rfl ?_
    refine am_iteF (by show ¬ M1 33 0 0 1 ≤ z; rw [hF 33 0 (by omega), hc, hz]; exact nI_ge hi (by omega)) ?_
    iterate 2 refine am_wp_step _ rfl ?_
    refine inner (so r i) z M1 (by rw [so_len]; exact hz) (so_lt r i) (by rw [so_len]; omega) hS hF (fun M3 h1 _ h3 => ?_)
    exact K _ _ ⟨hnx, h1, h3⟩
  · intro z M1 hP
    obtain ⟨hz, hS, hF⟩ := hP
    iterate 5 refine am_wp_step _ rfl ?_
    refine am_andv (by unfold vp_in; decide) ?_
    iterate 1 refine am_wp_step _ rfl ?_
    refine am_iteT (by show M1 33 0 0 1 ≤ z; rw [hF 33 0 (by omega), hc, hz]; exact nI_le (Nat.le_refl _) (by omega)) ?_
    iterate 1 refine am_wp_step _ rfl ?_
    exact ⟨rfl, M1, rfl, hS, hF⟩
