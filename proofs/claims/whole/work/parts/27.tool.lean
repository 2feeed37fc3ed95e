/-! TOOLS: calls with a result's property, loops that count, indices -/
theorem am_cl_v {d y : Nat} {as : List am_V} {me : am_M} {v : Option am_V} (P : am_F → Prop) (cd : am_C) (hcd : am_cds y = cd) (h : am_wp (am_cl am_cds d) cd (fun w m => w = v ∧ ∃ M', m = am_S M' ∧ P M') 0 (am_args 0 as) [] me) : ∃ M', am_cl am_cds (d + 1) y as me v (am_S M') ∧ P M' := by
  obtain ⟨v1, me', h1, h2, M', h3, h4⟩ := am_cl_ex (Q := fun w m => w = v ∧ ∃ M', m = am_S M' ∧ P M') cd hcd h
  subst h2; subst h3
  exact ⟨M', h1, h4⟩
theorem am_call1 {d y : Nat} {as : List am_V} {me : am_M} {v : am_V} {P : am_F → Prop} {N : am_V → am_M → Prop} (h : ∃ M', am_cl am_cds d y as me (some v) (am_S M') ∧ P M') (k : ∀ M', P M' → N v (am_S M')) : ∃ x me', am_cl am_cds d y as me (some x) me' ∧ N x me' := by
  obtain ⟨M', h1, h2⟩ := h
  exact ⟨v, am_S M', h1, k M' h2⟩
theorem am_call0 {d y : Nat} {as : List am_V} {me : am_M} {P : am_F → Prop} {N : am_M → Prop} (h : ∃ M', am_cl am_cds d y as me none (am_S M') ∧ P M') (k : ∀ M', P M' → N (am_S M')) : ∃ me', am_cl am_cds d y as me none me' ∧ N me' := by
  obtain ⟨M', h1, h2⟩ := h
  exact ⟨am_S M', h1, k M' h2⟩
theorem am_for1 {Cl : Nat → List am_V → am_M → Option am_V → am_M → Prop} {cd : am_C} {Q : Option am_V → am_M → Prop} (hd : Nat) (loc : Int32 → am_L) (P : Nat → Int32 → am_F → Prop) (n : Nat) (step : ∀ i x M, i < n → P i x M → (∀ x' M', P (i + 1) x' M' → am_wp Cl cd Q hd (loc x') [] (am_S M')) → am_wp Cl cd Q hd (loc x) [] (am_S M)) (fin : ∀ x M, P n x M → am_wp Cl cd Q hd (loc x) [] (am_S M)) (i : Nat) (x : Int32) (M : am_F) (hi : i ≤ n) (hP : P i x M) : am_wp Cl cd Q hd (loc x) [] (am_S M) := by
  induction hk : n - i generalizing i x M with
  | zero =>
    have : i = n := by omega
    subst this
    exact fin x M hP
  | succ k ih => exact step i x M (by omega) hP (fun x' M' h => ih (i + 1) x' M' (by omega) h (by omega))
theorem am_for2 {Cl : Nat → List am_V → am_M → Option am_V → am_M → Prop} {cd : am_C} {Q : Option am_V → am_M → Prop} (hd : Nat) (loc : Int32 → Int32 → am_L) (P : Nat → Int32 → Int32 → am_F → Prop) (n : Nat) (step : ∀ i x y M, i < n → P i x y M → (∀ x' y' M', P (i + 1) x' y' M' → am_wp Cl cd Q hd (loc x' y') [] (am_S M')) → am_wp Cl cd Q hd (loc x y) [] (am_S M)) (fin : ∀ x y M, P n x y M → am_wp Cl cd Q hd (loc x y) [] (am_S M)) (i : Nat) (x y : Int32) (M : am_F) (hi : i ≤ n) (hP : P i x y M) : am_wp Cl cd Q hd (loc x y) [] (am_S M) := by
  induction hk : n - i generalizing i x y M with
  | zero =>
    have : i = n := by omega
    subst this
    exact fin x y M hP
  | succ k ih => exact step i x y M (by omega) hP (fun x' y' M' h => ih (i + 1) x' y' M' (by omega) h (by omega))
theorem am_for3 {Cl : Nat → List am_V → am_M → Option am_V → am_M → Prop} {cd : am_C} {Q : Option am_V → am_M → Prop} (hd : Nat) (loc : Int32 → Int32 → Int32 → am_L) (P : Nat → Int32 → Int32 → Int32 → am_F → Prop) (n : Nat) (step : ∀ i x y z M, i < n → P i x y z M → (∀ x' y' z' M', P (i + 1) x' y' z' M' → am_wp Cl cd Q hd (loc x' y' z') [] (am_S M')) → am_wp Cl cd Q hd (loc x y z) [] (am_S M)) (fin : ∀ x y z M, P n x y z M → am_wp Cl cd Q hd (loc x y z) [] (am_S M)) (i : Nat) (x y z : Int32) (M : am_F) (hi : i ≤ n) (hP : P i x y z M) : am_wp Cl cd Q hd (loc x y z) [] (am_S M) := by
  induction hk : n - i generalizing i x y z M with
  | zero =>
    have : i = n := by omega
    subst this
    exact fin x y z M hP
  | succ k ih => exact step i x y z M (by omega) hP (fun x' y' z' M' h => ih (i + 1) x' y' z' M' (by omega) h (by omega))
theorem am_andv {j : Int32} {n : Nat} {P : Prop} (h : vp_in j n) (p : P) : vp_in j n ∧ P := ⟨h, p⟩
theorem nI_lit (n : Nat) : (OfNat.ofNat n : Int32) = nI n := rfl
theorem nI_mul (a b : Nat) : nI a * nI b = nI (a * b) := (Int32.ofNat_mul a b).symm
theorem am_ixN {j : Int32} {n : Nat} (k : Nat) {P : Prop} (hj : j = nI k) (hk : k < n) (hn : n < 2 ^ 31) (h : j.toNatClampNeg = k → P) : vp_in j n ∧ P := by
  subst hj
  exact ⟨vp_in_nI hk hn, h (nI_clamp (by omega))⟩
theorem nI_rg {n b : Nat} (h : n < b) (hb : b < 2 ^ 31) : 0 ≤ nI n ∧ nI n < nI b := ⟨Int32.not_lt.mp (nI_pos (by omega)), nI_lt h hb⟩
theorem nI_ex {x : Int32} (h : 0 ≤ x) : ∃ j : Nat, j < 2 ^ 31 ∧ x = nI j := nI_of (Int32.not_lt.mpr h)
theorem nI_exb {x : Int32} {b : Nat} (h : 0 ≤ x) (h2 : x < nI b) (hb : b < 2 ^ 31) : ∃ j : Nat, j < b ∧ x = nI j := by
  obtain ⟨j, h3, rfl⟩ := nI_ex h
  exact ⟨j, (nI_ltI h3 hb).mp h2, rfl⟩
/-! WHAT A CODE GIVES -/
def sp_op (s x y : Int32) : Int32 := if s = 20000 then bI (x ≠ 0 ∨ y ≠ 0) else if s = 20001 then bI (x ≠ 0 ∧ y ≠ 0) else if s = 20002 then bI (x < y) else if s = 20003 then bI (x = y) else if s = 20004 then bI (y < x) else if s = 20005 then x + y else if s = 20006 then x - y else if s = 20007 then x * y else if s = 20008 then (if y = 0 then 0 else x / y) else (if y = 0 then 0 else x - x / y * y)
def cv (x : Int32) : Int32 := if x < 20000 then x else if x = 20000 then 20124 else if x = 20001 then 20038 else if x = 20002 then 20060 else if x = 20003 then 20061 else if x = 20004 then 20062 else if x = 20005 then 20043 else if x = 20006 then 20045 else if x = 20007 then 20042 else if x = 20008 then 20047 else if x = 20009 then 20037 else 20033
def ev1 (nm : Nat → Int32) (x : Int32) (st : List Int32) : List Int32 := if x < 10000 then x :: st else if x < 20000 then nm (x - 10000).toNatClampNeg :: st else if x = 20010 then bI (st.headD 0 = 0) :: st.tail else sp_op x (st.tail.headD 0) (st.headD 0) :: st.tail.tail
def ev (nm : Nat → Int32) (f : Nat → Int32) : Nat → List Int32
  | 0 => []
  | k + 1 => ev1 nm (f k) (ev nm f k)
def dp (f : Nat → Int32) : Nat → Nat
  | 0 => 0
  | k + 1 => if f k < 20000 then dp f k + 1 else if f k = 20010 then dp f k else dp f k - 1
def wf1 (x : Int32) (d : Nat) : Prop := (0 ≤ x ∧ x < 10004) ∨ (x = 20010 ∧ 1 ≤ d) ∨ (20000 ≤ x ∧ x < 20010 ∧ 2 ≤ d)
def wfc (f : Nat → Int32) (c : Nat) : Prop := dp f c = 1 ∧ ∀ k, k < c → wf1 (f k) (dp f k)
theorem dp_le (f : Nat → Int32) (k : Nat) : dp f k ≤ k := by
  induction k with
  | zero => exact Nat.le_refl _
  | succ k ih => unfold dp; split <;> (try split) <;> omega
theorem ev_len {nm f : Nat → Int32} {c k : Nat} (h : ∀ k, k < c → wf1 (f k) (dp f k)) (hk : k ≤ c) : (ev nm f k).length = dp f k := by
  induction k with
  | zero => rfl
  | succ k ih =>
    have ih := ih (by omega)
    have h1 := h k (by omega)
    unfold ev ev1 dp
    unfold wf1 at h1
    grind
theorem cv_op {x a b : Int32} (h : 20000 ≤ x) (h2 : x < 20010) : sp_join (cv x - 20000) a b = sp_op x a b := by
  have h3 : x = 20000 ∨ x = 20001 ∨ x = 20002 ∨ x = 20003 ∨ x = 20004 ∨ x = 20005 ∨ x = 20006 ∨ x = 20007 ∨ x = 20008 ∨ x = 20009 := by lia
  rcases h3 with rfl | rfl | rfl | rfl | rfl | rfl | rfl | rfl | rfl | rfl <;> rfl
theorem cv_lo {x : Int32} (h : x < 20000) : cv x = x := if_pos h
theorem cv_hi {x : Int32} (h : 20000 ≤ x) (h2 : x < 20010) : 20000 ≤ cv x ∧ cv x ≠ 20033 := by
  have h3 : x = 20000 ∨ x = 20001 ∨ x = 20002 ∨ x = 20003 ∨ x = 20004 ∨ x = 20005 ∨ x = 20006 ∨ x = 20007 ∨ x = 20008 ∨ x = 20009 := by lia
  rcases h3 with rfl | rfl | rfl | rfl | rfl | rfl | rfl | rfl | rfl | rfl <;> decide
