/-! HOW THE MACHINE'S HEAP HOLDS WHAT THE ABSTRACT MACHINE SAYS -/
abbrev am_G : Type := Nat × (Nat → Nat → Nat) × Value × va_G × (Nat → ClassId)
def am_a (g : am_G) (q : am_R) : Nat := if q.1 < 16 then g.2.1 q.1 q.2.2 else g.1 + am_ad q.1 q.2.1 q.2.2
def am_v (g : am_G) : am_V → Value
  | .inl x => .int x
  | .inr (.inl x) => .long x
  | .inr (.inr q) => if q.1 = 5 then g.2.2.1 else .ref (am_a g q)
def am_fv (g : am_G) (As : am_B) (M : am_F) (r b i s : Nat) : Value := match am_fk (r - 16) s with
  | (2, f) => if As r b i s = true then .ref (am_a g (f b i)) else .null
  | _ => .int (M r b i s)
def am_ce (g : am_G) (As : am_B) (M : am_F) (q : am_R) (n : Nat) : va_E :=
  if q.1 < 27 then .inr (q.1 - 16, (List.range n).map (am_fv g As M q.1 q.2.1 q.2.2))
  else if q.1 < 34 then .inl (g.2.2.2.2 0, n, .inl (M q.1 q.2.1 q.2.2))
  else .inl (g.2.2.2.2 (q.1 - 33), n, .inr (.inr (.inr (.inr fun j => if As q.1 q.2.1 q.2.2 j = true then some (am_a g (am_el q.1, q.2.1, j)) else none))))
def am_ws (g : am_G) (n : Nat) (As : am_B) (M : am_F) : va_W := (List.range n).map fun k => (g.1 + k, am_ce g As M (am_dec k).1 (am_dec k).2)
def am_A (g : am_G) : Nat → Prop := fun q => g.1 ≤ q
/-- a cell of ours, made already -/
def am_own (n : Nat) (q : am_R) : Prop := 16 ≤ q.1 ∧ am_ad q.1 q.2.1 q.2.2 < n ∧ (am_dec (am_ad q.1 q.2.1 q.2.2)).1 = q
def am_vr (n : Nat) (q : am_R) : Prop := (q.1 ≤ 2 ∧ q.2.2 = 0) ∨ (3 ≤ q.1 ∧ q.1 ≤ 4 ∧ q.2.2 < 2) ∨ q.1 = 5 ∨ am_own n q
def am_vv (n : Nat) : am_V → Prop
  | .inr (.inr q) => am_vr n q
  | _ => True
def am_sz (q : am_R) : Nat := (am_dec (am_ad q.1 q.2.1 q.2.2)).2
def am_tg (q : am_R) (s : Nat) : am_R := if q.1 < 27 then (am_fk (q.1 - 16) s).2 q.2.1 q.2.2 else (am_el q.1, q.2.1, s)
def am_AsOK (n : Nat) (As : am_B) : Prop := ∀ (q : am_R) (s : Nat), am_own n q → (q.1 < 27 ∨ 34 ≤ q.1) → s < am_sz q → As q.1 q.2.1 q.2.2 s = true → am_vr n (am_tg q s)
def am_tok (q : am_R) : Bool := (Nat.beq q.1 0 && Nat.beq q.2.2 0) || (Nat.beq q.1 3 && Nat.blt q.2.2 2) || (Nat.ble 16 q.1 && Nat.blt (am_ad q.1 q.2.1 q.2.2) 128 && decide ((am_dec (am_ad q.1 q.2.1 q.2.2)).1 = q))
def am_cchk (k : Nat) : Bool := match am_dec k with
  | ((r, b, i), n) => Nat.beq (am_ad r b i) k && Nat.ble 16 r && Nat.ble r 37 && (if r < 27 then Nat.beq n (am_cT r).2.2 else Nat.beq n (am_ln r b)) && (List.range n).all (fun s => if r < 27 ∨ 34 ≤ r then am_tok (am_tg (r, b, i) s) else true)
set_option maxRecDepth 100000 in
theorem am_cells_ok : (List.range 128).all am_cchk = true := by decide +kernel
theorem am_cell {k : Nat} (h : k < 128) : am_cchk k = true := List.all_eq_true.mp am_cells_ok k (List.mem_range.mpr h)
theorem am_cell_ad {k : Nat} (h : k < 128) : am_ad (am_dec k).1.1 (am_dec k).1.2.1 (am_dec k).1.2.2 = k := by
  have h1 := am_cell h
  unfold am_cchk at h1
  generalize hd : am_dec k = d at h1 ⊢
  obtain ⟨⟨r, b, i⟩, n⟩ := d
  simp only [Bool.and_eq_true] at h1
  exact Nat.eq_of_beq_eq_true h1.1.1.1.1
theorem am_own_facts {n : Nat} {q : am_R} (hn : n ≤ 128) (h : am_own n q) : q.1 ≤ 37 ∧ (q.1 < 27 → am_sz q = (am_cT q.1).2.2) ∧ (27 ≤ q.1 → am_sz q = am_ln q.1 q.2.1) ∧ ((q.1 < 27 ∨ 34 ≤ q.1) → ∀ s, s < am_sz q → am_tok (am_tg q s) = true) := by
  obtain ⟨h0, h1, h2⟩ := h
  have h3 := am_cell (Nat.lt_of_lt_of_le h1 hn)
  unfold am_cchk at h3
  unfold am_sz
  generalize am_dec (am_ad q.1 q.2.1 q.2.2) = d at h2 h3 ⊢
  obtain ⟨d1, n'⟩ := d
  dsimp only at h2
  subst h2
  obtain ⟨r, b, i⟩ := d1
  simp only [Bool.and_eq_true] at h3
  obtain ⟨⟨⟨⟨g1, g2⟩, g3⟩, g4⟩, g5⟩ := h3
  refine ⟨Nat.le_of_ble_eq_true g3, fun hr => ?_, fun hr => ?_, fun hr s hs => ?_⟩
  · rw [if_pos hr] at g4
    exact Nat.eq_of_beq_eq_true g4
  · rw [if_neg (Nat.not_lt.mpr hr)] at g4
    exact Nat.eq_of_beq_eq_true g4
  · have := List.all_eq_true.mp g5 s (List.mem_range.mpr hs)
    rw [if_pos hr] at this
    exact this
theorem am_tok_vr {q : am_R} (h : am_tok q = true) : am_vr 128 q := by
  simp only [am_tok, Bool.or_eq_true, Bool.and_eq_true, decide_eq_true_eq] at h
  rcases h with (⟨h1, h2⟩ | ⟨h1, h2⟩) | ⟨⟨h1, h2⟩, h3⟩
  · have := Nat.eq_of_beq_eq_true h1
    have := Nat.eq_of_beq_eq_true h2
    exact Or.inl ⟨by omega, by omega⟩
  · have := Nat.eq_of_beq_eq_true h1
    have h2 : q.2.2 < 2 := by simpa [Nat.blt_eq] using h2
    exact Or.inr (Or.inl ⟨by omega, by omega, h2⟩)
  · exact Or.inr (Or.inr (Or.inr ⟨Nat.le_of_ble_eq_true h1, by simpa [Nat.blt_eq] using h2, h3⟩))
theorem am_asall : am_AsOK 128 am_all := fun q s h hr hs _ => am_tok_vr ((am_own_facts (Nat.le_refl _) h).2.2.2 hr s hs)
theorem am_own_mono {n n' : Nat} {q : am_R} (hn : n ≤ n') (h : am_own n q) : am_own n' q := ⟨h.1, Nat.lt_of_lt_of_le h.2.1 hn, h.2.2⟩
theorem am_vr_mono {n n' : Nat} {q : am_R} (hn : n ≤ n') (h : am_vr n q) : am_vr n' q := by
  rcases h with h | h | h | h
  · exact Or.inl h
  · exact Or.inr (Or.inl h)
  · exact Or.inr (Or.inr (Or.inl h))
  · exact Or.inr (Or.inr (Or.inr (am_own_mono hn h)))
theorem am_vv_mono {n n' : Nat} {v : am_V} (hn : n ≤ n') (h : am_vv n v) : am_vv n' v := by
  rcases v with x | x | q
  · trivial
  · trivial
  · exact am_vr_mono hn h
theorem am_vr_own {n : Nat} {q : am_R} (h : am_vr n q) (hr : 16 ≤ q.1) : am_own n q := by
  rcases h with h | h | h | h
  · omega
  · omega
  · omega
  · exact h
theorem am_ws_at {g : am_G} {n : Nat} {As : am_B} {M : am_F} {q : am_R} (h : am_own n q) : (am_ws g n As M)[am_ad q.1 q.2.1 q.2.2]? = some (am_a g q, am_ce g As M q (am_sz q)) := by
  obtain ⟨h0, h1, h2⟩ := h
  unfold am_ws am_sz am_a
  rw [List.getElem?_map, List.getElem?_range h1, if_neg (Nat.not_lt.mpr h0)]
  simp only [Option.map_some, h2]
theorem am_ws_len {g : am_G} {n : Nat} {As : am_B} {M : am_F} : (am_ws g n As M).length = n := by simp [am_ws]
theorem am_D {g : am_G} {n : Nat} {As : am_B} {M : am_F} : va_D (am_A g) (am_ws g n As M) := by
  have key : ∀ (k : Nat) (q : Nat × va_E), (am_ws g n As M)[k]? = some q → q.1 = g.1 + k := by
    intro k q h
    unfold am_ws at h
    rw [List.getElem?_map] at h
    by_cases hk : k < n
    · rw [List.getElem?_range hk] at h
      simp only [Option.map_some, Option.some.injEq] at h
      rw [← h]
    · rw [List.getElem?_eq_none (by simpa using hk)] at h
      cases h
  refine ⟨fun i j p q hp hq he => ?_, fun k q h => ?_⟩
  · have := key i p hp
    have := key j q hq
    omega
  · have := key k q h
    show g.1 ≤ q.1
    omega
/-- one cell is another: the others are as they were -/
theorem am_ws_set {g : am_G} {n : Nat} {As As' : am_B} {M M' : am_F} {q : am_R} (hn : n ≤ 128) (h : am_own n q) (ho : ∀ (q' : am_R) (k : Nat), q' ≠ q → am_ce g As' M' q' k = am_ce g As M q' k) {x : va_E} (hx : x = am_ce g As' M' q (am_sz q)) : (am_ws g n As M).set (am_ad q.1 q.2.1 q.2.2) (am_a g q, x) = am_ws g n As' M' := by
  refine List.ext_getElem? fun k => ?_
  by_cases hk : k = am_ad q.1 q.2.1 q.2.2
  · subst hk
    rw [am_ws_at h, hx, List.getElem?_set_self (by rw [am_ws_len]; exact h.2.1)]
  · rw [List.getElem?_set_ne (Ne.symm hk)]
    unfold am_ws
    rw [List.getElem?_map, List.getElem?_map]
    by_cases hl : k < n
    · rw [List.getElem?_range hl]
      simp only [Option.map_some]
      rw [ho]
      intro he
      have h1 := am_cell_ad (Nat.lt_of_lt_of_le hl hn)
      rw [he] at h1
      exact hk h1.symm
    · rw [List.getElem?_eq_none (by simpa using hl)]
      rfl
theorem am_up_ne {M : am_F} {q q' : am_R} {s : Nat} {x : Int32} (h : q' ≠ q) : am_up M q.1 q.2.1 q.2.2 s x q'.1 q'.2.1 q'.2.2 = M q'.1 q'.2.1 q'.2.2 := by
  funext s'
  unfold am_up
  rw [if_neg]
  rintro ⟨h1, h2, h3, -⟩
  exact h (Prod.ext h1 (Prod.ext h2 h3))
theorem am_upB_ne {A : am_B} {q q' : am_R} {s : Nat} (h : q' ≠ q) : am_upB A q.1 q.2.1 q.2.2 s q'.1 q'.2.1 q'.2.2 = A q'.1 q'.2.1 q'.2.2 := by
  funext s'
  unfold am_upB
  rw [if_neg]
  rintro ⟨h1, h2, h3, -⟩
  exact h (Prod.ext h1 (Prod.ext h2 h3))
theorem am_ce_congr {g : am_G} {As As' : am_B} {M M' : am_F} {q : am_R} {k : Nat} (h1 : As' q.1 q.2.1 q.2.2 = As q.1 q.2.1 q.2.2) (h2 : M' q.1 q.2.1 q.2.2 = M q.1 q.2.1 q.2.2) : am_ce g As' M' q k = am_ce g As M q k := by
  unfold am_ce am_fv
  rw [h1, h2]
/-- a number in a field -/
theorem am_ce_put {g : am_G} {As : am_B} {M : am_F} {q : am_R} {s k : Nat} {x : Int32} (hr : q.1 < 27) (hs : s < k) (hf : (am_fk (q.1 - 16) s).1 ≠ 2) : (Sum.inr (q.1 - 16, ((List.range k).map (am_fv g As M q.1 q.2.1 q.2.2)).set s (.int x)) : va_E) = am_ce g As (am_up M q.1 q.2.1 q.2.2 s x) q k := by
  unfold am_ce
  rw [if_pos hr]
  congr 2
  refine List.ext_getElem? fun j => ?_
  by_cases hj : j = s
  · subst hj
    rw [List.getElem?_set_self (by simpa using hs), List.getElem?_map, List.getElem?_range hs]
    simp only [Option.map_some]
    unfold am_fv
    generalize am_fk (q.1 - 16) j = z at hf
    obtain ⟨z1, z2⟩ := z
    rcases z1 with _ | _ | _ | z1
    · simp [am_up]
    · simp [am_up]
    · exact absurd rfl hf
    · simp [am_up]
  · rw [List.getElem?_set_ne (Ne.symm hj), List.getElem?_map, List.getElem?_map]
    by_cases hl : j < k
    · rw [List.getElem?_range hl]
      simp only [Option.map_some]
      unfold am_fv am_up
      simp [hj]
    · rw [List.getElem?_eq_none (by simpa using hl)]
      rfl
/-- a reference in a field -/
theorem am_ce_putR {g : am_G} {As : am_B} {M : am_F} {q : am_R} {s k : Nat} {f : Nat → Nat → am_R} (hr : q.1 < 27) (hs : s < k) (hf : am_fk (q.1 - 16) s = (2, f)) : (Sum.inr (q.1 - 16, ((List.range k).map (am_fv g As M q.1 q.2.1 q.2.2)).set s (.ref (am_a g (f q.2.1 q.2.2)))) : va_E) = am_ce g (am_upB As q.1 q.2.1 q.2.2 s) M q k := by
  unfold am_ce
  rw [if_pos hr]
  congr 2
  refine List.ext_getElem? fun j => ?_
  by_cases hj : j = s
  · subst hj
    rw [List.getElem?_set_self (by simpa using hs), List.getElem?_map, List.getElem?_range hs]
    simp only [Option.map_some]
    unfold am_fv
    rw [hf]
    simp [am_upB]
  · rw [List.getElem?_set_ne (Ne.symm hj), List.getElem?_map, List.getElem?_map]
    by_cases hl : j < k
    · rw [List.getElem?_range hl]
      simp only [Option.map_some]
      unfold am_fv am_upB
      simp [hj]
    · rw [List.getElem?_eq_none (by simpa using hl)]
      rfl
theorem am_ce_ast {g : am_G} {As : am_B} {M : am_F} {q : am_R} {s k : Nat} {x : Int32} (h1 : 27 ≤ q.1) (h2 : q.1 ≤ 33) : (Sum.inl (g.2.2.2.2 0, k, .inl (upd (M q.1 q.2.1 q.2.2) s x)) : va_E) = am_ce g As (am_up M q.1 q.2.1 q.2.2 s x) q k := by
  unfold am_ce
  rw [if_neg (by omega), if_pos (by omega)]
  congr 4
  funext j
  simp [am_up, upd]
theorem am_ce_astR {g : am_G} {As : am_B} {M : am_F} {q : am_R} {s k : Nat} (h1 : 34 ≤ q.1) : (Sum.inl (g.2.2.2.2 (q.1 - 33), k, .inr (.inr (.inr (.inr (va_up (fun j => if As q.1 q.2.1 q.2.2 j = true then some (am_a g (am_el q.1, q.2.1, j)) else none) s (some (am_a g (am_el q.1, q.2.1, s)))))))) : va_E) = am_ce g (am_upB As q.1 q.2.1 q.2.2 s) M q k := by
  unfold am_ce
  rw [if_neg (by omega), if_neg (by omega)]
  congr 7
  funext j
  by_cases hj : j = s
  · subst hj
    simp [va_up, am_upB]
  · simp [va_up, am_upB, hj]
def am_sl : Nat → Nat
  | 0 => 0
  | n + 1 => am_sl n + (am_dec n).2
theorem am_sl_mono {n n' : Nat} (h : n ≤ n') : am_sl n ≤ am_sl n' := by
  induction h with
  | refl => exact Nat.le_refl _
  | step _ ih => exact Nat.le_trans ih (Nat.le_add_right _ _)
