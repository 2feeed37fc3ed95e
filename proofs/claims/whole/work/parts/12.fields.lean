section AMH
variable {g : am_G} {X0 : Nat → Nat → Nat → Int32} {p : Program} {l : Launch} {e : Env} {R : Room} {s : State} {m : MethodId} {args : Array Value} {below : List Frame} {meth : Method} {c : Code} {Qf : State → Prop} {y n0 nF : Nat}
variable {Cl : Nat → List am_V → am_M → Option am_V → am_M → Prop} {nx a b : Nat} {v : Int32} {ts : List (Int32 × Nat)} {L : am_L} {st : List am_V} {me : am_M} {N : Nat → am_L → List am_V → am_M → Prop} {Q : Option am_V → am_M → Prop} {pc ln wi : Nat}
theorem am_hown (C : am_ctx g X0 p s m args meth c y n0) : s.vm.findClass (am_nm y).cls = some m.cls := C.2.2.2.1
theorem am_hw (C : am_ctx g X0 p s m args meth c y n0) {i : Nat} {w : Cond} (h : am_word i w = true) : w.before args s = true := C.2.2.2.2.1 w (am_word_in h)
theorem am_hK (C : am_ctx g X0 p s m args meth c y n0) : va_K g.2.2.2.1 vwCl (am_tys g) s := C.2.2.2.2.2.1.1
theorem am_hcat (C : am_ctx g X0 p s m args meth c y n0) : g.2.2.1.category = 1 := C.2.2.2.2.2.1.2.2.2.2.2.2.2.2.2.2
theorem am_z_ldc {z : Nat} (C : am_ctx g X0 p s m args meth c y n0) (hk : am_chk y (pc, ln, .ldc z, nx, a, b, v, ts, wi) = true) (h : am_s_ldc Cl nx a b v ts L st me N Q) (hN : ∀ ip L st me, N ip L st me → am_ok g X0 p l e R s m args below meth c Qf y n0 (am_pc y ip) L st me) : am_ok g X0 p l e R s m args below meth c Qf y n0 pc L st me := by
  rcases ts with _ | ⟨t1, ts⟩
  · obtain ⟨hd, hx, hr⟩ := am_pre (k := 2) hk rfl
    intro H locs ls r
    refine lv_ldc C.1 C.2.1 (am_hown C) (am_hw C hr) hd ?_
    have w := hN _ _ _ _ h H locs ls (r.st (am_vc trivial r.stk))
    rw [hx] at w
    exact w
  · obtain ⟨hd, hx, hr⟩ := am_pre (k := 2) hk rfl
    have hm : ((am_nm y).cls, z, a) ∈ am_strs := by simpa using hr
    have hZ := C.2.2.2.2.2.1.2.2.2.2.2.1 _ hm
    have ha : a < 2 := by
      simp only [am_strs, List.mem_cons, Prod.mk.injEq, List.not_mem_nil, or_false] at hm
      omega
    intro H locs ls r
    refine va_ldcS C.1 C.2.1 (am_hown C) hZ hd ?_
    have w := hN _ _ _ _ h H locs ls (r.st (am_vc (v := .inr (.inr (3, 0, a))) (Or.inr (Or.inl ⟨Nat.le_refl 3, (by decide : (3 : Nat) ≤ 4), ha⟩)) r.stk))
    rw [hx] at w
    exact w
theorem am_z_ldc_w {z : Nat} (C : am_ctx g X0 p s m args meth c y n0) (hk : am_chk y (pc, ln, .ldc_w z, nx, a, b, v, ts, wi) = true) (h : am_s_ldc_w Cl nx a b v ts L st me N Q) (hN : ∀ ip L st me, N ip L st me → am_ok g X0 p l e R s m args below meth c Qf y n0 (am_pc y ip) L st me) : am_ok g X0 p l e R s m args below meth c Qf y n0 pc L st me := by
  obtain ⟨hd, hx, hr⟩ := am_pre (k := 3) hk rfl
  intro H locs ls r
  have w := hN _ _ _ _ h H locs ls (r.st (am_vc trivial r.stk))
  rw [hx] at w
  intro T hT X
  obtain ⟨t, a1, b1⟩ := w T hT X
  exact ⟨t, va_ldcwI X C.1 (am_hown C) (am_hw C hr) (g := F0 m pc ls (st.map (am_v g))) rfl (by rw [C.2.1]; exact hd) t a1, b1⟩
theorem am_z_ldc2_w {z : Nat} (C : am_ctx g X0 p s m args meth c y n0) (hk : am_chk y (pc, ln, .ldc2_w z, nx, a, b, v, ts, wi) = true) (h : am_s_ldc2_w Cl nx a b v ts L st me N Q) (hN : ∀ ip L st me, N ip L st me → am_ok g X0 p l e R s m args below meth c Qf y n0 (am_pc y ip) L st me) : am_ok g X0 p l e R s m args below meth c Qf y n0 pc L st me := by
  obtain ⟨hd, hx, hr⟩ := am_pre (k := 3) hk rfl
  intro H locs ls r
  refine lv_ldc2 C.1 C.2.1 (am_hown C) (am_hw C hr) hd ?_
  have w := hN _ _ _ _ h H locs ls (r.st (am_vc trivial r.stk))
  rw [hx] at w
  exact w
theorem am_tsw {x : Int32} {F : Nat → Prop} {fs : List Int} {lo : Int} (ht : am_tsok y pc fs lo ts = true) (h : am_sw x F a ts) : (∃ (j : Nat) (off : Int) (t : Nat), fs[j]? = some off ∧ x.toInt = lo + j ∧ (pc : Int) + off = (am_pc y t : Int) ∧ F t) ∨ ((∀ j : Nat, j < fs.length → x.toInt ≠ lo + j) ∧ F a) := by
  induction fs generalizing lo ts with
  | nil =>
    rcases ts with _ | ⟨q, ts⟩
    · exact Or.inr ⟨fun j hj => absurd hj (Nat.not_lt_zero _), h⟩
    · cases ht
  | cons f fs ih =>
    rcases ts with _ | ⟨⟨k, t⟩, ts⟩
    · cases ht
    · simp only [am_tsok, Bool.and_eq_true, decide_eq_true_eq] at ht
      obtain ⟨⟨h1, h2⟩, h3⟩ := ht
      have h : (if x = k then F t else am_sw x F a ts) := h
      by_cases hx : x = k
      · rw [if_pos hx] at h
        exact Or.inl ⟨0, f, t, rfl, by rw [hx, h1]; simp, am_jp_spec h2, h⟩
      · rw [if_neg hx] at h
        rcases ih h3 h with ⟨j, off, t', e1, e2, e3, e4⟩ | ⟨e1, e2⟩
        · exact Or.inl ⟨j + 1, off, t', by simpa using e1, by rw [e2]; push_cast; omega, e3, e4⟩
        · refine Or.inr ⟨fun j hj => ?_, e2⟩
          rcases j with _ | j
          · have := lv_neT hx h1
            simpa using this
          · have := e1 j (by simpa using hj)
            push_cast
            omega
theorem am_z_tableswitch {d lo hi : Int} {offs : Array Int} (C : am_ctx g X0 p s m args meth c y n0) (hk : am_chk y (pc, ln, .tableswitch d lo hi offs, nx, a, b, v, ts, wi) = true) (h : am_s_tableswitch Cl nx a b v ts L st me N Q) (hN : ∀ ip L st me, N ip L st me → am_ok g X0 p l e R s m args below meth c Qf y n0 (am_pc y ip) L st me) : am_ok g X0 p l e R s m args below meth c Qf y n0 pc L st me := by
  have hk2 : (decide (decode (am_by y) pc = .ok (.tableswitch d lo hi offs, ln)) && (am_jp y pc d a && decide (hi + 1 = lo + offs.toList.length) && am_tsok y pc offs.toList lo ts)) = true := hk
  simp only [Bool.and_eq_true, decide_eq_true_eq] at hk2
  obtain ⟨hd, ⟨hj, hi1⟩, ht⟩ := hk2
  have hj := am_jp_spec hj
  rcases st with _ | ⟨x1 | x1 | x1, st⟩ <;> try exact False.elim h
  intro H locs ls r
  rcases am_tsw ht (show am_sw x1 (fun t => N t L st me) a ts from h) with ⟨j, off, t, e1, e2, e3, e4⟩ | ⟨e1, e2⟩
  · have hjl : j < offs.toList.length := (List.getElem?_eq_some_iff.mp e1).1
    refine lv_tableIn C.1 C.2.1 hd (by omega) (by omega) ?_ e3 (hN _ _ _ _ e4 H locs ls (r.st (am_vt r.stk)))
    rw [show (x1.toInt - lo).toNat = j by omega]
    simpa using e1
  · refine lv_tableOut C.1 C.2.1 hd ?_ hj (hN _ _ _ _ e2 H locs ls (r.st (am_vt r.stk)))
    by_cases h1 : x1.toInt < lo
    · exact Or.inl h1
    · by_cases h2 : hi < x1.toInt
      · exact Or.inr h2
      · have := e1 (x1.toInt - lo).toNat (by omega)
        omega
theorem am_lsw {x : Int32} {F : Nat → Prop} {fs : List (Int × Int)} {d : Int} (hd : (pc : Int) + d = (am_pc y a : Int)) (ht : am_lsok y pc fs ts = true) (h : am_sw x F a ts) : ∃ (t : Nat), (pc : Int) + Op.lookupswitch.offset fs d x.toInt = (am_pc y t : Int) ∧ F t := by
  induction fs generalizing ts with
  | nil =>
    rcases ts with _ | ⟨q, ts⟩
    · exact ⟨a, hd, h⟩
    · cases ht
  | cons f fs ih =>
    rcases ts with _ | ⟨⟨k, t⟩, ts⟩
    · cases ht
    · obtain ⟨f1, f2⟩ := f
      simp only [am_lsok, Bool.and_eq_true, decide_eq_true_eq] at ht
      obtain ⟨⟨h1, h2⟩, h3⟩ := ht
      have h : (if x = k then F t else am_sw x F a ts) := h
      by_cases hx : x = k
      · rw [if_pos hx] at h
        refine ⟨t, ?_, h⟩
        rw [Op.lookupswitch.offset_cons, if_pos (by rw [hx]; exact h1.symm)]
        exact am_jp_spec h2
      · rw [if_neg hx] at h
        rw [lv_osw hx h1]
        exact ih h3 h
theorem am_z_lookupswitch {d : Int} {ps : Array (Int × Int)} (C : am_ctx g X0 p s m args meth c y n0) (hk : am_chk y (pc, ln, .lookupswitch d ps, nx, a, b, v, ts, wi) = true) (h : am_s_lookupswitch Cl nx a b v ts L st me N Q) (hN : ∀ ip L st me, N ip L st me → am_ok g X0 p l e R s m args below meth c Qf y n0 (am_pc y ip) L st me) : am_ok g X0 p l e R s m args below meth c Qf y n0 pc L st me := by
  have hk2 : (decide (decode (am_by y) pc = .ok (.lookupswitch d ps, ln)) && (am_jp y pc d a && ((ps.toList.zip (ps.toList.drop 1)).all (fun (a, next) => a.1 < next.1)) && am_lsok y pc ps.toList ts)) = true := hk
  simp only [Bool.and_eq_true, decide_eq_true_eq] at hk2
  obtain ⟨hd, ⟨hj, hp⟩, ht⟩ := hk2
  have hj := am_jp_spec hj
  rcases st with _ | ⟨x1 | x1 | x1, st⟩ <;> try exact False.elim h
  intro H locs ls r
  obtain ⟨t, e1, e2⟩ := am_lsw hj ht (show am_sw x1 (fun t => N t L st me) a ts from h)
  exact lv_lookup C.1 C.2.1 hd hp rfl e1 (hN _ _ _ _ e2 H locs ls (r.st (am_vt r.stk)))
def am_ftc (b k : Nat) : Bool := match (am_fk (b - 16) k).1, parseFieldDescriptor ((am_cT b).2.1 k).2.2.1 with
  | 0, some .int => true
  | 1, some .boolean => true
  | 2, some (.object _) => true
  | 2, some (.array _) => true
  | _, _ => false
def am_clw : List (Nat × Nat) := [(97, 66), (147, 68), (104, 67), (296, 72), (91, 65), (224, 70), (344, 74), (321, 73), (217, 69), (83, 64), (999, 75)]
def am_clc (b : Nat) : Bool := (List.range (am_cT b).2.2).all (am_ftc b) && (u_ws (am_cT b).1 (am_cT b).2.1 (am_cT b).2.2).all goodWord && am_word (am_nth am_clw (b - 16) (0, 0)).1 (.instantiable (am_cT b).1 (am_cT b).2.2) && am_word (am_nth am_clw (b - 16) (0, 0)).2 (.initialized (am_cT b).1)
set_option maxRecDepth 100000 in
theorem am_clc_all : ∀ b, b < 27 → 16 ≤ b → am_clc b = true := by decide +kernel
theorem am_b11 {P : Nat → Prop} (h0 : P 16) (h1 : P 17) (h2 : P 18) (h3 : P 19) (h4 : P 20) (h5 : P 21) (h6 : P 22) (h7 : P 23) (h8 : P 24) (h9 : P 25) (h10 : P 26) {b : Nat} (l1 : 16 ≤ b) (l2 : b ≤ 26) : P b := by
  rcases (by omega : b = 16 ∨ b = 17 ∨ b = 18 ∨ b = 19 ∨ b = 20 ∨ b = 21 ∨ b = 22 ∨ b = 23 ∨ b = 24 ∨ b = 25 ∨ b = 26) with rfl | rfl | rfl | rfl | rfl | rfl | rfl | rfl | rfl | rfl | rfl <;> assumption
theorem am_vw {b : Nat} (l1 : 16 ≤ b) (l2 : b ≤ 26) : vwCl[b - 16]? = some ((am_cT b).1, (am_cT b).2.1, (am_cT b).2.2) :=
  am_b11 (P := fun b => vwCl[b - 16]? = some ((am_cT b).1, (am_cT b).2.1, (am_cT b).2.2)) rfl rfl rfl rfl rfl rfl rfl rfl rfl rfl rfl l1 l2
theorem am_uin {b : Nat} (l1 : 16 ≤ b) (l2 : b ≤ 26) : ∀ w ∈ u_ws (am_cT b).1 (am_cT b).2.1 (am_cT b).2.2, w ∈ am_tbl := by
  intro w hw
  have h1 : w ∈ lw_tbl := am_b11 (P := fun b => ∀ w ∈ u_ws (am_cT b).1 (am_cT b).2.1 (am_cT b).2.2, w ∈ lw_tbl) am_iX0 am_iX1 am_iX2 am_iX3 am_iX4 am_iX5 am_iX6 am_iX7 am_iX8 am_iX9 am_iX10 l1 l2 w hw
  have h2 := am_clc_all b (by omega) l1
  simp only [am_clc, Bool.and_eq_true] at h2
  exact List.mem_filter.mpr ⟨h1, List.all_eq_true.mp h2.1.1.2 w hw⟩
theorem am_nmd {b : Nat} (l1 : 16 ≤ b) (l2 : b ≤ 26) : ∀ x, x < (am_cT b).2.2 → ∀ z, z < (am_cT b).2.2 → x ≠ z → ((am_cT b).2.1 x).2.1 ≠ ((am_cT b).2.1 z).2.1 :=
  am_b11 (P := fun b => ∀ x, x < (am_cT b).2.2 → ∀ z, z < (am_cT b).2.2 → x ≠ z → ((am_cT b).2.1 x).2.1 ≠ ((am_cT b).2.1 z).2.1) nmX0 nmX1 nmX2 nmX3 nmX4 nmX5 nmX6 nmX7 nmX8 nmX9 nmX10 l1 l2
theorem am_tyd {b : Nat} (l1 : 16 ≤ b) (l2 : b ≤ 26) : ∃ ty : Nat → FieldType, ∀ k, k < (am_cT b).2.2 → parseFieldDescriptor ((am_cT b).2.1 k).2.2.1 = some (ty k) :=
  am_b11 (P := fun b => ∃ ty : Nat → FieldType, ∀ k, k < (am_cT b).2.2 → parseFieldDescriptor ((am_cT b).2.1 k).2.2.1 = some (ty k)) ⟨_, tyX0_ok⟩ ⟨_, tyX1_ok⟩ ⟨_, tyX2_ok⟩ ⟨_, tyX3_ok⟩ ⟨_, tyX4_ok⟩ ⟨_, tyX5_ok⟩ ⟨_, tyX6_ok⟩ ⟨_, tyX7_ok⟩ ⟨_, tyX8_ok⟩ ⟨_, tyX9_ok⟩ ⟨_, tyX10_ok⟩ l1 l2
theorem am_ftk {b k : Nat} (l1 : 16 ≤ b) (l2 : b ≤ 26) (hk : k < (am_cT b).2.2) : am_ftc b k = true := by
  have h2 := am_clc_all b (by omega) l1
  simp only [am_clc, Bool.and_eq_true] at h2
  exact List.all_eq_true.mp h2.1.1.1 k (List.mem_range.mpr hk)
theorem am_vr_own' {n r bb i : Nat} (h : am_vr n (r, bb, i)) (hr : 16 ≤ r) : am_own n (r, bb, i) := am_vr_own h hr
theorem am_v_own {r bb i : Nat} (hr : 16 ≤ r) : am_v g (.inr (.inr (r, bb, i))) = .ref (am_a g (r, bb, i)) := if_neg (by show ¬ r = 5; omega)
theorem am_ce_obj {As : am_B} {M : am_F} {q : am_R} {k : Nat} (h : q.1 < 27) : am_ce g As M q k = .inr (q.1 - 16, (List.range k).map (am_fv g As M q.1 q.2.1 q.2.2)) := if_pos h
theorem am_ce_int {As : am_B} {M : am_F} {q : am_R} {k : Nat} (h : 27 ≤ q.1) (h' : q.1 ≤ 33) : am_ce g As M q k = .inl (g.2.2.2.2 0, k, .inl (M q.1 q.2.1 q.2.2)) := by
  unfold am_ce
  rw [if_neg (by omega), if_pos (by omega)]
theorem am_ce_ref {As : am_B} {M : am_F} {q : am_R} {k : Nat} (h : 34 ≤ q.1) : am_ce g As M q k = .inl (g.2.2.2.2 (q.1 - 33), k, .inr (.inr (.inr (.inr fun j => if As q.1 q.2.1 q.2.2 j = true then some (am_a g (am_el q.1, q.2.1, j)) else none)))) := by
  unfold am_ce
  rw [if_neg (by omega), if_neg (by omega)]
theorem am_nth_rng {α : Type} {f : Nat → α} {n k : Nat} (h : k < n) : ((List.range n).map f)[k]? = some (f k) := by
  rw [List.getElem?_map, List.getElem?_range h]; rfl
def am_dcl (b : Nat) : Bool := (List.range (am_cT b).2.2).all (fun k => decide (((am_cT b).2.1 k).1 = (am_cT b).1))
set_option maxRecDepth 100000 in
theorem am_dcl_all : ∀ b, b < 27 → 16 ≤ b → am_dcl b = true := by decide +kernel
theorem am_decl {b k : Nat} (l1 : 16 ≤ b) (l2 : b ≤ 26) (hk : k < (am_cT b).2.2) : ((am_cT b).2.1 k).1 = (am_cT b).1 :=
  of_decide_eq_true (List.all_eq_true.mp (am_dcl_all b (by omega) l1) k (List.mem_range.mpr hk))
theorem am_tok5 {q : am_R} (h : am_tok q = true) : q.1 ≠ 5 := by
  intro h5
  simp only [am_tok, h5, Bool.or_eq_true, Bool.and_eq_true, decide_eq_true_eq] at h
  rcases h with (⟨h1, _⟩ | ⟨h1, _⟩) | ⟨⟨h1, _⟩, _⟩ <;> exact absurd h1 (by decide)
theorem am_z_getfield {z : Nat} (C : am_ctx g X0 p s m args meth c y n0) (hk : am_chk y (pc, ln, .getfield z, nx, a, b, v, ts, wi) = true) (h : am_s_getfield Cl nx a b v ts L st me N Q) (hN : ∀ ip L st me, N ip L st me → am_ok g X0 p l e R s m args below meth c Qf y n0 (am_pc y ip) L st me) : am_ok g X0 p l e R s m args below meth c Qf y n0 pc L st me := by
  unfold am_s_getfield at h
  rcases st with _ | ⟨x1 | x1 | ⟨r1, bb, i⟩, st⟩ <;> try exact False.elim h
  dsimp only at h
  cases hb : Nat.beq r1 b with
  | false => rw [hb] at h; exact False.elim h
  | true =>
    rw [hb] at h
    have hrb := Nat.eq_of_beq_eq_true hb
    subst hrb
    dsimp only at h
    by_cases h3 : r1 = 3
    · subst h3
      have hk2 : (decide (decode (am_by y) pc = .ok (.getfield z, ln)) && (am_fx y pc ln nx 3 && ((Nat.beq a 0 && am_word wi (.fieldLink (am_nm y).cls z "java/lang/String" "value" "[B")) || (Nat.beq a 1 && am_word wi (.fieldLink (am_nm y).cls z "java/lang/String" "coder" "B"))))) = true := hk
      obtain ⟨hd, hx, hr⟩ := am_pre (o := (pc, ln, .getfield z, nx, a, 3, v, ts, wi)) (k := 3) hk2 rfl
      simp only [Bool.or_eq_true, Bool.and_eq_true] at hr
      intro H locs ls r
      have hv1 := am_vh r.stk
      have hi : i < 2 := by
        rcases hv1 with h | h | h | h
        · have := h.1; simp at this
        · exact h.2.2
        · simp at h
        · have := h.1; simp at this
      have hS := C.2.2.2.2.2.1.2.2.2.2.1.1 i hi
      have ea : am_v g (.inr (.inr (3, bb, i))) = .ref (g.2.1 3 i) := rfl
      rw [List.map_cons, ea]
      rcases hr with ⟨q1, q2⟩ | ⟨q1, q2⟩
      · have := Nat.eq_of_beq_eq_true q1
        subst this
        refine vk_getf C.1 C.2.1 hS.2.2.1 r.2.1 (am_hown C) (am_hw C q2) (fun x hx => hx) hd ?_
        have w := hN _ _ _ _ h H locs ls (r.st (am_vc (v := .inr (.inr (4, 0, i))) (Or.inr (Or.inl ⟨(by decide : (3 : Nat) ≤ 4), Nat.le_refl 4, hi⟩)) (am_vt r.stk)))
        rw [hx] at w
        exact w
      · have := Nat.eq_of_beq_eq_true q1
        subst this
        refine vk_getf C.1 C.2.1 hS.2.1 r.2.1 (am_hown C) (am_hw C q2) (fun x hx => hx) hd ?_
        have w := hN _ _ _ _ h H locs ls (r.st (am_vc (v := .inl 0) trivial (am_vt r.stk)))
        rw [hx] at w
        exact w
    · have hb3 : Nat.beq r1 3 = false := by
        cases hq : Nat.beq r1 3 with
        | false => rfl
        | true => exact absurd (Nat.eq_of_beq_eq_true hq) h3
      have hke : am_chk y (pc, ln, .getfield z, nx, a, r1, v, ts, wi) = (decide (decode (am_by y) pc = .ok (.getfield z, ln)) && (am_fx y pc ln nx 3 && match Nat.beq r1 3 with
        | true => (Nat.beq a 0 && am_word wi (.fieldLink (am_nm y).cls z "java/lang/String" "value" "[B")) || (Nat.beq a 1 && am_word wi (.fieldLink (am_nm y).cls z "java/lang/String" "coder" "B"))
        | false => Nat.ble 16 r1 && Nat.ble r1 26 && Nat.blt a (am_cT r1).2.2 && am_word wi (.fieldLink (am_nm y).cls z (am_cT r1).1 ((am_cT r1).2.1 a).2.1 ((am_cT r1).2.1 a).2.2.1))) := rfl
      rw [hb3] at hke
      obtain ⟨hd, hx, hr⟩ := am_pre (k := 3) hk hke
      simp only [Bool.and_eq_true] at hr
      obtain ⟨⟨⟨l1, l2⟩, l3⟩, l4⟩ := hr
      have l1 := Nat.le_of_ble_eq_true l1
      have l2 := Nat.le_of_ble_eq_true l2
      have l3 : a < (am_cT r1).2.2 := by simpa [Nat.blt_eq] using l3
      have h : (match am_fk (r1 - 16) a with
            | (2, f) => match me.2.1 r1 bb i a with
              | true => match f bb i with
                | (r', b', i') => N nx L (.inr (.inr (r', b', i')) :: st) me
              | false => False
            | _ => N nx L (.inl (me.2.2 r1 bb i a) :: st) me) := by
        simp only [h3] at h
        exact h
      intro H locs ls r
      have ho := am_vr_own' (am_vh r.stk) l1
      have hf := am_own_facts r.2.2.2.2.2.2.2.1 ho
      have hsz := hf.2.1 (by show r1 < 27; omega)
      have he := am_ws_at (g := g) (As := me.2.1) (M := me.2.2) ho
      rw [am_ce_obj (by show r1 < 27; omega)] at he
      rw [List.map_cons, am_v_own l1]
      refine va_get C.1 C.2.1 C.2.2.2.2.1 (am_uin l1 l2) (am_hown C) (am_hK C) r.1 _ he (am_vw l1 l2) a l3 (am_hw C l4) (fun x hx => ?_) (am_nth_rng (by rw [hsz]; exact l3)) hd ?_
      · have hdecl : ((am_cT r1).2.1 a).1 = (am_cT r1).1 := am_decl l1 l2 l3
        rw [hdecl] at hx
        exact hx
      · show W p l e R s m args below meth c H locs _ _ Qf (F0 m (pc + 3) ls (am_fv g me.2.1 me.2.2 r1 bb i a :: st.map (am_v g)))
        unfold am_fv
        cases hfk : am_fk (r1 - 16) a with
        | mk k1 f =>
          rw [hfk] at h
          rcases k1 with _ | _ | _ | k1
          · have w := hN _ _ _ _ h H locs ls (r.st (am_vc (v := .inl _) trivial (am_vt r.stk)))
            rw [hx] at w
            exact w
          · have w := hN _ _ _ _ h H locs ls (r.st (am_vc (v := .inl _) trivial (am_vt r.stk)))
            rw [hx] at w
            exact w
          · dsimp only at h ⊢
            cases hA : me.2.1 r1 bb i a with
            | false => rw [hA] at h; exact False.elim h
            | true =>
              rw [hA] at h
              dsimp only at h
              have htg : am_tg (r1, bb, i) a = f bb i := by
                unfold am_tg
                rw [if_pos (by show r1 < 27; omega)]
                show (am_fk (r1 - 16) a).2 bb i = f bb i
                rw [hfk]
              have hvr : am_vr me.1 (f bb i) := by
                have := r.2.2.2.2.2.2.2.2.1 (r1, bb, i) a ho (Or.inl (by show r1 < 27; omega)) (by rw [hsz]; exact l3) hA
                rw [htg] at this
                exact this
              have ht5 : (f bb i).1 ≠ 5 := by
                have := hf.2.2.2 (Or.inl (by show r1 < 27; omega)) a (by rw [hsz]; exact l3)
                rw [htg] at this
                exact am_tok5 this
              have w := hN _ _ _ _ h H locs ls (r.st (am_vc (v := .inr (.inr (f bb i))) hvr (am_vt r.stk)))
              rw [hx, List.map_cons, show am_v g (.inr (.inr (f bb i))) = .ref (am_a g (f bb i)) from if_neg ht5] at w
              exact w
          · have w := hN _ _ _ _ h H locs ls (r.st (am_vc (v := .inl _) trivial (am_vt r.stk)))
            rw [hx] at w
            exact w
theorem am_z_getstatic {z : Nat} (C : am_ctx g X0 p s m args meth c y n0) (hk : am_chk y (pc, ln, .getstatic z, nx, a, b, v, ts, wi) = true) (h : am_s_getstatic Cl nx a b v ts L st me N Q) (hN : ∀ ip L st me, N ip L st me → am_ok g X0 p l e R s m args below meth c Qf y n0 (am_pc y ip) L st me) : am_ok g X0 p l e R s m args below meth c Qf y n0 pc L st me := by
  have hX := C.2.2.2.2.2.1
  rcases b with _ | b
  · have hk2 : (decide (decode (am_by y) pc = .ok (.getstatic z, ln)) && (am_fx y pc ln nx 3 && ((Nat.beq a 1 && am_word wi (.fieldLink (am_nm y).cls z "GhostTable" "ABOVE" "[I")) || (Nat.beq a 1 && decide ((am_nm y).cls = "GhostTable$Speaker") && Nat.beq z 48) || (Nat.beq a 2 && am_word wi (.fieldLink (am_nm y).cls z "GhostTable$Speaker" "BODIES" "[I")) || (Nat.beq a 5 && am_word wi (.fieldLink (am_nm y).cls z "jdk/internal/util/Preconditions" "SIOOBE_FORMATTER" "Ljava/util/function/BiFunction;"))))) = true := hk
    obtain ⟨hd, hx, hr⟩ := am_pre (o := (pc, ln, .getstatic z, nx, a, 0, v, ts, wi)) (k := 3) hk2 rfl
    simp only [Bool.or_eq_true, Bool.and_eq_true, decide_eq_true_eq] at hr
    have h : N nx L (.inr (.inr (a, 0, 0)) :: st) me := h
    intro H locs ls r
    rcases hr with ((⟨q1, q2⟩ | ⟨⟨q1, q2⟩, q3⟩) | ⟨q1, q2⟩) | ⟨q1, q2⟩
    · have := Nat.eq_of_beq_eq_true q1
      subst this
      refine va_gets C.1 C.2.1 hX.2.2.1.1 r.2.1 (am_hown C) (am_hw C q2) (fun x hx => hx) hd ?_
      have w := hN _ _ _ _ h H locs ls (r.st (am_vc (v := .inr (.inr (1, 0, 0))) (Or.inl ⟨by decide, rfl⟩) r.stk))
      rw [hx] at w
      exact w
    · have := Nat.eq_of_beq_eq_true q1
      subst this
      have := Nat.eq_of_beq_eq_true q3
      subst this
      have hn := va_Nw.use (A := args) rfl hX.2.2.2.2.2.2.2.1
      refine va_getsN C.1 C.2.1 hX.2.2.1.1 r.2.1 (am_hown C) (by rw [q2]; exact hn) (fun x hx => hx) hd ?_
      have w := hN _ _ _ _ h H locs ls (r.st (am_vc (v := .inr (.inr (1, 0, 0))) (Or.inl ⟨by decide, rfl⟩) r.stk))
      rw [hx] at w
      exact w
    · have := Nat.eq_of_beq_eq_true q1
      subst this
      refine va_gets C.1 C.2.1 hX.2.2.2.1.1 r.2.1 (am_hown C) (am_hw C q2) (fun x hx => hx) hd ?_
      have w := hN _ _ _ _ h H locs ls (r.st (am_vc (v := .inr (.inr (2, 0, 0))) (Or.inl ⟨by decide, rfl⟩) r.stk))
      rw [hx] at w
      exact w
    · have := Nat.eq_of_beq_eq_true q1
      subst this
      refine va_gets C.1 C.2.1 hX.2.2.2.2.2.2.1.2 r.2.1 (am_hown C) (am_hw C q2) (fun x hx => hx) hd ?_
      have w := hN _ _ _ _ h H locs ls (r.st (am_vc (v := .inr (.inr (5, 0, 0))) (Or.inr (Or.inr (Or.inl rfl))) r.stk))
      rw [hx] at w
      exact w
  · obtain ⟨hd, hx, hr⟩ := am_pre (o := (pc, ln, .getstatic z, nx, a, b + 1, v, ts, wi)) (rest := decide (v = 1) && am_word wi (.fieldLink (am_nm y).cls z "java/lang/String" "COMPACT_STRINGS" "Z")) (k := 3) hk rfl
    simp only [Bool.and_eq_true, decide_eq_true_eq] at hr
    obtain ⟨q1, q2⟩ := hr
    subst q1
    have h : N nx L (.inl 1 :: st) me := h
    intro H locs ls r
    refine va_gets C.1 C.2.1 hX.2.2.2.2.2.2.1.1 r.2.1 (am_hown C) (am_hw C q2) (fun x hx => hx) hd ?_
    have w := hN _ _ _ _ h H locs ls (r.st (am_vc (v := .inl 1) trivial r.stk))
    rw [hx] at w
    exact w
end AMH
