section AMI
variable {g : am_G} {X0 : Nat → Nat → Nat → Int32} {p : Program} {l : Launch} {e : Env} {R : Room} {s : State} {m : MethodId} {args : Array Value} {below : List Frame} {meth : Method} {c : Code} {Qf : State → Prop} {y n0 nF : Nat}
variable {Cl : Nat → List am_V → am_M → Option am_V → am_M → Prop} {nx a b : Nat} {v : Int32} {ts : List (Int32 × Nat)} {L : am_L} {st : List am_V} {me : am_M} {N : Nat → am_L → List am_V → am_M → Prop} {Q : Option am_V → am_M → Prop} {pc ln wi : Nat}
theorem am_z_putfield {z : Nat} (C : am_ctx g X0 p s m args meth c y n0) (hk : am_chk y (pc, ln, .putfield z, nx, a, b, v, ts, wi) = true) (h : am_s_putfield Cl nx a b v ts L st me N Q) (hN : ∀ ip L st me, N ip L st me → am_ok g X0 p l e R s m args below meth c Qf y n0 (am_pc y ip) L st me) : am_ok g X0 p l e R s m args below meth c Qf y n0 pc L st me := by
  have hk2 : (decide (decode (am_by y) pc = .ok (.putfield z, ln)) && (am_fx y pc ln nx 3 && Nat.ble 16 b && Nat.ble b 26 && Nat.blt a (am_cT b).2.2 && am_word wi (.fieldLink (am_nm y).cls z (am_cT b).1 ((am_cT b).2.1 a).2.1 ((am_cT b).2.1 a).2.2.1) && (!((am_cT b).2.1 a).2.2.2 || (decide ((am_nm y).name = "<init>") && decide (((am_cT b).2.1 a).1 = (am_nm y).cls))))) = true := hk
  simp only [Bool.and_eq_true, decide_eq_true_eq, Bool.or_eq_true, Bool.not_eq_true'] at hk2
  obtain ⟨hd, ⟨⟨⟨⟨hf, l1⟩, l2⟩, l3⟩, l4⟩, l5⟩ := hk2
  obtain ⟨hln, hx⟩ := am_fx_spec hf
  subst hln
  have l1 := Nat.le_of_ble_eq_true l1
  have l2 := Nat.le_of_ble_eq_true l2
  have l3 : a < (am_cT b).2.2 := by simpa [Nat.blt_eq] using l3
  have hft := am_ftk l1 l2 l3
  unfold am_s_putfield at h
  rcases st with _ | ⟨w0, _ | ⟨x1 | x1 | ⟨r1, bb, i⟩, st⟩⟩ <;> try exact False.elim h
  dsimp only at h
  cases hb : Nat.beq r1 b with
  | false => rw [hb] at h; exact False.elim h
  | true =>
    rw [hb] at h
    have hrb := Nat.eq_of_beq_eq_true hb
    subst hrb
    dsimp only at h
    intro H locs ls r
    have ho := am_vr_own' (am_vh (am_vt r.stk)) l1
    have hr27 : r1 < 27 := by omega
    have hof := am_own_facts r.2.2.2.2.2.2.2.1 ho
    have hsz := hof.2.1 hr27
    have he := am_ws_at (g := g) (As := me.2.1) (M := me.2.2) ho
    rw [am_ce_obj (q := (r1, bb, i)) hr27] at he
    rw [List.map_cons, List.map_cons, am_v_own l1]
    obtain ⟨ty0, hty0⟩ := am_tyd l1 l2
    have hdecl : ((am_cT r1).2.1 a).1 = (am_cT r1).1 := am_decl l1 l2 l3
    have hsame : ∀ x, s.fieldFound? ((am_cT r1).2.1 a).1 ((am_cT r1).2.1 a).2.1 ((am_cT r1).2.1 a).2.2.1 = some x → s.fieldFound? (am_cT r1).1 ((am_cT r1).2.1 a).2.1 ((am_cT r1).2.1 a).2.2.1 = some x := fun x hx => by rw [hdecl] at hx; exact hx
    have hlen : a < ((List.range (am_sz (r1, bb, i))).map (am_fv g me.2.1 me.2.2 r1 bb i)).length := by simpa [hsz] using l3
    -- the store itself, whatever the value
    have key : ∀ (v1 : Value) (ty : FieldType) (As' : am_B) (M' : am_F), parseFieldDescriptor ((am_cT r1).2.1 a).2.2.1 = some ty → narrow ty v1 = v1 → fits ty v1 = true →
        (∀ (q' : am_R) (k : Nat), q' ≠ (r1, bb, i) → am_ce g As' M' q' k = am_ce g me.2.1 me.2.2 q' k) → (Sum.inr (r1 - 16, ((List.range (am_sz (r1, bb, i))).map (am_fv g me.2.1 me.2.2 r1 bb i)).set a v1) : va_E) = am_ce g As' M' (r1, bb, i) (am_sz (r1, bb, i)) →
        am_AsOK me.1 As' → M' 0 = X0 → N nx L st (me.1, As', M') →
        W p l e R s m args below meth c H locs (me.1 - n0) (am_sl me.1 - am_sl n0) Qf (F0 m pc ls (v1 :: .ref (am_a g (r1, bb, i)) :: st.map (am_v g))) := by
      intro v1 ty As' M' hd1 hn1 hf1 ho1 he1 hA1 hM1 hN1
      have fin : ∀ (H1 : Heap) (locs1 : List Loc), va_P g.2.2.2.1 vwCl ((am_ws g me.1 me.2.1 me.2.2).set (am_ad r1 bb i) (am_a g (r1, bb, i), .inr (r1 - 16, ((List.range (am_sz (r1, bb, i))).map (am_fv g me.2.1 me.2.2 r1 bb i)).set a v1))) H1 → va_D (am_A g) ((am_ws g me.1 me.2.1 me.2.2).set (am_ad r1 bb i) (am_a g (r1, bb, i), .inr (r1 - 16, ((List.range (am_sz (r1, bb, i))).map (am_fv g me.2.1 me.2.2 r1 bb i)).set a v1))) → va_S (am_A g) s.heap H1 locs1 → W p l e R s m args below meth c H1 locs1 (me.1 - n0) (am_sl me.1 - am_sl n0) Qf (F0 m (pc + 3) ls (st.map (am_v g))) := by
        intro H1 locs1 p1 _ p3
        rw [am_ws_set (q := (r1, bb, i)) r.2.2.2.2.2.2.2.1 ho ho1 he1] at p1
        have w := hN _ _ _ _ hN1 H1 locs1 ls ⟨p1, p3, r.2.2.1, r.2.2.2.1, r.2.2.2.2.1, am_vt (am_vt r.stk), r.2.2.2.2.2.2.1, r.2.2.2.2.2.2.2.1, hA1, hM1⟩
        rw [hx] at w
        exact w
      by_cases hfin : ((am_cT r1).2.1 a).2.2.2 = true
      · have l6 := l5.resolve_left (by rw [hfin]; decide)
        exact va_putF C.1 C.2.1 C.2.2.2.2.1 (am_uin l1 l2) ty0 hty0 (am_nmd l1 l2) (am_hown C) (am_hK C) r.1 am_D r.2.1 _ he (am_vw l1 l2) a l3 (am_hw C l4) hsame hfin (C.2.2.2.2.2.2.1 l6.1) l6.2 hd1 hn1 hf1 hlen hd fin
      · exact va_put C.1 C.2.1 C.2.2.2.2.1 (am_uin l1 l2) ty0 hty0 (am_nmd l1 l2) (am_hown C) (am_hK C) r.1 am_D r.2.1 _ he (am_vw l1 l2) a l3 (am_hw C l4) hsame (by simpa using hfin) hd1 hn1 hf1 hlen hd fin
    have hoM : ∀ (x : Int32) (q' : am_R) (k : Nat), q' ≠ (r1, bb, i) → am_ce g me.2.1 (am_up me.2.2 r1 bb i a x) q' k = am_ce g me.2.1 me.2.2 q' k := fun x q' k hq => am_ce_congr rfl (am_up_ne (q := (r1, bb, i)) hq)
    have hM0 : ∀ x : Int32, am_up me.2.2 r1 bb i a x 0 = X0 := fun x => by
      rw [← r.2.2.2.2.2.2.2.2.2]
      funext b' i' s'
      unfold am_up
      rw [if_neg (by omega)]
    unfold am_ftc at hft
    cases hfk : am_fk (r1 - 16) a with
    | mk k1 f =>
      rw [hfk] at h hft
      dsimp only at hft
      generalize hpd : parseFieldDescriptor ((am_cT r1).2.1 a).2.2.1 = pd at hft
      rcases k1 with _ | _ | _ | k1
      · rcases w0 with x | x | q <;> try exact False.elim h
        have hpi : pd = some .int := by
          rcases pd with _ | t
          · cases hft
          · cases t <;> first | rfl | cases hft
        exact key (.int x) .int _ _ (hpd.trans hpi) rfl rfl (hoM x) (am_ce_put (q := (r1, bb, i)) hr27 (by rw [hsz]; exact l3) (by rw [hfk]; exact (by decide : (0 : Nat) ≠ 2))) r.2.2.2.2.2.2.2.2.1 (hM0 x) h
      · rcases w0 with x | x | q <;> try exact False.elim h
        have hpi : pd = some .boolean := by
          rcases pd with _ | t
          · cases hft
          · cases t <;> first | rfl | cases hft
        obtain ⟨h01, h⟩ := h
        exact key (.int x) .boolean _ _ (hpd.trans hpi) (by rcases h01 with rfl | rfl <;> decide) (by rcases h01 with rfl | rfl <;> decide) (hoM x) (am_ce_put (q := (r1, bb, i)) hr27 (by rw [hsz]; exact l3) (by rw [hfk]; exact (by decide : (1 : Nat) ≠ 2))) r.2.2.2.2.2.2.2.2.1 (hM0 x) h
      · rcases w0 with x | x | q <;> try exact False.elim h
        obtain ⟨hq, h⟩ := h
        have htg : am_tg (r1, bb, i) a = f bb i := by
          unfold am_tg
          rw [if_pos hr27]
          show (am_fk (r1 - 16) a).2 bb i = f bb i
          rw [hfk]
        have ht5 : q.1 ≠ 5 := by
          have := hof.2.2.2 (Or.inl hr27) a (by rw [hsz]; exact l3)
          rw [htg, ← hq] at this
          exact am_tok5 this
        have hvq : am_vr me.1 q := am_vh r.stk
        rw [show am_v g (.inr (.inr q)) = .ref (am_a g q) from if_neg ht5]
        have hty : ∃ ty, pd = some ty ∧ narrow ty (.ref (am_a g q)) = .ref (am_a g q) ∧ fits ty (.ref (am_a g q)) = true := by
          rcases pd with _ | t
          · cases hft
          · refine ⟨t, rfl, ?_⟩
            cases t <;> first | exact ⟨rfl, rfl⟩ | cases hft
        obtain ⟨ty, ty1, ty2, ty3⟩ := hty
        refine key _ ty _ _ (hpd.trans ty1) ty2 ty3 (fun q' k hq' => am_ce_congr (am_upB_ne (q := (r1, bb, i)) hq') rfl) (by rw [hq]; exact am_ce_putR (q := (r1, bb, i)) hr27 (by rw [hsz]; exact l3) hfk) ?_ r.2.2.2.2.2.2.2.2.2 h
        intro q' s' hq' hr' hs' hA'
        by_cases hqq : q' = (r1, bb, i) ∧ s' = a
        · obtain ⟨rfl, rfl⟩ := hqq
          rw [htg, ← hq]
          exact hvq
        · refine r.2.2.2.2.2.2.2.2.1 q' s' hq' hr' hs' ?_
          unfold am_upB at hA'
          rw [if_neg] at hA'
          · exact hA'
          · rintro ⟨e1, e2, e3, e4⟩
            exact hqq ⟨Prod.ext e1 (Prod.ext e2 e3), e4⟩
      · rcases w0 with x | x | q <;> exact False.elim h
theorem am_rd_own {M : am_F} {r b i : Nat} (h1 : 27 ≤ r) (h2 : r ≤ 33) : am_rd M r b i = some (am_ln r b, M r b i) := by
  unfold am_rd
  have e : (Nat.ble 27 r && Nat.ble r 33) = true := by rw [Nat.ble_eq_true_of_le h1, Nat.ble_eq_true_of_le h2]; rfl
  split
  · omega
  · omega
  · omega
  · rw [e]
theorem am_rd_out {M : am_F} {r b i : Nat} (h0 : r ≠ 0) (h1 : r ≠ 1) (h2 : r ≠ 2) (h : ¬ (27 ≤ r ∧ r ≤ 33)) : am_rd M r b i = none := by
  unfold am_rd
  have e : (Nat.ble 27 r && Nat.ble r 33) = false := by
    cases hx : (Nat.ble 27 r && Nat.ble r 33) with
    | false => rfl
    | true =>
      simp only [Bool.and_eq_true] at hx
      exact absurd ⟨Nat.le_of_ble_eq_true hx.1, Nat.le_of_ble_eq_true hx.2⟩ h
  split
  · exact absurd rfl h0
  · exact absurd rfl h1
  · exact absurd rfl h2
  · rw [e]
theorem am_i0 {n r bb i : Nat} (hv : am_vr n (r, bb, i)) (hl : r ≤ 2) : i = 0 := by
  rcases hv with h | h | h | h
  · exact h.2
  · have : 3 ≤ r := h.1; omega
  · have : r = 5 := h; omega
  · have : 16 ≤ r := h.1; omega
theorem am_tysI : (am_tys g)[0]? = some (g.2.2.2.2 0, .int) := rfl
theorem am_z_iaload (C : am_ctx g X0 p s m args meth c y n0) (hk : am_chk y (pc, ln, .iaload, nx, a, b, v, ts, wi) = true) (h : am_s_iaload Cl nx a b v ts L st me N Q) (hN : ∀ ip L st me, N ip L st me → am_ok g X0 p l e R s m args below meth c Qf y n0 (am_pc y ip) L st me) : am_ok g X0 p l e R s m args below meth c Qf y n0 pc L st me := by
  obtain ⟨hd, hx⟩ := am_pre0 (k := 1) hk rfl
  have hX := C.2.2.2.2.2.1
  unfold am_s_iaload at h
  rcases st with _ | ⟨j1 | j1 | j1, _ | ⟨x1 | x1 | ⟨r1, bb, i⟩, st⟩⟩ <;> try exact False.elim h
  dsimp only at h
  intro H locs ls r
  have hv := am_vh (am_vt r.stk)
  have hM0 := r.2.2.2.2.2.2.2.2.2
  by_cases q0 : r1 = 0
  · subst q0
    have hi : i = 0 := am_i0 hv (by decide)
    subst hi
    obtain ⟨hin, h⟩ := (show vp_in j1 (me.2.2 0 0 1 0).toNatClampNeg ∧ N nx L (.inl (me.2.2 0 0 0 j1.toNatClampNeg) :: st) me from h)
    rw [hM0] at hin
    refine va_ti C.1 C.2.1 hX.2.1 r.2.1 hin rfl hd ?_
    have w := hN _ _ _ _ h H locs ls (r.st (am_vc (v := .inl _) trivial (am_vt (am_vt r.stk))))
    rw [hx, hM0] at w
    exact w
  by_cases q1 : r1 = 1
  · subst q1
    have hi : i = 0 := am_i0 hv (by decide)
    subst hi
    obtain ⟨hin, h⟩ := (show vp_in j1 7 ∧ N nx L (.inl (am_t1 j1.toNatClampNeg) :: st) me from h)
    refine va_ti C.1 C.2.1 hX.2.2.1.2 r.2.1 hin rfl hd ?_
    have w := hN _ _ _ _ h H locs ls (r.st (am_vc (v := .inl _) trivial (am_vt (am_vt r.stk))))
    rw [hx] at w
    exact w
  by_cases q2 : r1 = 2
  · subst q2
    have hi : i = 0 := am_i0 hv (by decide)
    subst hi
    obtain ⟨hin, h⟩ := (show vp_in j1 28 ∧ N nx L (.inl (am_t2 j1.toNatClampNeg) :: st) me from h)
    refine va_ti C.1 C.2.1 hX.2.2.2.1.2 r.2.1 hin rfl hd ?_
    have w := hN _ _ _ _ h H locs ls (r.st (am_vc (v := .inl _) trivial (am_vt (am_vt r.stk))))
    rw [hx] at w
    exact w
  by_cases hr : 27 ≤ r1 ∧ r1 ≤ 33
  · rw [am_rd_own hr.1 hr.2] at h
    obtain ⟨hin, h⟩ := h
    have ho := am_vr_own' hv (by omega)
    have hsz := (am_own_facts r.2.2.2.2.2.2.2.1 ho).2.2.1 hr.1
    have he := am_ws_at (g := g) (As := me.2.1) (M := me.2.2) ho
    rw [am_ce_int (q := (r1, bb, i)) hr.1 hr.2, hsz] at he
    rw [List.map_cons, List.map_cons, am_v_own (by omega)]
    refine va_iald C.1 C.2.1 (am_hK C) r.1 _ 0 he am_tysI hin hd ?_
    have w := hN _ _ _ _ h H locs ls (r.st (am_vc (v := .inl _) trivial (am_vt (am_vt r.stk))))
    rw [hx] at w
    exact w
  · rw [am_rd_out q0 q1 q2 hr] at h
    exact False.elim h
theorem am_z_baload (C : am_ctx g X0 p s m args meth c y n0) (hk : am_chk y (pc, ln, .baload, nx, a, b, v, ts, wi) = true) (h : am_s_baload Cl nx a b v ts L st me N Q) (hN : ∀ ip L st me, N ip L st me → am_ok g X0 p l e R s m args below meth c Qf y n0 (am_pc y ip) L st me) : am_ok g X0 p l e R s m args below meth c Qf y n0 pc L st me := by
  obtain ⟨hd, hx⟩ := am_pre0 (k := 1) hk rfl
  have hX := C.2.2.2.2.2.1
  unfold am_s_baload at h
  rcases st with _ | ⟨j1 | j1 | j1, _ | ⟨x1 | x1 | ⟨r1, bb, i⟩, st⟩⟩ <;> try exact False.elim h
  dsimp only at h
  cases hb : Nat.beq r1 4 with
  | false => rw [hb] at h; exact False.elim h
  | true =>
    rw [hb] at h
    have := Nat.eq_of_beq_eq_true hb
    subst this
    obtain ⟨hin, h⟩ := h
    intro H locs ls r
    have hv := am_vh (am_vt r.stk)
    have hi : i < 2 := by
      rcases hv with h | h | h | h
      · exact absurd h.1 (show ¬ (4 : Nat) ≤ 2 by decide)
      · exact h.2.2
      · exact absurd h (show ¬ (4 : Nat) = 5 by decide)
      · exact absurd h.1 (show ¬ 16 ≤ (4 : Nat) by decide)
    have hT := (hX.2.2.2.2.1.1 i hi).2.2.2
    have e1 : ([4, 3] : List Nat).getD i 0 = am_bl i := by rcases (by omega : i = 0 ∨ i = 1) with rfl | rfl <;> rfl
    have e2 : ∀ j, (([[104, 115, 114, 107], [112, 104, 117]] : List (List Int32)).getD i []).getD j 0 = am_bt i j := by
      intro j
      rcases (by omega : i = 0 ∨ i = 1) with rfl | rfl
      · rcases j with _ | _ | _ | _ | j <;> rfl
      · rcases j with _ | _ | _ | j <;> rfl
    refine va_tb C.1 C.2.1 hT r.2.1 (by rw [e1]; exact hin) (v := .int (am_bt i j1.toNatClampNeg)) (by rw [← e2]) hd ?_
    have w := hN _ _ _ _ h H locs ls (r.st (am_vc (v := .inl _) trivial (am_vt (am_vt r.stk))))
    rw [hx] at w
    exact w
theorem am_z_iastore (C : am_ctx g X0 p s m args meth c y n0) (hk : am_chk y (pc, ln, .iastore, nx, a, b, v, ts, wi) = true) (h : am_s_iastore Cl nx a b v ts L st me N Q) (hN : ∀ ip L st me, N ip L st me → am_ok g X0 p l e R s m args below meth c Qf y n0 (am_pc y ip) L st me) : am_ok g X0 p l e R s m args below meth c Qf y n0 pc L st me := by
  obtain ⟨hd, hx⟩ := am_pre0 (k := 1) hk rfl
  unfold am_s_iastore at h
  rcases st with _ | ⟨z1 | z1 | z1, _ | ⟨j1 | j1 | j1, _ | ⟨x1 | x1 | ⟨r1, bb, i⟩, st⟩⟩⟩ <;> try exact False.elim h
  dsimp only at h
  cases hb : (Nat.ble 27 r1 && Nat.ble r1 33) with
  | false => rw [hb] at h; exact False.elim h
  | true =>
    rw [hb] at h
    simp only [Bool.and_eq_true] at hb
    have l1 := Nat.le_of_ble_eq_true hb.1
    have l2 := Nat.le_of_ble_eq_true hb.2
    obtain ⟨hin, h⟩ := h
    intro H locs ls r
    have ho := am_vr_own' (am_vh (am_vt (am_vt r.stk))) (by omega)
    have hsz := (am_own_facts r.2.2.2.2.2.2.2.1 ho).2.2.1 l1
    have he := am_ws_at (g := g) (As := me.2.1) (M := me.2.2) ho
    rw [am_ce_int (q := (r1, bb, i)) l1 l2] at he
    rw [List.map_cons, List.map_cons, List.map_cons, am_v_own (by omega)]
    refine va_iast C.1 C.2.1 (am_hK C) r.1 am_D r.2.1 _ 0 he am_tysI (by rw [hsz]; exact hin) hd fun H1 locs1 p1 _ p3 => ?_
    rw [am_ws_set (q := (r1, bb, i)) r.2.2.2.2.2.2.2.1 ho (fun q' k hq => am_ce_congr rfl (am_up_ne (q := (r1, bb, i)) hq)) (am_ce_ast (q := (r1, bb, i)) l1 l2)] at p1
    have w := hN _ _ _ _ h H1 locs1 ls ⟨p1, p3, r.2.2.1, r.2.2.2.1, r.2.2.2.2.1, am_vt (am_vt (am_vt r.stk)), r.2.2.2.2.2.2.1, r.2.2.2.2.2.2.2.1, r.2.2.2.2.2.2.2.2.1, by
      rw [← r.2.2.2.2.2.2.2.2.2]
      funext b' i' s'
      show am_up me.2.2 r1 bb i j1.toNatClampNeg z1 0 b' i' s' = me.2.2 0 b' i' s'
      unfold am_up
      rw [if_neg (by omega)]⟩
    rw [hx] at w
    exact w
theorem am_tysR {r : Nat} (h1 : 34 ≤ r) (h2 : r ≤ 37) : (am_tys g)[r - 33]? = some (g.2.2.2.2 (r - 33), .object (am_en r)) := by
  rcases (by omega : r = 34 ∨ r = 35 ∨ r = 36 ∨ r = 37) with rfl | rfl | rfl | rfl <;> rfl
theorem am_b34 {r : Nat} (h : (Nat.ble 34 r && Nat.ble r 37) = true) : 34 ≤ r ∧ r ≤ 37 := by
  simp only [Bool.and_eq_true] at h
  exact ⟨Nat.le_of_ble_eq_true h.1, Nat.le_of_ble_eq_true h.2⟩
theorem am_z_arraylength (C : am_ctx g X0 p s m args meth c y n0) (hk : am_chk y (pc, ln, .arraylength, nx, a, b, v, ts, wi) = true) (h : am_s_arraylength Cl nx a b v ts L st me N Q) (hN : ∀ ip L st me, N ip L st me → am_ok g X0 p l e R s m args below meth c Qf y n0 (am_pc y ip) L st me) : am_ok g X0 p l e R s m args below meth c Qf y n0 pc L st me := by
  obtain ⟨hd, hx⟩ := am_pre0 (k := 1) hk rfl
  have hX := C.2.2.2.2.2.1
  unfold am_s_arraylength at h
  rcases st with _ | ⟨x1 | x1 | ⟨r1, bb, i⟩, st⟩ <;> try exact False.elim h
  dsimp only at h
  intro H locs ls r
  have hv := am_vh r.stk
  have hM0 := r.2.2.2.2.2.2.2.2.2
  have hl0 : r1 ≤ 2 → i = 0 := fun hl => by
    rcases hv with h | h | h | h
    · exact h.2
    · have : 3 ≤ r1 := h.1; omega
    · have : r1 = 5 := h; omega
    · have : 16 ≤ r1 := h.1; omega
  by_cases q0 : r1 = 0
  · subst q0
    have := hl0 (by decide)
    subst this
    have h : N nx L (.inl (Int32.ofNat (me.2.2 0 0 1 0).toNatClampNeg) :: st) me := h
    refine va_tlen C.1 C.2.1 hX.2.1 r.2.1 (v := Int32.ofNat (me.2.2 0 0 1 0).toNatClampNeg) (by rw [hM0]) hd ?_
    have w := hN _ _ _ _ h H locs ls (r.st (am_vc (v := .inl _) trivial (am_vt r.stk)))
    rw [hx] at w
    exact w
  by_cases q1 : r1 = 1
  · subst q1
    have := hl0 (by decide)
    subst this
    refine va_tlen C.1 C.2.1 hX.2.2.1.2 r.2.1 rfl hd ?_
    have w := hN _ _ _ _ h H locs ls (r.st (am_vc (v := .inl _) trivial (am_vt r.stk)))
    rw [hx] at w
    exact w
  by_cases q2 : r1 = 2
  · subst q2
    have := hl0 (by decide)
    subst this
    refine va_tlen C.1 C.2.1 hX.2.2.2.1.2 r.2.1 rfl hd ?_
    have w := hN _ _ _ _ h H locs ls (r.st (am_vc (v := .inl _) trivial (am_vt r.stk)))
    rw [hx] at w
    exact w
  by_cases q4 : r1 = 4
  · subst q4
    have hi : i < 2 := by
      rcases hv with h | h | h | h
      · exact absurd h.1 (show ¬ (4 : Nat) ≤ 2 by decide)
      · exact h.2.2
      · exact absurd h (show ¬ (4 : Nat) = 5 by decide)
      · exact absurd h.1 (show ¬ 16 ≤ (4 : Nat) by decide)
    have hT := (hX.2.2.2.2.1.1 i hi).2.2.2
    have e1 : ([4, 3] : List Nat).getD i 0 = am_bl i := by rcases (by omega : i = 0 ∨ i = 1) with rfl | rfl <;> rfl
    have h : N nx L (.inl (Int32.ofNat (am_bl i)) :: st) me := h
    refine va_tlen C.1 C.2.1 hT r.2.1 (v := Int32.ofNat (am_bl i)) (by rw [e1]) hd ?_
    have w := hN _ _ _ _ h H locs ls (r.st (am_vc (v := .inl _) trivial (am_vt r.stk)))
    rw [hx] at w
    exact w
  have hlen : am_len me.2.2 r1 bb i = match Nat.ble 34 r1 && Nat.ble r1 37 with
    | true => some (am_ln r1 bb)
    | false => match am_rd me.2.2 r1 bb i with
      | some (n, _) => some n
      | none => none := by
    unfold am_len
    split
    · exact absurd rfl q4
    · rfl
  rw [hlen] at h
  cases hb : (Nat.ble 34 r1 && Nat.ble r1 37) with
  | true =>
    rw [hb] at h
    obtain ⟨l1, l2⟩ := am_b34 hb
    have ho := am_vr_own' hv (by omega)
    have hsz := (am_own_facts r.2.2.2.2.2.2.2.1 ho).2.2.1 (by show 27 ≤ r1; omega)
    have he := am_ws_at (g := g) (As := me.2.1) (M := me.2.2) ho
    rw [am_ce_ref (q := (r1, bb, i)) l1] at he
    rw [List.map_cons, am_v_own (by omega)]
    refine va_alen C.1 C.2.1 (am_hK C) r.1 _ _ he (am_tysR l1 l2) (v := Int32.ofNat (am_ln r1 bb)) (by rw [← hsz]) hd ?_
    have w := hN _ _ _ _ h H locs ls (r.st (am_vc (v := .inl _) trivial (am_vt r.stk)))
    rw [hx] at w
    exact w
  | false =>
    rw [hb] at h
    dsimp only at h
    by_cases hr : 27 ≤ r1 ∧ r1 ≤ 33
    · rw [am_rd_own hr.1 hr.2] at h
      have ho := am_vr_own' hv (by omega)
      have hsz := (am_own_facts r.2.2.2.2.2.2.2.1 ho).2.2.1 hr.1
      have he := am_ws_at (g := g) (As := me.2.1) (M := me.2.2) ho
      rw [am_ce_int (q := (r1, bb, i)) hr.1 hr.2] at he
      rw [List.map_cons, am_v_own (by omega)]
      refine va_alen C.1 C.2.1 (am_hK C) r.1 _ 0 he am_tysI (v := Int32.ofNat (am_ln r1 bb)) (by rw [← hsz]) hd ?_
      have w := hN _ _ _ _ h H locs ls (r.st (am_vc (v := .inl _) trivial (am_vt r.stk)))
      rw [hx] at w
      exact w
    · rw [am_rd_out q0 q1 q2 hr] at h
      exact False.elim h
theorem am_z_aaload (C : am_ctx g X0 p s m args meth c y n0) (hk : am_chk y (pc, ln, .aaload, nx, a, b, v, ts, wi) = true) (h : am_s_aaload Cl nx a b v ts L st me N Q) (hN : ∀ ip L st me, N ip L st me → am_ok g X0 p l e R s m args below meth c Qf y n0 (am_pc y ip) L st me) : am_ok g X0 p l e R s m args below meth c Qf y n0 pc L st me := by
  obtain ⟨hd, hx⟩ := am_pre0 (k := 1) hk rfl
  unfold am_s_aaload at h
  rcases st with _ | ⟨j1 | j1 | j1, _ | ⟨x1 | x1 | ⟨r1, bb, i⟩, st⟩⟩ <;> try exact False.elim h
  dsimp only at h
  cases hb : (Nat.ble 34 r1 && Nat.ble r1 37) with
  | false => rw [hb] at h; exact False.elim h
  | true =>
    rw [hb] at h
    obtain ⟨l1, l2⟩ := am_b34 hb
    obtain ⟨hin, h⟩ := h
    cases hA : me.2.1 r1 bb i j1.toNatClampNeg with
    | false => rw [hA] at h; exact False.elim h
    | true =>
      rw [hA] at h
      intro H locs ls r
      have ho := am_vr_own' (am_vh (am_vt r.stk)) (by omega)
      have hsz := (am_own_facts r.2.2.2.2.2.2.2.1 ho).2.2.1 (by show 27 ≤ r1; omega)
      have he := am_ws_at (g := g) (As := me.2.1) (M := me.2.2) ho
      rw [am_ce_ref (q := (r1, bb, i)) l1] at he
      rw [List.map_cons, List.map_cons, am_v_own (by omega)]
      have hj : j1.toNatClampNeg < am_sz (r1, bb, i) := by rw [hsz]; exact Nat.not_le.mp fun q => hin (Or.inr q)
      have htg : am_tg (r1, bb, i) j1.toNatClampNeg = (am_el r1, bb, j1.toNatClampNeg) := if_neg (by show ¬ r1 < 27; omega)
      have hvr := r.2.2.2.2.2.2.2.2.1 (r1, bb, i) _ ho (Or.inr l1) hj hA
      have h5 := am_tok5 ((am_own_facts r.2.2.2.2.2.2.2.1 ho).2.2.2 (Or.inr l1) _ hj)
      rw [htg] at hvr h5
      refine va_aldq C.1 C.2.1 (am_hK C) r.1 _ _ he (am_tysR l1 l2) (by rw [hsz]; exact hin) hd ?_
      have w := hN _ _ _ _ h H locs ls (r.st (am_vc (v := .inr (.inr _)) hvr (am_vt (am_vt r.stk))))
      rw [hx, List.map_cons, show am_v g (.inr (.inr (am_el r1, bb, j1.toNatClampNeg))) = .ref (am_a g (am_el r1, bb, j1.toNatClampNeg)) from if_neg h5] at w
      dsimp only
      rw [if_pos hA]
      exact w
end AMI
