section AMJ
variable {g : am_G} {X0 : Nat → Nat → Nat → Int32} {p : Program} {l : Launch} {e : Env} {R : Room} {s : State} {m : MethodId} {args : Array Value} {below : List Frame} {meth : Method} {c : Code} {Qf : State → Prop} {y n0 nF : Nat}
variable {Cl : Nat → List am_V → am_M → Option am_V → am_M → Prop} {nx a b : Nat} {v : Int32} {ts : List (Int32 × Nat)} {L : am_L} {st : List am_V} {me : am_M} {N : Nat → am_L → List am_V → am_M → Prop} {Q : Option am_V → am_M → Prop} {pc ln wi : Nat}
theorem am_sized {nL : Nat} {H : Heap} {locs : List Loc} {ls : Array Slot} {F : JFrame} {sl : Nat} (C : am_ctx g X0 p s m args meth c y n0) (r : am_rl g X0 s n0 nL L st me H locs ls) (k : H.size = g.1 + me.1 → W p l e R s m args below meth c H locs (me.1 - n0) sl Qf F) : W p l e R s m args below meth c H locs (me.1 - n0) sl Qf F := by
  intro T hT X
  refine k ?_ T hT X
  have h1 := X.heapSize
  rw [hT, C.2.2.2.2.2.2.2] at h1
  have hn := r.2.2.2.2.2.2.1
  have h2 := r.2.1.1
  rw [C.2.2.2.2.2.2.2] at h2
  by_cases h0 : me.1 = 0
  · omega
  · have hk : (am_ws g me.1 me.2.1 me.2.2)[me.1 - 1]? = some (g.1 + (me.1 - 1), am_ce g me.2.1 me.2.2 (am_dec (me.1 - 1)).1 (am_dec (me.1 - 1)).2) := am_nth_rng (f := fun k => (g.1 + k, am_ce g me.2.1 me.2.2 (am_dec k).1 (am_dec k).2)) (by omega)
    have h3 := (r.1 _ _ hk).lt
    dsimp only at h3
    omega
theorem am_ws_succ {n : Nat} {As : am_B} {M : am_F} : am_ws g (n + 1) As M = am_ws g n As M ++ [(g.1 + n, am_ce g As M (am_dec n).1 (am_dec n).2)] := by
  simp [am_ws, List.range_succ]
theorem am_zi_at {M : am_F} {r b i n s : Nat} (h : am_zi M r b i n = true) (hs : s < n) : M r b i s = 0 := by
  have := List.all_eq_true.mp h s (List.mem_range.mpr hs)
  simpa using this
theorem am_zb_at {A : am_B} {r b i n s : Nat} (h : am_zb A r b i n = true) (hs : s < n) : A r b i s = false := by
  have := List.all_eq_true.mp h s (List.mem_range.mpr hs)
  simpa using this
set_option maxRecDepth 100000 in
theorem am_small : ∀ k, k < 128 → (am_dec k).2 ≤ 300 := by decide +kernel
theorem am_dec_own {k : Nat} (h : k < 128) : am_own (k + 1) (am_dec k).1 ∧ am_sz (am_dec k).1 = (am_dec k).2 := by
  have h1 := am_cell_ad h
  have h2 := am_cell h
  unfold am_cchk at h2
  refine ⟨⟨?_, ?_, ?_⟩, ?_⟩
  · generalize am_dec k = d at h2
    obtain ⟨⟨r, b, i⟩, n⟩ := d
    simp only [Bool.and_eq_true] at h2
    exact Nat.le_of_ble_eq_true h2.1.1.1.2
  · rw [h1]; omega
  · rw [h1]
  · unfold am_sz
    rw [h1]
theorem am_nth_big {α : Type} {l : List α} {k : Nat} {d : α} (h : l.length ≤ k) : am_nth l k d = d := by
  induction l generalizing k with
  | nil => cases k <;> rfl
  | cons x t ih =>
    cases k with
    | zero => simp at h
    | succ k => exact ih (by simpa using h)
theorem am_dec_lt {k r b i n : Nat} (h : am_dec k = ((r, b, i), n)) (hr : 16 ≤ r) : k < 128 := by
  rcases Nat.lt_or_ge k 128 with h1 | h1
  · exact h1
  · have h2 : am_dec k = ((0, 0, 0), 0) := am_nth_big (l := am_cells) h1
    rw [h] at h2
    cases h2
    omega
/-- what a new cell does to what is known of references -/
theorem am_AsOK_succ {n : Nat} {As : am_B} (hn : n < 128) (h : am_AsOK n As) (hz : (am_dec n).1.1 < 27 ∨ 34 ≤ (am_dec n).1.1 → ∀ s, s < (am_dec n).2 → As (am_dec n).1.1 (am_dec n).1.2.1 (am_dec n).1.2.2 s = false) : am_AsOK (n + 1) As := by
  intro q s' ho hr hs hA
  by_cases hq : am_ad q.1 q.2.1 q.2.2 < n
  · exact am_vr_mono (Nat.le_succ n) (h q s' ⟨ho.1, hq, ho.2.2⟩ hr hs hA)
  · have e : am_ad q.1 q.2.1 q.2.2 = n := by have := ho.2.1; omega
    have e2 := ho.2.2
    rw [e] at e2
    have hs2 : s' < (am_dec n).2 := by
      unfold am_sz at hs
      rw [e] at hs
      exact hs
    have := hz (by rw [e2]; exact hr) s' hs2
    rw [e2] at this
    rw [this] at hA
    cases hA
/-- the relation behind a new cell -/
theorem am_grow {H H1 : Heap} {locs : List Loc} {ls : Array Slot} {nL : Nat} {st' : List am_V} (r : am_rl g X0 s n0 nL L st me H locs ls) (hn : me.1 < 128) (hsz : H.size = g.1 + me.1) (z1 : H1.size = H.size + 1) (o1 : ∀ q : Nat, q < H.size → H1[q]? = H[q]?) (hnew : va_at g.2.2.2.1 vwCl (g.1 + me.1, am_ce g me.2.1 me.2.2 (am_dec me.1).1 (am_dec me.1).2) H1) (hz : (am_dec me.1).1.1 < 27 ∨ 34 ≤ (am_dec me.1).1.1 → ∀ s, s < (am_dec me.1).2 → me.2.1 (am_dec me.1).1.1 (am_dec me.1).1.2.1 (am_dec me.1).1.2.2 s = false) (hst : ∀ v ∈ st', am_vv (me.1 + 1) v) : am_rl g X0 s n0 nL L st' (me.1 + 1, me.2.1, me.2.2) H1 locs ls := by
  refine ⟨?_, ⟨?_, fun q h1 h2 => ?_, r.2.1.2.2⟩, r.2.2.1, r.2.2.2.1, fun q hq => am_vv_mono (Nat.le_succ _) (r.2.2.2.2.1 q hq), hst, ?_, hn, am_AsOK_succ hn r.2.2.2.2.2.2.2.2.1 hz, r.2.2.2.2.2.2.2.2.2⟩
  · show va_P g.2.2.2.1 vwCl (am_ws g (me.1 + 1) me.2.1 me.2.2) H1
    rw [am_ws_succ]
    refine va_P.app (r.1.kept fun k q hq => o1 q.1 (r.1 k q hq).lt) fun k q hq => ?_
    have hk : k < 1 := (List.getElem?_eq_some_iff.mp hq).1
    rw [show k = 0 by omega] at hq
    cases hq
    exact hnew
  · have := r.2.1.1
    omega
  · rw [o1 q (Nat.lt_of_lt_of_le h1 r.2.1.1)]
    exact r.2.1.2.1 q h1 h2
  · have := r.2.2.2.2.2.2.1
    show n0 ≤ me.1 + 1
    omega
theorem am_z_new {z : Nat} (C : am_ctx g X0 p s m args meth c y n0) (hk : am_chk y (pc, ln, .new z, nx, a, b, v, ts, wi) = true) (h : am_s_new Cl nx a b v ts L st me N Q) (hB : ∀ ip L st me, N ip L st me → me.1 ≤ nF) (hRc : nF - n0 ≤ R.cells) (hRs : am_sl nF - am_sl n0 ≤ R.slots) (hN : ∀ ip L st me, N ip L st me → am_ok g X0 p l e R s m args below meth c Qf y n0 (am_pc y ip) L st me) : am_ok g X0 p l e R s m args below meth c Qf y n0 pc L st me := by
  have hk2 : (decide (decode (am_by y) pc = .ok (.new z, ln)) && (am_fx y pc ln nx 3 && Nat.ble 16 b && Nat.ble b 26 && am_word wi (.classLink (am_nm y).cls z (am_cT b).1))) = true := hk
  simp only [Bool.and_eq_true, decide_eq_true_eq] at hk2
  obtain ⟨hd, ⟨⟨hf, l1⟩, l2⟩, l4⟩ := hk2
  obtain ⟨hln, hx⟩ := am_fx_spec hf
  subst hln
  have l1 := Nat.le_of_ble_eq_true l1
  have l2 := Nat.le_of_ble_eq_true l2
  intro H locs ls r
  refine am_sized C r fun hsz => ?_
  unfold am_s_new at h
  cases hdc : am_dec me.1 with
  | mk q n =>
    obtain ⟨r1, bb, i⟩ := q
    rw [hdc] at h
    obtain ⟨h1, h2, h3, h⟩ := h
    have hrb := Nat.eq_of_beq_eq_true h1
    subst hrb
    have hle : me.1 + 1 ≤ nF := hB _ _ _ _ h
    have hlt : me.1 < 128 := am_dec_lt hdc (by omega)
    obtain ⟨ho, hs0⟩ := am_dec_own hlt
    rw [hdc] at ho hs0
    have hN1 := (am_own_facts (by omega) ho).2.1 (by show r1 < 27; omega)
    rw [hs0] at hN1
    have hN1 : n = (am_cT r1).2.2 := hN1
    have hcl := am_clc_all r1 (by omega) l1
    simp only [am_clc, Bool.and_eq_true] at hcl
    have hn0 := r.2.2.2.2.2.2.1
    have hsl : am_sl (me.1 + 1) = am_sl me.1 + n := by show am_sl me.1 + (am_dec me.1).2 = _; rw [hdc]
    have hmo := am_sl_mono hle
    have hmo2 := am_sl_mono hn0
    have hKn := (am_hK C).1 _ _ (am_vw l1 l2)
    obtain ⟨ty0, hty0⟩ := am_tyd l1 l2
    refine W.newcK C.1 C.2.1 (am_hown C) (am_hw C l4) (am_hw C hcl.1.2) (am_hw C hcl.2) rfl hd (by omega) (by omega) hKn.2.1 rfl fun H1 kC hkC e1 z1 o1 => ?_
    have hfv : ∀ j, j < (am_cT r1).2.2 → defaultValue (ty0 j) = vp_V ((List.range n).map (am_fv g me.2.1 me.2.2 r1 bb i)) j := by
      intro j hj
      have hft := am_ftk l1 l2 hj
      unfold am_ftc at hft
      rw [hty0 j hj] at hft
      unfold vp_V
      rw [List.getD_eq_getElem?_getD, am_nth_rng (by rw [hN1]; exact hj)]
      show defaultValue (ty0 j) = am_fv g me.2.1 me.2.2 r1 bb i j
      unfold am_fv
      have hM := am_zi_at h2 (by rw [hN1]; exact hj)
      have hA := am_zb_at h3 (by rw [hN1]; exact hj)
      cases hfk : am_fk (r1 - 16) j with
      | mk k1 f =>
        rw [hfk] at hft
        dsimp only at hft
        generalize ty0 j = t at hft
        rcases k1 with _ | _ | _ | k1
        · cases t <;> first | cases hft; done | (show Value.int 0 = Value.int _; rw [hM])
        · cases t <;> first | cases hft; done | (show Value.int 0 = Value.int _; rw [hM])
        · cases t <;> first | cases hft; done | (show Value.null = if me.2.1 r1 bb i j = true then _ else _; rw [if_neg (by rw [hA]; decide)])
        · cases t <;> cases hft
    have w := hN _ _ _ _ h H1 locs ls (am_grow r hlt hsz z1 o1 (by
      rw [hdc, am_ce_obj (q := (r1, bb, i)) (by show r1 < 27; omega), ← hsz]
      exact ⟨_, am_vw l1 l2, (u_born ty0 C.2.2.2.2.1 (am_uin l1 l2) hKn hkC e1 hty0).to hfv⟩) (fun _ s' hs' => by
      rw [hdc] at hs' ⊢
      exact am_zb_at h3 hs') (am_vc (v := .inr (.inr (r1, bb, i))) (Or.inr (Or.inr (Or.inr ho))) fun v hv => am_vv_mono (Nat.le_succ _) (r.stk v hv)))
    rw [hx, List.map_cons, am_v_own l1] at w
    have ea : am_a g (r1, bb, i) = H.size := by
      unfold am_a
      rw [if_neg (by show ¬ r1 < 16; omega), hsz]
      have := am_cell_ad hlt
      rw [hdc] at this
      exact congrArg (g.1 + ·) this
    rw [ea] at w
    have e3 : me.1 - n0 + 1 = me.1 + 1 - n0 := by omega
    have e4 : am_sl me.1 - am_sl n0 + (am_cT r1).2.2 = am_sl (me.1 + 1) - am_sl n0 := by omega
    rw [e3, e4]
    exact w
theorem am_arrV_congr {cA : ClassId} {n : Nat} {f f' : Nat → Value} (h : ∀ j, j < n → f j = f' j) : arrV cA n f = arrV cA n f' := by
  unfold arrV
  congr 2
  funext j
  exact h j.val j.isLt
set_option maxRecDepth 100000 in
theorem am_arrI : am_word 215 (Cond.arrayClass (newarray.typeOf .int)) = true := by decide +kernel
theorem am_z_newarray {z : ClassFile.ArrayType} (C : am_ctx g X0 p s m args meth c y n0) (hk : am_chk y (pc, ln, .newarray z, nx, a, b, v, ts, wi) = true) (h : am_s_newarray Cl nx a b v ts L st me N Q) (hB : ∀ ip L st me, N ip L st me → me.1 ≤ nF) (hRc : nF - n0 ≤ R.cells) (hRs : am_sl nF - am_sl n0 ≤ R.slots) (hN : ∀ ip L st me, N ip L st me → am_ok g X0 p l e R s m args below meth c Qf y n0 (am_pc y ip) L st me) : am_ok g X0 p l e R s m args below meth c Qf y n0 pc L st me := by
  have hk2 : (decide (decode (am_by y) pc = .ok (.newarray z, ln)) && (decide (z = .int) && am_fx y pc ln nx 2)) = true := hk
  simp only [Bool.and_eq_true, decide_eq_true_eq] at hk2
  obtain ⟨hd, hz, hf⟩ := hk2
  obtain ⟨hln, hx⟩ := am_fx_spec hf
  subst hln
  subst hz
  rcases st with _ | ⟨x1 | x1 | x1, st⟩ <;> try exact False.elim h
  intro H locs ls r
  refine am_sized C r fun hsz => ?_
  unfold am_s_newarray at h
  dsimp only at h
  cases hdc : am_dec me.1 with
  | mk q n =>
    obtain ⟨r1, bb, i⟩ := q
    rw [hdc] at h
    obtain ⟨h1, h2, h3, h4, h⟩ := h
    simp only [Bool.and_eq_true] at h1
    have l1 := Nat.le_of_ble_eq_true h1.1
    have l2 := Nat.le_of_ble_eq_true h1.2
    have hle : me.1 + 1 ≤ nF := hB _ _ _ _ h
    have hlt : me.1 < 128 := am_dec_lt hdc (by omega)
    obtain ⟨ho, hs0⟩ := am_dec_own hlt
    rw [hdc] at ho hs0
    have hn0 := r.2.2.2.2.2.2.1
    have hsl : am_sl (me.1 + 1) = am_sl me.1 + n := by show am_sl me.1 + (am_dec me.1).2 = _; rw [hdc]
    have hmo := am_sl_mono hle
    have hmo2 := am_sl_mono hn0
    have hn3 := am_small me.1 hlt
    rw [hdc] at hn3
    have hn3 : n ≤ 300 := hn3
    have harr : (Cond.arrayClass (newarray.typeOf .int)).before args s = true := am_hw C (i := 215) am_arrI
    refine va_newaK C.1 C.2.1 (atype := .int) harr rfl hd rfl h2 h3 (by show n * 4 ≤ 536870912; omega) (by omega) (by omega) rfl fun H1 cA e1 z1 o1 hAr hNm => ?_
    have hcA : cA = g.2.2.2.2 0 := by
      have hra := ((am_hK C).2 0 _ am_tysI).2
      exact Option.some.inj (hNm.symm.trans hra)
    subst hcA
    have w := hN _ _ _ _ h H1 locs ls (am_grow (st' := .inr (.inr (r1, bb, i)) :: st) r hlt hsz z1 o1 (by
      rw [hdc, am_ce_int (q := (r1, bb, i)) l1 l2, ← hsz]
      show H1[H.size]? = some (vp_cell _ _)
      rw [vp_cell_i, e1]
      congr 1
      exact am_arrV_congr fun j hj => by rw [am_zi_at h4 hj]; rfl) (fun hc => by
      rw [hdc] at hc
      have hc : r1 < 27 ∨ 34 ≤ r1 := hc
      omega) (am_vc (v := .inr (.inr (r1, bb, i))) (Or.inr (Or.inr (Or.inr ho))) fun v hv => am_vv_mono (Nat.le_succ _) (am_vt r.stk v hv)))
    rw [hx, List.map_cons, am_v_own (r := r1) (show 16 ≤ r1 by omega)] at w
    have ea : am_a g (r1, bb, i) = H.size := by
      unfold am_a
      rw [if_neg (by show ¬ r1 < 16; omega), hsz]
      have := am_cell_ad hlt
      rw [hdc] at this
      exact congrArg (g.1 + ·) this
    rw [ea] at w
    have e3 : me.1 - n0 + 1 = me.1 + 1 - n0 := by omega
    have e4 : am_sl me.1 - am_sl n0 + n = am_sl (me.1 + 1) - am_sl n0 := by omega
    rw [e3, e4]
    exact w
theorem am_z_anewarray {z : Nat} (C : am_ctx g X0 p s m args meth c y n0) (hk : am_chk y (pc, ln, .anewarray z, nx, a, b, v, ts, wi) = true) (h : am_s_anewarray Cl nx a b v ts L st me N Q) (hB : ∀ ip L st me, N ip L st me → me.1 ≤ nF) (hRc : nF - n0 ≤ R.cells) (hRs : am_sl nF - am_sl n0 ≤ R.slots) (hN : ∀ ip L st me, N ip L st me → am_ok g X0 p l e R s m args below meth c Qf y n0 (am_pc y ip) L st me) : am_ok g X0 p l e R s m args below meth c Qf y n0 pc L st me := by
  have hk2 : (decide (decode (am_by y) pc = .ok (.anewarray z, ln)) && (am_fx y pc ln nx 3 && Nat.ble 34 b && Nat.ble b 37 && am_word wi (.classLink (am_nm y).cls z (am_en b)))) = true := hk
  simp only [Bool.and_eq_true, decide_eq_true_eq] at hk2
  obtain ⟨hd, ⟨⟨hf, l1⟩, l2⟩, l4⟩ := hk2
  obtain ⟨hln, hx⟩ := am_fx_spec hf
  subst hln
  have l1 := Nat.le_of_ble_eq_true l1
  have l2 := Nat.le_of_ble_eq_true l2
  rcases st with _ | ⟨x1 | x1 | x1, st⟩ <;> try exact False.elim h
  intro H locs ls r
  refine am_sized C r fun hsz => ?_
  unfold am_s_anewarray at h
  dsimp only at h
  cases hdc : am_dec me.1 with
  | mk q n =>
    obtain ⟨r1, bb, i⟩ := q
    rw [hdc] at h
    obtain ⟨h1, h2, h3, h4, h⟩ := h
    have hrb := Nat.eq_of_beq_eq_true h1
    subst hrb
    have l1 : 34 ≤ r1 := l1
    have l2 : r1 ≤ 37 := l2
    have hle : me.1 + 1 ≤ nF := hB _ _ _ _ h
    have hlt : me.1 < 128 := am_dec_lt hdc (by omega)
    obtain ⟨ho, hs0⟩ := am_dec_own hlt
    rw [hdc] at ho hs0
    have hn0 := r.2.2.2.2.2.2.1
    have hsl : am_sl (me.1 + 1) = am_sl me.1 + n := by show am_sl me.1 + (am_dec me.1).2 = _; rw [hdc]
    have hmo := am_sl_mono hle
    have hmo2 := am_sl_mono hn0
    have hn3 := am_small me.1 hlt
    rw [hdc] at hn3
    have hn3 : n ≤ 300 := hn3
    have hover := C.2.2.2.2.2.1.2.2.2.2.2.2.2.2.2.1 r1 l1 l2
    refine W.anew C.1 C.2.1 (am_hown C) (am_hw C l4) (va_AO.use hover) rfl hd rfl h2 (by rw [h3]; omega) (by omega) (by rw [h3]; omega) fun cA kA comp f1 f2 f3 f4 => ?_
    have hcA : cA = g.2.2.2.2 (r1 - 33) := by
      obtain ⟨_, _, _, _, _, hra⟩ := ((am_hK C).2 _ _ (am_tysR l1 l2)).2
      exact Option.some.inj (f1.symm.trans hra)
    subst hcA
    rw [h3]
    generalize hH1 : H.push ({ cls := g.2.2.2.2 (r1 - 33), slots := Array.replicate n .null, vm := .none } : Cell) = H1
    have z1 : H1.size = H.size + 1 := by rw [← hH1, Array.size_push]
    have e1 : H1[H.size]? = some (arrV (g.2.2.2.2 (r1 - 33)) n (fun _ => .null)) := by rw [← hH1, Array.getElem?_push_size, ← arrV_new]
    have o1 : ∀ q : Nat, q < H.size → H1[q]? = H[q]? := fun q hq => by rw [← hH1, Array.getElem?_push, if_neg (Nat.ne_of_lt hq)]
    have w := hN _ _ _ _ h H1 locs ls (am_grow (st' := .inr (.inr (r1, bb, i)) :: st) r hlt hsz z1 o1 (by
      rw [hdc, am_ce_ref (q := (r1, bb, i)) l1, ← hsz]
      show H1[H.size]? = some (vp_cell _ _)
      rw [vp_cell_q, e1]
      congr 1
      exact am_arrV_congr fun j hj => by
        show Value.null = va_rf (if me.2.1 r1 bb i j = true then _ else none)
        rw [if_neg (by rw [am_zb_at h4 hj]; decide)]
        rfl) (fun _ s' hs' => by
      rw [hdc] at hs' ⊢
      exact am_zb_at h4 hs') (am_vc (v := .inr (.inr (r1, bb, i))) (Or.inr (Or.inr (Or.inr ho))) fun v hv => am_vv_mono (Nat.le_succ _) (am_vt r.stk v hv)))
    rw [hx, List.map_cons, am_v_own (r := r1) (show 16 ≤ r1 by omega)] at w
    have ea : am_a g (r1, bb, i) = H.size := by
      unfold am_a
      rw [if_neg (by show ¬ r1 < 16; omega), hsz]
      have := am_cell_ad hlt
      rw [hdc] at this
      exact congrArg (g.1 + ·) this
    rw [ea] at w
    have e3 : me.1 - n0 + 1 = me.1 + 1 - n0 := by omega
    have e4 : am_sl me.1 - am_sl n0 + n = am_sl (me.1 + 1) - am_sl n0 := by omega
    rw [e3, e4]
    exact w
theorem am_asg (vm : Vm) (cc : ClassId) : vm.assignable cc cc = true := by
  show vm.assignableAux _ cc cc = true
  unfold Vm.assignableAux
  simp
theorem am_z_aastore (C : am_ctx g X0 p s m args meth c y n0) (hk : am_chk y (pc, ln, .aastore, nx, a, b, v, ts, wi) = true) (h : am_s_aastore Cl nx a b v ts L st me N Q) (hN : ∀ ip L st me, N ip L st me → am_ok g X0 p l e R s m args below meth c Qf y n0 (am_pc y ip) L st me) : am_ok g X0 p l e R s m args below meth c Qf y n0 pc L st me := by
  obtain ⟨hd, hx⟩ := am_pre0 (k := 1) hk rfl
  unfold am_s_aastore at h
  rcases st with _ | ⟨z1 | z1 | z1, _ | ⟨j1 | j1 | j1, _ | ⟨x1 | x1 | ⟨r1, bb, i⟩, st⟩⟩⟩ <;> try exact False.elim h
  dsimp only at h
  cases hb : (Nat.ble 34 r1 && Nat.ble r1 37) with
  | false => rw [hb] at h; exact False.elim h
  | true =>
    rw [hb] at h
    obtain ⟨l1, l2⟩ := am_b34 hb
    obtain ⟨hin, hq, h⟩ := h
    intro H locs ls r
    have ho := am_vr_own' (am_vh (am_vt (am_vt r.stk))) (by omega)
    have hfa := am_own_facts r.2.2.2.2.2.2.2.1 ho
    have hsz := hfa.2.2.1 (by show 27 ≤ r1; omega)
    have he := am_ws_at (g := g) (As := me.2.1) (M := me.2.2) ho
    rw [am_ce_ref (q := (r1, bb, i)) l1] at he
    have hj : j1.toNatClampNeg < am_sz (r1, bb, i) := by rw [hsz]; exact Nat.not_le.mp fun q => hin (Or.inr q)
    have htg : am_tg (r1, bb, i) j1.toNatClampNeg = (am_el r1, bb, j1.toNatClampNeg) := if_neg (by show ¬ r1 < 27; omega)
    have h5 := am_tok5 (hfa.2.2.2 (Or.inr l1) _ hj)
    rw [htg, ← hq] at h5
    have hvz : am_vr me.1 z1 := am_vh r.stk
    have hany : va_Any (am_en r1) s H (am_a g z1) := by
      by_cases h37 : r1 = 37
      · subst h37
        have hz3 : z1.1 = 3 := by rw [hq]; rfl
        have hzi : z1.2.2 < 2 := by
          rcases hvz with h | h | h | h
          · omega
          · exact h.2.2
          · omega
          · have := h.1; omega
        have ea : am_a g z1 = g.2.1 3 z1.2.2 := by
          unfold am_a
          rw [if_pos (by omega), hz3]
        rw [ea]
        obtain ⟨cell, g1, g2, g3, g4⟩ := (C.2.2.2.2.2.1.2.2.2.2.1.1 z1.2.2 hzi).1
        obtain ⟨kC, hkC, -⟩ := Vm.findClass_spec g3
        refine ⟨cell, ?_, g2, ⟨kC, hkC⟩, fun comp hcomp => ?_⟩
        · rw [r.2.1.2.1 _ (Array.getElem?_eq_some_iff.mp g1).1 g4]
          exact g1
        · cases g3.symm.trans hcomp
          exact am_asg _ _
      · have hz16 : 16 ≤ z1.1 ∧ z1.1 ≤ 26 ∧ (am_cT z1.1).1 = am_en r1 := by
          rw [hq]
          rcases (by omega : r1 = 34 ∨ r1 = 35 ∨ r1 = 36) with rfl | rfl | rfl
          · exact ⟨(by decide : 16 ≤ am_el 34), (by decide : am_el 34 ≤ 26), rfl⟩
          · exact ⟨(by decide : 16 ≤ am_el 35), (by decide : am_el 35 ≤ 26), rfl⟩
          · exact ⟨(by decide : 16 ≤ am_el 36), (by decide : am_el 36 ≤ 26), rfl⟩
        have hoz := am_vr_own hvz hz16.1
        have hez := am_ws_at (g := g) (As := me.2.1) (M := me.2.2) hoz
        rw [am_ce_obj (by omega)] at hez
        exact va_rAny (am_hK C) r.1 hez (am_vw hz16.1 hz16.2.1) fun comp c0 e1 e2 => by
          rw [← hz16.2.2] at e1
          cases e1.symm.trans e2
          exact am_asg _ _
    rw [List.map_cons, List.map_cons, List.map_cons, am_v_own (r := r1) (show 16 ≤ r1 by omega), show am_v g (.inr (.inr z1)) = .ref (am_a g z1) from if_neg h5]
    refine va_astqM C.1 C.2.1 (am_hK C) r.1 am_D r.2.1 _ _ he (am_tysR l1 l2) hany (by rw [hsz]; exact hin) hd fun H1 locs1 p1 _ p3 => ?_
    rw [am_ws_set (q := (r1, bb, i)) (As' := am_upB me.2.1 r1 bb i j1.toNatClampNeg) r.2.2.2.2.2.2.2.1 ho (fun q' k hq' => am_ce_congr (am_upB_ne (q := (r1, bb, i)) hq') rfl) (by rw [hq]; exact am_ce_astR (q := (r1, bb, i)) l1)] at p1
    have w := hN _ _ _ _ h H1 locs1 ls ⟨p1, p3, r.2.2.1, r.2.2.2.1, r.2.2.2.2.1, am_vt (am_vt (am_vt r.stk)), r.2.2.2.2.2.2.1, r.2.2.2.2.2.2.2.1, by
      intro q' s' hq' hr' hs' hA'
      by_cases hqq : q' = (r1, bb, i) ∧ s' = j1.toNatClampNeg
      · obtain ⟨rfl, rfl⟩ := hqq
        rw [htg, ← hq]
        exact hvz
      · refine r.2.2.2.2.2.2.2.2.1 q' s' hq' hr' hs' ?_
        unfold am_upB at hA'
        dsimp only at hA'
        rw [if_neg] at hA'
        · exact hA'
        · rintro ⟨e1, e2, e3, e4⟩
          exact hqq ⟨Prod.ext e1 (Prod.ext e2 e3), e4⟩, r.2.2.2.2.2.2.2.2.2⟩
    rw [hx] at w
    exact w
end AMJ
