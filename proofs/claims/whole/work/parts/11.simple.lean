section AMZ
variable {g : am_G} {X0 : Nat → Nat → Nat → Int32} {p : Program} {l : Launch} {e : Env} {R : Room} {s : State} {m : MethodId} {args : Array Value} {below : List Frame} {meth : Method} {c : Code} {Qf : State → Prop} {y n0 nF : Nat}
variable {Cl : Nat → List am_V → am_M → Option am_V → am_M → Prop} {nx a b : Nat} {v : Int32} {ts : List (Int32 × Nat)} {L : am_L} {st : List am_V} {me : am_M} {N : Nat → am_L → List am_V → am_M → Prop} {Q : Option am_V → am_M → Prop} {pc ln wi : Nat}
theorem am_vc {n : Nat} {v : am_V} {st : List am_V} (h1 : am_vv n v) (h2 : ∀ w ∈ st, am_vv n w) : ∀ w ∈ v :: st, am_vv n w := fun w hw => (List.mem_cons.mp hw).elim (fun e => e ▸ h1) (h2 w)
theorem am_vt {n : Nat} {v : am_V} {st : List am_V} (h2 : ∀ w ∈ v :: st, am_vv n w) : ∀ w ∈ st, am_vv n w := fun w hw => h2 w (List.mem_cons_of_mem _ hw)
theorem am_vh {n : Nat} {v : am_V} {st : List am_V} (h2 : ∀ w ∈ v :: st, am_vv n w) : am_vv n v := h2 v List.mem_cons_self
theorem am_z_iconst {z : Int} (C : am_ctx g X0 p s m args meth c y n0) (hk : am_chk y (pc, ln, .iconst z, nx, a, b, v, ts, wi) = true) (h : am_s_iconst Cl nx a b v ts L st me N Q) (hN : ∀ ip L st me, N ip L st me → am_ok g X0 p l e R s m args below meth c Qf y n0 (am_pc y ip) L st me) : am_ok g X0 p l e R s m args below meth c Qf y n0 pc L st me := by
  obtain ⟨hd, hx, hr⟩ := am_pre (k := 1) hk rfl
  intro H locs ls r
  refine lv_iconst C.1 C.2.1 hd (of_decide_eq_true hr) ?_
  have w := hN _ _ _ _ h H locs ls (r.st (am_vc trivial r.stk))
  rw [hx] at w
  exact w
theorem am_z_bipush {z : Int} (C : am_ctx g X0 p s m args meth c y n0) (hk : am_chk y (pc, ln, .bipush z, nx, a, b, v, ts, wi) = true) (h : am_s_bipush Cl nx a b v ts L st me N Q) (hN : ∀ ip L st me, N ip L st me → am_ok g X0 p l e R s m args below meth c Qf y n0 (am_pc y ip) L st me) : am_ok g X0 p l e R s m args below meth c Qf y n0 pc L st me := by
  obtain ⟨hd, hx, hr⟩ := am_pre (k := 2) hk rfl
  intro H locs ls r
  refine lv_bipush C.1 C.2.1 hd (of_decide_eq_true hr) ?_
  have w := hN _ _ _ _ h H locs ls (r.st (am_vc trivial r.stk))
  rw [hx] at w
  exact w
theorem am_z_sipush {z : Int} (C : am_ctx g X0 p s m args meth c y n0) (hk : am_chk y (pc, ln, .sipush z, nx, a, b, v, ts, wi) = true) (h : am_s_sipush Cl nx a b v ts L st me N Q) (hN : ∀ ip L st me, N ip L st me → am_ok g X0 p l e R s m args below meth c Qf y n0 (am_pc y ip) L st me) : am_ok g X0 p l e R s m args below meth c Qf y n0 pc L st me := by
  obtain ⟨hd, hx, hr⟩ := am_pre (k := 3) hk rfl
  intro H locs ls r
  refine lv_sipush C.1 C.2.1 hd (of_decide_eq_true hr) ?_
  have w := hN _ _ _ _ h H locs ls (r.st (am_vc trivial r.stk))
  rw [hx] at w
  exact w
theorem am_z_iadd (C : am_ctx g X0 p s m args meth c y n0) (hk : am_chk y (pc, ln, .iadd, nx, a, b, v, ts, wi) = true) (h : am_s_iadd Cl nx a b v ts L st me N Q) (hN : ∀ ip L st me, N ip L st me → am_ok g X0 p l e R s m args below meth c Qf y n0 (am_pc y ip) L st me) : am_ok g X0 p l e R s m args below meth c Qf y n0 pc L st me := by
  obtain ⟨hd, hx⟩ := am_pre0 (k := 1) hk rfl
  rcases st with _ | ⟨y1 | y1 | y1, _ | ⟨x1 | x1 | x1, st⟩⟩ <;> try exact False.elim h
  intro H locs ls r
  refine lv_iadd C.1 C.2.1 hd ?_
  have w := hN _ _ _ _ h H locs ls (r.st (am_vc trivial (am_vt (am_vt r.stk))))
  rw [hx] at w
  exact w
theorem am_z_isub (C : am_ctx g X0 p s m args meth c y n0) (hk : am_chk y (pc, ln, .isub, nx, a, b, v, ts, wi) = true) (h : am_s_isub Cl nx a b v ts L st me N Q) (hN : ∀ ip L st me, N ip L st me → am_ok g X0 p l e R s m args below meth c Qf y n0 (am_pc y ip) L st me) : am_ok g X0 p l e R s m args below meth c Qf y n0 pc L st me := by
  obtain ⟨hd, hx⟩ := am_pre0 (k := 1) hk rfl
  rcases st with _ | ⟨y1 | y1 | y1, _ | ⟨x1 | x1 | x1, st⟩⟩ <;> try exact False.elim h
  intro H locs ls r
  refine lv_isub C.1 C.2.1 hd ?_
  have w := hN _ _ _ _ h H locs ls (r.st (am_vc trivial (am_vt (am_vt r.stk))))
  rw [hx] at w
  exact w
theorem am_z_imul (C : am_ctx g X0 p s m args meth c y n0) (hk : am_chk y (pc, ln, .imul, nx, a, b, v, ts, wi) = true) (h : am_s_imul Cl nx a b v ts L st me N Q) (hN : ∀ ip L st me, N ip L st me → am_ok g X0 p l e R s m args below meth c Qf y n0 (am_pc y ip) L st me) : am_ok g X0 p l e R s m args below meth c Qf y n0 pc L st me := by
  obtain ⟨hd, hx⟩ := am_pre0 (k := 1) hk rfl
  rcases st with _ | ⟨y1 | y1 | y1, _ | ⟨x1 | x1 | x1, st⟩⟩ <;> try exact False.elim h
  intro H locs ls r
  refine lv_imul C.1 C.2.1 hd ?_
  have w := hN _ _ _ _ h H locs ls (r.st (am_vc trivial (am_vt (am_vt r.stk))))
  rw [hx] at w
  exact w
theorem am_z_iand (C : am_ctx g X0 p s m args meth c y n0) (hk : am_chk y (pc, ln, .iand, nx, a, b, v, ts, wi) = true) (h : am_s_iand Cl nx a b v ts L st me N Q) (hN : ∀ ip L st me, N ip L st me → am_ok g X0 p l e R s m args below meth c Qf y n0 (am_pc y ip) L st me) : am_ok g X0 p l e R s m args below meth c Qf y n0 pc L st me := by
  obtain ⟨hd, hx⟩ := am_pre0 (k := 1) hk rfl
  rcases st with _ | ⟨y1 | y1 | y1, _ | ⟨x1 | x1 | x1, st⟩⟩ <;> try exact False.elim h
  intro H locs ls r
  refine lv_iand C.1 C.2.1 hd ?_
  have w := hN _ _ _ _ h H locs ls (r.st (am_vc trivial (am_vt (am_vt r.stk))))
  rw [hx] at w
  exact w
theorem am_z_ior (C : am_ctx g X0 p s m args meth c y n0) (hk : am_chk y (pc, ln, .ior, nx, a, b, v, ts, wi) = true) (h : am_s_ior Cl nx a b v ts L st me N Q) (hN : ∀ ip L st me, N ip L st me → am_ok g X0 p l e R s m args below meth c Qf y n0 (am_pc y ip) L st me) : am_ok g X0 p l e R s m args below meth c Qf y n0 pc L st me := by
  obtain ⟨hd, hx⟩ := am_pre0 (k := 1) hk rfl
  rcases st with _ | ⟨y1 | y1 | y1, _ | ⟨x1 | x1 | x1, st⟩⟩ <;> try exact False.elim h
  intro H locs ls r
  refine lv_ior C.1 C.2.1 hd ?_
  have w := hN _ _ _ _ h H locs ls (r.st (am_vc trivial (am_vt (am_vt r.stk))))
  rw [hx] at w
  exact w
theorem am_z_ixor (C : am_ctx g X0 p s m args meth c y n0) (hk : am_chk y (pc, ln, .ixor, nx, a, b, v, ts, wi) = true) (h : am_s_ixor Cl nx a b v ts L st me N Q) (hN : ∀ ip L st me, N ip L st me → am_ok g X0 p l e R s m args below meth c Qf y n0 (am_pc y ip) L st me) : am_ok g X0 p l e R s m args below meth c Qf y n0 pc L st me := by
  obtain ⟨hd, hx⟩ := am_pre0 (k := 1) hk rfl
  rcases st with _ | ⟨y1 | y1 | y1, _ | ⟨x1 | x1 | x1, st⟩⟩ <;> try exact False.elim h
  intro H locs ls r
  refine lv_ixor C.1 C.2.1 hd ?_
  have w := hN _ _ _ _ h H locs ls (r.st (am_vc trivial (am_vt (am_vt r.stk))))
  rw [hx] at w
  exact w
theorem am_z_ishl (C : am_ctx g X0 p s m args meth c y n0) (hk : am_chk y (pc, ln, .ishl, nx, a, b, v, ts, wi) = true) (h : am_s_ishl Cl nx a b v ts L st me N Q) (hN : ∀ ip L st me, N ip L st me → am_ok g X0 p l e R s m args below meth c Qf y n0 (am_pc y ip) L st me) : am_ok g X0 p l e R s m args below meth c Qf y n0 pc L st me := by
  obtain ⟨hd, hx⟩ := am_pre0 (k := 1) hk rfl
  rcases st with _ | ⟨y1 | y1 | y1, _ | ⟨x1 | x1 | x1, st⟩⟩ <;> try exact False.elim h
  intro H locs ls r
  refine lv_ishl C.1 C.2.1 hd ?_
  have w := hN _ _ _ _ h H locs ls (r.st (am_vc trivial (am_vt (am_vt r.stk))))
  rw [hx] at w
  exact w
theorem am_z_ishr (C : am_ctx g X0 p s m args meth c y n0) (hk : am_chk y (pc, ln, .ishr, nx, a, b, v, ts, wi) = true) (h : am_s_ishr Cl nx a b v ts L st me N Q) (hN : ∀ ip L st me, N ip L st me → am_ok g X0 p l e R s m args below meth c Qf y n0 (am_pc y ip) L st me) : am_ok g X0 p l e R s m args below meth c Qf y n0 pc L st me := by
  obtain ⟨hd, hx⟩ := am_pre0 (k := 1) hk rfl
  rcases st with _ | ⟨y1 | y1 | y1, _ | ⟨x1 | x1 | x1, st⟩⟩ <;> try exact False.elim h
  intro H locs ls r
  refine lv_ishr C.1 C.2.1 hd ?_
  have w := hN _ _ _ _ h H locs ls (r.st (am_vc trivial (am_vt (am_vt r.stk))))
  rw [hx] at w
  exact w
theorem am_z_idiv (C : am_ctx g X0 p s m args meth c y n0) (hk : am_chk y (pc, ln, .idiv, nx, a, b, v, ts, wi) = true) (h : am_s_idiv Cl nx a b v ts L st me N Q) (hN : ∀ ip L st me, N ip L st me → am_ok g X0 p l e R s m args below meth c Qf y n0 (am_pc y ip) L st me) : am_ok g X0 p l e R s m args below meth c Qf y n0 pc L st me := by
  obtain ⟨hd, hx⟩ := am_pre0 (k := 1) hk rfl
  rcases st with _ | ⟨y1 | y1 | y1, _ | ⟨x1 | x1 | x1, st⟩⟩ <;> try exact False.elim h
  intro H locs ls r
  obtain ⟨h0, h⟩ := h
  refine lv_idiv C.1 C.2.1 hd h0 ?_
  have w := hN _ _ _ _ h H locs ls (r.st (am_vc trivial (am_vt (am_vt r.stk))))
  rw [hx] at w
  exact w
theorem am_z_irem (C : am_ctx g X0 p s m args meth c y n0) (hk : am_chk y (pc, ln, .irem, nx, a, b, v, ts, wi) = true) (h : am_s_irem Cl nx a b v ts L st me N Q) (hN : ∀ ip L st me, N ip L st me → am_ok g X0 p l e R s m args below meth c Qf y n0 (am_pc y ip) L st me) : am_ok g X0 p l e R s m args below meth c Qf y n0 pc L st me := by
  obtain ⟨hd, hx⟩ := am_pre0 (k := 1) hk rfl
  rcases st with _ | ⟨y1 | y1 | y1, _ | ⟨x1 | x1 | x1, st⟩⟩ <;> try exact False.elim h
  intro H locs ls r
  obtain ⟨h0, h⟩ := h
  refine lv_irem C.1 C.2.1 hd h0 ?_
  have w := hN _ _ _ _ h H locs ls (r.st (am_vc trivial (am_vt (am_vt r.stk))))
  rw [hx] at w
  exact w
theorem am_z_iushr (C : am_ctx g X0 p s m args meth c y n0) (hk : am_chk y (pc, ln, .iushr, nx, a, b, v, ts, wi) = true) (h : am_s_iushr Cl nx a b v ts L st me N Q) (hN : ∀ ip L st me, N ip L st me → am_ok g X0 p l e R s m args below meth c Qf y n0 (am_pc y ip) L st me) : am_ok g X0 p l e R s m args below meth c Qf y n0 pc L st me := by
  obtain ⟨hd, hx⟩ := am_pre0 (k := 1) hk rfl
  rcases st with _ | ⟨y1 | y1 | y1, _ | ⟨x1 | x1 | x1, st⟩⟩ <;> try exact False.elim h
  intro H locs ls r
  refine lv_iushr C.1 C.2.1 hd rfl ?_
  have w := hN _ _ _ _ h H locs ls (r.st (am_vc trivial (am_vt (am_vt r.stk))))
  rw [hx] at w
  exact w
theorem am_z_ladd (C : am_ctx g X0 p s m args meth c y n0) (hk : am_chk y (pc, ln, .ladd, nx, a, b, v, ts, wi) = true) (h : am_s_ladd Cl nx a b v ts L st me N Q) (hN : ∀ ip L st me, N ip L st me → am_ok g X0 p l e R s m args below meth c Qf y n0 (am_pc y ip) L st me) : am_ok g X0 p l e R s m args below meth c Qf y n0 pc L st me := by
  obtain ⟨hd, hx⟩ := am_pre0 (k := 1) hk rfl
  rcases st with _ | ⟨y1 | y1 | y1, _ | ⟨x1 | x1 | x1, st⟩⟩ <;> try exact False.elim h
  intro H locs ls r
  refine lv_ladd C.1 C.2.1 hd ?_
  have w := hN _ _ _ _ h H locs ls (r.st (am_vc trivial (am_vt (am_vt r.stk))))
  rw [hx] at w
  exact w
theorem am_z_land (C : am_ctx g X0 p s m args meth c y n0) (hk : am_chk y (pc, ln, .land, nx, a, b, v, ts, wi) = true) (h : am_s_land Cl nx a b v ts L st me N Q) (hN : ∀ ip L st me, N ip L st me → am_ok g X0 p l e R s m args below meth c Qf y n0 (am_pc y ip) L st me) : am_ok g X0 p l e R s m args below meth c Qf y n0 pc L st me := by
  obtain ⟨hd, hx⟩ := am_pre0 (k := 1) hk rfl
  rcases st with _ | ⟨y1 | y1 | y1, _ | ⟨x1 | x1 | x1, st⟩⟩ <;> try exact False.elim h
  intro H locs ls r
  refine lv_land C.1 C.2.1 hd ?_
  have w := hN _ _ _ _ h H locs ls (r.st (am_vc trivial (am_vt (am_vt r.stk))))
  rw [hx] at w
  exact w
theorem am_z_lor (C : am_ctx g X0 p s m args meth c y n0) (hk : am_chk y (pc, ln, .lor, nx, a, b, v, ts, wi) = true) (h : am_s_lor Cl nx a b v ts L st me N Q) (hN : ∀ ip L st me, N ip L st me → am_ok g X0 p l e R s m args below meth c Qf y n0 (am_pc y ip) L st me) : am_ok g X0 p l e R s m args below meth c Qf y n0 pc L st me := by
  obtain ⟨hd, hx⟩ := am_pre0 (k := 1) hk rfl
  rcases st with _ | ⟨y1 | y1 | y1, _ | ⟨x1 | x1 | x1, st⟩⟩ <;> try exact False.elim h
  intro H locs ls r
  refine lv_lor C.1 C.2.1 hd ?_
  have w := hN _ _ _ _ h H locs ls (r.st (am_vc trivial (am_vt (am_vt r.stk))))
  rw [hx] at w
  exact w
theorem am_z_lshl (C : am_ctx g X0 p s m args meth c y n0) (hk : am_chk y (pc, ln, .lshl, nx, a, b, v, ts, wi) = true) (h : am_s_lshl Cl nx a b v ts L st me N Q) (hN : ∀ ip L st me, N ip L st me → am_ok g X0 p l e R s m args below meth c Qf y n0 (am_pc y ip) L st me) : am_ok g X0 p l e R s m args below meth c Qf y n0 pc L st me := by
  obtain ⟨hd, hx⟩ := am_pre0 (k := 1) hk rfl
  rcases st with _ | ⟨y1 | y1 | y1, _ | ⟨x1 | x1 | x1, st⟩⟩ <;> try exact False.elim h
  intro H locs ls r
  refine lv_lshl C.1 C.2.1 hd rfl ?_
  have w := hN _ _ _ _ h H locs ls (r.st (am_vc trivial (am_vt (am_vt r.stk))))
  rw [hx] at w
  exact w
theorem am_z_lshr (C : am_ctx g X0 p s m args meth c y n0) (hk : am_chk y (pc, ln, .lshr, nx, a, b, v, ts, wi) = true) (h : am_s_lshr Cl nx a b v ts L st me N Q) (hN : ∀ ip L st me, N ip L st me → am_ok g X0 p l e R s m args below meth c Qf y n0 (am_pc y ip) L st me) : am_ok g X0 p l e R s m args below meth c Qf y n0 pc L st me := by
  obtain ⟨hd, hx⟩ := am_pre0 (k := 1) hk rfl
  rcases st with _ | ⟨y1 | y1 | y1, _ | ⟨x1 | x1 | x1, st⟩⟩ <;> try exact False.elim h
  intro H locs ls r
  refine lv_lshr C.1 C.2.1 hd rfl ?_
  have w := hN _ _ _ _ h H locs ls (r.st (am_vc trivial (am_vt (am_vt r.stk))))
  rw [hx] at w
  exact w
theorem am_z_lushr (C : am_ctx g X0 p s m args meth c y n0) (hk : am_chk y (pc, ln, .lushr, nx, a, b, v, ts, wi) = true) (h : am_s_lushr Cl nx a b v ts L st me N Q) (hN : ∀ ip L st me, N ip L st me → am_ok g X0 p l e R s m args below meth c Qf y n0 (am_pc y ip) L st me) : am_ok g X0 p l e R s m args below meth c Qf y n0 pc L st me := by
  obtain ⟨hd, hx⟩ := am_pre0 (k := 1) hk rfl
  rcases st with _ | ⟨y1 | y1 | y1, _ | ⟨x1 | x1 | x1, st⟩⟩ <;> try exact False.elim h
  intro H locs ls r
  refine lv_lushr C.1 C.2.1 hd rfl ?_
  have w := hN _ _ _ _ h H locs ls (r.st (am_vc trivial (am_vt (am_vt r.stk))))
  rw [hx] at w
  exact w
theorem am_z_lcmp (C : am_ctx g X0 p s m args meth c y n0) (hk : am_chk y (pc, ln, .lcmp, nx, a, b, v, ts, wi) = true) (h : am_s_lcmp Cl nx a b v ts L st me N Q) (hN : ∀ ip L st me, N ip L st me → am_ok g X0 p l e R s m args below meth c Qf y n0 (am_pc y ip) L st me) : am_ok g X0 p l e R s m args below meth c Qf y n0 pc L st me := by
  obtain ⟨hd, hx⟩ := am_pre0 (k := 1) hk rfl
  rcases st with _ | ⟨y1 | y1 | y1, _ | ⟨x1 | x1 | x1, st⟩⟩ <;> try exact False.elim h
  intro H locs ls r
  refine W.lcmp C.1 C.2.1 hd ?_
  have w := hN _ _ _ _ h H locs ls (r.st (am_vc trivial (am_vt (am_vt r.stk))))
  rw [hx] at w
  exact w
theorem am_z_ineg (C : am_ctx g X0 p s m args meth c y n0) (hk : am_chk y (pc, ln, .ineg, nx, a, b, v, ts, wi) = true) (h : am_s_ineg Cl nx a b v ts L st me N Q) (hN : ∀ ip L st me, N ip L st me → am_ok g X0 p l e R s m args below meth c Qf y n0 (am_pc y ip) L st me) : am_ok g X0 p l e R s m args below meth c Qf y n0 pc L st me := by
  obtain ⟨hd, hx⟩ := am_pre0 (k := 1) hk rfl
  rcases st with _ | ⟨x1 | x1 | x1, st⟩ <;> try exact False.elim h
  intro H locs ls r
  refine lv_ineg C.1 C.2.1 hd ?_
  have w := hN _ _ _ _ h H locs ls (r.st (am_vc trivial (am_vt r.stk)))
  rw [hx] at w
  exact w
theorem am_z_i2l (C : am_ctx g X0 p s m args meth c y n0) (hk : am_chk y (pc, ln, .i2l, nx, a, b, v, ts, wi) = true) (h : am_s_i2l Cl nx a b v ts L st me N Q) (hN : ∀ ip L st me, N ip L st me → am_ok g X0 p l e R s m args below meth c Qf y n0 (am_pc y ip) L st me) : am_ok g X0 p l e R s m args below meth c Qf y n0 pc L st me := by
  obtain ⟨hd, hx⟩ := am_pre0 (k := 1) hk rfl
  rcases st with _ | ⟨x1 | x1 | x1, st⟩ <;> try exact False.elim h
  intro H locs ls r
  refine lv_i2l C.1 C.2.1 hd rfl ?_
  have w := hN _ _ _ _ h H locs ls (r.st (am_vc trivial (am_vt r.stk)))
  rw [hx] at w
  exact w
theorem am_z_l2i (C : am_ctx g X0 p s m args meth c y n0) (hk : am_chk y (pc, ln, .l2i, nx, a, b, v, ts, wi) = true) (h : am_s_l2i Cl nx a b v ts L st me N Q) (hN : ∀ ip L st me, N ip L st me → am_ok g X0 p l e R s m args below meth c Qf y n0 (am_pc y ip) L st me) : am_ok g X0 p l e R s m args below meth c Qf y n0 pc L st me := by
  obtain ⟨hd, hx⟩ := am_pre0 (k := 1) hk rfl
  rcases st with _ | ⟨x1 | x1 | x1, st⟩ <;> try exact False.elim h
  intro H locs ls r
  refine lv_l2i C.1 C.2.1 hd rfl ?_
  have w := hN _ _ _ _ h H locs ls (r.st (am_vc trivial (am_vt r.stk)))
  rw [hx] at w
  exact w
theorem am_z_i2b (C : am_ctx g X0 p s m args meth c y n0) (hk : am_chk y (pc, ln, .i2b, nx, a, b, v, ts, wi) = true) (h : am_s_i2b Cl nx a b v ts L st me N Q) (hN : ∀ ip L st me, N ip L st me → am_ok g X0 p l e R s m args below meth c Qf y n0 (am_pc y ip) L st me) : am_ok g X0 p l e R s m args below meth c Qf y n0 pc L st me := by
  obtain ⟨hd, hx⟩ := am_pre0 (k := 1) hk rfl
  rcases st with _ | ⟨x1 | x1 | x1, st⟩ <;> try exact False.elim h
  intro H locs ls r
  refine lv_i2b C.1 C.2.1 hd rfl ?_
  have w := hN _ _ _ _ h H locs ls (r.st (am_vc trivial (am_vt r.stk)))
  rw [hx] at w
  exact w
theorem am_z_i2s (C : am_ctx g X0 p s m args meth c y n0) (hk : am_chk y (pc, ln, .i2s, nx, a, b, v, ts, wi) = true) (h : am_s_i2s Cl nx a b v ts L st me N Q) (hN : ∀ ip L st me, N ip L st me → am_ok g X0 p l e R s m args below meth c Qf y n0 (am_pc y ip) L st me) : am_ok g X0 p l e R s m args below meth c Qf y n0 pc L st me := by
  obtain ⟨hd, hx⟩ := am_pre0 (k := 1) hk rfl
  rcases st with _ | ⟨x1 | x1 | x1, st⟩ <;> try exact False.elim h
  intro H locs ls r
  refine lv_i2s C.1 C.2.1 hd rfl ?_
  have w := hN _ _ _ _ h H locs ls (r.st (am_vc trivial (am_vt r.stk)))
  rw [hx] at w
  exact w
theorem am_z_i2c (C : am_ctx g X0 p s m args meth c y n0) (hk : am_chk y (pc, ln, .i2c, nx, a, b, v, ts, wi) = true) (h : am_s_i2c Cl nx a b v ts L st me N Q) (hN : ∀ ip L st me, N ip L st me → am_ok g X0 p l e R s m args below meth c Qf y n0 (am_pc y ip) L st me) : am_ok g X0 p l e R s m args below meth c Qf y n0 pc L st me := by
  obtain ⟨hd, hx⟩ := am_pre0 (k := 1) hk rfl
  rcases st with _ | ⟨x1 | x1 | x1, st⟩ <;> try exact False.elim h
  intro H locs ls r
  refine lv_i2c C.1 C.2.1 hd rfl ?_
  have w := hN _ _ _ _ h H locs ls (r.st (am_vc trivial (am_vt r.stk)))
  rw [hx] at w
  exact w
theorem am_z_iload_n {z : Fin 4} (C : am_ctx g X0 p s m args meth c y n0) (hk : am_chk y (pc, ln, .iload_n z, nx, a, b, v, ts, wi) = true) (h : am_s_iload_n Cl nx a b v ts L st me N Q) (hN : ∀ ip L st me, N ip L st me → am_ok g X0 p l e R s m args below meth c Qf y n0 (am_pc y ip) L st me) : am_ok g X0 p l e R s m args below meth c Qf y n0 pc L st me := by
  obtain ⟨hd, hx, hr⟩ := am_pre (k := 1) hk rfl
  have hz := Nat.eq_of_beq_eq_true hr
  unfold am_s_iload_n at h
  cases hg : am_get L a with
  | none => rw [hg] at h; exact False.elim h
  | some w0 =>
    rw [hg] at h
    rcases w0 with x1 | x1 | x1 <;> try exact False.elim h
    intro H locs ls r
    have hl := am_has_get r.loc hg
    refine lv_iload_n C.1 C.2.1 hd rfl (hz ▸ hl) ?_
    have w := hN _ _ _ _ h H locs ls (r.st (am_vc trivial r.stk))
    rw [hx] at w
    exact w
theorem am_z_iload {z : Nat} (C : am_ctx g X0 p s m args meth c y n0) (hk : am_chk y (pc, ln, .iload z, nx, a, b, v, ts, wi) = true) (h : am_s_iload Cl nx a b v ts L st me N Q) (hN : ∀ ip L st me, N ip L st me → am_ok g X0 p l e R s m args below meth c Qf y n0 (am_pc y ip) L st me) : am_ok g X0 p l e R s m args below meth c Qf y n0 pc L st me := by
  obtain ⟨hd, hx, hr⟩ := am_pre (k := 2) hk rfl
  have hz := Nat.eq_of_beq_eq_true hr
  unfold am_s_iload at h
  cases hg : am_get L a with
  | none => rw [hg] at h; exact False.elim h
  | some w0 =>
    rw [hg] at h
    rcases w0 with x1 | x1 | x1 <;> try exact False.elim h
    intro H locs ls r
    have hl := am_has_get r.loc hg
    refine lv_iload C.1 C.2.1 hd (hz ▸ hl) ?_
    have w := hN _ _ _ _ h H locs ls (r.st (am_vc trivial r.stk))
    rw [hx] at w
    exact w
theorem am_z_lload_n {z : Fin 4} (C : am_ctx g X0 p s m args meth c y n0) (hk : am_chk y (pc, ln, .lload_n z, nx, a, b, v, ts, wi) = true) (h : am_s_lload_n Cl nx a b v ts L st me N Q) (hN : ∀ ip L st me, N ip L st me → am_ok g X0 p l e R s m args below meth c Qf y n0 (am_pc y ip) L st me) : am_ok g X0 p l e R s m args below meth c Qf y n0 pc L st me := by
  obtain ⟨hd, hx, hr⟩ := am_pre (k := 1) hk rfl
  have hz := Nat.eq_of_beq_eq_true hr
  unfold am_s_lload_n at h
  cases hg : am_get L a with
  | none => rw [hg] at h; exact False.elim h
  | some w0 =>
    rw [hg] at h
    rcases w0 with x1 | x1 | x1 <;> try exact False.elim h
    intro H locs ls r
    have hl := am_has_get r.loc hg
    refine lv_lload_n C.1 C.2.1 hd rfl (hz ▸ hl) ?_
    have w := hN _ _ _ _ h H locs ls (r.st (am_vc trivial r.stk))
    rw [hx] at w
    exact w
theorem am_z_aload_n {z : Fin 4} (C : am_ctx g X0 p s m args meth c y n0) (hk : am_chk y (pc, ln, .aload_n z, nx, a, b, v, ts, wi) = true) (h : am_s_aload_n Cl nx a b v ts L st me N Q) (hN : ∀ ip L st me, N ip L st me → am_ok g X0 p l e R s m args below meth c Qf y n0 (am_pc y ip) L st me) : am_ok g X0 p l e R s m args below meth c Qf y n0 pc L st me := by
  obtain ⟨hd, hx, hr⟩ := am_pre (k := 1) hk rfl
  have hz := Nat.eq_of_beq_eq_true hr
  unfold am_s_aload_n at h
  cases hg : am_get L a with
  | none => rw [hg] at h; exact False.elim h
  | some w0 =>
    rw [hg] at h
    rcases w0 with x1 | x1 | ⟨r1, q1⟩ <;> try exact False.elim h
    dsimp only at h
    cases hb : Nat.beq r1 5 with
    | true => rw [hb] at h; exact False.elim h
    | false =>
      rw [hb] at h
      have h5 : ¬ r1 = 5 := fun he => by rw [he] at hb; cases hb
      intro H locs ls r
      have hl := am_has_get r.loc hg
      have hv : am_v g (.inr (.inr (r1, q1))) = .ref (am_a g (r1, q1)) := if_neg h5
      rw [hv] at hl
      refine lv_aload_n C.1 C.2.1 hd rfl (hz ▸ hl) ?_
      have w := hN _ _ _ _ h H locs ls (r.st (am_vc (r.2.2.2.2.1 _ (am_get_mem hg)) r.stk))
      rw [hx, List.map_cons, hv] at w
      exact w
theorem am_z_aload {z : Nat} (C : am_ctx g X0 p s m args meth c y n0) (hk : am_chk y (pc, ln, .aload z, nx, a, b, v, ts, wi) = true) (h : am_s_aload Cl nx a b v ts L st me N Q) (hN : ∀ ip L st me, N ip L st me → am_ok g X0 p l e R s m args below meth c Qf y n0 (am_pc y ip) L st me) : am_ok g X0 p l e R s m args below meth c Qf y n0 pc L st me := by
  obtain ⟨hd, hx, hr⟩ := am_pre (k := 2) hk rfl
  have hz := Nat.eq_of_beq_eq_true hr
  unfold am_s_aload at h
  cases hg : am_get L a with
  | none => rw [hg] at h; exact False.elim h
  | some w0 =>
    rw [hg] at h
    rcases w0 with x1 | x1 | ⟨r1, q1⟩ <;> try exact False.elim h
    dsimp only at h
    cases hb : Nat.beq r1 5 with
    | true => rw [hb] at h; exact False.elim h
    | false =>
      rw [hb] at h
      have h5 : ¬ r1 = 5 := fun he => by rw [he] at hb; cases hb
      intro H locs ls r
      have hl := am_has_get r.loc hg
      have hv : am_v g (.inr (.inr (r1, q1))) = .ref (am_a g (r1, q1)) := if_neg h5
      rw [hv] at hl
      refine lv_aload C.1 C.2.1 hd (hz ▸ hl) ?_
      have w := hN _ _ _ _ h H locs ls (r.st (am_vc (r.2.2.2.2.1 _ (am_get_mem hg)) r.stk))
      rw [hx, List.map_cons, hv] at w
      exact w
theorem am_z_istore_n {z : Fin 4} (C : am_ctx g X0 p s m args meth c y n0) (hk : am_chk y (pc, ln, .istore_n z, nx, a, b, v, ts, wi) = true) (h : am_s_istore_n Cl nx a b v ts L st me N Q) (hN : ∀ ip L st me, N ip L st me → am_ok g X0 p l e R s m args below meth c Qf y n0 (am_pc y ip) L st me) : am_ok g X0 p l e R s m args below meth c Qf y n0 pc L st me := by
  have hk2 : (decide (decode (am_by y) pc = .ok (.istore_n z, ln)) && (am_fx y pc ln nx 1 && Nat.beq z.val a && Nat.blt a (am_ml y))) = true := hk
  simp only [Bool.and_eq_true, decide_eq_true_eq] at hk2
  obtain ⟨hd, ⟨hf, hz⟩, hm⟩ := hk2
  obtain ⟨hln, hx⟩ := am_fx_spec hf
  subst hln
  have hz := Nat.eq_of_beq_eq_true hz
  have hm : a < am_ml y := by simpa [Nat.blt_eq] using hm
  unfold am_s_istore_n at h
  rcases st with _ | ⟨x1 | x1 | x1, st⟩ <;> try exact False.elim h
  dsimp only at h
  cases hs : am_set L a (.inl x1) with
  | none => rw [hs] at h; exact False.elim h
  | some L' =>
    rw [hs] at h
    intro H locs ls r
    have hcat := C.2.2.2.2.2.1.2.2.2.2.2.2.2.2.2.2
    have hw := am_noclash hcat r.loc
    refine lv_istore_n C.1 C.2.1 hd rfl r.loc (by rw [hz]; exact hm) rfl (fun ls' hl' => ?_)
    have w := hN _ _ _ _ h H locs ls' ⟨r.1, r.2.1, am_has_set hcat (by rw [← hz]; rfl) hl' hs r.2.2.2.1 hw, (am_set_mem hs r.2.2.2.1 hw).2.1, am_set_vv hs r.2.2.2.1 hw trivial r.2.2.2.2.1, am_vt r.stk, r.2.2.2.2.2.2⟩
    rw [hx] at w
    exact w
theorem am_z_istore {z : Nat} (C : am_ctx g X0 p s m args meth c y n0) (hk : am_chk y (pc, ln, .istore z, nx, a, b, v, ts, wi) = true) (h : am_s_istore Cl nx a b v ts L st me N Q) (hN : ∀ ip L st me, N ip L st me → am_ok g X0 p l e R s m args below meth c Qf y n0 (am_pc y ip) L st me) : am_ok g X0 p l e R s m args below meth c Qf y n0 pc L st me := by
  have hk2 : (decide (decode (am_by y) pc = .ok (.istore z, ln)) && (am_fx y pc ln nx 2 && Nat.beq z a && Nat.blt a (am_ml y))) = true := hk
  simp only [Bool.and_eq_true, decide_eq_true_eq] at hk2
  obtain ⟨hd, ⟨hf, hz⟩, hm⟩ := hk2
  obtain ⟨hln, hx⟩ := am_fx_spec hf
  subst hln
  have hz := Nat.eq_of_beq_eq_true hz
  have hm : a < am_ml y := by simpa [Nat.blt_eq] using hm
  unfold am_s_istore at h
  rcases st with _ | ⟨x1 | x1 | x1, st⟩ <;> try exact False.elim h
  dsimp only at h
  cases hs : am_set L a (.inl x1) with
  | none => rw [hs] at h; exact False.elim h
  | some L' =>
    rw [hs] at h
    intro H locs ls r
    have hcat := C.2.2.2.2.2.1.2.2.2.2.2.2.2.2.2.2
    have hw := am_noclash hcat r.loc
    refine lv_istore C.1 C.2.1 hd r.loc (by rw [hz]; exact hm) rfl (fun ls' hl' => ?_)
    have w := hN _ _ _ _ h H locs ls' ⟨r.1, r.2.1, am_has_set hcat (by rw [← hz]; rfl) hl' hs r.2.2.2.1 hw, (am_set_mem hs r.2.2.2.1 hw).2.1, am_set_vv hs r.2.2.2.1 hw trivial r.2.2.2.2.1, am_vt r.stk, r.2.2.2.2.2.2⟩
    rw [hx] at w
    exact w
theorem am_z_astore_n {z : Fin 4} (C : am_ctx g X0 p s m args meth c y n0) (hk : am_chk y (pc, ln, .astore_n z, nx, a, b, v, ts, wi) = true) (h : am_s_astore_n Cl nx a b v ts L st me N Q) (hN : ∀ ip L st me, N ip L st me → am_ok g X0 p l e R s m args below meth c Qf y n0 (am_pc y ip) L st me) : am_ok g X0 p l e R s m args below meth c Qf y n0 pc L st me := by
  have hk2 : (decide (decode (am_by y) pc = .ok (.astore_n z, ln)) && (am_fx y pc ln nx 1 && Nat.beq z.val a && Nat.blt a (am_ml y))) = true := hk
  simp only [Bool.and_eq_true, decide_eq_true_eq] at hk2
  obtain ⟨hd, ⟨hf, hz⟩, hm⟩ := hk2
  obtain ⟨hln, hx⟩ := am_fx_spec hf
  subst hln
  have hz := Nat.eq_of_beq_eq_true hz
  have hm : a < am_ml y := by simpa [Nat.blt_eq] using hm
  unfold am_s_astore_n at h
  rcases st with _ | ⟨x1 | x1 | ⟨r1, q1⟩, st⟩ <;> try exact False.elim h
  dsimp only at h
  cases hb : Nat.beq r1 5 with
  | true => rw [hb] at h; exact False.elim h
  | false =>
    rw [hb] at h
    dsimp only at h
    have h5 : ¬ r1 = 5 := fun he => by rw [he] at hb; cases hb
    have hv : am_v g (.inr (.inr (r1, q1))) = .ref (am_a g (r1, q1)) := if_neg h5
    cases hs : am_set L a (.inr (.inr (r1, q1))) with
    | none => rw [hs] at h; exact False.elim h
    | some L' =>
      rw [hs] at h
      intro H locs ls r
      have hcat := C.2.2.2.2.2.1.2.2.2.2.2.2.2.2.2.2
      have hw := am_noclash hcat r.loc
      rw [List.map_cons, hv]
      refine lv_astore_n C.1 C.2.1 hd rfl r.loc (by rw [hz]; exact hm) rfl (fun ls' hl' => ?_)
      have w := hN _ _ _ _ h H locs ls' ⟨r.1, r.2.1, am_has_set hcat (by rw [← hz, hv]) hl' hs r.2.2.2.1 hw, (am_set_mem hs r.2.2.2.1 hw).2.1, am_set_vv hs r.2.2.2.1 hw (am_vh r.stk) r.2.2.2.2.1, am_vt r.stk, r.2.2.2.2.2.2⟩
      rw [hx] at w
      exact w
theorem am_z_astore {z : Nat} (C : am_ctx g X0 p s m args meth c y n0) (hk : am_chk y (pc, ln, .astore z, nx, a, b, v, ts, wi) = true) (h : am_s_astore Cl nx a b v ts L st me N Q) (hN : ∀ ip L st me, N ip L st me → am_ok g X0 p l e R s m args below meth c Qf y n0 (am_pc y ip) L st me) : am_ok g X0 p l e R s m args below meth c Qf y n0 pc L st me := by
  have hk2 : (decide (decode (am_by y) pc = .ok (.astore z, ln)) && (am_fx y pc ln nx 2 && Nat.beq z a && Nat.blt a (am_ml y))) = true := hk
  simp only [Bool.and_eq_true, decide_eq_true_eq] at hk2
  obtain ⟨hd, ⟨hf, hz⟩, hm⟩ := hk2
  obtain ⟨hln, hx⟩ := am_fx_spec hf
  subst hln
  have hz := Nat.eq_of_beq_eq_true hz
  have hm : a < am_ml y := by simpa [Nat.blt_eq] using hm
  unfold am_s_astore at h
  rcases st with _ | ⟨x1 | x1 | ⟨r1, q1⟩, st⟩ <;> try exact False.elim h
  dsimp only at h
  cases hb : Nat.beq r1 5 with
  | true => rw [hb] at h; exact False.elim h
  | false =>
    rw [hb] at h
    dsimp only at h
    have h5 : ¬ r1 = 5 := fun he => by rw [he] at hb; cases hb
    have hv : am_v g (.inr (.inr (r1, q1))) = .ref (am_a g (r1, q1)) := if_neg h5
    cases hs : am_set L a (.inr (.inr (r1, q1))) with
    | none => rw [hs] at h; exact False.elim h
    | some L' =>
      rw [hs] at h
      intro H locs ls r
      have hcat := C.2.2.2.2.2.1.2.2.2.2.2.2.2.2.2.2
      have hw := am_noclash hcat r.loc
      rw [List.map_cons, hv]
      refine lv_astore C.1 C.2.1 hd r.loc (by rw [hz]; exact hm) rfl (fun ls' hl' => ?_)
      have w := hN _ _ _ _ h H locs ls' ⟨r.1, r.2.1, am_has_set hcat (by rw [← hz, hv]) hl' hs r.2.2.2.1 hw, (am_set_mem hs r.2.2.2.1 hw).2.1, am_set_vv hs r.2.2.2.1 hw (am_vh r.stk) r.2.2.2.2.1, am_vt r.stk, r.2.2.2.2.2.2⟩
      rw [hx] at w
      exact w
theorem am_z_iinc {z1 : Nat} {z2 : Int} (C : am_ctx g X0 p s m args meth c y n0) (hk : am_chk y (pc, ln, .iinc z1 z2, nx, a, b, v, ts, wi) = true) (h : am_s_iinc Cl nx a b v ts L st me N Q) (hN : ∀ ip L st me, N ip L st me → am_ok g X0 p l e R s m args below meth c Qf y n0 (am_pc y ip) L st me) : am_ok g X0 p l e R s m args below meth c Qf y n0 pc L st me := by
  have hk2 : (decide (decode (am_by y) pc = .ok (.iinc z1 z2, ln)) && (am_fx y pc ln nx 3 && Nat.beq z1 a && Nat.blt a (am_ml y) && decide (Int32.ofInt z2 = v))) = true := hk
  simp only [Bool.and_eq_true, decide_eq_true_eq] at hk2
  obtain ⟨hd, ⟨⟨hf, hz⟩, hm⟩, hv⟩ := hk2
  obtain ⟨hln, hx⟩ := am_fx_spec hf
  subst hln
  have hz := Nat.eq_of_beq_eq_true hz
  subst hz
  have hm : z1 < am_ml y := by simpa [Nat.blt_eq] using hm
  unfold am_s_iinc at h
  cases hg : am_get L z1 with
  | none => rw [hg] at h; exact False.elim h
  | some w0 =>
    rw [hg] at h
    rcases w0 with x1 | x1 | x1 <;> try exact False.elim h
    dsimp only at h
    cases hs : am_set L z1 (.inl (x1 + v)) with
    | none => rw [hs] at h; exact False.elim h
    | some L' =>
      rw [hs] at h
      intro H locs ls r
      have hcat := C.2.2.2.2.2.1.2.2.2.2.2.2.2.2.2.2
      have hw := am_noclash hcat r.loc
      obtain ⟨k, hkk⟩ := List.getElem?_of_mem (List.mem_map_of_mem (f := fun q : Nat × am_V => (q.1, am_v g q.2)) (am_get_mem hg))
      refine lv_iinc (v := x1 + v) C.1 C.2.1 hd r.loc (k := k) hkk (by rw [hv]) hm rfl (fun ls' hl' => ?_)
      have w := hN _ _ _ _ h H locs ls' ⟨r.1, r.2.1, am_has_set hcat rfl hl' hs r.2.2.2.1 hw, (am_set_mem hs r.2.2.2.1 hw).2.1, am_set_vv hs r.2.2.2.1 hw trivial r.2.2.2.2.1, r.2.2.2.2.2⟩
      rw [hx] at w
      exact w
theorem am_cat1 {v : am_V} (hc : g.2.2.1.category = 1) (h : am_isL v = false) : (am_v g v).category = 1 := by
  rcases lv_cat (am_v g v) with h1 | h1
  · exact h1
  · rw [(am_isL_cat hc).mp h1] at h; cases h
theorem am_z_dup (C : am_ctx g X0 p s m args meth c y n0) (hk : am_chk y (pc, ln, .dup, nx, a, b, v, ts, wi) = true) (h : am_s_dup Cl nx a b v ts L st me N Q) (hN : ∀ ip L st me, N ip L st me → am_ok g X0 p l e R s m args below meth c Qf y n0 (am_pc y ip) L st me) : am_ok g X0 p l e R s m args below meth c Qf y n0 pc L st me := by
  obtain ⟨hd, hx⟩ := am_pre0 (k := 1) hk rfl
  have hcat := C.2.2.2.2.2.1.2.2.2.2.2.2.2.2.2.2
  rcases st with _ | ⟨x1 | x1 | x1, st⟩ <;> try exact False.elim h
  all_goals
    intro H locs ls r
    refine lv_dup C.1 C.2.1 hd (am_cat1 hcat rfl) ?_
    have w := hN _ _ _ _ h H locs ls (r.st (am_vc (am_vh r.stk) r.stk))
    rw [hx] at w
    exact w
theorem am_z_dup2 (C : am_ctx g X0 p s m args meth c y n0) (hk : am_chk y (pc, ln, .dup2, nx, a, b, v, ts, wi) = true) (h : am_s_dup2 Cl nx a b v ts L st me N Q) (hN : ∀ ip L st me, N ip L st me → am_ok g X0 p l e R s m args below meth c Qf y n0 (am_pc y ip) L st me) : am_ok g X0 p l e R s m args below meth c Qf y n0 pc L st me := by
  obtain ⟨hd, hx⟩ := am_pre0 (k := 1) hk rfl
  have hcat := C.2.2.2.2.2.1.2.2.2.2.2.2.2.2.2.2
  rcases st with _ | ⟨y1 | y1 | y1, _ | ⟨x1 | x1 | x1, st⟩⟩ <;> try exact False.elim h
  intro H locs ls r
  refine lv_dup2_11 C.1 C.2.1 hd rfl (am_cat1 (v := .inr (.inr x1)) hcat rfl) ?_
  have w := hN _ _ _ _ h H locs ls (r.st (am_vc (am_vh r.stk) (am_vc (am_vh (am_vt r.stk)) r.stk)))
  rw [hx] at w
  exact w
theorem am_z_pop (C : am_ctx g X0 p s m args meth c y n0) (hk : am_chk y (pc, ln, .pop, nx, a, b, v, ts, wi) = true) (h : am_s_pop Cl nx a b v ts L st me N Q) (hN : ∀ ip L st me, N ip L st me → am_ok g X0 p l e R s m args below meth c Qf y n0 (am_pc y ip) L st me) : am_ok g X0 p l e R s m args below meth c Qf y n0 pc L st me := by
  obtain ⟨hd, hx⟩ := am_pre0 (k := 1) hk rfl
  rcases st with _ | ⟨x1 | x1 | x1, st⟩ <;> try exact False.elim h
  intro H locs ls r
  refine lv_pop C.1 C.2.1 hd rfl ?_
  have w := hN _ _ _ _ h H locs ls (r.st (am_vt r.stk))
  rw [hx] at w
  exact w
theorem am_jp_spec {y pc a : Nat} {off : Int} (h : am_jp y pc off a = true) : (pc : Int) + off = (am_pc y a : Int) := of_decide_eq_true h
theorem am_z_ifCond {cn : ClassFile.Cond} {z : Int} (C : am_ctx g X0 p s m args meth c y n0) (hk : am_chk y (pc, ln, .ifCond cn z, nx, a, b, v, ts, wi) = true) (h : am_s_ifCond Cl nx a b v ts L st me N Q cn) (hN : ∀ ip L st me, N ip L st me → am_ok g X0 p l e R s m args below meth c Qf y n0 (am_pc y ip) L st me) : am_ok g X0 p l e R s m args below meth c Qf y n0 pc L st me := by
  obtain ⟨hd, hx, hr⟩ := am_pre (k := 3) hk rfl
  have ht := am_jp_spec hr
  rcases st with _ | ⟨x1 | x1 | x1, st⟩ <;> try exact False.elim h
  intro H locs ls r
  cases cn
  · have h : (if x1 = 0 then N a L st me else N nx L st me) := h
    refine lv_if_eq C.1 C.2.1 hd ht (fun hc => ?_) (fun hc => ?_)
    · rw [if_pos hc] at h
      exact hN _ _ _ _ h H locs ls (r.st (am_vt r.stk))
    · rw [if_neg hc] at h
      have w := hN _ _ _ _ h H locs ls (r.st (am_vt r.stk))
      rw [hx] at w
      exact w
  · have h : (if x1 ≠ 0 then N a L st me else N nx L st me) := h
    refine lv_if_ne C.1 C.2.1 hd ht (fun hc => ?_) (fun hc => ?_)
    · rw [if_pos hc] at h
      exact hN _ _ _ _ h H locs ls (r.st (am_vt r.stk))
    · rw [if_neg (fun z => z hc)] at h
      have w := hN _ _ _ _ h H locs ls (r.st (am_vt r.stk))
      rw [hx] at w
      exact w
  · have h : (if x1 < 0 then N a L st me else N nx L st me) := h
    refine lv_if_lt C.1 C.2.1 hd ht (fun hc => ?_) (fun hc => ?_)
    · rw [if_pos hc] at h
      exact hN _ _ _ _ h H locs ls (r.st (am_vt r.stk))
    · rw [if_neg hc] at h
      have w := hN _ _ _ _ h H locs ls (r.st (am_vt r.stk))
      rw [hx] at w
      exact w
  · have h : (if 0 ≤ x1 then N a L st me else N nx L st me) := h
    refine lv_if_ge C.1 C.2.1 hd ht (fun hc => ?_) (fun hc => ?_)
    · rw [if_pos hc] at h
      exact hN _ _ _ _ h H locs ls (r.st (am_vt r.stk))
    · rw [if_neg hc] at h
      have w := hN _ _ _ _ h H locs ls (r.st (am_vt r.stk))
      rw [hx] at w
      exact w
  · have h : (if 0 < x1 then N a L st me else N nx L st me) := h
    refine lv_if_gt C.1 C.2.1 hd ht (fun hc => ?_) (fun hc => ?_)
    · rw [if_pos hc] at h
      exact hN _ _ _ _ h H locs ls (r.st (am_vt r.stk))
    · rw [if_neg hc] at h
      have w := hN _ _ _ _ h H locs ls (r.st (am_vt r.stk))
      rw [hx] at w
      exact w
  · have h : (if x1 ≤ 0 then N a L st me else N nx L st me) := h
    refine lv_if_le C.1 C.2.1 hd ht (fun hc => ?_) (fun hc => ?_)
    · rw [if_pos hc] at h
      exact hN _ _ _ _ h H locs ls (r.st (am_vt r.stk))
    · rw [if_neg hc] at h
      have w := hN _ _ _ _ h H locs ls (r.st (am_vt r.stk))
      rw [hx] at w
      exact w
theorem am_z_if_icmp {cn : ClassFile.Cond} {z : Int} (C : am_ctx g X0 p s m args meth c y n0) (hk : am_chk y (pc, ln, .if_icmp cn z, nx, a, b, v, ts, wi) = true) (h : am_s_if_icmp Cl nx a b v ts L st me N Q cn) (hN : ∀ ip L st me, N ip L st me → am_ok g X0 p l e R s m args below meth c Qf y n0 (am_pc y ip) L st me) : am_ok g X0 p l e R s m args below meth c Qf y n0 pc L st me := by
  obtain ⟨hd, hx, hr⟩ := am_pre (k := 3) hk rfl
  have ht := am_jp_spec hr
  rcases st with _ | ⟨y1 | y1 | y1, _ | ⟨x1 | x1 | x1, st⟩⟩ <;> try exact False.elim h
  intro H locs ls r
  cases cn
  · have h : (if x1 = y1 then N a L st me else N nx L st me) := h
    refine lv_icmp_eq C.1 C.2.1 hd ht (fun hc => ?_) (fun hc => ?_)
    · rw [if_pos hc] at h
      exact hN _ _ _ _ h H locs ls (r.st (am_vt (am_vt r.stk)))
    · rw [if_neg hc] at h
      have w := hN _ _ _ _ h H locs ls (r.st (am_vt (am_vt r.stk)))
      rw [hx] at w
      exact w
  · have h : (if x1 ≠ y1 then N a L st me else N nx L st me) := h
    refine lv_icmp_ne C.1 C.2.1 hd ht (fun hc => ?_) (fun hc => ?_)
    · rw [if_pos hc] at h
      exact hN _ _ _ _ h H locs ls (r.st (am_vt (am_vt r.stk)))
    · rw [if_neg (fun z => z hc)] at h
      have w := hN _ _ _ _ h H locs ls (r.st (am_vt (am_vt r.stk)))
      rw [hx] at w
      exact w
  · have h : (if x1 < y1 then N a L st me else N nx L st me) := h
    refine lv_icmp_lt C.1 C.2.1 hd ht (fun hc => ?_) (fun hc => ?_)
    · rw [if_pos hc] at h
      exact hN _ _ _ _ h H locs ls (r.st (am_vt (am_vt r.stk)))
    · rw [if_neg hc] at h
      have w := hN _ _ _ _ h H locs ls (r.st (am_vt (am_vt r.stk)))
      rw [hx] at w
      exact w
  · have h : (if y1 ≤ x1 then N a L st me else N nx L st me) := h
    refine lv_icmp_ge C.1 C.2.1 hd ht (fun hc => ?_) (fun hc => ?_)
    · rw [if_pos hc] at h
      exact hN _ _ _ _ h H locs ls (r.st (am_vt (am_vt r.stk)))
    · rw [if_neg hc] at h
      have w := hN _ _ _ _ h H locs ls (r.st (am_vt (am_vt r.stk)))
      rw [hx] at w
      exact w
  · have h : (if y1 < x1 then N a L st me else N nx L st me) := h
    refine lv_icmp_gt C.1 C.2.1 hd ht (fun hc => ?_) (fun hc => ?_)
    · rw [if_pos hc] at h
      exact hN _ _ _ _ h H locs ls (r.st (am_vt (am_vt r.stk)))
    · rw [if_neg hc] at h
      have w := hN _ _ _ _ h H locs ls (r.st (am_vt (am_vt r.stk)))
      rw [hx] at w
      exact w
  · have h : (if x1 ≤ y1 then N a L st me else N nx L st me) := h
    refine lv_icmp_le C.1 C.2.1 hd ht (fun hc => ?_) (fun hc => ?_)
    · rw [if_pos hc] at h
      exact hN _ _ _ _ h H locs ls (r.st (am_vt (am_vt r.stk)))
    · rw [if_neg hc] at h
      have w := hN _ _ _ _ h H locs ls (r.st (am_vt (am_vt r.stk)))
      rw [hx] at w
      exact w
theorem am_z_goto {z : Int} (C : am_ctx g X0 p s m args meth c y n0) (hk : am_chk y (pc, ln, .goto z, nx, a, b, v, ts, wi) = true) (h : am_s_goto Cl nx a b v ts L st me N Q) (hN : ∀ ip L st me, N ip L st me → am_ok g X0 p l e R s m args below meth c Qf y n0 (am_pc y ip) L st me) : am_ok g X0 p l e R s m args below meth c Qf y n0 pc L st me := by
  have hk2 : (decide (decode (am_by y) pc = .ok (.goto z, ln)) && (Nat.beq ln 3 && am_jp y pc z a && decide ((ts.map fun q => q.2).Nodup))) = true := hk
  simp only [Bool.and_eq_true, decide_eq_true_eq] at hk2
  obtain ⟨hd, ⟨hl, hj⟩, hnd⟩ := hk2
  have hl := Nat.eq_of_beq_eq_true hl
  subst hl
  have ht := am_jp_spec hj
  unfold am_s_goto at h
  rcases ts with _ | ⟨t1, ts⟩
  · intro H locs ls r
    exact lv_goto C.1 C.2.1 hd ht (hN _ _ _ _ h H locs ls r)
  · dsimp only at h
    cases hq : am_keep L (t1 :: ts) with
    | none => rw [hq] at h; exact False.elim h
    | some L' =>
      rw [hq] at h
      intro H locs ls r
      obtain ⟨k1, k2⟩ := am_keep_mem hq
      refine lv_goto C.1 C.2.1 hd ht (hN _ _ _ _ h H locs ls ⟨r.1, r.2.1, ⟨r.loc.1, r.loc.2.1, fun q hq => ?_⟩, by rw [k2]; exact hnd, fun q hq => r.2.2.2.2.1 q (k1 q hq), r.2.2.2.2.2⟩)
      obtain ⟨z1, hz1, rfl⟩ := List.mem_map.mp hq
      exact r.loc.2.2 _ (List.mem_map_of_mem (f := fun q : Nat × am_V => (q.1, am_v g q.2)) (k1 z1 hz1))
end AMZ
