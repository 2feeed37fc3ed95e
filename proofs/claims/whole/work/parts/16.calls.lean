section AMC
variable {g : am_G} {X0 : Nat → Nat → Nat → Int32} {p : Program} {l : Launch} {e : Env} {R : Room} {s : State} {m : MethodId} {args : Array Value} {below : List Frame} {meth : Method} {c : Code} {Qf : State → Prop} {y n0 nF : Nat}
variable {Cl : Nat → List am_V → am_M → Option am_V → am_M → Prop} {nx a b : Nat} {v : Int32} {ts : List (Int32 × Nat)} {L : am_L} {st : List am_V} {me : am_M} {N : Nat → am_L → List am_V → am_M → Prop} {Q : Option am_V → am_M → Prop} {pc ln wi : Nat}
def am_rm (d n n' : Nat) : Room := { frames := d, cells := n' - n, slots := am_sl n' - am_sl n, locals := 64 * d }
def am_cw (y : Nat) : List Cond := .code (am_nm y) (am_by y) (am_ml y) (am_rt y) :: am_tbl
def am_Pc (g : am_G) (X0 : Nat → Nat → Nat → Int32) (as : List am_V) (me : am_M) : Array Value → State → Prop := va_Pc (as.map (am_v g)) (fun U => U.heap.size = g.1 + me.1 ∧ va_P g.2.2.2.1 vwCl (am_ws g me.1 me.2.1 me.2.2) U.heap ∧ am_X g X0 U)
def am_pu (X0 : Nat → Nat → Nat → Int32) (me : am_M) (v : Option am_V) (me' : am_M) : Prop := (∀ x, v = some x → am_vv me'.1 x) ∧ me.1 ≤ me'.1 ∧ me'.1 ≤ 128 ∧ am_AsOK me'.1 me'.2.1 ∧ me'.2.2 0 = X0
def am_Qc (g : am_G) (X0 : Nat → Nat → Nat → Int32) (me : am_M) (v : Option am_V) (me' : am_M) : Array Value → State → Outcome → State → Prop := fun _ st oc t => oc = .returned (v.map (am_v g)) ∧ am_pu X0 me v me' ∧ va_P g.2.2.2.1 vwCl (am_ws g me'.1 me'.2.1 me'.2.2) t.heap ∧ va_F (am_A g) st t
def am_Met (l : Launch) (g : am_G) (X0 : Nat → Nat → Nat → Int32) (d y : Nat) (as : List am_V) (me : am_M) (v : Option am_V) (me' : am_M) : Prop := Met l (am_nm y) (am_cw y) (am_rm d me.1 me'.1) (am_Pc g X0 as me) (am_Qc g X0 me v me') (me'.1 - me.1) (am_sl me'.1 - am_sl me.1) (am_A g)
theorem am_blind {as : List am_V} : FrameBlind (am_Pc g X0 as me) := fun a _ f mk h => ⟨h.1, h.2.1, h.2.2.1, h.2.2.2.call f mk a⟩
theorem am_after {H : Heap} {locs : List Loc} {ls : Array Slot} {st0 rest : List Value} {mc ms cells slots : Nat} {aa : Array Value} {w : Option am_V} {me' : am_M} (hr : va_Run p l e R s m args below meth c H locs cells slots mc ms (F0 m pc ls st0) rest (am_Qc g X0 me w me' aa) (am_A g)) (hS : va_S (am_A g) s.heap H locs) (kk : ∀ (H1 : Heap) (locs1 : List Loc), va_P g.2.2.2.1 vwCl (am_ws g me'.1 me'.2.1 me'.2.2) H1 → va_S (am_A g) s.heap H1 locs1 → am_pu X0 me w me' → W p l e R s m args below meth c H1 locs1 (cells + mc) (slots + ms) Qf (F0 m (pc + 3) ls ((w.map (am_v g)).toList ++ rest))) : W p l e R s m args below meth c H locs cells slots Qf (F0 m pc ls st0) := by
  intro T hT X
  obtain ⟨v2, st₀, t, T', Lc, h0, X', hL, e1, e2, ⟨hv, hp, hP, hz, hq⟩, st⟩ := hr T hT X
  cases hv
  rw [h0] at hz hq
  obtain ⟨t2, a1, b1⟩ := kk T'.heap (locs ++ Lc) (by rw [e1]; exact hP) ⟨Nat.le_trans hS.1 (by rw [e1]; exact hz), fun q h1 h2 => by rw [e1, hq q (Nat.lt_of_lt_of_le h1 hS.1) h2]; exact hS.2.1 q h1 h2, fun q hq => by
      rcases List.mem_append.mp hq with h | h
      · exact hS.2.2 q h
      · exact hL q h⟩ hp T' rfl X'
  exact ⟨t2, st t2 a1, b1⟩
theorem am_cont {H : Heap} {locs : List Loc} {ls : Array Slot} {st' : List am_V} {aa : Array Value} {w : Option am_V} {me' : am_M} (r : am_rl g X0 s n0 (am_ml y) L st me H locs ls) (hst : ∀ x ∈ st', am_vv me.1 x) (hr : va_Run p l e R s m args below meth c H locs (me.1 - n0) (am_sl me.1 - am_sl n0) (me'.1 - me.1) (am_sl me'.1 - am_sl me.1) (F0 m pc ls (st.map (am_v g))) (st'.map (am_v g)) (am_Qc g X0 me w me' aa) (am_A g)) (hx : am_pc y nx = pc + 3) (hN : am_ok g X0 p l e R s m args below meth c Qf y n0 (am_pc y nx) L (w.toList ++ st') me') : W p l e R s m args below meth c H locs (me.1 - n0) (am_sl me.1 - am_sl n0) Qf (F0 m pc ls (st.map (am_v g))) := by
  refine am_after hr r.2.1 fun H1 locs1 p1 p3 hp => ?_
  have hn0 := r.2.2.2.2.2.2.1
  have w1 := hN H1 locs1 ls ⟨p1, p3, r.2.2.1, r.2.2.2.1, fun q hq => am_vv_mono hp.2.1 (r.2.2.2.2.1 q hq), fun x hx => by
    rcases List.mem_append.mp hx with h | h
    · exact hp.1 x (by cases w with
        | none => cases h
        | some z => rw [List.mem_singleton.mp h])
    · exact am_vv_mono hp.2.1 (hst x h), Nat.le_trans hn0 hp.2.1, hp.2.2.1, hp.2.2.2.1, hp.2.2.2.2⟩
  have e1 : me.1 - n0 + (me'.1 - me.1) = me'.1 - n0 := by have := hp.2.1; omega
  have e2 : am_sl me.1 - am_sl n0 + (am_sl me'.1 - am_sl me.1) = am_sl me'.1 - am_sl n0 := by
    have := am_sl_mono hp.2.1
    have := am_sl_mono hn0
    omega
  have e3 : (w.toList ++ st').map (am_v g) = (w.map (am_v g)).toList ++ st'.map (am_v g) := by
    cases w <;> rfl
  rw [e1, e2]
  rw [hx, e3] at w1
  exact w1
theorem am_pop_spec {st st' acc as : List am_V} {k : Nat} (h : am_pop st k acc = some (as, st')) : ∃ xs : List am_V, xs.length = k ∧ st = xs ++ st' ∧ as = xs.reverse ++ acc := by
  induction k generalizing st acc with
  | zero =>
    have h : some (acc, st) = some (as, st') := by cases st <;> exact h
    cases h
    exact ⟨[], rfl, rfl, rfl⟩
  | succ k ih =>
    cases st with
    | nil => cases h
    | cons x st =>
      obtain ⟨xs, h1, h2, h3⟩ := ih h
      exact ⟨x :: xs, by simp [h1], by simp [h2], by simp [h3]⟩
theorem am_pop0 {st st' as : List am_V} {k : Nat} (h : am_pop st k [] = some (as, st')) : as.length = k ∧ st = as.reverse ++ st' := by
  obtain ⟨xs, h1, h2, h3⟩ := am_pop_spec h
  rw [List.append_nil] at h3
  subst h3
  exact ⟨by simpa using h1, by simpa using h2⟩
theorem am_good : GoodIn am_tbl am_tbl := fun w h => ⟨h, good_of_word (List.mem_filter.mp h).2⟩
theorem am_cats {st : List am_V} (h : Nat.ble st.length 4 = true) : ((st.map (am_v g)).map fun v => v.category).sum ≤ 8 := by
  have h := Nat.le_of_ble_eq_true h
  have key : ∀ l : List Value, (l.map fun v => v.category).sum ≤ 2 * l.length := by
    intro l
    induction l with
    | nil => exact Nat.le_refl _
    | cons x t ih =>
      have := lv_cat x
      simp only [List.map_cons, List.sum_cons, List.length_cons]
      omega
  have := key (st.map (am_v g))
  rw [List.length_map] at this
  omega
/-- what is known of a method that is called -/
def am_MF (a : Nat) : Prop := am_mck a = true ∧ Cond.code (am_nm a) (am_by a) (am_ml a) (am_rt a) ∈ am_tbl
theorem am_mf0 {a : Nat} (h : am_MF a) : (∃ i, am_word i (.initialized (am_nm a).cls) = true) ∧ (am_nm a).cls ≠ "java/lang/invoke/MethodHandle" ∧ (am_nm a).cls ≠ "java/lang/invoke/VarHandle" ∧ (parseMethodDescriptor (am_nm a).desc).map (fun d => d.parameters.length) = some (am_np a) ∧ plainName (am_nm a).cls = true ∧ am_ml a ≤ 12 ∧ am_mlx a = am_ml a := by
  have h := h.1
  unfold am_mck at h
  generalize am_nth (am_nth am_mw (a / 8) []) (a % 8) [] = q at h
  rcases q with _ | ⟨w1, _ | ⟨w2, _ | ⟨w3, r⟩⟩⟩
  · cases h
  · cases h
  · cases h
  · simp only [Bool.and_eq_true, decide_eq_true_eq] at h
    obtain ⟨⟨⟨⟨⟨⟨⟨h1, h2⟩, h3⟩, h4⟩, h5⟩, h6⟩, h7⟩, -⟩ := h
    exact ⟨⟨_, h1⟩, h3, h4, h2, h5, Nat.le_of_ble_eq_true h6, Nat.eq_of_beq_eq_true h7⟩
theorem am_mfk {a : Nat} (h : am_MF a) : (am_kd a = 0 → ∃ i, am_word i (.static (am_nm a)) = true) ∧ (am_kd a = 1 → (∃ i, am_word i (.instanceMethod (am_nm a)) = true) ∧ (∃ i, am_word i (.selects (am_nm a).cls (am_nm a) (am_nm a)) = true) ∧ ((am_rcv a = 3 ∧ (am_nm a).cls = "java/lang/String") ∨ (16 ≤ am_rcv a ∧ am_rcv a ≤ 26 ∧ (am_cT (am_rcv a)).1 = (am_nm a).cls))) ∧ (am_kd a = 2 → (∃ i, am_word i (.instanceMethod (am_nm a)) = true) ∧ (am_nm a).name = "<init>" ∧ am_rt a = none) := by
  have h := h.1
  unfold am_mck at h
  generalize am_nth (am_nth am_mw (a / 8) []) (a % 8) [] = q at h
  rcases q with _ | ⟨w1, _ | ⟨w2, _ | ⟨w3, r⟩⟩⟩
  · cases h
  · cases h
  · cases h
  · simp only [Bool.and_eq_true] at h
    obtain ⟨-, h⟩ := h
    refine ⟨fun hk => ?_, fun hk => ?_, fun hk => ?_⟩
    · rw [hk] at h
      rcases r with _ | ⟨r1, r⟩
      · exact ⟨_, h⟩
      · cases h
    · rw [hk] at h
      rcases r with _ | ⟨r1, _ | ⟨r2, r⟩⟩
      · cases h
      · simp only [Bool.and_eq_true, Bool.or_eq_true, decide_eq_true_eq] at h
        obtain ⟨⟨h1, h2⟩, h3⟩ := h
        refine ⟨⟨_, h1⟩, ⟨_, h2⟩, ?_⟩
        rcases h3 with h3 | ⟨⟨h3, h4⟩, h5⟩
        · exact Or.inl h3
        · exact Or.inr ⟨Nat.le_of_ble_eq_true h3, Nat.le_of_ble_eq_true h4, h5⟩
      · cases h
    · rw [hk] at h
      rcases r with _ | ⟨r1, r⟩
      · simp only [Bool.and_eq_true, decide_eq_true_eq] at h
        exact ⟨⟨_, h.1.1⟩, h.1.2, h.2⟩
      · cases h
/-- what is asked of the methods that are called -/
def am_CL (l : Launch) (g : am_G) (X0 : Nat → Nat → Nat → Int32) (d : Nat) (Cl : Nat → List am_V → am_M → Option am_V → am_M → Prop) : Prop :=
  (∀ a as me v me', Cl a as me v me' → a < 236 → a ≠ 222 → a ≠ 223 → (∀ x ∈ as, am_vv me.1 x) → me.1 ≤ 128 → am_AsOK me.1 me.2.1 → me.2.2 0 = X0 → am_wds as ≤ am_ml a → am_Met l g X0 d a as me v me') ∧
  (∀ as me v me', Cl 222 as me v me' → as.length = 2 → ∃ x z, as = [.inl x, .inl z] ∧ v = some (.inl (if x < z then z else x)) ∧ me' = me) ∧
  (∀ as me v me', Cl 223 as me v me' → as.length = 2 → ∃ x z, as = [.inl x, .inl z] ∧ v = some (.inl (if z < x then z else x)) ∧ me' = me) ∧
  (∀ a as me v me', Cl a as me v me' → me.1 ≤ me'.1)
/-- room for a call -/
theorem am_hf {me' : am_M} (h0 : n0 ≤ me.1) (h1 : me.1 ≤ me'.1) (h2 : me'.1 ≤ nF) (hRc : nF - n0 ≤ R.cells) (hRs : am_sl nF - am_sl n0 ≤ R.slots) : me.1 - n0 + (me'.1 - me.1) ≤ R.cells ∧ am_sl me.1 - am_sl n0 + (am_sl me'.1 - am_sl me.1) ≤ R.slots := by
  have := am_sl_mono h0
  have := am_sl_mono h1
  have := am_sl_mono h2
  exact ⟨by omega, by omega⟩
theorem am_preS {H : Heap} {locs : List Loc} {ls : Array Slot} {as : List am_V} (C : am_ctx g X0 p s m args meth c y n0) (r : am_rl g X0 s n0 (am_ml y) L st me H locs ls) (hsz : H.size = g.1 + me.1) : PreS s H (am_Pc g X0 as me) (as.map (am_v g)) :=
  ⟨am_blind, fun U hU hW => ⟨rfl, by rw [hU]; exact hsz, by rw [hU]; exact r.1, C.2.2.2.2.2.1.move hW (by rw [hU]; exact r.2.1.2.1)⟩⟩
theorem am_cb {d a z : Nat} {me' : am_M} (C : am_ctx g X0 p s m args meth c y n0) (hm : am_MF a) (hRf : d + 1 ≤ R.frames) (hRl : 64 * (d + 1) ≤ R.locals) (hw : am_word wi (.methodLink (am_nm y).cls z (am_nm a)) = true) : CallB R s args (am_nm y).cls z (am_nm a) (am_by a) (am_ml a) (am_rt a) (am_cw a) (am_rm d me.1 me'.1) (me'.1 - me.1) (am_sl me'.1 - am_sl me.1) (am_np a) := by
  obtain ⟨⟨i, q1⟩, q2, q3, q4, q5, q6, q7⟩ := am_mf0 hm
  refine callB_of (ws' := am_tbl) (am_np a) C.2.2.2.2.1 (fun w hw => ?_) rfl rfl rfl (am_hw C q1) (am_hw C hw) ⟨q2, q3, q4⟩ ⟨hRf, by show 8 + (am_ml a + 11) + 64 * d ≤ R.locals; omega⟩
  rcases List.mem_cons.mp hw with h | h
  · rw [h]; exact am_good _ hm.2
  · exact am_good _ h
theorem am_cn {d a z : Nat} {me' : am_M} (C : am_ctx g X0 p s m args meth c y n0) (hm : am_MF a) (hRf : d + 1 ≤ R.frames) (hRl : 64 * (d + 1) ≤ R.locals) (hw : ((am_nm y).cls, z, a) ∈ am_nests) : va_CN R s args (am_nm y).cls z (am_nm a) "GhostTable" (am_by a) (am_ml a) (am_rt a) (am_cw a) (am_rm d me.1 me'.1) (me'.1 - me.1) (am_sl me'.1 - am_sl me.1) (am_np a) := by
  obtain ⟨⟨i, q1⟩, q2, q3, q4, q5, q6, q7⟩ := am_mf0 hm
  refine va_cnB (ws' := am_tbl) (am_np a) C.2.2.2.2.1 (fun w hw => ?_) rfl rfl rfl (C.2.2.2.2.2.1.2.2.2.2.2.2.2.2.1 _ hw) (am_hw C q1) ⟨q2, q3, q4⟩ ⟨hRf, by show 8 + (am_ml a + 11) + 64 * d ≤ R.locals; omega⟩
  rcases List.mem_cons.mp hw with h | h
  · rw [h]; exact am_good _ hm.2
  · exact am_good _ h
theorem am_fixC (C : am_ctx g X0 p s m args meth c y n0) : CallFix p m c (am_by y) (am_ml y) s args am_tbl (am_nm y).cls := ⟨C.1, C.2.1, C.2.2.1, C.2.2.2.1, C.2.2.2.2.1⟩
theorem am_wdsb {a : Nat} {as : List am_V} (hm : am_MF a) (h : Nat.ble (am_wds as) (am_mlx a) = true) : am_wds as ≤ am_ml a := by
  rw [← (am_mf0 hm).2.2.2.2.2.2]
  exact Nat.le_of_ble_eq_true h
theorem am_room8 {ls : Array Slot} {st0 : List Value} {st' : List am_V} (h : Nat.ble st'.length 4 = true) : 2 * (F0 m pc ls st0).monitorRoom + ((st'.map (am_v g)).map fun v => v.category).sum ≤ 8 := by
  show 2 * 0 + _ ≤ 8
  have := am_cats (g := g) h
  omega
set_option maxRecDepth 100000 in
theorem am_acn : am_word 950 (.native arraycopyName) = true := by decide +kernel
set_option maxRecDepth 100000 in
theorem am_acs : am_word 949 (.static arraycopyName) = true := by decide +kernel
set_option maxRecDepth 100000 in
theorem am_aci : am_word 81 (.initialized "java/lang/System") = true := by decide +kernel
set_option maxRecDepth 100000 in
theorem am_oi1 : am_word 88 (.instanceMethod Lib.objectInit) = true := by decide +kernel
set_option maxRecDepth 100000 in
theorem am_oi2 : am_word 89 (.code Lib.objectInit ⟨#[0xb1]⟩ 1 none) = true := by decide +kernel
theorem am_z_invokestatic {z : Nat} (C : am_ctx g X0 p s m args meth c y n0) (hk : am_chk y (pc, ln, .invokestatic z, nx, a, b, v, ts, wi) = true) (h : am_s_invokestatic Cl nx a b v ts L st me N Q) {d : Nat} (hCL : am_CL l g X0 d Cl) (hMF : ∀ a, a < 236 → a ≠ 222 → a ≠ 223 → am_MF a) (hRf : d + 1 ≤ R.frames) (hRl : 64 * (d + 1) ≤ R.locals) (hB : ∀ ip L st me, N ip L st me → me.1 ≤ nF) (hRc : nF - n0 ≤ R.cells) (hRs : am_sl nF - am_sl n0 ≤ R.slots) (hN : ∀ ip L st me, N ip L st me → am_ok g X0 p l e R s m args below meth c Qf y n0 (am_pc y ip) L st me) : am_ok g X0 p l e R s m args below meth c Qf y n0 pc L st me := by
  unfold am_s_invokestatic at h
  cases ha : Nat.beq a 1000 with
  | true =>
    have := Nat.eq_of_beq_eq_true ha
    subst this
    dsimp only at h
    obtain ⟨hd, hx, hw⟩ := am_pre (o := (pc, ln, .invokestatic z, nx, 1000, b, v, ts, wi)) (rest := am_word wi (.methodLink (am_nm y).cls z arraycopyName)) (k := 3) hk rfl
    rcases st with _ | ⟨n1 | n1 | n1, _ | ⟨dp | dp | dp, _ | ⟨x2 | x2 | ⟨r2, b2, i2⟩, _ | ⟨sp | sp | sp, _ | ⟨x1 | x1 | ⟨r1, b1, i1⟩, st⟩⟩⟩⟩⟩ <;> try exact False.elim h
    dsimp only at h
    cases hb : ((Nat.ble 27 r1 && Nat.ble r1 33) && (Nat.ble 27 r2 && Nat.ble r2 33) && Nat.ble st.length 4) with
    | false => rw [hb] at h; exact False.elim h
    | true =>
      rw [hb] at h
      simp only [Bool.and_eq_true] at hb
      obtain ⟨⟨⟨k1, k2⟩, ⟨k3, k4⟩⟩, k5⟩ := hb
      have k1 := Nat.le_of_ble_eq_true k1
      have k2 := Nat.le_of_ble_eq_true k2
      have k3 := Nat.le_of_ble_eq_true k3
      have k4 := Nat.le_of_ble_eq_true k4
      obtain ⟨h1, h2, h3, h4, h5, h⟩ := h
      intro H locs ls r
      have hs := r.stk
      have ho2 := am_vr_own' (am_vh (am_vt (am_vt hs))) (by omega)
      have ho1 := am_vr_own' (am_vh (am_vt (am_vt (am_vt (am_vt hs))))) (by omega)
      have hz1 := (am_own_facts r.2.2.2.2.2.2.2.1 ho1).2.2.1 k1
      have hz2 := (am_own_facts r.2.2.2.2.2.2.2.1 ho2).2.2.1 k3
      have he1 := am_ws_at (g := g) (As := me.2.1) (M := me.2.2) ho1
      have he2 := am_ws_at (g := g) (As := me.2.1) (M := me.2.2) ho2
      rw [am_ce_int (q := (r1, b1, i1)) k1 k2] at he1
      rw [am_ce_int (q := (r2, b2, i2)) k3 k4] at he2
      have hcats := am_cats (g := g) k5
      rw [List.map_cons, List.map_cons, List.map_cons, List.map_cons, List.map_cons, am_v_own (r := r1) (show 16 ≤ r1 by omega), am_v_own (r := r2) (show 16 ≤ r2 by omega)]
      refine va_copyi C.1 C.2.1 (by rw [C.2.2.1]; exact r.loc.1.symm) (am_hown C) (am_hw C hw) (am_hw C am_acn) (am_hw C am_acs) (am_hw C am_aci) (am_hK C) r.1 am_D r.2.1 _ _ 0 0 he1 he2 am_tysI am_tysI rfl h1 h2 h3 (by rw [hz1]; exact h4) (by rw [hz2]; exact h5) (fun _ _ => rfl) (by omega) (by
        have e : nativeFrameWords "java/lang/System" "arraycopy" 5 = 7 := by decide +kernel
        rw [e]
        omega) hd fun H1 locs1 p1 _ p3 => ?_
      have e6 : (Sum.inl (g.2.2.2.2 0, am_sz (r2, b2, i2), .inl (va_cpy (me.2.2 r1 b1 i1) (me.2.2 r2 b2 i2) sp.toNatClampNeg dp.toNatClampNeg n1.toNatClampNeg)) : va_E) = am_ce g me.2.1 (am_cpy me.2.2 r1 b1 i1 r2 b2 i2 sp.toNatClampNeg dp.toNatClampNeg n1.toNatClampNeg) (r2, b2, i2) (am_sz (r2, b2, i2)) := by
        rw [am_ce_int (q := (r2, b2, i2)) k3 k4]
        exact congrArg (fun f : Nat → Int32 => (Sum.inl (g.2.2.2.2 0, am_sz (r2, b2, i2), .inl f) : va_E)) (funext fun j => by
          show _ = am_cpy me.2.2 r1 b1 i1 r2 b2 i2 sp.toNatClampNeg dp.toNatClampNeg n1.toNatClampNeg r2 b2 i2 j
          unfold am_cpy
          rw [if_pos ⟨rfl, rfl, rfl⟩])
      rw [am_ws_set (q := (r2, b2, i2)) r.2.2.2.2.2.2.2.1 ho2 (fun q' k hq => am_ce_congr rfl (by
        funext j
        unfold am_cpy
        rw [if_neg]
        rintro ⟨e1, e2, e3⟩
        exact hq (Prod.ext e1 (Prod.ext e2 e3)))) e6] at p1
      have w := hN _ _ _ _ h H1 locs1 ls ⟨p1, p3, r.2.2.1, r.2.2.2.1, r.2.2.2.2.1, am_vt (am_vt (am_vt (am_vt (am_vt hs)))), r.2.2.2.2.2.2.1, r.2.2.2.2.2.2.2.1, r.2.2.2.2.2.2.2.2.1, by
        rw [← r.2.2.2.2.2.2.2.2.2]
        funext b' i' s'
        show am_cpy me.2.2 r1 b1 i1 r2 b2 i2 _ _ _ 0 b' i' s' = me.2.2 0 b' i' s'
        unfold am_cpy
        rw [if_neg (by omega)]⟩
      rw [hx] at w
      exact w
  | false =>
    rw [ha] at h
    dsimp only at h
    have hke : am_chk y (pc, ln, .invokestatic z, nx, a, b, v, ts, wi) = (decide (decode (am_by y) pc = .ok (.invokestatic z, ln)) && (am_fx y pc ln nx 3 && match Nat.beq a 1000 with
      | true => am_word wi (.methodLink (am_nm y).cls z arraycopyName)
      | false => Nat.blt a 236 && Nat.beq (am_kd a) 0 && Nat.beq b (am_np a) && (am_rt a).isSome == !ts.isEmpty && match decide (v = 1) with
        | true => am_nests.contains ((am_nm y).cls, z, a)
        | false => am_word wi (.methodLink (am_nm y).cls z (am_nm a)))) := rfl
    rw [ha] at hke
    obtain ⟨hd, hx, hr⟩ := am_pre (k := 3) hk hke
    simp only [Bool.and_eq_true] at hr
    obtain ⟨⟨⟨⟨l1, l2⟩, l3⟩, -⟩, l5⟩ := hr
    have l1 : a < 236 := by simpa [Nat.blt_eq] using l1
    have l2 := Nat.eq_of_beq_eq_true l2
    have l3 := Nat.eq_of_beq_eq_true l3
    cases hp : am_pop st b [] with
    | none => rw [hp] at h; exact False.elim h
    | some q =>
      obtain ⟨as, st'⟩ := q
      rw [hp] at h
      dsimp only at h
      obtain ⟨hlen, hst⟩ := am_pop0 hp
      cases hb : (Nat.ble st'.length 4 && Nat.ble (am_wds as) (am_mlx a)) with
      | false => rw [hb] at h; exact False.elim h
      | true =>
        rw [hb] at h
        simp only [Bool.and_eq_true] at hb
        have h2 : ∃ w me', Cl a as me w me' ∧ N nx L (w.toList ++ st') me' := by
          rcases ts with _ | ⟨t1, ts⟩
          · obtain ⟨me', q1, q2⟩ := h
            exact ⟨none, me', q1, q2⟩
          · obtain ⟨x, me', q1, q2⟩ := h
            exact ⟨some x, me', q1, q2⟩
        obtain ⟨w, me', hc, hn⟩ := h2
        intro H locs ls r
        have hsz0 := r.2.2.2.2.2.2.1
        have hmo := hCL.2.2.2 _ _ _ _ _ hc
        have hvas : ∀ x ∈ as, am_vv me.1 x := fun x hx => r.stk x (by rw [hst]; exact List.mem_append_left _ (List.mem_reverse.mpr hx))
        have hvst : ∀ x ∈ st', am_vv me.1 x := fun x hx => r.stk x (by rw [hst]; exact List.mem_append_right _ hx)
        have hmap : st.map (am_v g) = (as.map (am_v g)).reverse ++ st'.map (am_v g) := by rw [hst, List.map_append, List.map_reverse]
        by_cases h222 : a = 222
        · subst h222
          obtain ⟨x, zz, e1, e2, e3⟩ := hCL.2.1 _ _ _ _ hc (by rw [hlen, l3]; rfl)
          subst e1; subst e2; subst e3
          have hm := am_mwmax
          simp only [Bool.and_eq_true, decide_eq_true_eq] at hm
          have hw : am_word wi (.methodLink (am_nm y).cls z (am_nm 222)) = true := by
            cases hv1 : decide (v = 1) with
            | false => rw [hv1] at l5; exact l5
            | true =>
              rw [hv1] at l5
              have : ((am_nm y).cls, z, 222) ∈ am_nests := by simpa using l5
              simp [am_nests] at this
          rw [hm.2] at hw
          have hcats := am_cats (g := g) hb.1
          have hmap2 : st.map (am_v g) = .int zz :: .int x :: st'.map (am_v g) := by rw [hst]; rfl
          rw [hmap2]
          refine va_mmax C.1 C.2.1 (by rw [C.2.2.1]; exact r.loc.1.symm) (am_hown C) (am_hw C hw) (am_hw C hm.1.2) (am_hw C hm.1.1.2) (am_hw C hm.1.1.1) (by omega) (by omega) (by have := hB _ _ _ _ hn; omega) (by have := am_sl_mono (hB _ _ _ _ hn); omega) hd ?_
          have w1 := hN _ _ _ _ hn H locs ls (r.st (am_vc (v := .inl _) trivial hvst))
          rw [hx] at w1
          exact w1
        by_cases h223 : a = 223
        · subst h223
          obtain ⟨x, zz, e1, e2, e3⟩ := hCL.2.2.1 _ _ _ _ hc (by rw [hlen, l3]; rfl)
          subst e1; subst e2; subst e3
          have hm := am_mwmin
          simp only [Bool.and_eq_true, decide_eq_true_eq] at hm
          have hw : am_word wi (.methodLink (am_nm y).cls z (am_nm 223)) = true := by
            cases hv1 : decide (v = 1) with
            | false => rw [hv1] at l5; exact l5
            | true =>
              rw [hv1] at l5
              have : ((am_nm y).cls, z, 223) ∈ am_nests := by simpa using l5
              simp [am_nests] at this
          rw [hm.2] at hw
          have hcats := am_cats (g := g) hb.1
          have hmap2 : st.map (am_v g) = .int zz :: .int x :: st'.map (am_v g) := by rw [hst]; rfl
          rw [hmap2]
          refine va_mmin C.1 C.2.1 (by rw [C.2.2.1]; exact r.loc.1.symm) (am_hown C) (am_hw C hw) (am_hw C hm.1.2) (am_hw C hm.1.1.2) (am_hw C hm.1.1.1) (by omega) (by omega) (by have := hB _ _ _ _ hn; omega) (by have := am_sl_mono (hB _ _ _ _ hn); omega) hd ?_
          have w1 := hN _ _ _ _ hn H locs ls (r.st (am_vc (v := .inl _) trivial hvst))
          rw [hx] at w1
          exact w1
        have hm := hMF a l1 h222 h223
        obtain ⟨i0, hstat⟩ := (am_mfk hm).1 l2
        have hM := hCL.1 _ _ _ _ _ hc l1 h222 h223 hvas r.2.2.2.2.2.2.2.1 r.2.2.2.2.2.2.2.2.1 r.2.2.2.2.2.2.2.2.2 (am_wdsb hm hb.2)
        refine am_sized C r fun hsz => ?_
        refine am_cont (aa := (as.map (am_v g)).toArray) r hvst ?_ hx (hN _ _ _ _ hn)
        have hf := am_hf hsz0 hmo (hB _ _ _ _ hn) hRc hRs
        cases hv1 : decide (v = 1) with
        | false =>
          rw [hv1] at l5
          exact va_runS (am_fixC C) hM ⟨am_cb C hm hRf hRl l5, am_hw C hstat⟩ (am_preS C r hsz) rfl (by rw [List.length_map, hlen, l3]) r.loc.1 (by show st.map (am_v g) = _; exact hmap) (am_room8 hb.1) hd hf
        | true =>
          rw [hv1] at l5
          exact va_runSN (am_fixC C) hM ⟨am_cn C hm hRf hRl (by simpa using l5), am_hw C hstat, trivial⟩ (am_preS C r hsz) rfl (by rw [List.length_map, hlen, l3]) r.loc.1 (by show st.map (am_v g) = _; exact hmap) (am_room8 hb.1) hd hf
theorem am_z_invokevirtual {z : Nat} (C : am_ctx g X0 p s m args meth c y n0) (hk : am_chk y (pc, ln, .invokevirtual z, nx, a, b, v, ts, wi) = true) (h : am_s_invokevirtual Cl nx a b v ts L st me N Q) {d : Nat} (hCL : am_CL l g X0 d Cl) (hMF : ∀ a, a < 236 → a ≠ 222 → a ≠ 223 → am_MF a) (hRf : d + 1 ≤ R.frames) (hRl : 64 * (d + 1) ≤ R.locals) (hB : ∀ ip L st me, N ip L st me → me.1 ≤ nF) (hRc : nF - n0 ≤ R.cells) (hRs : am_sl nF - am_sl n0 ≤ R.slots) (hN : ∀ ip L st me, N ip L st me → am_ok g X0 p l e R s m args below meth c Qf y n0 (am_pc y ip) L st me) : am_ok g X0 p l e R s m args below meth c Qf y n0 pc L st me := by
  unfold am_s_invokevirtual at h
  have hk2 : (decide (decode (am_by y) pc = .ok (.invokevirtual z, ln)) && (am_fx y pc ln nx 3 && Nat.blt a 236 && Nat.beq (am_kd a) 1 && Nat.beq b (am_np a + 1) && (am_rt a).isSome == !ts.isEmpty && am_word wi (.methodLink (am_nm y).cls z (am_nm a)))) = true := hk
  simp only [Bool.and_eq_true, decide_eq_true_eq] at hk2
  obtain ⟨hd, ⟨⟨⟨⟨hf0, l1⟩, l2⟩, l3⟩, -⟩, l5⟩ := hk2
  obtain ⟨hln, hx⟩ := am_fx_spec hf0
  subst hln
  have l1 : a < 236 := by simpa [Nat.blt_eq] using l1
  have l2 := Nat.eq_of_beq_eq_true l2
  have l3 := Nat.eq_of_beq_eq_true l3
  cases hp : am_pop st b [] with
  | none => rw [hp] at h; exact False.elim h
  | some q =>
    obtain ⟨as, st'⟩ := q
    rw [hp] at h
    rcases as with _ | ⟨x1 | x1 | ⟨r1, q1⟩, as⟩ <;> try exact False.elim h
    dsimp only at h
    obtain ⟨hlen, hst⟩ := am_pop0 hp
    cases hb : (Nat.beq r1 (am_rcv a) && (Nat.ble st'.length 4 && Nat.ble (am_wds (.inr (.inr (r1, q1)) :: as)) (am_mlx a))) with
    | false => rw [hb] at h; exact False.elim h
    | true =>
      rw [hb] at h
      simp only [Bool.and_eq_true] at hb
      have hrr := Nat.eq_of_beq_eq_true hb.1
      have h2 : ∃ w me', Cl a (.inr (.inr (r1, q1)) :: as) me w me' ∧ N nx L (w.toList ++ st') me' := by
        rcases ts with _ | ⟨t1, ts⟩
        · obtain ⟨me', q1, q2⟩ := h
          exact ⟨none, me', q1, q2⟩
        · obtain ⟨x, me', q1, q2⟩ := h
          exact ⟨some x, me', q1, q2⟩
      obtain ⟨w, me', hc, hn⟩ := h2
      intro H locs ls r
      have hsz0 := r.2.2.2.2.2.2.1
      have hmo := hCL.2.2.2 _ _ _ _ _ hc
      have hvas : ∀ x ∈ (.inr (.inr (r1, q1)) :: as : List am_V), am_vv me.1 x := fun x hx => r.stk x (by rw [hst]; exact List.mem_append_left _ (List.mem_reverse.mpr hx))
      have hvst : ∀ x ∈ st', am_vv me.1 x := fun x hx => r.stk x (by rw [hst]; exact List.mem_append_right _ hx)
      have hmap : st.map (am_v g) = (as.map (am_v g)).reverse ++ am_v g (.inr (.inr (r1, q1))) :: st'.map (am_v g) := by
        rw [hst, List.reverse_cons, List.append_assoc, List.map_append, List.map_reverse]
        rfl
      have h222 : a ≠ 222 := fun he => by rw [he] at l2; exact absurd l2 (by decide)
      have h223 : a ≠ 223 := fun he => by rw [he] at l2; exact absurd l2 (by decide)
      have hm := hMF a l1 h222 h223
      obtain ⟨⟨i0, w1⟩, ⟨i1, w2⟩, w3⟩ := (am_mfk hm).2.1 l2
      have hM := hCL.1 _ _ _ _ _ hc l1 h222 h223 hvas r.2.2.2.2.2.2.2.1 r.2.2.2.2.2.2.2.2.1 r.2.2.2.2.2.2.2.2.2 (am_wdsb hm hb.2.2)
      refine am_sized C r fun hsz => ?_
      refine am_cont (aa := (.ref (am_a g (r1, q1)) :: as.map (am_v g)).toArray) r hvst ?_ hx (hN _ _ _ _ hn)
      have hf := am_hf hsz0 hmo (hB _ _ _ _ hn) hRc hRs
      have hpre := am_preS (as := .inr (.inr (r1, q1)) :: as) C r hsz
      have hv5 : am_v g (.inr (.inr (r1, q1))) = .ref (am_a g (r1, q1)) := if_neg (by
        show ¬ r1 = 5
        rcases w3 with ⟨e1, -⟩ | ⟨e1, -, -⟩ <;> omega)
      rw [hv5] at hmap
      have hrecv : ∃ cellB : Cell, H[am_a g (r1, q1)]? = some cellB ∧ cellB.vm.isStatics = false ∧ s.vm.findClass (am_nm a).cls = some cellB.cls := by
        rcases w3 with ⟨e1, e2⟩ | ⟨e1, e2, e3⟩
        · have hr3 : r1 = 3 := hrr.trans e1
          subst hr3
          have hi : q1.2 < 2 := by
            rcases hvas _ List.mem_cons_self with h | h | h | h
            · exact absurd h.1 (show ¬ (3 : Nat) ≤ 2 by decide)
            · exact h.2.2
            · exact absurd h (show ¬ (3 : Nat) = 5 by decide)
            · exact absurd h.1 (show ¬ 16 ≤ (3 : Nat) by decide)
          rw [e2]
          have := vk_recv (i := q1.2) C.2.2.2.2.2.1.2.2.2.2.1 hi r.2.1
          exact this
        · rw [← hrr] at e1 e2 e3
          have ho := am_vr_own (hvas _ List.mem_cons_self) e1
          have he := am_ws_at (g := g) (As := me.2.1) (M := me.2.2) ho
          rw [am_ce_obj (by show r1 < 27; omega)] at he
          have := va_recv (am_hK C) r.1 (am_vw e1 e2) he
          rw [e3] at this
          exact this
      have hpv : PreV s H (am_nm a).cls (am_a g (r1, q1)) (am_Pc g X0 (.inr (.inr (r1, q1)) :: as) me) (as.map (am_v g)) := ⟨hpre.1, hrecv, fun U hU hW => by
        have := hpre.2 U hU hW
        rw [List.map_cons, hv5] at this
        exact this⟩
      exact va_runV (am_fixC C) hM ⟨am_cb C hm hRf hRl l5, am_hw C w1, am_hw C w2⟩ hpv rfl (by rw [List.length_map]; simp only [List.length_cons] at hlen; omega) r.loc.1 (by show st.map (am_v g) = _; exact hmap) (am_room8 hb.2.1) hd hf
theorem am_z_invokespecial {z : Nat} (C : am_ctx g X0 p s m args meth c y n0) (hk : am_chk y (pc, ln, .invokespecial z, nx, a, b, v, ts, wi) = true) (h : am_s_invokespecial Cl nx a b v ts L st me N Q) {d : Nat} (hCL : am_CL l g X0 d Cl) (hMF : ∀ a, a < 236 → a ≠ 222 → a ≠ 223 → am_MF a) (hRf : d + 1 ≤ R.frames) (hRl : 64 * (d + 1) ≤ R.locals) (hB : ∀ ip L st me, N ip L st me → me.1 ≤ nF) (hRc : nF - n0 ≤ R.cells) (hRs : am_sl nF - am_sl n0 ≤ R.slots) (hN : ∀ ip L st me, N ip L st me → am_ok g X0 p l e R s m args below meth c Qf y n0 (am_pc y ip) L st me) : am_ok g X0 p l e R s m args below meth c Qf y n0 pc L st me := by
  unfold am_s_invokespecial at h
  cases ha : Nat.beq a 2000 with
  | true =>
    have := Nat.eq_of_beq_eq_true ha
    subst this
    dsimp only at h
    obtain ⟨hd, hx, hw⟩ := am_pre (o := (pc, ln, .invokespecial z, nx, 2000, b, v, ts, wi)) (rest := am_word wi (.methodLink (am_nm y).cls z Lib.objectInit)) (k := 3) hk rfl
    rcases st with _ | ⟨x1 | x1 | ⟨r1, q1⟩, st⟩ <;> try exact False.elim h
    dsimp only at h
    cases hb : (Nat.ble 16 r1 && Nat.ble st.length 4) with
    | false => rw [hb] at h; exact False.elim h
    | true =>
      rw [hb] at h
      simp only [Bool.and_eq_true] at hb
      have l1 := Nat.le_of_ble_eq_true hb.1
      have hcats := am_cats (g := g) hb.2
      intro H locs ls r
      rw [List.map_cons, show am_v g (.inr (.inr (r1, q1))) = .ref (am_a g (r1, q1)) from if_neg (by show ¬ r1 = 5; omega)]
      refine W.objInit C.1 C.2.1 (am_hown C) (am_hw C hw) (am_hw C am_oi1) (am_hw C am_oi2) rfl (by rw [C.2.2.1]; exact r.loc.1) rfl hd (by omega) (by show 2 * 0 + _ + 12 ≤ R.locals; omega) ?_
      have w := hN _ _ _ _ h H locs ls (r.st (am_vt r.stk))
      rw [hx] at w
      exact w
  | false =>
    rw [ha] at h
    dsimp only at h
    have hke : am_chk y (pc, ln, .invokespecial z, nx, a, b, v, ts, wi) = (decide (decode (am_by y) pc = .ok (.invokespecial z, ln)) && (am_fx y pc ln nx 3 && match Nat.beq a 2000 with
      | true => am_word wi (.methodLink (am_nm y).cls z Lib.objectInit)
      | false => Nat.blt a 236 && Nat.beq (am_kd a) 2 && Nat.beq b (am_np a + 1) && match decide (v = 1) with
        | true => am_nests.contains ((am_nm y).cls, z, a)
        | false => am_word wi (.methodLink (am_nm y).cls z (am_nm a)))) := rfl
    rw [ha] at hke
    obtain ⟨hd, hx, hr⟩ := am_pre (k := 3) hk hke
    simp only [Bool.and_eq_true] at hr
    obtain ⟨⟨⟨l1, l2⟩, l3⟩, l5⟩ := hr
    have l1 : a < 236 := by simpa [Nat.blt_eq] using l1
    have l2 := Nat.eq_of_beq_eq_true l2
    have l3 := Nat.eq_of_beq_eq_true l3
    cases hp : am_pop st b [] with
    | none => rw [hp] at h; exact False.elim h
    | some q =>
      obtain ⟨as, st'⟩ := q
      rw [hp] at h
      rcases as with _ | ⟨x1 | x1 | ⟨r1, q1⟩, as⟩ <;> try exact False.elim h
      dsimp only at h
      obtain ⟨hlen, hst⟩ := am_pop0 hp
      cases hb : (Nat.ble 16 r1 && (Nat.ble st'.length 4 && Nat.ble (am_wds (.inr (.inr (r1, q1)) :: as)) (am_mlx a))) with
      | false => rw [hb] at h; exact False.elim h
      | true =>
        rw [hb] at h
        simp only [Bool.and_eq_true] at hb
        have l16 := Nat.le_of_ble_eq_true hb.1
        obtain ⟨me', hc, hn⟩ := h
        intro H locs ls r
        have hsz0 := r.2.2.2.2.2.2.1
        have hmo := hCL.2.2.2 _ _ _ _ _ hc
        have hvas : ∀ x ∈ (.inr (.inr (r1, q1)) :: as : List am_V), am_vv me.1 x := fun x hx => r.stk x (by rw [hst]; exact List.mem_append_left _ (List.mem_reverse.mpr hx))
        have hvst : ∀ x ∈ st', am_vv me.1 x := fun x hx => r.stk x (by rw [hst]; exact List.mem_append_right _ hx)
        have hv5 : am_v g (.inr (.inr (r1, q1))) = .ref (am_a g (r1, q1)) := if_neg (by show ¬ r1 = 5; omega)
        have hmap : st.map (am_v g) = (as.map (am_v g)).reverse ++ am_v g (.inr (.inr (r1, q1))) :: st'.map (am_v g) := by
          rw [hst, List.reverse_cons, List.append_assoc, List.map_append, List.map_reverse]
          rfl
        rw [hv5] at hmap
        have h222 : a ≠ 222 := fun he => by rw [he] at l2; exact absurd l2 (by decide)
        have h223 : a ≠ 223 := fun he => by rw [he] at l2; exact absurd l2 (by decide)
        have hm := hMF a l1 h222 h223
        obtain ⟨⟨i0, w1⟩, w2, w3⟩ := (am_mfk hm).2.2 l2
        have hM := hCL.1 _ _ _ _ _ hc l1 h222 h223 hvas r.2.2.2.2.2.2.2.1 r.2.2.2.2.2.2.2.2.1 r.2.2.2.2.2.2.2.2.2 (am_wdsb hm hb.2.2)
        refine am_sized C r fun hsz => ?_
        refine am_cont (w := none) (aa := (.ref (am_a g (r1, q1)) :: as.map (am_v g)).toArray) r hvst ?_ hx (hN _ _ _ _ hn)
        have hf := am_hf hsz0 hmo (hB _ _ _ _ hn) hRc hRs
        have hpre := am_preS (as := .inr (.inr (r1, q1)) :: as) C r hsz
        rw [List.map_cons, hv5] at hpre
        cases hv1 : decide (v = 1) with
        | false =>
          rw [hv1] at l5
          have hcb := am_cb (me := me) (me' := me') C hm hRf hRl l5
          rw [w3] at hcb
          exact va_runI (am_fixC C) hM ⟨hcb, w2, am_hw C w1⟩ hpre rfl (by rw [List.length_map]; simp only [List.length_cons] at hlen; omega) r.loc.1 (by show st.map (am_v g) = _; exact hmap) (am_room8 hb.2.1) hd hf
        | true =>
          rw [hv1] at l5
          have hcb := am_cn (me := me) (me' := me') C hm hRf hRl (by simpa using l5)
          rw [w3] at hcb
          exact va_runIN (am_fixC C) hM ⟨hcb, w2, am_hw C w1⟩ hpre rfl (by rw [List.length_map]; simp only [List.length_cons] at hlen; omega) r.loc.1 (by show st.map (am_v g) = _; exact hmap) (am_room8 hb.2.1) hd hf
end AMC
