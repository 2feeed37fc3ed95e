section AMX
variable {g : am_G} {X0 : Nat → Nat → Nat → Int32} {p : Program} {l : Launch} {e : Env} {R : Room} {s : State} {m : MethodId} {args : Array Value} {below : List Frame} {meth : Method} {c : Code} {Qf : State → Prop} {y n0 nF : Nat}
variable {Cl : Nat → List am_V → am_M → Option am_V → am_M → Prop} {nx a b : Nat} {v : Int32} {ts : List (Int32 × Nat)} {L : am_L} {st : List am_V} {me : am_M} {N : Nat → am_L → List am_V → am_M → Prop} {Q : Option am_V → am_M → Prop} {pc ln wi : Nat}
theorem am_sound_step {d ip : Nat} {o : am_O} (C : am_ctx g X0 p s m args meth c y n0) (hk : am_chk y o = true) (h : am_step Cl o L st me N Q) (hN : ∀ ip L st me, N ip L st me → am_ok g X0 p l e R s m args below meth c Qf y n0 (am_pc y ip) L st me) (hCL : am_CL l g X0 d Cl) (hMF : ∀ a, a < 236 → a ≠ 222 → a ≠ 223 → am_MF a) (hRf : d + 1 ≤ R.frames) (hRl : 64 * (d + 1) ≤ R.locals) (hB : ∀ ip L st me, N ip L st me → me.1 ≤ nF) (hRc : nF - n0 ≤ R.cells) (hRs : am_sl nF - am_sl n0 ≤ R.slots) (hret : (o.2.2.1 = .ireturn ∨ o.2.2.1 = .areturn ∨ o.2.2.1 = .return_) → am_ok g X0 p l e R s m args below meth c Qf y n0 o.1 L st me) : am_ok g X0 p l e R s m args below meth c Qf y n0 o.1 L st me := by
  obtain ⟨pc, ln, ins, nx, a, b, v, ts, w⟩ := o
  cases ins
  case iconst z => exact am_z_iconst (Cl := Cl) (Q := Q) C hk h hN
  case bipush z => exact am_z_bipush (Cl := Cl) (Q := Q) C hk h hN
  case sipush z => exact am_z_sipush (Cl := Cl) (Q := Q) C hk h hN
  case ldc z => exact am_z_ldc (Cl := Cl) (Q := Q) C hk h hN
  case ldc_w z => exact am_z_ldc_w (Cl := Cl) (Q := Q) C hk h hN
  case ldc2_w z => exact am_z_ldc2_w (Cl := Cl) (Q := Q) C hk h hN
  case iload_n z => exact am_z_iload_n (Cl := Cl) (Q := Q) C hk h hN
  case iload z => exact am_z_iload (Cl := Cl) (Q := Q) C hk h hN
  case lload_n z => exact am_z_lload_n (Cl := Cl) (Q := Q) C hk h hN
  case aload_n z => exact am_z_aload_n (Cl := Cl) (Q := Q) C hk h hN
  case aload z => exact am_z_aload (Cl := Cl) (Q := Q) C hk h hN
  case istore_n z => exact am_z_istore_n (Cl := Cl) (Q := Q) C hk h hN
  case istore z => exact am_z_istore (Cl := Cl) (Q := Q) C hk h hN
  case astore_n z => exact am_z_astore_n (Cl := Cl) (Q := Q) C hk h hN
  case astore z => exact am_z_astore (Cl := Cl) (Q := Q) C hk h hN
  case iinc z1 z2 => exact am_z_iinc (Cl := Cl) (Q := Q) C hk h hN
  case iadd => exact am_z_iadd (Cl := Cl) (Q := Q) C hk h hN
  case isub => exact am_z_isub (Cl := Cl) (Q := Q) C hk h hN
  case imul => exact am_z_imul (Cl := Cl) (Q := Q) C hk h hN
  case idiv => exact am_z_idiv (Cl := Cl) (Q := Q) C hk h hN
  case irem => exact am_z_irem (Cl := Cl) (Q := Q) C hk h hN
  case ineg => exact am_z_ineg (Cl := Cl) (Q := Q) C hk h hN
  case iand => exact am_z_iand (Cl := Cl) (Q := Q) C hk h hN
  case ior => exact am_z_ior (Cl := Cl) (Q := Q) C hk h hN
  case ixor => exact am_z_ixor (Cl := Cl) (Q := Q) C hk h hN
  case ishl => exact am_z_ishl (Cl := Cl) (Q := Q) C hk h hN
  case ishr => exact am_z_ishr (Cl := Cl) (Q := Q) C hk h hN
  case iushr => exact am_z_iushr (Cl := Cl) (Q := Q) C hk h hN
  case i2l => exact am_z_i2l (Cl := Cl) (Q := Q) C hk h hN
  case l2i => exact am_z_l2i (Cl := Cl) (Q := Q) C hk h hN
  case i2b => exact am_z_i2b (Cl := Cl) (Q := Q) C hk h hN
  case i2s => exact am_z_i2s (Cl := Cl) (Q := Q) C hk h hN
  case i2c => exact am_z_i2c (Cl := Cl) (Q := Q) C hk h hN
  case ladd => exact am_z_ladd (Cl := Cl) (Q := Q) C hk h hN
  case land => exact am_z_land (Cl := Cl) (Q := Q) C hk h hN
  case lor => exact am_z_lor (Cl := Cl) (Q := Q) C hk h hN
  case lshl => exact am_z_lshl (Cl := Cl) (Q := Q) C hk h hN
  case lshr => exact am_z_lshr (Cl := Cl) (Q := Q) C hk h hN
  case lushr => exact am_z_lushr (Cl := Cl) (Q := Q) C hk h hN
  case lcmp => exact am_z_lcmp (Cl := Cl) (Q := Q) C hk h hN
  case dup => exact am_z_dup (Cl := Cl) (Q := Q) C hk h hN
  case dup2 => exact am_z_dup2 (Cl := Cl) (Q := Q) C hk h hN
  case pop => exact am_z_pop (Cl := Cl) (Q := Q) C hk h hN
  case ifCond cn z => exact am_z_ifCond (Cl := Cl) (Q := Q) C hk h hN
  case if_icmp cn z => exact am_z_if_icmp (Cl := Cl) (Q := Q) C hk h hN
  case goto z => exact am_z_goto (Cl := Cl) (Q := Q) C hk h hN
  case tableswitch d1 lo hi offs => exact am_z_tableswitch (Cl := Cl) (Q := Q) C hk h hN
  case lookupswitch d1 ps => exact am_z_lookupswitch (Cl := Cl) (Q := Q) C hk h hN
  case getfield z => exact am_z_getfield (Cl := Cl) (Q := Q) C hk h hN
  case putfield z => exact am_z_putfield (Cl := Cl) (Q := Q) C hk h hN
  case getstatic z => exact am_z_getstatic (Cl := Cl) (Q := Q) C hk h hN
  case iaload => exact am_z_iaload (Cl := Cl) (Q := Q) C hk h hN
  case baload => exact am_z_baload (Cl := Cl) (Q := Q) C hk h hN
  case iastore => exact am_z_iastore (Cl := Cl) (Q := Q) C hk h hN
  case arraylength => exact am_z_arraylength (Cl := Cl) (Q := Q) C hk h hN
  case aaload => exact am_z_aaload (Cl := Cl) (Q := Q) C hk h hN
  case aastore => exact am_z_aastore (Cl := Cl) (Q := Q) C hk h hN
  case new z => exact am_z_new (Cl := Cl) (Q := Q) C hk h hB hRc hRs hN
  case newarray z => exact am_z_newarray (Cl := Cl) (Q := Q) C hk h hB hRc hRs hN
  case anewarray z => exact am_z_anewarray (Cl := Cl) (Q := Q) C hk h hB hRc hRs hN
  case invokestatic z => exact am_z_invokestatic (Cl := Cl) (Q := Q) C hk h hCL hMF hRf hRl hB hRc hRs hN
  case invokevirtual z => exact am_z_invokevirtual (Cl := Cl) (Q := Q) C hk h hCL hMF hRf hRl hB hRc hRs hN
  case invokespecial z => exact am_z_invokespecial (Cl := Cl) (Q := Q) C hk h hCL hMF hRf hRl hB hRc hRs hN
  case ireturn => exact hret (Or.inl rfl)
  case areturn => exact hret (Or.inr (Or.inl rfl))
  case return_ => exact hret (Or.inr (Or.inr rfl))
  all_goals exact False.elim h
theorem am_nthO_mem {α : Type} {l : List α} {k : Nat} {x : α} (h : am_nthO l k = some x) : x ∈ l := by
  induction l generalizing k with
  | nil => cases h
  | cons z t ih =>
    cases k with
    | zero => cases h; exact List.mem_cons_self
    | succ k => exact List.mem_cons_of_mem _ (ih h)
theorem am_nth_mem {α : Type} {l : List α} {k : Nat} {d : α} : am_nth l k d ∈ l ∨ am_nth l k d = d := by
  induction l generalizing k with
  | nil => exact Or.inr (by cases k <;> rfl)
  | cons z t ih =>
    cases k with
    | zero => exact Or.inl List.mem_cons_self
    | succ k =>
      rcases ih (k := k) with h | h
      · exact Or.inl (List.mem_cons_of_mem _ h)
      · exact Or.inr h
theorem am_at_mem {cd : am_C} {ip : Nat} {o : am_O} (h : am_at cd ip = some o) : o ∈ cd.flatten := by
  have h1 := am_nthO_mem h
  rcases am_nth_mem (l := cd) (k := ip / 16) (d := []) with h2 | h2
  · exact List.mem_flatten.mpr ⟨_, h2, h1⟩
  · rw [h2] at h1
    cases h1
/-- a whole run -/
theorem am_sound_run {d f ip : Nat} (C : am_ctx g X0 p s m args meth c y n0) (hkk : ∀ o ∈ (am_cds y).flatten, am_chk y o = true) (hCL : am_CL l g X0 d Cl) (hMF : ∀ a, a < 236 → a ≠ 222 → a ≠ 223 → am_MF a) (hRf : d + 1 ≤ R.frames) (hRl : 64 * (d + 1) ≤ R.locals) (hQ : ∀ v me, Q v me → me.1 ≤ nF) (hRc : nF - n0 ≤ R.cells) (hRs : am_sl nF - am_sl n0 ≤ R.slots) (hret : ∀ (o : am_O) (L : am_L) (st : List am_V) (me : am_M) (N : am_N), am_chk y o = true → am_step Cl o L st me N Q → (o.2.2.1 = .ireturn ∨ o.2.2.1 = .areturn ∨ o.2.2.1 = .return_) → am_ok g X0 p l e R s m args below meth c Qf y n0 o.1 L st me) (h : am_run Cl (am_cds y) Q f ip L st me) : am_ok g X0 p l e R s m args below meth c Qf y n0 (am_pc y ip) L st me := by
  induction f generalizing ip L st me with
  | zero => exact False.elim h
  | succ f ih =>
    have h : (match am_at (am_cds y) ip with | none => False | some o => am_step Cl o L st me (am_run Cl (am_cds y) Q f) Q) := h
    cases ho : am_at (am_cds y) ip with
    | none => rw [ho] at h; exact False.elim h
    | some o =>
      rw [ho] at h
      have hpc : am_pc y ip = o.1 := by unfold am_pc; rw [ho]
      rw [hpc]
      have hk := hkk o (am_at_mem ho)
      refine am_sound_step (ip := ip) C hk h (fun ip L st me q => ih q) hCL hMF hRf hRl (fun ip L st me q => ?_) hRc hRs (hret o L st me _ hk h)
      obtain ⟨v, me', q1, q2⟩ := am_run_le hCL.2.2.2 q
      exact Nat.le_trans q2 (hQ v me' q1)
theorem am_wds_sl (hc : g.2.2.1.category = 1) {as : List am_V} : (lg_sl (as.map (am_v g))).length = am_wds as := by
  induction as with
  | nil => rfl
  | cons x t ih =>
    have e : lg_sl ((x :: t).map (am_v g)) = (if (am_v g x).category = 2 then [.val (am_v g x), .second] else [.val (am_v g x)]) ++ lg_sl (t.map (am_v g)) := rfl
    rw [e, List.length_append, ih]
    rcases x with x | x | q
    · rw [if_neg (show ¬ (am_v g (.inl x)).category = 2 from fun h => absurd (show (1 : Nat) = 2 from h) (by decide))]
      show 1 + _ = am_wds t + 1
      omega
    · rw [if_pos (show (am_v g (.inr (.inl x))).category = 2 from rfl)]
      show 2 + _ = am_wds t + 2
      omega
    · rw [if_neg (fun h => by have := (am_isL_cat hc).mp h; cases this)]
      show 1 + _ = am_wds t + 1
      omega
theorem am_args_lv (hc : g.2.2.1.category = 1) {as : List am_V} {i : Nat} : lv_args i (as.map (am_v g)) = (am_args i as).map fun q => (q.1, am_v g q.2) := by
  induction as generalizing i with
  | nil => rfl
  | cons x t ih =>
    show (i, am_v g x) :: lv_args (if (am_v g x).category = 2 then i + 2 else i + 1) (t.map (am_v g)) = (i, am_v g x) :: (am_args (if am_isL x = true then i + 2 else i + 1) t).map fun q => (q.1, am_v g q.2)
    rw [← ih]
    congr 2
    by_cases h : am_isL x = true
    · rw [if_pos h, if_pos ((am_isL_cat hc).mpr h)]
    · rw [if_neg h, if_neg (fun q => h ((am_isL_cat hc).mp q))]
theorem am_args_ge {as : List am_V} {i : Nat} : ∀ q ∈ am_args i as, i ≤ q.1 ∧ q.2 ∈ as := by
  induction as generalizing i with
  | nil => intro q hq; cases hq
  | cons x t ih =>
    intro q hq
    rcases List.mem_cons.mp hq with h | h
    · rw [h]; exact ⟨Nat.le_refl _, List.mem_cons_self⟩
    · obtain ⟨h1, h2⟩ := ih q h
      refine ⟨?_, List.mem_cons_of_mem _ h2⟩
      split at h1 <;> omega
theorem am_args_nd {as : List am_V} {i : Nat} : ((am_args i as).map fun q => q.1).Nodup := by
  induction as generalizing i with
  | nil => exact List.nodup_nil
  | cons x t ih =>
    show (i :: (am_args (if am_isL x = true then i + 2 else i + 1) t).map fun q => q.1).Nodup
    rw [List.nodup_cons]
    refine ⟨fun h => ?_, ih⟩
    obtain ⟨q, hq, he⟩ := List.mem_map.mp h
    have := (am_args_ge q hq).1
    split at this <;> omega
end AMX
/-- the return of a method whose contract is asked -/
theorem am_ret {g : am_G} {X0 : Nat → Nat → Nat → Int32} {p : Program} {l : Launch} {e : Env} {R : Room} {s : State} {m : MethodId} {args : Array Value} {below : List Frame} {meth : Method} {c : Code} {y : Nat} {Cl : Nat → List am_V → am_M → Option am_V → am_M → Prop} {me0 me' : am_M} {w : Option am_V} (C : am_ctx g X0 p s m args meth c y me0.1) (hr : meth.sig.returnType = am_rt y) (hlocks : meth.locks = false) (o : am_O) (L : am_L) (st : List am_V) (me : am_M) (N : am_N) (hk : am_chk y o = true) (h : am_step Cl o L st me N (fun w' m' => w' = w ∧ m' = me')) (hi : o.2.2.1 = .ireturn ∨ o.2.2.1 = .areturn ∨ o.2.2.1 = .return_) : am_ok g X0 p l e R s m args below meth c (MQ below (am_Qc g X0 me0 w me') args s (me'.1 - me0.1) (am_sl me'.1 - am_sl me0.1) (am_A g)) y me0.1 o.1 L st me := by
  obtain ⟨pc, ln, ins, nx, a, b, v, ts, wi⟩ := o
  dsimp only at hi ⊢
  intro H locs ls r
  rcases hi with rfl | rfl | rfl
  · have hk2 : (decide (decode (am_by y) pc = .ok (.ireturn, ln)) && (Nat.beq ln 1 && decide (am_rt y = some (am_nth [.int, .boolean, .char, .byte] a .int)))) = true := hk
    simp only [Bool.and_eq_true, decide_eq_true_eq] at hk2
    obtain ⟨hd, hl, ht⟩ := hk2
    have hl := Nat.eq_of_beq_eq_true hl
    subst hl
    rcases st with _ | ⟨x1 | x1, _ | ⟨z, st⟩⟩ <;> try exact False.elim h
    obtain ⟨hnr, hw, hm⟩ := h
    subst hm
    have hnar : narrow (am_nth [.int, .boolean, .char, .byte] a .int) (.int x1) = .int x1 := by
      rcases a with _ | _ | _ | _ | a
      · rfl
      · rcases hnr with rfl | rfl <;> decide
      · exact hnr
      · exact hnr
      · exact (by cases a <;> rfl : am_nth [FieldType.int, .boolean, .char, .byte] (a + 4) .int = .int) ▸ rfl
    refine W.zret C.1 C.2.1 (hr.trans ht) hnar (fun t hT hWm => ?_) r.2.1.2.2 hd hlocks
    exact ⟨by rw [← hw]; rfl, ⟨fun x hx => by rw [← hw] at hx; cases hx; trivial, r.2.2.2.2.2.2.1, r.2.2.2.2.2.2.2⟩, by rw [hT]; exact r.1, r.2.1.F hT⟩
  · have hk2 : (decide (decode (am_by y) pc = .ok (.areturn, ln)) && (Nat.beq ln 1 && decide (am_rt y = some (.object "GhostTable$Text")))) = true := hk
    simp only [Bool.and_eq_true, decide_eq_true_eq] at hk2
    obtain ⟨hd, hl, ht⟩ := hk2
    have hl := Nat.eq_of_beq_eq_true hl
    subst hl
    have h : am_s_areturn Cl nx a b v ts L st me N (fun w' m' => w' = w ∧ m' = me') := h
    unfold am_s_areturn at h
    rcases st with _ | ⟨x1 | x1 | ⟨r1, q1⟩, _ | ⟨z, st⟩⟩ <;> try exact False.elim h
    dsimp only at h
    cases hb : Nat.beq r1 5 with
    | true => rw [hb] at h; exact False.elim h
    | false =>
      rw [hb] at h
      obtain ⟨hw, hm⟩ := h
      subst hm
      have h5 : ¬ r1 = 5 := fun he => by rw [he] at hb; cases hb
      have hv5 : am_v g (.inr (.inr (r1, q1))) = .ref (am_a g (r1, q1)) := if_neg h5
      rw [List.map_cons, hv5]
      refine W.aret C.1 C.2.1 (hr.trans ht) (Or.inl ⟨_, rfl⟩) (Or.inr ⟨_, rfl⟩) (fun t hT hWm => ?_) r.2.1.2.2 hd hlocks
      exact ⟨by rw [← hw, Option.map_some, hv5], ⟨fun x hx => by rw [← hw] at hx; cases hx; exact am_vh r.stk, r.2.2.2.2.2.2.1, r.2.2.2.2.2.2.2⟩, by rw [hT]; exact r.1, r.2.1.F hT⟩
  · have hk2 : (decide (decode (am_by y) pc = .ok (.return_, ln)) && (Nat.beq ln 1 && decide (am_rt y = none))) = true := hk
    simp only [Bool.and_eq_true, decide_eq_true_eq] at hk2
    obtain ⟨hd, hl, ht⟩ := hk2
    have hl := Nat.eq_of_beq_eq_true hl
    subst hl
    rcases st with _ | ⟨z, st⟩ <;> try exact False.elim h
    obtain ⟨hw, hm⟩ := h
    subst hm
    refine W.vret C.1 C.2.1 (hr.trans ht) (fun t hT hWm => ?_) r.2.1.2.2 hd hlocks
    exact ⟨by rw [← hw]; rfl, ⟨fun x hx => (by rw [← hw] at hx; cases hx), r.2.2.2.2.2.2.1, r.2.2.2.2.2.2.2⟩, by rw [hT]; exact r.1, r.2.1.F hT⟩
def am_upto (P : Nat → Prop) : Nat → Prop
  | 0 => True
  | n + 1 => am_upto P n ∧ P n
theorem am_upto_at {P : Nat → Prop} {n : Nat} (h : am_upto P n) {k : Nat} (hk : k < n) : P k := by
  induction n with
  | zero => omega
  | succ n ih =>
    rcases Nat.lt_or_ge k n with h1 | h1
    · exact ih h.1 h1
    · rw [show k = n by omega]
      exact h.2
def am_PY (y : Nat) : Prop := am_okm y = true ∧ (y ≠ 222 → y ≠ 223 → am_MF y) ∧ am_pc y 0 = 0
theorem am_mk_code {y i : Nat} (h : lw_tbl[i]? = some (.code (am_nm y) (am_by y) (am_ml y) (am_rt y))) : Cond.code (am_nm y) (am_by y) (am_ml y) (am_rt y) ∈ am_tbl := List.mem_filter.mpr ⟨List.mem_of_getElem? h, rfl⟩
theorem am_u0 : am_upto am_PY 0 := trivial
theorem am_u1 : am_upto am_PY 1 := ⟨am_u0, am_k0, fun _ _ => ⟨am_mk0, am_mk_code am_cw0⟩, rfl⟩
theorem am_u2 : am_upto am_PY 2 := ⟨am_u1, am_k1, fun _ _ => ⟨am_mk1, am_mk_code am_cw1⟩, rfl⟩
theorem am_u3 : am_upto am_PY 3 := ⟨am_u2, am_k2, fun _ _ => ⟨am_mk2, am_mk_code am_cw2⟩, rfl⟩
theorem am_u4 : am_upto am_PY 4 := ⟨am_u3, am_k3, fun _ _ => ⟨am_mk3, am_mk_code am_cw3⟩, rfl⟩
theorem am_u5 : am_upto am_PY 5 := ⟨am_u4, am_k4, fun _ _ => ⟨am_mk4, am_mk_code am_cw4⟩, rfl⟩
theorem am_u6 : am_upto am_PY 6 := ⟨am_u5, am_k5, fun _ _ => ⟨am_mk5, am_mk_code am_cw5⟩, rfl⟩
theorem am_u7 : am_upto am_PY 7 := ⟨am_u6, am_k6, fun _ _ => ⟨am_mk6, am_mk_code am_cw6⟩, rfl⟩
theorem am_u8 : am_upto am_PY 8 := ⟨am_u7, am_k7, fun _ _ => ⟨am_mk7, am_mk_code am_cw7⟩, rfl⟩
theorem am_u9 : am_upto am_PY 9 := ⟨am_u8, am_k8, fun _ _ => ⟨am_mk8, am_mk_code am_cw8⟩, rfl⟩
theorem am_u10 : am_upto am_PY 10 := ⟨am_u9, am_k9, fun _ _ => ⟨am_mk9, am_mk_code am_cw9⟩, rfl⟩
theorem am_u11 : am_upto am_PY 11 := ⟨am_u10, am_k10, fun _ _ => ⟨am_mk10, am_mk_code am_cw10⟩, rfl⟩
theorem am_u12 : am_upto am_PY 12 := ⟨am_u11, am_k11, fun _ _ => ⟨am_mk11, am_mk_code am_cw11⟩, rfl⟩
theorem am_u13 : am_upto am_PY 13 := ⟨am_u12, am_k12, fun _ _ => ⟨am_mk12, am_mk_code am_cw12⟩, rfl⟩
theorem am_u14 : am_upto am_PY 14 := ⟨am_u13, am_k13, fun _ _ => ⟨am_mk13, am_mk_code am_cw13⟩, rfl⟩
theorem am_u15 : am_upto am_PY 15 := ⟨am_u14, am_k14, fun _ _ => ⟨am_mk14, am_mk_code am_cw14⟩, rfl⟩
theorem am_u16 : am_upto am_PY 16 := ⟨am_u15, am_k15, fun _ _ => ⟨am_mk15, am_mk_code am_cw15⟩, rfl⟩
theorem am_u17 : am_upto am_PY 17 := ⟨am_u16, am_k16, fun _ _ => ⟨am_mk16, am_mk_code am_cw16⟩, rfl⟩
theorem am_u18 : am_upto am_PY 18 := ⟨am_u17, am_k17, fun _ _ => ⟨am_mk17, am_mk_code am_cw17⟩, rfl⟩
theorem am_u19 : am_upto am_PY 19 := ⟨am_u18, am_k18, fun _ _ => ⟨am_mk18, am_mk_code am_cw18⟩, rfl⟩
theorem am_u20 : am_upto am_PY 20 := ⟨am_u19, am_k19, fun _ _ => ⟨am_mk19, am_mk_code am_cw19⟩, rfl⟩
theorem am_u21 : am_upto am_PY 21 := ⟨am_u20, am_k20, fun _ _ => ⟨am_mk20, am_mk_code am_cw20⟩, rfl⟩
theorem am_u22 : am_upto am_PY 22 := ⟨am_u21, am_k21, fun _ _ => ⟨am_mk21, am_mk_code am_cw21⟩, rfl⟩
theorem am_u23 : am_upto am_PY 23 := ⟨am_u22, am_k22, fun _ _ => ⟨am_mk22, am_mk_code am_cw22⟩, rfl⟩
theorem am_u24 : am_upto am_PY 24 := ⟨am_u23, am_k23, fun _ _ => ⟨am_mk23, am_mk_code am_cw23⟩, rfl⟩
theorem am_u25 : am_upto am_PY 25 := ⟨am_u24, am_k24, fun _ _ => ⟨am_mk24, am_mk_code am_cw24⟩, rfl⟩
theorem am_u26 : am_upto am_PY 26 := ⟨am_u25, am_k25, fun _ _ => ⟨am_mk25, am_mk_code am_cw25⟩, rfl⟩
theorem am_u27 : am_upto am_PY 27 := ⟨am_u26, am_k26, fun _ _ => ⟨am_mk26, am_mk_code am_cw26⟩, rfl⟩
theorem am_u28 : am_upto am_PY 28 := ⟨am_u27, am_k27, fun _ _ => ⟨am_mk27, am_mk_code am_cw27⟩, rfl⟩
theorem am_u29 : am_upto am_PY 29 := ⟨am_u28, am_k28, fun _ _ => ⟨am_mk28, am_mk_code am_cw28⟩, rfl⟩
theorem am_u30 : am_upto am_PY 30 := ⟨am_u29, am_k29, fun _ _ => ⟨am_mk29, am_mk_code am_cw29⟩, rfl⟩
theorem am_u31 : am_upto am_PY 31 := ⟨am_u30, am_k30, fun _ _ => ⟨am_mk30, am_mk_code am_cw30⟩, rfl⟩
theorem am_u32 : am_upto am_PY 32 := ⟨am_u31, am_k31, fun _ _ => ⟨am_mk31, am_mk_code am_cw31⟩, rfl⟩
theorem am_u33 : am_upto am_PY 33 := ⟨am_u32, am_k32, fun _ _ => ⟨am_mk32, am_mk_code am_cw32⟩, rfl⟩
theorem am_u34 : am_upto am_PY 34 := ⟨am_u33, am_k33, fun _ _ => ⟨am_mk33, am_mk_code am_cw33⟩, rfl⟩
theorem am_u35 : am_upto am_PY 35 := ⟨am_u34, am_k34, fun _ _ => ⟨am_mk34, am_mk_code am_cw34⟩, rfl⟩
theorem am_u36 : am_upto am_PY 36 := ⟨am_u35, am_k35, fun _ _ => ⟨am_mk35, am_mk_code am_cw35⟩, rfl⟩
theorem am_u37 : am_upto am_PY 37 := ⟨am_u36, am_k36, fun _ _ => ⟨am_mk36, am_mk_code am_cw36⟩, rfl⟩
theorem am_u38 : am_upto am_PY 38 := ⟨am_u37, am_k37, fun _ _ => ⟨am_mk37, am_mk_code am_cw37⟩, rfl⟩
theorem am_u39 : am_upto am_PY 39 := ⟨am_u38, am_k38, fun _ _ => ⟨am_mk38, am_mk_code am_cw38⟩, rfl⟩
theorem am_u40 : am_upto am_PY 40 := ⟨am_u39, am_k39, fun _ _ => ⟨am_mk39, am_mk_code am_cw39⟩, rfl⟩
theorem am_u41 : am_upto am_PY 41 := ⟨am_u40, am_k40, fun _ _ => ⟨am_mk40, am_mk_code am_cw40⟩, rfl⟩
theorem am_u42 : am_upto am_PY 42 := ⟨am_u41, am_k41, fun _ _ => ⟨am_mk41, am_mk_code am_cw41⟩, rfl⟩
theorem am_u43 : am_upto am_PY 43 := ⟨am_u42, am_k42, fun _ _ => ⟨am_mk42, am_mk_code am_cw42⟩, rfl⟩
theorem am_u44 : am_upto am_PY 44 := ⟨am_u43, am_k43, fun _ _ => ⟨am_mk43, am_mk_code am_cw43⟩, rfl⟩
theorem am_u45 : am_upto am_PY 45 := ⟨am_u44, am_k44, fun _ _ => ⟨am_mk44, am_mk_code am_cw44⟩, rfl⟩
theorem am_u46 : am_upto am_PY 46 := ⟨am_u45, am_k45, fun _ _ => ⟨am_mk45, am_mk_code am_cw45⟩, rfl⟩
theorem am_u47 : am_upto am_PY 47 := ⟨am_u46, am_k46, fun _ _ => ⟨am_mk46, am_mk_code am_cw46⟩, rfl⟩
theorem am_u48 : am_upto am_PY 48 := ⟨am_u47, am_k47, fun _ _ => ⟨am_mk47, am_mk_code am_cw47⟩, rfl⟩
theorem am_u49 : am_upto am_PY 49 := ⟨am_u48, am_k48, fun _ _ => ⟨am_mk48, am_mk_code am_cw48⟩, rfl⟩
theorem am_u50 : am_upto am_PY 50 := ⟨am_u49, am_k49, fun _ _ => ⟨am_mk49, am_mk_code am_cw49⟩, rfl⟩
theorem am_u51 : am_upto am_PY 51 := ⟨am_u50, am_k50, fun _ _ => ⟨am_mk50, am_mk_code am_cw50⟩, rfl⟩
theorem am_u52 : am_upto am_PY 52 := ⟨am_u51, am_k51, fun _ _ => ⟨am_mk51, am_mk_code am_cw51⟩, rfl⟩
theorem am_u53 : am_upto am_PY 53 := ⟨am_u52, am_k52, fun _ _ => ⟨am_mk52, am_mk_code am_cw52⟩, rfl⟩
theorem am_u54 : am_upto am_PY 54 := ⟨am_u53, am_k53, fun _ _ => ⟨am_mk53, am_mk_code am_cw53⟩, rfl⟩
theorem am_u55 : am_upto am_PY 55 := ⟨am_u54, am_k54, fun _ _ => ⟨am_mk54, am_mk_code am_cw54⟩, rfl⟩
theorem am_u56 : am_upto am_PY 56 := ⟨am_u55, am_k55, fun _ _ => ⟨am_mk55, am_mk_code am_cw55⟩, rfl⟩
theorem am_u57 : am_upto am_PY 57 := ⟨am_u56, am_k56, fun _ _ => ⟨am_mk56, am_mk_code am_cw56⟩, rfl⟩
theorem am_u58 : am_upto am_PY 58 := ⟨am_u57, am_k57, fun _ _ => ⟨am_mk57, am_mk_code am_cw57⟩, rfl⟩
theorem am_u59 : am_upto am_PY 59 := ⟨am_u58, am_k58, fun _ _ => ⟨am_mk58, am_mk_code am_cw58⟩, rfl⟩
theorem am_u60 : am_upto am_PY 60 := ⟨am_u59, am_k59, fun _ _ => ⟨am_mk59, am_mk_code am_cw59⟩, rfl⟩
theorem am_u61 : am_upto am_PY 61 := ⟨am_u60, am_k60, fun _ _ => ⟨am_mk60, am_mk_code am_cw60⟩, rfl⟩
theorem am_u62 : am_upto am_PY 62 := ⟨am_u61, am_k61, fun _ _ => ⟨am_mk61, am_mk_code am_cw61⟩, rfl⟩
theorem am_u63 : am_upto am_PY 63 := ⟨am_u62, am_k62, fun _ _ => ⟨am_mk62, am_mk_code am_cw62⟩, rfl⟩
theorem am_u64 : am_upto am_PY 64 := ⟨am_u63, am_k63, fun _ _ => ⟨am_mk63, am_mk_code am_cw63⟩, rfl⟩
theorem am_u65 : am_upto am_PY 65 := ⟨am_u64, am_k64, fun _ _ => ⟨am_mk64, am_mk_code am_cw64⟩, rfl⟩
theorem am_u66 : am_upto am_PY 66 := ⟨am_u65, am_k65, fun _ _ => ⟨am_mk65, am_mk_code am_cw65⟩, rfl⟩
theorem am_u67 : am_upto am_PY 67 := ⟨am_u66, am_k66, fun _ _ => ⟨am_mk66, am_mk_code am_cw66⟩, rfl⟩
theorem am_u68 : am_upto am_PY 68 := ⟨am_u67, am_k67, fun _ _ => ⟨am_mk67, am_mk_code am_cw67⟩, rfl⟩
theorem am_u69 : am_upto am_PY 69 := ⟨am_u68, am_k68, fun _ _ => ⟨am_mk68, am_mk_code am_cw68⟩, rfl⟩
theorem am_u70 : am_upto am_PY 70 := ⟨am_u69, am_k69, fun _ _ => ⟨am_mk69, am_mk_code am_cw69⟩, rfl⟩
theorem am_u71 : am_upto am_PY 71 := ⟨am_u70, am_k70, fun _ _ => ⟨am_mk70, am_mk_code am_cw70⟩, rfl⟩
theorem am_u72 : am_upto am_PY 72 := ⟨am_u71, am_k71, fun _ _ => ⟨am_mk71, am_mk_code am_cw71⟩, rfl⟩
theorem am_u73 : am_upto am_PY 73 := ⟨am_u72, am_k72, fun _ _ => ⟨am_mk72, am_mk_code am_cw72⟩, rfl⟩
theorem am_u74 : am_upto am_PY 74 := ⟨am_u73, am_k73, fun _ _ => ⟨am_mk73, am_mk_code am_cw73⟩, rfl⟩
theorem am_u75 : am_upto am_PY 75 := ⟨am_u74, am_k74, fun _ _ => ⟨am_mk74, am_mk_code am_cw74⟩, rfl⟩
theorem am_u76 : am_upto am_PY 76 := ⟨am_u75, am_k75, fun _ _ => ⟨am_mk75, am_mk_code am_cw75⟩, rfl⟩
theorem am_u77 : am_upto am_PY 77 := ⟨am_u76, am_k76, fun _ _ => ⟨am_mk76, am_mk_code am_cw76⟩, rfl⟩
theorem am_u78 : am_upto am_PY 78 := ⟨am_u77, am_k77, fun _ _ => ⟨am_mk77, am_mk_code am_cw77⟩, rfl⟩
theorem am_u79 : am_upto am_PY 79 := ⟨am_u78, am_k78, fun _ _ => ⟨am_mk78, am_mk_code am_cw78⟩, rfl⟩
theorem am_u80 : am_upto am_PY 80 := ⟨am_u79, am_k79, fun _ _ => ⟨am_mk79, am_mk_code am_cw79⟩, rfl⟩
theorem am_u81 : am_upto am_PY 81 := ⟨am_u80, am_k80, fun _ _ => ⟨am_mk80, am_mk_code am_cw80⟩, rfl⟩
theorem am_u82 : am_upto am_PY 82 := ⟨am_u81, am_k81, fun _ _ => ⟨am_mk81, am_mk_code am_cw81⟩, rfl⟩
theorem am_u83 : am_upto am_PY 83 := ⟨am_u82, am_k82, fun _ _ => ⟨am_mk82, am_mk_code am_cw82⟩, rfl⟩
theorem am_u84 : am_upto am_PY 84 := ⟨am_u83, am_k83, fun _ _ => ⟨am_mk83, am_mk_code am_cw83⟩, rfl⟩
theorem am_u85 : am_upto am_PY 85 := ⟨am_u84, am_k84, fun _ _ => ⟨am_mk84, am_mk_code am_cw84⟩, rfl⟩
theorem am_u86 : am_upto am_PY 86 := ⟨am_u85, am_k85, fun _ _ => ⟨am_mk85, am_mk_code am_cw85⟩, rfl⟩
theorem am_u87 : am_upto am_PY 87 := ⟨am_u86, am_k86, fun _ _ => ⟨am_mk86, am_mk_code am_cw86⟩, rfl⟩
theorem am_u88 : am_upto am_PY 88 := ⟨am_u87, am_k87, fun _ _ => ⟨am_mk87, am_mk_code am_cw87⟩, rfl⟩
theorem am_u89 : am_upto am_PY 89 := ⟨am_u88, am_k88, fun _ _ => ⟨am_mk88, am_mk_code am_cw88⟩, rfl⟩
theorem am_u90 : am_upto am_PY 90 := ⟨am_u89, am_k89, fun _ _ => ⟨am_mk89, am_mk_code am_cw89⟩, rfl⟩
theorem am_u91 : am_upto am_PY 91 := ⟨am_u90, am_k90, fun _ _ => ⟨am_mk90, am_mk_code am_cw90⟩, rfl⟩
theorem am_u92 : am_upto am_PY 92 := ⟨am_u91, am_k91, fun _ _ => ⟨am_mk91, am_mk_code am_cw91⟩, rfl⟩
theorem am_u93 : am_upto am_PY 93 := ⟨am_u92, am_k92, fun _ _ => ⟨am_mk92, am_mk_code am_cw92⟩, rfl⟩
theorem am_u94 : am_upto am_PY 94 := ⟨am_u93, am_k93, fun _ _ => ⟨am_mk93, am_mk_code am_cw93⟩, rfl⟩
theorem am_u95 : am_upto am_PY 95 := ⟨am_u94, am_k94, fun _ _ => ⟨am_mk94, am_mk_code am_cw94⟩, rfl⟩
theorem am_u96 : am_upto am_PY 96 := ⟨am_u95, am_k95, fun _ _ => ⟨am_mk95, am_mk_code am_cw95⟩, rfl⟩
theorem am_u97 : am_upto am_PY 97 := ⟨am_u96, am_k96, fun _ _ => ⟨am_mk96, am_mk_code am_cw96⟩, rfl⟩
theorem am_u98 : am_upto am_PY 98 := ⟨am_u97, am_k97, fun _ _ => ⟨am_mk97, am_mk_code am_cw97⟩, rfl⟩
theorem am_u99 : am_upto am_PY 99 := ⟨am_u98, am_k98, fun _ _ => ⟨am_mk98, am_mk_code am_cw98⟩, rfl⟩
theorem am_u100 : am_upto am_PY 100 := ⟨am_u99, am_k99, fun _ _ => ⟨am_mk99, am_mk_code am_cw99⟩, rfl⟩
theorem am_u101 : am_upto am_PY 101 := ⟨am_u100, am_k100, fun _ _ => ⟨am_mk100, am_mk_code am_cw100⟩, rfl⟩
theorem am_u102 : am_upto am_PY 102 := ⟨am_u101, am_k101, fun _ _ => ⟨am_mk101, am_mk_code am_cw101⟩, rfl⟩
theorem am_u103 : am_upto am_PY 103 := ⟨am_u102, am_k102, fun _ _ => ⟨am_mk102, am_mk_code am_cw102⟩, rfl⟩
theorem am_u104 : am_upto am_PY 104 := ⟨am_u103, am_k103, fun _ _ => ⟨am_mk103, am_mk_code am_cw103⟩, rfl⟩
theorem am_u105 : am_upto am_PY 105 := ⟨am_u104, am_k104, fun _ _ => ⟨am_mk104, am_mk_code am_cw104⟩, rfl⟩
theorem am_u106 : am_upto am_PY 106 := ⟨am_u105, am_k105, fun _ _ => ⟨am_mk105, am_mk_code am_cw105⟩, rfl⟩
theorem am_u107 : am_upto am_PY 107 := ⟨am_u106, am_k106, fun _ _ => ⟨am_mk106, am_mk_code am_cw106⟩, rfl⟩
theorem am_u108 : am_upto am_PY 108 := ⟨am_u107, am_k107, fun _ _ => ⟨am_mk107, am_mk_code am_cw107⟩, rfl⟩
theorem am_u109 : am_upto am_PY 109 := ⟨am_u108, am_k108, fun _ _ => ⟨am_mk108, am_mk_code am_cw108⟩, rfl⟩
theorem am_u110 : am_upto am_PY 110 := ⟨am_u109, am_k109, fun _ _ => ⟨am_mk109, am_mk_code am_cw109⟩, rfl⟩
theorem am_u111 : am_upto am_PY 111 := ⟨am_u110, am_k110, fun _ _ => ⟨am_mk110, am_mk_code am_cw110⟩, rfl⟩
theorem am_u112 : am_upto am_PY 112 := ⟨am_u111, am_k111, fun _ _ => ⟨am_mk111, am_mk_code am_cw111⟩, rfl⟩
theorem am_u113 : am_upto am_PY 113 := ⟨am_u112, am_k112, fun _ _ => ⟨am_mk112, am_mk_code am_cw112⟩, rfl⟩
theorem am_u114 : am_upto am_PY 114 := ⟨am_u113, am_k113, fun _ _ => ⟨am_mk113, am_mk_code am_cw113⟩, rfl⟩
theorem am_u115 : am_upto am_PY 115 := ⟨am_u114, am_k114, fun _ _ => ⟨am_mk114, am_mk_code am_cw114⟩, rfl⟩
theorem am_u116 : am_upto am_PY 116 := ⟨am_u115, am_k115, fun _ _ => ⟨am_mk115, am_mk_code am_cw115⟩, rfl⟩
theorem am_u117 : am_upto am_PY 117 := ⟨am_u116, am_k116, fun _ _ => ⟨am_mk116, am_mk_code am_cw116⟩, rfl⟩
theorem am_u118 : am_upto am_PY 118 := ⟨am_u117, am_k117, fun _ _ => ⟨am_mk117, am_mk_code am_cw117⟩, rfl⟩
theorem am_u119 : am_upto am_PY 119 := ⟨am_u118, am_k118, fun _ _ => ⟨am_mk118, am_mk_code am_cw118⟩, rfl⟩
theorem am_u120 : am_upto am_PY 120 := ⟨am_u119, am_k119, fun _ _ => ⟨am_mk119, am_mk_code am_cw119⟩, rfl⟩
theorem am_u121 : am_upto am_PY 121 := ⟨am_u120, am_k120, fun _ _ => ⟨am_mk120, am_mk_code am_cw120⟩, rfl⟩
theorem am_u122 : am_upto am_PY 122 := ⟨am_u121, am_k121, fun _ _ => ⟨am_mk121, am_mk_code am_cw121⟩, rfl⟩
theorem am_u123 : am_upto am_PY 123 := ⟨am_u122, am_k122, fun _ _ => ⟨am_mk122, am_mk_code am_cw122⟩, rfl⟩
theorem am_u124 : am_upto am_PY 124 := ⟨am_u123, am_k123, fun _ _ => ⟨am_mk123, am_mk_code am_cw123⟩, rfl⟩
theorem am_u125 : am_upto am_PY 125 := ⟨am_u124, am_k124, fun _ _ => ⟨am_mk124, am_mk_code am_cw124⟩, rfl⟩
theorem am_u126 : am_upto am_PY 126 := ⟨am_u125, am_k125, fun _ _ => ⟨am_mk125, am_mk_code am_cw125⟩, rfl⟩
theorem am_u127 : am_upto am_PY 127 := ⟨am_u126, am_k126, fun _ _ => ⟨am_mk126, am_mk_code am_cw126⟩, rfl⟩
theorem am_u128 : am_upto am_PY 128 := ⟨am_u127, am_k127, fun _ _ => ⟨am_mk127, am_mk_code am_cw127⟩, rfl⟩
theorem am_u129 : am_upto am_PY 129 := ⟨am_u128, am_k128, fun _ _ => ⟨am_mk128, am_mk_code am_cw128⟩, rfl⟩
theorem am_u130 : am_upto am_PY 130 := ⟨am_u129, am_k129, fun _ _ => ⟨am_mk129, am_mk_code am_cw129⟩, rfl⟩
theorem am_u131 : am_upto am_PY 131 := ⟨am_u130, am_k130, fun _ _ => ⟨am_mk130, am_mk_code am_cw130⟩, rfl⟩
theorem am_u132 : am_upto am_PY 132 := ⟨am_u131, am_k131, fun _ _ => ⟨am_mk131, am_mk_code am_cw131⟩, rfl⟩
theorem am_u133 : am_upto am_PY 133 := ⟨am_u132, am_k132, fun _ _ => ⟨am_mk132, am_mk_code am_cw132⟩, rfl⟩
theorem am_u134 : am_upto am_PY 134 := ⟨am_u133, am_k133, fun _ _ => ⟨am_mk133, am_mk_code am_cw133⟩, rfl⟩
theorem am_u135 : am_upto am_PY 135 := ⟨am_u134, am_k134, fun _ _ => ⟨am_mk134, am_mk_code am_cw134⟩, rfl⟩
theorem am_u136 : am_upto am_PY 136 := ⟨am_u135, am_k135, fun _ _ => ⟨am_mk135, am_mk_code am_cw135⟩, rfl⟩
theorem am_u137 : am_upto am_PY 137 := ⟨am_u136, am_k136, fun _ _ => ⟨am_mk136, am_mk_code am_cw136⟩, rfl⟩
theorem am_u138 : am_upto am_PY 138 := ⟨am_u137, am_k137, fun _ _ => ⟨am_mk137, am_mk_code am_cw137⟩, rfl⟩
theorem am_u139 : am_upto am_PY 139 := ⟨am_u138, am_k138, fun _ _ => ⟨am_mk138, am_mk_code am_cw138⟩, rfl⟩
theorem am_u140 : am_upto am_PY 140 := ⟨am_u139, am_k139, fun _ _ => ⟨am_mk139, am_mk_code am_cw139⟩, rfl⟩
theorem am_u141 : am_upto am_PY 141 := ⟨am_u140, am_k140, fun _ _ => ⟨am_mk140, am_mk_code am_cw140⟩, rfl⟩
theorem am_u142 : am_upto am_PY 142 := ⟨am_u141, am_k141, fun _ _ => ⟨am_mk141, am_mk_code am_cw141⟩, rfl⟩
theorem am_u143 : am_upto am_PY 143 := ⟨am_u142, am_k142, fun _ _ => ⟨am_mk142, am_mk_code am_cw142⟩, rfl⟩
theorem am_u144 : am_upto am_PY 144 := ⟨am_u143, am_k143, fun _ _ => ⟨am_mk143, am_mk_code am_cw143⟩, rfl⟩
theorem am_u145 : am_upto am_PY 145 := ⟨am_u144, am_k144, fun _ _ => ⟨am_mk144, am_mk_code am_cw144⟩, rfl⟩
theorem am_u146 : am_upto am_PY 146 := ⟨am_u145, am_k145, fun _ _ => ⟨am_mk145, am_mk_code am_cw145⟩, rfl⟩
theorem am_u147 : am_upto am_PY 147 := ⟨am_u146, am_k146, fun _ _ => ⟨am_mk146, am_mk_code am_cw146⟩, rfl⟩
theorem am_u148 : am_upto am_PY 148 := ⟨am_u147, am_k147, fun _ _ => ⟨am_mk147, am_mk_code am_cw147⟩, rfl⟩
theorem am_u149 : am_upto am_PY 149 := ⟨am_u148, am_k148, fun _ _ => ⟨am_mk148, am_mk_code am_cw148⟩, rfl⟩
theorem am_u150 : am_upto am_PY 150 := ⟨am_u149, am_k149, fun _ _ => ⟨am_mk149, am_mk_code am_cw149⟩, rfl⟩
theorem am_u151 : am_upto am_PY 151 := ⟨am_u150, am_k150, fun _ _ => ⟨am_mk150, am_mk_code am_cw150⟩, rfl⟩
theorem am_u152 : am_upto am_PY 152 := ⟨am_u151, am_k151, fun _ _ => ⟨am_mk151, am_mk_code am_cw151⟩, rfl⟩
theorem am_u153 : am_upto am_PY 153 := ⟨am_u152, am_k152, fun _ _ => ⟨am_mk152, am_mk_code am_cw152⟩, rfl⟩
theorem am_u154 : am_upto am_PY 154 := ⟨am_u153, am_k153, fun _ _ => ⟨am_mk153, am_mk_code am_cw153⟩, rfl⟩
theorem am_u155 : am_upto am_PY 155 := ⟨am_u154, am_k154, fun _ _ => ⟨am_mk154, am_mk_code am_cw154⟩, rfl⟩
theorem am_u156 : am_upto am_PY 156 := ⟨am_u155, am_k155, fun _ _ => ⟨am_mk155, am_mk_code am_cw155⟩, rfl⟩
theorem am_u157 : am_upto am_PY 157 := ⟨am_u156, am_k156, fun _ _ => ⟨am_mk156, am_mk_code am_cw156⟩, rfl⟩
theorem am_u158 : am_upto am_PY 158 := ⟨am_u157, am_k157, fun _ _ => ⟨am_mk157, am_mk_code am_cw157⟩, rfl⟩
theorem am_u159 : am_upto am_PY 159 := ⟨am_u158, am_k158, fun _ _ => ⟨am_mk158, am_mk_code am_cw158⟩, rfl⟩
theorem am_u160 : am_upto am_PY 160 := ⟨am_u159, am_k159, fun _ _ => ⟨am_mk159, am_mk_code am_cw159⟩, rfl⟩
theorem am_u161 : am_upto am_PY 161 := ⟨am_u160, am_k160, fun _ _ => ⟨am_mk160, am_mk_code am_cw160⟩, rfl⟩
theorem am_u162 : am_upto am_PY 162 := ⟨am_u161, am_k161, fun _ _ => ⟨am_mk161, am_mk_code am_cw161⟩, rfl⟩
theorem am_u163 : am_upto am_PY 163 := ⟨am_u162, am_k162, fun _ _ => ⟨am_mk162, am_mk_code am_cw162⟩, rfl⟩
theorem am_u164 : am_upto am_PY 164 := ⟨am_u163, am_k163, fun _ _ => ⟨am_mk163, am_mk_code am_cw163⟩, rfl⟩
theorem am_u165 : am_upto am_PY 165 := ⟨am_u164, am_k164, fun _ _ => ⟨am_mk164, am_mk_code am_cw164⟩, rfl⟩
theorem am_u166 : am_upto am_PY 166 := ⟨am_u165, am_k165, fun _ _ => ⟨am_mk165, am_mk_code am_cw165⟩, rfl⟩
theorem am_u167 : am_upto am_PY 167 := ⟨am_u166, am_k166, fun _ _ => ⟨am_mk166, am_mk_code am_cw166⟩, rfl⟩
theorem am_u168 : am_upto am_PY 168 := ⟨am_u167, am_k167, fun _ _ => ⟨am_mk167, am_mk_code am_cw167⟩, rfl⟩
theorem am_u169 : am_upto am_PY 169 := ⟨am_u168, am_k168, fun _ _ => ⟨am_mk168, am_mk_code am_cw168⟩, rfl⟩
theorem am_u170 : am_upto am_PY 170 := ⟨am_u169, am_k169, fun _ _ => ⟨am_mk169, am_mk_code am_cw169⟩, rfl⟩
theorem am_u171 : am_upto am_PY 171 := ⟨am_u170, am_k170, fun _ _ => ⟨am_mk170, am_mk_code am_cw170⟩, rfl⟩
theorem am_u172 : am_upto am_PY 172 := ⟨am_u171, am_k171, fun _ _ => ⟨am_mk171, am_mk_code am_cw171⟩, rfl⟩
theorem am_u173 : am_upto am_PY 173 := ⟨am_u172, am_k172, fun _ _ => ⟨am_mk172, am_mk_code am_cw172⟩, rfl⟩
theorem am_u174 : am_upto am_PY 174 := ⟨am_u173, am_k173, fun _ _ => ⟨am_mk173, am_mk_code am_cw173⟩, rfl⟩
theorem am_u175 : am_upto am_PY 175 := ⟨am_u174, am_k174, fun _ _ => ⟨am_mk174, am_mk_code am_cw174⟩, rfl⟩
theorem am_u176 : am_upto am_PY 176 := ⟨am_u175, am_k175, fun _ _ => ⟨am_mk175, am_mk_code am_cw175⟩, rfl⟩
theorem am_u177 : am_upto am_PY 177 := ⟨am_u176, am_k176, fun _ _ => ⟨am_mk176, am_mk_code am_cw176⟩, rfl⟩
theorem am_u178 : am_upto am_PY 178 := ⟨am_u177, am_k177, fun _ _ => ⟨am_mk177, am_mk_code am_cw177⟩, rfl⟩
theorem am_u179 : am_upto am_PY 179 := ⟨am_u178, am_k178, fun _ _ => ⟨am_mk178, am_mk_code am_cw178⟩, rfl⟩
theorem am_u180 : am_upto am_PY 180 := ⟨am_u179, am_k179, fun _ _ => ⟨am_mk179, am_mk_code am_cw179⟩, rfl⟩
theorem am_u181 : am_upto am_PY 181 := ⟨am_u180, am_k180, fun _ _ => ⟨am_mk180, am_mk_code am_cw180⟩, rfl⟩
theorem am_u182 : am_upto am_PY 182 := ⟨am_u181, am_k181, fun _ _ => ⟨am_mk181, am_mk_code am_cw181⟩, rfl⟩
theorem am_u183 : am_upto am_PY 183 := ⟨am_u182, am_k182, fun _ _ => ⟨am_mk182, am_mk_code am_cw182⟩, rfl⟩
theorem am_u184 : am_upto am_PY 184 := ⟨am_u183, am_k183, fun _ _ => ⟨am_mk183, am_mk_code am_cw183⟩, rfl⟩
theorem am_u185 : am_upto am_PY 185 := ⟨am_u184, am_k184, fun _ _ => ⟨am_mk184, am_mk_code am_cw184⟩, rfl⟩
theorem am_u186 : am_upto am_PY 186 := ⟨am_u185, am_k185, fun _ _ => ⟨am_mk185, am_mk_code am_cw185⟩, rfl⟩
theorem am_u187 : am_upto am_PY 187 := ⟨am_u186, am_k186, fun _ _ => ⟨am_mk186, am_mk_code am_cw186⟩, rfl⟩
theorem am_u188 : am_upto am_PY 188 := ⟨am_u187, am_k187, fun _ _ => ⟨am_mk187, am_mk_code am_cw187⟩, rfl⟩
theorem am_u189 : am_upto am_PY 189 := ⟨am_u188, am_k188, fun _ _ => ⟨am_mk188, am_mk_code am_cw188⟩, rfl⟩
theorem am_u190 : am_upto am_PY 190 := ⟨am_u189, am_k189, fun _ _ => ⟨am_mk189, am_mk_code am_cw189⟩, rfl⟩
theorem am_u191 : am_upto am_PY 191 := ⟨am_u190, am_k190, fun _ _ => ⟨am_mk190, am_mk_code am_cw190⟩, rfl⟩
theorem am_u192 : am_upto am_PY 192 := ⟨am_u191, am_k191, fun _ _ => ⟨am_mk191, am_mk_code am_cw191⟩, rfl⟩
theorem am_u193 : am_upto am_PY 193 := ⟨am_u192, am_k192, fun _ _ => ⟨am_mk192, am_mk_code am_cw192⟩, rfl⟩
theorem am_u194 : am_upto am_PY 194 := ⟨am_u193, am_k193, fun _ _ => ⟨am_mk193, am_mk_code am_cw193⟩, rfl⟩
theorem am_u195 : am_upto am_PY 195 := ⟨am_u194, am_k194, fun _ _ => ⟨am_mk194, am_mk_code am_cw194⟩, rfl⟩
theorem am_u196 : am_upto am_PY 196 := ⟨am_u195, am_k195, fun _ _ => ⟨am_mk195, am_mk_code am_cw195⟩, rfl⟩
theorem am_u197 : am_upto am_PY 197 := ⟨am_u196, am_k196, fun _ _ => ⟨am_mk196, am_mk_code am_cw196⟩, rfl⟩
theorem am_u198 : am_upto am_PY 198 := ⟨am_u197, am_k197, fun _ _ => ⟨am_mk197, am_mk_code am_cw197⟩, rfl⟩
theorem am_u199 : am_upto am_PY 199 := ⟨am_u198, am_k198, fun _ _ => ⟨am_mk198, am_mk_code am_cw198⟩, rfl⟩
theorem am_u200 : am_upto am_PY 200 := ⟨am_u199, am_k199, fun _ _ => ⟨am_mk199, am_mk_code am_cw199⟩, rfl⟩
theorem am_u201 : am_upto am_PY 201 := ⟨am_u200, am_k200, fun _ _ => ⟨am_mk200, am_mk_code am_cw200⟩, rfl⟩
theorem am_u202 : am_upto am_PY 202 := ⟨am_u201, am_k201, fun _ _ => ⟨am_mk201, am_mk_code am_cw201⟩, rfl⟩
theorem am_u203 : am_upto am_PY 203 := ⟨am_u202, am_k202, fun _ _ => ⟨am_mk202, am_mk_code am_cw202⟩, rfl⟩
theorem am_u204 : am_upto am_PY 204 := ⟨am_u203, am_k203, fun _ _ => ⟨am_mk203, am_mk_code am_cw203⟩, rfl⟩
theorem am_u205 : am_upto am_PY 205 := ⟨am_u204, am_k204, fun _ _ => ⟨am_mk204, am_mk_code am_cw204⟩, rfl⟩
theorem am_u206 : am_upto am_PY 206 := ⟨am_u205, am_k205, fun _ _ => ⟨am_mk205, am_mk_code am_cw205⟩, rfl⟩
theorem am_u207 : am_upto am_PY 207 := ⟨am_u206, am_k206, fun _ _ => ⟨am_mk206, am_mk_code am_cw206⟩, rfl⟩
theorem am_u208 : am_upto am_PY 208 := ⟨am_u207, am_k207, fun _ _ => ⟨am_mk207, am_mk_code am_cw207⟩, rfl⟩
theorem am_u209 : am_upto am_PY 209 := ⟨am_u208, am_k208, fun _ _ => ⟨am_mk208, am_mk_code am_cw208⟩, rfl⟩
theorem am_u210 : am_upto am_PY 210 := ⟨am_u209, am_k209, fun _ _ => ⟨am_mk209, am_mk_code am_cw209⟩, rfl⟩
theorem am_u211 : am_upto am_PY 211 := ⟨am_u210, am_k210, fun _ _ => ⟨am_mk210, am_mk_code am_cw210⟩, rfl⟩
theorem am_u212 : am_upto am_PY 212 := ⟨am_u211, am_k211, fun _ _ => ⟨am_mk211, am_mk_code am_cw211⟩, rfl⟩
theorem am_u213 : am_upto am_PY 213 := ⟨am_u212, am_k212, fun _ _ => ⟨am_mk212, am_mk_code am_cw212⟩, rfl⟩
theorem am_u214 : am_upto am_PY 214 := ⟨am_u213, am_k213, fun _ _ => ⟨am_mk213, am_mk_code am_cw213⟩, rfl⟩
theorem am_u215 : am_upto am_PY 215 := ⟨am_u214, am_k214, fun _ _ => ⟨am_mk214, am_mk_code am_cw214⟩, rfl⟩
theorem am_u216 : am_upto am_PY 216 := ⟨am_u215, am_k215, fun _ _ => ⟨am_mk215, am_mk_code am_cw215⟩, rfl⟩
theorem am_u217 : am_upto am_PY 217 := ⟨am_u216, am_k216, fun _ _ => ⟨am_mk216, am_mk_code am_cw216⟩, rfl⟩
theorem am_u218 : am_upto am_PY 218 := ⟨am_u217, am_k217, fun _ _ => ⟨am_mk217, am_mk_code am_cw217⟩, rfl⟩
theorem am_u219 : am_upto am_PY 219 := ⟨am_u218, am_k218, fun _ _ => ⟨am_mk218, am_mk_code am_cw218⟩, rfl⟩
theorem am_u220 : am_upto am_PY 220 := ⟨am_u219, am_k219, fun _ _ => ⟨am_mk219, am_mk_code am_cw219⟩, rfl⟩
theorem am_u221 : am_upto am_PY 221 := ⟨am_u220, am_k220, fun _ _ => ⟨am_mk220, am_mk_code am_cw220⟩, rfl⟩
theorem am_u222 : am_upto am_PY 222 := ⟨am_u221, am_k221, fun _ _ => ⟨am_mk221, am_mk_code am_cw221⟩, rfl⟩
theorem am_u223 : am_upto am_PY 223 := ⟨am_u222, am_k222, fun h _ => absurd rfl h, rfl⟩
theorem am_u224 : am_upto am_PY 224 := ⟨am_u223, am_k223, fun _ h => absurd rfl h, rfl⟩
theorem am_u225 : am_upto am_PY 225 := ⟨am_u224, am_k224, fun _ _ => ⟨am_mk224, am_mk_code am_cw224⟩, rfl⟩
theorem am_u226 : am_upto am_PY 226 := ⟨am_u225, am_k225, fun _ _ => ⟨am_mk225, am_mk_code am_cw225⟩, rfl⟩
theorem am_u227 : am_upto am_PY 227 := ⟨am_u226, am_k226, fun _ _ => ⟨am_mk226, am_mk_code am_cw226⟩, rfl⟩
theorem am_u228 : am_upto am_PY 228 := ⟨am_u227, am_k227, fun _ _ => ⟨am_mk227, am_mk_code am_cw227⟩, rfl⟩
theorem am_u229 : am_upto am_PY 229 := ⟨am_u228, am_k228, fun _ _ => ⟨am_mk228, am_mk_code am_cw228⟩, rfl⟩
theorem am_u230 : am_upto am_PY 230 := ⟨am_u229, am_k229, fun _ _ => ⟨am_mk229, am_mk_code am_cw229⟩, rfl⟩
theorem am_u231 : am_upto am_PY 231 := ⟨am_u230, am_k230, fun _ _ => ⟨am_mk230, am_mk_code am_cw230⟩, rfl⟩
theorem am_u232 : am_upto am_PY 232 := ⟨am_u231, am_k231, fun _ _ => ⟨am_mk231, am_mk_code am_cw231⟩, rfl⟩
theorem am_u233 : am_upto am_PY 233 := ⟨am_u232, am_k232, fun _ _ => ⟨am_mk232, am_mk_code am_cw232⟩, rfl⟩
theorem am_u234 : am_upto am_PY 234 := ⟨am_u233, am_k233, fun _ _ => ⟨am_mk233, am_mk_code am_cw233⟩, rfl⟩
theorem am_u235 : am_upto am_PY 235 := ⟨am_u234, am_k234, fun _ _ => ⟨am_mk234, am_mk_code am_cw234⟩, rfl⟩
theorem am_u236 : am_upto am_PY 236 := ⟨am_u235, am_k235, fun _ _ => ⟨am_mk235, am_mk_code am_cw235⟩, rfl⟩
theorem am_py {y : Nat} (h : y < 236) : am_PY y := am_upto_at am_u236 h
theorem am_mfall : ∀ a, a < 236 → a ≠ 222 → a ≠ 223 → am_MF a := fun _ h h1 h2 => (am_py h).2.1 h1 h2
/-- EVERY CALL THAT THE ABSTRACT MACHINE MAKES, THE MACHINE MAKES -/
theorem am_met (l : Launch) (g : am_G) (X0 : Nat → Nat → Nat → Int32) (d : Nat) : am_CL l g X0 d (am_cl am_cds d) := by
  induction d with
  | zero => exact ⟨fun _ _ _ _ _ h => False.elim h, fun _ _ _ _ h => False.elim h, fun _ _ _ _ h => False.elim h, fun _ _ _ _ _ h => False.elim h⟩
  | succ d ih =>
    refine ⟨fun y as me v me' h hy h222 h223 hvv hn hA hX0 hwd => ?_, fun as me v me' h hl2 => ?_, fun as me v me' h hl2 => ?_, am_cl_le⟩
    · have hmf := am_mfall y hy h222 h223
      obtain ⟨f, hrun⟩ := h
      refine Met.ofW (cc := am_by y) (maxL := am_ml y) (ret := am_rt y) (am_mf0 hmf).2.2.2.2.1 rfl ?_
      intro p e s m args below meth c s₁ B hml hv
      obtain ⟨rfl, hsz, hP, hX⟩ := hv
      have hts : ∀ w ∈ am_cw y, w.before (as.map (am_v g)).toArray s = true := atoms_spec (ws := am_cw y) B.pre
      have C : am_ctx g X0 p s m (as.map (am_v g)).toArray meth c y me.1 := ⟨B.exec, B.bytes, hml, findClass_of_methodNamed B.named, fun w hw => hts w (List.mem_cons_of_mem _ hw), hX, fun hh => by rw [(name_of_methodNamed B.named B.method).1]; exact hh, hsz⟩
      have hcat := am_hcat C
      have hok := am_sound_run (l := l) (e := e) (R := (headSpec (am_cw y) (am_rm (d + 1) me.1 me'.1)).room) (below := below) (Qf := MQ below (am_Qc g X0 me v me') (as.map (am_v g)).toArray s (me'.1 - me.1) (am_sl me'.1 - am_sl me.1) (am_A g)) (nF := me'.1) (d := d) C (List.all_eq_true.mp (am_py hy).1) ih am_mfall (Nat.le_refl _) (Nat.le_refl _) (fun w m' q => by rw [q.2]; exact Nat.le_refl _) (Nat.le_refl _) (Nat.le_refl _) (fun o L st me1 N hk hs hi => am_ret C B.returns B.notSynchronized o L st me1 N hk hs hi) hrun
      rw [(am_py hy).2.2] at hok
      rw [lg_entry_eq]
      have hl := lv_entry (as.map (am_v g)) (n := am_ml y) (by rw [am_wds_sl hcat]; exact hwd)
      have w := hok s.heap [] _ ⟨hP, va_S.rf, by rw [am_args_lv hcat] at hl; exact hl, am_args_nd, fun q hq => hvv _ (am_args_ge q hq).2, fun v hv => absurd hv List.not_mem_nil, Nat.le_refl _, hn, hA, hX0⟩
      rw [Nat.sub_self, Nat.sub_self] at w
      exact w
    · rcases as with _ | ⟨x1 | x1 | x1, _ | ⟨x2 | x2 | x2, _ | ⟨x3, as⟩⟩⟩
      case cons.inl.cons.inl.nil => 
        obtain ⟨e1, e2⟩ := am_max_inv (show am_wp (am_cl am_cds d) am_c222 (fun w m => w = v ∧ m = me') 0 [(0, .inl x1), (1, .inl x2)] [] me from h)
        exact ⟨x1, x2, rfl, e1, e2⟩
      all_goals first | (exfalso; simp at hl2; done) | (have h1 := am_wp_inv _ rfl h; exact False.elim h1) | (have h1 := am_wp_inv _ rfl h; have h2 := am_wp_inv _ rfl h1; exact False.elim h2)
    · rcases as with _ | ⟨x1 | x1 | x1, _ | ⟨x2 | x2 | x2, _ | ⟨x3, as⟩⟩⟩
      case cons.inl.cons.inl.nil => 
        obtain ⟨e1, e2⟩ := am_min_inv (show am_wp (am_cl am_cds d) am_c223 (fun w m => w = v ∧ m = me') 0 [(0, .inl x1), (1, .inl x2)] [] me from h)
        exact ⟨x1, x2, rfl, e1, e2⟩
      all_goals first | (exfalso; simp at hl2; done) | (have h1 := am_wp_inv _ rfl h; exact False.elim h1) | (have h1 := am_wp_inv _ rfl h; have h2 := am_wp_inv _ rfl h1; exact False.elim h2)
