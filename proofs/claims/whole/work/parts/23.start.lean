theorem am_runK_le {K : am_N} {Cl : Nat → List am_V → am_M → Option am_V → am_M → Prop} (hm : ∀ a as me v me', Cl a as me v me' → me.1 ≤ me'.1) {cd : am_C} {Q : am_Qt} {nF : Nat} (hKn : ∀ ip L st me, K ip L st me → me.1 ≤ nF) (hQ : ∀ v me, Q v me → me.1 ≤ nF) {f ip : Nat} {L : am_L} {st : List am_V} {me : am_M} (h : am_runK K Cl cd Q f ip L st me) : me.1 ≤ nF := by
  induction f generalizing ip L st me with
  | zero => exact hKn _ _ _ _ h
  | succ f ih =>
    have h : (match am_at cd ip with | none => False | some o => am_step Cl o L st me (am_runK K Cl cd Q f) Q) := h
    cases ho : am_at cd ip with
    | none => rw [ho] at h; exact False.elim h
    | some o =>
      rw [ho] at h
      rcases am_step_two Cl hm o L st me Q _ h with ⟨ip', L', st', me', h1, h2⟩ | ⟨v, h1⟩
      · exact Nat.le_trans h2 (ih h1)
      · exact hQ _ _ h1
section AMK
variable {g : am_G} {X0 : Nat → Nat → Nat → Int32} {p : Program} {l : Launch} {e : Env} {R : Room} {s : State} {m : MethodId} {args : Array Value} {below : List Frame} {meth : Method} {c : Code} {Qf : State → Prop} {y n0 nF : Nat}
variable {Cl : Nat → List am_V → am_M → Option am_V → am_M → Prop} {nx a b : Nat} {v : Int32} {ts : List (Int32 × Nat)} {L : am_L} {st : List am_V} {me : am_M} {N : Nat → am_L → List am_V → am_M → Prop} {Q : Option am_V → am_M → Prop} {pc ln wi : Nat}
theorem am_sound_runK {K : am_N} {d f ip : Nat} (C : am_ctx g X0 p s m args meth c y n0) (hkk : ∀ o ∈ (am_cds y).flatten, am_chk y o = true) (hCL : am_CL l g X0 d Cl) (hRf : d + 1 ≤ R.frames) (hRl : 64 * (d + 1) ≤ R.locals) (hQ : ∀ v me, Q v me → me.1 ≤ nF) (hKn : ∀ ip L st me, K ip L st me → me.1 ≤ nF) (hK : ∀ ip L st me, K ip L st me → am_ok g X0 p l e R s m args below meth c Qf y n0 (am_pc y ip) L st me) (hRc : nF - n0 ≤ R.cells) (hRs : am_sl nF - am_sl n0 ≤ R.slots) (hret : ∀ (o : am_O) (L : am_L) (st : List am_V) (me : am_M) (N : am_N), am_chk y o = true → am_step Cl o L st me N Q → (o.2.2.1 = .ireturn ∨ o.2.2.1 = .areturn ∨ o.2.2.1 = .return_) → am_ok g X0 p l e R s m args below meth c Qf y n0 o.1 L st me) (h : am_runK K Cl (am_cds y) Q f ip L st me) : am_ok g X0 p l e R s m args below meth c Qf y n0 (am_pc y ip) L st me := by
  induction f generalizing ip L st me with
  | zero => exact hK _ _ _ _ h
  | succ f ih =>
    have h : (match am_at (am_cds y) ip with | none => False | some o => am_step Cl o L st me (am_runK K Cl (am_cds y) Q f) Q) := h
    cases ho : am_at (am_cds y) ip with
    | none => rw [ho] at h; exact False.elim h
    | some o =>
      rw [ho] at h
      have hpc : am_pc y ip = o.1 := by unfold am_pc; rw [ho]
      rw [hpc]
      have hk := hkk o (am_at_mem ho)
      exact am_sound_step (ip := ip) C hk h (fun ip L st me q => ih q) hCL am_mfall hRf hRl (fun ip L st me q => am_runK_le hCL.2.2.2 hKn hQ q) hRc hRs (hret o L st me _ hk h)
end AMK
/-- what the cells hold, said otherwise -/
theorem am_P_sw {g : am_G} {As : am_B} {M M' : am_F} {H : Heap} (hA : am_smA As = true) (hM : am_smM M M') (h : va_P g.2.2.2.1 vwCl (am_ws g 128 As M) H) : va_P g.2.2.2.1 vwCl (am_ws g 128 am_all M') H := by
  intro k q hq
  have hk : k < 128 := by
    have := (List.getElem?_eq_some_iff.mp hq).1
    rwa [am_ws_len] at this
  have e1 : (am_ws g 128 am_all M')[k]? = some (g.1 + k, am_ce g am_all M' (am_dec k).1 (am_dec k).2) := am_nth_rng (f := fun k => (g.1 + k, am_ce g am_all M' (am_dec k).1 (am_dec k).2)) hk
  have e2 : (am_ws g 128 As M)[k]? = some (g.1 + k, am_ce g As M (am_dec k).1 (am_dec k).2) := am_nth_rng (f := fun k => (g.1 + k, am_ce g As M (am_dec k).1 (am_dec k).2)) hk
  rw [e1] at hq
  cases hq
  have h1 := h k _ e2
  have hMk := hM k hk
  have hAk := List.all_eq_true.mp hA k (List.mem_range.mpr hk)
  generalize am_dec k = dk at h1 hMk hAk
  obtain ⟨⟨r, b, i⟩, n⟩ := dk
  dsimp only at h1 hMk hAk ⊢
  have hAk : ∀ s, s < n → (if r < 27 then (match (am_fk (r - 16) s).1 with | 2 => As r b i s | _ => true) else if r < 34 then true else As r b i s) = true := fun s hs => List.all_eq_true.mp hAk s (List.mem_range.mpr hs)
  by_cases hr : r < 27
  · rw [am_ce_obj (q := (r, b, i)) hr] at h1 ⊢
    have e : (List.range n).map (am_fv g am_all M' r b i) = (List.range n).map (am_fv g As M r b i) := by
      refine List.map_congr_left fun s hs => ?_
      have hs := List.mem_range.mp hs
      have hA2 := hAk s hs
      rw [if_pos hr] at hA2
      unfold am_fv
      cases hfk : am_fk (r - 16) s with
      | mk k1 f =>
        rw [hfk] at hA2
        rcases k1 with _ | _ | _ | k1
        · show Value.int _ = Value.int _
          rw [hMk s hs]
        · show Value.int _ = Value.int _
          rw [hMk s hs]
        · have hA2 : As r b i s = true := hA2
          show (if am_all r b i s = true then _ else _) = (if As r b i s = true then _ else _)
          rw [if_pos hA2]; rfl
        · show Value.int _ = Value.int _
          rw [hMk s hs]
    rw [show (List.range n).map (am_fv g am_all M' (r, b, i).1 (r, b, i).2.1 (r, b, i).2.2) = (List.range n).map (am_fv g As M r b i) from e]
    exact h1
  · by_cases hr2 : r < 34
    · rw [am_ce_int (q := (r, b, i)) (by show 27 ≤ r; omega) (by show r ≤ 33; omega)] at h1 ⊢
      have h1 : H[g.1 + k]? = some (vp_cell _ _) := h1
      show H[g.1 + k]? = some (vp_cell _ _)
      rw [h1, vp_cell_i, vp_cell_i]
      congr 1
      exact am_arrV_congr fun j hj => by
        show Value.int (M r b i j) = Value.int (M' r b i j)
        rw [hMk j hj]
    · rw [am_ce_ref (q := (r, b, i)) (by show 34 ≤ r; omega)] at h1 ⊢
      have h1 : H[g.1 + k]? = some (vp_cell _ _) := h1
      show H[g.1 + k]? = some (vp_cell _ _)
      rw [h1, vp_cell_q, vp_cell_q]
      congr 1
      exact am_arrV_congr fun j hj => by
        have hA2 := hAk j hj
        rw [if_neg hr, if_neg hr2] at hA2
        show va_rf (if As r b i j = true then _ else _) = va_rf (if am_all r b i j = true then _ else _)
        rw [if_pos hA2]; rfl
def am_LOOP : Prop := ∀ (L : Nat) (xs : Nat → Int32), L ≤ 384 → am_wp (am_cl am_cds 1000) am_c236 (fun v me => v = some (.inl 1) ∧ me.1 ≤ 128) 10 [(0, .inr (.inr (0, 0, 0))), (1, .inr (.inr (25, 0, 0))), (2, .inr (.inr (26, 0, 0))), (3, .inl 0)] [] (am_S (am_MI L xs))
set_option maxHeartbeats 4000000 in
theorem am_start (hlaw : am_LOOP) {p : Program} {e : Env} {s : State} {m : MethodId} {below : List Frame} {meth : Method} {c : Code} (l : Launch) {b L : Nat} {xs : Nat → Int32} (hL : L ≤ 384) (C0 : lw_At p s m meth c b L xs) : W p l e room_1 s m #[Value.ref b] below meth c s.heap [] 0 0 (lw_Z below #[Value.ref b] s) (entryFrame m ([Value.ref b] : List Value).toArray 4) := by
  obtain ⟨g, hg1, hg2, hX⟩ := am_entry hL C0
  have C00 := C0
  obtain ⟨hx, hb, hr, hml, hown, hts, hXs, hbl, hlocks, hgv⟩ := C0
  have hsz : s.heap.size = g.1 + 0 := by rw [hg1]; rfl
  have C : am_ctx g (am_X0 L xs) p s m #[Value.ref b] meth c 236 0 := ⟨hx, hb, hml, hown, fun w hw => hts w (List.mem_filter.mp hw).1, hX, fun h => absurd (show "law" = "<init>" from h) (by decide), hsz⟩
  have hv0 : am_v g (.inr (.inr (0, 0, 0))) = .ref b := by
    show Value.ref (g.2.1 0 0) = .ref b
    rw [hg2]
  have hs128 : am_sl 128 - am_sl 0 ≤ 7302250 := by decide +kernel
  obtain ⟨f2, hrun2⟩ := hlaw L xs hL
  have hok2 := am_sound_run (y := 236) (l := l) (e := e) (R := room_1) (below := below) (Qf := lw_Z below #[Value.ref b] s) (nF := 128) (d := 1000) C am_lawchk (am_met l g (am_X0 L xs) 1000) am_mfall (by decide) (by decide) (fun v me q => q.2) (by decide) hs128 (am_lawret hg1 C00) (show am_run (am_cl am_cds 1000) (am_cds 236) _ f2 10 _ [] _ from hrun2)
  obtain ⟨f, hrun⟩ := am_ctors L xs (fun v me => v = some (.inl 1) ∧ me.1 ≤ 128)
  have hok := am_sound_runK (y := 236) (l := l) (e := e) (R := room_1) (below := below) (Qf := lw_Z below #[Value.ref b] s) (nF := 128) (d := 1000) C am_lawchk (am_met l g (am_X0 L xs) 1000) (by decide) (by decide) (fun v me q => q.2) (fun ip L1 st me q => Nat.le_of_eq q.2.2.2.1) (fun ip L1 st me q => ?_) (by decide) hs128 (am_lawret hg1 C00) (show am_runK (am_KK L xs) (am_cl am_cds 1000) (am_cds 236) _ f 0 [(0, .inr (.inr (0, 0, 0)))] [] (0, fun _ _ _ _ => false, am_M0 L xs) from hrun)
  · rw [lg_entry_eq]
    have hl := lv_entry ([.ref b]) (n := 4) (Nat.le_of_ble_eq_true rfl)
    have w := hok s.heap [] _ ⟨fun k q h => absurd h (by simp [am_ws]), va_S.rf, by
      show lv_has _ 4 [(0, am_v g (.inr (.inr (0, 0, 0))))]
      rw [hv0]
      exact hl, by simp, fun q hq => by
      rw [List.mem_singleton.mp hq]
      exact Or.inl ⟨Nat.zero_le _, rfl⟩, fun v hv => absurd hv List.not_mem_nil, Nat.le_refl _, Nat.zero_le _, fun q s' ho => absurd ho.2.1 (Nat.not_lt_zero _), rfl⟩
    exact w
  · obtain ⟨n1, As1, M1⟩ := me
    obtain ⟨q1, q2, q3, q4, q5, q6, q7⟩ := q
    dsimp only at q4 q5 q6 q7
    subst q1; subst q2; subst q3; subst q4
    intro H locs ls r
    have w := hok2 H locs ls ⟨am_P_sw q5 q6 r.1, r.2.1, r.2.2.1, r.2.2.2.1, r.2.2.2.2.1, r.2.2.2.2.2.1, r.2.2.2.2.2.2.1, r.2.2.2.2.2.2.2.1, am_asall, am_MI_0⟩
    exact w
