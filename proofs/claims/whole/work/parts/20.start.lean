theorem am_nth_ex {α : Type} {l : List α} {d x : α} (h : x ∈ l) : ∃ j, j < l.length ∧ am_nth l j d = x := by
  induction l with
  | nil => cases h
  | cons z t ih =>
    rcases List.mem_cons.mp h with h | h
    · exact ⟨0, by simp, h.symm⟩
    · obtain ⟨j, h1, h2⟩ := ih h
      exact ⟨j + 1, by simpa using h1, h2⟩
def am_PL (j : Nat) : Prop := (am_nth am_c236 j []).all (am_chk 236) = true
theorem am_v0 : am_upto am_PL 0 := trivial
theorem am_v1 : am_upto am_PL 1 := ⟨am_v0, am_kl0⟩
theorem am_v2 : am_upto am_PL 2 := ⟨am_v1, am_kl1⟩
theorem am_v3 : am_upto am_PL 3 := ⟨am_v2, am_kl2⟩
theorem am_v4 : am_upto am_PL 4 := ⟨am_v3, am_kl3⟩
theorem am_v5 : am_upto am_PL 5 := ⟨am_v4, am_kl4⟩
theorem am_v6 : am_upto am_PL 6 := ⟨am_v5, am_kl5⟩
theorem am_v7 : am_upto am_PL 7 := ⟨am_v6, am_kl6⟩
theorem am_v8 : am_upto am_PL 8 := ⟨am_v7, am_kl7⟩
theorem am_v9 : am_upto am_PL 9 := ⟨am_v8, am_kl8⟩
theorem am_v10 : am_upto am_PL 10 := ⟨am_v9, am_kl9⟩
theorem am_v11 : am_upto am_PL 11 := ⟨am_v10, am_kl10⟩
theorem am_v12 : am_upto am_PL 12 := ⟨am_v11, am_kl11⟩
theorem am_v13 : am_upto am_PL 13 := ⟨am_v12, am_kl12⟩
theorem am_v14 : am_upto am_PL 14 := ⟨am_v13, am_kl13⟩
theorem am_v15 : am_upto am_PL 15 := ⟨am_v14, am_kl14⟩
theorem am_v16 : am_upto am_PL 16 := ⟨am_v15, am_kl15⟩
theorem am_v17 : am_upto am_PL 17 := ⟨am_v16, am_kl16⟩
theorem am_v18 : am_upto am_PL 18 := ⟨am_v17, am_kl17⟩
theorem am_v19 : am_upto am_PL 19 := ⟨am_v18, am_kl18⟩
theorem am_v20 : am_upto am_PL 20 := ⟨am_v19, am_kl19⟩
theorem am_v21 : am_upto am_PL 21 := ⟨am_v20, am_kl20⟩
theorem am_v22 : am_upto am_PL 22 := ⟨am_v21, am_kl21⟩
theorem am_v23 : am_upto am_PL 23 := ⟨am_v22, am_kl22⟩
theorem am_v24 : am_upto am_PL 24 := ⟨am_v23, am_kl23⟩
theorem am_v25 : am_upto am_PL 25 := ⟨am_v24, am_kl24⟩
theorem am_v26 : am_upto am_PL 26 := ⟨am_v25, am_kl25⟩
theorem am_v27 : am_upto am_PL 27 := ⟨am_v26, am_kl26⟩
theorem am_v28 : am_upto am_PL 28 := ⟨am_v27, am_kl27⟩
theorem am_v29 : am_upto am_PL 29 := ⟨am_v28, am_kl28⟩
theorem am_v30 : am_upto am_PL 30 := ⟨am_v29, am_kl29⟩
theorem am_v31 : am_upto am_PL 31 := ⟨am_v30, am_kl30⟩
theorem am_v32 : am_upto am_PL 32 := ⟨am_v31, am_kl31⟩
theorem am_v33 : am_upto am_PL 33 := ⟨am_v32, am_kl32⟩
theorem am_v34 : am_upto am_PL 34 := ⟨am_v33, am_kl33⟩
theorem am_v35 : am_upto am_PL 35 := ⟨am_v34, am_kl34⟩
theorem am_v36 : am_upto am_PL 36 := ⟨am_v35, am_kl35⟩
theorem am_v37 : am_upto am_PL 37 := ⟨am_v36, am_kl36⟩
theorem am_v38 : am_upto am_PL 38 := ⟨am_v37, am_kl37⟩
theorem am_v39 : am_upto am_PL 39 := ⟨am_v38, am_kl38⟩
theorem am_v40 : am_upto am_PL 40 := ⟨am_v39, am_kl39⟩
theorem am_v41 : am_upto am_PL 41 := ⟨am_v40, am_kl40⟩
theorem am_v42 : am_upto am_PL 42 := ⟨am_v41, am_kl41⟩
theorem am_v43 : am_upto am_PL 43 := ⟨am_v42, am_kl42⟩
theorem am_v44 : am_upto am_PL 44 := ⟨am_v43, am_kl43⟩
theorem am_v45 : am_upto am_PL 45 := ⟨am_v44, am_kl44⟩
theorem am_v46 : am_upto am_PL 46 := ⟨am_v45, am_kl45⟩
theorem am_v47 : am_upto am_PL 47 := ⟨am_v46, am_kl46⟩
theorem am_v48 : am_upto am_PL 48 := ⟨am_v47, am_kl47⟩
theorem am_v49 : am_upto am_PL 49 := ⟨am_v48, am_kl48⟩
theorem am_v50 : am_upto am_PL 50 := ⟨am_v49, am_kl49⟩
theorem am_v51 : am_upto am_PL 51 := ⟨am_v50, am_kl50⟩
theorem am_v52 : am_upto am_PL 52 := ⟨am_v51, am_kl51⟩
theorem am_v53 : am_upto am_PL 53 := ⟨am_v52, am_kl52⟩
theorem am_v54 : am_upto am_PL 54 := ⟨am_v53, am_kl53⟩
theorem am_v55 : am_upto am_PL 55 := ⟨am_v54, am_kl54⟩
theorem am_v56 : am_upto am_PL 56 := ⟨am_v55, am_kl55⟩
theorem am_v57 : am_upto am_PL 57 := ⟨am_v56, am_kl56⟩
theorem am_v58 : am_upto am_PL 58 := ⟨am_v57, am_kl57⟩
theorem am_v59 : am_upto am_PL 59 := ⟨am_v58, am_kl58⟩
theorem am_v60 : am_upto am_PL 60 := ⟨am_v59, am_kl59⟩
theorem am_v61 : am_upto am_PL 61 := ⟨am_v60, am_kl60⟩
theorem am_v62 : am_upto am_PL 62 := ⟨am_v61, am_kl61⟩
theorem am_v63 : am_upto am_PL 63 := ⟨am_v62, am_kl62⟩
theorem am_v64 : am_upto am_PL 64 := ⟨am_v63, am_kl63⟩
theorem am_v65 : am_upto am_PL 65 := ⟨am_v64, am_kl64⟩
theorem am_v66 : am_upto am_PL 66 := ⟨am_v65, am_kl65⟩
theorem am_v67 : am_upto am_PL 67 := ⟨am_v66, am_kl66⟩
theorem am_v68 : am_upto am_PL 68 := ⟨am_v67, am_kl67⟩
theorem am_lawchk : ∀ o ∈ (am_cds 236).flatten, am_chk 236 o = true := by
  intro o ho
  have ho : o ∈ am_c236.flatten := ho
  obtain ⟨l, h1, h2⟩ := List.mem_flatten.mp ho
  obtain ⟨j, h3, h4⟩ := am_nth_ex (d := []) h1
  have h5 : am_PL j := am_upto_at am_v68 (show j < 68 from h3)
  unfold am_PL at h5
  rw [h4] at h5
  exact List.all_eq_true.mp h5 o h2
/-- the script, as the abstract machine has it -/
def am_X0 (L : Nat) (xs : Nat → Int32) : Nat → Nat → Nat → Int32 := fun _ i j => if i = 0 then xs j else Int32.ofNat L
def am_M0 (L : Nat) (xs : Nat → Int32) : am_F := fun r b i j => if r = 0 then am_X0 L xs b i j else 0
def am_LAW0 : Prop := ∀ (L : Nat) (xs : Nat → Int32), L ≤ 384 → am_wp (am_cl am_cds 1000) am_c236 (fun v me => v = some (.inl 1) ∧ me.1 ≤ 128) 0 [(0, .inr (.inr (0, 0, 0)))] [] (0, fun _ _ _ _ => false, am_M0 L xs)
/-- the law's return -/
theorem am_lawret {g : am_G} {p : Program} {e : Env} {s : State} {m : MethodId} {below : List Frame} {meth : Method} {c : Code} {l : Launch} {b L : Nat} {xs : Nat → Int32} {X0 : Nat → Nat → Nat → Int32} (hg1 : g.1 = s.heap.size) (C0 : lw_At p s m meth c b L xs) (o : am_O) (L1 : am_L) (st : List am_V) (me : am_M) (N : am_N) (hk : am_chk 236 o = true) (h : am_step (am_cl am_cds 1000) o L1 st me N (fun v me => v = some (.inl 1) ∧ me.1 ≤ 128)) (hi : o.2.2.1 = .ireturn ∨ o.2.2.1 = .areturn ∨ o.2.2.1 = .return_) : am_ok g X0 p l e room_1 s m #[Value.ref b] below meth c (lw_Z below #[Value.ref b] s) 236 0 o.1 L1 st me := by
  obtain ⟨hx, hb, hr, hml, hown, hts, hXs, hbl, hlocks, hgv⟩ := C0
  obtain ⟨pc, ln, ins, nx, a, bb, v, ts, wi⟩ := o
  dsimp only at hi ⊢
  intro H locs ls r
  rcases hi with rfl | rfl | rfl
  · have hk2 : (decide (decode (am_by 236) pc = .ok (.ireturn, ln)) && (Nat.beq ln 1 && decide (am_rt 236 = some (am_nth [.int, .boolean, .char, .byte] a .int)))) = true := hk
    simp only [Bool.and_eq_true, decide_eq_true_eq] at hk2
    obtain ⟨hd, hl, ht⟩ := hk2
    have hl := Nat.eq_of_beq_eq_true hl
    subst hl
    rcases st with _ | ⟨x1 | x1, _ | ⟨z, st⟩⟩ <;> try exact False.elim h
    obtain ⟨hnr, hw, hm⟩ := h
    cases hw
    refine va_forget (fun q hq => by have := r.2.1.2.2 q hq; rw [← hg1]; exact this) ?_
    have h1 : me.1 ≤ 128 := r.2.2.2.2.2.2.2.1
    have h2 := am_sl_mono h1
    have h3 : am_sl 128 ≤ 7302250 := by decide +kernel
    refine W.widen (k := 600000) (n := 7302250) (by omega) (by omega) ?_
    exact lw_ret hx hb hr hlocks hd
  · have h : am_s_areturn (am_cl am_cds 1000) nx a bb v ts L1 st me N (fun v me => v = some (.inl 1) ∧ me.1 ≤ 128) := h
    unfold am_s_areturn at h
    rcases st with _ | ⟨x1 | x1 | ⟨r1, q1⟩, _ | ⟨z, st⟩⟩ <;> try exact False.elim h
    dsimp only at h
    cases hb1 : Nat.beq r1 5 with
    | true => rw [hb1] at h; exact False.elim h
    | false => rw [hb1] at h; cases h.1
  · rcases st with _ | ⟨z, st⟩ <;> try exact False.elim h
    cases h.1
