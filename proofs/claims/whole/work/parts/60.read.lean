/-! THE READER OF A TEXT: what is read, as a derivation; the class's machine; the one follows the other -/
def lvl (c : Int32) : Nat := if c = 124 then 1 else if c = 38 then 2 else if c = 60 ∨ c = 61 ∨ c = 62 then 3 else if c = 43 ∨ c = 45 then 4 else if c = 42 ∨ c = 47 ∨ c = 37 then 5 else 0
def opc (c : Int32) : Int32 := if c = 124 then 20000 else if c = 38 then 20001 else if c = 60 then 20002 else if c = 61 then 20003 else if c = 62 then 20004 else if c = 43 then 20005 else if c = 45 then 20006 else if c = 42 then 20007 else if c = 47 then 20008 else if c = 37 then 20009 else 0
def em (c : Int32) : Int32 := 20000 + c
theorem lvl_le (c : Int32) : lvl c ≤ 5 := by unfold lvl; grind
theorem cv_opc {c : Int32} (h : lvl c ≠ 0) : cv (opc c) = em c := by
  have h3 : c = 124 ∨ c = 38 ∨ c = 60 ∨ c = 61 ∨ c = 62 ∨ c = 43 ∨ c = 45 ∨ c = 42 ∨ c = 47 ∨ c = 37 := by
    unfold lvl at h; grind
  rcases h3 with rfl | rfl | rfl | rfl | rfl | rfl | rfl | rfl | rfl | rfl <;> rfl
theorem lvl_ne {c : Int32} (h : lvl c ≠ 0) : c ≠ 41 ∧ c ≠ 33 ∧ c ≠ 40 := by
  refine ⟨fun q => h (q ▸ rfl), fun q => h (q ▸ rfl), fun q => h (q ▸ rfl)⟩
def isDg (c : Int32) : Prop := 48 ≤ c ∧ c ≤ 57
/-- d digits stand from a on, and no more that count -/
def DG (h : Nat → Int32) (a d : Nat) : Prop := (∀ j, j < d → isDg (h (a + j))) ∧ d ≤ 4 ∧ (d < 4 → ¬ isDg (h (a + d)))
def nvl (h : Nat → Int32) (a : Nat) : Nat → Int32
  | 0 => 0
  | j + 1 => nvl h a j * 10 + h (a + j) - 48
def PPc (h : Nat → Int32) (nm : Int32 → Int32) (X : Nat → Nat → Nat → Nat → Bool → Nat → List Int32 → Prop) : Prop := (∀ (d : Nat) (a : Nat), (h a = 33 ∨ h a = 40) → X (d + 1) 6 5 a false a []) ∧ (∀ (d : Nat) (o : Nat) (a : Nat) (b : Nat) (E : List Int32), h a = 33 → o < 5 → X d 6 (o + 1) (a + 1) true b E → X (d + 1) 6 o a true b (20010 :: E)) ∧ (∀ (d : Nat) (o : Nat) (a : Nat) (b : Nat) (E : List Int32), h a = 33 → o < 5 → X d 6 (o + 1) (a + 1) false b E → X (d + 1) 6 o a false b E) ∧ (∀ (d : Nat) (o : Nat) (a : Nat) (b : Nat) (E : List Int32), h a = 40 → o < 5 → X d 1 (o + 1) (a + 1) true b E → h b = 41 → X (d + 1) 6 o a true (b + 1) E) ∧ (∀ (d : Nat) (o : Nat) (a : Nat) (b : Nat) (E : List Int32), h a = 40 → o < 5 → X d 1 (o + 1) (a + 1) true b E → h b ≠ 41 → X (d + 1) 6 o a false b E) ∧ (∀ (d : Nat) (o : Nat) (a : Nat) (b : Nat) (E : List Int32), h a = 40 → o < 5 → X d 1 (o + 1) (a + 1) false b E → X (d + 1) 6 o a false b E) ∧ (∀ (d : Nat) (o : Nat) (a : Nat) (k : Nat), DG h a k → 0 < k → X (d + 1) 6 o a true (a + k) [nvl h a k]) ∧ (∀ (d : Nat) (o : Nat) (a : Nat), h a ≠ 33 → h a ≠ 40 → ¬ isDg (h a) → 0 ≤ h a → 0 ≤ nm (h a) → X (d + 1) 6 o a true (a + 1) [10000 + nm (h a)]) ∧ (∀ (d : Nat) (o : Nat) (a : Nat), h a ≠ 33 → h a ≠ 40 → ¬ isDg (h a) → (h a < 0 ∨ nm (h a) < 0) → X (d + 1) 6 o a false a []) ∧ (∀ (d : Nat) (n : Nat) (o : Nat) (a : Nat) (b : Nat) (ok : Bool) (c : Nat) (E : List Int32) (F : List Int32), 1 ≤ n → n ≤ 5 → X d (n + 1) o a true b E → X d (10 + n) o b ok c F → X (d + 1) n o a ok c (F ++ E)) ∧ (∀ (d : Nat) (n : Nat) (o : Nat) (a : Nat) (b : Nat) (E : List Int32), 1 ≤ n → n ≤ 5 → X d (n + 1) o a false b E → X (d + 1) n o a false b E) ∧ (∀ (d : Nat) (n : Nat) (o : Nat) (a : Nat), 1 ≤ n → n ≤ 5 → lvl (h a) ≠ n → X (d + 1) (10 + n) o a true a []) ∧ (∀ (d : Nat) (n : Nat) (o : Nat) (a : Nat) (b : Nat) (ok : Bool) (c : Nat) (E : List Int32) (F : List Int32), 1 ≤ n → n ≤ 5 → n ≠ 3 → lvl (h a) = n → X d (n + 1) o (a + 1) true b E → X d (10 + n) o b ok c F → X (d + 1) (10 + n) o a ok c (F ++ opc (h a) :: E)) ∧ (∀ (d : Nat) (o : Nat) (a : Nat) (b : Nat) (E : List Int32), lvl (h a) = 3 → X d 4 o (a + 1) true b E → X (d + 1) 13 o a true b (opc (h a) :: E)) ∧ (∀ (d : Nat) (n : Nat) (o : Nat) (a : Nat) (b : Nat) (E : List Int32), 1 ≤ n → n ≤ 5 → lvl (h a) = n → X d (n + 1) o (a + 1) false b E → X (d + 1) (10 + n) o a false b E)
def PP (h : Nat → Int32) (nm : Int32 → Int32) (d : Nat) (n : Nat) (o : Nat) (a : Nat) (ok : Bool) (b : Nat) (E : List Int32) : Prop := ∀ X : Nat → Nat → Nat → Nat → Bool → Nat → List Int32 → Prop, PPc h nm X → X d n o a ok b E
theorem PP_deep {h : Nat → Int32} {nm : Int32 → Int32} {d : Nat} {a : Nat} (q0 : (h a = 33 ∨ h a = 40)) : PP h nm (d + 1) 6 5 a false a [] := fun X cl => cl.1 d a q0
theorem PP_notT {h : Nat → Int32} {nm : Int32 → Int32} {d : Nat} {o : Nat} {a : Nat} {b : Nat} {E : List Int32} (q0 : h a = 33) (q1 : o < 5) (q2 : PP h nm d 6 (o + 1) (a + 1) true b E) : PP h nm (d + 1) 6 o a true b (20010 :: E) := fun X cl => cl.2.1 d o a b E q0 q1 (q2 X cl)
theorem PP_notF {h : Nat → Int32} {nm : Int32 → Int32} {d : Nat} {o : Nat} {a : Nat} {b : Nat} {E : List Int32} (q0 : h a = 33) (q1 : o < 5) (q2 : PP h nm d 6 (o + 1) (a + 1) false b E) : PP h nm (d + 1) 6 o a false b E := fun X cl => cl.2.2.1 d o a b E q0 q1 (q2 X cl)
theorem PP_brT {h : Nat → Int32} {nm : Int32 → Int32} {d : Nat} {o : Nat} {a : Nat} {b : Nat} {E : List Int32} (q0 : h a = 40) (q1 : o < 5) (q2 : PP h nm d 1 (o + 1) (a + 1) true b E) (q3 : h b = 41) : PP h nm (d + 1) 6 o a true (b + 1) E := fun X cl => cl.2.2.2.1 d o a b E q0 q1 (q2 X cl) q3
theorem PP_brC {h : Nat → Int32} {nm : Int32 → Int32} {d : Nat} {o : Nat} {a : Nat} {b : Nat} {E : List Int32} (q0 : h a = 40) (q1 : o < 5) (q2 : PP h nm d 1 (o + 1) (a + 1) true b E) (q3 : h b ≠ 41) : PP h nm (d + 1) 6 o a false b E := fun X cl => cl.2.2.2.2.1 d o a b E q0 q1 (q2 X cl) q3
theorem PP_brF {h : Nat → Int32} {nm : Int32 → Int32} {d : Nat} {o : Nat} {a : Nat} {b : Nat} {E : List Int32} (q0 : h a = 40) (q1 : o < 5) (q2 : PP h nm d 1 (o + 1) (a + 1) false b E) : PP h nm (d + 1) 6 o a false b E := fun X cl => cl.2.2.2.2.2.1 d o a b E q0 q1 (q2 X cl)
theorem PP_num {h : Nat → Int32} {nm : Int32 → Int32} {d : Nat} {o : Nat} {a : Nat} {k : Nat} (q0 : DG h a k) (q1 : 0 < k) : PP h nm (d + 1) 6 o a true (a + k) [nvl h a k] := fun X cl => cl.2.2.2.2.2.2.1 d o a k q0 q1
theorem PP_nam {h : Nat → Int32} {nm : Int32 → Int32} {d : Nat} {o : Nat} {a : Nat} (q0 : h a ≠ 33) (q1 : h a ≠ 40) (q2 : ¬ isDg (h a)) (q3 : 0 ≤ h a) (q4 : 0 ≤ nm (h a)) : PP h nm (d + 1) 6 o a true (a + 1) [10000 + nm (h a)] := fun X cl => cl.2.2.2.2.2.2.2.1 d o a q0 q1 q2 q3 q4
theorem PP_bad {h : Nat → Int32} {nm : Int32 → Int32} {d : Nat} {o : Nat} {a : Nat} (q0 : h a ≠ 33) (q1 : h a ≠ 40) (q2 : ¬ isDg (h a)) (q3 : (h a < 0 ∨ nm (h a) < 0)) : PP h nm (d + 1) 6 o a false a [] := fun X cl => cl.2.2.2.2.2.2.2.2.1 d o a q0 q1 q2 q3
theorem PP_bT {h : Nat → Int32} {nm : Int32 → Int32} {d : Nat} {n : Nat} {o : Nat} {a : Nat} {b : Nat} {ok : Bool} {c : Nat} {E : List Int32} {F : List Int32} (q0 : 1 ≤ n) (q1 : n ≤ 5) (q2 : PP h nm d (n + 1) o a true b E) (q3 : PP h nm d (10 + n) o b ok c F) : PP h nm (d + 1) n o a ok c (F ++ E) := fun X cl => cl.2.2.2.2.2.2.2.2.2.1 d n o a b ok c E F q0 q1 (q2 X cl) (q3 X cl)
theorem PP_bF {h : Nat → Int32} {nm : Int32 → Int32} {d : Nat} {n : Nat} {o : Nat} {a : Nat} {b : Nat} {E : List Int32} (q0 : 1 ≤ n) (q1 : n ≤ 5) (q2 : PP h nm d (n + 1) o a false b E) : PP h nm (d + 1) n o a false b E := fun X cl => cl.2.2.2.2.2.2.2.2.2.2.1 d n o a b E q0 q1 (q2 X cl)
theorem PP_lE {h : Nat → Int32} {nm : Int32 → Int32} {d : Nat} {n : Nat} {o : Nat} {a : Nat} (q0 : 1 ≤ n) (q1 : n ≤ 5) (q2 : lvl (h a) ≠ n) : PP h nm (d + 1) (10 + n) o a true a [] := fun X cl => cl.2.2.2.2.2.2.2.2.2.2.2.1 d n o a q0 q1 q2
theorem PP_lT {h : Nat → Int32} {nm : Int32 → Int32} {d : Nat} {n : Nat} {o : Nat} {a : Nat} {b : Nat} {ok : Bool} {c : Nat} {E : List Int32} {F : List Int32} (q0 : 1 ≤ n) (q1 : n ≤ 5) (q2 : n ≠ 3) (q3 : lvl (h a) = n) (q4 : PP h nm d (n + 1) o (a + 1) true b E) (q5 : PP h nm d (10 + n) o b ok c F) : PP h nm (d + 1) (10 + n) o a ok c (F ++ opc (h a) :: E) := fun X cl => cl.2.2.2.2.2.2.2.2.2.2.2.2.1 d n o a b ok c E F q0 q1 q2 q3 (q4 X cl) (q5 X cl)
theorem PP_l3 {h : Nat → Int32} {nm : Int32 → Int32} {d : Nat} {o : Nat} {a : Nat} {b : Nat} {E : List Int32} (q0 : lvl (h a) = 3) (q1 : PP h nm d 4 o (a + 1) true b E) : PP h nm (d + 1) 13 o a true b (opc (h a) :: E) := fun X cl => cl.2.2.2.2.2.2.2.2.2.2.2.2.2.1 d o a b E q0 (q1 X cl)
theorem PP_lF {h : Nat → Int32} {nm : Int32 → Int32} {d : Nat} {n : Nat} {o : Nat} {a : Nat} {b : Nat} {E : List Int32} (q0 : 1 ≤ n) (q1 : n ≤ 5) (q2 : lvl (h a) = n) (q3 : PP h nm d (n + 1) o (a + 1) false b E) : PP h nm (d + 1) (10 + n) o a false b E := fun X cl => cl.2.2.2.2.2.2.2.2.2.2.2.2.2.2 d n o a b E q0 q1 q2 (q3 X cl)
theorem PP_ind {h : Nat → Int32} {nm : Int32 → Int32} (mt : Nat → Nat → Nat → Nat → Bool → Nat → List Int32 → Prop) (i_deep : ∀ (d : Nat) (a : Nat), (h a = 33 ∨ h a = 40) → mt (d + 1) 6 5 a false a []) (i_notT : ∀ (d : Nat) (o : Nat) (a : Nat) (b : Nat) (E : List Int32), h a = 33 → o < 5 → PP h nm d 6 (o + 1) (a + 1) true b E → mt d 6 (o + 1) (a + 1) true b E → mt (d + 1) 6 o a true b (20010 :: E)) (i_notF : ∀ (d : Nat) (o : Nat) (a : Nat) (b : Nat) (E : List Int32), h a = 33 → o < 5 → PP h nm d 6 (o + 1) (a + 1) false b E → mt d 6 (o + 1) (a + 1) false b E → mt (d + 1) 6 o a false b E) (i_brT : ∀ (d : Nat) (o : Nat) (a : Nat) (b : Nat) (E : List Int32), h a = 40 → o < 5 → PP h nm d 1 (o + 1) (a + 1) true b E → h b = 41 → mt d 1 (o + 1) (a + 1) true b E → mt (d + 1) 6 o a true (b + 1) E) (i_brC : ∀ (d : Nat) (o : Nat) (a : Nat) (b : Nat) (E : List Int32), h a = 40 → o < 5 → PP h nm d 1 (o + 1) (a + 1) true b E → h b ≠ 41 → mt d 1 (o + 1) (a + 1) true b E → mt (d + 1) 6 o a false b E) (i_brF : ∀ (d : Nat) (o : Nat) (a : Nat) (b : Nat) (E : List Int32), h a = 40 → o < 5 → PP h nm d 1 (o + 1) (a + 1) false b E → mt d 1 (o + 1) (a + 1) false b E → mt (d + 1) 6 o a false b E) (i_num : ∀ (d : Nat) (o : Nat) (a : Nat) (k : Nat), DG h a k → 0 < k → mt (d + 1) 6 o a true (a + k) [nvl h a k]) (i_nam : ∀ (d : Nat) (o : Nat) (a : Nat), h a ≠ 33 → h a ≠ 40 → ¬ isDg (h a) → 0 ≤ h a → 0 ≤ nm (h a) → mt (d + 1) 6 o a true (a + 1) [10000 + nm (h a)]) (i_bad : ∀ (d : Nat) (o : Nat) (a : Nat), h a ≠ 33 → h a ≠ 40 → ¬ isDg (h a) → (h a < 0 ∨ nm (h a) < 0) → mt (d + 1) 6 o a false a []) (i_bT : ∀ (d : Nat) (n : Nat) (o : Nat) (a : Nat) (b : Nat) (ok : Bool) (c : Nat) (E : List Int32) (F : List Int32), 1 ≤ n → n ≤ 5 → PP h nm d (n + 1) o a true b E → PP h nm d (10 + n) o b ok c F → mt d (n + 1) o a true b E → mt d (10 + n) o b ok c F → mt (d + 1) n o a ok c (F ++ E)) (i_bF : ∀ (d : Nat) (n : Nat) (o : Nat) (a : Nat) (b : Nat) (E : List Int32), 1 ≤ n → n ≤ 5 → PP h nm d (n + 1) o a false b E → mt d (n + 1) o a false b E → mt (d + 1) n o a false b E) (i_lE : ∀ (d : Nat) (n : Nat) (o : Nat) (a : Nat), 1 ≤ n → n ≤ 5 → lvl (h a) ≠ n → mt (d + 1) (10 + n) o a true a []) (i_lT : ∀ (d : Nat) (n : Nat) (o : Nat) (a : Nat) (b : Nat) (ok : Bool) (c : Nat) (E : List Int32) (F : List Int32), 1 ≤ n → n ≤ 5 → n ≠ 3 → lvl (h a) = n → PP h nm d (n + 1) o (a + 1) true b E → PP h nm d (10 + n) o b ok c F → mt d (n + 1) o (a + 1) true b E → mt d (10 + n) o b ok c F → mt (d + 1) (10 + n) o a ok c (F ++ opc (h a) :: E)) (i_l3 : ∀ (d : Nat) (o : Nat) (a : Nat) (b : Nat) (E : List Int32), lvl (h a) = 3 → PP h nm d 4 o (a + 1) true b E → mt d 4 o (a + 1) true b E → mt (d + 1) 13 o a true b (opc (h a) :: E)) (i_lF : ∀ (d : Nat) (n : Nat) (o : Nat) (a : Nat) (b : Nat) (E : List Int32), 1 ≤ n → n ≤ 5 → lvl (h a) = n → PP h nm d (n + 1) o (a + 1) false b E → mt d (n + 1) o (a + 1) false b E → mt (d + 1) (10 + n) o a false b E) {d : Nat} {n : Nat} {o : Nat} {a : Nat} {ok : Bool} {b : Nat} {E : List Int32} (p : PP h nm d n o a ok b E) : mt d n o a ok b E := (p (fun d n o a ok b E => PP h nm d n o a ok b E ∧ mt d n o a ok b E) ⟨fun d a q0 => ⟨PP_deep q0, i_deep d a q0 ⟩, fun d o a b E q0 q1 q2 => ⟨PP_notT q0 q1 q2.1, i_notT d o a b E q0 q1 q2.1 q2.2⟩, fun d o a b E q0 q1 q2 => ⟨PP_notF q0 q1 q2.1, i_notF d o a b E q0 q1 q2.1 q2.2⟩, fun d o a b E q0 q1 q2 q3 => ⟨PP_brT q0 q1 q2.1 q3, i_brT d o a b E q0 q1 q2.1 q3 q2.2⟩, fun d o a b E q0 q1 q2 q3 => ⟨PP_brC q0 q1 q2.1 q3, i_brC d o a b E q0 q1 q2.1 q3 q2.2⟩, fun d o a b E q0 q1 q2 => ⟨PP_brF q0 q1 q2.1, i_brF d o a b E q0 q1 q2.1 q2.2⟩, fun d o a k q0 q1 => ⟨PP_num q0 q1, i_num d o a k q0 q1 ⟩, fun d o a q0 q1 q2 q3 q4 => ⟨PP_nam q0 q1 q2 q3 q4, i_nam d o a q0 q1 q2 q3 q4 ⟩, fun d o a q0 q1 q2 q3 => ⟨PP_bad q0 q1 q2 q3, i_bad d o a q0 q1 q2 q3 ⟩, fun d n o a b ok c E F q0 q1 q2 q3 => ⟨PP_bT q0 q1 q2.1 q3.1, i_bT d n o a b ok c E F q0 q1 q2.1 q3.1 q2.2 q3.2⟩, fun d n o a b E q0 q1 q2 => ⟨PP_bF q0 q1 q2.1, i_bF d n o a b E q0 q1 q2.1 q2.2⟩, fun d n o a q0 q1 q2 => ⟨PP_lE q0 q1 q2, i_lE d n o a q0 q1 q2 ⟩, fun d n o a b ok c E F q0 q1 q2 q3 q4 q5 => ⟨PP_lT q0 q1 q2 q3 q4.1 q5.1, i_lT d n o a b ok c E F q0 q1 q2 q3 q4.1 q5.1 q4.2 q5.2⟩, fun d o a b E q0 q1 => ⟨PP_l3 q0 q1.1, i_l3 d o a b E q0 q1.1 q1.2⟩, fun d n o a b E q0 q1 q2 q3 => ⟨PP_lF q0 q1 q2 q3.1, i_lF d n o a b E q0 q1 q2 q3.1 q3.2⟩⟩).2
/-- what a text is made of: bytes, and after its end none -/
def TXT (h : Nat → Int32) (N : Nat) : Prop := (∀ a, N ≤ a → h a = -1) ∧ ∀ a, a < N → 0 ≤ h a
theorem TXT_lt {h : Nat → Int32} {N a : Nat} (H : TXT h N) (h1 : 0 ≤ h a) : a < N := by
  rcases Nat.lt_or_ge a N with q | q
  · exact q
  · rw [H.1 a q] at h1; exact absurd h1 (by decide)
theorem lvl_pos {c : Int32} (h : lvl c ≠ 0) : 0 ≤ c := by
  have h3 : c = 124 ∨ c = 38 ∨ c = 60 ∨ c = 61 ∨ c = 62 ∨ c = 43 ∨ c = 45 ∨ c = 42 ∨ c = 47 ∨ c = 37 := by
    unfold lvl at h; grind
  rcases h3 with rfl | rfl | rfl | rfl | rfl | rfl | rfl | rfl | rfl | rfl <;> decide
theorem PP_bd {h : Nat → Int32} {nm : Int32 → Int32} {N : Nat} (H : TXT h N) {d n o a ok b E} (p : PP h nm d n o a ok b E) : a ≤ N → a ≤ b ∧ b ≤ N ∧ (ok = true → n ≤ 6 → a < b) ∧ (ok = true → a + E.length ≤ b) := by
  refine PP_ind (fun d n o a ok b E => a ≤ N → a ≤ b ∧ b ≤ N ∧ (ok = true → n ≤ 6 → a < b) ∧ (ok = true → a + E.length ≤ b)) ?_ ?_ ?_ ?_ ?_ ?_ ?_ ?_ ?_ ?_ ?_ ?_ ?_ ?_ ?_ p
  · intros; exact ⟨by omega, by omega, by simp, by simp⟩
  · intro d o a b E q q2 p ih
    intro h1
    have := TXT_lt H (a := a) (by rw [q]; decide)
    have := ih (by omega)
    simp only [List.length_cons]
    grind
  · intro d o a b E q q2 p ih
    intro h1
    have := TXT_lt H (a := a) (by rw [q]; decide)
    have := ih (by omega)
    grind
  · intro d o a b E q q2 p q3 ih
    intro h1
    have := TXT_lt H (a := a) (by rw [q]; decide)
    have := TXT_lt H (a := b) (by rw [q3]; decide)
    have := ih (by omega)
    grind
  · intro d o a b E q q2 p q3 ih
    intro h1
    have := TXT_lt H (a := a) (by rw [q]; decide)
    have := ih (by omega)
    grind
  · intro d o a b E q q2 p ih
    intro h1
    have := TXT_lt H (a := a) (by rw [q]; decide)
    have := ih (by omega)
    grind
  · intro d o a k q q2
    intro h1
    have q3 := q.1 (k - 1) (by omega)
    have := TXT_lt H (a := a + (k - 1)) (Int32.le_trans (by decide) q3.1)
    simp only [List.length_cons, List.length_nil]
    grind
  · intro d o a q q2 q3 q4 q5
    intro h1
    have := TXT_lt H (a := a) q4
    simp only [List.length_cons, List.length_nil]
    grind
  · intros; exact ⟨by omega, by omega, by simp, by simp⟩
  · intro d n o a b ok c E F q q2 p p2 ih ih2
    intro h1
    have h3 := ih h1
    have h4 := ih2 (by omega)
    simp only [List.length_append]
    grind
  · intro d n o a b E q q2 p ih
    intro h1
    have := ih h1
    grind
  · intros; exact ⟨by omega, by omega, by omega, by simp⟩
  · intro d n o a b ok c E F q q2 q3 q4 p p2 ih ih2
    intro h1
    have := TXT_lt H (a := a) (lvl_pos (by omega))
    have h3 := ih (by omega)
    have h4 := ih2 (by omega)
    simp only [List.length_append, List.length_cons]
    grind
  · intro d o a b E q4 p ih
    intro h1
    have := TXT_lt H (a := a) (lvl_pos (by omega))
    have h3 := ih (by omega)
    simp only [List.length_cons]
    grind
  · intro d n o a b E q q2 q4 p ih
    intro h1
    have := TXT_lt H (a := a) (lvl_pos (by omega))
    have h3 := ih (by omega)
    grind
theorem DG_ex (h : Nat → Int32) (a : Nat) : ∃ k, DG h a k := by
  by_cases h0 : isDg (h (a + 0))
  · by_cases h1 : isDg (h (a + 1))
    · by_cases h2 : isDg (h (a + 2))
      · by_cases h3 : isDg (h (a + 3))
        · refine ⟨4, fun j hj => ?_, by omega, fun q => by omega⟩
          rcases (by omega : j = 0 ∨ j = 1 ∨ j = 2 ∨ j = 3) with rfl | rfl | rfl | rfl <;> assumption
        · refine ⟨3, fun j hj => ?_, by omega, fun _ => h3⟩
          rcases (by omega : j = 0 ∨ j = 1 ∨ j = 2) with rfl | rfl | rfl <;> assumption
      · refine ⟨2, fun j hj => ?_, by omega, fun _ => h2⟩
        rcases (by omega : j = 0 ∨ j = 1) with rfl | rfl <;> assumption
    · refine ⟨1, fun j hj => ?_, by omega, fun _ => h1⟩
      rcases (by omega : j = 0) with rfl; assumption
  · exact ⟨0, fun j hj => by omega, by omega, fun _ => h0⟩
theorem DG_un {h : Nat → Int32} {a k l : Nat} (p : DG h a k) (q : DG h a l) : k = l := by
  rcases Nat.lt_trichotomy k l with h1 | h1 | h1
  · exact absurd (q.1 k h1) (p.2.2 (by have := q.2.1; omega))
  · exact h1
  · exact absurd (p.1 l h1) (q.2.2 (by have := p.2.1; omega))
theorem PP_ex {h : Nat → Int32} {nm : Int32 → Int32} {N : Nat} (H : TXT h N) : ∀ d n o a, a ≤ N → o ≤ 5 → ((1 ≤ n ∧ n ≤ 6 ∧ 8 * (N - a) + 8 - n < d) ∨ (11 ≤ n ∧ n ≤ 15 ∧ 8 * (N - a) + 9 < d)) → ∃ ok b E, PP h nm d n o a ok b E := by
  intro d
  induction d with
  | zero => intro n o a h1 h2 h3; omega
  | succ d ih =>
    intro n o a h1 h2 h3
    rcases (by omega : n = 6 ∨ (1 ≤ n ∧ n ≤ 5) ∨ (11 ≤ n ∧ n ≤ 15)) with rfl | ⟨q, q2⟩ | ⟨q, q2⟩
    · by_cases c1 : h a = 33
      · by_cases c5 : o = 5
        · subst c5; exact ⟨_, _, _, PP_deep (.inl c1)⟩
        · have := TXT_lt H (a := a) (by rw [c1]; decide)
          obtain ⟨ok, b, E, p⟩ := ih 6 (o + 1) (a + 1) (by omega) (by omega) (by omega)
          cases ok with
          | true => exact ⟨_, _, _, PP_notT c1 (by omega) p⟩
          | false => exact ⟨_, _, _, PP_notF c1 (by omega) p⟩
      · by_cases c2 : h a = 40
        · by_cases c5 : o = 5
          · subst c5; exact ⟨_, _, _, PP_deep (.inr c2)⟩
          · have := TXT_lt H (a := a) (by rw [c2]; decide)
            obtain ⟨ok, b, E, p⟩ := ih 1 (o + 1) (a + 1) (by omega) (by omega) (by omega)
            cases ok with
            | true =>
              by_cases c3 : h b = 41
              · exact ⟨_, _, _, PP_brT c2 (by omega) p c3⟩
              · exact ⟨_, _, _, PP_brC c2 (by omega) p c3⟩
            | false => exact ⟨_, _, _, PP_brF c2 (by omega) p⟩
        · obtain ⟨k, hk⟩ := DG_ex h a
          by_cases c3 : k = 0
          · subst c3
            have c4 := hk.2.2 (by omega)
            by_cases c6 : 0 ≤ h a ∧ 0 ≤ nm (h a)
            · exact ⟨_, _, _, PP_nam c1 c2 c4 c6.1 c6.2⟩
            · exact ⟨_, _, _, PP_bad c1 c2 c4 (by grind)⟩
          · exact ⟨_, _, _, PP_num hk (by omega)⟩
    · obtain ⟨ok, b, E, p⟩ := ih (n + 1) o a h1 h2 (by omega)
      cases ok with
      | true =>
        have := PP_bd H p h1
        obtain ⟨ok2, c, F, p2⟩ := ih (10 + n) o b (by omega) h2 (by grind)
        exact ⟨_, _, _, PP_bT q q2 p p2⟩
      | false => exact ⟨_, _, _, PP_bF q q2 p⟩
    · obtain ⟨m, rfl⟩ : ∃ m, n = 10 + m := ⟨n - 10, by omega⟩
      by_cases c1 : lvl (h a) = m
      · have := TXT_lt H (a := a) (lvl_pos (by omega))
        obtain ⟨ok, b, E, p⟩ := ih (m + 1) o (a + 1) (by omega) h2 (by omega)
        cases ok with
        | true =>
          by_cases c3 : m = 3
          · subst c3; exact ⟨_, _, _, PP_l3 c1 p⟩
          · have := PP_bd H p (by omega)
            obtain ⟨ok2, c, F, p2⟩ := ih (10 + m) o b (by omega) h2 (by grind)
            exact ⟨_, _, _, PP_lT (by omega) (by omega) c3 c1 p p2⟩
        | false => exact ⟨_, _, _, PP_lF (by omega) (by omega) c1 p⟩
      · exact ⟨_, _, _, PP_lE (by omega) (by omega) c1⟩
/-! the class's machine -/
def stl (n : Nat) : List Int32 → List Int32 → List Int32 × List Int32
  | C, [] => (C, [])
  | C, x :: P => if n ≤ lvl x then stl n (em x :: C) P else (C, x :: P)
def enO : List Int32 → List Int32 → List Int32 × List Int32
  | C, [] => (C, [])
  | C, x :: P => if x = 33 then enO (em x :: C) P else (C, x :: P)
def nO : List Int32 → Nat
  | [] => 0
  | x :: P => nO P + (if x = 33 ∨ x = 40 then 1 else 0)
def nB : List Int32 → Nat
  | [] => 0
  | x :: P => nB P + (if x = 40 then 1 else 0)
def CRc (h : Nat → Int32) (nm : Int32 → Int32) (N : Nat) (X : Bool → Nat → List Int32 → List Int32 → Nat ⊕ List Int32 → Prop) : Prop := (∀ (w : Bool) (a : Nat) (C : List Int32) (P : List Int32), N ≤ a → (w = true ∨ nB P ≠ 0) → X w a C P (.inl N)) ∧ (∀ (a : Nat) (C : List Int32) (P : List Int32), N ≤ a → nB P = 0 → X false a C P (.inr (stl 1 C P).1)) ∧ (∀ (a : Nat) (C : List Int32) (P : List Int32), a < N → (h a = 33 ∨ h a = 40) → 5 ≤ nO P → X true a C P (.inl a)) ∧ (∀ (a : Nat) (C : List Int32) (P : List Int32) (r : Nat ⊕ List Int32), a < N → (h a = 33 ∨ h a = 40) → nO P < 5 → X true (a + 1) C (h a :: P) r → X true a C P r) ∧ (∀ (a : Nat) (C : List Int32) (P : List Int32) (r : Nat ⊕ List Int32) (k : Nat), a < N → DG h a k → 0 < k → X false (a + k) (enO (nvl h a k :: C) P).1 (enO (nvl h a k :: C) P).2 r → X true a C P r) ∧ (∀ (a : Nat) (C : List Int32) (P : List Int32) (r : Nat ⊕ List Int32), a < N → h a ≠ 33 → h a ≠ 40 → ¬ isDg (h a) → 0 ≤ nm (h a) → X false (a + 1) (enO ((10000 + nm (h a)) :: C) P).1 (enO ((10000 + nm (h a)) :: C) P).2 r → X true a C P r) ∧ (∀ (a : Nat) (C : List Int32) (P : List Int32), a < N → h a ≠ 33 → h a ≠ 40 → ¬ isDg (h a) → nm (h a) < 0 → X true a C P (.inl a)) ∧ (∀ (a : Nat) (C : List Int32) (P : List Int32), a < N → h a = 41 → nB P = 0 → X false a C P (.inl a)) ∧ (∀ (a : Nat) (C : List Int32) (P : List Int32) (C1 : List Int32) (P1 : List Int32) (r : Nat ⊕ List Int32), a < N → h a = 41 → stl 1 C P = (C1, 40 :: P1) → nB P ≠ 0 → X false (a + 1) (enO C1 P1).1 (enO C1 P1).2 r → X false a C P r) ∧ (∀ (a : Nat) (C : List Int32) (P : List Int32), a < N → h a ≠ 41 → lvl (h a) = 0 → X false a C P (.inl a)) ∧ (∀ (a : Nat) (C : List Int32) (P : List Int32), a < N → lvl (h a) = 3 → lvl ((stl 4 C P).2.headD 0) = 3 → X false a C P (.inl a)) ∧ (∀ (a : Nat) (C : List Int32) (P : List Int32) (r : Nat ⊕ List Int32), a < N → lvl (h a) ≠ 0 → (lvl (h a) = 3 → lvl ((stl 4 C P).2.headD 0) ≠ 3) → X true (a + 1) (stl (lvl (h a)) C P).1 (h a :: (stl (lvl (h a)) C P).2) r → X false a C P r)
def CR (h : Nat → Int32) (nm : Int32 → Int32) (N : Nat) (w : Bool) (a : Nat) (C : List Int32) (P : List Int32) (r : Nat ⊕ List Int32) : Prop := ∀ X : Bool → Nat → List Int32 → List Int32 → Nat ⊕ List Int32 → Prop, CRc h nm N X → X w a C P r
theorem CR_endF {h : Nat → Int32} {nm : Int32 → Int32} {N : Nat} {w : Bool} {a : Nat} {C : List Int32} {P : List Int32} (q0 : N ≤ a) (q1 : (w = true ∨ nB P ≠ 0)) : CR h nm N w a C P (.inl N) := fun X cl => cl.1 w a C P q0 q1
theorem CR_endS {h : Nat → Int32} {nm : Int32 → Int32} {N : Nat} {a : Nat} {C : List Int32} {P : List Int32} (q0 : N ≤ a) (q1 : nB P = 0) : CR h nm N false a C P (.inr (stl 1 C P).1) := fun X cl => cl.2.1 a C P q0 q1
theorem CR_deep {h : Nat → Int32} {nm : Int32 → Int32} {N : Nat} {a : Nat} {C : List Int32} {P : List Int32} (q0 : a < N) (q1 : (h a = 33 ∨ h a = 40)) (q2 : 5 ≤ nO P) : CR h nm N true a C P (.inl a) := fun X cl => cl.2.2.1 a C P q0 q1 q2
theorem CR_push {h : Nat → Int32} {nm : Int32 → Int32} {N : Nat} {a : Nat} {C : List Int32} {P : List Int32} {r : Nat ⊕ List Int32} (q0 : a < N) (q1 : (h a = 33 ∨ h a = 40)) (q2 : nO P < 5) (q3 : CR h nm N true (a + 1) C (h a :: P) r) : CR h nm N true a C P r := fun X cl => cl.2.2.2.1 a C P r q0 q1 q2 (q3 X cl)
theorem CR_num {h : Nat → Int32} {nm : Int32 → Int32} {N : Nat} {a : Nat} {C : List Int32} {P : List Int32} {r : Nat ⊕ List Int32} {k : Nat} (q0 : a < N) (q1 : DG h a k) (q2 : 0 < k) (q3 : CR h nm N false (a + k) (enO (nvl h a k :: C) P).1 (enO (nvl h a k :: C) P).2 r) : CR h nm N true a C P r := fun X cl => cl.2.2.2.2.1 a C P r k q0 q1 q2 (q3 X cl)
theorem CR_nam {h : Nat → Int32} {nm : Int32 → Int32} {N : Nat} {a : Nat} {C : List Int32} {P : List Int32} {r : Nat ⊕ List Int32} (q0 : a < N) (q1 : h a ≠ 33) (q2 : h a ≠ 40) (q3 : ¬ isDg (h a)) (q4 : 0 ≤ nm (h a)) (q5 : CR h nm N false (a + 1) (enO ((10000 + nm (h a)) :: C) P).1 (enO ((10000 + nm (h a)) :: C) P).2 r) : CR h nm N true a C P r := fun X cl => cl.2.2.2.2.2.1 a C P r q0 q1 q2 q3 q4 (q5 X cl)
theorem CR_bad {h : Nat → Int32} {nm : Int32 → Int32} {N : Nat} {a : Nat} {C : List Int32} {P : List Int32} (q0 : a < N) (q1 : h a ≠ 33) (q2 : h a ≠ 40) (q3 : ¬ isDg (h a)) (q4 : nm (h a) < 0) : CR h nm N true a C P (.inl a) := fun X cl => cl.2.2.2.2.2.2.1 a C P q0 q1 q2 q3 q4
theorem CR_cloF {h : Nat → Int32} {nm : Int32 → Int32} {N : Nat} {a : Nat} {C : List Int32} {P : List Int32} (q0 : a < N) (q1 : h a = 41) (q2 : nB P = 0) : CR h nm N false a C P (.inl a) := fun X cl => cl.2.2.2.2.2.2.2.1 a C P q0 q1 q2
theorem CR_clo {h : Nat → Int32} {nm : Int32 → Int32} {N : Nat} {a : Nat} {C : List Int32} {P : List Int32} {C1 : List Int32} {P1 : List Int32} {r : Nat ⊕ List Int32} (q0 : a < N) (q1 : h a = 41) (q2 : stl 1 C P = (C1, 40 :: P1)) (q3 : nB P ≠ 0) (q4 : CR h nm N false (a + 1) (enO C1 P1).1 (enO C1 P1).2 r) : CR h nm N false a C P r := fun X cl => cl.2.2.2.2.2.2.2.2.1 a C P C1 P1 r q0 q1 q2 q3 (q4 X cl)
theorem CR_op0 {h : Nat → Int32} {nm : Int32 → Int32} {N : Nat} {a : Nat} {C : List Int32} {P : List Int32} (q0 : a < N) (q1 : h a ≠ 41) (q2 : lvl (h a) = 0) : CR h nm N false a C P (.inl a) := fun X cl => cl.2.2.2.2.2.2.2.2.2.1 a C P q0 q1 q2
theorem CR_op3 {h : Nat → Int32} {nm : Int32 → Int32} {N : Nat} {a : Nat} {C : List Int32} {P : List Int32} (q0 : a < N) (q1 : lvl (h a) = 3) (q2 : lvl ((stl 4 C P).2.headD 0) = 3) : CR h nm N false a C P (.inl a) := fun X cl => cl.2.2.2.2.2.2.2.2.2.2.1 a C P q0 q1 q2
theorem CR_op {h : Nat → Int32} {nm : Int32 → Int32} {N : Nat} {a : Nat} {C : List Int32} {P : List Int32} {r : Nat ⊕ List Int32} (q0 : a < N) (q1 : lvl (h a) ≠ 0) (q2 : (lvl (h a) = 3 → lvl ((stl 4 C P).2.headD 0) ≠ 3)) (q3 : CR h nm N true (a + 1) (stl (lvl (h a)) C P).1 (h a :: (stl (lvl (h a)) C P).2) r) : CR h nm N false a C P r := fun X cl => cl.2.2.2.2.2.2.2.2.2.2.2 a C P r q0 q1 q2 (q3 X cl)
theorem CR_ind {h : Nat → Int32} {nm : Int32 → Int32} {N : Nat} (mt : Bool → Nat → List Int32 → List Int32 → Nat ⊕ List Int32 → Prop) (i_endF : ∀ (w : Bool) (a : Nat) (C : List Int32) (P : List Int32), N ≤ a → (w = true ∨ nB P ≠ 0) → mt w a C P (.inl N)) (i_endS : ∀ (a : Nat) (C : List Int32) (P : List Int32), N ≤ a → nB P = 0 → mt false a C P (.inr (stl 1 C P).1)) (i_deep : ∀ (a : Nat) (C : List Int32) (P : List Int32), a < N → (h a = 33 ∨ h a = 40) → 5 ≤ nO P → mt true a C P (.inl a)) (i_push : ∀ (a : Nat) (C : List Int32) (P : List Int32) (r : Nat ⊕ List Int32), a < N → (h a = 33 ∨ h a = 40) → nO P < 5 → CR h nm N true (a + 1) C (h a :: P) r → mt true (a + 1) C (h a :: P) r → mt true a C P r) (i_num : ∀ (a : Nat) (C : List Int32) (P : List Int32) (r : Nat ⊕ List Int32) (k : Nat), a < N → DG h a k → 0 < k → CR h nm N false (a + k) (enO (nvl h a k :: C) P).1 (enO (nvl h a k :: C) P).2 r → mt false (a + k) (enO (nvl h a k :: C) P).1 (enO (nvl h a k :: C) P).2 r → mt true a C P r) (i_nam : ∀ (a : Nat) (C : List Int32) (P : List Int32) (r : Nat ⊕ List Int32), a < N → h a ≠ 33 → h a ≠ 40 → ¬ isDg (h a) → 0 ≤ nm (h a) → CR h nm N false (a + 1) (enO ((10000 + nm (h a)) :: C) P).1 (enO ((10000 + nm (h a)) :: C) P).2 r → mt false (a + 1) (enO ((10000 + nm (h a)) :: C) P).1 (enO ((10000 + nm (h a)) :: C) P).2 r → mt true a C P r) (i_bad : ∀ (a : Nat) (C : List Int32) (P : List Int32), a < N → h a ≠ 33 → h a ≠ 40 → ¬ isDg (h a) → nm (h a) < 0 → mt true a C P (.inl a)) (i_cloF : ∀ (a : Nat) (C : List Int32) (P : List Int32), a < N → h a = 41 → nB P = 0 → mt false a C P (.inl a)) (i_clo : ∀ (a : Nat) (C : List Int32) (P : List Int32) (C1 : List Int32) (P1 : List Int32) (r : Nat ⊕ List Int32), a < N → h a = 41 → stl 1 C P = (C1, 40 :: P1) → nB P ≠ 0 → CR h nm N false (a + 1) (enO C1 P1).1 (enO C1 P1).2 r → mt false (a + 1) (enO C1 P1).1 (enO C1 P1).2 r → mt false a C P r) (i_op0 : ∀ (a : Nat) (C : List Int32) (P : List Int32), a < N → h a ≠ 41 → lvl (h a) = 0 → mt false a C P (.inl a)) (i_op3 : ∀ (a : Nat) (C : List Int32) (P : List Int32), a < N → lvl (h a) = 3 → lvl ((stl 4 C P).2.headD 0) = 3 → mt false a C P (.inl a)) (i_op : ∀ (a : Nat) (C : List Int32) (P : List Int32) (r : Nat ⊕ List Int32), a < N → lvl (h a) ≠ 0 → (lvl (h a) = 3 → lvl ((stl 4 C P).2.headD 0) ≠ 3) → CR h nm N true (a + 1) (stl (lvl (h a)) C P).1 (h a :: (stl (lvl (h a)) C P).2) r → mt true (a + 1) (stl (lvl (h a)) C P).1 (h a :: (stl (lvl (h a)) C P).2) r → mt false a C P r) {w : Bool} {a : Nat} {C : List Int32} {P : List Int32} {r : Nat ⊕ List Int32} (p : CR h nm N w a C P r) : mt w a C P r := (p (fun w a C P r => CR h nm N w a C P r ∧ mt w a C P r) ⟨fun w a C P q0 q1 => ⟨CR_endF q0 q1, i_endF w a C P q0 q1 ⟩, fun a C P q0 q1 => ⟨CR_endS q0 q1, i_endS a C P q0 q1 ⟩, fun a C P q0 q1 q2 => ⟨CR_deep q0 q1 q2, i_deep a C P q0 q1 q2 ⟩, fun a C P r q0 q1 q2 q3 => ⟨CR_push q0 q1 q2 q3.1, i_push a C P r q0 q1 q2 q3.1 q3.2⟩, fun a C P r k q0 q1 q2 q3 => ⟨CR_num q0 q1 q2 q3.1, i_num a C P r k q0 q1 q2 q3.1 q3.2⟩, fun a C P r q0 q1 q2 q3 q4 q5 => ⟨CR_nam q0 q1 q2 q3 q4 q5.1, i_nam a C P r q0 q1 q2 q3 q4 q5.1 q5.2⟩, fun a C P q0 q1 q2 q3 q4 => ⟨CR_bad q0 q1 q2 q3 q4, i_bad a C P q0 q1 q2 q3 q4 ⟩, fun a C P q0 q1 q2 => ⟨CR_cloF q0 q1 q2, i_cloF a C P q0 q1 q2 ⟩, fun a C P C1 P1 r q0 q1 q2 q3 q4 => ⟨CR_clo q0 q1 q2 q3 q4.1, i_clo a C P C1 P1 r q0 q1 q2 q3 q4.1 q4.2⟩, fun a C P q0 q1 q2 => ⟨CR_op0 q0 q1 q2, i_op0 a C P q0 q1 q2 ⟩, fun a C P q0 q1 q2 => ⟨CR_op3 q0 q1 q2, i_op3 a C P q0 q1 q2 ⟩, fun a C P r q0 q1 q2 q3 => ⟨CR_op q0 q1 q2 q3.1, i_op a C P r q0 q1 q2 q3.1 q3.2⟩⟩).2
def Tp (n : Nat) (P : List Int32) : Prop := lvl (P.headD 40) < n ∧ P.headD 40 ≠ 33
theorem stl_app (n : Nat) (R P : List Int32) (hR : ∀ x, x ∈ R → n ≤ lvl x) (hP : lvl (P.headD 40) < n) : ∀ C, stl n C (R ++ P) = (R.reverse.map em ++ C, P) := by
  induction R with
  | nil =>
    intro C
    cases P with
    | nil => rfl
    | cons x P =>
      have : ¬ n ≤ lvl x := by simp only [List.headD_cons] at hP; omega
      show stl n C (x :: P) = _
      rw [stl, if_neg this]; rfl
  | cons x R ih =>
    intro C
    show stl n C (x :: (R ++ P)) = _
    rw [stl, if_pos (hR x (List.mem_cons_self ..)), ih (fun y hy => hR y (List.mem_cons_of_mem _ hy))]
    simp
theorem enO_top {C P : List Int32} (h : P.headD 40 ≠ 33) : enO C P = (C, P) := by
  cases P with
  | nil => rfl
  | cons x P => exact if_neg h
theorem nO_app (R P : List Int32) (hR : ∀ x, x ∈ R → 1 ≤ lvl x) : nO (R ++ P) = nO P := by
  induction R with
  | nil => rfl
  | cons x R ih =>
    have := lvl_ne (c := x) (by have := hR x (List.mem_cons_self ..); omega)
    show nO (R ++ P) + _ = _
    rw [ih (fun y hy => hR y (List.mem_cons_of_mem _ hy)), if_neg (by grind)]; rfl
theorem nB_app (R P : List Int32) (hR : ∀ x, x ∈ R → 1 ≤ lvl x) : nB (R ++ P) = nB P := by
  induction R with
  | nil => rfl
  | cons x R ih =>
    have := lvl_ne (c := x) (by have := hR x (List.mem_cons_self ..); omega)
    show nB (R ++ P) + _ = _
    rw [ih (fun y hy => hR y (List.mem_cons_of_mem _ hy)), if_neg (by grind)]; rfl
def Shp (R : List Int32) : Prop := ∃ R1 r R2, R = R1 ++ r :: R2 ∧ (∀ x, x ∈ R1 → 4 ≤ lvl x) ∧ lvl r = 3
def Nd (n : Nat) (R : List Int32) (l : Nat) : Prop := l < n ∨ (l = 3 ∧ n ≤ 3 ∧ Shp R)
theorem Shp_hd {R P C : List Int32} (h : Shp R) : lvl ((stl 4 C (R ++ P)).2.headD 0) = 3 := by
  obtain ⟨R1, r, R2, rfl, h1, h2⟩ := h
  rw [List.append_assoc, stl_app 4 R1 _ h1 (by show lvl r < 4; omega)]
  exact h2
theorem Shp_app {R P : List Int32} (h : Shp R) : Shp (R ++ P) := by
  obtain ⟨R1, r, R2, rfl, h1, h2⟩ := h
  exact ⟨R1, r, R2 ++ P, by simp, h1, h2⟩
/-! the machine follows -/
def SimL (h : Nat → Int32) (nm : Int32 → Int32) (N n o a : Nat) (ok : Bool) (b : Nat) (E : List Int32) : Prop := ∀ C P, nO P = o → Tp n P → if ok = true then ∃ C' R, (∀ x, x ∈ R → n ≤ lvl x) ∧ R.reverse.map em ++ C' = E.map cv ++ C ∧ Nd n R (lvl (h b)) ∧ ∀ r, CR h nm N false b C' (R ++ P) r → CR h nm N true a C P r else CR h nm N true a C P (.inl b)
def SimO (h : Nat → Int32) (nm : Int32 → Int32) (N o a : Nat) (ok : Bool) (b : Nat) (E : List Int32) : Prop := ∀ C P, nO P = o → if ok = true then ∀ r, CR h nm N false b (enO (E.map cv ++ C) P).1 (enO (E.map cv ++ C) P).2 r → CR h nm N true a C P r else CR h nm N true a C P (.inl b)
def SimP (h : Nat → Int32) (nm : Int32 → Int32) (N n o a : Nat) (ok : Bool) (b : Nat) (E : List Int32) : Prop := ∀ C R P, nO P = o → Tp n P → (∀ x, x ∈ R → n ≤ lvl x) → Nd (n + 1) R (lvl (h a)) → (n = 3 → ∀ x, x ∈ R → 4 ≤ lvl x) → if ok = true then ∃ C' R', (∀ x, x ∈ R' → n ≤ lvl x) ∧ R'.reverse.map em ++ C' = E.map cv ++ (R.reverse.map em ++ C) ∧ Nd n R' (lvl (h b)) ∧ ∀ r, CR h nm N false b C' (R' ++ P) r → CR h nm N false a C (R ++ P) r else CR h nm N false a C (R ++ P) (.inl b)
theorem SimO_L {h : Nat → Int32} {nm : Int32 → Int32} {N o a ok b E} (p : SimO h nm N o a ok b E) : SimL h nm N 6 o a ok b E := by
  intro C P h1 h2
  have h3 := p C P h1
  rw [enO_top h2.2] at h3
  cases ok with
  | true => exact ⟨E.map cv ++ C, [], fun x hx => absurd hx (by simp), rfl, Or.inl (by have := lvl_le (h b); omega), h3⟩
  | false => exact h3
theorem Tp_up {n : Nat} {P : List Int32} (h : Tp n P) : Tp (n + 1) P := ⟨by have := h.1; omega, h.2⟩
theorem ev_cv (c : Int32) (h : 0 ≤ c) (h2 : c < 20000) : cv c = c := if_pos h2
theorem nvl_sm {h : Nat → Int32} {a k : Nat} (p : DG h a k) : 0 ≤ nvl h a k ∧ nvl h a k < 10000 := by
  have h4 := p.2.1
  have h0 := p.1
  have e : ∀ j, nvl h a (j + 1) = nvl h a j * 10 + h (a + j) - 48 := fun j => rfl
  have e0 : nvl h a 0 = 0 := rfl
  have s1 : 1 ≤ k → 0 ≤ nvl h a 1 ∧ nvl h a 1 < 10 := fun q => by
    have := h0 0 (by omega); unfold isDg at this; rw [e, e0]; lia
  have s2 : 2 ≤ k → 0 ≤ nvl h a 2 ∧ nvl h a 2 < 100 := fun q => by
    have := h0 1 (by omega); have := s1 (by omega); unfold isDg at *; rw [e]; lia
  have s3 : 3 ≤ k → 0 ≤ nvl h a 3 ∧ nvl h a 3 < 1000 := fun q => by
    have := h0 2 (by omega); have := s2 (by omega); unfold isDg at *; rw [e]; lia
  have s4 : 4 ≤ k → 0 ≤ nvl h a 4 ∧ nvl h a 4 < 10000 := fun q => by
    have := h0 3 (by omega); have := s3 (by omega); unfold isDg at *; rw [e]; lia
  rcases (by omega : k = 0 ∨ k = 1 ∨ k = 2 ∨ k = 3 ∨ k = 4) with rfl | rfl | rfl | rfl | rfl
  · rw [e0]; decide
  · have := s1 (by omega); lia
  · have := s2 (by omega); lia
  · have := s3 (by omega); lia
  · exact s4 (by omega)
/-- a place where no operator of the level stands, or a third one: the machine faults there -/
theorem CR_stop {h : Nat → Int32} {nm : Int32 → Int32} {N a : Nat} (H : TXT h N) {C R P} (ha : a ≤ N) (h1 : Nd 1 R (lvl (h a))) (h41 : h a = 41 → nB (R ++ P) = 0) (hN : a = N → nB (R ++ P) ≠ 0) : CR h nm N false a C (R ++ P) (.inl a) := by
  by_cases q : a = N
  · have h2 := hN q
    subst q
    exact CR_endF (Nat.le_refl _) (.inr h2)
  · rcases h1 with h1 | ⟨h1, _, h2⟩
    · by_cases c : h a = 41
      · exact CR_cloF (by omega) c (h41 c)
      · exact CR_op0 (by omega) c (by omega)
    · exact CR_op3 (by omega) h1 (Shp_hd h2)
theorem PP_sim {h : Nat → Int32} {nm : Int32 → Int32} {N : Nat} (H : TXT h N) (hnm : ∀ c, nm c < 10000) {d n o a ok b E} (p : PP h nm d n o a ok b E) : a ≤ N → (1 ≤ n → n ≤ 5 → SimL h nm N n o a ok b E) ∧ (n = 6 → SimO h nm N o a ok b E) ∧ (11 ≤ n → SimP h nm N (n - 10) o a ok b E) := by
  refine PP_ind (fun d n o a ok b E => a ≤ N → (1 ≤ n → n ≤ 5 → SimL h nm N n o a ok b E) ∧ (n = 6 → SimO h nm N o a ok b E) ∧ (11 ≤ n → SimP h nm N (n - 10) o a ok b E)) ?_ ?_ ?_ ?_ ?_ ?_ ?_ ?_ ?_ ?_ ?_ ?_ ?_ ?_ ?_ p
  · intro d a q
    intro ha
    refine ⟨fun _ _ => by omega, fun _ => ?_, fun _ => by omega⟩
    intro C P h1
    have := TXT_lt H (a := a) (by rcases q with q | q <;> (rw [q]; decide))
    exact CR_deep this q (by omega)
  · intro d o a b E q q2 p ih
    intro ha
    refine ⟨fun _ _ => by omega, fun _ => ?_, fun _ => by omega⟩
    intro C P h1
    have hl := TXT_lt H (a := a) (by rw [q]; decide)
    have h2 := (ih (by omega)).2.1 rfl C (33 :: P) (by show nO P + 1 = _; omega)
    show ∀ r, _ → _
    intro r h3
    refine CR_push hl (.inl q) (by omega) ?_
    rw [q]
    exact h2 r h3
  · intro d o a b E q q2 p ih
    intro ha
    refine ⟨fun _ _ => by omega, fun _ => ?_, fun _ => by omega⟩
    intro C P h1
    have hl := TXT_lt H (a := a) (by rw [q]; decide)
    have h2 := (ih (by omega)).2.1 rfl C (33 :: P) (by show nO P + 1 = _; omega)
    refine CR_push hl (.inl q) (by omega) ?_
    rw [q]
    exact h2
  · intro d o a b E q q2 p q3 ih
    intro ha
    refine ⟨fun _ _ => by omega, fun _ => ?_, fun _ => by omega⟩
    intro C P h1
    have hl := TXT_lt H (a := a) (by rw [q]; decide)
    have hl2 := TXT_lt H (a := b) (by rw [q3]; decide)
    obtain ⟨C', R, g1, g2, g3, g4⟩ := (ih (by omega)).1 (by omega) (by omega) C (40 :: P) (by show nO P + 1 = _; omega) ⟨(by decide : lvl 40 < 1), (by decide : (40 : Int32) ≠ 33)⟩
    show ∀ r, _ → _
    intro r h3
    refine CR_push hl (.inr q) (by omega) ?_
    rw [q]
    refine g4 r (CR_clo hl2 q3 (stl_app 1 R (40 :: P) g1 (by decide : lvl 40 < 1) C') ?_ ?_)
    · rw [nB_app R _ g1]; show nB P + 1 ≠ 0; omega
    · rw [g2]; exact h3
  · intro d o a b E q q2 p q3 ih
    intro ha
    refine ⟨fun _ _ => by omega, fun _ => ?_, fun _ => by omega⟩
    intro C P h1
    have hl := TXT_lt H (a := a) (by rw [q]; decide)
    have hb := PP_bd H p (by omega)
    obtain ⟨C', R, g1, g2, g3, g4⟩ := (ih (by omega)).1 (by omega) (by omega) C (40 :: P) (by show nO P + 1 = _; omega) ⟨(by decide : lvl 40 < 1), (by decide : (40 : Int32) ≠ 33)⟩
    refine CR_push hl (.inr q) (by omega) ?_
    rw [q]
    refine g4 _ (CR_stop H hb.2.1 g3 (fun w => absurd w q3) (fun _ => ?_))
    rw [nB_app R _ g1]; show nB P + 1 ≠ 0; omega
  · intro d o a b E q q2 p ih
    intro ha
    refine ⟨fun _ _ => by omega, fun _ => ?_, fun _ => by omega⟩
    intro C P h1
    have hl := TXT_lt H (a := a) (by rw [q]; decide)
    have h2 := (ih (by omega)).1 (by omega) (by omega) C (40 :: P) (by show nO P + 1 = _; omega) ⟨(by decide : lvl 40 < 1), (by decide : (40 : Int32) ≠ 33)⟩
    refine CR_push hl (.inr q) (by omega) ?_
    rw [q]
    exact h2
  · intro d o a k q q2
    intro ha
    refine ⟨fun _ _ => by omega, fun _ => ?_, fun _ => by omega⟩
    intro C P h1
    have hl := TXT_lt H (a := a) (Int32.le_trans (by decide) (q.1 0 q2).1)
    have h2 := nvl_sm q
    show ∀ r, _ → _
    intro r h3
    rw [show [nvl h a k].map cv ++ C = nvl h a k :: C from by simp [ev_cv _ h2.1 (by lia)]] at h3
    exact CR_num hl q q2 h3
  · intro d o a q q2 q3 q4 q5
    intro ha
    refine ⟨fun _ _ => by omega, fun _ => ?_, fun _ => by omega⟩
    intro C P h1
    have hl := TXT_lt H (a := a) q4
    have h2 := hnm (h a)
    show ∀ r, _ → _
    intro r h3
    rw [show [10000 + nm (h a)].map cv ++ C = (10000 + nm (h a)) :: C from by simp [ev_cv (10000 + nm (h a)) (by lia) (by lia)]] at h3
    exact CR_nam hl q q2 q3 q5 h3
  · intro d o a q q2 q3 q4
    intro ha
    refine ⟨fun _ _ => by omega, fun _ => ?_, fun _ => by omega⟩
    intro C P h1
    show CR h nm N true a C P (.inl a)
    by_cases c : a < N
    · have := H.2 a c
      exact CR_bad c q q2 q3 (by rcases q4 with q4 | q4 <;> lia)
    · have : a = N := by omega
      subst this
      exact CR_endF (Nat.le_refl _) (.inl rfl)
  · intro d n o a b ok c E F q q2 p p2 ih ih2
    intro ha
    refine ⟨fun _ _ => ?_, fun _ => by omega, fun _ => by omega⟩
    have hb := PP_bd H p ha
    have i1 : SimL h nm N (n + 1) o a true b E := by
      rcases (by omega : n = 5 ∨ n ≤ 4) with rfl | hn
      · exact SimO_L ((ih ha).2.1 rfl)
      · exact (ih ha).1 (by omega) (by omega)
    have i2 := (ih2 hb.2.1).2.2 (by omega)
    rw [show 10 + n - 10 = n from by omega] at i2
    intro C P h1 h2
    obtain ⟨C', R, g1, g2, g3, g4⟩ := i1 C P h1 (Tp_up h2)
    have h3 := i2 C' R P h1 h2 (fun x hx => by have := g1 x hx; omega) g3 (fun w x hx => by have := g1 x hx; omega)
    cases ok with
    | true =>
      obtain ⟨C2, R2, k1, k2, k3, k4⟩ := h3
      refine ⟨C2, R2, k1, ?_, k3, fun r hr => g4 r (k4 r hr)⟩
      rw [k2, g2]; simp
    | false => exact g4 _ h3
  · intro d n o a b E q q2 p ih
    intro ha
    refine ⟨fun _ _ => ?_, fun _ => by omega, fun _ => by omega⟩
    have i1 : SimL h nm N (n + 1) o a false b E := by
      rcases (by omega : n = 5 ∨ n ≤ 4) with rfl | hn
      · exact SimO_L ((ih ha).2.1 rfl)
      · exact (ih ha).1 (by omega) (by omega)
    intro C P h1 h2
    exact i1 C P h1 (Tp_up h2)
  · intro d n o a q q2 q3
    intro ha
    refine ⟨fun _ _ => by omega, fun _ => by omega, fun _ => ?_⟩
    rw [show 10 + n - 10 = n from by omega]
    intro C R P h1 h2 h3 h4 h5
    refine ⟨C, R, h3, rfl, ?_, fun r hr => hr⟩
    rcases h4 with h4 | ⟨h4, h6, h7⟩
    · left; omega
    · right; exact ⟨h4, by omega, h7⟩
  · intro d n o a b ok c E F q q2 q3 q4 p p2 ih ih2
    intro ha
    refine ⟨fun _ _ => by omega, fun _ => by omega, fun _ => ?_⟩
    rw [show 10 + n - 10 = n from by omega]
    have hl := TXT_lt H (a := a) (lvl_pos (by omega))
    have hb := PP_bd H p (by omega)
    have i1 : SimL h nm N (n + 1) o (a + 1) true b E := by
      rcases (by omega : n = 5 ∨ n ≤ 4) with rfl | hn
      · exact SimO_L ((ih (by omega)).2.1 rfl)
      · exact (ih (by omega)).1 (by omega) (by omega)
    have i2 := (ih2 hb.2.1).2.2 (by omega)
    rw [show 10 + n - 10 = n from by omega] at i2
    intro C R P h1 h2 h3 h4 h5
    have hne := lvl_ne (c := h a) (by omega)
    obtain ⟨C1, R1, g1, g2, g3, g4⟩ := i1 (R.reverse.map em ++ C) (h a :: P) (by show nO P + _ = _; rw [if_neg (by grind)]; exact h1) ⟨by show lvl (h a) < n + 1; omega, hne.2.1⟩
    have h6 := i2 C1 (R1 ++ [h a]) P h1 h2 (fun x hx => by
      rcases List.mem_append.mp hx with w | w
      · have := g1 x w; omega
      · rw [List.mem_singleton.mp w]; omega) (by
      rcases g3 with g3 | ⟨g3, g5, g6⟩
      · exact .inl g3
      · exact .inr ⟨g3, g5, Shp_app g6⟩) (fun w => absurd w q3)
    have step : ∀ r, CR h nm N false b C1 ((R1 ++ [h a]) ++ P) r → CR h nm N false a C (R ++ P) r := by
      intro r hr
      refine CR_op hl (by omega) (fun w => absurd w (by omega)) ?_
      rw [q4, stl_app n R P h3 h2.1]
      refine g4 r ?_
      rw [List.append_assoc] at hr
      exact hr
    cases ok with
    | true =>
      obtain ⟨C2, R2, k1, k2, k3, k4⟩ := h6
      refine ⟨C2, R2, k1, ?_, k3, fun r hr => step r (k4 r hr)⟩
      rw [k2]
      simp only [List.reverse_append, List.reverse_cons, List.reverse_nil, List.nil_append, List.map_append, List.map_cons, List.map_nil, List.append_assoc, List.cons_append]
      rw [g2, cv_opc (by omega)]
    | false => exact step _ h6
  · intro d o a b E q4 p ih
    intro ha
    refine ⟨fun _ _ => by omega, fun _ => by omega, fun _ => ?_⟩
    have hl := TXT_lt H (a := a) (lvl_pos (by omega))
    have i1 : SimL h nm N 4 o (a + 1) true b E := (ih (by omega)).1 (by omega) (by omega)
    intro C R P h1 h2 h3 h4 h5
    have h5 := h5 rfl
    have hne := lvl_ne (c := h a) (by omega)
    obtain ⟨C1, R1, g1, g2, g3, g4⟩ := i1 (R.reverse.map em ++ C) (h a :: P) (by show nO P + _ = _; rw [if_neg (by grind)]; exact h1) ⟨by show lvl (h a) < 4; omega, hne.2.1⟩
    refine ⟨C1, R1 ++ [h a], fun x hx => by
      rcases List.mem_append.mp hx with w | w
      · have := g1 x w; omega
      · rw [List.mem_singleton.mp w]; omega, ?_, ?_, fun r hr => ?_⟩
    · simp only [List.reverse_append, List.reverse_cons, List.reverse_nil, List.nil_append, List.map_append, List.map_cons, List.map_nil, List.append_assoc, List.cons_append]
      rw [g2, cv_opc (by omega)]
    · rcases g3 with g3 | ⟨g3, g5, g6⟩
      · rcases (by omega : lvl (h b) < 3 ∨ lvl (h b) = 3) with w | w
        · exact .inl w
        · exact .inr ⟨w, by omega, R1, h a, [], by simp, g1, q4⟩
      · omega
    · refine CR_op hl (by omega) (fun w => ?_) ?_
      · rw [stl_app 4 R P h5 (by have : lvl (P.headD 40) < 3 := h2.1; omega)]
        have h7 : lvl (P.headD 40) < 3 := h2.1
        cases P with
        | nil => exact (by decide : lvl 0 ≠ 3)
        | cons x P => simp only [List.headD_cons] at h7 ⊢; omega
      · rw [q4, stl_app 3 R P h3 h2.1]
        refine g4 r ?_
        rw [List.append_assoc] at hr
        exact hr
  · intro d n o a b E q q2 q4 p ih
    intro ha
    refine ⟨fun _ _ => by omega, fun _ => by omega, fun _ => ?_⟩
    rw [show 10 + n - 10 = n from by omega]
    have hl := TXT_lt H (a := a) (lvl_pos (by omega))
    have i1 : SimL h nm N (n + 1) o (a + 1) false b E := by
      rcases (by omega : n = 5 ∨ n ≤ 4) with rfl | hn
      · exact SimO_L ((ih (by omega)).2.1 rfl)
      · exact (ih (by omega)).1 (by omega) (by omega)
    intro C R P h1 h2 h3 h4 h5
    have hne := lvl_ne (c := h a) (by omega)
    have h6 := i1 (R.reverse.map em ++ C) (h a :: P) (by show nO P + _ = _; rw [if_neg (by grind)]; exact h1) ⟨by show lvl (h a) < n + 1; omega, hne.2.1⟩
    refine CR_op hl (by omega) (fun w => ?_) ?_
    · have hn3 : n = 3 := by omega
      subst hn3
      rw [stl_app 4 R P (h5 rfl) (by have := h2.1; omega)]
      have h7 : lvl (P.headD 40) < 3 := h2.1
      cases P with
      | nil => exact (by decide : lvl 0 ≠ 3)
      | cons x P => simp only [List.headD_cons] at h7 ⊢; omega
    · rw [q4, stl_app n R P h3 h2.1]
      exact h6
theorem PP_top {h : Nat → Int32} {nm : Int32 → Int32} {N : Nat} (H : TXT h N) (hnm : ∀ c, nm c < 10000) {d ok b E} (p : PP h nm d 1 0 0 ok b E) : CR h nm N true 0 [] [] (if ok = true ∧ b = N then .inr (E.map cv) else .inl b) := by
  have h1 := (PP_sim H hnm p (Nat.zero_le _)).1 (by omega) (by omega) [] [] rfl ⟨by decide, by decide⟩
  have hb := PP_bd H p (Nat.zero_le _)
  cases ok with
  | false => exact h1
  | true =>
    obtain ⟨C', R, g1, g2, g3, g4⟩ := h1
    refine g4 _ ?_
    have hB : nB (R ++ []) = 0 := nB_app R [] g1
    by_cases c : b = N
    · rw [if_pos ⟨rfl, c⟩]
      have e := CR_endS (h := h) (nm := nm) (N := N) (a := b) (C := C') (P := R ++ []) (by omega) hB
      rw [stl_app 1 R [] g1 (by decide), g2] at e
      rw [← List.append_nil (E.map cv)]
      exact e
    · rw [if_neg (fun w => c w.2)]
      exact CR_stop H hb.2.1 g3 (fun _ => hB) (fun w => absurd w c)
/-! what is read is well formed -/
def dl : List Int32 → Nat
  | [] => 0
  | x :: E => if x < 20000 then dl E + 1 else if x = 20010 then dl E else dl E - 1
def wl : List Int32 → Prop
  | [] => True
  | x :: E => wl E ∧ wf1 x (dl E)
def lsA (A : Nat → Int32) : List Int32 → Prop
  | [] => True
  | x :: E => A E.length = x ∧ lsA A E
theorem opc_r {c : Int32} (h : lvl c ≠ 0) : 20000 ≤ opc c ∧ opc c < 20010 := by
  have h3 : c = 124 ∨ c = 38 ∨ c = 60 ∨ c = 61 ∨ c = 62 ∨ c = 43 ∨ c = 45 ∨ c = 42 ∨ c = 47 ∨ c = 37 := by
    unfold lvl at h; grind
  rcases h3 with rfl | rfl | rfl | rfl | rfl | rfl | rfl | rfl | rfl | rfl <;> decide
theorem PP_wf {h : Nat → Int32} {nm : Int32 → Int32} (hnm : ∀ c, nm c < 4) {d n o a ok b E} (p : PP h nm d n o a ok b E) : ok = true → (n ≤ 6 → ∀ X, wl X → wl (E ++ X) ∧ dl (E ++ X) = dl X + 1) ∧ (11 ≤ n → ∀ X, wl X → 1 ≤ dl X → wl (E ++ X) ∧ dl (E ++ X) = dl X) := by
  refine PP_ind (fun d n o a ok b E => ok = true → (n ≤ 6 → ∀ X, wl X → wl (E ++ X) ∧ dl (E ++ X) = dl X + 1) ∧ (11 ≤ n → ∀ X, wl X → 1 ≤ dl X → wl (E ++ X) ∧ dl (E ++ X) = dl X)) ?_ ?_ ?_ ?_ ?_ ?_ ?_ ?_ ?_ ?_ ?_ ?_ ?_ ?_ ?_ p
  · intros; rename_i w; exact absurd w (by decide)
  · intro d o a b E q q2 p ih
    intro w
    refine ⟨fun _ X hX => ?_, fun _ => by omega⟩
    have h1 := (ih rfl).1 (by omega) X hX
    have h5 : 1 ≤ dl (E ++ X) := by omega
    refine ⟨⟨h1.1, .inr (.inl ⟨rfl, h5⟩)⟩, ?_⟩
    show (if (20010 : Int32) < 20000 then _ else _) = _
    rw [if_neg (by decide), if_pos rfl]; exact h1.2
  · intros; rename_i w; exact absurd w (by decide)
  · intro d o a b E q q2 p q3 ih
    intro w
    exact ⟨fun _ X hX => (ih rfl).1 (by omega) X hX, fun _ => by omega⟩
  · intros; rename_i w; exact absurd w (by decide)
  · intros; rename_i w; exact absurd w (by decide)
  · intro d o a k q q2
    intro w
    have h1 := nvl_sm q
    refine ⟨fun _ X hX => ⟨⟨hX, .inl ⟨h1.1, by lia⟩⟩, ?_⟩, fun _ => by omega⟩
    exact if_pos (by lia)
  · intro d o a q q2 q3 q4 q5
    intro w
    have h1 := hnm (h a)
    refine ⟨fun _ X hX => ⟨⟨hX, .inl ⟨by lia, by lia⟩⟩, ?_⟩, fun _ => by omega⟩
    exact if_pos (by lia)
  · intros; rename_i w; exact absurd w (by decide)
  · intro d n o a b ok c E F q q2 p p2 ih ih2
    intro w
    refine ⟨fun _ X hX => ?_, fun _ => by omega⟩
    have h1 := (ih rfl).1 (by omega) X hX
    have h2 := (ih2 w).2 (by omega) (E ++ X) h1.1 (by omega)
    rw [List.append_assoc]
    exact ⟨h2.1, by omega⟩
  · intros; rename_i w; exact absurd w (by decide)
  · intros; exact ⟨fun _ => by omega, fun _ X hX _ => ⟨hX, rfl⟩⟩
  · intro d n o a b ok c E F q q2 q3 q4 p p2 ih ih2
    intro w
    refine ⟨fun _ => by omega, fun _ X hX hX1 => ?_⟩
    have h1 := (ih rfl).1 (by omega) X hX
    have h3 := opc_r (c := h a) (by omega)
    have h4 : wl (opc (h a) :: (E ++ X)) ∧ dl (opc (h a) :: (E ++ X)) = dl X := by
      refine ⟨⟨h1.1, .inr (.inr ⟨h3.1, h3.2, by omega⟩)⟩, ?_⟩
      show (if opc (h a) < 20000 then _ else _) = _
      rw [if_neg (by lia), if_neg (by lia)]; omega
    have h2 := (ih2 w).2 (by omega) (opc (h a) :: (E ++ X)) h4.1 (by omega)
    rw [List.append_assoc]
    exact ⟨h2.1, h2.2.trans h4.2⟩
  · intro d o a b E q4 p ih
    intro w
    refine ⟨fun _ => by omega, fun _ X hX hX1 => ?_⟩
    have h1 := (ih rfl).1 (by omega) X hX
    have h3 := opc_r (c := h a) (by omega)
    have h5 : 2 ≤ dl (E ++ X) := by omega
    have h6 : dl (E ++ X) - 1 = dl X := by omega
    refine ⟨⟨h1.1, .inr (.inr ⟨h3.1, h3.2, h5⟩)⟩, ?_⟩
    show (if opc (h a) < 20000 then _ else _) = _
    rw [if_neg (by lia), if_neg (by lia)]; exact h6
  · intros; rename_i w; exact absurd w (by decide)
theorem lsA_dp {A : Nat → Int32} {E : List Int32} (h : lsA A E) : dp A E.length = dl E := by
  induction E with
  | nil => rfl
  | cons x E ih =>
    show (if A E.length < 20000 then _ else _) = _
    rw [h.1, ih h.2]; rfl
theorem lsA_wf {A : Nat → Int32} {E : List Int32} (h : lsA A E) (h2 : wl E) : ∀ k, k < E.length → wf1 (A k) (dp A k) := by
  induction E with
  | nil => intro k hk; exact absurd hk (by simp)
  | cons x E ih =>
    intro k hk
    simp only [List.length_cons] at hk
    rcases (by omega : k < E.length ∨ k = E.length) with q | q
    · exact ih h.2 h2.1 k q
    · subst q
      rw [h.1, lsA_dp h.2]
      exact h2.2
theorem PP_wfc {h : Nat → Int32} {nm : Int32 → Int32} (hnm : ∀ c, nm c < 4) {d o a b E} (p : PP h nm d 1 o a true b E) {A : Nat → Int32} (hA : lsA A E) : wfc A E.length := by
  have h1 := (PP_wf hnm p rfl).1 (by omega) [] trivial
  rw [List.append_nil] at h1
  exact ⟨(lsA_dp hA).trans h1.2, lsA_wf hA h1.1⟩
theorem lsA_cg {A B : Nat → Int32} {E : List Int32} (h : ∀ j, j < E.length → B j = A j) (p : lsA A E) : lsA B E := by
  induction E with
  | nil => trivial
  | cons x E ih => exact ⟨(h _ (by simp)).trans p.1, ih (fun j hj => h j (by simp; omega)) p.2⟩
theorem lsA_get {A : Nat → Int32} {E : List Int32} (p : lsA A E) (B : Nat → Int32) (q : lsA B (E.map cv)) : ∀ j, j < E.length → B j = cv (A j) := by
  induction E with
  | nil => intro j hj; exact absurd hj (by simp)
  | cons x E ih =>
    intro j hj
    simp only [List.length_cons] at hj
    have q1 : B (E.map cv).length = cv x := q.1
    rw [List.length_map] at q1
    rcases (by omega : j < E.length ∨ j = E.length) with w | w
    · exact ih p.2 q.2 j w
    · subst w; rw [q1, p.1]
