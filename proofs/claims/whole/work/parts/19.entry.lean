/-- the law's words of the tables, whether they are kept or not -/
theorem am_lw {b : Nat} {s : State} (hts : ∀ w ∈ lw_tbl, w.before #[Value.ref b] s = true) (i : Nat) {w : Cond} (h : lw_tbl[i]? = some w) : w.before #[Value.ref b] s = true := hts w (List.mem_of_getElem? h)
set_option maxRecDepth 100000 in
theorem am_l1 : lw_tbl[515]? = some (.laysStatic "GhostTable" "ABOVE" "[I") := by decide +kernel
set_option maxRecDepth 100000 in
theorem am_l2 : lw_tbl[64]? = some (.initialized "GhostTable") := by decide +kernel
set_option maxRecDepth 100000 in
theorem am_l3 : lw_tbl[907]? = some (.laysStatic "GhostTable$Speaker" "BODIES" "[I") := by decide +kernel
set_option maxRecDepth 100000 in
theorem am_l4 : lw_tbl[73]? = some (.initialized "GhostTable$Speaker") := by decide +kernel
set_option maxRecDepth 100000 in
theorem am_l5 : lw_tbl[627]? = some (.laysStatic "java/lang/String" "COMPACT_STRINGS" "Z") := by decide +kernel
set_option maxRecDepth 100000 in
theorem am_l6 : lw_tbl[76]? = some (.initialized "java/lang/String") := by decide +kernel
set_option maxRecDepth 100000 in
theorem am_l7 : lw_tbl[666]? = some (.laysStatic "jdk/internal/util/Preconditions" "SIOOBE_FORMATTER" "Ljava/util/function/BiFunction;") := by decide +kernel
set_option maxRecDepth 100000 in
theorem am_l8 : lw_tbl[79]? = some (.initialized "jdk/internal/util/Preconditions") := by decide +kernel
set_option maxRecDepth 100000 in
theorem am_l9 : lw_tbl[218]? = some (.stringRef "GhostTable$Realm" 20 "hsrk") := by decide +kernel
set_option maxRecDepth 100000 in
theorem am_l10 : lw_tbl[265]? = some (.stringRef "GhostTable$Realm" 29 "phu") := by decide +kernel
set_option maxRecDepth 100000 in
theorem am_l11 : lw_tbl[1006]? = some (.stringRef "GhostTableModel" 24 "hsrk") := by decide +kernel
set_option maxRecDepth 100000 in
theorem am_l12 : lw_tbl[1007]? = some (.stringRef "GhostTableModel" 26 "phu") := by decide +kernel
set_option maxRecDepth 100000 in
theorem am_l13 : lw_tbl[904]? = some (.fieldLinkNest "GhostTable$Speaker" 48 "GhostTable" "ABOVE" "[I" "GhostTable") := by decide +kernel
set_option maxRecDepth 100000 in
theorem am_l14 : lw_tbl[103]? = some (.arrayOver (.object "GhostTable$Ghost")) := by decide +kernel
set_option maxRecDepth 100000 in
theorem am_l15 : lw_tbl[146]? = some (.arrayOver (.object "GhostTable$Dish")) := by decide +kernel
set_option maxRecDepth 100000 in
theorem am_l16 : lw_tbl[343]? = some (.arrayOver (.object "GhostTable$Sheet")) := by decide +kernel
set_option maxRecDepth 100000 in
theorem am_l17 : lw_tbl[1005]? = some (.arrayOver (.object "java/lang/String")) := by decide +kernel
set_option maxRecDepth 100000 in
theorem am_l18 : lw_tbl[215]? = some (.arrayClass .int) := by decide +kernel
set_option maxRecDepth 100000 in
theorem am_ln0 : lw_tbl[105]? = some (.methodLinkNest "GhostTable$Board" 17 (am_nm 23) "GhostTable") := by decide +kernel
set_option maxRecDepth 100000 in
theorem am_ln1 : lw_tbl[148]? = some (.methodLinkNest "GhostTable$Board" 24 (am_nm 19) "GhostTable") := by decide +kernel
set_option maxRecDepth 100000 in
theorem am_ln2 : lw_tbl[905]? = some (.methodLinkNest "GhostTable$Speaker" 52 (am_nm 114) "GhostTable") := by decide +kernel
set_option maxRecDepth 100000 in
theorem am_n1 : (.arrayOf (.static "GhostTable" "ABOVE" "[I") .int : Cond) ∈ flatC (Jvm.Cond.and given_1 narrow_1) := by decide +kernel
set_option maxRecDepth 100000 in
theorem am_n2 : (.eq (.length (.static "GhostTable" "ABOVE" "[I")) (.int 7) : Cond) ∈ flatC (Jvm.Cond.and given_1 narrow_1) := by decide +kernel
set_option maxRecDepth 100000 in
theorem am_n3 : (.arrayOf (.static "GhostTable$Speaker" "BODIES" "[I") .int : Cond) ∈ flatC (Jvm.Cond.and given_1 narrow_1) := by decide +kernel
set_option maxRecDepth 100000 in
theorem am_n4 : (.eq (.length (.static "GhostTable$Speaker" "BODIES" "[I")) (.int 28) : Cond) ∈ flatC (Jvm.Cond.and given_1 narrow_1) := by decide +kernel
set_option maxRecDepth 100000 in
theorem am_na0 : (.eq (.elem (.static "GhostTable" "ABOVE" "[I") (.int 0)) (.int (-1)) : Cond) ∈ flatC (Jvm.Cond.and given_1 narrow_1) := by decide +kernel
set_option maxRecDepth 100000 in
theorem am_na1 : (.eq (.elem (.static "GhostTable" "ABOVE" "[I") (.int 1)) (.int (0)) : Cond) ∈ flatC (Jvm.Cond.and given_1 narrow_1) := by decide +kernel
set_option maxRecDepth 100000 in
theorem am_na2 : (.eq (.elem (.static "GhostTable" "ABOVE" "[I") (.int 2)) (.int (0)) : Cond) ∈ flatC (Jvm.Cond.and given_1 narrow_1) := by decide +kernel
set_option maxRecDepth 100000 in
theorem am_na3 : (.eq (.elem (.static "GhostTable" "ABOVE" "[I") (.int 3)) (.int (0)) : Cond) ∈ flatC (Jvm.Cond.and given_1 narrow_1) := by decide +kernel
set_option maxRecDepth 100000 in
theorem am_na4 : (.eq (.elem (.static "GhostTable" "ABOVE" "[I") (.int 4)) (.int (1)) : Cond) ∈ flatC (Jvm.Cond.and given_1 narrow_1) := by decide +kernel
set_option maxRecDepth 100000 in
theorem am_na5 : (.eq (.elem (.static "GhostTable" "ABOVE" "[I") (.int 5)) (.int (2)) : Cond) ∈ flatC (Jvm.Cond.and given_1 narrow_1) := by decide +kernel
set_option maxRecDepth 100000 in
theorem am_na6 : (.eq (.elem (.static "GhostTable" "ABOVE" "[I") (.int 6)) (.int (3)) : Cond) ∈ flatC (Jvm.Cond.and given_1 narrow_1) := by decide +kernel
set_option maxRecDepth 100000 in
theorem am_nb0 : (.eq (.elem (.static "GhostTable$Speaker" "BODIES" "[I") (.int 0)) (.int (10)) : Cond) ∈ flatC (Jvm.Cond.and given_1 narrow_1) := by decide +kernel
set_option maxRecDepth 100000 in
theorem am_nb1 : (.eq (.elem (.static "GhostTable$Speaker" "BODIES" "[I") (.int 1)) (.int (11)) : Cond) ∈ flatC (Jvm.Cond.and given_1 narrow_1) := by decide +kernel
set_option maxRecDepth 100000 in
theorem am_nb2 : (.eq (.elem (.static "GhostTable$Speaker" "BODIES" "[I") (.int 2)) (.int (12)) : Cond) ∈ flatC (Jvm.Cond.and given_1 narrow_1) := by decide +kernel
set_option maxRecDepth 100000 in
theorem am_nb3 : (.eq (.elem (.static "GhostTable$Speaker" "BODIES" "[I") (.int 3)) (.int (13)) : Cond) ∈ flatC (Jvm.Cond.and given_1 narrow_1) := by decide +kernel
set_option maxRecDepth 100000 in
theorem am_nb4 : (.eq (.elem (.static "GhostTable$Speaker" "BODIES" "[I") (.int 4)) (.int (0)) : Cond) ∈ flatC (Jvm.Cond.and given_1 narrow_1) := by decide +kernel
set_option maxRecDepth 100000 in
theorem am_nb5 : (.eq (.elem (.static "GhostTable$Speaker" "BODIES" "[I") (.int 5)) (.int (20)) : Cond) ∈ flatC (Jvm.Cond.and given_1 narrow_1) := by decide +kernel
set_option maxRecDepth 100000 in
theorem am_nb6 : (.eq (.elem (.static "GhostTable$Speaker" "BODIES" "[I") (.int 6)) (.int (0)) : Cond) ∈ flatC (Jvm.Cond.and given_1 narrow_1) := by decide +kernel
set_option maxRecDepth 100000 in
theorem am_nb7 : (.eq (.elem (.static "GhostTable$Speaker" "BODIES" "[I") (.int 7)) (.int (0)) : Cond) ∈ flatC (Jvm.Cond.and given_1 narrow_1) := by decide +kernel
set_option maxRecDepth 100000 in
theorem am_nb8 : (.eq (.elem (.static "GhostTable$Speaker" "BODIES" "[I") (.int 8)) (.int (30)) : Cond) ∈ flatC (Jvm.Cond.and given_1 narrow_1) := by decide +kernel
set_option maxRecDepth 100000 in
theorem am_nb9 : (.eq (.elem (.static "GhostTable$Speaker" "BODIES" "[I") (.int 9)) (.int (0)) : Cond) ∈ flatC (Jvm.Cond.and given_1 narrow_1) := by decide +kernel
set_option maxRecDepth 100000 in
theorem am_nb10 : (.eq (.elem (.static "GhostTable$Speaker" "BODIES" "[I") (.int 10)) (.int (0)) : Cond) ∈ flatC (Jvm.Cond.and given_1 narrow_1) := by decide +kernel
set_option maxRecDepth 100000 in
theorem am_nb11 : (.eq (.elem (.static "GhostTable$Speaker" "BODIES" "[I") (.int 11)) (.int (0)) : Cond) ∈ flatC (Jvm.Cond.and given_1 narrow_1) := by decide +kernel
set_option maxRecDepth 100000 in
theorem am_nb12 : (.eq (.elem (.static "GhostTable$Speaker" "BODIES" "[I") (.int 12)) (.int (0)) : Cond) ∈ flatC (Jvm.Cond.and given_1 narrow_1) := by decide +kernel
set_option maxRecDepth 100000 in
theorem am_nb13 : (.eq (.elem (.static "GhostTable$Speaker" "BODIES" "[I") (.int 13)) (.int (0)) : Cond) ∈ flatC (Jvm.Cond.and given_1 narrow_1) := by decide +kernel
set_option maxRecDepth 100000 in
theorem am_nb14 : (.eq (.elem (.static "GhostTable$Speaker" "BODIES" "[I") (.int 14)) (.int (40)) : Cond) ∈ flatC (Jvm.Cond.and given_1 narrow_1) := by decide +kernel
set_option maxRecDepth 100000 in
theorem am_nb15 : (.eq (.elem (.static "GhostTable$Speaker" "BODIES" "[I") (.int 15)) (.int (0)) : Cond) ∈ flatC (Jvm.Cond.and given_1 narrow_1) := by decide +kernel
set_option maxRecDepth 100000 in
theorem am_nb16 : (.eq (.elem (.static "GhostTable$Speaker" "BODIES" "[I") (.int 16)) (.int (0)) : Cond) ∈ flatC (Jvm.Cond.and given_1 narrow_1) := by decide +kernel
set_option maxRecDepth 100000 in
theorem am_nb17 : (.eq (.elem (.static "GhostTable$Speaker" "BODIES" "[I") (.int 17)) (.int (50)) : Cond) ∈ flatC (Jvm.Cond.and given_1 narrow_1) := by decide +kernel
set_option maxRecDepth 100000 in
theorem am_nb18 : (.eq (.elem (.static "GhostTable$Speaker" "BODIES" "[I") (.int 18)) (.int (0)) : Cond) ∈ flatC (Jvm.Cond.and given_1 narrow_1) := by decide +kernel
set_option maxRecDepth 100000 in
theorem am_nb19 : (.eq (.elem (.static "GhostTable$Speaker" "BODIES" "[I") (.int 19)) (.int (0)) : Cond) ∈ flatC (Jvm.Cond.and given_1 narrow_1) := by decide +kernel
set_option maxRecDepth 100000 in
theorem am_nb20 : (.eq (.elem (.static "GhostTable$Speaker" "BODIES" "[I") (.int 20)) (.int (0)) : Cond) ∈ flatC (Jvm.Cond.and given_1 narrow_1) := by decide +kernel
set_option maxRecDepth 100000 in
theorem am_nb21 : (.eq (.elem (.static "GhostTable$Speaker" "BODIES" "[I") (.int 21)) (.int (0)) : Cond) ∈ flatC (Jvm.Cond.and given_1 narrow_1) := by decide +kernel
set_option maxRecDepth 100000 in
theorem am_nb22 : (.eq (.elem (.static "GhostTable$Speaker" "BODIES" "[I") (.int 22)) (.int (0)) : Cond) ∈ flatC (Jvm.Cond.and given_1 narrow_1) := by decide +kernel
set_option maxRecDepth 100000 in
theorem am_nb23 : (.eq (.elem (.static "GhostTable$Speaker" "BODIES" "[I") (.int 23)) (.int (60)) : Cond) ∈ flatC (Jvm.Cond.and given_1 narrow_1) := by decide +kernel
set_option maxRecDepth 100000 in
theorem am_nb24 : (.eq (.elem (.static "GhostTable$Speaker" "BODIES" "[I") (.int 24)) (.int (0)) : Cond) ∈ flatC (Jvm.Cond.and given_1 narrow_1) := by decide +kernel
set_option maxRecDepth 100000 in
theorem am_nb25 : (.eq (.elem (.static "GhostTable$Speaker" "BODIES" "[I") (.int 25)) (.int (0)) : Cond) ∈ flatC (Jvm.Cond.and given_1 narrow_1) := by decide +kernel
set_option maxRecDepth 100000 in
theorem am_nb26 : (.eq (.elem (.static "GhostTable$Speaker" "BODIES" "[I") (.int 26)) (.int (70)) : Cond) ∈ flatC (Jvm.Cond.and given_1 narrow_1) := by decide +kernel
set_option maxRecDepth 100000 in
theorem am_nb27 : (.eq (.elem (.static "GhostTable$Speaker" "BODIES" "[I") (.int 27)) (.int (71)) : Cond) ∈ flatC (Jvm.Cond.and given_1 narrow_1) := by decide +kernel
set_option maxRecDepth 100000 in
theorem am_n5 : (.eq (.static "java/lang/String" "COMPACT_STRINGS" "Z") (.int 1) : Cond) ∈ flatC (Jvm.Cond.and given_1 narrow_1) := by decide +kernel
set_option maxRecDepth 100000 in
theorem am_n6 : (.isRef (.static "jdk/internal/util/Preconditions" "SIOOBE_FORMATTER" "Ljava/util/function/BiFunction;") : Cond) ∈ flatC (Jvm.Cond.and given_1 narrow_1) := by decide +kernel
set_option maxRecDepth 100000 in
theorem am_s0x : (.exactly (.string "GhostTable$Realm" 20) "java/lang/String" : Cond) ∈ flatC (Jvm.Cond.and given_1 narrow_1) := by decide +kernel
set_option maxRecDepth 100000 in
theorem am_s0c : (.eq (.field (.string "GhostTable$Realm" 20) "java/lang/String" "coder" "B") (.int 0) : Cond) ∈ flatC (Jvm.Cond.and given_1 narrow_1) := by decide +kernel
set_option maxRecDepth 100000 in
theorem am_s0a : (.arrayOf (.field (.string "GhostTable$Realm" 20) "java/lang/String" "value" "[B") .byte : Cond) ∈ flatC (Jvm.Cond.and given_1 narrow_1) := by decide +kernel
set_option maxRecDepth 100000 in
theorem am_s0l : (.eq (.length (.field (.string "GhostTable$Realm" 20) "java/lang/String" "value" "[B")) (.int 4) : Cond) ∈ flatC (Jvm.Cond.and given_1 narrow_1) := by decide +kernel
set_option maxRecDepth 100000 in
theorem am_s0e0 : (.eq (.elem (.field (.string "GhostTable$Realm" 20) "java/lang/String" "value" "[B") (.int 0)) (.int 104) : Cond) ∈ flatC (Jvm.Cond.and given_1 narrow_1) := by decide +kernel
set_option maxRecDepth 100000 in
theorem am_s0e1 : (.eq (.elem (.field (.string "GhostTable$Realm" 20) "java/lang/String" "value" "[B") (.int 1)) (.int 115) : Cond) ∈ flatC (Jvm.Cond.and given_1 narrow_1) := by decide +kernel
set_option maxRecDepth 100000 in
theorem am_s0e2 : (.eq (.elem (.field (.string "GhostTable$Realm" 20) "java/lang/String" "value" "[B") (.int 2)) (.int 114) : Cond) ∈ flatC (Jvm.Cond.and given_1 narrow_1) := by decide +kernel
set_option maxRecDepth 100000 in
theorem am_s0e3 : (.eq (.elem (.field (.string "GhostTable$Realm" 20) "java/lang/String" "value" "[B") (.int 3)) (.int 107) : Cond) ∈ flatC (Jvm.Cond.and given_1 narrow_1) := by decide +kernel
set_option maxRecDepth 100000 in
theorem am_s1x : (.exactly (.string "GhostTable$Realm" 29) "java/lang/String" : Cond) ∈ flatC (Jvm.Cond.and given_1 narrow_1) := by decide +kernel
set_option maxRecDepth 100000 in
theorem am_s1c : (.eq (.field (.string "GhostTable$Realm" 29) "java/lang/String" "coder" "B") (.int 0) : Cond) ∈ flatC (Jvm.Cond.and given_1 narrow_1) := by decide +kernel
set_option maxRecDepth 100000 in
theorem am_s1a : (.arrayOf (.field (.string "GhostTable$Realm" 29) "java/lang/String" "value" "[B") .byte : Cond) ∈ flatC (Jvm.Cond.and given_1 narrow_1) := by decide +kernel
set_option maxRecDepth 100000 in
theorem am_s1l : (.eq (.length (.field (.string "GhostTable$Realm" 29) "java/lang/String" "value" "[B")) (.int 3) : Cond) ∈ flatC (Jvm.Cond.and given_1 narrow_1) := by decide +kernel
set_option maxRecDepth 100000 in
theorem am_s1e0 : (.eq (.elem (.field (.string "GhostTable$Realm" 29) "java/lang/String" "value" "[B") (.int 0)) (.int 112) : Cond) ∈ flatC (Jvm.Cond.and given_1 narrow_1) := by decide +kernel
set_option maxRecDepth 100000 in
theorem am_s1e1 : (.eq (.elem (.field (.string "GhostTable$Realm" 29) "java/lang/String" "value" "[B") (.int 1)) (.int 104) : Cond) ∈ flatC (Jvm.Cond.and given_1 narrow_1) := by decide +kernel
set_option maxRecDepth 100000 in
theorem am_s1e2 : (.eq (.elem (.field (.string "GhostTable$Realm" 29) "java/lang/String" "value" "[B") (.int 2)) (.int 117) : Cond) ∈ flatC (Jvm.Cond.and given_1 narrow_1) := by decide +kernel
set_option maxRecDepth 100000 in
theorem am_n7 : (.not (.eq (.string "GhostTable$Realm" 20) (.string "GhostTable$Realm" 29)) : Cond) ∈ flatC (Jvm.Cond.and given_1 narrow_1) := by decide +kernel
set_option maxRecDepth 100000 in
theorem am_n8 : (.eq (.string "GhostTable$Realm" 20) (.string "GhostTableModel" 24) : Cond) ∈ flatC (Jvm.Cond.and given_1 narrow_1) := by decide +kernel
set_option maxRecDepth 100000 in
theorem am_n9 : (.eq (.string "GhostTable$Realm" 29) (.string "GhostTableModel" 26) : Cond) ∈ flatC (Jvm.Cond.and given_1 narrow_1) := by decide +kernel
set_option maxRecDepth 100000 in
theorem am_li0 : lw_tbl[97]? = some (.instantiable RX0 8) := by decide +kernel
set_option maxRecDepth 100000 in
theorem am_li1 : lw_tbl[147]? = some (.instantiable RX1 5) := by decide +kernel
set_option maxRecDepth 100000 in
theorem am_li2 : lw_tbl[104]? = some (.instantiable RX2 8) := by decide +kernel
set_option maxRecDepth 100000 in
theorem am_li3 : lw_tbl[296]? = some (.instantiable RX3 5) := by decide +kernel
set_option maxRecDepth 100000 in
theorem am_li4 : lw_tbl[91]? = some (.instantiable RX4 6) := by decide +kernel
set_option maxRecDepth 100000 in
theorem am_li5 : lw_tbl[224]? = some (.instantiable RX5 2) := by decide +kernel
set_option maxRecDepth 100000 in
theorem am_li6 : lw_tbl[344]? = some (.instantiable RX6 3) := by decide +kernel
set_option maxRecDepth 100000 in
theorem am_li7 : lw_tbl[321]? = some (.instantiable RX7 4) := by decide +kernel
set_option maxRecDepth 100000 in
theorem am_li8 : lw_tbl[217]? = some (.instantiable RX8 6) := by decide +kernel
set_option maxRecDepth 100000 in
theorem am_li9 : lw_tbl[83]? = some (.instantiable RX9 9) := by decide +kernel
set_option maxRecDepth 100000 in
theorem am_li10 : lw_tbl[999]? = some (.instantiable RX10 22) := by decide +kernel
theorem am_lt7 {P : Nat → Prop} (h0 : P 0) (h1 : P 1) (h2 : P 2) (h3 : P 3) (h4 : P 4) (h5 : P 5) (h6 : P 6) {j : Nat} (h : j < 7) : P j := by
  rcases (by omega : j = 0 ∨ j = 1 ∨ j = 2 ∨ j = 3 ∨ j = 4 ∨ j = 5 ∨ j = 6) with rfl | rfl | rfl | rfl | rfl | rfl | rfl <;> assumption
theorem am_lt28 {P : Nat → Prop} (h0 : P 0) (h1 : P 1) (h2 : P 2) (h3 : P 3) (h4 : P 4) (h5 : P 5) (h6 : P 6) (h7 : P 7) (h8 : P 8) (h9 : P 9) (h10 : P 10) (h11 : P 11) (h12 : P 12) (h13 : P 13) (h14 : P 14) (h15 : P 15) (h16 : P 16) (h17 : P 17) (h18 : P 18) (h19 : P 19) (h20 : P 20) (h21 : P 21) (h22 : P 22) (h23 : P 23) (h24 : P 24) (h25 : P 25) (h26 : P 26) (h27 : P 27) {j : Nat} (h : j < 28) : P j := by
  rcases (by omega : j = 0 ∨ j = 1 ∨ j = 2 ∨ j = 3 ∨ j = 4 ∨ j = 5 ∨ j = 6 ∨ j = 7 ∨ j = 8 ∨ j = 9 ∨ j = 10 ∨ j = 11 ∨ j = 12 ∨ j = 13 ∨ j = 14 ∨ j = 15 ∨ j = 16 ∨ j = 17 ∨ j = 18 ∨ j = 19 ∨ j = 20 ∨ j = 21 ∨ j = 22 ∨ j = 23 ∨ j = 24 ∨ j = 25 ∨ j = 26 ∨ j = 27) with rfl | rfl | rfl | rfl | rfl | rfl | rfl | rfl | rfl | rfl | rfl | rfl | rfl | rfl | rfl | rfl | rfl | rfl | rfl | rfl | rfl | rfl | rfl | rfl | rfl | rfl | rfl | rfl <;> assumption
theorem am_arrOfT {U : State} {ty : FieldType} {cA comp : ClassId} {kA : Class} (h1 : U.vm.classes[cA]? = some kA) (h2 : kA.kind = .array comp ty) : ArrOfT U cA ty := fun _ _ => ⟨fun _ h => (by cases h), kA, h1, comp, h2⟩
set_option maxHeartbeats 4000000 in
theorem am_entry {p : Program} {s : State} {m : MethodId} {meth : Method} {c : Code} {b L : Nat} {xs : Nat → Int32} (hL : L ≤ 384) (C0 : lw_At p s m meth c b L xs) : ∃ g : am_G, g.1 = s.heap.size ∧ g.2.1 0 0 = b ∧ am_X g (fun _ i j => if i = 0 then xs j else Int32.ofNat L) s := by
  obtain ⟨hx, hb, hr, hml, hown, hts, hXs, hbl, hlocks, hgv⟩ := C0
  have hs := flat_of_before _ hgv
  have hA : ∀ a : Nat, a < s.heap.size → ¬ (fun q : Nat => s.heap.size ≤ q) a := fun a h q => absurd h (Nat.not_lt.mpr q)
  obtain ⟨t1, ht1, hT1⟩ := va_Tof (f := fun j => .int (am_t1 j)) (N := 7) (by decide) (hs _ am_n1) (va_eqt (hs _ am_n2)) (fun j hj => am_lt7 (P := fun j => (Term.elem (.static "GhostTable" "ABOVE" "[I") (.int (Int32.ofNat j))).eval #[Value.ref b] s none [] s = some (.int (am_t1 j))) (va_eqt (hs _ am_na0)) (va_eqt (hs _ am_na1)) (va_eqt (hs _ am_na2)) (va_eqt (hs _ am_na3)) (va_eqt (hs _ am_na4)) (va_eqt (hs _ am_na5)) (va_eqt (hs _ am_na6)) hj) hA
  obtain ⟨t2, ht2, hT2⟩ := va_Tof (f := fun j => .int (am_t2 j)) (N := 28) (by decide) (hs _ am_n3) (va_eqt (hs _ am_n4)) (fun j hj => am_lt28 (P := fun j => (Term.elem (.static "GhostTable$Speaker" "BODIES" "[I") (.int (Int32.ofNat j))).eval #[Value.ref b] s none [] s = some (.int (am_t2 j))) (va_eqt (hs _ am_nb0)) (va_eqt (hs _ am_nb1)) (va_eqt (hs _ am_nb2)) (va_eqt (hs _ am_nb3)) (va_eqt (hs _ am_nb4)) (va_eqt (hs _ am_nb5)) (va_eqt (hs _ am_nb6)) (va_eqt (hs _ am_nb7)) (va_eqt (hs _ am_nb8)) (va_eqt (hs _ am_nb9)) (va_eqt (hs _ am_nb10)) (va_eqt (hs _ am_nb11)) (va_eqt (hs _ am_nb12)) (va_eqt (hs _ am_nb13)) (va_eqt (hs _ am_nb14)) (va_eqt (hs _ am_nb15)) (va_eqt (hs _ am_nb16)) (va_eqt (hs _ am_nb17)) (va_eqt (hs _ am_nb18)) (va_eqt (hs _ am_nb19)) (va_eqt (hs _ am_nb20)) (va_eqt (hs _ am_nb21)) (va_eqt (hs _ am_nb22)) (va_eqt (hs _ am_nb23)) (va_eqt (hs _ am_nb24)) (va_eqt (hs _ am_nb25)) (va_eqt (hs _ am_nb26)) (va_eqt (hs _ am_nb27)) hj) hA
  have hZ1 := va_Zref (am_lw hts _ am_l1) (am_lw hts _ am_l2) ht1 hA
  have hZ2 := va_Zref (am_lw hts _ am_l3) (am_lw hts _ am_l4) ht2 hA
  have hZ3 := va_Zof (am_lw hts _ am_l5) (am_lw hts _ am_l6) (va_eqi (hs _ am_n5)) hA
  obtain ⟨Ov, hOc, hZ4⟩ : ∃ Ov : Value, Ov.category = 1 ∧ va_Z "jdk/internal/util/Preconditions" "SIOOBE_FORMATTER" "Ljava/util/function/BiFunction;" Ov (fun q : Nat => s.heap.size ≤ q) s s.heap := by
    rcases va_Zqof (am_lw hts _ am_l7) (am_lw hts _ am_l8) (hs _ am_n6) hA with h | ⟨t, h⟩
    · exact ⟨_, rfl, h⟩
    · exact ⟨_, rfl, h⟩
  obtain ⟨adK, adV, hS, hSe⟩ := vk_Sof (args := #[Value.ref b]) (s := s) (N := 2) (tm := fun i => if i = 0 then .string "GhostTable$Realm" 20 else .string "GhostTable$Realm" 29) (len := [4, 3]) (byt := [[104, 115, 114, 107], [112, 104, 117]]) (A := fun q : Nat => s.heap.size ≤ q)
    (fun i hi => by rcases (by omega : i = 0 ∨ i = 1) with rfl | rfl <;> decide)
    (fun i hi => by rcases (by omega : i = 0 ∨ i = 1) with rfl | rfl; exact hs _ am_s0x; exact hs _ am_s1x)
    (fun i hi => by rcases (by omega : i = 0 ∨ i = 1) with rfl | rfl; exact hs _ am_s0c; exact hs _ am_s1c)
    (fun i hi => by rcases (by omega : i = 0 ∨ i = 1) with rfl | rfl; exact hs _ am_s0a; exact hs _ am_s1a)
    (fun i hi => by rcases (by omega : i = 0 ∨ i = 1) with rfl | rfl; exact hs _ am_s0l; exact hs _ am_s1l)
    (fun i hi j hj => by
      rcases (by omega : i = 0 ∨ i = 1) with rfl | rfl
      · have hj : j < 4 := hj
        rcases (by omega : j = 0 ∨ j = 1 ∨ j = 2 ∨ j = 3) with rfl | rfl | rfl | rfl
        · exact hs _ am_s0e0
        · exact hs _ am_s0e1
        · exact hs _ am_s0e2
        · exact hs _ am_s0e3
      · have hj : j < 3 := hj
        rcases (by omega : j = 0 ∨ j = 1 ∨ j = 2) with rfl | rfl | rfl
        · exact hs _ am_s1e0
        · exact hs _ am_s1e1
        · exact hs _ am_s1e2)
    (fun i j hi hj hne => by
      rcases (by omega : i = 0 ∨ i = 1) with rfl | rfl <;> rcases (by omega : j = 0 ∨ j = 1) with rfl | rfl
      · exact absurd rfl hne
      · exact Or.inl (hs _ am_n7)
      · exact Or.inr (hs _ am_n7)
      · exact absurd rfl hne) hA
  have e0 : (Term.string "GhostTable$Realm" 20).eval #[Value.ref b] s none [] s = some (.ref (adK 0)) := hSe 0 (by decide)
  have e1 : (Term.string "GhostTable$Realm" 29).eval #[Value.ref b] s none [] s = some (.ref (adK 1)) := hSe 1 (by decide)
  have e2 := va_eqR (hs _ am_n8) e0
  have e3 := va_eqR (hs _ am_n9) e1
  obtain ⟨c0, iS0, hKn0⟩ := u_known (C := RX0) (T := TX0) (N := 8) (n := 8) hts am_iX0 (hts (.instantiable RX0 8) (List.mem_of_getElem? am_li0))
  obtain ⟨c1, iS1, hKn1⟩ := u_known (C := RX1) (T := TX1) (N := 5) (n := 5) hts am_iX1 (hts (.instantiable RX1 5) (List.mem_of_getElem? am_li1))
  obtain ⟨c2, iS2, hKn2⟩ := u_known (C := RX2) (T := TX2) (N := 8) (n := 8) hts am_iX2 (hts (.instantiable RX2 8) (List.mem_of_getElem? am_li2))
  obtain ⟨c3, iS3, hKn3⟩ := u_known (C := RX3) (T := TX3) (N := 5) (n := 5) hts am_iX3 (hts (.instantiable RX3 5) (List.mem_of_getElem? am_li3))
  obtain ⟨c4, iS4, hKn4⟩ := u_known (C := RX4) (T := TX4) (N := 6) (n := 6) hts am_iX4 (hts (.instantiable RX4 6) (List.mem_of_getElem? am_li4))
  obtain ⟨c5, iS5, hKn5⟩ := u_known (C := RX5) (T := TX5) (N := 2) (n := 2) hts am_iX5 (hts (.instantiable RX5 2) (List.mem_of_getElem? am_li5))
  obtain ⟨c6, iS6, hKn6⟩ := u_known (C := RX6) (T := TX6) (N := 3) (n := 3) hts am_iX6 (hts (.instantiable RX6 3) (List.mem_of_getElem? am_li6))
  obtain ⟨c7, iS7, hKn7⟩ := u_known (C := RX7) (T := TX7) (N := 4) (n := 4) hts am_iX7 (hts (.instantiable RX7 4) (List.mem_of_getElem? am_li7))
  obtain ⟨c8, iS8, hKn8⟩ := u_known (C := RX8) (T := TX8) (N := 6) (n := 6) hts am_iX8 (hts (.instantiable RX8 6) (List.mem_of_getElem? am_li8))
  obtain ⟨c9, iS9, hKn9⟩ := u_known (C := RX9) (T := TX9) (N := 9) (n := 9) hts am_iX9 (hts (.instantiable RX9 9) (List.mem_of_getElem? am_li9))
  obtain ⟨c10, iS10, hKn10⟩ := u_known (C := RX10) (T := TX10) (N := 22) (n := 22) hts am_iX10 (hts (.instantiable RX10 22) (List.mem_of_getElem? am_li10))
  obtain ⟨dC, dI, hKc⟩ : ∃ (dC : Nat → ClassId) (dI : Nat → Nat → Nat), ∀ (k : Nat) (q : vw_C), vwCl[k]? = some q → u_Kn s q.1 q.2.1 q.2.2 (dC k) (dI k) := by
    refine ⟨fun k => am_nth [c0, c1, c2, c3, c4, c5, c6, c7, c8, c9, c10] k 0, fun k => am_nth [iS0, iS1, iS2, iS3, iS4, iS5, iS6, iS7, iS8, iS9, iS10] k (fun _ => 0), ?_⟩
    intro k q hq
    match k, hq with
    | 0, hq => cases hq; exact hKn0
    | 1, hq => cases hq; exact hKn1
    | 2, hq => cases hq; exact hKn2
    | 3, hq => cases hq; exact hKn3
    | 4, hq => cases hq; exact hKn4
    | 5, hq => cases hq; exact hKn5
    | 6, hq => cases hq; exact hKn6
    | 7, hq => cases hq; exact hKn7
    | 8, hq => cases hq; exact hKn8
    | 9, hq => cases hq; exact hKn9
    | 10, hq => cases hq; exact hKn10
    | k + 11, hq => simp [vwCl] at hq
  obtain ⟨cI, kI, pI, f1, f2, f3⟩ := Cond.arrayClass_spec (am_lw hts _ am_l18)
  obtain ⟨pG, cG, kG, g1, -, g2, g3, g4⟩ := Cond.arrayOver_spec (am_lw hts _ am_l14)
  obtain ⟨pD, cD, kD, d1, -, d2, d3, d4⟩ := Cond.arrayOver_spec (am_lw hts _ am_l15)
  obtain ⟨pS, cS, kS, s1, -, s2, s3, s4⟩ := Cond.arrayOver_spec (am_lw hts _ am_l16)
  obtain ⟨pT, cT, kT, u1, -, u2, u3, u4⟩ := Cond.arrayOver_spec (am_lw hts _ am_l17)
  refine ⟨(s.heap.size, fun r i => if r = 0 then b else if r = 1 then t1 else if r = 2 then t2 else if r = 3 then adK i else adV i, Ov, (dC, dI), fun k => am_nth [cI, cG, cD, cS, cT] k 0), rfl, rfl, ⟨hKc, fun k q hk => ?_⟩, ?_, ⟨hZ1, hT1⟩, ⟨hZ2, hT2⟩, hS, ?_, ⟨hZ3, hZ4⟩, va_Nw.of rfl (am_lw hts _ am_l13), ?_, ?_, hOc⟩
  · match k, hk with
    | 0, hk => cases hk; exact ⟨am_arrOfT f2 f3, f1⟩
    | 1, hk => cases hk; exact ⟨am_arrOfT g2 g3, kG, pG, g2, g3, g1, g4⟩
    | 2, hk => cases hk; exact ⟨am_arrOfT d2 d3, kD, pD, d2, d3, d1, d4⟩
    | 3, hk => cases hk; exact ⟨am_arrOfT s2 s3, kS, pS, s2, s3, s1, s4⟩
    | 4, hk => cases hk; exact ⟨am_arrOfT u2 u3, kT, pT, u2, u3, u1, u4⟩
    | k + 5, hk => simp [am_tys] at hk
  · obtain ⟨scr, x1, x2, x3, x4, x5⟩ := hXs
    have hc : (Int32.ofNat L).toNatClampNeg = L := nI_clamp (n := L) (by omega)
    show va_T .int b (Int32.ofNat L).toNatClampNeg (fun j => .int (xs j)) _ s s.heap
    rw [hc]
    exact ⟨scr, x1, x2, x3, Nat.le_of_eq x4.symm, by rw [x4], x5, hA b hbl⟩
  · intro q hq
    simp only [am_strs, List.mem_cons, List.not_mem_nil, or_false] at hq
    rcases hq with rfl | rfl | rfl | rfl
    · exact vk_R.of (am_lw hts _ am_l9) e0
    · exact vk_R.of (am_lw hts _ am_l10) e1
    · exact vk_R.of (am_lw hts _ am_l11) e2
    · exact vk_R.of (am_lw hts _ am_l12) e3
  · intro q hq
    simp only [am_nests, List.mem_cons, List.not_mem_nil, or_false] at hq
    rcases hq with rfl | rfl | rfl
    · exact va_Nw.of rfl (am_lw hts _ am_ln0)
    · exact va_Nw.of rfl (am_lw hts _ am_ln1)
    · exact va_Nw.of rfl (am_lw hts _ am_ln2)
  · intro r r1 r2
    rcases (by omega : r = 34 ∨ r = 35 ∨ r = 36 ∨ r = 37) with rfl | rfl | rfl | rfl
    · exact va_AO.of (am_lw hts _ am_l14)
    · exact va_AO.of (am_lw hts _ am_l15)
    · exact va_AO.of (am_lw hts _ am_l16)
    · exact va_AO.of (am_lw hts _ am_l17)
