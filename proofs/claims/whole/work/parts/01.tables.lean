-- ===== PART A: goes FIRST, ahead of the names: the tables' words, and 'selects' of the private methods out of them =====
/-- a private method of a class that the tables say can be made, by its rows of tables_1 -/
def lw_okq (q : MethodName × Nat) : Prop := (q.1.cls ≠ "java/lang/invoke/MethodHandle" ∧ q.1.cls ≠ "java/lang/invoke/VarHandle") ∧ Cond.instantiable q.1.cls q.2 ∈ tables_1 ∧ Cond.privateMethod q.1 ∈ tables_1 ∧ Cond.instanceMethod q.1 ∈ tables_1
theorem lw_p0 : lw_okq (⟨"GhostTable", "error", "(I)I"⟩, 9) := ⟨⟨by decide +kernel, by decide +kernel⟩, List.mem_of_getElem? (i := 20) (by decide +kernel), List.mem_of_getElem? (i := 339) (by decide +kernel), List.mem_of_getElem? (i := 340) (by decide +kernel)⟩
theorem lw_p1 : lw_okq (⟨"GhostTable$Board", "sortByRank", "()V"⟩, 8) := ⟨⟨by decide +kernel, by decide +kernel⟩, List.mem_of_getElem? (i := 34) (by decide +kernel), List.mem_of_getElem? (i := 350) (by decide +kernel), List.mem_of_getElem? (i := 351) (by decide +kernel)⟩
theorem lw_p2 : lw_okq (⟨"GhostTable", "isDead", "(I)Z"⟩, 9) := ⟨⟨by decide +kernel, by decide +kernel⟩, List.mem_of_getElem? (i := 20) (by decide +kernel), List.mem_of_getElem? (i := 358) (by decide +kernel), List.mem_of_getElem? (i := 359) (by decide +kernel)⟩
theorem lw_p3 : lw_okq (⟨"GhostTable$Ghost", "appetite", "(LGhostTable$Dish;)I"⟩, 8) := ⟨⟨by decide +kernel, by decide +kernel⟩, List.mem_of_getElem? (i := 41) (by decide +kernel), List.mem_of_getElem? (i := 378) (by decide +kernel), List.mem_of_getElem? (i := 379) (by decide +kernel)⟩
theorem lw_p4 : lw_okq (⟨"GhostTable$Text", "without", "(II)I"⟩, 6) := ⟨⟨by decide +kernel, by decide +kernel⟩, List.mem_of_getElem? (i := 154) (by decide +kernel), List.mem_of_getElem? (i := 386) (by decide +kernel), List.mem_of_getElem? (i := 387) (by decide +kernel)⟩
theorem lw_p5 : lw_okq (⟨"GhostTable$Text", "workOut", "(IIII)I"⟩, 6) := ⟨⟨by decide +kernel, by decide +kernel⟩, List.mem_of_getElem? (i := 154) (by decide +kernel), List.mem_of_getElem? (i := 390) (by decide +kernel), List.mem_of_getElem? (i := 391) (by decide +kernel)⟩
theorem lw_p6 : lw_okq (⟨"GhostTable", "isDish", "(I)Z"⟩, 9) := ⟨⟨by decide +kernel, by decide +kernel⟩, List.mem_of_getElem? (i := 20) (by decide +kernel), List.mem_of_getElem? (i := 459) (by decide +kernel), List.mem_of_getElem? (i := 460) (by decide +kernel)⟩
theorem lw_p7 : lw_okq (⟨"GhostTable", "dishRefusal", "(III)I"⟩, 9) := ⟨⟨by decide +kernel, by decide +kernel⟩, List.mem_of_getElem? (i := 20) (by decide +kernel), List.mem_of_getElem? (i := 468) (by decide +kernel), List.mem_of_getElem? (i := 469) (by decide +kernel)⟩
theorem lw_p8 : lw_okq (⟨"GhostTable$Reader", "readOperand", "(LGhostTable$Row;ILjava/lang/String;)I"⟩, 5) := ⟨⟨by decide +kernel, by decide +kernel⟩, List.mem_of_getElem? (i := 233) (by decide +kernel), List.mem_of_getElem? (i := 536) (by decide +kernel), List.mem_of_getElem? (i := 537) (by decide +kernel)⟩
theorem lw_p9 : lw_okq (⟨"GhostTable$Reader", "openSign", "(I)I"⟩, 5) := ⟨⟨by decide +kernel, by decide +kernel⟩, List.mem_of_getElem? (i := 233) (by decide +kernel), List.mem_of_getElem? (i := 544) (by decide +kernel), List.mem_of_getElem? (i := 545) (by decide +kernel)⟩
theorem lw_p10 : lw_okq (⟨"GhostTable$Reader", "endOperand", "()V"⟩, 5) := ⟨⟨by decide +kernel, by decide +kernel⟩, List.mem_of_getElem? (i := 233) (by decide +kernel), List.mem_of_getElem? (i := 637) (by decide +kernel), List.mem_of_getElem? (i := 638) (by decide +kernel)⟩
theorem lw_p11 : lw_okq (⟨"GhostTable$Reader", "takePending", "()V"⟩, 5) := ⟨⟨by decide +kernel, by decide +kernel⟩, List.mem_of_getElem? (i := 233) (by decide +kernel), List.mem_of_getElem? (i := 642) (by decide +kernel), List.mem_of_getElem? (i := 643) (by decide +kernel)⟩
theorem lw_p12 : lw_okq (⟨"GhostTable$Reader", "readSign", "(I)I"⟩, 5) := ⟨⟨by decide +kernel, by decide +kernel⟩, List.mem_of_getElem? (i := 233) (by decide +kernel), List.mem_of_getElem? (i := 648) (by decide +kernel), List.mem_of_getElem? (i := 649) (by decide +kernel)⟩
theorem lw_p13 : lw_okq (⟨"GhostTable$Reader", "closeBracket", "()I"⟩, 5) := ⟨⟨by decide +kernel, by decide +kernel⟩, List.mem_of_getElem? (i := 233) (by decide +kernel), List.mem_of_getElem? (i := 652) (by decide +kernel), List.mem_of_getElem? (i := 653) (by decide +kernel)⟩
theorem lw_p14 : lw_okq (⟨"GhostTable$Reader", "settle", "(I)V"⟩, 5) := ⟨⟨by decide +kernel, by decide +kernel⟩, List.mem_of_getElem? (i := 233) (by decide +kernel), List.mem_of_getElem? (i := 656) (by decide +kernel), List.mem_of_getElem? (i := 657) (by decide +kernel)⟩
theorem lw_p15 : lw_okq (⟨"GhostTable", "bellsRefusal", "(I)I"⟩, 9) := ⟨⟨by decide +kernel, by decide +kernel⟩, List.mem_of_getElem? (i := 20) (by decide +kernel), List.mem_of_getElem? (i := 682) (by decide +kernel), List.mem_of_getElem? (i := 683) (by decide +kernel)⟩
def lw_privs_1 : List (MethodName × Nat) := [(⟨"GhostTable", "error", "(I)I"⟩, 9), (⟨"GhostTable$Board", "sortByRank", "()V"⟩, 8), (⟨"GhostTable", "isDead", "(I)Z"⟩, 9), (⟨"GhostTable$Ghost", "appetite", "(LGhostTable$Dish;)I"⟩, 8), (⟨"GhostTable$Text", "without", "(II)I"⟩, 6), (⟨"GhostTable$Text", "workOut", "(IIII)I"⟩, 6), (⟨"GhostTable", "isDish", "(I)Z"⟩, 9), (⟨"GhostTable", "dishRefusal", "(III)I"⟩, 9), (⟨"GhostTable$Reader", "readOperand", "(LGhostTable$Row;ILjava/lang/String;)I"⟩, 5), (⟨"GhostTable$Reader", "openSign", "(I)I"⟩, 5), (⟨"GhostTable$Reader", "endOperand", "()V"⟩, 5), (⟨"GhostTable$Reader", "takePending", "()V"⟩, 5), (⟨"GhostTable$Reader", "readSign", "(I)I"⟩, 5), (⟨"GhostTable$Reader", "closeBracket", "()I"⟩, 5), (⟨"GhostTable$Reader", "settle", "(I)V"⟩, 5), (⟨"GhostTable", "bellsRefusal", "(I)I"⟩, 9)]
theorem lw_r1 : ∀ q ∈ lw_privs_1, lw_okq q := List.forall_mem_cons.mpr ⟨lw_p0, List.forall_mem_cons.mpr ⟨lw_p1, List.forall_mem_cons.mpr ⟨lw_p2, List.forall_mem_cons.mpr ⟨lw_p3, List.forall_mem_cons.mpr ⟨lw_p4, List.forall_mem_cons.mpr ⟨lw_p5, List.forall_mem_cons.mpr ⟨lw_p6, List.forall_mem_cons.mpr ⟨lw_p7, List.forall_mem_cons.mpr ⟨lw_p8, List.forall_mem_cons.mpr ⟨lw_p9, List.forall_mem_cons.mpr ⟨lw_p10, List.forall_mem_cons.mpr ⟨lw_p11, List.forall_mem_cons.mpr ⟨lw_p12, List.forall_mem_cons.mpr ⟨lw_p13, List.forall_mem_cons.mpr ⟨lw_p14, List.forall_mem_cons.mpr ⟨lw_p15, fun _ h => absurd h List.not_mem_nil⟩⟩⟩⟩⟩⟩⟩⟩⟩⟩⟩⟩⟩⟩⟩⟩
theorem lw_p16 : lw_okq (⟨"GhostTable$Realm", "draw", "()I"⟩, 6) := ⟨⟨by decide +kernel, by decide +kernel⟩, List.mem_of_getElem? (i := 28) (by decide +kernel), List.mem_of_getElem? (i := 716) (by decide +kernel), List.mem_of_getElem? (i := 717) (by decide +kernel)⟩
theorem lw_p17 : lw_okq (⟨"GhostTable", "lookAhead", "(I)V"⟩, 9) := ⟨⟨by decide +kernel, by decide +kernel⟩, List.mem_of_getElem? (i := 20) (by decide +kernel), List.mem_of_getElem? (i := 729) (by decide +kernel), List.mem_of_getElem? (i := 730) (by decide +kernel)⟩
theorem lw_p18 : lw_okq (⟨"GhostTable", "findShrineAngers", "(II)V"⟩, 9) := ⟨⟨by decide +kernel, by decide +kernel⟩, List.mem_of_getElem? (i := 20) (by decide +kernel), List.mem_of_getElem? (i := 758) (by decide +kernel), List.mem_of_getElem? (i := 759) (by decide +kernel)⟩
theorem lw_p19 : lw_okq (⟨"GhostTable", "bestTable", "(I)I"⟩, 9) := ⟨⟨by decide +kernel, by decide +kernel⟩, List.mem_of_getElem? (i := 20) (by decide +kernel), List.mem_of_getElem? (i := 770) (by decide +kernel), List.mem_of_getElem? (i := 771) (by decide +kernel)⟩
theorem lw_p20 : lw_okq (⟨"GhostTable", "tableAngers", "(II)I"⟩, 9) := ⟨⟨by decide +kernel, by decide +kernel⟩, List.mem_of_getElem? (i := 20) (by decide +kernel), List.mem_of_getElem? (i := 774) (by decide +kernel), List.mem_of_getElem? (i := 775) (by decide +kernel)⟩
theorem lw_p21 : lw_okq (⟨"GhostTable", "angersWithout", "(II)I"⟩, 9) := ⟨⟨by decide +kernel, by decide +kernel⟩, List.mem_of_getElem? (i := 20) (by decide +kernel), List.mem_of_getElem? (i := 785) (by decide +kernel), List.mem_of_getElem? (i := 786) (by decide +kernel)⟩
theorem lw_p22 : lw_okq (⟨"GhostTable", "eatsAlways", "(IIII)Z"⟩, 9) := ⟨⟨by decide +kernel, by decide +kernel⟩, List.mem_of_getElem? (i := 20) (by decide +kernel), List.mem_of_getElem? (i := 793) (by decide +kernel), List.mem_of_getElem? (i := 794) (by decide +kernel)⟩
theorem lw_p23 : lw_okq (⟨"GhostTable$Speaker", "say", "(IIII)I"⟩, 4) := ⟨⟨by decide +kernel, by decide +kernel⟩, List.mem_of_getElem? (i := 258) (by decide +kernel), List.mem_of_getElem? (i := 835) (by decide +kernel), List.mem_of_getElem? (i := 836) (by decide +kernel)⟩
theorem lw_p24 : lw_okq (⟨"GhostTable", "firstWrongAnger", "(I)I"⟩, 9) := ⟨⟨by decide +kernel, by decide +kernel⟩, List.mem_of_getElem? (i := 20) (by decide +kernel), List.mem_of_getElem? (i := 916) (by decide +kernel), List.mem_of_getElem? (i := 917) (by decide +kernel)⟩
theorem lw_p25 : lw_okq (⟨"GhostTableModel", "finding", "(I)I"⟩, 22) := ⟨⟨by decide +kernel, by decide +kernel⟩, List.mem_of_getElem? (i := 936) (by decide +kernel), List.mem_of_getElem? (i := 1021) (by decide +kernel), List.mem_of_getElem? (i := 1022) (by decide +kernel)⟩
theorem lw_p26 : lw_okq (⟨"GhostTableModel", "is", "(II)Z"⟩, 22) := ⟨⟨by decide +kernel, by decide +kernel⟩, List.mem_of_getElem? (i := 936) (by decide +kernel), List.mem_of_getElem? (i := 1031) (by decide +kernel), List.mem_of_getElem? (i := 1032) (by decide +kernel)⟩
theorem lw_p27 : lw_okq (⟨"GhostTableModel", "fieldOf", "(II)I"⟩, 22) := ⟨⟨by decide +kernel, by decide +kernel⟩, List.mem_of_getElem? (i := 936) (by decide +kernel), List.mem_of_getElem? (i := 1035) (by decide +kernel), List.mem_of_getElem? (i := 1036) (by decide +kernel)⟩
theorem lw_p28 : lw_okq (⟨"GhostTableModel", "picks", "(I)I"⟩, 22) := ⟨⟨by decide +kernel, by decide +kernel⟩, List.mem_of_getElem? (i := 936) (by decide +kernel), List.mem_of_getElem? (i := 1039) (by decide +kernel), List.mem_of_getElem? (i := 1040) (by decide +kernel)⟩
theorem lw_p29 : lw_okq (⟨"GhostTableModel", "dishIs", "(II)I"⟩, 22) := ⟨⟨by decide +kernel, by decide +kernel⟩, List.mem_of_getElem? (i := 936) (by decide +kernel), List.mem_of_getElem? (i := 1043) (by decide +kernel), List.mem_of_getElem? (i := 1044) (by decide +kernel)⟩
theorem lw_p30 : lw_okq (⟨"GhostTableModel", "deadIs", "(II)I"⟩, 22) := ⟨⟨by decide +kernel, by decide +kernel⟩, List.mem_of_getElem? (i := 936) (by decide +kernel), List.mem_of_getElem? (i := 1047) (by decide +kernel), List.mem_of_getElem? (i := 1048) (by decide +kernel)⟩
theorem lw_p31 : lw_okq (⟨"GhostTableModel", "takenOf", "(II)I"⟩, 22) := ⟨⟨by decide +kernel, by decide +kernel⟩, List.mem_of_getElem? (i := 936) (by decide +kernel), List.mem_of_getElem? (i := 1051) (by decide +kernel), List.mem_of_getElem? (i := 1052) (by decide +kernel)⟩
def lw_privs_2 : List (MethodName × Nat) := [(⟨"GhostTable$Realm", "draw", "()I"⟩, 6), (⟨"GhostTable", "lookAhead", "(I)V"⟩, 9), (⟨"GhostTable", "findShrineAngers", "(II)V"⟩, 9), (⟨"GhostTable", "bestTable", "(I)I"⟩, 9), (⟨"GhostTable", "tableAngers", "(II)I"⟩, 9), (⟨"GhostTable", "angersWithout", "(II)I"⟩, 9), (⟨"GhostTable", "eatsAlways", "(IIII)Z"⟩, 9), (⟨"GhostTable$Speaker", "say", "(IIII)I"⟩, 4), (⟨"GhostTable", "firstWrongAnger", "(I)I"⟩, 9), (⟨"GhostTableModel", "finding", "(I)I"⟩, 22), (⟨"GhostTableModel", "is", "(II)Z"⟩, 22), (⟨"GhostTableModel", "fieldOf", "(II)I"⟩, 22), (⟨"GhostTableModel", "picks", "(I)I"⟩, 22), (⟨"GhostTableModel", "dishIs", "(II)I"⟩, 22), (⟨"GhostTableModel", "deadIs", "(II)I"⟩, 22), (⟨"GhostTableModel", "takenOf", "(II)I"⟩, 22)]
theorem lw_r2 : ∀ q ∈ lw_privs_2, lw_okq q := List.forall_mem_cons.mpr ⟨lw_p16, List.forall_mem_cons.mpr ⟨lw_p17, List.forall_mem_cons.mpr ⟨lw_p18, List.forall_mem_cons.mpr ⟨lw_p19, List.forall_mem_cons.mpr ⟨lw_p20, List.forall_mem_cons.mpr ⟨lw_p21, List.forall_mem_cons.mpr ⟨lw_p22, List.forall_mem_cons.mpr ⟨lw_p23, List.forall_mem_cons.mpr ⟨lw_p24, List.forall_mem_cons.mpr ⟨lw_p25, List.forall_mem_cons.mpr ⟨lw_p26, List.forall_mem_cons.mpr ⟨lw_p27, List.forall_mem_cons.mpr ⟨lw_p28, List.forall_mem_cons.mpr ⟨lw_p29, List.forall_mem_cons.mpr ⟨lw_p30, List.forall_mem_cons.mpr ⟨lw_p31, fun _ h => absurd h List.not_mem_nil⟩⟩⟩⟩⟩⟩⟩⟩⟩⟩⟩⟩⟩⟩⟩⟩
theorem lw_p32 : lw_okq (⟨"GhostTableModel", "given", "(IIIII)I"⟩, 22) := ⟨⟨by decide +kernel, by decide +kernel⟩, List.mem_of_getElem? (i := 936) (by decide +kernel), List.mem_of_getElem? (i := 1055) (by decide +kernel), List.mem_of_getElem? (i := 1056) (by decide +kernel)⟩
theorem lw_p33 : lw_okq (⟨"GhostTableModel", "hasText", "(I)Z"⟩, 22) := ⟨⟨by decide +kernel, by decide +kernel⟩, List.mem_of_getElem? (i := 936) (by decide +kernel), List.mem_of_getElem? (i := 1059) (by decide +kernel), List.mem_of_getElem? (i := 1060) (by decide +kernel)⟩
theorem lw_p34 : lw_okq (⟨"GhostTableModel", "worked", "(I)I"⟩, 22) := ⟨⟨by decide +kernel, by decide +kernel⟩, List.mem_of_getElem? (i := 936) (by decide +kernel), List.mem_of_getElem? (i := 1063) (by decide +kernel), List.mem_of_getElem? (i := 1064) (by decide +kernel)⟩
theorem lw_p35 : lw_okq (⟨"GhostTableModel", "putIn", "(II)I"⟩, 22) := ⟨⟨by decide +kernel, by decide +kernel⟩, List.mem_of_getElem? (i := 936) (by decide +kernel), List.mem_of_getElem? (i := 1079) (by decide +kernel), List.mem_of_getElem? (i := 1080) (by decide +kernel)⟩
theorem lw_p36 : lw_okq (⟨"GhostTableModel", "cooked", "(III)I"⟩, 22) := ⟨⟨by decide +kernel, by decide +kernel⟩, List.mem_of_getElem? (i := 936) (by decide +kernel), List.mem_of_getElem? (i := 1106) (by decide +kernel), List.mem_of_getElem? (i := 1107) (by decide +kernel)⟩
theorem lw_p37 : lw_okq (⟨"GhostTableModel", "either", "()V"⟩, 22) := ⟨⟨by decide +kernel, by decide +kernel⟩, List.mem_of_getElem? (i := 936) (by decide +kernel), List.mem_of_getElem? (i := 1147) (by decide +kernel), List.mem_of_getElem? (i := 1148) (by decide +kernel)⟩
theorem lw_p38 : lw_okq (⟨"GhostTableModel", "both", "()V"⟩, 22) := ⟨⟨by decide +kernel, by decide +kernel⟩, List.mem_of_getElem? (i := 936) (by decide +kernel), List.mem_of_getElem? (i := 1151) (by decide +kernel), List.mem_of_getElem? (i := 1152) (by decide +kernel)⟩
theorem lw_p39 : lw_okq (⟨"GhostTableModel", "compared", "()V"⟩, 22) := ⟨⟨by decide +kernel, by decide +kernel⟩, List.mem_of_getElem? (i := 936) (by decide +kernel), List.mem_of_getElem? (i := 1155) (by decide +kernel), List.mem_of_getElem? (i := 1156) (by decide +kernel)⟩
theorem lw_p40 : lw_okq (⟨"GhostTableModel", "sum", "()V"⟩, 22) := ⟨⟨by decide +kernel, by decide +kernel⟩, List.mem_of_getElem? (i := 936) (by decide +kernel), List.mem_of_getElem? (i := 1159) (by decide +kernel), List.mem_of_getElem? (i := 1160) (by decide +kernel)⟩
theorem lw_p41 : lw_okq (⟨"GhostTableModel", "product", "()V"⟩, 22) := ⟨⟨by decide +kernel, by decide +kernel⟩, List.mem_of_getElem? (i := 936) (by decide +kernel), List.mem_of_getElem? (i := 1163) (by decide +kernel), List.mem_of_getElem? (i := 1164) (by decide +kernel)⟩
theorem lw_p42 : lw_okq (⟨"GhostTableModel", "one", "()V"⟩, 22) := ⟨⟨by decide +kernel, by decide +kernel⟩, List.mem_of_getElem? (i := 936) (by decide +kernel), List.mem_of_getElem? (i := 1167) (by decide +kernel), List.mem_of_getElem? (i := 1168) (by decide +kernel)⟩
theorem lw_p43 : lw_okq (⟨"GhostTableModel", "here", "()I"⟩, 22) := ⟨⟨by decide +kernel, by decide +kernel⟩, List.mem_of_getElem? (i := 936) (by decide +kernel), List.mem_of_getElem? (i := 1171) (by decide +kernel), List.mem_of_getElem? (i := 1172) (by decide +kernel)⟩
theorem lw_p44 : lw_okq (⟨"GhostTableModel", "codes", "(I)V"⟩, 22) := ⟨⟨by decide +kernel, by decide +kernel⟩, List.mem_of_getElem? (i := 936) (by decide +kernel), List.mem_of_getElem? (i := 1175) (by decide +kernel), List.mem_of_getElem? (i := 1176) (by decide +kernel)⟩
theorem lw_p45 : lw_okq (⟨"GhostTableModel", "takes", "(I)Z"⟩, 22) := ⟨⟨by decide +kernel, by decide +kernel⟩, List.mem_of_getElem? (i := 936) (by decide +kernel), List.mem_of_getElem? (i := 1179) (by decide +kernel), List.mem_of_getElem? (i := 1180) (by decide +kernel)⟩
theorem lw_p46 : lw_okq (⟨"GhostTableModel", "nameOf", "(I)I"⟩, 22) := ⟨⟨by decide +kernel, by decide +kernel⟩, List.mem_of_getElem? (i := 936) (by decide +kernel), List.mem_of_getElem? (i := 1183) (by decide +kernel), List.mem_of_getElem? (i := 1184) (by decide +kernel)⟩
theorem lw_p47 : lw_okq (⟨"GhostTableModel", "go", "(IZ)I"⟩, 22) := ⟨⟨by decide +kernel, by decide +kernel⟩, List.mem_of_getElem? (i := 936) (by decide +kernel), List.mem_of_getElem? (i := 1216) (by decide +kernel), List.mem_of_getElem? (i := 1217) (by decide +kernel)⟩
def lw_privs_3 : List (MethodName × Nat) := [(⟨"GhostTableModel", "given", "(IIIII)I"⟩, 22), (⟨"GhostTableModel", "hasText", "(I)Z"⟩, 22), (⟨"GhostTableModel", "worked", "(I)I"⟩, 22), (⟨"GhostTableModel", "putIn", "(II)I"⟩, 22), (⟨"GhostTableModel", "cooked", "(III)I"⟩, 22), (⟨"GhostTableModel", "either", "()V"⟩, 22), (⟨"GhostTableModel", "both", "()V"⟩, 22), (⟨"GhostTableModel", "compared", "()V"⟩, 22), (⟨"GhostTableModel", "sum", "()V"⟩, 22), (⟨"GhostTableModel", "product", "()V"⟩, 22), (⟨"GhostTableModel", "one", "()V"⟩, 22), (⟨"GhostTableModel", "here", "()I"⟩, 22), (⟨"GhostTableModel", "codes", "(I)V"⟩, 22), (⟨"GhostTableModel", "takes", "(I)Z"⟩, 22), (⟨"GhostTableModel", "nameOf", "(I)I"⟩, 22), (⟨"GhostTableModel", "go", "(IZ)I"⟩, 22)]
theorem lw_r3 : ∀ q ∈ lw_privs_3, lw_okq q := List.forall_mem_cons.mpr ⟨lw_p32, List.forall_mem_cons.mpr ⟨lw_p33, List.forall_mem_cons.mpr ⟨lw_p34, List.forall_mem_cons.mpr ⟨lw_p35, List.forall_mem_cons.mpr ⟨lw_p36, List.forall_mem_cons.mpr ⟨lw_p37, List.forall_mem_cons.mpr ⟨lw_p38, List.forall_mem_cons.mpr ⟨lw_p39, List.forall_mem_cons.mpr ⟨lw_p40, List.forall_mem_cons.mpr ⟨lw_p41, List.forall_mem_cons.mpr ⟨lw_p42, List.forall_mem_cons.mpr ⟨lw_p43, List.forall_mem_cons.mpr ⟨lw_p44, List.forall_mem_cons.mpr ⟨lw_p45, List.forall_mem_cons.mpr ⟨lw_p46, List.forall_mem_cons.mpr ⟨lw_p47, fun _ h => absurd h List.not_mem_nil⟩⟩⟩⟩⟩⟩⟩⟩⟩⟩⟩⟩⟩⟩⟩⟩
theorem lw_p48 : lw_okq (⟨"GhostTableModel", "bellsGo", "(IZI)V"⟩, 22) := ⟨⟨by decide +kernel, by decide +kernel⟩, List.mem_of_getElem? (i := 936) (by decide +kernel), List.mem_of_getElem? (i := 1220) (by decide +kernel), List.mem_of_getElem? (i := 1221) (by decide +kernel)⟩
theorem lw_p49 : lw_okq (⟨"GhostTableModel", "findOrder", "()V"⟩, 22) := ⟨⟨by decide +kernel, by decide +kernel⟩, List.mem_of_getElem? (i := 936) (by decide +kernel), List.mem_of_getElem? (i := 1224) (by decide +kernel), List.mem_of_getElem? (i := 1225) (by decide +kernel)⟩
theorem lw_p50 : lw_okq (⟨"GhostTableModel", "dogs", "()V"⟩, 22) := ⟨⟨by decide +kernel, by decide +kernel⟩, List.mem_of_getElem? (i := 936) (by decide +kernel), List.mem_of_getElem? (i := 1228) (by decide +kernel), List.mem_of_getElem? (i := 1229) (by decide +kernel)⟩
theorem lw_p51 : lw_okq (⟨"GhostTableModel", "drawn", "(I)I"⟩, 22) := ⟨⟨by decide +kernel, by decide +kernel⟩, List.mem_of_getElem? (i := 936) (by decide +kernel), List.mem_of_getElem? (i := 1232) (by decide +kernel), List.mem_of_getElem? (i := 1233) (by decide +kernel)⟩
theorem lw_p52 : lw_okq (⟨"GhostTableModel", "eats", "(I)V"⟩, 22) := ⟨⟨by decide +kernel, by decide +kernel⟩, List.mem_of_getElem? (i := 936) (by decide +kernel), List.mem_of_getElem? (i := 1237) (by decide +kernel), List.mem_of_getElem? (i := 1238) (by decide +kernel)⟩
theorem lw_p53 : lw_okq (⟨"GhostTableModel", "sumOf", "(II)I"⟩, 22) := ⟨⟨by decide +kernel, by decide +kernel⟩, List.mem_of_getElem? (i := 936) (by decide +kernel), List.mem_of_getElem? (i := 1242) (by decide +kernel), List.mem_of_getElem? (i := 1243) (by decide +kernel)⟩
theorem lw_p54 : lw_okq (⟨"GhostTableModel", "putBack", "(I)I"⟩, 22) := ⟨⟨by decide +kernel, by decide +kernel⟩, List.mem_of_getElem? (i := 936) (by decide +kernel), List.mem_of_getElem? (i := 1260) (by decide +kernel), List.mem_of_getElem? (i := 1261) (by decide +kernel)⟩
theorem lw_p55 : lw_okq (⟨"GhostTableModel", "angersBy", "(II)I"⟩, 22) := ⟨⟨by decide +kernel, by decide +kernel⟩, List.mem_of_getElem? (i := 936) (by decide +kernel), List.mem_of_getElem? (i := 1272) (by decide +kernel), List.mem_of_getElem? (i := 1273) (by decide +kernel)⟩
theorem lw_p56 : lw_okq (⟨"GhostTableModel", "digit", "(III)I"⟩, 22) := ⟨⟨by decide +kernel, by decide +kernel⟩, List.mem_of_getElem? (i := 936) (by decide +kernel), List.mem_of_getElem? (i := 1281) (by decide +kernel), List.mem_of_getElem? (i := 1282) (by decide +kernel)⟩
theorem lw_p57 : lw_okq (⟨"GhostTableModel", "doesEat", "(II)Z"⟩, 22) := ⟨⟨by decide +kernel, by decide +kernel⟩, List.mem_of_getElem? (i := 936) (by decide +kernel), List.mem_of_getElem? (i := 1293) (by decide +kernel), List.mem_of_getElem? (i := 1294) (by decide +kernel)⟩
theorem lw_p58 : lw_okq (⟨"GhostTableModel", "angry", "()I"⟩, 22) := ⟨⟨by decide +kernel, by decide +kernel⟩, List.mem_of_getElem? (i := 936) (by decide +kernel), List.mem_of_getElem? (i := 1301) (by decide +kernel), List.mem_of_getElem? (i := 1302) (by decide +kernel)⟩
theorem lw_p59 : lw_okq (⟨"GhostTableModel", "voiced", "(II)I"⟩, 22) := ⟨⟨by decide +kernel, by decide +kernel⟩, List.mem_of_getElem? (i := 936) (by decide +kernel), List.mem_of_getElem? (i := 1317) (by decide +kernel), List.mem_of_getElem? (i := 1318) (by decide +kernel)⟩
theorem lw_p60 : lw_okq (⟨"GhostTableModel", "bodyFrom", "(III)I"⟩, 22) := ⟨⟨by decide +kernel, by decide +kernel⟩, List.mem_of_getElem? (i := 936) (by decide +kernel), List.mem_of_getElem? (i := 1321) (by decide +kernel), List.mem_of_getElem? (i := 1322) (by decide +kernel)⟩
theorem lw_p61 : lw_okq (⟨"GhostTableModel", "body", "(III)I"⟩, 22) := ⟨⟨by decide +kernel, by decide +kernel⟩, List.mem_of_getElem? (i := 936) (by decide +kernel), List.mem_of_getElem? (i := 1328) (by decide +kernel), List.mem_of_getElem? (i := 1329) (by decide +kernel)⟩
theorem lw_p62 : lw_okq (⟨"GhostTableModel", "began", "(I)V"⟩, 22) := ⟨⟨by decide +kernel, by decide +kernel⟩, List.mem_of_getElem? (i := 936) (by decide +kernel), List.mem_of_getElem? (i := 1332) (by decide +kernel), List.mem_of_getElem? (i := 1333) (by decide +kernel)⟩
def lw_privs_4 : List (MethodName × Nat) := [(⟨"GhostTableModel", "bellsGo", "(IZI)V"⟩, 22), (⟨"GhostTableModel", "findOrder", "()V"⟩, 22), (⟨"GhostTableModel", "dogs", "()V"⟩, 22), (⟨"GhostTableModel", "drawn", "(I)I"⟩, 22), (⟨"GhostTableModel", "eats", "(I)V"⟩, 22), (⟨"GhostTableModel", "sumOf", "(II)I"⟩, 22), (⟨"GhostTableModel", "putBack", "(I)I"⟩, 22), (⟨"GhostTableModel", "angersBy", "(II)I"⟩, 22), (⟨"GhostTableModel", "digit", "(III)I"⟩, 22), (⟨"GhostTableModel", "doesEat", "(II)Z"⟩, 22), (⟨"GhostTableModel", "angry", "()I"⟩, 22), (⟨"GhostTableModel", "voiced", "(II)I"⟩, 22), (⟨"GhostTableModel", "bodyFrom", "(III)I"⟩, 22), (⟨"GhostTableModel", "body", "(III)I"⟩, 22), (⟨"GhostTableModel", "began", "(I)V"⟩, 22)]
theorem lw_r4 : ∀ q ∈ lw_privs_4, lw_okq q := List.forall_mem_cons.mpr ⟨lw_p48, List.forall_mem_cons.mpr ⟨lw_p49, List.forall_mem_cons.mpr ⟨lw_p50, List.forall_mem_cons.mpr ⟨lw_p51, List.forall_mem_cons.mpr ⟨lw_p52, List.forall_mem_cons.mpr ⟨lw_p53, List.forall_mem_cons.mpr ⟨lw_p54, List.forall_mem_cons.mpr ⟨lw_p55, List.forall_mem_cons.mpr ⟨lw_p56, List.forall_mem_cons.mpr ⟨lw_p57, List.forall_mem_cons.mpr ⟨lw_p58, List.forall_mem_cons.mpr ⟨lw_p59, List.forall_mem_cons.mpr ⟨lw_p60, List.forall_mem_cons.mpr ⟨lw_p61, List.forall_mem_cons.mpr ⟨lw_p62, fun _ h => absurd h List.not_mem_nil⟩⟩⟩⟩⟩⟩⟩⟩⟩⟩⟩⟩⟩⟩⟩
def lw_privs : List (MethodName × Nat) := lw_privs_1 ++ (lw_privs_2 ++ (lw_privs_3 ++ (lw_privs_4)))
def lw_tbl : List Cond := k2_sels lw_privs ++ tables_1
theorem lw_privs_ok : ∀ q ∈ lw_privs, lw_okq q := by
  show ∀ q ∈ lw_privs_1 ++ (lw_privs_2 ++ (lw_privs_3 ++ (lw_privs_4))), lw_okq q
  exact List.forall_mem_append.mpr ⟨lw_r1, List.forall_mem_append.mpr ⟨lw_r2, List.forall_mem_append.mpr ⟨lw_r3, lw_r4⟩⟩⟩
def RX0 : String := "GhostTable$Board"
def TX0 : u_T := fun k => match k with
  | 0 => ("GhostTable$Board", "ghosts", "[LGhostTable$Ghost;", true)
  | 1 => ("GhostTable$Board", "ghostCount", "I", false)
  | 2 => ("GhostTable$Board", "dishes", "[LGhostTable$Dish;", true)
  | 3 => ("GhostTable$Board", "dishCount", "I", false)
  | 4 => ("GhostTable$Board", "hungers", "[I", true)
  | 5 => ("GhostTable$Board", "bell", "I", false)
  | 6 => ("GhostTable$Board", "order", "[I", true)
  | _ => ("GhostTable$Board", "absent", "I", false)
def tyX0 : Nat → FieldType := fun k => match k with
  | 0 => .array (.object "GhostTable$Ghost")
  | 1 => .int
  | 2 => .array (.object "GhostTable$Dish")
  | 3 => .int
  | 4 => .array .int
  | 5 => .int
  | 6 => .array .int
  | _ => .int
abbrev wsX00 : List Cond := u_ws RX0 TX0 8
theorem nmX0 : ∀ a, a < 8 → ∀ b, b < 8 → a ≠ b → (TX0 a).2.1 ≠ (TX0 b).2.1 := by decide +kernel
theorem tyX0_ok : ∀ k, k < 8 → parseFieldDescriptor (TX0 k).2.2.1 = some (tyX0 k) := by decide +kernel
def RX1 : String := "GhostTable$Dish"
def TX1 : u_T := fun k => match k with
  | 0 => ("GhostTable$Dish", "sort", "I", false)
  | 1 => ("GhostTable$Dish", "parts", "I", false)
  | 2 => ("GhostTable$Dish", "heat", "I", false)
  | 3 => ("GhostTable$Dish", "house", "I", false)
  | _ => ("GhostTable$Dish", "shrine", "I", false)
def tyX1 : Nat → FieldType := fun k => match k with
  | 0 => .int
  | 1 => .int
  | 2 => .int
  | 3 => .int
  | _ => .int
abbrev wsX10 : List Cond := u_ws RX1 TX1 5
theorem nmX1 : ∀ a, a < 5 → ∀ b, b < 5 → a ≠ b → (TX1 a).2.1 ≠ (TX1 b).2.1 := by decide +kernel
theorem tyX1_ok : ∀ k, k < 5 → parseFieldDescriptor (TX1 k).2.2.1 = some (tyX1 k) := by decide +kernel
def RX2 : String := "GhostTable$Ghost"
def TX2 : u_T := fun k => match k with
  | 0 => ("GhostTable$Ghost", "kind", "I", false)
  | 1 => ("GhostTable$Ghost", "m", "I", false)
  | 2 => ("GhostTable$Ghost", "house", "I", false)
  | 3 => ("GhostTable$Ghost", "rank", "I", false)
  | 4 => ("GhostTable$Ghost", "likes", "I", false)
  | 5 => ("GhostTable$Ghost", "shrine", "I", false)
  | 6 => ("GhostTable$Ghost", "anger", "I", false)
  | _ => ("GhostTable$Ghost", "ate", "I", false)
def tyX2 : Nat → FieldType := fun k => match k with
  | 0 => .int
  | 1 => .int
  | 2 => .int
  | 3 => .int
  | 4 => .int
  | 5 => .int
  | 6 => .int
  | _ => .int
abbrev wsX20 : List Cond := u_ws RX2 TX2 8
theorem nmX2 : ∀ a, a < 8 → ∀ b, b < 8 → a ≠ b → (TX2 a).2.1 ≠ (TX2 b).2.1 := by decide +kernel
theorem tyX2_ok : ∀ k, k < 8 → parseFieldDescriptor (TX2 k).2.2.1 = some (tyX2 k) := by decide +kernel
def RX3 : String := "GhostTable$Reader"
def TX3 : u_T := fun k => match k with
  | 0 => ("GhostTable$Reader", "code", "LGhostTable$Row;", true)
  | 1 => ("GhostTable$Reader", "pending", "LGhostTable$Row;", true)
  | 2 => ("GhostTable$Reader", "open", "I", false)
  | 3 => ("GhostTable$Reader", "brackets", "I", false)
  | _ => ("GhostTable$Reader", "wantsOperand", "Z", false)
def tyX3 : Nat → FieldType := fun k => match k with
  | 0 => .object "GhostTable$Row"
  | 1 => .object "GhostTable$Row"
  | 2 => .int
  | 3 => .int
  | _ => .boolean
abbrev wsX30 : List Cond := u_ws RX3 TX3 5
theorem nmX3 : ∀ a, a < 5 → ∀ b, b < 5 → a ≠ b → (TX3 a).2.1 ≠ (TX3 b).2.1 := by decide +kernel
theorem tyX3_ok : ∀ k, k < 5 → parseFieldDescriptor (TX3 k).2.2.1 = some (tyX3 k) := by decide +kernel
def RX4 : String := "GhostTable$Realm"
def TX4 : u_T := fun k => match k with
  | 0 => ("GhostTable$Realm", "board", "LGhostTable$Board;", true)
  | 1 => ("GhostTable$Realm", "eats", "LGhostTable$Text;", true)
  | 2 => ("GhostTable$Realm", "fills", "LGhostTable$Text;", true)
  | 3 => ("GhostTable$Realm", "tape", "LGhostTable$Row;", true)
  | 4 => ("GhostTable$Realm", "waiting", "LGhostTable$Row;", true)
  | _ => ("GhostTable$Realm", "z", "I", false)
def tyX4 : Nat → FieldType := fun k => match k with
  | 0 => .object "GhostTable$Board"
  | 1 => .object "GhostTable$Text"
  | 2 => .object "GhostTable$Text"
  | 3 => .object "GhostTable$Row"
  | 4 => .object "GhostTable$Row"
  | _ => .int
abbrev wsX40 : List Cond := u_ws RX4 TX4 6
theorem nmX4 : ∀ a, a < 6 → ∀ b, b < 6 → a ≠ b → (TX4 a).2.1 ≠ (TX4 b).2.1 := by decide +kernel
theorem tyX4_ok : ∀ k, k < 6 → parseFieldDescriptor (TX4 k).2.2.1 = some (tyX4 k) := by decide +kernel
def RX5 : String := "GhostTable$Row"
def TX5 : u_T := fun k => match k with
  | 0 => ("GhostTable$Row", "items", "[I", true)
  | _ => ("GhostTable$Row", "size", "I", false)
def tyX5 : Nat → FieldType := fun k => match k with
  | 0 => .array .int
  | _ => .int
abbrev wsX50 : List Cond := u_ws RX5 TX5 2
theorem nmX5 : ∀ a, a < 2 → ∀ b, b < 2 → a ≠ b → (TX5 a).2.1 ≠ (TX5 b).2.1 := by decide +kernel
theorem tyX5_ok : ∀ k, k < 2 → parseFieldDescriptor (TX5 k).2.2.1 = some (tyX5 k) := by decide +kernel
def RX6 : String := "GhostTable$Sheet"
def TX6 : u_T := fun k => match k with
  | 0 => ("GhostTable$Sheet", "numbers", "[I", true)
  | 1 => ("GhostTable$Sheet", "bits", "I", false)
  | _ => ("GhostTable$Sheet", "size", "I", false)
def tyX6 : Nat → FieldType := fun k => match k with
  | 0 => .array .int
  | 1 => .int
  | _ => .int
abbrev wsX60 : List Cond := u_ws RX6 TX6 3
theorem nmX6 : ∀ a, a < 3 → ∀ b, b < 3 → a ≠ b → (TX6 a).2.1 ≠ (TX6 b).2.1 := by decide +kernel
theorem tyX6_ok : ∀ k, k < 3 → parseFieldDescriptor (TX6 k).2.2.1 = some (tyX6 k) := by decide +kernel
def RX7 : String := "GhostTable$Speaker"
def TX7 : u_T := fun k => match k with
  | 0 => ("GhostTable$Speaker", "bodies", "LGhostTable$Row;", true)
  | 1 => ("GhostTable$Speaker", "kind", "I", false)
  | 2 => ("GhostTable$Speaker", "m", "I", false)
  | _ => ("GhostTable$Speaker", "number", "I", false)
def tyX7 : Nat → FieldType := fun k => match k with
  | 0 => .object "GhostTable$Row"
  | 1 => .int
  | 2 => .int
  | _ => .int
abbrev wsX70 : List Cond := u_ws RX7 TX7 4
theorem nmX7 : ∀ a, a < 4 → ∀ b, b < 4 → a ≠ b → (TX7 a).2.1 ≠ (TX7 b).2.1 := by decide +kernel
theorem tyX7_ok : ∀ k, k < 4 → parseFieldDescriptor (TX7 k).2.2.1 = some (tyX7 k) := by decide +kernel
def RX8 : String := "GhostTable$Text"
def TX8 : u_T := fun k => match k with
  | 0 => ("GhostTable$Text", "use", "I", true)
  | 1 => ("GhostTable$Text", "names", "Ljava/lang/String;", true)
  | 2 => ("GhostTable$Text", "least", "I", true)
  | 3 => ("GhostTable$Text", "most", "I", true)
  | 4 => ("GhostTable$Text", "code", "LGhostTable$Row;", true)
  | _ => ("GhostTable$Text", "values", "LGhostTable$Row;", true)
def tyX8 : Nat → FieldType := fun k => match k with
  | 0 => .int
  | 1 => .object "java/lang/String"
  | 2 => .int
  | 3 => .int
  | 4 => .object "GhostTable$Row"
  | _ => .object "GhostTable$Row"
abbrev wsX80 : List Cond := u_ws RX8 TX8 6
theorem nmX8 : ∀ a, a < 6 → ∀ b, b < 6 → a ≠ b → (TX8 a).2.1 ≠ (TX8 b).2.1 := by decide +kernel
theorem tyX8_ok : ∀ k, k < 6 → parseFieldDescriptor (TX8 k).2.2.1 = some (tyX8 k) := by decide +kernel
def RX9 : String := "GhostTable"
def TX9 : u_T := fun k => match k with
  | 0 => ("GhostTable", "now", "LGhostTable$Realm;", true)
  | 1 => ("GhostTable", "kept", "LGhostTable$Realm;", true)
  | 2 => ("GhostTable", "timesKept", "I", false)
  | 3 => ("GhostTable", "ahead", "LGhostTable$Board;", true)
  | 4 => ("GhostTable", "shrineAngers", "[I", true)
  | 5 => ("GhostTable", "reader", "LGhostTable$Reader;", true)
  | 6 => ("GhostTable", "speaker", "LGhostTable$Speaker;", true)
  | 7 => ("GhostTable", "sheets", "[LGhostTable$Sheet;", true)
  | _ => ("GhostTable", "errors", "[I", true)
def tyX9 : Nat → FieldType := fun k => match k with
  | 0 => .object "GhostTable$Realm"
  | 1 => .object "GhostTable$Realm"
  | 2 => .int
  | 3 => .object "GhostTable$Board"
  | 4 => .array .int
  | 5 => .object "GhostTable$Reader"
  | 6 => .object "GhostTable$Speaker"
  | 7 => .array (.object "GhostTable$Sheet")
  | _ => .array .int
abbrev wsX90 : List Cond := u_ws RX9 TX9 9
theorem nmX9 : ∀ a, a < 9 → ∀ b, b < 9 → a ≠ b → (TX9 a).2.1 ≠ (TX9 b).2.1 := by decide +kernel
theorem tyX9_ok : ∀ k, k < 9 → parseFieldDescriptor (TX9 k).2.2.1 = some (tyX9 k) := by decide +kernel
def RX10 : String := "GhostTableModel"
def TX10 : u_T := fun k => match k with
  | 0 => ("GhostTableModel", "now", "[I", true)
  | 1 => ("GhostTableModel", "kept", "[I", true)
  | 2 => ("GhostTableModel", "aside", "[I", true)
  | 3 => ("GhostTableModel", "images", "I", false)
  | 4 => ("GhostTableModel", "errors", "[I", true)
  | 5 => ("GhostTableModel", "NAMED", "[Ljava/lang/String;", true)
  | 6 => ("GhostTableModel", "at", "I", false)
  | 7 => ("GhostTableModel", "open", "I", false)
  | 8 => ("GhostTableModel", "use", "I", false)
  | 9 => ("GhostTableModel", "isWrong", "Z", false)
  | 10 => ("GhostTableModel", "code", "[I", true)
  | 11 => ("GhostTableModel", "coded", "I", false)
  | 12 => ("GhostTableModel", "named", "[I", true)
  | 13 => ("GhostTableModel", "pile", "[I", true)
  | 14 => ("GhostTableModel", "order", "[I", true)
  | 15 => ("GhostTableModel", "trace", "[I", true)
  | 16 => ("GhostTableModel", "traced", "I", false)
  | 17 => ("GhostTableModel", "speaker", "I", false)
  | 18 => ("GhostTableModel", "widths", "[I", true)
  | 19 => ("GhostTableModel", "sizes", "[I", true)
  | 20 => ("GhostTableModel", "numbers", "[I", true)
  | _ => ("GhostTableModel", "carried", "[I", true)
def tyX10 : Nat → FieldType := fun k => match k with
  | 0 => .array .int
  | 1 => .array .int
  | 2 => .array .int
  | 3 => .int
  | 4 => .array .int
  | 5 => .array (.object "java/lang/String")
  | 6 => .int
  | 7 => .int
  | 8 => .int
  | 9 => .boolean
  | 10 => .array .int
  | 11 => .int
  | 12 => .array .int
  | 13 => .array .int
  | 14 => .array .int
  | 15 => .array .int
  | 16 => .int
  | 17 => .int
  | 18 => .array .int
  | 19 => .array .int
  | 20 => .array .int
  | _ => .array .int
abbrev wsX100 : List Cond := u_ws RX10 TX10 22
theorem nmX10 : ∀ a, a < 22 → ∀ b, b < 22 → a ≠ b → (TX10 a).2.1 ≠ (TX10 b).2.1 := by decide +kernel
theorem tyX10_ok : ∀ k, k < 22 → parseFieldDescriptor (TX10 k).2.2.1 = some (tyX10 k) := by decide +kernel
abbrev vwCl : List vw_C := [(RX0, TX0, 8), (RX1, TX1, 5), (RX2, TX2, 8), (RX3, TX3, 5), (RX4, TX4, 6), (RX5, TX5, 2), (RX6, TX6, 3), (RX7, TX7, 4), (RX8, TX8, 6), (RX9, TX9, 9), (RX10, TX10, 22)]
/-- the methods: name, code, locals, what it returns, how many parameters, 0 static, 1 of an object, 2 a constructor -/
def am_mt : List (List (MethodName × ByteArray × Nat × Option FieldType × Nat × Nat)) := [
  [(⟨"GhostTable$Board", "<init>", "()V"⟩, prog_2_method_1_code, 2, none, 0, 2), (⟨"GhostTable$Board", "addGhost", "(III)I"⟩, prog_2_method_2_code, 5, (some .int), 3, 1), (⟨"GhostTable$Board", "addDish", "(III)I"⟩, prog_2_method_3_code, 5, (some .int), 3, 1), (⟨"GhostTable$Board", "sortByRank", "()V"⟩, prog_2_method_4_code, 3, none, 0, 1), (⟨"GhostTable$Board", "ghostFact", "(IILGhostTable$Text;)I"⟩, prog_2_method_5_code, 5, (some .int), 3, 1), (⟨"GhostTable$Board", "changeGhost", "(III)I"⟩, prog_2_method_6_code, 5, (some .int), 3, 1), (⟨"GhostTable$Board", "joinHouses", "(II)I"⟩, prog_2_method_7_code, 5, (some .int), 2, 1), (⟨"GhostTable$Board", "pick", "(LGhostTable$Ghost;LGhostTable$Text;)I"⟩, prog_2_method_8_code, 6, (some .int), 2, 1)],
  [(⟨"GhostTable$Board", "ring", "(LGhostTable$Text;)V"⟩, prog_2_method_9_code, 5, none, 1, 1), (⟨"GhostTable$Board", "placeSet", "(III)V"⟩, prog_2_method_10_code, 5, none, 3, 1), (⟨"GhostTable$Board", "angerOfAll", "()I"⟩, prog_2_method_11_code, 3, (some .int), 0, 1), (⟨"GhostTable$Board", "angerAt", "(I)I"⟩, prog_2_method_12_code, 4, (some .int), 1, 1), (⟨"GhostTable$Board", "ateOfAll", "()I"⟩, prog_2_method_13_code, 3, (some .int), 0, 1), (⟨"GhostTable$Board", "heatOfAll", "()I"⟩, prog_2_method_14_code, 3, (some .int), 0, 1), (⟨"GhostTable$Board", "firstAbove", "(I)I"⟩, prog_2_method_15_code, 3, (some .int), 1, 1), (⟨"GhostTable$Board", "evenShare", "(II)I"⟩, prog_2_method_16_code, 5, (some .int), 2, 1)],
  [(⟨"GhostTable$Board", "rankShare", "(II)I"⟩, prog_2_method_17_code, 5, (some .int), 2, 1), (⟨"GhostTable$Board", "orderShare", "(II)I"⟩, prog_2_method_18_code, 5, (some .int), 2, 1), (⟨"GhostTable$Board", "copyFrom", "(LGhostTable$Board;)V"⟩, prog_2_method_19_code, 3, none, 1, 1), (⟨"GhostTable$Dish", "<init>", "()V"⟩, prog_3_method_1_code, 1, none, 0, 2), (⟨"GhostTable$Dish", "fact", "(I)I"⟩, prog_3_method_2_code, 2, (some .int), 1, 1), (⟨"GhostTable$Dish", "cool", "()V"⟩, prog_3_method_3_code, 1, none, 0, 1), (⟨"GhostTable$Dish", "copyFrom", "(LGhostTable$Dish;)V"⟩, prog_3_method_4_code, 2, none, 1, 1), (⟨"GhostTable$Ghost", "<init>", "()V"⟩, prog_4_method_1_code, 1, none, 0, 2)],
  [(⟨"GhostTable$Ghost", "fact", "(I)I"⟩, prog_4_method_2_code, 2, (some .int), 1, 1), (⟨"GhostTable$Ghost", "setFact", "(II)V"⟩, prog_4_method_3_code, 3, none, 2, 1), (⟨"GhostTable$Ghost", "heatTaken", "(LGhostTable$Dish;LGhostTable$Text;)I"⟩, prog_4_method_4_code, 4, (some .int), 2, 1), (⟨"GhostTable$Ghost", "appetite", "(LGhostTable$Dish;)I"⟩, prog_4_method_5_code, 3, (some .int), 1, 1), (⟨"GhostTable$Ghost", "prefers", "(LGhostTable$Dish;LGhostTable$Dish;)Z"⟩, prog_4_method_6_code, 5, (some .boolean), 2, 1), (⟨"GhostTable$Ghost", "eatOf", "(LGhostTable$Dish;I)V"⟩, prog_4_method_7_code, 3, none, 2, 1), (⟨"GhostTable$Ghost", "goHungry", "()V"⟩, prog_4_method_8_code, 1, none, 0, 1), (⟨"GhostTable$Ghost", "copyFrom", "(LGhostTable$Ghost;)V"⟩, prog_4_method_9_code, 2, none, 1, 1)],
  [(⟨"GhostTable$Reader", "<init>", "()V"⟩, prog_5_method_1_code, 1, none, 0, 2), (⟨"GhostTable$Reader", "read", "(LGhostTable$Row;Ljava/lang/String;)I"⟩, prog_5_method_2_code, 5, (some .int), 2, 1), (⟨"GhostTable$Reader", "readOperand", "(LGhostTable$Row;ILjava/lang/String;)I"⟩, prog_5_method_3_code, 7, (some .int), 3, 1), (⟨"GhostTable$Reader", "openSign", "(I)I"⟩, prog_5_method_4_code, 2, (some .int), 1, 1), (⟨"GhostTable$Reader", "countDigits", "(LGhostTable$Row;I)I"⟩, prog_5_method_5_code, 3, (some .int), 2, 0), (⟨"GhostTable$Reader", "numberAt", "(LGhostTable$Row;II)I"⟩, prog_5_method_6_code, 5, (some .int), 3, 0), (⟨"GhostTable$Reader", "endOperand", "()V"⟩, prog_5_method_7_code, 2, none, 0, 1), (⟨"GhostTable$Reader", "readSign", "(I)I"⟩, prog_5_method_8_code, 3, (some .int), 1, 1)],
  [(⟨"GhostTable$Reader", "closeBracket", "()I"⟩, prog_5_method_9_code, 1, (some .int), 0, 1), (⟨"GhostTable$Reader", "settle", "(I)V"⟩, prog_5_method_10_code, 3, none, 1, 1), (⟨"GhostTable$Reader", "takePending", "()V"⟩, prog_5_method_11_code, 1, none, 0, 1), (⟨"GhostTable$Reader", "levelOf", "(I)I"⟩, prog_5_method_12_code, 1, (some .int), 1, 0), (⟨"GhostTable$Realm", "<init>", "()V"⟩, prog_6_method_1_code, 1, none, 0, 2), (⟨"GhostTable$Realm", "textOf", "(I)LGhostTable$Text;"⟩, prog_6_method_2_code, 2, (some (.object "GhostTable$Text")), 1, 1), (⟨"GhostTable$Realm", "letDogsLoose", "()V"⟩, prog_6_method_3_code, 3, none, 0, 1), (⟨"GhostTable$Realm", "draw", "()I"⟩, prog_6_method_4_code, 1, (some .int), 0, 1)],
  [(⟨"GhostTable$Realm", "copyFrom", "(LGhostTable$Realm;)V"⟩, prog_6_method_5_code, 2, none, 1, 1), (⟨"GhostTable$Row", "<init>", "(I)V"⟩, prog_7_method_1_code, 2, none, 1, 2), (⟨"GhostTable$Row", "add", "(I)V"⟩, prog_7_method_2_code, 2, none, 1, 1), (⟨"GhostTable$Row", "at", "(I)I"⟩, prog_7_method_3_code, 2, (some .int), 1, 1), (⟨"GhostTable$Row", "last", "()I"⟩, prog_7_method_4_code, 1, (some .int), 0, 1), (⟨"GhostTable$Row", "dropLast", "()V"⟩, prog_7_method_5_code, 1, none, 0, 1), (⟨"GhostTable$Row", "clear", "()V"⟩, prog_7_method_6_code, 1, none, 0, 1), (⟨"GhostTable$Row", "copyFrom", "(LGhostTable$Row;)V"⟩, prog_7_method_7_code, 3, none, 1, 1)],
  [(⟨"GhostTable$Sheet", "<init>", "()V"⟩, prog_8_method_1_code, 1, none, 0, 2), (⟨"GhostTable$Sheet", "isMissing", "()Z"⟩, prog_8_method_2_code, 1, (some .boolean), 0, 1), (⟨"GhostTable$Sheet", "renew", "(II)V"⟩, prog_8_method_3_code, 4, none, 2, 1), (⟨"GhostTable$Sheet", "write", "(II)V"⟩, prog_8_method_4_code, 4, none, 2, 1), (⟨"GhostTable$Sheet", "hasStretch", "(II)Z"⟩, prog_8_method_5_code, 3, (some .boolean), 2, 1), (⟨"GhostTable$Speaker", "<init>", "()V"⟩, prog_9_method_1_code, 1, none, 0, 2), (⟨"GhostTable$Speaker", "speak", "(IIIII)I"⟩, prog_9_method_2_code, 6, (some .int), 5, 1), (⟨"GhostTable$Speaker", "say", "(IIII)I"⟩, prog_9_method_3_code, 8, (some .int), 4, 1)],
  [(⟨"GhostTable$Speaker", "bodyOf", "(II)I"⟩, prog_9_method_4_code, 5, (some .int), 2, 0), (⟨"GhostTable$Speaker", "aboveBody", "(I)I"⟩, prog_9_method_5_code, 2, (some .int), 1, 0), (⟨"GhostTable$Text", "<init>", "(ILjava/lang/String;II)V"⟩, prog_10_method_1_code, 5, none, 4, 2), (⟨"GhostTable$Text", "takeCode", "(LGhostTable$Row;)V"⟩, prog_10_method_2_code, 2, none, 1, 1), (⟨"GhostTable$Text", "give", "(IIII)I"⟩, prog_10_method_3_code, 6, (some .int), 4, 1), (⟨"GhostTable$Text", "without", "(II)I"⟩, prog_10_method_4_code, 3, (some .int), 2, 1), (⟨"GhostTable$Text", "workOut", "(IIII)I"⟩, prog_10_method_5_code, 9, (some .int), 4, 1), (⟨"GhostTable$Text", "named", "(IIIII)I"⟩, prog_10_method_6_code, 5, (some .int), 5, 0)],
  [(⟨"GhostTable$Text", "joined", "(III)I"⟩, prog_10_method_7_code, 3, (some .int), 3, 0), (⟨"GhostTable", "<init>", "()V"⟩, prog_1_method_1_code, 2, none, 0, 2), (⟨"GhostTable", "dead", "(III)I"⟩, prog_1_method_2_code, 4, (some .int), 3, 1), (⟨"GhostTable", "ofDead", "(II)I"⟩, prog_1_method_3_code, 3, (some .int), 2, 1), (⟨"GhostTable", "change", "(III)I"⟩, prog_1_method_4_code, 4, (some .int), 3, 1), (⟨"GhostTable", "become", "(II)I"⟩, prog_1_method_5_code, 5, (some .int), 2, 1), (⟨"GhostTable", "as", "(II)I"⟩, prog_1_method_6_code, 4, (some .int), 2, 1), (⟨"GhostTable", "takes", "(II)I"⟩, prog_1_method_7_code, 3, (some .int), 2, 1)],
  [(⟨"GhostTable", "dish", "(III)I"⟩, prog_1_method_8_code, 5, (some .int), 3, 1), (⟨"GhostTable", "ofDish", "(II)I"⟩, prog_1_method_9_code, 3, (some .int), 2, 1), (⟨"GhostTable", "cook", "(III)I"⟩, prog_1_method_10_code, 6, (some .int), 3, 1), (⟨"GhostTable", "serve", "(II)I"⟩, prog_1_method_11_code, 5, (some .int), 2, 1), (⟨"GhostTable", "eat", "(I)I"⟩, prog_1_method_12_code, 5, (some .int), 1, 1), (⟨"GhostTable", "hunger", "(I)I"⟩, prog_1_method_13_code, 2, (some .int), 1, 1), (⟨"GhostTable", "marry", "(II)I"⟩, prog_1_method_14_code, 3, (some .int), 2, 1), (⟨"GhostTable", "feed", "(JI)I"⟩, prog_1_method_15_code, 5, (some .int), 2, 1)],
  [(⟨"GhostTable", "text", "(I)I"⟩, prog_1_method_16_code, 4, (some .int), 1, 1), (⟨"GhostTable", "law", "(IIIII)I"⟩, prog_1_method_17_code, 6, (some .int), 5, 1), (⟨"GhostTable", "bells", "(I)I"⟩, prog_1_method_18_code, 4, (some .int), 1, 1), (⟨"GhostTable", "loose", "(I)I"⟩, prog_1_method_19_code, 4, (some .int), 1, 1), (⟨"GhostTable", "then", "(III)I"⟩, prog_1_method_20_code, 4, (some .int), 3, 1), (⟨"GhostTable", "thenHeat", "(II)I"⟩, prog_1_method_21_code, 3, (some .int), 2, 1), (⟨"GhostTable", "angers", "(I)I"⟩, prog_1_method_22_code, 2, (some .int), 1, 1), (⟨"GhostTable", "table", "(II)I"⟩, prog_1_method_23_code, 5, (some .int), 2, 1)],
  [(⟨"GhostTable", "forget", "(II)I"⟩, prog_1_method_24_code, 7, (some .int), 2, 1), (⟨"GhostTable", "needs", "(III)I"⟩, prog_1_method_25_code, 5, (some .int), 3, 1), (⟨"GhostTable", "first", "(I)I"⟩, prog_1_method_26_code, 4, (some .int), 1, 1), (⟨"GhostTable", "share", "(III)I"⟩, prog_1_method_27_code, 4, (some .int), 3, 1), (⟨"GhostTable", "seed", "(I)I"⟩, prog_1_method_28_code, 3, (some .int), 1, 1), (⟨"GhostTable", "voice", "(III)I"⟩, prog_1_method_29_code, 5, (some .int), 3, 1), (⟨"GhostTable", "trace", "(I)I"⟩, prog_1_method_30_code, 2, (some .int), 1, 1), (⟨"GhostTable", "sheet", "(III)I"⟩, prog_1_method_31_code, 4, (some .int), 3, 1)],
  [(⟨"GhostTable", "put", "(III)I"⟩, prog_1_method_32_code, 5, (some .int), 3, 1), (⟨"GhostTable", "move", "(IIIII)I"⟩, prog_1_method_33_code, 8, (some .int), 5, 1), (⟨"GhostTable", "dishes", "(I)I"⟩, prog_1_method_34_code, 8, (some .int), 1, 1), (⟨"GhostTable", "image", "()I"⟩, prog_1_method_35_code, 1, (some .int), 0, 1), (⟨"GhostTable", "restore", "()I"⟩, prog_1_method_36_code, 1, (some .int), 0, 1), (⟨"GhostTable", "tell", "(I)I"⟩, prog_1_method_37_code, 2, (some .int), 1, 1), (⟨"GhostTable", "check", "(I)I"⟩, prog_1_method_38_code, 3, (some .int), 1, 1), (⟨"GhostTable", "count", "(I)I"⟩, prog_1_method_39_code, 2, (some .int), 1, 1)],
  [(⟨"GhostTable", "told", "(I)I"⟩, prog_1_method_40_code, 2, (some .int), 1, 1), (⟨"GhostTable", "error", "(I)I"⟩, prog_1_method_41_code, 3, (some .int), 1, 1), (⟨"GhostTable", "within", "(III)Z"⟩, prog_1_method_42_code, 3, (some .boolean), 3, 0), (⟨"GhostTable", "isKindAndM", "(I)Z"⟩, prog_1_method_43_code, 1, (some .boolean), 1, 0), (⟨"GhostTable", "isHouse", "(I)Z"⟩, prog_1_method_44_code, 1, (some .boolean), 1, 0), (⟨"GhostTable", "isUse", "(I)Z"⟩, prog_1_method_45_code, 1, (some .boolean), 1, 0), (⟨"GhostTable", "isSheet", "(I)Z"⟩, prog_1_method_46_code, 1, (some .boolean), 1, 0), (⟨"GhostTable", "isAhead", "(I)Z"⟩, prog_1_method_47_code, 1, (some .boolean), 1, 0)],
  [(⟨"GhostTable", "isDead", "(I)Z"⟩, prog_1_method_48_code, 2, (some .boolean), 1, 1), (⟨"GhostTable", "isDish", "(I)Z"⟩, prog_1_method_49_code, 2, (some .boolean), 1, 1), (⟨"GhostTable", "isOfKind", "(II)Z"⟩, prog_1_method_50_code, 4, (some .boolean), 2, 0), (⟨"GhostTable", "mostOfDead", "(I)I"⟩, prog_1_method_51_code, 1, (some .int), 1, 0), (⟨"GhostTable", "dishRefusal", "(III)I"⟩, prog_1_method_52_code, 4, (some .int), 3, 1), (⟨"GhostTable", "bellsRefusal", "(I)I"⟩, prog_1_method_53_code, 2, (some .int), 1, 1), (⟨"GhostTable", "lookAhead", "(I)V"⟩, prog_1_method_54_code, 3, none, 1, 1), (⟨"GhostTable", "angersWithout", "(II)I"⟩, prog_1_method_55_code, 4, (some .int), 2, 1)],
  [(⟨"GhostTable", "eatsAlways", "(IIII)Z"⟩, prog_1_method_56_code, 6, (some .boolean), 4, 1), (⟨"GhostTable", "findShrineAngers", "(II)V"⟩, prog_1_method_57_code, 6, none, 2, 1), (⟨"GhostTable", "bestTable", "(I)I"⟩, prog_1_method_58_code, 6, (some .int), 1, 1), (⟨"GhostTable", "tableAngers", "(II)I"⟩, prog_1_method_59_code, 7, (some .int), 2, 1), (⟨"GhostTable", "placeInTable", "(III)I"⟩, prog_1_method_60_code, 3, (some .int), 3, 0), (⟨"GhostTable", "firstWrongAnger", "(I)I"⟩, prog_1_method_61_code, 3, (some .int), 1, 1), (⟨"GhostTableModel", "<init>", "()V"⟩, prog_12_method_1_code, 1, none, 0, 2), (⟨"GhostTableModel", "finding", "(I)I"⟩, prog_12_method_2_code, 2, (some .int), 1, 1)],
  [(⟨"GhostTableModel", "within", "(III)Z"⟩, prog_12_method_3_code, 3, (some .boolean), 3, 0), (⟨"GhostTableModel", "held", "(III)I"⟩, prog_12_method_4_code, 3, (some .int), 3, 0), (⟨"GhostTableModel", "is", "(II)Z"⟩, prog_12_method_5_code, 3, (some .boolean), 2, 1), (⟨"GhostTableModel", "copy", "([I[I)V"⟩, prog_12_method_6_code, 3, none, 2, 0), (⟨"GhostTableModel", "putIn", "(II)I"⟩, prog_12_method_7_code, 4, (some .int), 2, 1), (⟨"GhostTableModel", "putBack", "(I)I"⟩, prog_12_method_8_code, 2, (some .int), 1, 1), (⟨"GhostTableModel", "deadIs", "(II)I"⟩, prog_12_method_9_code, 3, (some .int), 2, 1), (⟨"GhostTableModel", "dishIs", "(II)I"⟩, prog_12_method_10_code, 3, (some .int), 2, 1)],
  [(⟨"GhostTableModel", "isHouse", "(I)Z"⟩, prog_12_method_11_code, 1, (some .boolean), 1, 0), (⟨"GhostTableModel", "dead", "(III)I"⟩, prog_12_method_12_code, 7, (some .int), 3, 1), (⟨"GhostTableModel", "fieldOf", "(II)I"⟩, prog_12_method_13_code, 3, (some .int), 2, 1), (⟨"GhostTableModel", "ofDead", "(II)I"⟩, prog_12_method_14_code, 3, (some .int), 2, 1), (⟨"GhostTableModel", "change", "(III)I"⟩, prog_12_method_15_code, 6, (some .int), 3, 1), (⟨"GhostTableModel", "become", "(II)I"⟩, prog_12_method_16_code, 3, (some .int), 2, 1), (⟨"GhostTableModel", "above", "(I)I"⟩, prog_12_method_17_code, 1, (some .int), 1, 0), (⟨"GhostTableModel", "as", "(II)I"⟩, prog_12_method_18_code, 4, (some .int), 2, 1)],
  [(⟨"GhostTableModel", "takenOf", "(II)I"⟩, prog_12_method_19_code, 9, (some .int), 2, 1), (⟨"GhostTableModel", "takes", "(II)I"⟩, prog_12_method_20_code, 3, (some .int), 2, 1), (⟨"GhostTableModel", "picks", "(I)I"⟩, prog_12_method_21_code, 6, (some .int), 1, 1), (⟨"GhostTableModel", "isDish", "(III)Z"⟩, prog_12_method_22_code, 3, (some .boolean), 3, 0), (⟨"GhostTableModel", "cooked", "(III)I"⟩, prog_12_method_23_code, 6, (some .int), 3, 1), (⟨"GhostTableModel", "dish", "(III)I"⟩, prog_12_method_24_code, 4, (some .int), 3, 1), (⟨"GhostTableModel", "ofDish", "(II)I"⟩, prog_12_method_25_code, 3, (some .int), 2, 1), (⟨"GhostTableModel", "cook", "(III)I"⟩, prog_12_method_26_code, 5, (some .int), 3, 1)],
  [(⟨"GhostTableModel", "serve", "(II)I"⟩, prog_12_method_27_code, 3, (some .int), 2, 1), (⟨"GhostTableModel", "eat", "(I)I"⟩, prog_12_method_28_code, 5, (some .int), 1, 1), (⟨"GhostTableModel", "hunger", "(I)I"⟩, prog_12_method_29_code, 2, (some .int), 1, 1), (⟨"GhostTableModel", "marry", "(II)I"⟩, prog_12_method_30_code, 5, (some .int), 2, 1), (⟨"GhostTableModel", "feed", "(JI)I"⟩, prog_12_method_31_code, 5, (some .int), 2, 1), (⟨"GhostTableModel", "here", "()I"⟩, prog_12_method_32_code, 1, (some .int), 0, 1), (⟨"GhostTableModel", "takes", "(I)Z"⟩, prog_12_method_33_code, 3, (some .boolean), 1, 1), (⟨"GhostTableModel", "codes", "(I)V"⟩, prog_12_method_34_code, 2, none, 1, 1)],
  [(⟨"GhostTableModel", "either", "()V"⟩, prog_12_method_35_code, 1, none, 0, 1), (⟨"GhostTableModel", "both", "()V"⟩, prog_12_method_36_code, 1, none, 0, 1), (⟨"GhostTableModel", "compared", "()V"⟩, prog_12_method_37_code, 2, none, 0, 1), (⟨"GhostTableModel", "sum", "()V"⟩, prog_12_method_38_code, 2, none, 0, 1), (⟨"GhostTableModel", "product", "()V"⟩, prog_12_method_39_code, 2, none, 0, 1), (⟨"GhostTableModel", "nameOf", "(I)I"⟩, prog_12_method_40_code, 4, (some .int), 1, 1), (⟨"GhostTableModel", "one", "()V"⟩, prog_12_method_41_code, 4, none, 0, 1), (⟨"GhostTableModel", "text", "(I)I"⟩, prog_12_method_42_code, 3, (some .int), 1, 1)],
  [(⟨"GhostTableModel", "done", "(III)I"⟩, prog_12_method_43_code, 3, (some .int), 3, 0), (⟨"GhostTableModel", "worked", "(I)I"⟩, prog_12_method_44_code, 5, (some .int), 1, 1), (⟨"GhostTableModel", "hasText", "(I)Z"⟩, prog_12_method_45_code, 2, (some .boolean), 1, 1), (⟨"GhostTableModel", "given", "(IIIII)I"⟩, prog_12_method_46_code, 6, (some .int), 5, 1), (⟨"GhostTableModel", "law", "(IIIII)I"⟩, prog_12_method_47_code, 6, (some .int), 5, 1), (⟨"GhostTableModel", "findOrder", "()V"⟩, prog_12_method_48_code, 3, none, 0, 1), (⟨"GhostTableModel", "eats", "(I)V"⟩, prog_12_method_49_code, 5, none, 1, 1), (⟨"GhostTableModel", "drawn", "(I)I"⟩, prog_12_method_50_code, 2, (some .int), 1, 1)],
  [(⟨"GhostTableModel", "dogs", "()V"⟩, prog_12_method_51_code, 3, none, 0, 1), (⟨"GhostTableModel", "bellsGo", "(IZI)V"⟩, prog_12_method_52_code, 7, none, 3, 1), (⟨"GhostTableModel", "sumOf", "(II)I"⟩, prog_12_method_53_code, 5, (some .int), 2, 1), (⟨"GhostTableModel", "go", "(IZ)I"⟩, prog_12_method_54_code, 3, (some .int), 2, 1), (⟨"GhostTableModel", "bells", "(I)I"⟩, prog_12_method_55_code, 2, (some .int), 1, 1), (⟨"GhostTableModel", "loose", "(I)I"⟩, prog_12_method_56_code, 2, (some .int), 1, 1), (⟨"GhostTableModel", "isAhead", "(I)Z"⟩, prog_12_method_57_code, 1, (some .boolean), 1, 0), (⟨"GhostTableModel", "then", "(III)I"⟩, prog_12_method_58_code, 4, (some .int), 3, 1)],
  [(⟨"GhostTableModel", "thenHeat", "(II)I"⟩, prog_12_method_59_code, 3, (some .int), 2, 1), (⟨"GhostTableModel", "angersBy", "(II)I"⟩, prog_12_method_60_code, 3, (some .int), 2, 1), (⟨"GhostTableModel", "angers", "(I)I"⟩, prog_12_method_61_code, 2, (some .int), 1, 1), (⟨"GhostTableModel", "digit", "(III)I"⟩, prog_12_method_62_code, 4, (some .int), 3, 1), (⟨"GhostTableModel", "table", "(II)I"⟩, prog_12_method_63_code, 9, (some .int), 2, 1), (⟨"GhostTableModel", "forget", "(II)I"⟩, prog_12_method_64_code, 7, (some .int), 2, 1), (⟨"GhostTableModel", "doesEat", "(II)Z"⟩, prog_12_method_65_code, 6, (some .boolean), 2, 1), (⟨"GhostTableModel", "needs", "(III)I"⟩, prog_12_method_66_code, 6, (some .int), 3, 1)],
  [(⟨"GhostTableModel", "angry", "()I"⟩, prog_12_method_67_code, 3, (some .int), 0, 1), (⟨"GhostTableModel", "first", "(I)I"⟩, prog_12_method_68_code, 4, (some .int), 1, 1), (⟨"GhostTableModel", "share", "(III)I"⟩, prog_12_method_69_code, 10, (some .int), 3, 1), (⟨"GhostTableModel", "seed", "(I)I"⟩, prog_12_method_70_code, 2, (some .int), 1, 1), (⟨"GhostTableModel", "began", "(I)V"⟩, prog_12_method_71_code, 2, none, 1, 1), (⟨"GhostTableModel", "hasOwn", "(II)Z"⟩, prog_12_method_72_code, 2, (some .boolean), 2, 0), (⟨"GhostTableModel", "voiced", "(II)I"⟩, prog_12_method_73_code, 3, (some .int), 2, 1), (⟨"GhostTableModel", "bodyFrom", "(III)I"⟩, prog_12_method_74_code, 5, (some .int), 3, 1)],
  [(⟨"GhostTableModel", "body", "(III)I"⟩, prog_12_method_75_code, 7, (some .int), 3, 1), (⟨"GhostTableModel", "voice", "(III)I"⟩, prog_12_method_76_code, 4, (some .int), 3, 1), (⟨"GhostTableModel", "trace", "(I)I"⟩, prog_12_method_77_code, 2, (some .int), 1, 1), (⟨"GhostTableModel", "isSheet", "(I)Z"⟩, prog_12_method_78_code, 1, (some .boolean), 1, 0), (⟨"GhostTableModel", "sheet", "(III)I"⟩, prog_12_method_79_code, 5, (some .int), 3, 1), (⟨"GhostTableModel", "put", "(III)I"⟩, prog_12_method_80_code, 4, (some .int), 3, 1), (⟨"GhostTableModel", "move", "(IIIII)I"⟩, prog_12_method_81_code, 7, (some .int), 5, 1), (⟨"GhostTableModel", "dishes", "(I)I"⟩, prog_12_method_82_code, 5, (some .int), 1, 1)],
  [(⟨"GhostTableModel", "image", "()I"⟩, prog_12_method_83_code, 1, (some .int), 0, 1), (⟨"GhostTableModel", "restore", "()I"⟩, prog_12_method_84_code, 1, (some .int), 0, 1), (⟨"GhostTableModel", "tell", "(I)I"⟩, prog_12_method_85_code, 2, (some .int), 1, 1), (⟨"GhostTableModel", "check", "(I)I"⟩, prog_12_method_86_code, 5, (some .int), 1, 1), (⟨"GhostTableModel", "count", "(I)I"⟩, prog_12_method_87_code, 4, (some .int), 1, 1), (⟨"GhostTableModel", "told", "(I)I"⟩, prog_12_method_88_code, 2, (some .int), 1, 1), (⟨"java/lang/Math", "max", "(II)I"⟩, prog_14_method_65_code, 2, (some .int), 2, 0), (⟨"java/lang/Math", "min", "(II)I"⟩, prog_14_method_69_code, 2, (some .int), 2, 0)],
  [(⟨"java/lang/String", "length", "()I"⟩, prog_15_method_54_code, 1, (some .int), 0, 1), (⟨"java/lang/String", "charAt", "(I)C"⟩, prog_15_method_56_code, 2, (some .char), 1, 1), (⟨"java/lang/String", "indexOf", "(I)I"⟩, prog_15_method_79_code, 2, (some .int), 1, 1), (⟨"java/lang/String", "indexOf", "(II)I"⟩, prog_15_method_80_code, 3, (some .int), 2, 1), (⟨"java/lang/String", "coder", "()B"⟩, prog_15_method_152_code, 1, (some .byte), 0, 1), (⟨"java/lang/String", "isLatin1", "()Z"⟩, prog_15_method_154_code, 1, (some .boolean), 0, 1), (⟨"java/lang/String", "checkIndex", "(II)V"⟩, prog_15_method_155_code, 2, none, 2, 0), (⟨"java/lang/StringLatin1", "charAt", "([BI)C"⟩, prog_16_method_2_code, 2, (some .char), 2, 0)],
  [(⟨"java/lang/StringLatin1", "canEncode", "(I)Z"⟩, prog_16_method_4_code, 1, (some .boolean), 1, 0), (⟨"java/lang/StringLatin1", "indexOf", "([BIII)I"⟩, prog_16_method_22_code, 4, (some .int), 4, 0), (⟨"java/lang/StringLatin1", "indexOfChar", "([BIII)I"⟩, prog_16_method_23_code, 6, (some .int), 4, 0), (⟨"jdk/internal/util/Preconditions", "checkIndex", "(IILjava/util/function/BiFunction;)I"⟩, prog_19_method_11_code, 3, (some .int), 3, 0), (⟨"GhostTableLaw", "law", "([I)Z"⟩, code, 4, (some .boolean), 1, 0)]]
/-- where the words of each stand: its code, its class, static or instance, selects -/
def am_mw : List (List (List Nat)) := [
  [[100, 66, 99], [410, 66, 408, 409], [537, 66, 535, 536], [415, 66, 414, 1], [427, 66, 425, 426], [498, 66, 496, 497], [575, 66, 573, 574], [431, 66, 429, 430]],
  [[751, 66, 749, 750], [827, 66, 825, 826], [769, 66, 767, 768], [831, 66, 829, 830], [989, 66, 987, 988], [993, 66, 991, 992], [866, 66, 864, 865], [874, 66, 872, 873]],
  [[878, 66, 876, 877], [882, 66, 880, 881], [798, 66, 796, 797], [150, 68, 149], [545, 68, 543, 544], [764, 68, 762, 763], [806, 68, 804, 805], [107, 67, 106]],
  [[487, 67, 485, 486], [502, 67, 500, 501], [439, 67, 437, 438], [443, 67, 442, 3], [435, 67, 433, 434], [759, 67, 757, 758], [755, 67, 753, 754], [802, 67, 800, 801]],
  [[299, 72, 298], [596, 72, 594, 595], [601, 72, 600, 8], [609, 72, 608, 9], [613, 72, 612], [698, 72, 697], [702, 72, 701, 10], [713, 72, 712, 12]],
  [[717, 72, 716, 13], [721, 72, 720, 14], [707, 72, 706, 11], [724, 72, 723], [94, 65, 93], [592, 65, 590, 591], [777, 65, 775, 776], [781, 65, 780, 16]],
  [[962, 65, 960, 961], [227, 70, 226], [463, 70, 461, 462], [605, 70, 603, 604], [470, 70, 468, 469], [474, 70, 472, 473], [459, 70, 457, 458], [733, 70, 731, 732]],
  [[347, 74, 346], [935, 74, 933, 934], [927, 74, 925, 926], [939, 74, 937, 938], [947, 74, 945, 946], [324, 73, 323], [895, 73, 893, 894], [900, 73, 899, 23]],
  [[903, 73, 902], [910, 73, 909], [221, 69, 220], [729, 69, 727, 728], [447, 69, 445, 446], [451, 69, 450, 4], [455, 69, 454, 5], [466, 69, 465]],
  [[477, 69, 476], [86, 64, 85], [393, 64, 391, 392], [419, 64, 417, 418], [491, 64, 489, 490], [506, 64, 504, 505], [510, 64, 508, 509], [520, 64, 518, 519]],
  [[529, 64, 527, 528], [541, 64, 539, 540], [549, 64, 547, 548], [553, 64, 551, 552], [557, 64, 555, 556], [564, 64, 562, 563], [571, 64, 569, 570], [580, 64, 578, 579]],
  [[585, 64, 583, 584], [739, 64, 737, 738], [743, 64, 741, 742], [773, 64, 771, 772], [787, 64, 785, 786], [810, 64, 808, 809], [814, 64, 812, 813], [818, 64, 816, 817]],
  [[846, 64, 844, 845], [854, 64, 852, 853], [862, 64, 860, 861], [870, 64, 868, 869], [887, 64, 885, 886], [891, 64, 889, 890], [915, 64, 913, 914], [920, 64, 918, 919]],
  [[931, 64, 929, 930], [943, 64, 941, 942], [954, 64, 952, 953], [958, 64, 956, 957], [969, 64, 967, 968], [973, 64, 971, 972], [977, 64, 975, 976], [985, 64, 983, 984]],
  [[997, 64, 995, 996], [404, 64, 403, 0], [399, 64, 398], [396, 64, 395], [567, 64, 566], [588, 64, 587], [923, 64, 922], [790, 64, 789]],
  [[423, 64, 422, 2], [524, 64, 523, 6], [513, 64, 512], [494, 64, 493], [533, 64, 532, 7], [747, 64, 746, 15], [794, 64, 793, 17], [850, 64, 849, 21]],
  [[858, 64, 857, 22], [823, 64, 822, 18], [835, 64, 834, 19], [839, 64, 838, 20], [842, 64, 841], [981, 64, 980, 24], [1002, 75, 1001], [1086, 75, 1085, 25]],
  [[1081, 75, 1080], [1134, 75, 1133], [1096, 75, 1095, 26], [1321, 75, 1320], [1144, 75, 1143, 35], [1325, 75, 1324, 54], [1112, 75, 1111, 30], [1108, 75, 1107, 29]],
  [[1195, 75, 1194], [1078, 75, 1076, 1077], [1100, 75, 1099, 27], [1092, 75, 1090, 1091], [1140, 75, 1138, 1139], [1148, 75, 1146, 1147], [1155, 75, 1154], [1152, 75, 1150, 1151]],
  [[1116, 75, 1115, 31], [1160, 75, 1158, 1159], [1104, 75, 1103, 28], [1167, 75, 1166], [1171, 75, 1170, 36], [1164, 75, 1162, 1163], [1175, 75, 1173, 1174], [1179, 75, 1177, 1178]],
  [[1183, 75, 1181, 1182], [1187, 75, 1185, 1186], [1192, 75, 1190, 1191], [1199, 75, 1197, 1198], [1203, 75, 1201, 1202], [1236, 75, 1235, 43], [1244, 75, 1243, 45], [1240, 75, 1239, 44]],
  [[1212, 75, 1211, 37], [1216, 75, 1215, 38], [1220, 75, 1219, 39], [1224, 75, 1223, 40], [1228, 75, 1227, 41], [1248, 75, 1247, 46], [1232, 75, 1231, 42], [1208, 75, 1206, 1207]],
  [[1131, 75, 1130], [1128, 75, 1127, 34], [1124, 75, 1123, 33], [1120, 75, 1119, 32], [1273, 75, 1271, 1272], [1289, 75, 1288, 49], [1302, 75, 1301, 52], [1297, 75, 1296, 51]],
  [[1293, 75, 1292, 50], [1285, 75, 1284, 48], [1307, 75, 1306, 53], [1281, 75, 1280, 47], [1277, 75, 1275, 1276], [1311, 75, 1309, 1310], [1318, 75, 1317], [1315, 75, 1313, 1314]],
  [[1329, 75, 1327, 1328], [1337, 75, 1336, 55], [1333, 75, 1331, 1332], [1346, 75, 1345, 56], [1341, 75, 1339, 1340], [1350, 75, 1348, 1349], [1358, 75, 1357, 57], [1354, 75, 1352, 1353]],
  [[1366, 75, 1365, 58], [1362, 75, 1360, 1361], [1370, 75, 1368, 1369], [1374, 75, 1372, 1373], [1397, 75, 1396, 62], [1389, 75, 1388], [1382, 75, 1381, 59], [1386, 75, 1385, 60]],
  [[1393, 75, 1392, 61], [1378, 75, 1376, 1377], [1401, 75, 1399, 1400], [1408, 75, 1407], [1405, 75, 1403, 1404], [1412, 75, 1410, 1411], [1416, 75, 1414, 1415], [1420, 75, 1418, 1419]],
  [[1424, 75, 1422, 1423], [1428, 75, 1426, 1427], [1432, 75, 1430, 1431], [1436, 75, 1434, 1435], [1440, 75, 1438, 1439], [1444, 75, 1442, 1443], [231, 71, 230], [480, 71, 479]],
  [[631, 76, 629, 630], [1253, 76, 1251, 1252], [617, 76, 615, 616], [621, 76, 619, 620], [635, 76, 633, 634], [625, 76, 623, 624], [1259, 76, 1258], [1256, 77, 1255]],
  [[641, 77, 640], [638, 77, 637], [646, 77, 645], [1262, 79, 1261], []]]
theorem am_in_r {big : List Cond} (ws : List Cond) (ps : List Nat) (hp : ws = ps.filterMap (fun i => big[i]?)) : ∀ w ∈ ws, w ∈ big := by
  intro w hw
  rw [hp] at hw
  obtain ⟨i, -, hi⟩ := List.mem_filterMap.mp hw
  exact List.mem_of_getElem? hi
set_option maxRecDepth 20000 in
theorem am_iX0 : ∀ w ∈ wsX00, w ∈ lw_tbl := am_in_r _ [198, 200, 202, 204, 206, 208, 210, 212] (by decide +kernel)
set_option maxRecDepth 20000 in
theorem am_iX1 : ∀ w ∈ wsX10, w ∈ lw_tbl := am_in_r _ [170, 172, 174, 176, 178] (by decide +kernel)
set_option maxRecDepth 20000 in
theorem am_iX2 : ∀ w ∈ wsX20, w ∈ lw_tbl := am_in_r _ [128, 130, 132, 134, 136, 138, 140, 142] (by decide +kernel)
set_option maxRecDepth 20000 in
theorem am_iX3 : ∀ w ∈ wsX30, w ∈ lw_tbl := am_in_r _ [309, 311, 313, 315, 317] (by decide +kernel)
set_option maxRecDepth 20000 in
theorem am_iX4 : ∀ w ∈ wsX40, w ∈ lw_tbl := am_in_r _ [280, 282, 284, 286, 288, 290] (by decide +kernel)
set_option maxRecDepth 20000 in
theorem am_iX5 : ∀ w ∈ wsX50, w ∈ lw_tbl := am_in_r _ [238, 240] (by decide +kernel)
set_option maxRecDepth 20000 in
theorem am_iX6 : ∀ w ∈ wsX60, w ∈ lw_tbl := am_in_r _ [355, 357, 359] (by decide +kernel)
set_option maxRecDepth 20000 in
theorem am_iX7 : ∀ w ∈ wsX70, w ∈ lw_tbl := am_in_r _ [333, 335, 337, 339] (by decide +kernel)
set_option maxRecDepth 20000 in
theorem am_iX8 : ∀ w ∈ wsX80, w ∈ lw_tbl := am_in_r _ [252, 254, 256, 258, 260, 262] (by decide +kernel)
set_option maxRecDepth 20000 in
theorem am_iX9 : ∀ w ∈ wsX90, w ∈ lw_tbl := am_in_r _ [371, 373, 375, 377, 379, 381, 383, 385, 387] (by decide +kernel)
set_option maxRecDepth 20000 in
theorem am_iX10 : ∀ w ∈ wsX100, w ∈ lw_tbl := am_in_r _ [1030, 1032, 1034, 1036, 1038, 1040, 1042, 1044, 1046, 1048, 1050, 1052, 1054, 1056, 1058, 1060, 1062, 1064, 1066, 1068, 1070, 1072] (by decide +kernel)
