def am_md (y : Nat) : MethodName × ByteArray × Nat × Option FieldType × Nat × Nat := am_nth (am_nth am_mt (y / 8) []) (y % 8) (⟨"", "", ""⟩, .empty, 0, none, 0, 0)
def am_nm (y : Nat) : MethodName := (am_md y).1
def am_by (y : Nat) : ByteArray := (am_md y).2.1
def am_ml (y : Nat) : Nat := (am_md y).2.2.1
def am_rt (y : Nat) : Option FieldType := (am_md y).2.2.2.1
def am_np (y : Nat) : Nat := (am_md y).2.2.2.2.1
def am_kd (y : Nat) : Nat := (am_md y).2.2.2.2.2
def am_cds (y : Nat) : am_C := am_nth (am_nth [
  [am_c0, am_c1, am_c2, am_c3, am_c4, am_c5, am_c6, am_c7],
  [am_c8, am_c9, am_c10, am_c11, am_c12, am_c13, am_c14, am_c15],
  [am_c16, am_c17, am_c18, am_c19, am_c20, am_c21, am_c22, am_c23],
  [am_c24, am_c25, am_c26, am_c27, am_c28, am_c29, am_c30, am_c31],
  [am_c32, am_c33, am_c34, am_c35, am_c36, am_c37, am_c38, am_c39],
  [am_c40, am_c41, am_c42, am_c43, am_c44, am_c45, am_c46, am_c47],
  [am_c48, am_c49, am_c50, am_c51, am_c52, am_c53, am_c54, am_c55],
  [am_c56, am_c57, am_c58, am_c59, am_c60, am_c61, am_c62, am_c63],
  [am_c64, am_c65, am_c66, am_c67, am_c68, am_c69, am_c70, am_c71],
  [am_c72, am_c73, am_c74, am_c75, am_c76, am_c77, am_c78, am_c79],
  [am_c80, am_c81, am_c82, am_c83, am_c84, am_c85, am_c86, am_c87],
  [am_c88, am_c89, am_c90, am_c91, am_c92, am_c93, am_c94, am_c95],
  [am_c96, am_c97, am_c98, am_c99, am_c100, am_c101, am_c102, am_c103],
  [am_c104, am_c105, am_c106, am_c107, am_c108, am_c109, am_c110, am_c111],
  [am_c112, am_c113, am_c114, am_c115, am_c116, am_c117, am_c118, am_c119],
  [am_c120, am_c121, am_c122, am_c123, am_c124, am_c125, am_c126, am_c127],
  [am_c128, am_c129, am_c130, am_c131, am_c132, am_c133, am_c134, am_c135],
  [am_c136, am_c137, am_c138, am_c139, am_c140, am_c141, am_c142, am_c143],
  [am_c144, am_c145, am_c146, am_c147, am_c148, am_c149, am_c150, am_c151],
  [am_c152, am_c153, am_c154, am_c155, am_c156, am_c157, am_c158, am_c159],
  [am_c160, am_c161, am_c162, am_c163, am_c164, am_c165, am_c166, am_c167],
  [am_c168, am_c169, am_c170, am_c171, am_c172, am_c173, am_c174, am_c175],
  [am_c176, am_c177, am_c178, am_c179, am_c180, am_c181, am_c182, am_c183],
  [am_c184, am_c185, am_c186, am_c187, am_c188, am_c189, am_c190, am_c191],
  [am_c192, am_c193, am_c194, am_c195, am_c196, am_c197, am_c198, am_c199],
  [am_c200, am_c201, am_c202, am_c203, am_c204, am_c205, am_c206, am_c207],
  [am_c208, am_c209, am_c210, am_c211, am_c212, am_c213, am_c214, am_c215],
  [am_c216, am_c217, am_c218, am_c219, am_c220, am_c221, am_c222, am_c223],
  [am_c224, am_c225, am_c226, am_c227, am_c228, am_c229, am_c230, am_c231],
  [am_c232, am_c233, am_c234, am_c235, am_c236]] (y / 8) []) (y % 8) []
def am_pc (y ip : Nat) : Nat := match am_at (am_cds y) ip with
  | some o => o.1
  | none => 0
def am_tbl : List Cond := lw_tbl.filter goodWord
def am_word (i : Nat) (w : Cond) : Bool := decide (lw_tbl[i]? = some w) && goodWord w
theorem am_word_in {i : Nat} {w : Cond} (h : am_word i w = true) : w ∈ am_tbl := by
  simp only [am_word, Bool.and_eq_true, decide_eq_true_eq] at h
  exact List.mem_filter.mpr ⟨List.mem_of_getElem? h.1, h.2⟩
theorem am_tbl_good : GoodIn lw_tbl am_tbl := fun w h => ⟨(List.mem_filter.mp h).1, good_of_word (List.mem_filter.mp h).2⟩
def am_cT (r : Nat) : vw_C := am_nth vwCl (r - 16) ("", fun _ => ("", "", "", false), 0)
/-- it goes on behind itself -/
def am_fx (y pc ln nx k : Nat) : Bool := Nat.beq ln k && Nat.beq (am_pc y nx) (pc + k)
def am_jp (y pc : Nat) (off : Int) (a : Nat) : Bool := decide ((pc : Int) + off = (am_pc y a : Int))
def am_tsok (y pc : Nat) : List Int → Int → List (Int32 × Nat) → Bool
  | [], _, [] => true
  | f :: fs, lo, (k, t) :: ts => decide (k.toInt = lo) && am_jp y pc f t && am_tsok y pc fs (lo + 1) ts
  | _, _, _ => false
def am_lsok (y pc : Nat) : List (Int × Int) → List (Int32 × Nat) → Bool
  | [], [] => true
  | q :: fs, (k, t) :: ts => decide (k.toInt = q.1) && am_jp y pc q.2 t && am_lsok y pc fs ts
  | _, _ => false
def am_strs : List (String × Nat × Nat) := [("GhostTable$Realm", 20, 0), ("GhostTable$Realm", 29, 1), ("GhostTableModel", 24, 0), ("GhostTableModel", 26, 1)]
def am_nests : List (String × Nat × Nat) := [("GhostTable$Board", 17, 23), ("GhostTable$Board", 24, 19), ("GhostTable$Speaker", 52, 114)]
def am_en (r : Nat) : String := am_nth [RX2, RX1, RX6, "java/lang/String"] (r - 34) ""
def am_chk2 (y : Nat) (o : am_O) : Bool := match o with
  | (pc, ln, ins, nx, a, b, v, ts, wi) => match ins with
    | .iconst n => am_fx y pc ln nx 1 && decide (Int32.ofInt n = v)
    | .bipush n => am_fx y pc ln nx 2 && decide ((Int8.ofInt n).toInt32 = v)
    | .sipush n => am_fx y pc ln nx 3 && decide ((Int16.ofInt n).toInt32 = v)
    | .ldc k => am_fx y pc ln nx 2 && match ts with
      | [] => am_word wi (.constant (am_nm y).cls k v)
      | _ :: _ => am_strs.contains ((am_nm y).cls, k, a)
    | .ldc_w k => am_fx y pc ln nx 3 && am_word wi (.constant (am_nm y).cls k v)
    | .ldc2_w k => am_fx y pc ln nx 3 && am_word wi (.constantLong (am_nm y).cls k (Int64.ofNat a))
    | .iload_n k => am_fx y pc ln nx 1 && Nat.beq k.val a
    | .iload k => am_fx y pc ln nx 2 && Nat.beq k a
    | .lload_n k => am_fx y pc ln nx 1 && Nat.beq k.val a
    | .aload_n k => am_fx y pc ln nx 1 && Nat.beq k.val a
    | .aload k => am_fx y pc ln nx 2 && Nat.beq k a
    | .istore_n k => am_fx y pc ln nx 1 && Nat.beq k.val a && Nat.blt a (am_ml y)
    | .istore k => am_fx y pc ln nx 2 && Nat.beq k a && Nat.blt a (am_ml y)
    | .astore_n k => am_fx y pc ln nx 1 && Nat.beq k.val a && Nat.blt a (am_ml y)
    | .astore k => am_fx y pc ln nx 2 && Nat.beq k a && Nat.blt a (am_ml y)
    | .iinc k n => am_fx y pc ln nx 3 && Nat.beq k a && Nat.blt a (am_ml y) && decide (Int32.ofInt n = v)
    | .ifCond _ off => am_fx y pc ln nx 3 && am_jp y pc off a
    | .if_icmp _ off => am_fx y pc ln nx 3 && am_jp y pc off a
    | .goto off => Nat.beq ln 3 && am_jp y pc off a && decide ((ts.map fun q => q.2).Nodup)
    | .tableswitch d lo hi offs => am_jp y pc d a && decide (hi + 1 = lo + offs.toList.length) && am_tsok y pc offs.toList lo ts
    | .lookupswitch d ps => am_jp y pc d a && ((ps.toList.zip (ps.toList.drop 1)).all (fun (a, next) => a.1 < next.1)) && am_lsok y pc ps.toList ts
    | .getfield k => am_fx y pc ln nx 3 && match Nat.beq b 3 with
      | true => (Nat.beq a 0 && am_word wi (.fieldLink (am_nm y).cls k "java/lang/String" "value" "[B")) || (Nat.beq a 1 && am_word wi (.fieldLink (am_nm y).cls k "java/lang/String" "coder" "B"))
      | false => Nat.ble 16 b && Nat.ble b 26 && Nat.blt a (am_cT b).2.2 && am_word wi (.fieldLink (am_nm y).cls k (am_cT b).1 ((am_cT b).2.1 a).2.1 ((am_cT b).2.1 a).2.2.1)
    | .putfield k => am_fx y pc ln nx 3 && Nat.ble 16 b && Nat.ble b 26 && Nat.blt a (am_cT b).2.2 && am_word wi (.fieldLink (am_nm y).cls k (am_cT b).1 ((am_cT b).2.1 a).2.1 ((am_cT b).2.1 a).2.2.1) && (!((am_cT b).2.1 a).2.2.2 || (decide ((am_nm y).name = "<init>") && decide (((am_cT b).2.1 a).1 = (am_nm y).cls)))
    | .getstatic k => am_fx y pc ln nx 3 && match Nat.beq b 0 with
      | true => (Nat.beq a 1 && am_word wi (.fieldLink (am_nm y).cls k "GhostTable" "ABOVE" "[I")) || (Nat.beq a 1 && decide ((am_nm y).cls = "GhostTable$Speaker") && Nat.beq k 48) || (Nat.beq a 2 && am_word wi (.fieldLink (am_nm y).cls k "GhostTable$Speaker" "BODIES" "[I")) || (Nat.beq a 5 && am_word wi (.fieldLink (am_nm y).cls k "jdk/internal/util/Preconditions" "SIOOBE_FORMATTER" "Ljava/util/function/BiFunction;"))
      | false => decide (v = 1) && am_word wi (.fieldLink (am_nm y).cls k "java/lang/String" "COMPACT_STRINGS" "Z")
    | .new k => am_fx y pc ln nx 3 && Nat.ble 16 b && Nat.ble b 26 && am_word wi (.classLink (am_nm y).cls k (am_cT b).1)
    | .newarray t => decide (t = .int) && am_fx y pc ln nx 2
    | .anewarray k => am_fx y pc ln nx 3 && Nat.ble 34 b && Nat.ble b 37 && am_word wi (.classLink (am_nm y).cls k (am_en b))
    | .invokestatic k => am_fx y pc ln nx 3 && match Nat.beq a 1000 with
      | true => am_word wi (.methodLink (am_nm y).cls k arraycopyName)
      | false => Nat.blt a 236 && Nat.beq (am_kd a) 0 && Nat.beq b (am_np a) && (am_rt a).isSome == !ts.isEmpty && match decide (v = 1) with
        | true => am_nests.contains ((am_nm y).cls, k, a)
        | false => am_word wi (.methodLink (am_nm y).cls k (am_nm a))
    | .invokevirtual k => am_fx y pc ln nx 3 && Nat.blt a 236 && Nat.beq (am_kd a) 1 && Nat.beq b (am_np a + 1) && (am_rt a).isSome == !ts.isEmpty && am_word wi (.methodLink (am_nm y).cls k (am_nm a))
    | .invokespecial k => am_fx y pc ln nx 3 && match Nat.beq a 2000 with
      | true => am_word wi (.methodLink (am_nm y).cls k Lib.objectInit)
      | false => Nat.blt a 236 && Nat.beq (am_kd a) 2 && Nat.beq b (am_np a + 1) && match decide (v = 1) with
        | true => am_nests.contains ((am_nm y).cls, k, a)
        | false => am_word wi (.methodLink (am_nm y).cls k (am_nm a))
    | .ireturn => Nat.beq ln 1 && decide (am_rt y = some (am_nth [.int, .boolean, .char, .byte] a .int))
    | .areturn => Nat.beq ln 1 && decide (am_rt y = some (.object "GhostTable$Text"))
    | .return_ => Nat.beq ln 1 && decide (am_rt y = none)
    | _ => am_fx y pc ln nx 1
def am_chk (y : Nat) (o : am_O) : Bool := match o.2.2.1 with
  | .nop => true
  | _ => decide (decode (am_by y) o.1 = .ok (o.2.2.1, o.2.1)) && am_chk2 y o
/-- what the tables say of a method -/
def am_mck (y : Nat) : Bool := match am_nth (am_nth am_mw (y / 8) []) (y % 8) [] with
  | _ :: wi :: wk :: r => am_word wi (.initialized (am_nm y).cls) && decide ((parseMethodDescriptor (am_nm y).desc).map (fun d => d.parameters.length) = some (am_np y)) && decide ((am_nm y).cls ≠ "java/lang/invoke/MethodHandle") && decide ((am_nm y).cls ≠ "java/lang/invoke/VarHandle") && plainName (am_nm y).cls && Nat.ble (am_ml y) 12 && Nat.beq (am_mlx y) (am_ml y) && match am_kd y, r with
    | 0, [] => am_word wk (.static (am_nm y))
    | 1, [ws] => am_word wk (.instanceMethod (am_nm y)) && am_word ws (.selects (am_nm y).cls (am_nm y) (am_nm y)) && (decide (am_rcv y = 3 ∧ (am_nm y).cls = "java/lang/String") || (Nat.ble 16 (am_rcv y) && Nat.ble (am_rcv y) 26 && decide ((am_cT (am_rcv y)).1 = (am_nm y).cls)))
    | 2, [] => am_word wk (.instanceMethod (am_nm y)) && decide ((am_nm y).name = "<init>") && decide (am_rt y = none)
    | _, _ => false
  | _ => false
def am_ops (y : Nat) : List am_O := (am_cds y).flatten
def am_okm (y : Nat) : Bool := (am_ops y).all (am_chk y)
