/-! THE ABSTRACT MACHINE: references are (region, instance, index); all numbers of the heap lie in one function of region, instance, index, slot -/
abbrev am_R : Type := Nat × Nat × Nat
abbrev am_V : Type := Int32 ⊕ Int64 ⊕ am_R
abbrev am_B : Type := Nat → Nat → Nat → Nat → Bool
abbrev am_F : Type := Nat → Nat → Nat → Nat → Int32
abbrev am_M : Type := Nat × am_B × am_F
abbrev am_L : Type := List (Nat × am_V)
/-- pc, length, instruction, next, a, b, v, ts, word -/
abbrev am_O : Type := Nat × Nat × ClassFile.Instr × Nat × Nat × Nat × Int32 × List (Int32 × Nat) × Nat
abbrev am_C : Type := List (List am_O)
def am_nth {α : Type} : List α → Nat → α → α
  | [], _, d => d
  | x :: _, 0, _ => x
  | _ :: t, n + 1, d => am_nth t n d
def am_nthO {α : Type} : List α → Nat → Option α
  | [], _ => none
  | x :: _, 0 => some x
  | _ :: t, n + 1 => am_nthO t n
def am_at (c : am_C) (ip : Nat) : Option am_O := am_nthO (am_nth c (ip / 16) []) (ip % 16)
def am_get : am_L → Nat → Option am_V
  | [], _ => none
  | (j, w) :: t, i => match Nat.beq j i with
    | true => some w
    | false => am_get t i
def am_isL : am_V → Bool
  | .inr (.inl _) => true
  | _ => false
def am_set : am_L → Nat → am_V → Option am_L
  | [], i, v => some [(i, v)]
  | (j, w) :: t, i, v => match Nat.beq j i with
    | true => some ((i, v) :: t)
    | false => match Nat.beq (j + 1) i && am_isL w with
      | true => none
      | false => match am_set t i v with
        | some t' => some ((j, w) :: t')
        | none => none
def am_keep (L : am_L) : List (Int32 × Nat) → Option am_L
  | [] => some []
  | (_, i) :: r => match am_get L i with
    | none => none
    | some v => match am_keep L r with
      | none => none
      | some t => some ((i, v) :: t)
def am_args : Nat → List am_V → am_L
  | _, [] => []
  | i, v :: vs => (i, v) :: am_args (if am_isL v = true then i + 2 else i + 1) vs
def am_pop : List am_V → Nat → List am_V → Option (List am_V × List am_V)
  | st, 0, acc => some (acc, st)
  | [], _ + 1, _ => none
  | x :: st, k + 1, acc => am_pop st k (x :: acc)
def am_wds : List am_V → Nat
  | [] => 0
  | .inr (.inl _) :: t => am_wds t + 2
  | _ :: t => am_wds t + 1
def am_up (M : am_F) (r b i s : Nat) (x : Int32) : am_F := fun r' b' i' s' => if r' = r ∧ b' = b ∧ i' = i ∧ s' = s then x else M r' b' i' s'
def am_upB (A : am_B) (r b i s : Nat) : am_B := fun r' b' i' s' => if r' = r ∧ b' = b ∧ i' = i ∧ s' = s then true else A r' b' i' s'
def am_cpy (M : am_F) (r1 b1 i1 r2 b2 i2 sp dp n : Nat) : am_F := fun r b i s => if r = r2 ∧ b = b2 ∧ i = i2 then va_cpy (M r1 b1 i1) (M r2 b2 i2) sp dp n s else M r b i s
def am_all : am_B := fun _ _ _ _ => true
def am_sw (x : Int32) (N : Nat → Prop) (d : Nat) : List (Int32 × Nat) → Prop
  | [] => N d
  | (k, t) :: r => if x = k then N t else am_sw x N d r
def am_nr (a : Nat) (x : Int32) : Prop := match a with
  | 0 => True
  | 1 => x = 0 ∨ x = 1
  | 2 => narrow .char (.int x) = .int x
  | _ => narrow .byte (.int x) = .int x
def am_fl : List (List (Nat × (Nat → Nat → am_R))) := [
  [(2, fun b _ => (34, b, 0)), (0, fun _ _ => (0, 0, 0)), (2, fun b _ => (35, b, 0)), (0, fun _ _ => (0, 0, 0)), (2, fun b _ => (28, b, 0)), (0, fun _ _ => (0, 0, 0)), (2, fun b _ => (29, b, 0)), (0, fun _ _ => (0, 0, 0))],
  [(0, fun _ _ => (0, 0, 0)), (0, fun _ _ => (0, 0, 0)), (0, fun _ _ => (0, 0, 0)), (0, fun _ _ => (0, 0, 0)), (0, fun _ _ => (0, 0, 0))],
  [(0, fun _ _ => (0, 0, 0)), (0, fun _ _ => (0, 0, 0)), (0, fun _ _ => (0, 0, 0)), (0, fun _ _ => (0, 0, 0)), (0, fun _ _ => (0, 0, 0)), (0, fun _ _ => (0, 0, 0)), (0, fun _ _ => (0, 0, 0)), (0, fun _ _ => (0, 0, 0))],
  [(2, fun _ _ => (21, 12, 0)), (2, fun _ _ => (21, 13, 0)), (0, fun _ _ => (0, 0, 0)), (0, fun _ _ => (0, 0, 0)), (1, fun _ _ => (0, 0, 0))],
  [(2, fun b _ => (16, b, 0)), (2, fun b _ => (24, 2 * b, 0)), (2, fun b _ => (24, 2 * b + 1, 0)), (2, fun b _ => (21, 6 * b + 4, 0)), (2, fun b _ => (21, 6 * b + 5, 0)), (0, fun _ _ => (0, 0, 0))],
  [(2, fun b _ => (27, b, 0)), (0, fun _ _ => (0, 0, 0))],
  [(2, fun _ i => (31, 0, i)), (0, fun _ _ => (0, 0, 0)), (0, fun _ _ => (0, 0, 0))],
  [(2, fun _ _ => (21, 14, 0)), (0, fun _ _ => (0, 0, 0)), (0, fun _ _ => (0, 0, 0)), (0, fun _ _ => (0, 0, 0))],
  [(0, fun _ _ => (0, 0, 0)), (2, fun b _ => (3, 0, b % 2)), (0, fun _ _ => (0, 0, 0)), (0, fun _ _ => (0, 0, 0)), (2, fun b _ => (21, 6 * (b / 2) + 2 * (b % 2), 0)), (2, fun b _ => (21, 6 * (b / 2) + 2 * (b % 2) + 1, 0))],
  [(2, fun _ _ => (20, 0, 0)), (2, fun _ _ => (20, 1, 0)), (0, fun _ _ => (0, 0, 0)), (2, fun _ _ => (16, 2, 0)), (2, fun _ _ => (30, 0, 0)), (2, fun _ _ => (19, 0, 0)), (2, fun _ _ => (23, 0, 0)), (2, fun _ _ => (36, 0, 0)), (2, fun _ _ => (32, 0, 0))],
  [(2, fun _ _ => (33, 0, 0)), (2, fun _ _ => (33, 1, 0)), (2, fun _ _ => (33, 2, 0)), (0, fun _ _ => (0, 0, 0)), (2, fun _ _ => (33, 3, 0)), (2, fun _ _ => (37, 0, 0)), (0, fun _ _ => (0, 0, 0)), (0, fun _ _ => (0, 0, 0)), (0, fun _ _ => (0, 0, 0)), (1, fun _ _ => (0, 0, 0)), (2, fun _ _ => (33, 4, 0)), (0, fun _ _ => (0, 0, 0)), (2, fun _ _ => (33, 5, 0)), (2, fun _ _ => (33, 6, 0)), (2, fun _ _ => (33, 7, 0)), (2, fun _ _ => (33, 8, 0)), (0, fun _ _ => (0, 0, 0)), (0, fun _ _ => (0, 0, 0)), (2, fun _ _ => (33, 9, 0)), (2, fun _ _ => (33, 10, 0)), (2, fun _ _ => (33, 11, 0)), (2, fun _ _ => (33, 12, 0))]]
def am_st : List (List Nat × Nat) := [([2, 38, 73], 1), ([13, 49, 84], 1), ([4, 40, 75], 1), ([95], 1), ([1, 37], 1), ([24, 26, 29, 31, 33, 35, 60, 62, 65, 67, 69, 71, 96, 98, 101], 1), ([104], 2), ([100], 1), ([23, 28, 59, 64], 1), ([0], 1), ([113], 1), ([25, 27, 30, 32, 34, 36, 61, 63, 66, 68, 70, 72, 97, 99, 102], 1), ([21, 57, 92], 1), ([22, 58, 93], 1), ([94], 1), ([105], 2), ([112], 1), ([114, 115, 116, 117, 119, 120, 121, 122, 123, 124, 125, 126, 127], 1), ([3, 39, 74], 1), ([12, 48, 83], 1), ([103], 1), ([118], 1)]
def am_cells : List (am_R × Nat) := [((25, 0, 0), 9), ((20, 0, 0), 6), ((16, 0, 0), 8), ((34, 0, 0), 8), ((18, 0, 0), 8), ((18, 0, 1), 8), ((18, 0, 2), 8), ((18, 0, 3), 8), ((18, 0, 4), 8), ((18, 0, 5), 8), ((18, 0, 6), 8), ((18, 0, 7), 8), ((35, 0, 0), 8), ((17, 0, 0), 5), ((17, 0, 1), 5), ((17, 0, 2), 5), ((17, 0, 3), 5), ((17, 0, 4), 5), ((17, 0, 5), 5), ((17, 0, 6), 5), ((17, 0, 7), 5), ((28, 0, 0), 4), ((29, 0, 0), 8), ((24, 0, 0), 6), ((21, 0, 0), 2), ((27, 0, 0), 50), ((21, 1, 0), 2), ((27, 1, 0), 50), ((24, 1, 0), 6), ((21, 2, 0), 2), ((27, 2, 0), 50), ((21, 3, 0), 2), ((27, 3, 0), 50), ((21, 4, 0), 2), ((27, 4, 0), 50), ((21, 5, 0), 2), ((27, 5, 0), 20), ((20, 1, 0), 6), ((16, 1, 0), 8), ((34, 1, 0), 8), ((18, 1, 0), 8), ((18, 1, 1), 8), ((18, 1, 2), 8), ((18, 1, 3), 8), ((18, 1, 4), 8), ((18, 1, 5), 8), ((18, 1, 6), 8), ((18, 1, 7), 8), ((35, 1, 0), 8), ((17, 1, 0), 5), ((17, 1, 1), 5), ((17, 1, 2), 5), ((17, 1, 3), 5), ((17, 1, 4), 5), ((17, 1, 5), 5), ((17, 1, 6), 5), ((17, 1, 7), 5), ((28, 1, 0), 4), ((29, 1, 0), 8), ((24, 2, 0), 6), ((21, 6, 0), 2), ((27, 6, 0), 50), ((21, 7, 0), 2), ((27, 7, 0), 50), ((24, 3, 0), 6), ((21, 8, 0), 2), ((27, 8, 0), 50), ((21, 9, 0), 2), ((27, 9, 0), 50), ((21, 10, 0), 2), ((27, 10, 0), 50), ((21, 11, 0), 2), ((27, 11, 0), 20), ((16, 2, 0), 8), ((34, 2, 0), 8), ((18, 2, 0), 8), ((18, 2, 1), 8), ((18, 2, 2), 8), ((18, 2, 3), 8), ((18, 2, 4), 8), ((18, 2, 5), 8), ((18, 2, 6), 8), ((18, 2, 7), 8), ((35, 2, 0), 8), ((17, 2, 0), 5), ((17, 2, 1), 5), ((17, 2, 2), 5), ((17, 2, 3), 5), ((17, 2, 4), 5), ((17, 2, 5), 5), ((17, 2, 6), 5), ((17, 2, 7), 5), ((28, 2, 0), 4), ((29, 2, 0), 8), ((30, 0, 0), 96), ((19, 0, 0), 5), ((21, 12, 0), 2), ((27, 12, 0), 50), ((21, 13, 0), 2), ((27, 13, 0), 50), ((23, 0, 0), 4), ((21, 14, 0), 2), ((27, 14, 0), 40), ((36, 0, 0), 4), ((22, 0, 0), 3), ((31, 0, 0), 40), ((22, 0, 1), 3), ((31, 0, 1), 40), ((22, 0, 2), 3), ((31, 0, 2), 40), ((22, 0, 3), 3), ((31, 0, 3), 40), ((32, 0, 0), 6), ((26, 0, 0), 22), ((33, 0, 0), 288), ((33, 1, 0), 288), ((33, 2, 0), 288), ((33, 3, 0), 6), ((37, 0, 0), 2), ((33, 4, 0), 60), ((33, 5, 0), 4), ((33, 6, 0), 60), ((33, 7, 0), 8), ((33, 8, 0), 40), ((33, 9, 0), 4), ((33, 10, 0), 4), ((33, 11, 0), 160), ((33, 12, 0), 40)]
def am_lens : List (Nat → Nat) := [fun b => am_nth [50, 50, 50, 50, 50, 20, 50, 50, 50, 50, 50, 20, 50, 50, 40] b 0, fun _ => 4, fun _ => 8, fun _ => 96, fun _ => 40, fun _ => 6, fun b => am_nth [288, 288, 288, 6, 60, 4, 60, 8, 40, 4, 4, 160, 40] b 0, fun _ => 8, fun _ => 8, fun _ => 4, fun _ => 2]
def am_rcv (a : Nat) : Nat := am_nth (am_nth [[16, 16, 16, 16, 16, 16, 16, 16, 16, 16, 16, 16, 16, 16, 16, 16], [16, 16, 16, 17, 17, 17, 17, 18, 18, 18, 18, 18, 18, 18, 18, 18], [19, 19, 19, 19, 19, 19, 19, 19, 19, 19, 19, 19, 20, 20, 20, 20], [20, 21, 21, 21, 21, 21, 21, 21, 22, 22, 22, 22, 22, 23, 23, 23], [23, 23, 24, 24, 24, 24, 24, 24, 24, 25, 25, 25, 25, 25, 25, 25], [25, 25, 25, 25, 25, 25, 25, 25, 25, 25, 25, 25, 25, 25, 25, 25], [25, 25, 25, 25, 25, 25, 25, 25, 25, 25, 25, 25, 25, 25, 25, 25], [25, 25, 25, 25, 25, 25, 25, 25, 25, 25, 25, 25, 25, 25, 25, 25], [25, 25, 25, 25, 25, 25, 26, 26, 26, 26, 26, 26, 26, 26, 26, 26], [26, 26, 26, 26, 26, 26, 26, 26, 26, 26, 26, 26, 26, 26, 26, 26], [26, 26, 26, 26, 26, 26, 26, 26, 26, 26, 26, 26, 26, 26, 26, 26], [26, 26, 26, 26, 26, 26, 26, 26, 26, 26, 26, 26, 26, 26, 26, 26], [26, 26, 26, 26, 26, 26, 26, 26, 26, 26, 26, 26, 26, 26, 26, 26], [26, 26, 26, 26, 26, 26, 26, 26, 26, 26, 26, 26, 26, 26, 0, 0], [3, 3, 3, 3, 3, 3, 3, 0, 0, 0, 0, 0, 0]] (a / 16) []) (a % 16) 0
def am_mlx (a : Nat) : Nat := am_nth (am_nth [[2, 5, 5, 3, 5, 5, 5, 6, 5, 5, 3, 4, 3, 3, 3, 5], [5, 5, 3, 1, 2, 1, 2, 1, 2, 3, 4, 3, 5, 3, 1, 2], [1, 5, 7, 2, 3, 5, 2, 3, 1, 3, 1, 1, 1, 2, 3, 1], [2, 2, 2, 2, 1, 1, 1, 3, 1, 1, 4, 4, 3, 1, 6, 8], [5, 2, 5, 2, 6, 3, 9, 5, 3, 2, 4, 3, 4, 5, 4, 3], [5, 3, 6, 5, 5, 2, 3, 5, 4, 6, 4, 4, 4, 3, 2, 5], [7, 5, 4, 4, 3, 5, 2, 4, 5, 8, 8, 1, 1, 2, 3, 2], [2, 3, 3, 1, 1, 1, 1, 1, 2, 2, 4, 1, 4, 2, 3, 4], [6, 6, 6, 7, 3, 3, 1, 2, 3, 3, 3, 3, 4, 2, 3, 3], [1, 7, 3, 3, 6, 3, 1, 4, 9, 3, 6, 3, 6, 4, 3, 5], [3, 5, 2, 5, 5, 1, 3, 2, 1, 1, 2, 2, 2, 4, 4, 3], [3, 5, 2, 6, 6, 3, 5, 2, 3, 7, 5, 3, 2, 2, 1, 4], [3, 3, 2, 4, 9, 7, 6, 6, 3, 4, 10, 2, 2, 2, 3, 5], [7, 4, 2, 1, 5, 4, 7, 5, 1, 1, 2, 5, 4, 2, 2, 2], [1, 2, 2, 3, 1, 1, 2, 2, 1, 4, 6, 3, 4]] (a / 16) []) (a % 16) 0
def am_fk (ci k : Nat) : Nat × (Nat → Nat → am_R) := am_nth (am_nth am_fl ci []) k (9, fun _ _ => (0, 0, 0))
def am_ad (r b i : Nat) : Nat := am_nth (am_nth am_st (r - 16) ([], 0)).1 b 999 + (am_nth am_st (r - 16) ([], 0)).2 * i
def am_dec (k : Nat) : am_R × Nat := am_nth am_cells k ((0, 0, 0), 0)
def am_ln (r b : Nat) : Nat := am_nth am_lens (r - 27) (fun _ => 0) b
def am_t1 : Nat → Int32 := fun s => am_nth [-1, 0, 0, 0, 1, 2, 3] s 0
def am_t2 : Nat → Int32 := fun s => am_nth [10, 11, 12, 13, 0, 20, 0, 0, 30, 0, 0, 0, 0, 0, 40, 0, 0, 50, 0, 0, 0, 0, 0, 60, 0, 0, 70, 71] s 0
def am_bl (i : Nat) : Nat := am_nth [4, 3] i 0
def am_bt (i : Nat) : Nat → Int32 := fun s => am_nth (am_nth [[104, 115, 114, 107], [112, 104, 117]] i []) s 0
/-- an array of ints: its length and contents -/
def am_rd (M : am_F) (r b i : Nat) : Option (Nat × (Nat → Int32)) := match r with
  | 0 => some ((M 0 0 1 0).toNatClampNeg, M 0 0 0)
  | 1 => some (7, am_t1)
  | 2 => some (28, am_t2)
  | _ => match Nat.ble 27 r && Nat.ble r 33 with
    | true => some (am_ln r b, M r b i)
    | false => none
def am_len (M : am_F) (r b i : Nat) : Option Nat := match r with
  | 4 => some (am_bl i)
  | _ => match Nat.ble 34 r && Nat.ble r 37 with
    | true => some (am_ln r b)
    | false => match am_rd M r b i with
      | some (n, _) => some n
      | none => none
/-- the region of an array's elements -/
def am_el (r : Nat) : Nat := am_nth [18, 17, 22, 3] (r - 34) 0
def am_zi (M : am_F) (r b i n : Nat) : Bool := (List.range n).all fun s => M r b i s == 0
def am_zb (A : am_B) (r b i n : Nat) : Bool := (List.range n).all fun s => A r b i s == false
def am_s_iconst (Cl : Nat → List am_V → am_M → Option am_V → am_M → Prop) (nx a b : Nat) (v : Int32) (ts : List (Int32 × Nat)) (L : am_L) (st : List am_V) (me : am_M) (N : Nat → am_L → List am_V → am_M → Prop) (Q : Option am_V → am_M → Prop) : Prop := N nx L (.inl v :: st) me
def am_s_bipush (Cl : Nat → List am_V → am_M → Option am_V → am_M → Prop) (nx a b : Nat) (v : Int32) (ts : List (Int32 × Nat)) (L : am_L) (st : List am_V) (me : am_M) (N : Nat → am_L → List am_V → am_M → Prop) (Q : Option am_V → am_M → Prop) : Prop := N nx L (.inl v :: st) me
def am_s_sipush (Cl : Nat → List am_V → am_M → Option am_V → am_M → Prop) (nx a b : Nat) (v : Int32) (ts : List (Int32 × Nat)) (L : am_L) (st : List am_V) (me : am_M) (N : Nat → am_L → List am_V → am_M → Prop) (Q : Option am_V → am_M → Prop) : Prop := N nx L (.inl v :: st) me
def am_s_ldc (Cl : Nat → List am_V → am_M → Option am_V → am_M → Prop) (nx a b : Nat) (v : Int32) (ts : List (Int32 × Nat)) (L : am_L) (st : List am_V) (me : am_M) (N : Nat → am_L → List am_V → am_M → Prop) (Q : Option am_V → am_M → Prop) : Prop := match ts with
  | [] => N nx L (.inl v :: st) me
  | _ :: _ => N nx L (.inr (.inr (3, 0, a)) :: st) me
def am_s_ldc_w (Cl : Nat → List am_V → am_M → Option am_V → am_M → Prop) (nx a b : Nat) (v : Int32) (ts : List (Int32 × Nat)) (L : am_L) (st : List am_V) (me : am_M) (N : Nat → am_L → List am_V → am_M → Prop) (Q : Option am_V → am_M → Prop) : Prop := N nx L (.inl v :: st) me
def am_s_ldc2_w (Cl : Nat → List am_V → am_M → Option am_V → am_M → Prop) (nx a b : Nat) (v : Int32) (ts : List (Int32 × Nat)) (L : am_L) (st : List am_V) (me : am_M) (N : Nat → am_L → List am_V → am_M → Prop) (Q : Option am_V → am_M → Prop) : Prop := N nx L (.inr (.inl (Int64.ofNat a)) :: st) me
def am_s_iload_n (Cl : Nat → List am_V → am_M → Option am_V → am_M → Prop) (nx a b : Nat) (v : Int32) (ts : List (Int32 × Nat)) (L : am_L) (st : List am_V) (me : am_M) (N : Nat → am_L → List am_V → am_M → Prop) (Q : Option am_V → am_M → Prop) : Prop := match am_get L a with
  | some (.inl x) => N nx L (.inl x :: st) me
  | _ => False
def am_s_iload (Cl : Nat → List am_V → am_M → Option am_V → am_M → Prop) (nx a b : Nat) (v : Int32) (ts : List (Int32 × Nat)) (L : am_L) (st : List am_V) (me : am_M) (N : Nat → am_L → List am_V → am_M → Prop) (Q : Option am_V → am_M → Prop) : Prop := match am_get L a with
  | some (.inl x) => N nx L (.inl x :: st) me
  | _ => False
def am_s_lload_n (Cl : Nat → List am_V → am_M → Option am_V → am_M → Prop) (nx a b : Nat) (v : Int32) (ts : List (Int32 × Nat)) (L : am_L) (st : List am_V) (me : am_M) (N : Nat → am_L → List am_V → am_M → Prop) (Q : Option am_V → am_M → Prop) : Prop := match am_get L a with
  | some (.inr (.inl x)) => N nx L (.inr (.inl x) :: st) me
  | _ => False
def am_s_aload_n (Cl : Nat → List am_V → am_M → Option am_V → am_M → Prop) (nx a b : Nat) (v : Int32) (ts : List (Int32 × Nat)) (L : am_L) (st : List am_V) (me : am_M) (N : Nat → am_L → List am_V → am_M → Prop) (Q : Option am_V → am_M → Prop) : Prop := match am_get L a with
  | some (.inr (.inr (r, q))) => match Nat.beq r 5 with
    | true => False
    | false => N nx L (.inr (.inr (r, q)) :: st) me
  | _ => False
def am_s_aload (Cl : Nat → List am_V → am_M → Option am_V → am_M → Prop) (nx a b : Nat) (v : Int32) (ts : List (Int32 × Nat)) (L : am_L) (st : List am_V) (me : am_M) (N : Nat → am_L → List am_V → am_M → Prop) (Q : Option am_V → am_M → Prop) : Prop := match am_get L a with
  | some (.inr (.inr (r, q))) => match Nat.beq r 5 with
    | true => False
    | false => N nx L (.inr (.inr (r, q)) :: st) me
  | _ => False
def am_s_istore_n (Cl : Nat → List am_V → am_M → Option am_V → am_M → Prop) (nx a b : Nat) (v : Int32) (ts : List (Int32 × Nat)) (L : am_L) (st : List am_V) (me : am_M) (N : Nat → am_L → List am_V → am_M → Prop) (Q : Option am_V → am_M → Prop) : Prop := match st with
  | .inl x :: st' => match am_set L a (.inl x) with
    | some L' => N nx L' st' me
    | none => False
  | _ => False
def am_s_istore (Cl : Nat → List am_V → am_M → Option am_V → am_M → Prop) (nx a b : Nat) (v : Int32) (ts : List (Int32 × Nat)) (L : am_L) (st : List am_V) (me : am_M) (N : Nat → am_L → List am_V → am_M → Prop) (Q : Option am_V → am_M → Prop) : Prop := match st with
  | .inl x :: st' => match am_set L a (.inl x) with
    | some L' => N nx L' st' me
    | none => False
  | _ => False
def am_s_astore_n (Cl : Nat → List am_V → am_M → Option am_V → am_M → Prop) (nx a b : Nat) (v : Int32) (ts : List (Int32 × Nat)) (L : am_L) (st : List am_V) (me : am_M) (N : Nat → am_L → List am_V → am_M → Prop) (Q : Option am_V → am_M → Prop) : Prop := match st with
  | .inr (.inr (r, q)) :: st' => match Nat.beq r 5 with
    | true => False
    | false => match am_set L a (.inr (.inr (r, q))) with
      | some L' => N nx L' st' me
      | none => False
  | _ => False
def am_s_astore (Cl : Nat → List am_V → am_M → Option am_V → am_M → Prop) (nx a b : Nat) (v : Int32) (ts : List (Int32 × Nat)) (L : am_L) (st : List am_V) (me : am_M) (N : Nat → am_L → List am_V → am_M → Prop) (Q : Option am_V → am_M → Prop) : Prop := match st with
  | .inr (.inr (r, q)) :: st' => match Nat.beq r 5 with
    | true => False
    | false => match am_set L a (.inr (.inr (r, q))) with
      | some L' => N nx L' st' me
      | none => False
  | _ => False
def am_s_iinc (Cl : Nat → List am_V → am_M → Option am_V → am_M → Prop) (nx a b : Nat) (v : Int32) (ts : List (Int32 × Nat)) (L : am_L) (st : List am_V) (me : am_M) (N : Nat → am_L → List am_V → am_M → Prop) (Q : Option am_V → am_M → Prop) : Prop := match am_get L a with
  | some (.inl x) => match am_set L a (.inl (x + v)) with
    | some L' => N nx L' st me
    | none => False
  | _ => False
def am_s_iadd (Cl : Nat → List am_V → am_M → Option am_V → am_M → Prop) (nx a b : Nat) (v : Int32) (ts : List (Int32 × Nat)) (L : am_L) (st : List am_V) (me : am_M) (N : Nat → am_L → List am_V → am_M → Prop) (Q : Option am_V → am_M → Prop) : Prop := match st with
  | .inl y :: .inl x :: st' => N nx L (.inl (x + y) :: st') me
  | _ => False
def am_s_isub (Cl : Nat → List am_V → am_M → Option am_V → am_M → Prop) (nx a b : Nat) (v : Int32) (ts : List (Int32 × Nat)) (L : am_L) (st : List am_V) (me : am_M) (N : Nat → am_L → List am_V → am_M → Prop) (Q : Option am_V → am_M → Prop) : Prop := match st with
  | .inl y :: .inl x :: st' => N nx L (.inl (x - y) :: st') me
  | _ => False
def am_s_imul (Cl : Nat → List am_V → am_M → Option am_V → am_M → Prop) (nx a b : Nat) (v : Int32) (ts : List (Int32 × Nat)) (L : am_L) (st : List am_V) (me : am_M) (N : Nat → am_L → List am_V → am_M → Prop) (Q : Option am_V → am_M → Prop) : Prop := match st with
  | .inl y :: .inl x :: st' => N nx L (.inl (x * y) :: st') me
  | _ => False
def am_s_idiv (Cl : Nat → List am_V → am_M → Option am_V → am_M → Prop) (nx a b : Nat) (v : Int32) (ts : List (Int32 × Nat)) (L : am_L) (st : List am_V) (me : am_M) (N : Nat → am_L → List am_V → am_M → Prop) (Q : Option am_V → am_M → Prop) : Prop := match st with
  | .inl y :: .inl x :: st' => ¬ y = 0 ∧ N nx L (.inl (x / y) :: st') me
  | _ => False
def am_s_irem (Cl : Nat → List am_V → am_M → Option am_V → am_M → Prop) (nx a b : Nat) (v : Int32) (ts : List (Int32 × Nat)) (L : am_L) (st : List am_V) (me : am_M) (N : Nat → am_L → List am_V → am_M → Prop) (Q : Option am_V → am_M → Prop) : Prop := match st with
  | .inl y :: .inl x :: st' => ¬ y = 0 ∧ N nx L (.inl (x - x / y * y) :: st') me
  | _ => False
def am_s_ineg (Cl : Nat → List am_V → am_M → Option am_V → am_M → Prop) (nx a b : Nat) (v : Int32) (ts : List (Int32 × Nat)) (L : am_L) (st : List am_V) (me : am_M) (N : Nat → am_L → List am_V → am_M → Prop) (Q : Option am_V → am_M → Prop) : Prop := match st with
  | .inl x :: st' => N nx L (.inl (-x) :: st') me
  | _ => False
def am_s_iand (Cl : Nat → List am_V → am_M → Option am_V → am_M → Prop) (nx a b : Nat) (v : Int32) (ts : List (Int32 × Nat)) (L : am_L) (st : List am_V) (me : am_M) (N : Nat → am_L → List am_V → am_M → Prop) (Q : Option am_V → am_M → Prop) : Prop := match st with
  | .inl y :: .inl x :: st' => N nx L (.inl (x &&& y) :: st') me
  | _ => False
def am_s_ior (Cl : Nat → List am_V → am_M → Option am_V → am_M → Prop) (nx a b : Nat) (v : Int32) (ts : List (Int32 × Nat)) (L : am_L) (st : List am_V) (me : am_M) (N : Nat → am_L → List am_V → am_M → Prop) (Q : Option am_V → am_M → Prop) : Prop := match st with
  | .inl y :: .inl x :: st' => N nx L (.inl (x ||| y) :: st') me
  | _ => False
def am_s_ixor (Cl : Nat → List am_V → am_M → Option am_V → am_M → Prop) (nx a b : Nat) (v : Int32) (ts : List (Int32 × Nat)) (L : am_L) (st : List am_V) (me : am_M) (N : Nat → am_L → List am_V → am_M → Prop) (Q : Option am_V → am_M → Prop) : Prop := match st with
  | .inl y :: .inl x :: st' => N nx L (.inl (x ^^^ y) :: st') me
  | _ => False
def am_s_ishl (Cl : Nat → List am_V → am_M → Option am_V → am_M → Prop) (nx a b : Nat) (v : Int32) (ts : List (Int32 × Nat)) (L : am_L) (st : List am_V) (me : am_M) (N : Nat → am_L → List am_V → am_M → Prop) (Q : Option am_V → am_M → Prop) : Prop := match st with
  | .inl y :: .inl x :: st' => N nx L (.inl (x <<< (y &&& 31)) :: st') me
  | _ => False
def am_s_ishr (Cl : Nat → List am_V → am_M → Option am_V → am_M → Prop) (nx a b : Nat) (v : Int32) (ts : List (Int32 × Nat)) (L : am_L) (st : List am_V) (me : am_M) (N : Nat → am_L → List am_V → am_M → Prop) (Q : Option am_V → am_M → Prop) : Prop := match st with
  | .inl y :: .inl x :: st' => N nx L (.inl (x >>> (y &&& 31)) :: st') me
  | _ => False
def am_s_iushr (Cl : Nat → List am_V → am_M → Option am_V → am_M → Prop) (nx a b : Nat) (v : Int32) (ts : List (Int32 × Nat)) (L : am_L) (st : List am_V) (me : am_M) (N : Nat → am_L → List am_V → am_M → Prop) (Q : Option am_V → am_M → Prop) : Prop := match st with
  | .inl y :: .inl x :: st' => N nx L (.inl (x.toUInt32 >>> (y.toUInt32 &&& Int32.toUInt32 31)).toInt32 :: st') me
  | _ => False
def am_s_i2l (Cl : Nat → List am_V → am_M → Option am_V → am_M → Prop) (nx a b : Nat) (v : Int32) (ts : List (Int32 × Nat)) (L : am_L) (st : List am_V) (me : am_M) (N : Nat → am_L → List am_V → am_M → Prop) (Q : Option am_V → am_M → Prop) : Prop := match st with
  | .inl x :: st' => N nx L (.inr (.inl x.toInt64) :: st') me
  | _ => False
def am_s_l2i (Cl : Nat → List am_V → am_M → Option am_V → am_M → Prop) (nx a b : Nat) (v : Int32) (ts : List (Int32 × Nat)) (L : am_L) (st : List am_V) (me : am_M) (N : Nat → am_L → List am_V → am_M → Prop) (Q : Option am_V → am_M → Prop) : Prop := match st with
  | .inr (.inl x) :: st' => N nx L (.inl x.toInt32 :: st') me
  | _ => False
def am_s_i2b (Cl : Nat → List am_V → am_M → Option am_V → am_M → Prop) (nx a b : Nat) (v : Int32) (ts : List (Int32 × Nat)) (L : am_L) (st : List am_V) (me : am_M) (N : Nat → am_L → List am_V → am_M → Prop) (Q : Option am_V → am_M → Prop) : Prop := match st with
  | .inl x :: st' => N nx L (.inl x.toInt8.toInt32 :: st') me
  | _ => False
def am_s_i2s (Cl : Nat → List am_V → am_M → Option am_V → am_M → Prop) (nx a b : Nat) (v : Int32) (ts : List (Int32 × Nat)) (L : am_L) (st : List am_V) (me : am_M) (N : Nat → am_L → List am_V → am_M → Prop) (Q : Option am_V → am_M → Prop) : Prop := match st with
  | .inl x :: st' => N nx L (.inl x.toInt16.toInt32 :: st') me
  | _ => False
def am_s_i2c (Cl : Nat → List am_V → am_M → Option am_V → am_M → Prop) (nx a b : Nat) (v : Int32) (ts : List (Int32 × Nat)) (L : am_L) (st : List am_V) (me : am_M) (N : Nat → am_L → List am_V → am_M → Prop) (Q : Option am_V → am_M → Prop) : Prop := match st with
  | .inl x :: st' => N nx L (.inl (x.toUInt32 % 65536).toInt32 :: st') me
  | _ => False
def am_s_ladd (Cl : Nat → List am_V → am_M → Option am_V → am_M → Prop) (nx a b : Nat) (v : Int32) (ts : List (Int32 × Nat)) (L : am_L) (st : List am_V) (me : am_M) (N : Nat → am_L → List am_V → am_M → Prop) (Q : Option am_V → am_M → Prop) : Prop := match st with
  | .inr (.inl y) :: .inr (.inl x) :: st' => N nx L (.inr (.inl (x + y)) :: st') me
  | _ => False
def am_s_land (Cl : Nat → List am_V → am_M → Option am_V → am_M → Prop) (nx a b : Nat) (v : Int32) (ts : List (Int32 × Nat)) (L : am_L) (st : List am_V) (me : am_M) (N : Nat → am_L → List am_V → am_M → Prop) (Q : Option am_V → am_M → Prop) : Prop := match st with
  | .inr (.inl y) :: .inr (.inl x) :: st' => N nx L (.inr (.inl (x &&& y)) :: st') me
  | _ => False
def am_s_lor (Cl : Nat → List am_V → am_M → Option am_V → am_M → Prop) (nx a b : Nat) (v : Int32) (ts : List (Int32 × Nat)) (L : am_L) (st : List am_V) (me : am_M) (N : Nat → am_L → List am_V → am_M → Prop) (Q : Option am_V → am_M → Prop) : Prop := match st with
  | .inr (.inl y) :: .inr (.inl x) :: st' => N nx L (.inr (.inl (x ||| y)) :: st') me
  | _ => False
def am_s_lshl (Cl : Nat → List am_V → am_M → Option am_V → am_M → Prop) (nx a b : Nat) (v : Int32) (ts : List (Int32 × Nat)) (L : am_L) (st : List am_V) (me : am_M) (N : Nat → am_L → List am_V → am_M → Prop) (Q : Option am_V → am_M → Prop) : Prop := match st with
  | .inl y :: .inr (.inl x) :: st' => N nx L (.inr (.inl (x <<< (y.toInt64 &&& 63))) :: st') me
  | _ => False
def am_s_lshr (Cl : Nat → List am_V → am_M → Option am_V → am_M → Prop) (nx a b : Nat) (v : Int32) (ts : List (Int32 × Nat)) (L : am_L) (st : List am_V) (me : am_M) (N : Nat → am_L → List am_V → am_M → Prop) (Q : Option am_V → am_M → Prop) : Prop := match st with
  | .inl y :: .inr (.inl x) :: st' => N nx L (.inr (.inl (x >>> (y.toInt64 &&& 63))) :: st') me
  | _ => False
def am_s_lushr (Cl : Nat → List am_V → am_M → Option am_V → am_M → Prop) (nx a b : Nat) (v : Int32) (ts : List (Int32 × Nat)) (L : am_L) (st : List am_V) (me : am_M) (N : Nat → am_L → List am_V → am_M → Prop) (Q : Option am_V → am_M → Prop) : Prop := match st with
  | .inl y :: .inr (.inl x) :: st' => N nx L (.inr (.inl (x.toUInt64 >>> (y.toInt64.toUInt64 &&& Int64.toUInt64 63)).toInt64) :: st') me
  | _ => False
def am_s_lcmp (Cl : Nat → List am_V → am_M → Option am_V → am_M → Prop) (nx a b : Nat) (v : Int32) (ts : List (Int32 × Nat)) (L : am_L) (st : List am_V) (me : am_M) (N : Nat → am_L → List am_V → am_M → Prop) (Q : Option am_V → am_M → Prop) : Prop := match st with
  | .inr (.inl y) :: .inr (.inl x) :: st' => N nx L (.inl (lg_cmp x y) :: st') me
  | _ => False
def am_s_dup (Cl : Nat → List am_V → am_M → Option am_V → am_M → Prop) (nx a b : Nat) (v : Int32) (ts : List (Int32 × Nat)) (L : am_L) (st : List am_V) (me : am_M) (N : Nat → am_L → List am_V → am_M → Prop) (Q : Option am_V → am_M → Prop) : Prop := match st with
  | .inl x :: st' => N nx L (.inl x :: .inl x :: st') me
  | .inr (.inr q) :: st' => N nx L (.inr (.inr q) :: .inr (.inr q) :: st') me
  | _ => False
def am_s_dup2 (Cl : Nat → List am_V → am_M → Option am_V → am_M → Prop) (nx a b : Nat) (v : Int32) (ts : List (Int32 × Nat)) (L : am_L) (st : List am_V) (me : am_M) (N : Nat → am_L → List am_V → am_M → Prop) (Q : Option am_V → am_M → Prop) : Prop := match st with
  | .inl y :: .inr (.inr q) :: st' => N nx L (.inl y :: .inr (.inr q) :: .inl y :: .inr (.inr q) :: st') me
  | _ => False
def am_s_pop (Cl : Nat → List am_V → am_M → Option am_V → am_M → Prop) (nx a b : Nat) (v : Int32) (ts : List (Int32 × Nat)) (L : am_L) (st : List am_V) (me : am_M) (N : Nat → am_L → List am_V → am_M → Prop) (Q : Option am_V → am_M → Prop) : Prop := match st with
  | .inl _ :: st' => N nx L st' me
  | _ => False
def am_s_ifCond (Cl : Nat → List am_V → am_M → Option am_V → am_M → Prop) (nx a b : Nat) (v : Int32) (ts : List (Int32 × Nat)) (L : am_L) (st : List am_V) (me : am_M) (N : Nat → am_L → List am_V → am_M → Prop) (Q : Option am_V → am_M → Prop) (cn : ClassFile.Cond) : Prop := match st with
  | .inl x :: st' => match cn with
    | .eq => if x = 0 then N a L st' me else N nx L st' me
    | .ne => if x ≠ 0 then N a L st' me else N nx L st' me
    | .lt => if x < 0 then N a L st' me else N nx L st' me
    | .ge => if 0 ≤ x then N a L st' me else N nx L st' me
    | .gt => if 0 < x then N a L st' me else N nx L st' me
    | .le => if x ≤ 0 then N a L st' me else N nx L st' me
  | _ => False
def am_s_if_icmp (Cl : Nat → List am_V → am_M → Option am_V → am_M → Prop) (nx a b : Nat) (v : Int32) (ts : List (Int32 × Nat)) (L : am_L) (st : List am_V) (me : am_M) (N : Nat → am_L → List am_V → am_M → Prop) (Q : Option am_V → am_M → Prop) (cn : ClassFile.Cond) : Prop := match st with
  | .inl y :: .inl x :: st' => match cn with
    | .eq => if x = y then N a L st' me else N nx L st' me
    | .ne => if x ≠ y then N a L st' me else N nx L st' me
    | .lt => if x < y then N a L st' me else N nx L st' me
    | .ge => if y ≤ x then N a L st' me else N nx L st' me
    | .gt => if y < x then N a L st' me else N nx L st' me
    | .le => if x ≤ y then N a L st' me else N nx L st' me
  | _ => False
def am_s_goto (Cl : Nat → List am_V → am_M → Option am_V → am_M → Prop) (nx a b : Nat) (v : Int32) (ts : List (Int32 × Nat)) (L : am_L) (st : List am_V) (me : am_M) (N : Nat → am_L → List am_V → am_M → Prop) (Q : Option am_V → am_M → Prop) : Prop := match ts with
  | [] => N a L st me
  | _ :: _ => match am_keep L ts with
    | some L' => N a L' st me
    | none => False
def am_s_tableswitch (Cl : Nat → List am_V → am_M → Option am_V → am_M → Prop) (nx a b : Nat) (v : Int32) (ts : List (Int32 × Nat)) (L : am_L) (st : List am_V) (me : am_M) (N : Nat → am_L → List am_V → am_M → Prop) (Q : Option am_V → am_M → Prop) : Prop := match st with
  | .inl x :: st' => am_sw x (fun t => N t L st' me) a ts
  | _ => False
def am_s_lookupswitch (Cl : Nat → List am_V → am_M → Option am_V → am_M → Prop) (nx a b : Nat) (v : Int32) (ts : List (Int32 × Nat)) (L : am_L) (st : List am_V) (me : am_M) (N : Nat → am_L → List am_V → am_M → Prop) (Q : Option am_V → am_M → Prop) : Prop := match st with
  | .inl x :: st' => am_sw x (fun t => N t L st' me) a ts
  | _ => False
def am_s_getfield (Cl : Nat → List am_V → am_M → Option am_V → am_M → Prop) (nx a b : Nat) (v : Int32) (ts : List (Int32 × Nat)) (L : am_L) (st : List am_V) (me : am_M) (N : Nat → am_L → List am_V → am_M → Prop) (Q : Option am_V → am_M → Prop) : Prop := match st with
  | .inr (.inr (r, bb, i)) :: st' => match Nat.beq r b with
    | true => match b with
      | 3 => match a with
        | 0 => N nx L (.inr (.inr (4, 0, i)) :: st') me
        | _ => N nx L (.inl 0 :: st') me
      | _ => match am_fk (b - 16) a with
        | (2, f) => match me.2.1 r bb i a with
          | true => match f bb i with
            | (r', b', i') => N nx L (.inr (.inr (r', b', i')) :: st') me
          | false => False
        | _ => N nx L (.inl (me.2.2 r bb i a) :: st') me
    | false => False
  | _ => False
def am_s_putfield (Cl : Nat → List am_V → am_M → Option am_V → am_M → Prop) (nx a b : Nat) (v : Int32) (ts : List (Int32 × Nat)) (L : am_L) (st : List am_V) (me : am_M) (N : Nat → am_L → List am_V → am_M → Prop) (Q : Option am_V → am_M → Prop) : Prop := match st with
  | w :: .inr (.inr (r, bb, i)) :: st' => match Nat.beq r b with
    | true => match am_fk (b - 16) a, w with
      | (0, _), .inl x => N nx L st' (me.1, me.2.1, am_up me.2.2 r bb i a x)
      | (1, _), .inl x => (x = 0 ∨ x = 1) ∧ N nx L st' (me.1, me.2.1, am_up me.2.2 r bb i a x)
      | (2, f), .inr (.inr q) => q = f bb i ∧ N nx L st' (me.1, am_upB me.2.1 r bb i a, me.2.2)
      | _, _ => False
    | false => False
  | _ => False
def am_s_getstatic (Cl : Nat → List am_V → am_M → Option am_V → am_M → Prop) (nx a b : Nat) (v : Int32) (ts : List (Int32 × Nat)) (L : am_L) (st : List am_V) (me : am_M) (N : Nat → am_L → List am_V → am_M → Prop) (Q : Option am_V → am_M → Prop) : Prop := match b with
  | 0 => N nx L (.inr (.inr (a, 0, 0)) :: st) me
  | _ => N nx L (.inl v :: st) me
def am_s_iaload (Cl : Nat → List am_V → am_M → Option am_V → am_M → Prop) (nx a b : Nat) (v : Int32) (ts : List (Int32 × Nat)) (L : am_L) (st : List am_V) (me : am_M) (N : Nat → am_L → List am_V → am_M → Prop) (Q : Option am_V → am_M → Prop) : Prop := match st with
  | .inl j :: .inr (.inr (r, bb, i)) :: st' => match am_rd me.2.2 r bb i with
    | some (n, f) => vp_in j n ∧ N nx L (.inl (f j.toNatClampNeg) :: st') me
    | none => False
  | _ => False
def am_s_baload (Cl : Nat → List am_V → am_M → Option am_V → am_M → Prop) (nx a b : Nat) (v : Int32) (ts : List (Int32 × Nat)) (L : am_L) (st : List am_V) (me : am_M) (N : Nat → am_L → List am_V → am_M → Prop) (Q : Option am_V → am_M → Prop) : Prop := match st with
  | .inl j :: .inr (.inr (r, bb, i)) :: st' => match Nat.beq r 4 with
    | true => vp_in j (am_bl i) ∧ N nx L (.inl (am_bt i j.toNatClampNeg) :: st') me
    | false => False
  | _ => False
def am_s_iastore (Cl : Nat → List am_V → am_M → Option am_V → am_M → Prop) (nx a b : Nat) (v : Int32) (ts : List (Int32 × Nat)) (L : am_L) (st : List am_V) (me : am_M) (N : Nat → am_L → List am_V → am_M → Prop) (Q : Option am_V → am_M → Prop) : Prop := match st with
  | .inl x :: .inl j :: .inr (.inr (r, bb, i)) :: st' => match Nat.ble 27 r && Nat.ble r 33 with
    | true => vp_in j (am_ln r bb) ∧ N nx L st' (me.1, me.2.1, am_up me.2.2 r bb i j.toNatClampNeg x)
    | false => False
  | _ => False
def am_s_arraylength (Cl : Nat → List am_V → am_M → Option am_V → am_M → Prop) (nx a b : Nat) (v : Int32) (ts : List (Int32 × Nat)) (L : am_L) (st : List am_V) (me : am_M) (N : Nat → am_L → List am_V → am_M → Prop) (Q : Option am_V → am_M → Prop) : Prop := match st with
  | .inr (.inr (r, bb, i)) :: st' => match am_len me.2.2 r bb i with
    | some n => N nx L (.inl (Int32.ofNat n) :: st') me
    | none => False
  | _ => False
def am_s_aaload (Cl : Nat → List am_V → am_M → Option am_V → am_M → Prop) (nx a b : Nat) (v : Int32) (ts : List (Int32 × Nat)) (L : am_L) (st : List am_V) (me : am_M) (N : Nat → am_L → List am_V → am_M → Prop) (Q : Option am_V → am_M → Prop) : Prop := match st with
  | .inl j :: .inr (.inr (r, bb, i)) :: st' => match Nat.ble 34 r && Nat.ble r 37 with
    | true => vp_in j (am_ln r bb) ∧ match me.2.1 r bb i j.toNatClampNeg with
      | true => N nx L (.inr (.inr (am_el r, bb, j.toNatClampNeg)) :: st') me
      | false => False
    | false => False
  | _ => False
def am_s_aastore (Cl : Nat → List am_V → am_M → Option am_V → am_M → Prop) (nx a b : Nat) (v : Int32) (ts : List (Int32 × Nat)) (L : am_L) (st : List am_V) (me : am_M) (N : Nat → am_L → List am_V → am_M → Prop) (Q : Option am_V → am_M → Prop) : Prop := match st with
  | .inr (.inr q) :: .inl j :: .inr (.inr (r, bb, i)) :: st' => match Nat.ble 34 r && Nat.ble r 37 with
    | true => vp_in j (am_ln r bb) ∧ q = (am_el r, bb, j.toNatClampNeg) ∧ N nx L st' (me.1, am_upB me.2.1 r bb i j.toNatClampNeg, me.2.2)
    | false => False
  | _ => False
def am_s_new (Cl : Nat → List am_V → am_M → Option am_V → am_M → Prop) (nx a b : Nat) (v : Int32) (ts : List (Int32 × Nat)) (L : am_L) (st : List am_V) (me : am_M) (N : Nat → am_L → List am_V → am_M → Prop) (Q : Option am_V → am_M → Prop) : Prop := match am_dec me.1 with
  | ((r, bb, i), n) => Nat.beq r b = true ∧ am_zi me.2.2 r bb i n = true ∧ am_zb me.2.1 r bb i n = true ∧ N nx L (.inr (.inr (r, bb, i)) :: st) (me.1 + 1, me.2.1, me.2.2)
def am_s_newarray (Cl : Nat → List am_V → am_M → Option am_V → am_M → Prop) (nx a b : Nat) (v : Int32) (ts : List (Int32 × Nat)) (L : am_L) (st : List am_V) (me : am_M) (N : Nat → am_L → List am_V → am_M → Prop) (Q : Option am_V → am_M → Prop) : Prop := match st with
  | .inl x :: st' => match am_dec me.1 with
    | ((r, bb, i), n) => (Nat.ble 27 r && Nat.ble r 33) = true ∧ ¬ x < 0 ∧ x.toNatClampNeg = n ∧ am_zi me.2.2 r bb i n = true ∧ N nx L (.inr (.inr (r, bb, i)) :: st') (me.1 + 1, me.2.1, me.2.2)
  | _ => False
def am_s_anewarray (Cl : Nat → List am_V → am_M → Option am_V → am_M → Prop) (nx a b : Nat) (v : Int32) (ts : List (Int32 × Nat)) (L : am_L) (st : List am_V) (me : am_M) (N : Nat → am_L → List am_V → am_M → Prop) (Q : Option am_V → am_M → Prop) : Prop := match st with
  | .inl x :: st' => match am_dec me.1 with
    | ((r, bb, i), n) => Nat.beq r b = true ∧ ¬ x < 0 ∧ x.toNatClampNeg = n ∧ am_zb me.2.1 r bb i n = true ∧ N nx L (.inr (.inr (r, bb, i)) :: st') (me.1 + 1, me.2.1, me.2.2)
  | _ => False
def am_s_invokestatic (Cl : Nat → List am_V → am_M → Option am_V → am_M → Prop) (nx a b : Nat) (v : Int32) (ts : List (Int32 × Nat)) (L : am_L) (st : List am_V) (me : am_M) (N : Nat → am_L → List am_V → am_M → Prop) (Q : Option am_V → am_M → Prop) : Prop := match Nat.beq a 1000 with
  | true => match st with
    | .inl n :: .inl dp :: .inr (.inr (r2, b2, i2)) :: .inl sp :: .inr (.inr (r1, b1, i1)) :: st' => match (Nat.ble 27 r1 && Nat.ble r1 33) && (Nat.ble 27 r2 && Nat.ble r2 33) && Nat.ble st'.length 4 with
      | true => ¬ sp < 0 ∧ ¬ dp < 0 ∧ ¬ n < 0 ∧ sp.toNatClampNeg + n.toNatClampNeg ≤ am_ln r1 b1 ∧ dp.toNatClampNeg + n.toNatClampNeg ≤ am_ln r2 b2 ∧ N nx L st' (me.1, me.2.1, am_cpy me.2.2 r1 b1 i1 r2 b2 i2 sp.toNatClampNeg dp.toNatClampNeg n.toNatClampNeg)
      | false => False
    | _ => False
  | false => match am_pop st b [] with
    | some (as, st') => match Nat.ble st'.length 4 && Nat.ble (am_wds as) (am_mlx a), ts with
      | true, [] => ∃ me', Cl a as me none me' ∧ N nx L st' me'
      | true, _ :: _ => ∃ x me', Cl a as me (some x) me' ∧ N nx L (x :: st') me'
      | false, _ => False
    | none => False
def am_s_invokevirtual (Cl : Nat → List am_V → am_M → Option am_V → am_M → Prop) (nx a b : Nat) (v : Int32) (ts : List (Int32 × Nat)) (L : am_L) (st : List am_V) (me : am_M) (N : Nat → am_L → List am_V → am_M → Prop) (Q : Option am_V → am_M → Prop) : Prop := match am_pop st b [] with
  | some (.inr (.inr (r, q)) :: as, st') => match Nat.beq r (am_rcv a) && (Nat.ble st'.length 4 && Nat.ble (am_wds (.inr (.inr (r, q)) :: as)) (am_mlx a)), ts with
    | true, [] => ∃ me', Cl a (.inr (.inr (r, q)) :: as) me none me' ∧ N nx L st' me'
    | true, _ :: _ => ∃ x me', Cl a (.inr (.inr (r, q)) :: as) me (some x) me' ∧ N nx L (x :: st') me'
    | false, _ => False
  | _ => False
def am_s_invokespecial (Cl : Nat → List am_V → am_M → Option am_V → am_M → Prop) (nx a b : Nat) (v : Int32) (ts : List (Int32 × Nat)) (L : am_L) (st : List am_V) (me : am_M) (N : Nat → am_L → List am_V → am_M → Prop) (Q : Option am_V → am_M → Prop) : Prop := match Nat.beq a 2000 with
  | true => match st with
    | .inr (.inr (r, _)) :: st' => match Nat.ble 16 r && Nat.ble st'.length 4 with
      | true => N nx L st' me
      | false => False
    | _ => False
  | false => match am_pop st b [] with
    | some (.inr (.inr (r, q)) :: as, st') => match Nat.ble 16 r && (Nat.ble st'.length 4 && Nat.ble (am_wds (.inr (.inr (r, q)) :: as)) (am_mlx a)) with
      | true => ∃ me', Cl a (.inr (.inr (r, q)) :: as) me none me' ∧ N nx L st' me'
      | false => False
    | _ => False
def am_s_ireturn (Cl : Nat → List am_V → am_M → Option am_V → am_M → Prop) (nx a b : Nat) (v : Int32) (ts : List (Int32 × Nat)) (L : am_L) (st : List am_V) (me : am_M) (N : Nat → am_L → List am_V → am_M → Prop) (Q : Option am_V → am_M → Prop) : Prop := match st with
  | [.inl x] => am_nr a x ∧ Q (some (.inl x)) me
  | _ => False
def am_s_areturn (Cl : Nat → List am_V → am_M → Option am_V → am_M → Prop) (nx a b : Nat) (v : Int32) (ts : List (Int32 × Nat)) (L : am_L) (st : List am_V) (me : am_M) (N : Nat → am_L → List am_V → am_M → Prop) (Q : Option am_V → am_M → Prop) : Prop := match st with
  | [.inr (.inr (r, q))] => match Nat.beq r 5 with
    | true => False
    | false => Q (some (.inr (.inr (r, q)))) me
  | _ => False
def am_s_return_ (Cl : Nat → List am_V → am_M → Option am_V → am_M → Prop) (nx a b : Nat) (v : Int32) (ts : List (Int32 × Nat)) (L : am_L) (st : List am_V) (me : am_M) (N : Nat → am_L → List am_V → am_M → Prop) (Q : Option am_V → am_M → Prop) : Prop := match st with
  | [] => Q none me
  | _ => False
/-- one instruction: N is what is asked of the next, Q of what is returned -/
def am_step (Cl : Nat → List am_V → am_M → Option am_V → am_M → Prop) (o : am_O) (L : am_L) (st : List am_V) (me : am_M) (N : Nat → am_L → List am_V → am_M → Prop) (Q : Option am_V → am_M → Prop) : Prop :=
  match o with
  | (_, _, ins, nx, a, b, v, ts, _) => match ins with
    | .iconst _ => am_s_iconst Cl nx a b v ts L st me N Q
    | .bipush _ => am_s_bipush Cl nx a b v ts L st me N Q
    | .sipush _ => am_s_sipush Cl nx a b v ts L st me N Q
    | .ldc _ => am_s_ldc Cl nx a b v ts L st me N Q
    | .ldc_w _ => am_s_ldc_w Cl nx a b v ts L st me N Q
    | .ldc2_w _ => am_s_ldc2_w Cl nx a b v ts L st me N Q
    | .iload_n _ => am_s_iload_n Cl nx a b v ts L st me N Q
    | .iload _ => am_s_iload Cl nx a b v ts L st me N Q
    | .lload_n _ => am_s_lload_n Cl nx a b v ts L st me N Q
    | .aload_n _ => am_s_aload_n Cl nx a b v ts L st me N Q
    | .aload _ => am_s_aload Cl nx a b v ts L st me N Q
    | .istore_n _ => am_s_istore_n Cl nx a b v ts L st me N Q
    | .istore _ => am_s_istore Cl nx a b v ts L st me N Q
    | .astore_n _ => am_s_astore_n Cl nx a b v ts L st me N Q
    | .astore _ => am_s_astore Cl nx a b v ts L st me N Q
    | .iinc _ _ => am_s_iinc Cl nx a b v ts L st me N Q
    | .iadd => am_s_iadd Cl nx a b v ts L st me N Q
    | .isub => am_s_isub Cl nx a b v ts L st me N Q
    | .imul => am_s_imul Cl nx a b v ts L st me N Q
    | .idiv => am_s_idiv Cl nx a b v ts L st me N Q
    | .irem => am_s_irem Cl nx a b v ts L st me N Q
    | .ineg => am_s_ineg Cl nx a b v ts L st me N Q
    | .iand => am_s_iand Cl nx a b v ts L st me N Q
    | .ior => am_s_ior Cl nx a b v ts L st me N Q
    | .ixor => am_s_ixor Cl nx a b v ts L st me N Q
    | .ishl => am_s_ishl Cl nx a b v ts L st me N Q
    | .ishr => am_s_ishr Cl nx a b v ts L st me N Q
    | .iushr => am_s_iushr Cl nx a b v ts L st me N Q
    | .i2l => am_s_i2l Cl nx a b v ts L st me N Q
    | .l2i => am_s_l2i Cl nx a b v ts L st me N Q
    | .i2b => am_s_i2b Cl nx a b v ts L st me N Q
    | .i2s => am_s_i2s Cl nx a b v ts L st me N Q
    | .i2c => am_s_i2c Cl nx a b v ts L st me N Q
    | .ladd => am_s_ladd Cl nx a b v ts L st me N Q
    | .land => am_s_land Cl nx a b v ts L st me N Q
    | .lor => am_s_lor Cl nx a b v ts L st me N Q
    | .lshl => am_s_lshl Cl nx a b v ts L st me N Q
    | .lshr => am_s_lshr Cl nx a b v ts L st me N Q
    | .lushr => am_s_lushr Cl nx a b v ts L st me N Q
    | .lcmp => am_s_lcmp Cl nx a b v ts L st me N Q
    | .dup => am_s_dup Cl nx a b v ts L st me N Q
    | .dup2 => am_s_dup2 Cl nx a b v ts L st me N Q
    | .pop => am_s_pop Cl nx a b v ts L st me N Q
    | .ifCond cn _ => am_s_ifCond Cl nx a b v ts L st me N Q cn
    | .if_icmp cn _ => am_s_if_icmp Cl nx a b v ts L st me N Q cn
    | .goto _ => am_s_goto Cl nx a b v ts L st me N Q
    | .tableswitch _ _ _ _ => am_s_tableswitch Cl nx a b v ts L st me N Q
    | .lookupswitch _ _ => am_s_lookupswitch Cl nx a b v ts L st me N Q
    | .getfield _ => am_s_getfield Cl nx a b v ts L st me N Q
    | .putfield _ => am_s_putfield Cl nx a b v ts L st me N Q
    | .getstatic _ => am_s_getstatic Cl nx a b v ts L st me N Q
    | .iaload => am_s_iaload Cl nx a b v ts L st me N Q
    | .baload => am_s_baload Cl nx a b v ts L st me N Q
    | .iastore => am_s_iastore Cl nx a b v ts L st me N Q
    | .arraylength => am_s_arraylength Cl nx a b v ts L st me N Q
    | .aaload => am_s_aaload Cl nx a b v ts L st me N Q
    | .aastore => am_s_aastore Cl nx a b v ts L st me N Q
    | .new _ => am_s_new Cl nx a b v ts L st me N Q
    | .newarray _ => am_s_newarray Cl nx a b v ts L st me N Q
    | .anewarray _ => am_s_anewarray Cl nx a b v ts L st me N Q
    | .invokestatic _ => am_s_invokestatic Cl nx a b v ts L st me N Q
    | .invokevirtual _ => am_s_invokevirtual Cl nx a b v ts L st me N Q
    | .invokespecial _ => am_s_invokespecial Cl nx a b v ts L st me N Q
    | .ireturn => am_s_ireturn Cl nx a b v ts L st me N Q
    | .areturn => am_s_areturn Cl nx a b v ts L st me N Q
    | .return_ => am_s_return_ Cl nx a b v ts L st me N Q
    | _ => False
def am_run (Cl : Nat → List am_V → am_M → Option am_V → am_M → Prop) (cd : am_C) (Q : Option am_V → am_M → Prop) : Nat → Nat → am_L → List am_V → am_M → Prop
  | 0, _, _, _, _ => False
  | f + 1, ip, L, st, me => match am_at cd ip with
    | none => False
    | some o => am_step Cl o L st me (am_run Cl cd Q f) Q
def am_wp (Cl : Nat → List am_V → am_M → Option am_V → am_M → Prop) (cd : am_C) (Q : Option am_V → am_M → Prop) (ip : Nat) (L : am_L) (st : List am_V) (me : am_M) : Prop := ∃ f, am_run Cl cd Q f ip L st me
