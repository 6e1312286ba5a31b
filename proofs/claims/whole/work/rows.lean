section
/-! An abstract machine: a heap of numbered cells as plain functions, frames as lists. It is run by 'xv_exec'; what it does the machine does (part 03). -/
/-- a heap: cells, slots, tag of a cell, length of an array; fields and elements that are references; fields and elements that are ints; elements that are longs -/
abbrev xv_H : Type := Nat × Nat × (Nat → Nat) × (Nat → Nat) × (Nat → Nat → Option Nat) × (Nat → Nat → Option Nat) × (Nat → Nat → Int32) × (Nat → Nat → Int32) × (Nat → Nat → Int64)
abbrev xv_L : Type := List (Option Value)
/-- an instruction as decoded, two numbers by which it is resolved -/
abbrev xv_I : Type := ClassFile.Instr × Nat × Nat
abbrev xv_N : Type := Nat × xv_L × List Value × xv_H
abbrev xv_A : Type := Option xv_N
/-- a call: method, arguments, the stack below, where it goes on -/
abbrev xv_K : Type := Option (xv_N ⊕ (Nat × List Value × List Value × Nat))
def xv_up {β : Type} (f : Nat → Nat → β) (x y : Nat) (v : β) : Nat → Nat → β := fun a b => if a = x ∧ b = y then v else f a b
def xv_u1 (f : Nat → Nat) (x v : Nat) : Nat → Nat := fun a => if a = x then v else f a
def xv_fresh {β : Type} (f : Nat → Nat → β) (x : Nat) (v : β) : Nat → Nat → β := fun a b => if a = x then v else f a b
def xv_freshF {β : Type} (f : Nat → Nat → β) (x : Nat) (v : β) : Nat → Nat → β := fun a b => if b = x then v else f a b
/-- a new cell of tag t, length m, k slots -/
def xv_new (h : xv_H) (t m k : Nat) : xv_H := match h with
  | (n, z, tg, ln, fr, er, fi, ei, el) => (n + 1, z + k, xv_u1 tg n t, xv_u1 ln n m, xv_freshF fr n none, xv_fresh er n none, xv_freshF fi n 0, xv_fresh ei n 0, xv_fresh el n 0)
def xv_cpy {β : Type} (f : Nat → Nat → β) (s sp d dp n : Nat) : Nat → Nat → β := fun a i => if a = d ∧ dp ≤ i ∧ i < dp + n then f s (sp + (i - dp)) else f a i
def xv_nx (pc : Nat) (L : xv_L) (st : List Value) (h : xv_H) : xv_A := some (pc, L, st, h)
/-- may a value of one slot be stored at i -/
def xv_b1 (lg : List Nat) (i : Nat) : Bool := i == 0 || !(lg.contains (i - 1))
def xv_jmp (pc : Nat) (off : Int) (L : xv_L) (st : List Value) (h : xv_H) : xv_A := match (pc : Int) + off with
  | .ofNat t => xv_nx t L st h
  | .negSucc _ => none
def xv_cnd (o : ClassFile.Cond) (x y : Int32) : Bool := match o with
  | .eq => decide (x = y)
  | .ne => decide (¬ x = y)
  | .lt => decide (x < y)
  | .ge => decide (y ≤ x)
  | .gt => decide (y < x)
  | .le => decide (x ≤ y)
def xv_if (b : Bool) (pc : Nat) (off : Int) (L : xv_L) (st : List Value) (h : xv_H) : xv_A := if b = true then xv_jmp pc off L st h else xv_nx (pc + 3) L st h
def xv_i1 {β : Type} (st : List Value) (f : Int32 → List Value → Option β) : Option β := match st with
  | .int x :: r => f x r
  | _ => none
def xv_i2 {β : Type} (st : List Value) (f : Int32 → Int32 → List Value → Option β) : Option β := match st with
  | .int y :: .int x :: r => f x y r
  | _ => none
def xv_l1 {β : Type} (st : List Value) (f : Int64 → List Value → Option β) : Option β := match st with
  | .long x :: r => f x r
  | _ => none
def xv_l2 {β : Type} (st : List Value) (f : Int64 → Int64 → List Value → Option β) : Option β := match st with
  | .long y :: .long x :: r => f x y r
  | _ => none
def xv_li {β : Type} (st : List Value) (f : Int64 → Int32 → List Value → Option β) : Option β := match st with
  | .int y :: .long x :: r => f x y r
  | _ => none
def xv_r1 {β : Type} (st : List Value) (f : Nat → List Value → Option β) : Option β := match st with
  | .ref a :: r => f a r
  | _ => none
/-- a reference or null -/
def xv_q1 {β : Type} (st : List Value) (f : Option Nat → List Value → Option β) : Option β := match st with
  | .ref a :: r => f (some a) r
  | .null :: r => f none r
  | _ => none
def xv_v1 {β : Type} (st : List Value) (f : Value → List Value → Option β) : Option β := match st with
  | v :: r => if v.category = 1 then f v r else none
  | _ => none
/-- an index of an array: in range -/
def xv_in {β : Type} (h : xv_H) (i : Int32) (a : Nat) (k : Option β) : Option β := if a < h.1 ∧ 0 ≤ i ∧ i.toNatClampNeg < h.2.2.2.1 a then k else none
def xv_iload {β : Type} (L : xv_L) (i : Nat) (f : Int32 → Option β) : Option β := match L[i]? with
  | some (some (.int x)) => f x
  | _ => none
def xv_lload {β : Type} (L : xv_L) (i : Nat) (f : Int64 → Option β) : Option β := match L[i]? with
  | some (some (.long x)) => f x
  | _ => none
def xv_aload {β : Type} (L : xv_L) (i : Nat) (f : Option Nat → Option β) : Option β := match L[i]? with
  | some (some (.ref x)) => f (some x)
  | some (some .null) => f none
  | _ => none
def xv_st1 {β : Type} (lg : List Nat) (L : xv_L) (i : Nat) (v : Value) (f : xv_L → Option β) : Option β := if i < L.length ∧ xv_b1 lg i = true then f (L.set i (some v)) else none
def xv_st2 {β : Type} (lg : List Nat) (L : xv_L) (i : Nat) (v : Value) (f : xv_L → Option β) : Option β := if i + 1 < L.length ∧ xv_b1 lg i = true ∧ lg.contains i = true then f ((L.set i (some v)).set (i + 1) none) else none
/-- the number of the first of the cells that the program doesn't make: constants of enums and the like -/
def xv_SB : Nat := 10000000
def xv_new1 (pc' : Nat) (L : xv_L) (st : List Value) (h : xv_H) (t m k : Nat) : xv_A := xv_nx pc' L (.ref h.1 :: st) (xv_new h t m k)
def xv_len {β : Type} (n : Int32) (k : Option β) : Option β := if 0 ≤ n ∧ n.toNatClampNeg ≤ 60000000 then k else none
/-- what an array of references may hold: arrays of tag t hold cells of tag cp t -/
def xv_ok (cp : Nat → Nat) (h : xv_H) (a : Nat) (x : Option Nat) : Bool := match x with
  | none => true
  | some b => decide (b < h.1 ∧ h.2.2.1 b = cp (h.2.2.1 a))
/-- do the arguments fit: so many locals, and the longs where they may stand -/
def xv_fit (lg : List Nat) (n : Nat) : Nat → List Value → Bool
  | i, [] => decide (i ≤ n)
  | i, v :: vs => if v.category = 2 then lg.contains i && xv_fit lg n (i + 2) vs else xv_fit lg n (i + 1) vs
def xv_sl (av : List Value) : xv_L := av.flatMap fun v => if v.category = 2 then [some v, none] else [some v]
def xv_ent (n : Nat) (av : List Value) : xv_L := xv_sl av ++ List.replicate (n - (xv_sl av).length) none
def xv_room (st : List Value) : Bool := decide ((st.map fun v => v.category).sum ≤ 8)
def xv_call (lgs : Nat → List Nat) (mx : Nat → Nat) (y : Nat) (av rest : List Value) (pc' : Nat) : xv_K := if xv_fit (lgs y) (mx y) 0 av = true ∧ xv_room rest = true then some (.inr (y, av, rest, pc')) else none
def xv_copy (cp : Nat → Nat) (t pc' : Nat) (L : xv_L) (h : xv_H) (n dp : Int32) (d : Nat) (sp : Int32) (s : Nat) (r : List Value) : xv_A :=
  if (s < h.1 ∧ d < h.1) ∧ (0 ≤ sp ∧ 0 ≤ dp ∧ 0 ≤ n) ∧ (sp.toNatClampNeg + n.toNatClampNeg ≤ h.2.2.2.1 s ∧ dp.toNatClampNeg + n.toNatClampNeg ≤ h.2.2.2.1 d) ∧ xv_room r = true then
    if h.2.2.1 s = 100 ∧ h.2.2.1 d = 100 ∧ t = 100 then
      match h with | (n1, z, tg, ln, fr, er, fi, ei, el) => xv_nx pc' L r (n1, z, tg, ln, fr, er, fi, xv_cpy ei s sp.toNatClampNeg d dp.toNatClampNeg n.toNatClampNeg, el)
    else if h.2.2.1 s = t ∧ h.2.2.1 d = t ∧ 104 ≤ t ∧ ∀ i, i < n.toNatClampNeg → xv_ok cp h d (h.2.2.2.2.2.1 s (sp.toNatClampNeg + i)) = true then
      match h with | (n1, z, tg, ln, fr, er, fi, ei, el) => xv_nx pc' L r (n1, z, tg, ln, fr, xv_cpy er s sp.toNatClampNeg d dp.toNatClampNeg n.toNatClampNeg, fi, ei, el)
    else none
  else none
def xv_clone (pc' : Nat) (L : xv_L) (h : xv_H) (a : Nat) (r : List Value) : xv_A :=
  if a < h.1 ∧ h.2.2.1 a = 100 ∧ xv_room r = true then
    match xv_new h 100 (h.2.2.2.1 a) (h.2.2.2.1 a) with | (n1, z, tg, ln, fr, er, fi, ei, el) => xv_nx pc' L (.ref h.1 :: r) (n1, z, tg, ln, fr, er, fi, (fun b i => if b = h.1 then ei a i else ei b i), el)
  else none
/-- one instruction; sc: the script, cell number xv_SB -/
def xv_act (sc : Nat × (Nat → Int32)) (cp : Nat → Nat) (lg : List Nat) (ic : xv_I) (pc : Nat) (L : xv_L) (st : List Value) (h : xv_H) : xv_A := match ic.1 with
  | .aconst_null => xv_nx (pc + 1) L (.null :: st) h
  | .iconst n => xv_nx (pc + 1) L (.int (Int32.ofInt n) :: st) h
  | .bipush n => xv_nx (pc + 2) L (.int (Int8.ofInt n).toInt32 :: st) h
  | .sipush n => xv_nx (pc + 3) L (.int (Int16.ofInt n).toInt32 :: st) h
  | .lconst n => xv_nx (pc + 1) L (.long (Int64.ofNat (n : Nat)) :: st) h
  | .ldc _ => if ic.2.2 = 0 then xv_nx (pc + 2) L (.int (Int32.ofNat ic.2.1) :: st) h else if ic.2.2 = 1 then xv_nx (pc + 2) L (.ref (xv_SB + 2) :: st) h else none
  | .ldc2_w _ => xv_nx (pc + 3) L (.long (Int64.ofNat ic.2.1) :: st) h
  | .iload i => xv_iload L i fun x => xv_nx (pc + 2) L (.int x :: st) h
  | .iload_n i => xv_iload L i fun x => xv_nx (pc + 1) L (.int x :: st) h
  | .lload i => xv_lload L i fun x => xv_nx (pc + 2) L (.long x :: st) h
  | .lload_n i => xv_lload L i fun x => xv_nx (pc + 1) L (.long x :: st) h
  | .aload i => xv_aload L i fun x => xv_nx (pc + 2) L (va_rf x :: st) h
  | .aload_n i => xv_aload L i fun x => xv_nx (pc + 1) L (va_rf x :: st) h
  | .istore i => xv_i1 st fun x r => xv_st1 lg L i (.int x) fun L' => xv_nx (pc + 2) L' r h
  | .istore_n i => xv_i1 st fun x r => xv_st1 lg L i (.int x) fun L' => xv_nx (pc + 1) L' r h
  | .lstore i => xv_l1 st fun x r => xv_st2 lg L i (.long x) fun L' => xv_nx (pc + 2) L' r h
  | .lstore_n i => xv_l1 st fun x r => xv_st2 lg L i (.long x) fun L' => xv_nx (pc + 1) L' r h
  | .astore i => xv_q1 st fun x r => xv_st1 lg L i (va_rf x) fun L' => xv_nx (pc + 2) L' r h
  | .astore_n i => xv_q1 st fun x r => xv_st1 lg L i (va_rf x) fun L' => xv_nx (pc + 1) L' r h
  | .iinc i n => xv_iload L i fun x => xv_st1 lg L i (.int (x + Int32.ofInt n)) fun L' => xv_nx (pc + 3) L' st h
  | .iadd => xv_i2 st fun x y r => xv_nx (pc + 1) L (.int (x + y) :: r) h
  | .isub => xv_i2 st fun x y r => xv_nx (pc + 1) L (.int (x - y) :: r) h
  | .imul => xv_i2 st fun x y r => xv_nx (pc + 1) L (.int (x * y) :: r) h
  | .iand => xv_i2 st fun x y r => xv_nx (pc + 1) L (.int (x &&& y) :: r) h
  | .ior => xv_i2 st fun x y r => xv_nx (pc + 1) L (.int (x ||| y) :: r) h
  | .idiv => xv_i2 st fun x y r => if y = 0 then none else xv_nx (pc + 1) L (.int (x / y) :: r) h
  | .irem => xv_i2 st fun x y r => if y = 0 then none else xv_nx (pc + 1) L (.int (x - x / y * y) :: r) h
  | .ishl => xv_i2 st fun x y r => xv_nx (pc + 1) L (.int (x <<< (y &&& 31)) :: r) h
  | .ishr => xv_i2 st fun x y r => xv_nx (pc + 1) L (.int (x >>> (y &&& 31)) :: r) h
  | .ladd => xv_l2 st fun x y r => xv_nx (pc + 1) L (.long (x + y) :: r) h
  | .lmul => xv_l2 st fun x y r => xv_nx (pc + 1) L (.long (x * y) :: r) h
  | .land => xv_l2 st fun x y r => xv_nx (pc + 1) L (.long (x &&& y) :: r) h
  | .lor => xv_l2 st fun x y r => xv_nx (pc + 1) L (.long (x ||| y) :: r) h
  | .lxor => xv_l2 st fun x y r => xv_nx (pc + 1) L (.long (x ^^^ y) :: r) h
  | .lshl => xv_li st fun x y r => xv_nx (pc + 1) L (.long (x <<< (y.toInt64 &&& 63)) :: r) h
  | .lshr => xv_li st fun x y r => xv_nx (pc + 1) L (.long (x >>> (y.toInt64 &&& 63)) :: r) h
  | .i2l => xv_i1 st fun x r => xv_nx (pc + 1) L (.long x.toInt64 :: r) h
  | .l2i => xv_l1 st fun x r => xv_nx (pc + 1) L (.int x.toInt32 :: r) h
  | .i2b => xv_i1 st fun x r => xv_nx (pc + 1) L (.int x.toInt8.toInt32 :: r) h
  | .pop => xv_v1 st fun _ r => xv_nx (pc + 1) L r h
  | .dup => xv_v1 st fun v r => xv_nx (pc + 1) L (v :: v :: r) h
  | .dup_x1 => xv_v1 st fun v r => xv_v1 r fun w r' => xv_nx (pc + 1) L (v :: w :: v :: r') h
  | .dup_x2 => xv_v1 st fun v r => xv_v1 r fun w r' => xv_v1 r' fun u r'' => xv_nx (pc + 1) L (v :: w :: u :: v :: r'') h
  | .dup2 => xv_v1 st fun v r => xv_v1 r fun w r' => xv_nx (pc + 1) L (v :: w :: v :: w :: r') h
  | .ifCond o off => xv_i1 st fun x r => xv_if (xv_cnd o x 0) pc off L r h
  | .if_icmp o off => xv_i2 st fun x y r => xv_if (xv_cnd o x y) pc off L r h
  | .if_acmp o off => xv_q1 st fun y r => xv_q1 r fun x r' => xv_if (match o with | .eq => decide (x = y) | .ne => decide (¬ x = y)) pc off L r' h
  | .ifnull off => xv_q1 st fun x r => xv_if (decide (x = none)) pc off L r h
  | .ifnonnull off => xv_q1 st fun x r => xv_if (decide (¬ x = none)) pc off L r h
  | .goto off => xv_jmp pc off L st h
  | .tableswitch dflt lo hi offs => xv_i1 st fun x r => if x.toInt < lo ∨ hi < x.toInt then xv_jmp pc dflt L r h else match offs[(x.toInt - lo).toNat]? with
    | some off => xv_jmp pc off L r h
    | none => none
  | .getfield _ => xv_r1 st fun a r => if a < h.1 ∧ h.2.2.1 a = ic.2.1 / 100 then xv_nx (pc + 3) L ((if ic.2.2 = 1 then va_rf (h.2.2.2.2.1 ic.2.1 a) else .int (h.2.2.2.2.2.2.1 ic.2.1 a)) :: r) h else none
  | .putfield _ => if ic.2.2 = 1 then xv_q1 st fun x r => xv_r1 r fun a r' => if a < h.1 ∧ h.2.2.1 a = ic.2.1 / 100 then
        match h with | (n, z, tg, ln, fr, er, fi, ei, el) => xv_nx (pc + 3) L r' (n, z, tg, ln, xv_up fr ic.2.1 a x, er, fi, ei, el)
      else none
    else xv_i1 st fun x r => xv_r1 r fun a r' => if (a < h.1 ∧ h.2.2.1 a = ic.2.1 / 100) ∧ (ic.2.2 = 0 ∨ (ic.2.2 = 2 ∧ (x = 0 ∨ x = 1))) then
        match h with | (n, z, tg, ln, fr, er, fi, ei, el) => xv_nx (pc + 3) L r' (n, z, tg, ln, fr, er, xv_up fi ic.2.1 a x, ei, el)
      else none
  | .getstatic _ => xv_nx (pc + 3) L (.ref (xv_SB + ic.2.1) :: st) h
  | .iaload => xv_i1 st fun i r => xv_r1 r fun a r' => if a = xv_SB then (if 0 ≤ i ∧ i.toNatClampNeg < sc.1 then xv_nx (pc + 1) L (.int (sc.2 i.toNatClampNeg) :: r') h else none) else xv_in h i a (if h.2.2.1 a = 100 then xv_nx (pc + 1) L (.int (h.2.2.2.2.2.2.2.1 a i.toNatClampNeg) :: r') h else none)
  | .baload => xv_i1 st fun i r => xv_r1 r fun a r' => xv_in h i a (if h.2.2.1 a = 101 ∨ h.2.2.1 a = 102 then xv_nx (pc + 1) L (.int (h.2.2.2.2.2.2.2.1 a i.toNatClampNeg) :: r') h else none)
  | .laload => xv_i1 st fun i r => xv_r1 r fun a r' => xv_in h i a (if h.2.2.1 a = 103 then xv_nx (pc + 1) L (.long (h.2.2.2.2.2.2.2.2 a i.toNatClampNeg) :: r') h else none)
  | .aaload => xv_i1 st fun i r => xv_r1 r fun a r' => xv_in h i a (if h.2.2.1 a = ic.2.1 then xv_nx (pc + 1) L (va_rf (h.2.2.2.2.2.1 a i.toNatClampNeg) :: r') h else none)
  | .iastore => xv_i1 st fun x r0 => xv_i1 r0 fun i r => xv_r1 r fun a r' => xv_in h i a (if h.2.2.1 a = 100 then
        match h with | (n, z, tg, ln, fr, er, fi, ei, el) => xv_nx (pc + 1) L r' (n, z, tg, ln, fr, er, fi, xv_up ei a i.toNatClampNeg x, el)
      else none)
  | .bastore => xv_i1 st fun x r0 => xv_i1 r0 fun i r => xv_r1 r fun a r' => xv_in h i a (if h.2.2.1 a = 101 then
        match h with | (n, z, tg, ln, fr, er, fi, ei, el) => xv_nx (pc + 1) L r' (n, z, tg, ln, fr, er, fi, xv_up ei a i.toNatClampNeg x.toInt8.toInt32, el)
      else if h.2.2.1 a = 102 ∧ (x = 0 ∨ x = 1) then
        match h with | (n, z, tg, ln, fr, er, fi, ei, el) => xv_nx (pc + 1) L r' (n, z, tg, ln, fr, er, fi, xv_up ei a i.toNatClampNeg x, el)
      else none)
  | .lastore => xv_l1 st fun x r0 => xv_i1 r0 fun i r => xv_r1 r fun a r' => xv_in h i a (if h.2.2.1 a = 103 then
        match h with | (n, z, tg, ln, fr, er, fi, ei, el) => xv_nx (pc + 1) L r' (n, z, tg, ln, fr, er, fi, ei, xv_up el a i.toNatClampNeg x)
      else none)
  | .aastore => xv_q1 st fun x r0 => xv_i1 r0 fun i r => xv_r1 r fun a r' => xv_in h i a (if h.2.2.1 a = ic.2.1 ∧ xv_ok cp h a x = true then
        match h with | (n, z, tg, ln, fr, er, fi, ei, el) => xv_nx (pc + 1) L r' (n, z, tg, ln, fr, xv_up er a i.toNatClampNeg x, fi, ei, el)
      else none)
  | .arraylength => xv_r1 st fun a r => if a = xv_SB then xv_nx (pc + 1) L (.int (Int32.ofNat sc.1) :: r) h else if a = xv_SB + 1 ∧ ic.2.2 = 1 then xv_nx (pc + 1) L (.int 0 :: r) h else if a < h.1 ∧ h.2.2.1 a = ic.2.1 then xv_nx (pc + 1) L (.int (Int32.ofNat (h.2.2.2.1 a)) :: r) h else none
  | .new _ => xv_new1 (pc + 3) L st h ic.2.1 0 ic.2.2
  | .newarray _ => xv_i1 st fun n r => xv_len n (xv_new1 (pc + 2) L r h ic.2.1 n.toNatClampNeg n.toNatClampNeg)
  | .anewarray _ => xv_i1 st fun n r => xv_len n (xv_new1 (pc + 3) L r h ic.2.1 n.toNatClampNeg n.toNatClampNeg)
  | .checkcast _ => match st with
    | .null :: _ => xv_nx (pc + 3) L st h
    | .ref a :: _ => if a < h.1 ∧ h.2.2.1 a = ic.2.1 then xv_nx (pc + 3) L st h else none
    | _ => none
  | _ => none
/-- a return -/
def xv_ret (ic : xv_I) (st : List Value) : Option (Option Value) := match ic.1 with
  | .ireturn => match st with
    | [.int v] => if ic.2.2 = 0 ∨ (ic.2.2 = 2 ∧ (v = 0 ∨ v = 1)) then some (some (.int v)) else none
    | _ => none
  | .lreturn => match st with
    | [.long v] => some (some (.long v))
    | _ => none
  | .areturn => match st with
    | [.ref a] => some (some (.ref a))
    | [.null] => some (some .null)
    | _ => none
  | .return_ => match st with
    | [] => some none
    | _ => none
  | _ => none
/-- a call, or what the machine does itself -/
def xv_inv (cp cs : Nat → Nat) (lgs : Nat → List Nat) (mx : Nat → Nat) (ic : xv_I) (pc : Nat) (L : xv_L) (st : List Value) (h : xv_H) : xv_K := match ic.1 with
  | .invokestatic _ => if ic.2.1 = 1000 then
      match st with
      | .int n :: .int dp :: .ref d :: .int sp :: .ref s :: r => (xv_copy cp ic.2.2 (pc + 3) L h n dp d sp s r).map .inl
      | _ => none
    else if st.length < ic.2.2 then none else xv_call lgs mx ic.2.1 (st.take ic.2.2).reverse (st.drop ic.2.2) (pc + 3)
  | .invokespecial _ => if ic.2.1 = 1001 then xv_r1 st fun _ r => if xv_room r = true then (xv_nx (pc + 3) L r h).map .inl else none
    else if st.length < ic.2.2 then none else xv_r1 (st.drop ic.2.2) fun b r => xv_call lgs mx ic.2.1 (.ref b :: (st.take ic.2.2).reverse) r (pc + 3)
  | .invokevirtual _ => if ic.2.1 = 1002 then xv_r1 st fun a r => (xv_clone (pc + 3) L h a r).map .inl
    else if ic.2.1 = 1003 then xv_r1 st fun a r => if a < h.1 ∧ h.2.2.1 a = ic.2.2 ∧ xv_room r = true then (xv_nx (pc + 3) L (.ref (xv_SB + 2) :: r) h).map .inl else none
    else if st.length < ic.2.2 then none else xv_r1 (st.drop ic.2.2) fun b r => if b < h.1 ∧ h.2.2.1 b = cs ic.2.1 then xv_call lgs mx ic.2.1 (.ref b :: (st.take ic.2.2).reverse) r (pc + 3) else none
  | _ => none
/-- 1: a return, 2: a call -/
def xv_kind (i : ClassFile.Instr) : Nat := match i with
  | .ireturn | .lreturn | .areturn | .return_ => 1
  | .invokestatic _ | .invokespecial _ | .invokevirtual _ => 2
  | _ => 0
def xv_exec (sc : Nat × (Nat → Int32)) (cd : Nat → Nat → Option xv_I) (cp cs : Nat → Nat) (lgs : Nat → List Nat) (mx : Nat → Nat) : Nat → Nat → Nat → xv_L → List Value → xv_H → Option (Option Value × xv_H)
  | 0, _, _, _, _, _ => none
  | f + 1, y, pc, L, st, h => match cd y pc with
    | none => none
    | some ic => match xv_kind ic.1 with
      | 0 => match xv_act sc cp (lgs y) ic pc L st h with
        | none => none
        | some x => xv_exec sc cd cp cs lgs mx f y x.1 x.2.1 x.2.2.1 x.2.2.2
      | 1 => match xv_ret ic st with
        | none => none
        | some r => some (r, h)
      | _ => match xv_inv cp cs lgs mx ic pc L st h with
        | none => none
        | some (.inl x) => xv_exec sc cd cp cs lgs mx f y x.1 x.2.1 x.2.2.1 x.2.2.2
        | some (.inr k) => match xv_exec sc cd cp cs lgs mx f k.1 0 (xv_ent (mx k.1) k.2.1) [] h with
          | none => none
          | some q => xv_exec sc cd cp cs lgs mx f y k.2.2.2 L (q.1.toList ++ k.2.2.1) q.2
/-- more steps allowed, the same end -/
theorem xv_exec_succ {sc : Nat × (Nat → Int32)} {cd : Nat → Nat → Option xv_I} {cp cs : Nat → Nat} {lgs : Nat → List Nat} {mx : Nat → Nat} : ∀ (f y pc : Nat) (L : xv_L) (st : List Value) (h : xv_H) (x : Option Value × xv_H), xv_exec sc cd cp cs lgs mx f y pc L st h = some x → xv_exec sc cd cp cs lgs mx (f + 1) y pc L st h = some x := by
  intro f
  induction f with
  | zero => intro y pc L st h x hx; cases hx
  | succ f ih =>
    intro y pc L st h x hx
    rw [xv_exec] at hx ⊢
    cases hc : cd y pc with
    | none => rw [hc] at hx; cases hx
    | some ic =>
      simp only [hc] at hx ⊢
      split at hx
      · rename_i hk
        cases ha : xv_act sc cp (lgs y) ic pc L st h with
        | none => rw [ha] at hx; cases hx
        | some b =>
          simp only [ha] at hx ⊢
          exact ih _ _ _ _ _ _ hx
      · exact hx
      · cases ha : xv_inv cp cs lgs mx ic pc L st h with
        | none => rw [ha] at hx; cases hx
        | some b =>
          simp only [ha] at hx ⊢
          rcases b with b | k
          · exact ih _ _ _ _ _ _ hx
          · simp only at hx ⊢
            cases hc2 : xv_exec sc cd cp cs lgs mx f k.1 0 (xv_ent (mx k.1) k.2.1) [] h with
            | none => rw [hc2] at hx; cases hx
            | some q =>
              simp only [hc2] at hx
              rw [ih _ _ _ _ _ _ hc2]
              exact ih _ _ _ _ _ _ hx
theorem xv_exec_le {sc : Nat × (Nat → Int32)} {cd : Nat → Nat → Option xv_I} {cp cs : Nat → Nat} {lgs : Nat → List Nat} {mx : Nat → Nat} {f g y pc : Nat} {L : xv_L} {st : List Value} {h : xv_H} {x : Option Value × xv_H} (hx : xv_exec sc cd cp cs lgs mx f y pc L st h = some x) (hg : f ≤ g) : xv_exec sc cd cp cs lgs mx g y pc L st h = some x := by
  induction hg with
  | refl => exact hx
  | step _ ih => exact xv_exec_succ _ _ _ _ _ _ _ ih
end
section
/-! What the abstract heap says of the machine's: cell a is the machine's cell B0 + a; the numbers from xv_SB on are cells that were there before. -/
/-- B0; how many cells were there before; where; the tables of classes and of fields; of arrays; the heap before -/
abbrev xv_W : Type := Nat × Nat × (Nat → Nat) × va_G × (Nat → ClassId) × Heap
def xv_al (w : xv_W) (n : Nat) : Nat := if xv_SB ≤ n ∧ n < xv_SB + w.2.1 then w.2.2.1 (n - xv_SB) else w.1 + n
def xv_cv (al : Nat → Nat) (v : Value) : Value := match v with
  | .ref n => .ref (al n)
  | v => v
def xv_fv (w : xv_W) (rk : Nat → Bool) (h : xv_H) (f a : Nat) : Value := if rk f = true then xv_cv (xv_al w) (va_rf (h.2.2.2.2.1 f a)) else .int (h.2.2.2.2.2.2.1 f a)
def xv_ev (w : xv_W) (h : xv_H) (t a i : Nat) : Value := if t = 103 then .long (h.2.2.2.2.2.2.2.2 a i) else if 104 ≤ t then xv_cv (xv_al w) (va_rf (h.2.2.2.2.2.1 a i)) else .int (h.2.2.2.2.2.2.2.1 a i)
def xv_at (w : xv_W) (cl : List vw_C) (rk : Nat → Bool) (h : xv_H) (a : Nat) (cell : Cell) : Prop := cell.vm = .none ∧
  ((h.2.2.1 a < 100 ∧ cell.cls = w.2.2.2.1.1 (h.2.2.1 a) ∧ ∃ q : vw_C, cl[h.2.2.1 a]? = some q ∧ ∀ k, k < q.2.2 → cell.slots[w.2.2.2.1.2 (h.2.2.1 a) k]? = some (xv_fv w rk h (100 * h.2.2.1 a + k) a)) ∨
   (100 ≤ h.2.2.1 a ∧ cell.cls = w.2.2.2.2.1 (h.2.2.1 a - 100) ∧ cell.slots.size = h.2.2.2.1 a ∧ ∀ i, i < h.2.2.2.1 a → cell.slots[i]? = some (xv_ev w h (h.2.2.1 a) a i)))
def xv_R (w : xv_W) (cl : List vw_C) (rk : Nat → Bool) (h : xv_H) (H : Heap) : Prop := H.size = w.1 + h.1 ∧ (∀ q, q < w.1 → H[q]? = w.2.2.2.2.2[q]?) ∧ ∀ a, a < h.1 → ∃ cell : Cell, H[w.1 + a]? = some cell ∧ xv_at w cl rk h a cell
def xv_as (al : Nat → Nat) (L : xv_L) : List (Nat × Value) := (List.range L.length).filterMap fun j => match L[j]? with
  | some (some v) => some (j, xv_cv al v)
  | _ => none
theorem xv_as_mem {al : Nat → Nat} {L : xv_L} {q : Nat × Value} : q ∈ xv_as al L ↔ ∃ v, L[q.1]? = some (some v) ∧ q.2 = xv_cv al v := by
  obtain ⟨j, u⟩ := q
  simp only [xv_as, List.mem_filterMap, List.mem_range]
  constructor
  · rintro ⟨i, hi, h⟩
    cases hL : L[i]? with
    | none => rw [hL] at h; cases h
    | some o =>
      cases o with
      | none => rw [hL] at h; cases h
      | some v =>
        rw [hL] at h
        simp only [Option.some.injEq, Prod.mk.injEq] at h
        obtain ⟨rfl, rfl⟩ := h
        exact ⟨v, hL, rfl⟩
  · rintro ⟨v, h1, h2⟩
    refine ⟨j, (List.getElem?_eq_some_iff.mp h1).1, ?_⟩
    have h1' : L[j]? = some (some v) := h1
    have h2' : u = xv_cv al v := h2
    rw [h1', h2']
theorem xv_cv_cat (al : Nat → Nat) (v : Value) : (xv_cv al v).category = v.category := by cases v <;> rfl
/-- the locals -/
def xv_ls (al : Nat → Nat) (lg : List Nat) (nL : Nat) (L : xv_L) (ls : Array Slot) : Prop := lv_has ls nL (xv_as al L) ∧ L.length = nL ∧ ∀ (j : Nat) (v : Value), L[j]? = some (some v) → v.category = 2 → j ∈ lg
theorem xv_ls.at {al : Nat → Nat} {lg : List Nat} {nL : Nat} {L : xv_L} {ls : Array Slot} (h : xv_ls al lg nL L ls) {i : Nat} {v : Value} (hi : L[i]? = some (some v)) : ls[i]? = some (.val (xv_cv al v)) :=
  h.1.2.2 (i, xv_cv al v) (xv_as_mem.mpr ⟨v, hi, rfl⟩)
theorem xv_has_sub {ls : Array Slot} {nL : Nat} {l l' : List (Nat × Value)} (h : lv_has ls nL l) (hs : ∀ q ∈ l', q ∈ l) : lv_has ls nL l' := ⟨h.1, h.2.1, fun q hq => h.2.2 q (hs q hq)⟩
theorem xv_b1_spec {lg : List Nat} {i : Nat} (h : xv_b1 lg i = true) {j : Nat} (hj : j + 1 = i) : j ∉ lg := by
  simp only [xv_b1, Bool.or_eq_true, beq_iff_eq, Bool.not_eq_true', List.contains_eq_mem] at h
  rcases h with h | h
  · omega
  · rw [show i - 1 = j by omega] at h
    simpa using h
theorem xv_ls.st1 {al : Nat → Nat} {lg : List Nat} {nL : Nat} {L : xv_L} {ls ls' : Array Slot} (h : xv_ls al lg nL L ls) {i : Nat} {v : Value} (hi : i < L.length) (hb : xv_b1 lg i = true) (hv : v.category = 1)
    (h' : lv_has ls' nL ((i, xv_cv al v) :: (xv_as al L).filter (fun q => !(q.1 == i) && !(q.1 + 1 == i && q.2.category == 2)))) : xv_ls al lg nL (L.set i (some v)) ls' := by
  refine ⟨xv_has_sub h' fun q hq => ?_, by simpa using h.2.1, fun j u hj hu => ?_⟩
  · obtain ⟨u, h1, h2⟩ := xv_as_mem.mp hq
    by_cases hqi : q.1 = i
    · rw [hqi, List.getElem?_set_self hi] at h1
      have e : u = v := by simpa using h1.symm
      subst e
      exact List.mem_cons.mpr (Or.inl (Prod.ext hqi h2))
    · rw [List.getElem?_set_ne (Ne.symm hqi)] at h1
      refine List.mem_cons_of_mem _ (List.mem_filter.mpr ⟨xv_as_mem.mpr ⟨u, h1, h2⟩, ?_⟩)
      have hc : ¬ (q.1 + 1 = i ∧ q.2.category = 2) := fun ⟨e1, e2⟩ => xv_b1_spec hb e1 (h.2.2 q.1 u h1 (by rw [h2, xv_cv_cat] at e2; exact e2))
      simp only [Bool.and_eq_true, Bool.not_eq_true', beq_eq_false_iff_ne, ne_eq, Bool.and_eq_false_imp, beq_iff_eq]
      exact ⟨hqi, fun e1 e2 => hc ⟨e1, e2⟩⟩
  · by_cases hji : j = i
    · rw [hji, List.getElem?_set_self hi] at hj
      have e : u = v := by simpa using hj.symm
      subst e
      omega
    · rw [List.getElem?_set_ne (Ne.symm hji)] at hj
      exact h.2.2 j u hj hu
theorem xv_ls.st2 {al : Nat → Nat} {lg : List Nat} {nL : Nat} {L : xv_L} {ls ls' : Array Slot} (h : xv_ls al lg nL L ls) {i : Nat} {v : Value} (hi : i + 1 < L.length) (hb : xv_b1 lg i = true) (hm : i ∈ lg)
    (h' : lv_has ls' nL ((i, xv_cv al v) :: (xv_as al L).filter (fun q => !(q.1 == i) && (!(q.1 == i + 1) && !(q.1 + 1 == i && q.2.category == 2))))) : xv_ls al lg nL ((L.set i (some v)).set (i + 1) none) ls' := by
  have key : ∀ (j : Nat) (u : Value), ((L.set i (some v)).set (i + 1) none)[j]? = some (some u) → (j = i ∧ u = v) ∨ (j ≠ i ∧ j ≠ i + 1 ∧ L[j]? = some (some u)) := by
    intro j u hj
    by_cases h1 : j = i + 1
    · subst h1
      rw [List.getElem?_set_self (by simpa using hi)] at hj
      cases hj
    · rw [List.getElem?_set_ne (Ne.symm h1)] at hj
      by_cases h2 : j = i
      · subst h2
        rw [List.getElem?_set_self (by omega)] at hj
        exact Or.inl ⟨rfl, by simpa using hj.symm⟩
      · rw [List.getElem?_set_ne (Ne.symm h2)] at hj
        exact Or.inr ⟨h2, h1, hj⟩
  refine ⟨xv_has_sub h' fun q hq => ?_, by simpa using h.2.1, fun j u hj hu => ?_⟩
  · obtain ⟨u, h1, h2⟩ := xv_as_mem.mp hq
    rcases key _ _ h1 with ⟨e1, e2⟩ | ⟨e1, e2, e3⟩
    · subst e2
      exact List.mem_cons.mpr (Or.inl (Prod.ext e1 h2))
    · refine List.mem_cons_of_mem _ (List.mem_filter.mpr ⟨xv_as_mem.mpr ⟨u, e3, h2⟩, ?_⟩)
      have hc : ¬ (q.1 + 1 = i ∧ q.2.category = 2) := fun ⟨d1, d2⟩ => xv_b1_spec hb d1 (h.2.2 q.1 u e3 (by rw [h2, xv_cv_cat] at d2; exact d2))
      simp only [Bool.and_eq_true, Bool.not_eq_true', beq_eq_false_iff_ne, ne_eq, Bool.and_eq_false_imp, beq_iff_eq]
      exact ⟨e1, e2, fun d1 d2 => hc ⟨d1, d2⟩⟩
  · rcases key _ _ hj with ⟨e1, -⟩ | ⟨-, -, e3⟩
    · rw [e1]; exact hm
    · exact h.2.2 j u e3 hu
/-- where the arguments stand -/
theorem xv_fit_spec {lg : List Nat} {n : Nat} : ∀ (av : List Value) (i : Nat), xv_fit lg n i av = true → i + (xv_sl av).length ≤ n ∧ ∀ (j : Nat) (v : Value), (xv_sl av)[j]? = some (some v) → v.category = 2 → i + j ∈ lg
  | [], i, h => ⟨by simpa [xv_fit, xv_sl] using h, fun j v hj => by simp [xv_sl] at hj⟩
  | v :: vs, i, h => by
    by_cases hc : v.category = 2
    · simp only [xv_fit, hc, if_true, Bool.and_eq_true, List.contains_eq_mem, decide_eq_true_eq] at h
      obtain ⟨h1, h2⟩ := xv_fit_spec vs (i + 2) h.2
      have e : xv_sl (v :: vs) = some v :: none :: xv_sl vs := by simp [xv_sl, hc]
      rw [e]
      refine ⟨by simp only [List.length_cons]; omega, fun j u hj hu => ?_⟩
      rcases j with _ | _ | j
      · exact h.1
      · simp at hj
      · have := h2 j u (by simpa using hj) hu
        rw [show i + (j + 1 + 1) = i + 2 + j by omega]
        exact this
    · simp only [xv_fit, hc, if_false] at h
      obtain ⟨h1, h2⟩ := xv_fit_spec vs (i + 1) h
      have e : xv_sl (v :: vs) = some v :: xv_sl vs := by simp [xv_sl, hc]
      rw [e]
      refine ⟨by simp only [List.length_cons]; omega, fun j u hj hu => ?_⟩
      rcases j with _ | j
      · exfalso
        simp at hj
        subst hj
        exact hc hu
      · have := h2 j u (by simpa using hj) hu
        rw [show i + (j + 1) = i + 1 + j by omega]
        exact this
theorem xv_sl_len (al : Nat → Nat) : ∀ av : List Value, (lg_sl (av.map (xv_cv al))).length = (xv_sl av).length
  | [] => rfl
  | v :: vs => by
    have ih := xv_sl_len al vs
    by_cases hc : v.category = 2
    · have e1 : xv_sl (v :: vs) = some v :: none :: xv_sl vs := by simp [xv_sl, hc]
      have e2 : lg_sl ((v :: vs).map (xv_cv al)) = .val (xv_cv al v) :: .second :: lg_sl (vs.map (xv_cv al)) := by simp [lg_sl, hc, xv_cv_cat]
      rw [e1, e2]; simp [ih]
    · have e1 : xv_sl (v :: vs) = some v :: xv_sl vs := by simp [xv_sl, hc]
      have e2 : lg_sl ((v :: vs).map (xv_cv al)) = .val (xv_cv al v) :: lg_sl (vs.map (xv_cv al)) := by simp [lg_sl, hc, xv_cv_cat]
      rw [e1, e2]; simp [ih]
theorem xv_sl_args (al : Nat → Nat) : ∀ (av : List Value) (i j : Nat) (v : Value), (xv_sl av)[j]? = some (some v) → (i + j, xv_cv al v) ∈ lv_args i (av.map (xv_cv al))
  | [], i, j, v, h => by simp [xv_sl] at h
  | u :: us, i, j, v, h => by
    by_cases hc : u.category = 2
    · have e1 : xv_sl (u :: us) = some u :: none :: xv_sl us := by simp [xv_sl, hc]
      rw [e1] at h
      simp only [List.map_cons, lv_args, xv_cv_cat, hc, if_true]
      rcases j with _ | _ | j
      · simp at h; subst h; exact List.mem_cons_self
      · simp at h
      · have := xv_sl_args al us (i + 2) j v (by simpa using h)
        rw [show i + (j + 1 + 1) = i + 2 + j by omega]
        exact List.mem_cons_of_mem _ this
    · have e1 : xv_sl (u :: us) = some u :: xv_sl us := by simp [xv_sl, hc]
      rw [e1] at h
      simp only [List.map_cons, lv_args, xv_cv_cat, hc, if_false]
      rcases j with _ | j
      · simp at h; subst h; exact List.mem_cons_self
      · have := xv_sl_args al us (i + 1) j v (by simpa using h)
        rw [show i + (j + 1) = i + 1 + j by omega]
        exact List.mem_cons_of_mem _ this
theorem xv_ls_entry (al : Nat → Nat) {lg : List Nat} {n : Nat} {av : List Value} (h : xv_fit lg n 0 av = true) : xv_ls al lg n (xv_ent n av) ((lg_sl (av.map (xv_cv al)) ++ List.replicate (n - (lg_sl (av.map (xv_cv al))).length) Slot.unset).toArray) := by
  obtain ⟨h1, h2⟩ := xv_fit_spec av 0 h
  have hl := lv_entry (av.map (xv_cv al)) (n := n) (by rw [xv_sl_len]; omega)
  have key : ∀ (j : Nat) (v : Value), (xv_ent n av)[j]? = some (some v) → (xv_sl av)[j]? = some (some v) := by
    intro j v hj
    by_cases hlt : j < (xv_sl av).length
    · rw [xv_ent, List.getElem?_append_left hlt] at hj
      exact hj
    · rw [xv_ent, List.getElem?_append_right (by omega)] at hj
      have := List.eq_of_mem_replicate (List.mem_of_getElem? hj)
      cases this
  refine ⟨xv_has_sub hl fun q hq => ?_, by simp [xv_ent]; omega, fun j v hj hv => ?_⟩
  · obtain ⟨v, e1, e2⟩ := xv_as_mem.mp hq
    have := xv_sl_args al av 0 q.1 v (key _ _ e1)
    rw [Nat.zero_add, ← e2] at this
    exact this
  · have := h2 j v (key _ _ hj) hv
    rwa [Nat.zero_add] at this
end
section
/-! One instruction of the abstract machine is one of the machine's. -/
/-- what the walk needs beside the words: casts, arrays of references, the call of a private start across a nest, the Class of Object[] -/
abbrev xv_X : Type := List (String × String) × List String × List (String × Nat × MethodName × String)
def xv_E (w : xv_W) (sx : xv_X) (U : State) : Prop := (∀ q ∈ sx.1, va_Nw (.castable q.1 q.2) U) ∧ (∀ C ∈ sx.2.1, va_AO C U) ∧ (∀ q ∈ sx.2.2, va_Nw (.methodLinkNest q.1 q.2.1 q.2.2.1 q.2.2.2) U) ∧ va_Mi "[Ljava/lang/Object;" (w.2.2.1 2) U ∧ va_Dc U ∧ 2 < w.2.1
theorem xv_E.warm {w : xv_W} {sx : xv_X} {u U : State} (hW : u.WarmedH U.vm) (h : xv_E w sx u) : xv_E w sx U :=
  ⟨fun q hq => (h.1 q hq).warmC hW, fun C hC => (h.2.1 C hC).moved hW.alike, fun q hq => (h.2.2.1 q hq).warmM hW, h.2.2.2.1.moved hW.alike, h.2.2.2.2.1.moved hW.alike, h.2.2.2.2.2⟩
/-- what a method's walk stands on: the machine, the code, its locals, its own name, the words; the tables; the room; the script and the cells that were there before -/
def xv_Cx (p : Program) (R : Room) (s : State) (m : MethodId) (args : Array Value) (meth : Method) (c : Code) (cc : ByteArray) (w : xv_W) (cl : List vw_C) (aty : List FieldType) (WS : List Jvm.Cond) (stt : List (String × String × String)) (sx : xv_X) (sc : Nat × (Nat → Int32)) (own : String) (nL n0 z0 nE zE : Nat) : Prop :=
  (p.tables.exec = Jvm.exec ∧ c.code = cc ∧ c.maxLocals = nL ∧ s.vm.findClass own = some m.cls ∧ ∀ x ∈ WS, x.before args s = true) ∧
  (va_K w.2.2.2.1 cl [] s ∧ ∀ (j : Nat) (ty : FieldType), aty[j]? = some ty → ArrOfT s (w.2.2.2.2.1 j) ty ∧ va_RA s (w.2.2.2.2.1 j) ty) ∧
  (R.cells + n0 = nE ∧ R.slots + z0 = zE ∧ nE ≤ xv_SB ∧ w.1 ≤ s.heap.size) ∧
  (va_X (w.2.2.1 0) sc.1 sc.2 s s.heap ∧ w.2.2.1 0 < w.1 ∧ 1 < w.2.1 ∧ ∃ fv : Nat → Value, va_T (.object "java/lang/Object") (w.2.2.1 1) 0 fv (fun a => w.1 ≤ a) s s.heap) ∧
  xv_E w sx s ∧ ∀ (k : Nat) (q : String × String × String), stt[k]? = some q → k < w.2.1 ∧ va_Z q.1 q.2.1 q.2.2 (.ref (w.2.2.1 k)) (fun a => w.1 ≤ a) s s.heap
/-- the machine, at this point of the abstract one, comes to Q -/
def xv_G (p : Program) (l : Launch) (e : Env) (R : Room) (s : State) (m : MethodId) (args : Array Value) (below : List Frame) (meth : Method) (c : Code) (Q : State → Prop) (w : xv_W) (cl : List vw_C) (rk : Nat → Bool) (lg : List Nat) (nL n0 z0 : Nat) (x : xv_N) : Prop :=
  ∀ (ls : Array Slot) (H : Heap) (locs : List Loc), xv_ls (xv_al w) lg nL x.2.1 ls → xv_R w cl rk x.2.2.2 H → va_S (fun a => w.1 ≤ a) s.heap H locs → n0 ≤ x.2.2.2.1 → z0 ≤ x.2.2.2.2.1 →
    W p l e R s m args below meth c H locs (x.2.2.2.1 - n0) (x.2.2.2.2.1 - z0) Q (F0 m x.1 ls (x.2.2.1.map (xv_cv (xv_al w))))
theorem xv_al_lt {w : xv_W} {a : Nat} (h : a < xv_SB) : xv_al w a = w.1 + a := by
  unfold xv_al
  rw [if_neg (by omega)]
theorem xv_al_st {w : xv_W} {k : Nat} (h : k < w.2.1) : xv_al w (xv_SB + k) = w.2.2.1 k := by
  unfold xv_al
  rw [if_pos (by omega), Nat.add_sub_cancel_left]
theorem xv_cv_rf (w : xv_W) (o : Option Nat) : xv_cv (xv_al w) (va_rf o) = va_rf (o.map (xv_al w)) := by cases o <;> rfl
section XS
variable {p : Program} {l : Launch} {e : Env} {R : Room} {s : State} {m : MethodId} {args : Array Value} {below : List Frame} {meth : Method} {c : Code} {Q : State → Prop} {cc : ByteArray} {w : xv_W} {cl : List vw_C} {rk : Nat → Bool} {aty : List FieldType} {WS : List Jvm.Cond} {stt : List (String × String × String)} {sx : xv_X} {sc : Nat × (Nat → Int32)} {own : String} {nL n0 z0 nE zE : Nat} {lg : List Nat} {pc : Nat} {L : xv_L} {st r : List Value} {h : xv_H} {x y : Int32} {u v : Int64} {i t : Nat}
/-- plain instructions: constants, arithmetic, the stack -/
theorem xs_null (hC : xv_Cx p R s m args meth c cc w cl aty WS stt sx sc own nL n0 z0 nE zE) (hd : decode cc pc = .ok (.aconst_null, 1)) (hG : xv_G p l e R s m args below meth c Q w cl rk lg nL n0 z0 (pc + 1, L, .null :: st, h)) : xv_G p l e R s m args below meth c Q w cl rk lg nL n0 z0 (pc, L, st, h) :=
  fun ls H locs hl hR hS h1 h2 => lv_null hC.1.1 hC.1.2.1 hd (hG ls H locs hl hR hS h1 h2)
theorem xs_iconst {n : Int} (hC : xv_Cx p R s m args meth c cc w cl aty WS stt sx sc own nL n0 z0 nE zE) (hd : decode cc pc = .ok (.iconst n, 1)) (hG : xv_G p l e R s m args below meth c Q w cl rk lg nL n0 z0 (pc + 1, L, .int (Int32.ofInt n) :: st, h)) : xv_G p l e R s m args below meth c Q w cl rk lg nL n0 z0 (pc, L, st, h) :=
  fun ls H locs hl hR hS h1 h2 => lv_iconst hC.1.1 hC.1.2.1 hd rfl (hG ls H locs hl hR hS h1 h2)
theorem xs_bipush {n : Int} (hC : xv_Cx p R s m args meth c cc w cl aty WS stt sx sc own nL n0 z0 nE zE) (hd : decode cc pc = .ok (.bipush n, 2)) (hG : xv_G p l e R s m args below meth c Q w cl rk lg nL n0 z0 (pc + 2, L, .int (Int8.ofInt n).toInt32 :: st, h)) : xv_G p l e R s m args below meth c Q w cl rk lg nL n0 z0 (pc, L, st, h) :=
  fun ls H locs hl hR hS h1 h2 => lv_bipush hC.1.1 hC.1.2.1 hd rfl (hG ls H locs hl hR hS h1 h2)
theorem xs_sipush {n : Int} (hC : xv_Cx p R s m args meth c cc w cl aty WS stt sx sc own nL n0 z0 nE zE) (hd : decode cc pc = .ok (.sipush n, 3)) (hG : xv_G p l e R s m args below meth c Q w cl rk lg nL n0 z0 (pc + 3, L, .int (Int16.ofInt n).toInt32 :: st, h)) : xv_G p l e R s m args below meth c Q w cl rk lg nL n0 z0 (pc, L, st, h) :=
  fun ls H locs hl hR hS h1 h2 => lv_sipush hC.1.1 hC.1.2.1 hd rfl (hG ls H locs hl hR hS h1 h2)
theorem xs_lconst {n : Fin 2} (hC : xv_Cx p R s m args meth c cc w cl aty WS stt sx sc own nL n0 z0 nE zE) (hd : decode cc pc = .ok (.lconst n, 1)) (hG : xv_G p l e R s m args below meth c Q w cl rk lg nL n0 z0 (pc + 1, L, .long (Int64.ofNat (n : Nat)) :: st, h)) : xv_G p l e R s m args below meth c Q w cl rk lg nL n0 z0 (pc, L, st, h) :=
  fun ls H locs hl hR hS h1 h2 => lv_lconst hC.1.1 hC.1.2.1 hd rfl (hG ls H locs hl hR hS h1 h2)
theorem xs_iadd (hC : xv_Cx p R s m args meth c cc w cl aty WS stt sx sc own nL n0 z0 nE zE) (hd : decode cc pc = .ok (.iadd, 1)) (hG : xv_G p l e R s m args below meth c Q w cl rk lg nL n0 z0 (pc + 1, L, .int (x + y) :: st, h)) : xv_G p l e R s m args below meth c Q w cl rk lg nL n0 z0 (pc, L, .int y :: .int x :: st, h) :=
  fun ls H locs hl hR hS h1 h2 => lv_iadd hC.1.1 hC.1.2.1 hd (hG ls H locs hl hR hS h1 h2)
theorem xs_isub (hC : xv_Cx p R s m args meth c cc w cl aty WS stt sx sc own nL n0 z0 nE zE) (hd : decode cc pc = .ok (.isub, 1)) (hG : xv_G p l e R s m args below meth c Q w cl rk lg nL n0 z0 (pc + 1, L, .int (x - y) :: st, h)) : xv_G p l e R s m args below meth c Q w cl rk lg nL n0 z0 (pc, L, .int y :: .int x :: st, h) :=
  fun ls H locs hl hR hS h1 h2 => lv_isub hC.1.1 hC.1.2.1 hd (hG ls H locs hl hR hS h1 h2)
theorem xs_imul (hC : xv_Cx p R s m args meth c cc w cl aty WS stt sx sc own nL n0 z0 nE zE) (hd : decode cc pc = .ok (.imul, 1)) (hG : xv_G p l e R s m args below meth c Q w cl rk lg nL n0 z0 (pc + 1, L, .int (x * y) :: st, h)) : xv_G p l e R s m args below meth c Q w cl rk lg nL n0 z0 (pc, L, .int y :: .int x :: st, h) :=
  fun ls H locs hl hR hS h1 h2 => lv_imul hC.1.1 hC.1.2.1 hd (hG ls H locs hl hR hS h1 h2)
theorem xs_iand (hC : xv_Cx p R s m args meth c cc w cl aty WS stt sx sc own nL n0 z0 nE zE) (hd : decode cc pc = .ok (.iand, 1)) (hG : xv_G p l e R s m args below meth c Q w cl rk lg nL n0 z0 (pc + 1, L, .int (x &&& y) :: st, h)) : xv_G p l e R s m args below meth c Q w cl rk lg nL n0 z0 (pc, L, .int y :: .int x :: st, h) :=
  fun ls H locs hl hR hS h1 h2 => lv_iand hC.1.1 hC.1.2.1 hd (hG ls H locs hl hR hS h1 h2)
theorem xs_ior (hC : xv_Cx p R s m args meth c cc w cl aty WS stt sx sc own nL n0 z0 nE zE) (hd : decode cc pc = .ok (.ior, 1)) (hG : xv_G p l e R s m args below meth c Q w cl rk lg nL n0 z0 (pc + 1, L, .int (x ||| y) :: st, h)) : xv_G p l e R s m args below meth c Q w cl rk lg nL n0 z0 (pc, L, .int y :: .int x :: st, h) :=
  fun ls H locs hl hR hS h1 h2 => lv_ior hC.1.1 hC.1.2.1 hd (hG ls H locs hl hR hS h1 h2)
theorem xs_ishl (hC : xv_Cx p R s m args meth c cc w cl aty WS stt sx sc own nL n0 z0 nE zE) (hd : decode cc pc = .ok (.ishl, 1)) (hG : xv_G p l e R s m args below meth c Q w cl rk lg nL n0 z0 (pc + 1, L, .int (x <<< (y &&& 31)) :: st, h)) : xv_G p l e R s m args below meth c Q w cl rk lg nL n0 z0 (pc, L, .int y :: .int x :: st, h) :=
  fun ls H locs hl hR hS h1 h2 => lv_ishl hC.1.1 hC.1.2.1 hd (hG ls H locs hl hR hS h1 h2)
theorem xs_ishr (hC : xv_Cx p R s m args meth c cc w cl aty WS stt sx sc own nL n0 z0 nE zE) (hd : decode cc pc = .ok (.ishr, 1)) (hG : xv_G p l e R s m args below meth c Q w cl rk lg nL n0 z0 (pc + 1, L, .int (x >>> (y &&& 31)) :: st, h)) : xv_G p l e R s m args below meth c Q w cl rk lg nL n0 z0 (pc, L, .int y :: .int x :: st, h) :=
  fun ls H locs hl hR hS h1 h2 => lv_ishr hC.1.1 hC.1.2.1 hd (hG ls H locs hl hR hS h1 h2)
theorem xs_idiv (hC : xv_Cx p R s m args meth c cc w cl aty WS stt sx sc own nL n0 z0 nE zE) (hd : decode cc pc = .ok (.idiv, 1)) (hy : ¬ y = 0) (hG : xv_G p l e R s m args below meth c Q w cl rk lg nL n0 z0 (pc + 1, L, .int (x / y) :: st, h)) : xv_G p l e R s m args below meth c Q w cl rk lg nL n0 z0 (pc, L, .int y :: .int x :: st, h) :=
  fun ls H locs hl hR hS h1 h2 => lv_idiv hC.1.1 hC.1.2.1 hd hy (hG ls H locs hl hR hS h1 h2)
theorem xs_irem (hC : xv_Cx p R s m args meth c cc w cl aty WS stt sx sc own nL n0 z0 nE zE) (hd : decode cc pc = .ok (.irem, 1)) (hy : ¬ y = 0) (hG : xv_G p l e R s m args below meth c Q w cl rk lg nL n0 z0 (pc + 1, L, .int (x - x / y * y) :: st, h)) : xv_G p l e R s m args below meth c Q w cl rk lg nL n0 z0 (pc, L, .int y :: .int x :: st, h) :=
  fun ls H locs hl hR hS h1 h2 => lv_irem hC.1.1 hC.1.2.1 hd hy (hG ls H locs hl hR hS h1 h2)
theorem xs_ladd (hC : xv_Cx p R s m args meth c cc w cl aty WS stt sx sc own nL n0 z0 nE zE) (hd : decode cc pc = .ok (.ladd, 1)) (hG : xv_G p l e R s m args below meth c Q w cl rk lg nL n0 z0 (pc + 1, L, .long (u + v) :: st, h)) : xv_G p l e R s m args below meth c Q w cl rk lg nL n0 z0 (pc, L, .long v :: .long u :: st, h) :=
  fun ls H locs hl hR hS h1 h2 => lv_ladd hC.1.1 hC.1.2.1 hd (hG ls H locs hl hR hS h1 h2)
theorem xs_lmul (hC : xv_Cx p R s m args meth c cc w cl aty WS stt sx sc own nL n0 z0 nE zE) (hd : decode cc pc = .ok (.lmul, 1)) (hG : xv_G p l e R s m args below meth c Q w cl rk lg nL n0 z0 (pc + 1, L, .long (u * v) :: st, h)) : xv_G p l e R s m args below meth c Q w cl rk lg nL n0 z0 (pc, L, .long v :: .long u :: st, h) :=
  fun ls H locs hl hR hS h1 h2 => lv_lmul hC.1.1 hC.1.2.1 hd (hG ls H locs hl hR hS h1 h2)
theorem xs_land (hC : xv_Cx p R s m args meth c cc w cl aty WS stt sx sc own nL n0 z0 nE zE) (hd : decode cc pc = .ok (.land, 1)) (hG : xv_G p l e R s m args below meth c Q w cl rk lg nL n0 z0 (pc + 1, L, .long (u &&& v) :: st, h)) : xv_G p l e R s m args below meth c Q w cl rk lg nL n0 z0 (pc, L, .long v :: .long u :: st, h) :=
  fun ls H locs hl hR hS h1 h2 => lv_land hC.1.1 hC.1.2.1 hd (hG ls H locs hl hR hS h1 h2)
theorem xs_lor (hC : xv_Cx p R s m args meth c cc w cl aty WS stt sx sc own nL n0 z0 nE zE) (hd : decode cc pc = .ok (.lor, 1)) (hG : xv_G p l e R s m args below meth c Q w cl rk lg nL n0 z0 (pc + 1, L, .long (u ||| v) :: st, h)) : xv_G p l e R s m args below meth c Q w cl rk lg nL n0 z0 (pc, L, .long v :: .long u :: st, h) :=
  fun ls H locs hl hR hS h1 h2 => lv_lor hC.1.1 hC.1.2.1 hd (hG ls H locs hl hR hS h1 h2)
theorem xs_lxor (hC : xv_Cx p R s m args meth c cc w cl aty WS stt sx sc own nL n0 z0 nE zE) (hd : decode cc pc = .ok (.lxor, 1)) (hG : xv_G p l e R s m args below meth c Q w cl rk lg nL n0 z0 (pc + 1, L, .long (u ^^^ v) :: st, h)) : xv_G p l e R s m args below meth c Q w cl rk lg nL n0 z0 (pc, L, .long v :: .long u :: st, h) :=
  fun ls H locs hl hR hS h1 h2 => lv_lxor hC.1.1 hC.1.2.1 hd (hG ls H locs hl hR hS h1 h2)
theorem xs_lshl (hC : xv_Cx p R s m args meth c cc w cl aty WS stt sx sc own nL n0 z0 nE zE) (hd : decode cc pc = .ok (.lshl, 1)) (hG : xv_G p l e R s m args below meth c Q w cl rk lg nL n0 z0 (pc + 1, L, .long (u <<< (y.toInt64 &&& 63)) :: st, h)) : xv_G p l e R s m args below meth c Q w cl rk lg nL n0 z0 (pc, L, .int y :: .long u :: st, h) :=
  fun ls H locs hl hR hS h1 h2 => lv_lshl hC.1.1 hC.1.2.1 hd rfl (hG ls H locs hl hR hS h1 h2)
theorem xs_lshr (hC : xv_Cx p R s m args meth c cc w cl aty WS stt sx sc own nL n0 z0 nE zE) (hd : decode cc pc = .ok (.lshr, 1)) (hG : xv_G p l e R s m args below meth c Q w cl rk lg nL n0 z0 (pc + 1, L, .long (u >>> (y.toInt64 &&& 63)) :: st, h)) : xv_G p l e R s m args below meth c Q w cl rk lg nL n0 z0 (pc, L, .int y :: .long u :: st, h) :=
  fun ls H locs hl hR hS h1 h2 => lv_lshr hC.1.1 hC.1.2.1 hd rfl (hG ls H locs hl hR hS h1 h2)
theorem xs_i2l (hC : xv_Cx p R s m args meth c cc w cl aty WS stt sx sc own nL n0 z0 nE zE) (hd : decode cc pc = .ok (.i2l, 1)) (hG : xv_G p l e R s m args below meth c Q w cl rk lg nL n0 z0 (pc + 1, L, .long x.toInt64 :: st, h)) : xv_G p l e R s m args below meth c Q w cl rk lg nL n0 z0 (pc, L, .int x :: st, h) :=
  fun ls H locs hl hR hS h1 h2 => lv_i2l hC.1.1 hC.1.2.1 hd rfl (hG ls H locs hl hR hS h1 h2)
theorem xs_l2i (hC : xv_Cx p R s m args meth c cc w cl aty WS stt sx sc own nL n0 z0 nE zE) (hd : decode cc pc = .ok (.l2i, 1)) (hG : xv_G p l e R s m args below meth c Q w cl rk lg nL n0 z0 (pc + 1, L, .int u.toInt32 :: st, h)) : xv_G p l e R s m args below meth c Q w cl rk lg nL n0 z0 (pc, L, .long u :: st, h) :=
  fun ls H locs hl hR hS h1 h2 => lv_l2i hC.1.1 hC.1.2.1 hd rfl (hG ls H locs hl hR hS h1 h2)
theorem xs_i2b (hC : xv_Cx p R s m args meth c cc w cl aty WS stt sx sc own nL n0 z0 nE zE) (hd : decode cc pc = .ok (.i2b, 1)) (hG : xv_G p l e R s m args below meth c Q w cl rk lg nL n0 z0 (pc + 1, L, .int x.toInt8.toInt32 :: st, h)) : xv_G p l e R s m args below meth c Q w cl rk lg nL n0 z0 (pc, L, .int x :: st, h) :=
  fun ls H locs hl hR hS h1 h2 => lv_i2b hC.1.1 hC.1.2.1 hd rfl (hG ls H locs hl hR hS h1 h2)
theorem xs_pop {va : Value} (hC : xv_Cx p R s m args meth c cc w cl aty WS stt sx sc own nL n0 z0 nE zE) (hd : decode cc pc = .ok (.pop, 1)) (hva : va.category = 1) (hG : xv_G p l e R s m args below meth c Q w cl rk lg nL n0 z0 (pc + 1, L, st, h)) : xv_G p l e R s m args below meth c Q w cl rk lg nL n0 z0 (pc, L, va :: st, h) :=
  fun ls H locs hl hR hS h1 h2 => lv_pop hC.1.1 hC.1.2.1 hd ((xv_cv_cat _ _).trans hva) (hG ls H locs hl hR hS h1 h2)
theorem xs_dup {va : Value} (hC : xv_Cx p R s m args meth c cc w cl aty WS stt sx sc own nL n0 z0 nE zE) (hd : decode cc pc = .ok (.dup, 1)) (hva : va.category = 1) (hG : xv_G p l e R s m args below meth c Q w cl rk lg nL n0 z0 (pc + 1, L, va :: va :: st, h)) : xv_G p l e R s m args below meth c Q w cl rk lg nL n0 z0 (pc, L, va :: st, h) :=
  fun ls H locs hl hR hS h1 h2 => lv_dup hC.1.1 hC.1.2.1 hd ((xv_cv_cat _ _).trans hva) (hG ls H locs hl hR hS h1 h2)
theorem xs_dup_x1 {va vb : Value} (hC : xv_Cx p R s m args meth c cc w cl aty WS stt sx sc own nL n0 z0 nE zE) (hd : decode cc pc = .ok (.dup_x1, 1)) (hva : va.category = 1) (hvb : vb.category = 1) (hG : xv_G p l e R s m args below meth c Q w cl rk lg nL n0 z0 (pc + 1, L, va :: vb :: va :: st, h)) : xv_G p l e R s m args below meth c Q w cl rk lg nL n0 z0 (pc, L, va :: vb :: st, h) :=
  fun ls H locs hl hR hS h1 h2 => lv_dup_x1 hC.1.1 hC.1.2.1 hd ((xv_cv_cat _ _).trans hva) ((xv_cv_cat _ _).trans hvb) (hG ls H locs hl hR hS h1 h2)
theorem xs_dup_x2 {va vb vd : Value} (hC : xv_Cx p R s m args meth c cc w cl aty WS stt sx sc own nL n0 z0 nE zE) (hd : decode cc pc = .ok (.dup_x2, 1)) (hva : va.category = 1) (hvb : vb.category = 1) (hvd : vd.category = 1) (hG : xv_G p l e R s m args below meth c Q w cl rk lg nL n0 z0 (pc + 1, L, va :: vb :: vd :: va :: st, h)) : xv_G p l e R s m args below meth c Q w cl rk lg nL n0 z0 (pc, L, va :: vb :: vd :: st, h) :=
  fun ls H locs hl hR hS h1 h2 => lv_dup_x2 hC.1.1 hC.1.2.1 hd ((xv_cv_cat _ _).trans hva) ((xv_cv_cat _ _).trans hvb) ((xv_cv_cat _ _).trans hvd) (hG ls H locs hl hR hS h1 h2)
theorem xs_dup2 {va vb : Value} (hC : xv_Cx p R s m args meth c cc w cl aty WS stt sx sc own nL n0 z0 nE zE) (hd : decode cc pc = .ok (.dup2, 1)) (hva : va.category = 1) (hvb : vb.category = 1) (hG : xv_G p l e R s m args below meth c Q w cl rk lg nL n0 z0 (pc + 1, L, va :: vb :: va :: vb :: st, h)) : xv_G p l e R s m args below meth c Q w cl rk lg nL n0 z0 (pc, L, va :: vb :: st, h) :=
  fun ls H locs hl hR hS h1 h2 => lv_dup2_11 hC.1.1 hC.1.2.1 hd ((xv_cv_cat _ _).trans hva) ((xv_cv_cat _ _).trans hvb) (hG ls H locs hl hR hS h1 h2)
/-- the locals -/
theorem xs_iload (hC : xv_Cx p R s m args meth c cc w cl aty WS stt sx sc own nL n0 z0 nE zE) (hd : decode cc pc = .ok (.iload i, 2)) (hL : L[i]? = some (some (.int x))) (hG : xv_G p l e R s m args below meth c Q w cl rk lg nL n0 z0 (pc + 2, L, .int x :: st, h)) : xv_G p l e R s m args below meth c Q w cl rk lg nL n0 z0 (pc, L, st, h) :=
  fun ls H locs hl hR hS h1 h2 => lv_iload hC.1.1 hC.1.2.1 hd (hl.at hL) (hG ls H locs hl hR hS h1 h2)
theorem xs_lload (hC : xv_Cx p R s m args meth c cc w cl aty WS stt sx sc own nL n0 z0 nE zE) (hd : decode cc pc = .ok (.lload i, 2)) (hL : L[i]? = some (some (.long u))) (hG : xv_G p l e R s m args below meth c Q w cl rk lg nL n0 z0 (pc + 2, L, .long u :: st, h)) : xv_G p l e R s m args below meth c Q w cl rk lg nL n0 z0 (pc, L, st, h) :=
  fun ls H locs hl hR hS h1 h2 => lv_lload hC.1.1 hC.1.2.1 hd (hl.at hL) (hG ls H locs hl hR hS h1 h2)
theorem xs_iload_n {k : Fin 4} (hC : xv_Cx p R s m args meth c cc w cl aty WS stt sx sc own nL n0 z0 nE zE) (hd : decode cc pc = .ok (.iload_n k, 1)) (hL : L[(k : Nat)]? = some (some (.int x))) (hG : xv_G p l e R s m args below meth c Q w cl rk lg nL n0 z0 (pc + 1, L, .int x :: st, h)) : xv_G p l e R s m args below meth c Q w cl rk lg nL n0 z0 (pc, L, st, h) :=
  fun ls H locs hl hR hS h1 h2 => lv_iload_n hC.1.1 hC.1.2.1 hd rfl (hl.at hL) (hG ls H locs hl hR hS h1 h2)
theorem xs_lload_n {k : Fin 4} (hC : xv_Cx p R s m args meth c cc w cl aty WS stt sx sc own nL n0 z0 nE zE) (hd : decode cc pc = .ok (.lload_n k, 1)) (hL : L[(k : Nat)]? = some (some (.long u))) (hG : xv_G p l e R s m args below meth c Q w cl rk lg nL n0 z0 (pc + 1, L, .long u :: st, h)) : xv_G p l e R s m args below meth c Q w cl rk lg nL n0 z0 (pc, L, st, h) :=
  fun ls H locs hl hR hS h1 h2 => lv_lload_n hC.1.1 hC.1.2.1 hd rfl (hl.at hL) (hG ls H locs hl hR hS h1 h2)
theorem xs_aload (hC : xv_Cx p R s m args meth c cc w cl aty WS stt sx sc own nL n0 z0 nE zE) (hd : decode cc pc = .ok (.aload i, 2)) (hL : L[i]? = some (some (.ref t))) (hG : xv_G p l e R s m args below meth c Q w cl rk lg nL n0 z0 (pc + 2, L, .ref t :: st, h)) : xv_G p l e R s m args below meth c Q w cl rk lg nL n0 z0 (pc, L, st, h) :=
  fun ls H locs hl hR hS h1 h2 => lv_aload hC.1.1 hC.1.2.1 hd (hl.at hL) (hG ls H locs hl hR hS h1 h2)
theorem xs_aload_n {k : Fin 4} (hC : xv_Cx p R s m args meth c cc w cl aty WS stt sx sc own nL n0 z0 nE zE) (hd : decode cc pc = .ok (.aload_n k, 1)) (hL : L[(k : Nat)]? = some (some (.ref t))) (hG : xv_G p l e R s m args below meth c Q w cl rk lg nL n0 z0 (pc + 1, L, .ref t :: st, h)) : xv_G p l e R s m args below meth c Q w cl rk lg nL n0 z0 (pc, L, st, h) :=
  fun ls H locs hl hR hS h1 h2 => lv_aload_n hC.1.1 hC.1.2.1 hd rfl (hl.at hL) (hG ls H locs hl hR hS h1 h2)
theorem xs_aloadN (hC : xv_Cx p R s m args meth c cc w cl aty WS stt sx sc own nL n0 z0 nE zE) (hd : decode cc pc = .ok (.aload i, 2)) (hL : L[i]? = some (some .null)) (hG : xv_G p l e R s m args below meth c Q w cl rk lg nL n0 z0 (pc + 2, L, .null :: st, h)) : xv_G p l e R s m args below meth c Q w cl rk lg nL n0 z0 (pc, L, st, h) :=
  fun ls H locs hl hR hS h1 h2 => lv_aloadN hC.1.1 hC.1.2.1 hd (hl.at hL) (hG ls H locs hl hR hS h1 h2)
theorem xs_aload_nN {k : Fin 4} (hC : xv_Cx p R s m args meth c cc w cl aty WS stt sx sc own nL n0 z0 nE zE) (hd : decode cc pc = .ok (.aload_n k, 1)) (hL : L[(k : Nat)]? = some (some .null)) (hG : xv_G p l e R s m args below meth c Q w cl rk lg nL n0 z0 (pc + 1, L, .null :: st, h)) : xv_G p l e R s m args below meth c Q w cl rk lg nL n0 z0 (pc, L, st, h) :=
  fun ls H locs hl hR hS h1 h2 => lv_aload_nN hC.1.1 hC.1.2.1 hd rfl (hl.at hL) (hG ls H locs hl hR hS h1 h2)
theorem xs_istore (hC : xv_Cx p R s m args meth c cc w cl aty WS stt sx sc own nL n0 z0 nE zE) (hd : decode cc pc = .ok (.istore i, 2)) (hi : i < L.length) (hb : xv_b1 lg i = true) (hG : xv_G p l e R s m args below meth c Q w cl rk lg nL n0 z0 (pc + 2, L.set i (some (.int x)), st, h)) : xv_G p l e R s m args below meth c Q w cl rk lg nL n0 z0 (pc, L, .int x :: st, h) :=
  fun ls H locs hl hR hS h1 h2 => lv_istore hC.1.1 hC.1.2.1 hd hl.1 (by rw [← hl.2.1]; exact hi) rfl fun ls' h' => hG ls' H locs (hl.st1 hi hb rfl h') hR hS h1 h2
theorem xs_istore_n {k : Fin 4} (hC : xv_Cx p R s m args meth c cc w cl aty WS stt sx sc own nL n0 z0 nE zE) (hd : decode cc pc = .ok (.istore_n k, 1)) (hi : (k : Nat) < L.length) (hb : xv_b1 lg (k : Nat) = true) (hG : xv_G p l e R s m args below meth c Q w cl rk lg nL n0 z0 (pc + 1, L.set (k : Nat) (some (.int x)), st, h)) : xv_G p l e R s m args below meth c Q w cl rk lg nL n0 z0 (pc, L, .int x :: st, h) :=
  fun ls H locs hl hR hS h1 h2 => lv_istore_n hC.1.1 hC.1.2.1 hd rfl hl.1 (by rw [← hl.2.1]; exact hi) rfl fun ls' h' => hG ls' H locs (hl.st1 hi hb rfl h') hR hS h1 h2
theorem xs_lstore (hC : xv_Cx p R s m args meth c cc w cl aty WS stt sx sc own nL n0 z0 nE zE) (hd : decode cc pc = .ok (.lstore i, 2)) (hi : i + 1 < L.length) (hb : xv_b1 lg i = true) (hm : i ∈ lg) (hG : xv_G p l e R s m args below meth c Q w cl rk lg nL n0 z0 (pc + 2, (L.set i (some (.long u))).set (i + 1) none, st, h)) : xv_G p l e R s m args below meth c Q w cl rk lg nL n0 z0 (pc, L, .long u :: st, h) :=
  fun ls H locs hl hR hS h1 h2 => lv_lstore hC.1.1 hC.1.2.1 hd hl.1 (by rw [← hl.2.1]; exact hi) rfl fun ls' h' => hG ls' H locs (hl.st2 hi hb hm h') hR hS h1 h2
theorem xs_lstore_n {k : Fin 4} (hC : xv_Cx p R s m args meth c cc w cl aty WS stt sx sc own nL n0 z0 nE zE) (hd : decode cc pc = .ok (.lstore_n k, 1)) (hi : (k : Nat) + 1 < L.length) (hb : xv_b1 lg (k : Nat) = true) (hm : (k : Nat) ∈ lg) (hG : xv_G p l e R s m args below meth c Q w cl rk lg nL n0 z0 (pc + 1, (L.set (k : Nat) (some (.long u))).set ((k : Nat) + 1) none, st, h)) : xv_G p l e R s m args below meth c Q w cl rk lg nL n0 z0 (pc, L, .long u :: st, h) :=
  fun ls H locs hl hR hS h1 h2 => lv_lstore_n hC.1.1 hC.1.2.1 hd rfl hl.1 (by rw [← hl.2.1]; exact hi) rfl fun ls' h' => hG ls' H locs (hl.st2 hi hb hm h') hR hS h1 h2
theorem xs_astore (hC : xv_Cx p R s m args meth c cc w cl aty WS stt sx sc own nL n0 z0 nE zE) (hd : decode cc pc = .ok (.astore i, 2)) (hi : i < L.length) (hb : xv_b1 lg i = true) (hG : xv_G p l e R s m args below meth c Q w cl rk lg nL n0 z0 (pc + 2, L.set i (some (.ref t)), st, h)) : xv_G p l e R s m args below meth c Q w cl rk lg nL n0 z0 (pc, L, .ref t :: st, h) :=
  fun ls H locs hl hR hS h1 h2 => lv_astore hC.1.1 hC.1.2.1 hd hl.1 (by rw [← hl.2.1]; exact hi) rfl fun ls' h' => hG ls' H locs (hl.st1 hi hb rfl h') hR hS h1 h2
theorem xs_astore_n {k : Fin 4} (hC : xv_Cx p R s m args meth c cc w cl aty WS stt sx sc own nL n0 z0 nE zE) (hd : decode cc pc = .ok (.astore_n k, 1)) (hi : (k : Nat) < L.length) (hb : xv_b1 lg (k : Nat) = true) (hG : xv_G p l e R s m args below meth c Q w cl rk lg nL n0 z0 (pc + 1, L.set (k : Nat) (some (.ref t)), st, h)) : xv_G p l e R s m args below meth c Q w cl rk lg nL n0 z0 (pc, L, .ref t :: st, h) :=
  fun ls H locs hl hR hS h1 h2 => lv_astore_n hC.1.1 hC.1.2.1 hd rfl hl.1 (by rw [← hl.2.1]; exact hi) rfl fun ls' h' => hG ls' H locs (hl.st1 hi hb rfl h') hR hS h1 h2
theorem xs_astoreN (hC : xv_Cx p R s m args meth c cc w cl aty WS stt sx sc own nL n0 z0 nE zE) (hd : decode cc pc = .ok (.astore i, 2)) (hi : i < L.length) (hb : xv_b1 lg i = true) (hG : xv_G p l e R s m args below meth c Q w cl rk lg nL n0 z0 (pc + 2, L.set i (some (.null)), st, h)) : xv_G p l e R s m args below meth c Q w cl rk lg nL n0 z0 (pc, L, .null :: st, h) :=
  fun ls H locs hl hR hS h1 h2 => lv_astoreN hC.1.1 hC.1.2.1 hd hl.1 (by rw [← hl.2.1]; exact hi) rfl fun ls' h' => hG ls' H locs (hl.st1 hi hb rfl h') hR hS h1 h2
theorem xs_astore_nN {k : Fin 4} (hC : xv_Cx p R s m args meth c cc w cl aty WS stt sx sc own nL n0 z0 nE zE) (hd : decode cc pc = .ok (.astore_n k, 1)) (hi : (k : Nat) < L.length) (hb : xv_b1 lg (k : Nat) = true) (hG : xv_G p l e R s m args below meth c Q w cl rk lg nL n0 z0 (pc + 1, L.set (k : Nat) (some (.null)), st, h)) : xv_G p l e R s m args below meth c Q w cl rk lg nL n0 z0 (pc, L, .null :: st, h) :=
  fun ls H locs hl hR hS h1 h2 => lv_astore_nN hC.1.1 hC.1.2.1 hd rfl hl.1 (by rw [← hl.2.1]; exact hi) rfl fun ls' h' => hG ls' H locs (hl.st1 hi hb rfl h') hR hS h1 h2
theorem xs_iinc {n : Int} (hC : xv_Cx p R s m args meth c cc w cl aty WS stt sx sc own nL n0 z0 nE zE) (hd : decode cc pc = .ok (.iinc i n, 3)) (hL : L[i]? = some (some (.int x))) (hi : i < L.length) (hb : xv_b1 lg i = true) (hG : xv_G p l e R s m args below meth c Q w cl rk lg nL n0 z0 (pc + 3, L.set i (some (.int (x + Int32.ofInt n))), st, h)) : xv_G p l e R s m args below meth c Q w cl rk lg nL n0 z0 (pc, L, st, h) := by
  intro ls H locs hl hR hS h1 h2
  obtain ⟨k, hk⟩ := List.getElem?_of_mem (xv_as_mem (al := xv_al w) (q := (i, .int x)) |>.mpr ⟨_, hL, rfl⟩)
  exact lv_iinc hC.1.1 hC.1.2.1 hd hl.1 hk rfl (by rw [← hl.2.1]; exact hi) rfl fun ls' h' => hG ls' H locs (hl.st1 (v := .int (x + Int32.ofInt n)) hi hb rfl h') hR hS h1 h2
/-- branches -/
theorem xs_if_eq {off : Int} {tgt : Nat} (hC : xv_Cx p R s m args meth c cc w cl aty WS stt sx sc own nL n0 z0 nE zE) (hd : decode cc pc = .ok (.ifCond .eq off, 3)) (ht : (pc : Int) + off = (tgt : Int)) (kt : x = 0 → xv_G p l e R s m args below meth c Q w cl rk lg nL n0 z0 (tgt, L, st, h)) (kf : ¬ (x = 0) → xv_G p l e R s m args below meth c Q w cl rk lg nL n0 z0 (pc + 3, L, st, h)) : xv_G p l e R s m args below meth c Q w cl rk lg nL n0 z0 (pc, L, .int x :: st, h) :=
  fun ls H locs hl hR hS h1 h2 => lv_if_eq hC.1.1 hC.1.2.1 hd ht (fun q => kt q ls H locs hl hR hS h1 h2) (fun q => kf q ls H locs hl hR hS h1 h2)
theorem xs_icmp_eq {off : Int} {tgt : Nat} (hC : xv_Cx p R s m args meth c cc w cl aty WS stt sx sc own nL n0 z0 nE zE) (hd : decode cc pc = .ok (.if_icmp .eq off, 3)) (ht : (pc : Int) + off = (tgt : Int)) (kt : x = y → xv_G p l e R s m args below meth c Q w cl rk lg nL n0 z0 (tgt, L, st, h)) (kf : ¬ (x = y) → xv_G p l e R s m args below meth c Q w cl rk lg nL n0 z0 (pc + 3, L, st, h)) : xv_G p l e R s m args below meth c Q w cl rk lg nL n0 z0 (pc, L, .int y :: .int x :: st, h) :=
  fun ls H locs hl hR hS h1 h2 => lv_icmp_eq hC.1.1 hC.1.2.1 hd ht (fun q => kt q ls H locs hl hR hS h1 h2) (fun q => kf q ls H locs hl hR hS h1 h2)
theorem xs_if_ne {off : Int} {tgt : Nat} (hC : xv_Cx p R s m args meth c cc w cl aty WS stt sx sc own nL n0 z0 nE zE) (hd : decode cc pc = .ok (.ifCond .ne off, 3)) (ht : (pc : Int) + off = (tgt : Int)) (kt : ¬ x = 0 → xv_G p l e R s m args below meth c Q w cl rk lg nL n0 z0 (tgt, L, st, h)) (kf : ¬ (¬ x = 0) → xv_G p l e R s m args below meth c Q w cl rk lg nL n0 z0 (pc + 3, L, st, h)) : xv_G p l e R s m args below meth c Q w cl rk lg nL n0 z0 (pc, L, .int x :: st, h) :=
  fun ls H locs hl hR hS h1 h2 => lv_if_ne hC.1.1 hC.1.2.1 hd ht (fun q => kt q ls H locs hl hR hS h1 h2) (fun q => kf (fun z => z q) ls H locs hl hR hS h1 h2)
theorem xs_icmp_ne {off : Int} {tgt : Nat} (hC : xv_Cx p R s m args meth c cc w cl aty WS stt sx sc own nL n0 z0 nE zE) (hd : decode cc pc = .ok (.if_icmp .ne off, 3)) (ht : (pc : Int) + off = (tgt : Int)) (kt : ¬ x = y → xv_G p l e R s m args below meth c Q w cl rk lg nL n0 z0 (tgt, L, st, h)) (kf : ¬ (¬ x = y) → xv_G p l e R s m args below meth c Q w cl rk lg nL n0 z0 (pc + 3, L, st, h)) : xv_G p l e R s m args below meth c Q w cl rk lg nL n0 z0 (pc, L, .int y :: .int x :: st, h) :=
  fun ls H locs hl hR hS h1 h2 => lv_icmp_ne hC.1.1 hC.1.2.1 hd ht (fun q => kt q ls H locs hl hR hS h1 h2) (fun q => kf (fun z => z q) ls H locs hl hR hS h1 h2)
theorem xs_if_lt {off : Int} {tgt : Nat} (hC : xv_Cx p R s m args meth c cc w cl aty WS stt sx sc own nL n0 z0 nE zE) (hd : decode cc pc = .ok (.ifCond .lt off, 3)) (ht : (pc : Int) + off = (tgt : Int)) (kt : x < 0 → xv_G p l e R s m args below meth c Q w cl rk lg nL n0 z0 (tgt, L, st, h)) (kf : ¬ (x < 0) → xv_G p l e R s m args below meth c Q w cl rk lg nL n0 z0 (pc + 3, L, st, h)) : xv_G p l e R s m args below meth c Q w cl rk lg nL n0 z0 (pc, L, .int x :: st, h) :=
  fun ls H locs hl hR hS h1 h2 => lv_if_lt hC.1.1 hC.1.2.1 hd ht (fun q => kt q ls H locs hl hR hS h1 h2) (fun q => kf q ls H locs hl hR hS h1 h2)
theorem xs_icmp_lt {off : Int} {tgt : Nat} (hC : xv_Cx p R s m args meth c cc w cl aty WS stt sx sc own nL n0 z0 nE zE) (hd : decode cc pc = .ok (.if_icmp .lt off, 3)) (ht : (pc : Int) + off = (tgt : Int)) (kt : x < y → xv_G p l e R s m args below meth c Q w cl rk lg nL n0 z0 (tgt, L, st, h)) (kf : ¬ (x < y) → xv_G p l e R s m args below meth c Q w cl rk lg nL n0 z0 (pc + 3, L, st, h)) : xv_G p l e R s m args below meth c Q w cl rk lg nL n0 z0 (pc, L, .int y :: .int x :: st, h) :=
  fun ls H locs hl hR hS h1 h2 => lv_icmp_lt hC.1.1 hC.1.2.1 hd ht (fun q => kt q ls H locs hl hR hS h1 h2) (fun q => kf q ls H locs hl hR hS h1 h2)
theorem xs_if_ge {off : Int} {tgt : Nat} (hC : xv_Cx p R s m args meth c cc w cl aty WS stt sx sc own nL n0 z0 nE zE) (hd : decode cc pc = .ok (.ifCond .ge off, 3)) (ht : (pc : Int) + off = (tgt : Int)) (kt : 0 ≤ x → xv_G p l e R s m args below meth c Q w cl rk lg nL n0 z0 (tgt, L, st, h)) (kf : ¬ (0 ≤ x) → xv_G p l e R s m args below meth c Q w cl rk lg nL n0 z0 (pc + 3, L, st, h)) : xv_G p l e R s m args below meth c Q w cl rk lg nL n0 z0 (pc, L, .int x :: st, h) :=
  fun ls H locs hl hR hS h1 h2 => lv_if_ge hC.1.1 hC.1.2.1 hd ht (fun q => kt q ls H locs hl hR hS h1 h2) (fun q => kf q ls H locs hl hR hS h1 h2)
theorem xs_icmp_ge {off : Int} {tgt : Nat} (hC : xv_Cx p R s m args meth c cc w cl aty WS stt sx sc own nL n0 z0 nE zE) (hd : decode cc pc = .ok (.if_icmp .ge off, 3)) (ht : (pc : Int) + off = (tgt : Int)) (kt : y ≤ x → xv_G p l e R s m args below meth c Q w cl rk lg nL n0 z0 (tgt, L, st, h)) (kf : ¬ (y ≤ x) → xv_G p l e R s m args below meth c Q w cl rk lg nL n0 z0 (pc + 3, L, st, h)) : xv_G p l e R s m args below meth c Q w cl rk lg nL n0 z0 (pc, L, .int y :: .int x :: st, h) :=
  fun ls H locs hl hR hS h1 h2 => lv_icmp_ge hC.1.1 hC.1.2.1 hd ht (fun q => kt q ls H locs hl hR hS h1 h2) (fun q => kf q ls H locs hl hR hS h1 h2)
theorem xs_if_gt {off : Int} {tgt : Nat} (hC : xv_Cx p R s m args meth c cc w cl aty WS stt sx sc own nL n0 z0 nE zE) (hd : decode cc pc = .ok (.ifCond .gt off, 3)) (ht : (pc : Int) + off = (tgt : Int)) (kt : 0 < x → xv_G p l e R s m args below meth c Q w cl rk lg nL n0 z0 (tgt, L, st, h)) (kf : ¬ (0 < x) → xv_G p l e R s m args below meth c Q w cl rk lg nL n0 z0 (pc + 3, L, st, h)) : xv_G p l e R s m args below meth c Q w cl rk lg nL n0 z0 (pc, L, .int x :: st, h) :=
  fun ls H locs hl hR hS h1 h2 => lv_if_gt hC.1.1 hC.1.2.1 hd ht (fun q => kt q ls H locs hl hR hS h1 h2) (fun q => kf q ls H locs hl hR hS h1 h2)
theorem xs_icmp_gt {off : Int} {tgt : Nat} (hC : xv_Cx p R s m args meth c cc w cl aty WS stt sx sc own nL n0 z0 nE zE) (hd : decode cc pc = .ok (.if_icmp .gt off, 3)) (ht : (pc : Int) + off = (tgt : Int)) (kt : y < x → xv_G p l e R s m args below meth c Q w cl rk lg nL n0 z0 (tgt, L, st, h)) (kf : ¬ (y < x) → xv_G p l e R s m args below meth c Q w cl rk lg nL n0 z0 (pc + 3, L, st, h)) : xv_G p l e R s m args below meth c Q w cl rk lg nL n0 z0 (pc, L, .int y :: .int x :: st, h) :=
  fun ls H locs hl hR hS h1 h2 => lv_icmp_gt hC.1.1 hC.1.2.1 hd ht (fun q => kt q ls H locs hl hR hS h1 h2) (fun q => kf q ls H locs hl hR hS h1 h2)
theorem xs_if_le {off : Int} {tgt : Nat} (hC : xv_Cx p R s m args meth c cc w cl aty WS stt sx sc own nL n0 z0 nE zE) (hd : decode cc pc = .ok (.ifCond .le off, 3)) (ht : (pc : Int) + off = (tgt : Int)) (kt : x ≤ 0 → xv_G p l e R s m args below meth c Q w cl rk lg nL n0 z0 (tgt, L, st, h)) (kf : ¬ (x ≤ 0) → xv_G p l e R s m args below meth c Q w cl rk lg nL n0 z0 (pc + 3, L, st, h)) : xv_G p l e R s m args below meth c Q w cl rk lg nL n0 z0 (pc, L, .int x :: st, h) :=
  fun ls H locs hl hR hS h1 h2 => lv_if_le hC.1.1 hC.1.2.1 hd ht (fun q => kt q ls H locs hl hR hS h1 h2) (fun q => kf q ls H locs hl hR hS h1 h2)
theorem xs_icmp_le {off : Int} {tgt : Nat} (hC : xv_Cx p R s m args meth c cc w cl aty WS stt sx sc own nL n0 z0 nE zE) (hd : decode cc pc = .ok (.if_icmp .le off, 3)) (ht : (pc : Int) + off = (tgt : Int)) (kt : x ≤ y → xv_G p l e R s m args below meth c Q w cl rk lg nL n0 z0 (tgt, L, st, h)) (kf : ¬ (x ≤ y) → xv_G p l e R s m args below meth c Q w cl rk lg nL n0 z0 (pc + 3, L, st, h)) : xv_G p l e R s m args below meth c Q w cl rk lg nL n0 z0 (pc, L, .int y :: .int x :: st, h) :=
  fun ls H locs hl hR hS h1 h2 => lv_icmp_le hC.1.1 hC.1.2.1 hd ht (fun q => kt q ls H locs hl hR hS h1 h2) (fun q => kf q ls H locs hl hR hS h1 h2)
theorem xs_goto {off : Int} {tgt : Nat} (hC : xv_Cx p R s m args meth c cc w cl aty WS stt sx sc own nL n0 z0 nE zE) (hd : decode cc pc = .ok (.goto off, 3)) (ht : (pc : Int) + off = (tgt : Int)) (kt : xv_G p l e R s m args below meth c Q w cl rk lg nL n0 z0 (tgt, L, st, h)) : xv_G p l e R s m args below meth c Q w cl rk lg nL n0 z0 (pc, L, st, h) :=
  fun ls H locs hl hR hS h1 h2 => lv_goto hC.1.1 hC.1.2.1 hd ht (kt ls H locs hl hR hS h1 h2)
theorem xs_tabOut {dflt lo hi : Int} {offs : Array Int} {len tgt : Nat} (hC : xv_Cx p R s m args meth c cc w cl aty WS stt sx sc own nL n0 z0 nE zE) (hd : decode cc pc = .ok (.tableswitch dflt lo hi offs, len)) (hx : x.toInt < lo ∨ hi < x.toInt) (ht : (pc : Int) + dflt = (tgt : Int)) (kt : xv_G p l e R s m args below meth c Q w cl rk lg nL n0 z0 (tgt, L, st, h)) : xv_G p l e R s m args below meth c Q w cl rk lg nL n0 z0 (pc, L, .int x :: st, h) :=
  fun ls H locs hl hR hS h1 h2 => lv_tableOut hC.1.1 hC.1.2.1 hd hx ht (kt ls H locs hl hR hS h1 h2)
theorem xs_tabIn {dflt lo hi off : Int} {offs : Array Int} {len tgt : Nat} (hC : xv_Cx p R s m args meth c cc w cl aty WS stt sx sc own nL n0 z0 nE zE) (hd : decode cc pc = .ok (.tableswitch dflt lo hi offs, len)) (hx : ¬ (x.toInt < lo ∨ hi < x.toInt)) (ho : offs[(x.toInt - lo).toNat]? = some off) (ht : (pc : Int) + off = (tgt : Int)) (kt : xv_G p l e R s m args below meth c Q w cl rk lg nL n0 z0 (tgt, L, st, h)) : xv_G p l e R s m args below meth c Q w cl rk lg nL n0 z0 (pc, L, .int x :: st, h) :=
  fun ls H locs hl hR hS h1 h2 => lv_tableIn hC.1.1 hC.1.2.1 hd (fun q => hx (Or.inl q)) (fun q => hx (Or.inr q)) ho ht (kt ls H locs hl hR hS h1 h2)
theorem xs_ifnull {o : Option Nat} {off : Int} {tgt : Nat} (hC : xv_Cx p R s m args meth c cc w cl aty WS stt sx sc own nL n0 z0 nE zE) (hd : decode cc pc = .ok (.ifnull off, 3)) (ht : (pc : Int) + off = (tgt : Int)) (kt : o = none → xv_G p l e R s m args below meth c Q w cl rk lg nL n0 z0 (tgt, L, st, h)) (kf : ¬ o = none → xv_G p l e R s m args below meth c Q w cl rk lg nL n0 z0 (pc + 3, L, st, h)) : xv_G p l e R s m args below meth c Q w cl rk lg nL n0 z0 (pc, L, va_rf o :: st, h) := by
  intro ls H locs hl hR hS h1 h2
  cases o with
  | none => exact lv_ifnullN hC.1.1 hC.1.2.1 hd ht (kt rfl ls H locs hl hR hS h1 h2)
  | some a => exact lv_ifnull hC.1.1 hC.1.2.1 hd (kf (fun q => by cases q) ls H locs hl hR hS h1 h2)
theorem xs_ifnonnull {o : Option Nat} {off : Int} {tgt : Nat} (hC : xv_Cx p R s m args meth c cc w cl aty WS stt sx sc own nL n0 z0 nE zE) (hd : decode cc pc = .ok (.ifnonnull off, 3)) (ht : (pc : Int) + off = (tgt : Int)) (kt : ¬ o = none → xv_G p l e R s m args below meth c Q w cl rk lg nL n0 z0 (tgt, L, st, h)) (kf : ¬ ¬ o = none → xv_G p l e R s m args below meth c Q w cl rk lg nL n0 z0 (pc + 3, L, st, h)) : xv_G p l e R s m args below meth c Q w cl rk lg nL n0 z0 (pc, L, va_rf o :: st, h) := by
  intro ls H locs hl hR hS h1 h2
  cases o with
  | none => exact lv_ifnonnullN hC.1.1 hC.1.2.1 hd (kf (fun q => q rfl) ls H locs hl hR hS h1 h2)
  | some a => exact lv_ifnonnull hC.1.1 hC.1.2.1 hd ht (kt (fun q => by cases q) ls H locs hl hR hS h1 h2)
theorem xs_acmp_eq {o1 o2 : Option Nat} {off : Int} {tgt : Nat} (hI : ∀ a b, xv_al w a = xv_al w b → a = b) (hC : xv_Cx p R s m args meth c cc w cl aty WS stt sx sc own nL n0 z0 nE zE) (hd : decode cc pc = .ok (.if_acmp .eq off, 3)) (ht : (pc : Int) + off = (tgt : Int)) (kt : o1 = o2 → xv_G p l e R s m args below meth c Q w cl rk lg nL n0 z0 (tgt, L, st, h)) (kf : ¬ o1 = o2 → xv_G p l e R s m args below meth c Q w cl rk lg nL n0 z0 (pc + 3, L, st, h)) : xv_G p l e R s m args below meth c Q w cl rk lg nL n0 z0 (pc, L, va_rf o2 :: va_rf o1 :: st, h) := by
  intro ls H locs hl hR hS h1 h2
  have hj : o1.map (xv_al w) = o2.map (xv_al w) ↔ o1 = o2 := by
    constructor
    · intro q
      cases o1 <;> cases o2 <;> simp at q ⊢
      exact hI _ _ q
    · intro q; rw [q]
  simp only [List.map_cons, xv_cv_rf]
  exact lv_acmp_eq hC.1.1 hC.1.2.1 hd ht (fun q => kt (hj.mp q) ls H locs hl hR hS h1 h2) (fun q => kf (fun z => q (hj.mpr z)) ls H locs hl hR hS h1 h2)
theorem xs_acmp_ne {o1 o2 : Option Nat} {off : Int} {tgt : Nat} (hI : ∀ a b, xv_al w a = xv_al w b → a = b) (hC : xv_Cx p R s m args meth c cc w cl aty WS stt sx sc own nL n0 z0 nE zE) (hd : decode cc pc = .ok (.if_acmp .ne off, 3)) (ht : (pc : Int) + off = (tgt : Int)) (kt : ¬ o1 = o2 → xv_G p l e R s m args below meth c Q w cl rk lg nL n0 z0 (tgt, L, st, h)) (kf : ¬ ¬ o1 = o2 → xv_G p l e R s m args below meth c Q w cl rk lg nL n0 z0 (pc + 3, L, st, h)) : xv_G p l e R s m args below meth c Q w cl rk lg nL n0 z0 (pc, L, va_rf o2 :: va_rf o1 :: st, h) := by
  intro ls H locs hl hR hS h1 h2
  have hj : o1.map (xv_al w) = o2.map (xv_al w) ↔ o1 = o2 := by
    constructor
    · intro q
      cases o1 <;> cases o2 <;> simp at q ⊢
      exact hI _ _ q
    · intro q; rw [q]
  simp only [List.map_cons, xv_cv_rf]
  exact lv_acmp_ne hC.1.1 hC.1.2.1 hd ht (fun q => kt (fun z => q (hj.mpr z)) ls H locs hl hR hS h1 h2) (fun q => kf (fun z => z (hj.mp q)) ls H locs hl hR hS h1 h2)
end XS
end
section
/-! Fields, arrays, new cells. -/
theorem xv_at.keep {w : xv_W} {cl : List vw_C} {rk : Nat → Bool} {h h' : xv_H} {a : Nat} {cell : Cell} (hc : xv_at w cl rk h a cell) (ht : h'.2.2.1 a = h.2.2.1 a) (hl : h'.2.2.2.1 a = h.2.2.2.1 a)
    (hf : ∀ f, xv_fv w rk h' f a = xv_fv w rk h f a) (he : ∀ t i, xv_ev w h' t a i = xv_ev w h t a i) : xv_at w cl rk h' a cell := by
  obtain ⟨h0, h1 | h1⟩ := hc
  · obtain ⟨q1, q2, q, q3, q4⟩ := h1
    refine ⟨h0, Or.inl ⟨by rw [ht]; exact q1, by rw [ht]; exact q2, q, by rw [ht]; exact q3, fun k hk => ?_⟩⟩
    rw [ht, hf]; exact q4 k hk
  · obtain ⟨q1, q2, q3, q4⟩ := h1
    refine ⟨h0, Or.inr ⟨by rw [ht]; exact q1, by rw [ht]; exact q2, by rw [hl]; exact q3, fun i hi => ?_⟩⟩
    rw [ht, he]; exact q4 i (by rw [← hl]; exact hi)
/-- one cell changes -/
theorem xv_R.set {w : xv_W} {cl : List vw_C} {rk : Nat → Bool} {h h' : xv_H} {H H' : Heap} {a : Nat} {cell : Cell} (hR : xv_R w cl rk h H) (hn : h'.1 = h.1) (hz : H'.size = H.size) (ho : ∀ q, q ≠ w.1 + a → H'[q]? = H[q]?) (hc : H'[w.1 + a]? = some cell) (hat : xv_at w cl rk h' a cell)
    (hk : ∀ (b : Nat) (cb : Cell), b < h.1 → b ≠ a → xv_at w cl rk h b cb → xv_at w cl rk h' b cb) : xv_R w cl rk h' H' := by
  obtain ⟨h1, h2, h3⟩ := hR
  refine ⟨by rw [hz, hn]; exact h1, fun q hq => by rw [ho q (by omega)]; exact h2 q hq, fun b hb => ?_⟩
  rw [hn] at hb
  by_cases hba : b = a
  · subst hba
    exact ⟨cell, hc, hat⟩
  · obtain ⟨cb, e1, e2⟩ := h3 b hb
    exact ⟨cb, by rw [ho _ (by omega)]; exact e1, hk b cb hb hba e2⟩
/-- one cell comes -/
theorem xv_R.push {w : xv_W} {cl : List vw_C} {rk : Nat → Bool} {h h' : xv_H} {H H' : Heap} {cell : Cell} (hR : xv_R w cl rk h H) (hn : h'.1 = h.1 + 1) (hz : H'.size = H.size + 1) (ho : ∀ q, q < H.size → H'[q]? = H[q]?) (hc : H'[H.size]? = some cell) (hat : xv_at w cl rk h' h.1 cell)
    (hk : ∀ (b : Nat) (cb : Cell), b < h.1 → xv_at w cl rk h b cb → xv_at w cl rk h' b cb) : xv_R w cl rk h' H' := by
  obtain ⟨h1, h2, h3⟩ := hR
  refine ⟨by rw [hz, hn, h1]; omega, fun q hq => by rw [ho q (by omega)]; exact h2 q hq, fun b hb => ?_⟩
  rw [hn] at hb
  by_cases hba : b = h.1
  · subst hba
    exact ⟨cell, by rw [← h1]; exact hc, hat⟩
  · obtain ⟨cb, e1, e2⟩ := h3 b (by omega)
    exact ⟨cb, by rw [ho _ (by rw [h1]; omega)]; exact e1, hk b cb (by omega) e2⟩
theorem xv_S.push {A : Nat → Prop} {H0 H H1 : Heap} {locs : List Loc} (h : va_S A H0 H locs) (z : H1.size = H.size + 1) (ho : ∀ q, q < H.size → H1[q]? = H[q]?) : va_S A H0 H1 locs :=
  ⟨by rw [z]; exact Nat.le_succ_of_le h.1, fun q h1 h2 => (ho q (Nat.lt_of_lt_of_le h1 h.1)).trans (h.2.1 q h1 h2), h.2.2⟩
theorem xv_up_ne {β : Type} {f : Nat → Nat → β} {x y a b : Nat} {v : β} (h : ¬ (a = x ∧ b = y)) : xv_up f x y v a b = f a b := if_neg h
theorem xv_up_eq {β : Type} {f : Nat → Nat → β} {x y : Nat} {v : β} : xv_up f x y v x y = v := if_pos ⟨rfl, rfl⟩
theorem xv_arr_is {U : State} {cA : ClassId} {ty : FieldType} (h : ArrOfT U cA ty) {cell : Cell} (h1 : cell.cls = cA) (h2 : cell.vm = .none) : U.isArrayOf cell ty := by
  have h3 := h 0 (fun _ => .null)
  obtain ⟨c, sl, vm⟩ := cell
  simp only at h1 h2
  subst h1; subst h2
  exact h3
section XH
variable {p : Program} {l : Launch} {e : Env} {R : Room} {s : State} {m : MethodId} {args : Array Value} {below : List Frame} {meth : Method} {c : Code} {Q : State → Prop} {cc : ByteArray} {w : xv_W} {cl : List vw_C} {rk : Nat → Bool} {aty : List FieldType} {WS : List Jvm.Cond} {stt : List (String × String × String)} {sx : xv_X} {sc : Nat × (Nat → Int32)} {own : String} {nL n0 z0 nE zE : Nat} {lg : List Nat} {pc : Nat} {L : xv_L} {st r : List Value} {n z : Nat} {tg ln : Nat → Nat} {fr er : Nat → Nat → Option Nat} {fi ei : Nat → Nat → Int32} {el : Nat → Nat → Int64} {x y i : Int32} {u v : Int64} {a b : Nat}
/-- getfield: class ci, field k -/
theorem xs_getf {ci k idx : Nat} {q : vw_C} {ref : String} (hC : xv_Cx p R s m args meth c cc w cl aty WS stt sx sc own nL n0 z0 nE zE) (hd : decode cc pc = .ok (.getfield idx, 3)) (hq : cl[ci]? = some q) (hws : ∀ x ∈ u_ws q.1 q.2.1 q.2.2, x ∈ WS) (hci : ci < 100) (hk : k < q.2.2) (hlink : Jvm.Cond.fieldLink own idx ref (q.2.1 k).2.1 (q.2.1 k).2.2.1 ∈ WS) (hsame : ref = (q.2.1 k).1 ∨ Jvm.Cond.sameField ref (q.2.1 k).1 (q.2.1 k).2.1 (q.2.1 k).2.2.1 ∈ WS)
    (hE : n ≤ nE) (ha : a < n) (ht : tg a = ci)
    (hG : xv_G p l e R s m args below meth c Q w cl rk lg nL n0 z0 (pc + 3, L, (if rk (100 * ci + k) = true then va_rf (fr (100 * ci + k) a) else .int (fi (100 * ci + k) a)) :: st, (n, z, tg, ln, fr, er, fi, ei, el))) : xv_G p l e R s m args below meth c Q w cl rk lg nL n0 z0 (pc, L, .ref a :: st, (n, z, tg, ln, fr, er, fi, ei, el)) := by
  intro ls H locs hl hR hS h1 h2
  obtain ⟨⟨hx, hb, hml, hown, hts⟩, ⟨hK, hA⟩, ⟨hr1, hr2, hr3, hr4⟩, -⟩ := hC
  have hal : xv_al w a = w.1 + a := xv_al_lt (by omega)
  obtain ⟨cell, q1, q2, q3 | q3⟩ := hR.2.2 a ha
  · obtain ⟨q4, q5, q', q6, q7⟩ := q3
    simp only [ht] at q4 q5 q6 q7
    cases q6.symm.trans hq
    obtain ⟨hSl, hfc, kC, hkC, hkind⟩ := hK.1 ci _ hq
    obtain ⟨cf, kf, fj, f, hi, hsl⟩ := hSl k hk
    have hi' : s.fieldFound? ref (q.2.1 k).2.1 (q.2.1 k).2.2.1 = some (cf, kf, fj, f) := by
      rcases hsame with h | h
      · rw [h]; exact hi
      · exact u_same (hts _ h) _ hi
    have hv := q7 k hk
    refine W.getf hx hb hown (hts _ hlink) hi' (u_facts hfc hkC (u_lays hts hws hk) hi).1 (a := w.1 + a) q1 (by rw [q2]; exact fun h => by cases h) (v := xv_fv w rk (n, z, tg, ln, fr, er, fi, ei, el) (100 * ci + k) a) (by rw [hsl]; exact hv) rfl (rest := st.map (xv_cv (xv_al w))) (by simp only [List.map_cons, xv_cv, hal]) hd ?_
    have hg := hG ls H locs hl hR hS h1 h2
    simp only [List.map_cons] at hg
    have e : xv_cv (xv_al w) (if rk (100 * ci + k) = true then va_rf (fr (100 * ci + k) a) else .int (fi (100 * ci + k) a)) = xv_fv w rk (n, z, tg, ln, fr, er, fi, ei, el) (100 * ci + k) a := by
      unfold xv_fv
      split <;> rfl
    rw [e] at hg
    exact hg
  · exfalso
    obtain ⟨q4, -⟩ := q3
    simp only [ht] at q4
    omega
/-- putfield: what has changed -/
theorem xv_R.putf {h' : xv_H} {ci k f : Nat} {q : vw_C} {H H' : Heap} {cell : Cell} {v0 : Value} (hR : xv_R w cl rk (n, z, tg, ln, fr, er, fi, ei, el) H) (ha : a < n) (ht : tg a = ci) (hci : ci < 100) (hq : cl[ci]? = some q) (hk : k < q.2.2) (hap : ∀ k', k' < q.2.2 → k' ≠ k → w.2.2.2.1.2 ci k' ≠ w.2.2.2.1.2 ci k)
    (hcell : H[w.1 + a]? = some cell) (hH : H'[w.1 + a]? = some (cell.setSlot (w.2.2.2.1.2 ci k) v0)) (hz : H'.size = H.size) (ho : ∀ q, q ≠ w.1 + a → H'[q]? = H[q]?) (e1 : h'.1 = n) (e2 : h'.2.2.1 = tg) (e3 : h'.2.2.2.1 = ln) (hv : xv_fv w rk h' (100 * ci + k) a = v0) (hf : ∀ g b, ¬ (g = 100 * ci + k ∧ b = a) → xv_fv w rk h' g b = xv_fv w rk (n, z, tg, ln, fr, er, fi, ei, el) g b)
    (he : ∀ t b j, xv_ev w h' t b j = xv_ev w (n, z, tg, ln, fr, er, fi, ei, el) t b j) : xv_R w cl rk h' H' := by
  refine hR.set e1 hz ho hH ?_ fun b cb hb hne hcb => hcb.keep (by rw [e2]) (by rw [e3]) (fun g => hf g b (fun z => hne z.2)) (fun t j => he t b j)
  obtain ⟨cell', q1, q2, q3 | q3⟩ := hR.2.2 a ha
  · cases q1.symm.trans hcell
    obtain ⟨q4, q5, q', q6, q7⟩ := q3
    simp only [ht] at q4 q5 q6 q7
    cases q6.symm.trans hq
    refine ⟨q2, Or.inl ⟨by rw [e2, ht]; exact hci, by rw [e2, ht]; exact q5, q, by rw [e2, ht]; exact hq, fun j hj => ?_⟩⟩
    rw [e2, ht]
    by_cases hjk : j = k
    · subst hjk
      rw [hv]
      exact Cell.slots_setSlot_self _ (k2_hasslot (q7 j hj))
    · rw [slot_ne _ _ (Ne.symm (hap j hj hjk)), q7 j hj, hf _ _ (fun z => hjk (by omega))]
  · exfalso
    obtain ⟨q4, -⟩ := q3
    simp only [ht] at q4
    omega
theorem xs_putf {h' : xv_H} {ci k idx : Nat} {q : vw_C} {ref : String} {ty0 : Nat → FieldType} {v0 : Value} (hC : xv_Cx p R s m args meth c cc w cl aty WS stt sx sc own nL n0 z0 nE zE) (hd : decode cc pc = .ok (.putfield idx, 3)) (hq : cl[ci]? = some q) (hws : ∀ x ∈ u_ws q.1 q.2.1 q.2.2, x ∈ WS) (hci : ci < 100) (hk : k < q.2.2) (hlink : Jvm.Cond.fieldLink own idx ref (q.2.1 k).2.1 (q.2.1 k).2.2.1 ∈ WS) (hsame : ref = (q.2.1 k).1 ∨ Jvm.Cond.sameField ref (q.2.1 k).1 (q.2.1 k).2.1 (q.2.1 k).2.2.1 ∈ WS)
    (hty : ∀ k, k < q.2.2 → parseFieldDescriptor (q.2.1 k).2.2.1 = some (ty0 k)) (hnm : ∀ a, a < q.2.2 → ∀ b, b < q.2.2 → a ≠ b → (q.2.1 a).2.1 ≠ (q.2.1 b).2.1) (hfin : (q.2.1 k).2.2.2 = false ∨ ((q.2.1 k).2.2.2 = true ∧ meth.name = "<init>" ∧ (q.2.1 k).1 = own)) (hnar : narrow (ty0 k) (xv_cv (xv_al w) v0) = xv_cv (xv_al w) v0) (hfit : fits (ty0 k) (xv_cv (xv_al w) v0) = true)
    (hE : n ≤ nE) (ha : a < n) (ht : tg a = ci)
    (e1 : h'.1 = n) (e0 : h'.2.1 = z) (e2 : h'.2.2.1 = tg) (e3 : h'.2.2.2.1 = ln) (hv : xv_fv w rk h' (100 * ci + k) a = xv_cv (xv_al w) v0) (hf : ∀ g b, ¬ (g = 100 * ci + k ∧ b = a) → xv_fv w rk h' g b = xv_fv w rk (n, z, tg, ln, fr, er, fi, ei, el) g b) (he : ∀ t b j, xv_ev w h' t b j = xv_ev w (n, z, tg, ln, fr, er, fi, ei, el) t b j)
    (hG : xv_G p l e R s m args below meth c Q w cl rk lg nL n0 z0 (pc + 3, L, st, h')) : xv_G p l e R s m args below meth c Q w cl rk lg nL n0 z0 (pc, L, v0 :: .ref a :: st, (n, z, tg, ln, fr, er, fi, ei, el)) := by
  intro ls H locs hl hR hS h1 h2
  obtain ⟨⟨hx, hb, hml, hown, hts⟩, ⟨hK, hA⟩, ⟨hr1, hr2, hr3, hr4⟩, -⟩ := hC
  have hal : xv_al w a = w.1 + a := xv_al_lt (by omega)
  have hap := va_apart (own := own) hts hws ty0 hty hnm hK hq
  obtain ⟨cell, q1, q2, q3 | q3⟩ := hR.2.2 a ha
  · obtain ⟨q4, q5, q', q6, q7⟩ := q3
    simp only [ht] at q4 q5 q6 q7
    cases q6.symm.trans hq
    obtain ⟨hSl, hfc, kC, hkC, hkind⟩ := hK.1 ci _ hq
    obtain ⟨cf, kf, fj, f, hi, hsl⟩ := hSl k hk
    have hi' : s.fieldFound? ref (q.2.1 k).2.1 (q.2.1 k).2.2.1 = some (cf, kf, fj, f) := by
      rcases hsame with h | h
      · rw [h]; exact hi
      · exact u_same (hts _ h) _ hi
    have hst := (u_facts hfc hkC (u_lays hts hws hk) hi).1
    have hlay := hts _ (hws _ (u_in_lay hk))
    unfold u_lay at hlay
    have kk : ∀ H' : Heap, H'[w.1 + a]? = some (cell.setSlot f.slot (xv_cv (xv_al w) v0)) → H'.size = H.size → (∀ q, q ≠ w.1 + a → H'[q]? = H[q]?) → W p l e R s m args below meth c H' (locs ++ [⟨w.1 + a, f.slot⟩]) (n - n0) (z - z0) Q (F0 m (pc + 3) ls (st.map (xv_cv (xv_al w)))) := by
      intro H' g1 g2 g3
      rw [hsl] at g1
      have hR' : xv_R w cl rk h' H' := hR.putf ha ht hci hq hk (fun k' hk' hne => hap k' k hk' hk hne) q1 g1 g2 g3 e1 e2 e3 hv hf he
      have := hG ls H' _ hl hR' (hS.put g2 g3 (k := f.slot) (Nat.le_add_right _ _)) (by simp only [e1]; exact h1) (by simp only [e0]; exact h2)
      simp only [e1, e0] at this
      exact this
    have hlt : f.slot < cell.slots.size := by rw [hsl]; exact k2_hasslot (q7 k hk)
    have hstk : (F0 m pc ls ((v0 :: Value.ref a :: st).map (xv_cv (xv_al w)))).stack = xv_cv (xv_al w) v0 :: .ref (w.1 + a) :: st.map (xv_cv (xv_al w)) := by simp only [List.map_cons, xv_cv, hal]
    rcases hfin with hfin | ⟨hfin, hin, hdecl⟩
    · rw [if_neg (by rw [hfin]; decide)] at hlay
      have h6 := u_store hfc hkC hkind hlay hi (hty k hk) hnar hfit
      exact W.putK hx hb (f := f) ⟨hown, hts _ hlink, ⟨_, _, _, hi'⟩, hst⟩ (by rw [q5]; exact h6) q1 q2 hlt rfl hstk hd kk
    · rw [if_pos hfin] at hlay
      have hcf : m.cls = cf := by
        obtain ⟨_, _, c', _, _, _, -, -, hf', -, -, -, hown2, -⟩ := Cond.laysFinal_spec hlay
        have e1 : c' = cf := by have := hi.symm.trans hf'; simp at this; exact this.1.symm
        rw [hdecl] at hown2
        rw [← e1]; exact Option.some.inj (hown.symm.trans hown2)
      have h6 := u_fits hfc hkC hkind (Or.inr hlay) hi (hty k hk) hnar hfit
      exact W.putFinK hx hb hown (hts _ hlink) hi' hst hcf hin (by rw [q5]; exact h6) q1 q2 hlt rfl hstk hd kk
  · exfalso
    obtain ⟨q4, -⟩ := q3
    simp only [ht] at q4
    omega
end XH
end
