/-! An abstract machine: a heap of numbered cells as plain functions, frames as lists. It is run by 'xv_exec'; what it does the machine does (part 03). -/
/-- a heap: cells, slots, tag of a cell, length of an array; fields and elements that are references; fields and elements that are ints; elements that are longs -/
abbrev xv_H : Type := Nat × Nat × (Nat → Nat) × (Nat → Nat) × (Nat → Nat → Option Nat) × (Nat → Nat → Option Nat) × (Nat → Nat → Int32) × (Nat → Nat → Int32) × (Nat → Nat → Int64)
abbrev xv_L : Type := List (Option Value)
/-- an instruction as decoded, two numbers by which it is resolved -/
abbrev xv_I : Type := ClassFile.Instr × Nat × Nat
abbrev xv_N : Type := Nat × xv_L × List Value × xv_H
abbrev xv_A : Type := Option xv_N
/-- a call: method, arguments, the stack below, where it goes on -/
abbrev xv_K : Type := Option (xv_N ⊕ (Nat × List Value × List Value × Nat))
def xv_up {β : Type} (f : Nat → Nat → β) (x y : Nat) (v : β) : Nat → Nat → β := fun a b => if a = x ∧ b = y then v else f a b
def xv_u1 (f : Nat → Nat) (x v : Nat) : Nat → Nat := fun a => if a = x then v else f a
def xv_fresh {β : Type} (f : Nat → Nat → β) (x : Nat) (v : β) : Nat → Nat → β := fun a b => if a = x then v else f a b
def xv_freshF {β : Type} (f : Nat → Nat → β) (x : Nat) (v : β) : Nat → Nat → β := fun a b => if b = x then v else f a b
/-- a new cell of tag t, length m, k slots -/
def xv_new (h : xv_H) (t m k : Nat) : xv_H := match h with
  | (n, z, tg, ln, fr, er, fi, ei, el) => (n + 1, z + k, xv_u1 tg n t, xv_u1 ln n m, xv_freshF fr n none, xv_fresh er n none, xv_freshF fi n 0, xv_fresh ei n 0, xv_fresh el n 0)
def xv_cpy {β : Type} (f : Nat → Nat → β) (s sp d dp n : Nat) : Nat → Nat → β := fun a i => if a = d ∧ dp ≤ i ∧ i < dp + n then f s (sp + (i - dp)) else f a i
def xv_nx (pc : Nat) (L : xv_L) (st : List Value) (h : xv_H) : xv_A := some (pc, L, st, h)
/-- may a value of one slot be stored at i -/
def xv_b1 (lg : List Nat) (i : Nat) : Bool := i == 0 || !(lg.contains (i - 1))
def xv_jmp (pc : Nat) (off : Int) (L : xv_L) (st : List Value) (h : xv_H) : xv_A := match (pc : Int) + off with
  | .ofNat t => xv_nx t L st h
  | .negSucc _ => none
def xv_cnd (o : ClassFile.Cond) (x y : Int32) : Bool := match o with
  | .eq => decide (x = y)
  | .ne => decide (¬ x = y)
  | .lt => decide (x < y)
  | .ge => decide (y ≤ x)
  | .gt => decide (y < x)
  | .le => decide (x ≤ y)
def xv_if (b : Bool) (pc : Nat) (off : Int) (L : xv_L) (st : List Value) (h : xv_H) : xv_A := if b = true then xv_jmp pc off L st h else xv_nx (pc + 3) L st h
def xv_i1 {β : Type} (st : List Value) (f : Int32 → List Value → Option β) : Option β := match st with
  | .int x :: r => f x r
  | _ => none
def xv_i2 {β : Type} (st : List Value) (f : Int32 → Int32 → List Value → Option β) : Option β := match st with
  | .int y :: .int x :: r => f x y r
  | _ => none
def xv_l1 {β : Type} (st : List Value) (f : Int64 → List Value → Option β) : Option β := match st with
  | .long x :: r => f x r
  | _ => none
def xv_l2 {β : Type} (st : List Value) (f : Int64 → Int64 → List Value → Option β) : Option β := match st with
  | .long y :: .long x :: r => f x y r
  | _ => none
def xv_li {β : Type} (st : List Value) (f : Int64 → Int32 → List Value → Option β) : Option β := match st with
  | .int y :: .long x :: r => f x y r
  | _ => none
def xv_r1 {β : Type} (st : List Value) (f : Nat → List Value → Option β) : Option β := match st with
  | .ref a :: r => f a r
  | _ => none
/-- a reference or null -/
def xv_q1 {β : Type} (st : List Value) (f : Option Nat → List Value → Option β) : Option β := match st with
  | .ref a :: r => f (some a) r
  | .null :: r => f none r
  | _ => none
def xv_v1 {β : Type} (st : List Value) (f : Value → List Value → Option β) : Option β := match st with
  | v :: r => if v.category = 1 then f v r else none
  | _ => none
/-- an index of an array: in range -/
def xv_in {β : Type} (h : xv_H) (i : Int32) (a : Nat) (k : Option β) : Option β := if a < h.1 ∧ 0 ≤ i ∧ i.toNatClampNeg < h.2.2.2.1 a then k else none
def xv_iload {β : Type} (L : xv_L) (i : Nat) (f : Int32 → Option β) : Option β := match L[i]? with
  | some (some (.int x)) => f x
  | _ => none
def xv_lload {β : Type} (L : xv_L) (i : Nat) (f : Int64 → Option β) : Option β := match L[i]? with
  | some (some (.long x)) => f x
  | _ => none
def xv_aload {β : Type} (L : xv_L) (i : Nat) (f : Option Nat → Option β) : Option β := match L[i]? with
  | some (some (.ref x)) => f (some x)
  | some (some .null) => f none
  | _ => none
def xv_st1 {β : Type} (lg : List Nat) (L : xv_L) (i : Nat) (v : Value) (f : xv_L → Option β) : Option β := if i < L.length ∧ xv_b1 lg i = true then f (L.set i (some v)) else none
def xv_st2 {β : Type} (lg : List Nat) (L : xv_L) (i : Nat) (v : Value) (f : xv_L → Option β) : Option β := if i + 1 < L.length ∧ xv_b1 lg i = true ∧ lg.contains i = true then f ((L.set i (some v)).set (i + 1) none) else none
/-- the number of the first of the cells that the program doesn't make: constants of enums and the like -/
def xv_SB : Nat := 10000000
def xv_new1 (pc' : Nat) (L : xv_L) (st : List Value) (h : xv_H) (t m k : Nat) : xv_A := xv_nx pc' L (.ref h.1 :: st) (xv_new h t m k)
def xv_len {β : Type} (n : Int32) (k : Option β) : Option β := if 0 ≤ n ∧ n.toNatClampNeg ≤ 60000000 then k else none
/-- what an array of references may hold: arrays of tag t hold cells of tag cp t -/
def xv_ok (cp : Nat → Nat) (h : xv_H) (a : Nat) (x : Option Nat) : Bool := match x with
  | none => true
  | some b => decide (b < h.1 ∧ h.2.2.1 b = cp (h.2.2.1 a))
/-- do the arguments fit: so many locals, and the longs where they may stand -/
def xv_fit (lg : List Nat) (n : Nat) : Nat → List Value → Bool
  | i, [] => decide (i ≤ n)
  | i, v :: vs => if v.category = 2 then lg.contains i && xv_fit lg n (i + 2) vs else xv_fit lg n (i + 1) vs
def xv_sl (av : List Value) : xv_L := av.flatMap fun v => if v.category = 2 then [some v, none] else [some v]
def xv_ent (n : Nat) (av : List Value) : xv_L := xv_sl av ++ List.replicate (n - (xv_sl av).length) none
def xv_room (st : List Value) : Bool := decide ((st.map fun v => v.category).sum ≤ 8)
def xv_call (lgs : Nat → List Nat) (mx : Nat → Nat) (y : Nat) (av rest : List Value) (pc' : Nat) : xv_K := if xv_fit (lgs y) (mx y) 0 av = true ∧ xv_room rest = true then some (.inr (y, av, rest, pc')) else none
def xv_copy (cp : Nat → Nat) (t pc' : Nat) (L : xv_L) (h : xv_H) (n dp : Int32) (d : Nat) (sp : Int32) (s : Nat) (r : List Value) : xv_A :=
  if (s < h.1 ∧ d < h.1) ∧ (0 ≤ sp ∧ 0 ≤ dp ∧ 0 ≤ n) ∧ (sp.toNatClampNeg + n.toNatClampNeg ≤ h.2.2.2.1 s ∧ dp.toNatClampNeg + n.toNatClampNeg ≤ h.2.2.2.1 d) ∧ xv_room r = true then
    if h.2.2.1 s = 100 ∧ h.2.2.1 d = 100 ∧ t = 100 then
      match h with | (n1, z, tg, ln, fr, er, fi, ei, el) => xv_nx pc' L r (n1, z, tg, ln, fr, er, fi, xv_cpy ei s sp.toNatClampNeg d dp.toNatClampNeg n.toNatClampNeg, el)
    else if h.2.2.1 s = t ∧ h.2.2.1 d = t ∧ 104 ≤ t ∧ ∀ i, i < n.toNatClampNeg → xv_ok cp h d (h.2.2.2.2.2.1 s (sp.toNatClampNeg + i)) = true then
      match h with | (n1, z, tg, ln, fr, er, fi, ei, el) => xv_nx pc' L r (n1, z, tg, ln, fr, xv_cpy er s sp.toNatClampNeg d dp.toNatClampNeg n.toNatClampNeg, fi, ei, el)
    else none
  else none
def xv_clone (pc' : Nat) (L : xv_L) (h : xv_H) (a : Nat) (r : List Value) : xv_A :=
  if a < h.1 ∧ h.2.2.1 a = 100 ∧ xv_room r = true then
    match xv_new h 100 (h.2.2.2.1 a) (h.2.2.2.1 a) with | (n1, z, tg, ln, fr, er, fi, ei, el) => xv_nx pc' L (.ref h.1 :: r) (n1, z, tg, ln, fr, er, fi, (fun b i => if b = h.1 then ei a i else ei b i), el)
  else none
/-- may two references be compared: those that were there before only where they are known to differ -/
def xv_cmp (a b : Nat) : Prop := a = b ∨ (a < xv_SB ∧ (b < xv_SB ∨ xv_SB + 2 ≤ b)) ∨ (b < xv_SB ∧ (a < xv_SB ∨ xv_SB + 2 ≤ a)) ∨ (xv_SB + 3 ≤ a ∧ xv_SB + 3 ≤ b)
def xv_cok (x y : Option Nat) : Bool := match x, y with
  | some a, some b => decide (a = b ∨ (a < xv_SB ∧ (b < xv_SB ∨ xv_SB + 2 ≤ b)) ∨ (b < xv_SB ∧ (a < xv_SB ∨ xv_SB + 2 ≤ a)) ∨ (xv_SB + 3 ≤ a ∧ xv_SB + 3 ≤ b))
  | _, _ => true
/-- one instruction; sc: the script, cell number xv_SB -/
def xv_act (sc : Nat × (Nat → Int32)) (cp : Nat → Nat) (lg : List Nat) (ic : xv_I) (pc : Nat) (L : xv_L) (st : List Value) (h : xv_H) : xv_A := match ic.1 with
  | .aconst_null => xv_nx (pc + 1) L (.null :: st) h
  | .iconst n => xv_nx (pc + 1) L (.int (Int32.ofInt n) :: st) h
  | .bipush n => xv_nx (pc + 2) L (.int (Int8.ofInt n).toInt32 :: st) h
  | .sipush n => xv_nx (pc + 3) L (.int (Int16.ofInt n).toInt32 :: st) h
  | .lconst n => xv_nx (pc + 1) L (.long (Int64.ofNat (n : Nat)) :: st) h
  | .ldc _ => if ic.2.2 = 0 then xv_nx (pc + 2) L (.int (Int32.ofNat ic.2.1) :: st) h else if ic.2.2 = 1 then xv_nx (pc + 2) L (.ref (xv_SB + 1) :: st) h else none
  | .ldc2_w _ => xv_nx (pc + 3) L (.long (Int64.ofNat ic.2.1) :: st) h
  | .iload i => xv_iload L i fun x => xv_nx (pc + 2) L (.int x :: st) h
  | .iload_n i => xv_iload L i fun x => xv_nx (pc + 1) L (.int x :: st) h
  | .lload i => xv_lload L i fun x => xv_nx (pc + 2) L (.long x :: st) h
  | .lload_n i => xv_lload L i fun x => xv_nx (pc + 1) L (.long x :: st) h
  | .aload i => xv_aload L i fun x => xv_nx (pc + 2) L (va_rf x :: st) h
  | .aload_n i => xv_aload L i fun x => xv_nx (pc + 1) L (va_rf x :: st) h
  | .istore i => xv_i1 st fun x r => xv_st1 lg L i (.int x) fun L' => xv_nx (pc + 2) L' r h
  | .istore_n i => xv_i1 st fun x r => xv_st1 lg L i (.int x) fun L' => xv_nx (pc + 1) L' r h
  | .lstore i => xv_l1 st fun x r => xv_st2 lg L i (.long x) fun L' => xv_nx (pc + 2) L' r h
  | .lstore_n i => xv_l1 st fun x r => xv_st2 lg L i (.long x) fun L' => xv_nx (pc + 1) L' r h
  | .astore i => xv_q1 st fun x r => xv_st1 lg L i (va_rf x) fun L' => xv_nx (pc + 2) L' r h
  | .astore_n i => xv_q1 st fun x r => xv_st1 lg L i (va_rf x) fun L' => xv_nx (pc + 1) L' r h
  | .iinc i n => xv_iload L i fun x => xv_st1 lg L i (.int (x + Int32.ofInt n)) fun L' => xv_nx (pc + 3) L' st h
  | .iadd => xv_i2 st fun x y r => xv_nx (pc + 1) L (.int (x + y) :: r) h
  | .isub => xv_i2 st fun x y r => xv_nx (pc + 1) L (.int (x - y) :: r) h
  | .imul => xv_i2 st fun x y r => xv_nx (pc + 1) L (.int (x * y) :: r) h
  | .iand => xv_i2 st fun x y r => xv_nx (pc + 1) L (.int (x &&& y) :: r) h
  | .ior => xv_i2 st fun x y r => xv_nx (pc + 1) L (.int (x ||| y) :: r) h
  | .idiv => xv_i2 st fun x y r => if y = 0 then none else xv_nx (pc + 1) L (.int (x / y) :: r) h
  | .irem => xv_i2 st fun x y r => if y = 0 then none else xv_nx (pc + 1) L (.int (x - x / y * y) :: r) h
  | .ishl => xv_i2 st fun x y r => xv_nx (pc + 1) L (.int (x <<< (y &&& 31)) :: r) h
  | .ishr => xv_i2 st fun x y r => xv_nx (pc + 1) L (.int (x >>> (y &&& 31)) :: r) h
  | .ladd => xv_l2 st fun x y r => xv_nx (pc + 1) L (.long (x + y) :: r) h
  | .lmul => xv_l2 st fun x y r => xv_nx (pc + 1) L (.long (x * y) :: r) h
  | .land => xv_l2 st fun x y r => xv_nx (pc + 1) L (.long (x &&& y) :: r) h
  | .lor => xv_l2 st fun x y r => xv_nx (pc + 1) L (.long (x ||| y) :: r) h
  | .lxor => xv_l2 st fun x y r => xv_nx (pc + 1) L (.long (x ^^^ y) :: r) h
  | .lshl => xv_li st fun x y r => xv_nx (pc + 1) L (.long (x <<< (y.toInt64 &&& 63)) :: r) h
  | .lshr => xv_li st fun x y r => xv_nx (pc + 1) L (.long (x >>> (y.toInt64 &&& 63)) :: r) h
  | .i2l => xv_i1 st fun x r => xv_nx (pc + 1) L (.long x.toInt64 :: r) h
  | .l2i => xv_l1 st fun x r => xv_nx (pc + 1) L (.int x.toInt32 :: r) h
  | .i2b => xv_i1 st fun x r => xv_nx (pc + 1) L (.int x.toInt8.toInt32 :: r) h
  | .pop => xv_v1 st fun _ r => xv_nx (pc + 1) L r h
  | .dup => xv_v1 st fun v r => xv_nx (pc + 1) L (v :: v :: r) h
  | .dup_x1 => xv_v1 st fun v r => xv_v1 r fun w r' => xv_nx (pc + 1) L (v :: w :: v :: r') h
  | .dup_x2 => xv_v1 st fun v r => xv_v1 r fun w r' => xv_v1 r' fun u r'' => xv_nx (pc + 1) L (v :: w :: u :: v :: r'') h
  | .dup2 => xv_v1 st fun v r => xv_v1 r fun w r' => xv_nx (pc + 1) L (v :: w :: v :: w :: r') h
  | .ifCond o off => xv_i1 st fun x r => xv_if (xv_cnd o x 0) pc off L r h
  | .if_icmp o off => xv_i2 st fun x y r => xv_if (xv_cnd o x y) pc off L r h
  | .if_acmp o off => xv_q1 st fun y r => xv_q1 r fun x r' => if xv_cok x y = true then xv_if (match o with | .eq => decide (x = y) | .ne => decide (¬ x = y)) pc off L r' h else none
  | .ifnull off => xv_q1 st fun x r => xv_if (decide (x = none)) pc off L r h
  | .ifnonnull off => xv_q1 st fun x r => xv_if (decide (¬ x = none)) pc off L r h
  | .goto off => xv_jmp pc off L st h
  | .tableswitch dflt lo hi offs => xv_i1 st fun x r => if x.toInt < lo ∨ hi < x.toInt then xv_jmp pc dflt L r h else match offs[(x.toInt - lo).toNat]? with
    | some off => xv_jmp pc off L r h
    | none => none
  | .getfield _ => xv_r1 st fun a r => if a < h.1 ∧ h.2.2.1 a = ic.2.1 / 100 then xv_nx (pc + 3) L ((if ic.2.2 = 1 then va_rf (h.2.2.2.2.1 ic.2.1 a) else .int (h.2.2.2.2.2.2.1 ic.2.1 a)) :: r) h else none
  | .putfield _ => if ic.2.2 = 1 then xv_q1 st fun x r => xv_r1 r fun a r' => if a < h.1 ∧ h.2.2.1 a = ic.2.1 / 100 then
        match h with | (n, z, tg, ln, fr, er, fi, ei, el) => xv_nx (pc + 3) L r' (n, z, tg, ln, xv_up fr ic.2.1 a x, er, fi, ei, el)
      else none
    else xv_i1 st fun x r => xv_r1 r fun a r' => if (a < h.1 ∧ h.2.2.1 a = ic.2.1 / 100) ∧ (ic.2.2 = 0 ∨ (ic.2.2 = 2 ∧ (x = 0 ∨ x = 1))) then
        match h with | (n, z, tg, ln, fr, er, fi, ei, el) => xv_nx (pc + 3) L r' (n, z, tg, ln, fr, er, xv_up fi ic.2.1 a x, ei, el)
      else none
  | .getstatic _ => xv_nx (pc + 3) L (.ref (xv_SB + ic.2.1) :: st) h
  | .iaload => xv_i1 st fun i r => xv_r1 r fun a r' => if a = xv_SB then (if 0 ≤ i ∧ i.toNatClampNeg < sc.1 then xv_nx (pc + 1) L (.int (sc.2 i.toNatClampNeg) :: r') h else none) else xv_in h i a (if h.2.2.1 a = 100 then xv_nx (pc + 1) L (.int (h.2.2.2.2.2.2.2.1 a i.toNatClampNeg) :: r') h else none)
  | .baload => xv_i1 st fun i r => xv_r1 r fun a r' => xv_in h i a (if h.2.2.1 a = 101 ∨ h.2.2.1 a = 102 then xv_nx (pc + 1) L (.int (h.2.2.2.2.2.2.2.1 a i.toNatClampNeg) :: r') h else none)
  | .laload => xv_i1 st fun i r => xv_r1 r fun a r' => xv_in h i a (if h.2.2.1 a = 103 then xv_nx (pc + 1) L (.long (h.2.2.2.2.2.2.2.2 a i.toNatClampNeg) :: r') h else none)
  | .aaload => xv_i1 st fun i r => xv_r1 r fun a r' => xv_in h i a (if h.2.2.1 a = ic.2.1 then xv_nx (pc + 1) L (va_rf (h.2.2.2.2.2.1 a i.toNatClampNeg) :: r') h else none)
  | .iastore => xv_i1 st fun x r0 => xv_i1 r0 fun i r => xv_r1 r fun a r' => xv_in h i a (if h.2.2.1 a = 100 then
        match h with | (n, z, tg, ln, fr, er, fi, ei, el) => xv_nx (pc + 1) L r' (n, z, tg, ln, fr, er, fi, xv_up ei a i.toNatClampNeg x, el)
      else none)
  | .bastore => xv_i1 st fun x r0 => xv_i1 r0 fun i r => xv_r1 r fun a r' => xv_in h i a (if h.2.2.1 a = 101 then
        match h with | (n, z, tg, ln, fr, er, fi, ei, el) => xv_nx (pc + 1) L r' (n, z, tg, ln, fr, er, fi, xv_up ei a i.toNatClampNeg x.toInt8.toInt32, el)
      else if h.2.2.1 a = 102 ∧ (x = 0 ∨ x = 1) then
        match h with | (n, z, tg, ln, fr, er, fi, ei, el) => xv_nx (pc + 1) L r' (n, z, tg, ln, fr, er, fi, xv_up ei a i.toNatClampNeg x, el)
      else none)
  | .lastore => xv_l1 st fun x r0 => xv_i1 r0 fun i r => xv_r1 r fun a r' => xv_in h i a (if h.2.2.1 a = 103 then
        match h with | (n, z, tg, ln, fr, er, fi, ei, el) => xv_nx (pc + 1) L r' (n, z, tg, ln, fr, er, fi, ei, xv_up el a i.toNatClampNeg x)
      else none)
  | .aastore => xv_q1 st fun x r0 => xv_i1 r0 fun i r => xv_r1 r fun a r' => xv_in h i a (if h.2.2.1 a = ic.2.1 ∧ xv_ok cp h a x = true then
        match h with | (n, z, tg, ln, fr, er, fi, ei, el) => xv_nx (pc + 1) L r' (n, z, tg, ln, fr, xv_up er a i.toNatClampNeg x, fi, ei, el)
      else none)
  | .arraylength => xv_r1 st fun a r => if a = xv_SB then xv_nx (pc + 1) L (.int (Int32.ofNat sc.1) :: r) h else if a = xv_SB + 2 ∧ ic.2.2 = 1 then xv_nx (pc + 1) L (.int 0 :: r) h else if a < h.1 ∧ h.2.2.1 a = ic.2.1 then xv_nx (pc + 1) L (.int (Int32.ofNat (h.2.2.2.1 a)) :: r) h else none
  | .new _ => xv_new1 (pc + 3) L st h ic.2.1 0 ic.2.2
  | .newarray _ => xv_i1 st fun n r => xv_len n (xv_new1 (pc + 2) L r h ic.2.1 n.toNatClampNeg n.toNatClampNeg)
  | .anewarray _ => xv_i1 st fun n r => xv_len n (xv_new1 (pc + 3) L r h ic.2.1 n.toNatClampNeg n.toNatClampNeg)
  | .checkcast _ => match st with
    | .null :: _ => xv_nx (pc + 3) L st h
    | .ref a :: _ => if a < h.1 ∧ h.2.2.1 a = ic.2.1 then xv_nx (pc + 3) L st h else none
    | _ => none
  | _ => none
/-- a return -/
def xv_ret (ic : xv_I) (st : List Value) : Option (Option Value) := match ic.1 with
  | .ireturn => match st with
    | [.int v] => if ic.2.2 = 0 ∨ (ic.2.2 = 2 ∧ (v = 0 ∨ v = 1)) then some (some (.int v)) else none
    | _ => none
  | .lreturn => match st with
    | [.long v] => some (some (.long v))
    | _ => none
  | .areturn => match st with
    | [.ref a] => some (some (.ref a))
    | [.null] => some (some .null)
    | _ => none
  | .return_ => match st with
    | [] => some none
    | _ => none
  | _ => none
/-- a call, or what the machine does itself -/
def xv_inv (cp cs : Nat → Nat) (lgs : Nat → List Nat) (mx : Nat → Nat) (ic : xv_I) (pc : Nat) (L : xv_L) (st : List Value) (h : xv_H) : xv_K := match ic.1 with
  | .invokestatic _ => if ic.2.1 = 1000 then
      match st with
      | .int n :: .int dp :: .ref d :: .int sp :: .ref s :: r => (xv_copy cp ic.2.2 (pc + 3) L h n dp d sp s r).map .inl
      | _ => none
    else if ic.2.1 = 1004 then xv_i2 st fun x y r => if xv_room r = true then (xv_nx (pc + 3) L (.int (if y < x then y else x) :: r) h).map .inl else none
    else if ic.2.1 = 1005 then xv_i2 st fun x y r => if xv_room r = true then (xv_nx (pc + 3) L (.int (if x < y then y else x) :: r) h).map .inl else none
    else if st.length < ic.2.2 then none else xv_call lgs mx ic.2.1 (st.take ic.2.2).reverse (st.drop ic.2.2) (pc + 3)
  | .invokespecial _ => if ic.2.1 = 1001 then xv_r1 st fun _ r => if xv_room r = true then (xv_nx (pc + 3) L r h).map .inl else none
    else if st.length < ic.2.2 then none else xv_r1 (st.drop ic.2.2) fun b r => xv_call lgs mx ic.2.1 (.ref b :: (st.take ic.2.2).reverse) r (pc + 3)
  | .invokevirtual _ => if ic.2.1 = 1002 then xv_r1 st fun a r => (xv_clone (pc + 3) L h a r).map .inl
    else if ic.2.1 = 1003 then xv_r1 st fun a r => if a < h.1 ∧ h.2.2.1 a = ic.2.2 ∧ xv_room r = true then (xv_nx (pc + 3) L (.ref (xv_SB + 1) :: r) h).map .inl else none
    else if st.length < ic.2.2 then none else xv_r1 (st.drop ic.2.2) fun b r => if b < h.1 ∧ h.2.2.1 b = cs ic.2.1 then xv_call lgs mx ic.2.1 (.ref b :: (st.take ic.2.2).reverse) r (pc + 3) else none
  | _ => none
/-- 1: a return, 2: a call -/
def xv_kind (i : ClassFile.Instr) : Nat := match i with
  | .ireturn | .lreturn | .areturn | .return_ => 1
  | .invokestatic _ | .invokespecial _ | .invokevirtual _ => 2
  | _ => 0
def xv_exec (sc : Nat × (Nat → Int32)) (cd : Nat → Nat → Option xv_I) (cp cs : Nat → Nat) (lgs : Nat → List Nat) (mx : Nat → Nat) : Nat → Nat → Nat → xv_L → List Value → xv_H → Option (Option Value × xv_H)
  | 0, _, _, _, _, _ => none
  | f + 1, y, pc, L, st, h => match cd y pc with
    | none => none
    | some ic => match xv_kind ic.1 with
      | 0 => match xv_act sc cp (lgs y) ic pc L st h with
        | none => none
        | some x => xv_exec sc cd cp cs lgs mx f y x.1 x.2.1 x.2.2.1 x.2.2.2
      | 1 => match xv_ret ic st with
        | none => none
        | some r => some (r, h)
      | _ => match xv_inv cp cs lgs mx ic pc L st h with
        | none => none
        | some (.inl x) => xv_exec sc cd cp cs lgs mx f y x.1 x.2.1 x.2.2.1 x.2.2.2
        | some (.inr k) => match xv_exec sc cd cp cs lgs mx f k.1 0 (xv_ent (mx k.1) k.2.1) [] h with
          | none => none
          | some q => xv_exec sc cd cp cs lgs mx f y k.2.2.2 L (q.1.toList ++ k.2.2.1) q.2
/-- more steps allowed, the same end -/
theorem xv_exec_succ {sc : Nat × (Nat → Int32)} {cd : Nat → Nat → Option xv_I} {cp cs : Nat → Nat} {lgs : Nat → List Nat} {mx : Nat → Nat} : ∀ (f y pc : Nat) (L : xv_L) (st : List Value) (h : xv_H) (x : Option Value × xv_H), xv_exec sc cd cp cs lgs mx f y pc L st h = some x → xv_exec sc cd cp cs lgs mx (f + 1) y pc L st h = some x := by
  intro f
  induction f with
  | zero => intro y pc L st h x hx; cases hx
  | succ f ih =>
    intro y pc L st h x hx
    rw [xv_exec] at hx ⊢
    cases hc : cd y pc with
    | none => rw [hc] at hx; cases hx
    | some ic =>
      simp only [hc] at hx ⊢
      split at hx
      · rename_i hk
        cases ha : xv_act sc cp (lgs y) ic pc L st h with
        | none => rw [ha] at hx; cases hx
        | some b =>
          simp only [ha] at hx ⊢
          exact ih _ _ _ _ _ _ hx
      · exact hx
      · cases ha : xv_inv cp cs lgs mx ic pc L st h with
        | none => rw [ha] at hx; cases hx
        | some b =>
          simp only [ha] at hx ⊢
          rcases b with b | k
          · exact ih _ _ _ _ _ _ hx
          · simp only at hx ⊢
            cases hc2 : xv_exec sc cd cp cs lgs mx f k.1 0 (xv_ent (mx k.1) k.2.1) [] h with
            | none => rw [hc2] at hx; cases hx
            | some q =>
              simp only [hc2] at hx
              rw [ih _ _ _ _ _ _ hc2]
              exact ih _ _ _ _ _ _ hx
theorem xv_exec_le {sc : Nat × (Nat → Int32)} {cd : Nat → Nat → Option xv_I} {cp cs : Nat → Nat} {lgs : Nat → List Nat} {mx : Nat → Nat} {f g y pc : Nat} {L : xv_L} {st : List Value} {h : xv_H} {x : Option Value × xv_H} (hx : xv_exec sc cd cp cs lgs mx f y pc L st h = some x) (hg : f ≤ g) : xv_exec sc cd cp cs lgs mx g y pc L st h = some x := by
  induction hg with
  | refl => exact hx
  | step _ ih => exact xv_exec_succ _ _ _ _ _ _ _ ih
