section
/-! An abstract machine: a heap of numbered cells as plain functions, frames as lists. It is run by 'xv_exec'; what it does the machine does (part 03). -/
/-- a heap: cells, slots, tag of a cell, length of an array; fields and elements that are references; fields and elements that are ints; elements that are longs -/
abbrev xv_H : Type := Nat × Nat × (Nat → Nat) × (Nat → Nat) × (Nat → Nat → Option Nat) × (Nat → Nat → Option Nat) × (Nat → Nat → Int32) × (Nat → Nat → Int32) × (Nat → Nat → Int64)
abbrev xv_L : Type := List (Option Value)
/-- an instruction as decoded, two numbers by which it is resolved -/
abbrev xv_I : Type := ClassFile.Instr × Nat × Nat
abbrev xv_N : Type := Nat × xv_L × List Value × xv_H
abbrev xv_A : Type := Option xv_N
/-- a call: method, arguments, the stack below, where it goes on -/
abbrev xv_K : Type := Option (xv_N ⊕ (Nat × List Value × List Value × Nat))
def xv_up {β : Type} (f : Nat → Nat → β) (x y : Nat) (v : β) : Nat → Nat → β := fun a b => if a = x ∧ b = y then v else f a b
def xv_u1 (f : Nat → Nat) (x v : Nat) : Nat → Nat := fun a => if a = x then v else f a
def xv_fresh {β : Type} (f : Nat → Nat → β) (x : Nat) (v : β) : Nat → Nat → β := fun a b => if a = x then v else f a b
def xv_freshF {β : Type} (f : Nat → Nat → β) (x : Nat) (v : β) : Nat → Nat → β := fun a b => if b = x then v else f a b
/-- a new cell of tag t, length m, k slots -/
def xv_new (h : xv_H) (t m k : Nat) : xv_H := match h with
  | (n, z, tg, ln, fr, er, fi, ei, el) => (n + 1, z + k, xv_u1 tg n t, xv_u1 ln n m, xv_freshF fr n none, xv_fresh er n none, xv_freshF fi n 0, xv_fresh ei n 0, xv_fresh el n 0)
def xv_cpy {β : Type} (f : Nat → Nat → β) (s sp d dp n : Nat) : Nat → Nat → β := fun a i => if a = d ∧ dp ≤ i ∧ i < dp + n then f s (sp + (i - dp)) else f a i
def xv_nx (pc : Nat) (L : xv_L) (st : List Value) (h : xv_H) : xv_A := some (pc, L, st, h)
/-- may a value of one slot be stored at i -/
def xv_b1 (lg : List Nat) (i : Nat) : Bool := i == 0 || !(lg.contains (i - 1))
def xv_jmp (pc : Nat) (off : Int) (L : xv_L) (st : List Value) (h : xv_H) : xv_A := match (pc : Int) + off with
  | .ofNat t => xv_nx t L st h
  | .negSucc _ => none
def xv_cnd (o : ClassFile.Cond) (x y : Int32) : Bool := match o with
  | .eq => decide (x = y)
  | .ne => decide (¬ x = y)
  | .lt => decide (x < y)
  | .ge => decide (y ≤ x)
  | .gt => decide (y < x)
  | .le => decide (x ≤ y)
def xv_if (b : Bool) (pc : Nat) (off : Int) (L : xv_L) (st : List Value) (h : xv_H) : xv_A := if b = true then xv_jmp pc off L st h else xv_nx (pc + 3) L st h
def xv_i1 {β : Type} (st : List Value) (f : Int32 → List Value → Option β) : Option β := match st with
  | .int x :: r => f x r
  | _ => none
def xv_i2 {β : Type} (st : List Value) (f : Int32 → Int32 → List Value → Option β) : Option β := match st with
  | .int y :: .int x :: r => f x y r
  | _ => none
def xv_l1 {β : Type} (st : List Value) (f : Int64 → List Value → Option β) : Option β := match st with
  | .long x :: r => f x r
  | _ => none
def xv_l2 {β : Type} (st : List Value) (f : Int64 → Int64 → List Value → Option β) : Option β := match st with
  | .long y :: .long x :: r => f x y r
  | _ => none
def xv_li {β : Type} (st : List Value) (f : Int64 → Int32 → List Value → Option β) : Option β := match st with
  | .int y :: .long x :: r => f x y r
  | _ => none
def xv_r1 {β : Type} (st : List Value) (f : Nat → List Value → Option β) : Option β := match st with
  | .ref a :: r => f a r
  | _ => none
/-- a reference or null -/
def xv_q1 {β : Type} (st : List Value) (f : Option Nat → List Value → Option β) : Option β := match st with
  | .ref a :: r => f (some a) r
  | .null :: r => f none r
  | _ => none
def xv_v1 {β : Type} (st : List Value) (f : Value → List Value → Option β) : Option β := match st with
  | v :: r => if v.category = 1 then f v r else none
  | _ => none
/-- an index of an array: in range -/
def xv_in {β : Type} (h : xv_H) (i : Int32) (a : Nat) (k : Option β) : Option β := if a < h.1 ∧ 0 ≤ i ∧ i.toNatClampNeg < h.2.2.2.1 a then k else none
def xv_iload {β : Type} (L : xv_L) (i : Nat) (f : Int32 → Option β) : Option β := match L[i]? with
  | some (some (.int x)) => f x
  | _ => none
def xv_lload {β : Type} (L : xv_L) (i : Nat) (f : Int64 → Option β) : Option β := match L[i]? with
  | some (some (.long x)) => f x
  | _ => none
def xv_aload {β : Type} (L : xv_L) (i : Nat) (f : Option Nat → Option β) : Option β := match L[i]? with
  | some (some (.ref x)) => f (some x)
  | some (some .null) => f none
  | _ => none
def xv_st1 {β : Type} (lg : List Nat) (L : xv_L) (i : Nat) (v : Value) (f : xv_L → Option β) : Option β := if i < L.length ∧ xv_b1 lg i = true then f (L.set i (some v)) else none
def xv_st2 {β : Type} (lg : List Nat) (L : xv_L) (i : Nat) (v : Value) (f : xv_L → Option β) : Option β := if i + 1 < L.length ∧ xv_b1 lg i = true ∧ lg.contains i = true then f ((L.set i (some v)).set (i + 1) none) else none
/-- the number of the first of the cells that the program doesn't make: constants of enums and the like -/
def xv_SB : Nat := 10000000
def xv_new1 (pc' : Nat) (L : xv_L) (st : List Value) (h : xv_H) (t m k : Nat) : xv_A := xv_nx pc' L (.ref h.1 :: st) (xv_new h t m k)
def xv_len {β : Type} (n : Int32) (k : Option β) : Option β := if 0 ≤ n ∧ n.toNatClampNeg ≤ 60000000 then k else none
/-- what an array of references may hold: arrays of tag t hold cells of tag cp t -/
def xv_ok (cp : Nat → Nat) (h : xv_H) (a : Nat) (x : Option Nat) : Bool := match x with
  | none => true
  | some b => decide (b < h.1 ∧ h.2.2.1 b = cp (h.2.2.1 a))
/-- do the arguments fit: so many locals, and the longs where they may stand -/
def xv_fit (lg : List Nat) (n : Nat) : Nat → List Value → Bool
  | i, [] => decide (i ≤ n)
  | i, v :: vs => if v.category = 2 then lg.contains i && xv_fit lg n (i + 2) vs else xv_fit lg n (i + 1) vs
def xv_sl (av : List Value) : xv_L := av.flatMap fun v => if v.category = 2 then [some v, none] else [some v]
def xv_ent (n : Nat) (av : List Value) : xv_L := xv_sl av ++ List.replicate (n - (xv_sl av).length) none
def xv_room (st : List Value) : Bool := decide ((st.map fun v => v.category).sum ≤ 8)
def xv_call (lgs : Nat → List Nat) (mx : Nat → Nat) (y : Nat) (av rest : List Value) (pc' : Nat) : xv_K := if xv_fit (lgs y) (mx y) 0 av = true ∧ xv_room rest = true then some (.inr (y, av, rest, pc')) else none
def xv_copy (cp : Nat → Nat) (t pc' : Nat) (L : xv_L) (h : xv_H) (n dp : Int32) (d : Nat) (sp : Int32) (s : Nat) (r : List Value) : xv_A :=
  if (s < h.1 ∧ d < h.1) ∧ (0 ≤ sp ∧ 0 ≤ dp ∧ 0 ≤ n) ∧ (sp.toNatClampNeg + n.toNatClampNeg ≤ h.2.2.2.1 s ∧ dp.toNatClampNeg + n.toNatClampNeg ≤ h.2.2.2.1 d) ∧ xv_room r = true then
    if h.2.2.1 s = 100 ∧ h.2.2.1 d = 100 ∧ t = 100 then
      match h with | (n1, z, tg, ln, fr, er, fi, ei, el) => xv_nx pc' L r (n1, z, tg, ln, fr, er, fi, xv_cpy ei s sp.toNatClampNeg d dp.toNatClampNeg n.toNatClampNeg, el)
    else if h.2.2.1 s = t ∧ h.2.2.1 d = t ∧ 104 ≤ t ∧ ∀ i, i < n.toNatClampNeg → xv_ok cp h d (h.2.2.2.2.2.1 s (sp.toNatClampNeg + i)) = true then
      match h with | (n1, z, tg, ln, fr, er, fi, ei, el) => xv_nx pc' L r (n1, z, tg, ln, fr, xv_cpy er s sp.toNatClampNeg d dp.toNatClampNeg n.toNatClampNeg, fi, ei, el)
    else none
  else none
def xv_clone (pc' : Nat) (L : xv_L) (h : xv_H) (a : Nat) (r : List Value) : xv_A :=
  if a < h.1 ∧ h.2.2.1 a = 100 ∧ xv_room r = true then
    match xv_new h 100 (h.2.2.2.1 a) (h.2.2.2.1 a) with | (n1, z, tg, ln, fr, er, fi, ei, el) => xv_nx pc' L (.ref h.1 :: r) (n1, z, tg, ln, fr, er, fi, (fun b i => if b = h.1 then ei a i else ei b i), el)
  else none
/-- may two references be compared: those that were there before only where they are known to differ -/
def xv_cmp (a b : Nat) : Prop := a = b ∨ (a < xv_SB ∧ (b < xv_SB ∨ xv_SB + 2 ≤ b)) ∨ (b < xv_SB ∧ (a < xv_SB ∨ xv_SB + 2 ≤ a)) ∨ (xv_SB + 3 ≤ a ∧ xv_SB + 3 ≤ b)
def xv_cok (x y : Option Nat) : Bool := match x, y with
  | some a, some b => decide (a = b ∨ (a < xv_SB ∧ (b < xv_SB ∨ xv_SB + 2 ≤ b)) ∨ (b < xv_SB ∧ (a < xv_SB ∨ xv_SB + 2 ≤ a)) ∨ (xv_SB + 3 ≤ a ∧ xv_SB + 3 ≤ b))
  | _, _ => true
/-- one instruction; sc: the script, cell number xv_SB -/
def xv_act (sc : Nat × (Nat → Int32)) (cp : Nat → Nat) (lg : List Nat) (ic : xv_I) (pc : Nat) (L : xv_L) (st : List Value) (h : xv_H) : xv_A := match ic.1 with
  | .aconst_null => xv_nx (pc + 1) L (.null :: st) h
  | .iconst n => xv_nx (pc + 1) L (.int (Int32.ofInt n) :: st) h
  | .bipush n => xv_nx (pc + 2) L (.int (Int8.ofInt n).toInt32 :: st) h
  | .sipush n => xv_nx (pc + 3) L (.int (Int16.ofInt n).toInt32 :: st) h
  | .lconst n => xv_nx (pc + 1) L (.long (Int64.ofNat (n : Nat)) :: st) h
  | .ldc _ => if ic.2.2 = 0 then xv_nx (pc + 2) L (.int (Int32.ofNat ic.2.1) :: st) h else if ic.2.2 = 1 then xv_nx (pc + 2) L (.ref (xv_SB + 1) :: st) h else none
  | .ldc2_w _ => xv_nx (pc + 3) L (.long (Int64.ofNat ic.2.1) :: st) h
  | .iload i => xv_iload L i fun x => xv_nx (pc + 2) L (.int x :: st) h
  | .iload_n i => xv_iload L i fun x => xv_nx (pc + 1) L (.int x :: st) h
  | .lload i => xv_lload L i fun x => xv_nx (pc + 2) L (.long x :: st) h
  | .lload_n i => xv_lload L i fun x => xv_nx (pc + 1) L (.long x :: st) h
  | .aload i => xv_aload L i fun x => xv_nx (pc + 2) L (va_rf x :: st) h
  | .aload_n i => xv_aload L i fun x => xv_nx (pc + 1) L (va_rf x :: st) h
  | .istore i => xv_i1 st fun x r => xv_st1 lg L i (.int x) fun L' => xv_nx (pc + 2) L' r h
  | .istore_n i => xv_i1 st fun x r => xv_st1 lg L i (.int x) fun L' => xv_nx (pc + 1) L' r h
  | .lstore i => xv_l1 st fun x r => xv_st2 lg L i (.long x) fun L' => xv_nx (pc + 2) L' r h
  | .lstore_n i => xv_l1 st fun x r => xv_st2 lg L i (.long x) fun L' => xv_nx (pc + 1) L' r h
  | .astore i => xv_q1 st fun x r => xv_st1 lg L i (va_rf x) fun L' => xv_nx (pc + 2) L' r h
  | .astore_n i => xv_q1 st fun x r => xv_st1 lg L i (va_rf x) fun L' => xv_nx (pc + 1) L' r h
  | .iinc i n => xv_iload L i fun x => xv_st1 lg L i (.int (x + Int32.ofInt n)) fun L' => xv_nx (pc + 3) L' st h
  | .iadd => xv_i2 st fun x y r => xv_nx (pc + 1) L (.int (x + y) :: r) h
  | .isub => xv_i2 st fun x y r => xv_nx (pc + 1) L (.int (x - y) :: r) h
  | .imul => xv_i2 st fun x y r => xv_nx (pc + 1) L (.int (x * y) :: r) h
  | .iand => xv_i2 st fun x y r => xv_nx (pc + 1) L (.int (x &&& y) :: r) h
  | .ior => xv_i2 st fun x y r => xv_nx (pc + 1) L (.int (x ||| y) :: r) h
  | .idiv => xv_i2 st fun x y r => if y = 0 then none else xv_nx (pc + 1) L (.int (x / y) :: r) h
  | .irem => xv_i2 st fun x y r => if y = 0 then none else xv_nx (pc + 1) L (.int (x - x / y * y) :: r) h
  | .ishl => xv_i2 st fun x y r => xv_nx (pc + 1) L (.int (x <<< (y &&& 31)) :: r) h
  | .ishr => xv_i2 st fun x y r => xv_nx (pc + 1) L (.int (x >>> (y &&& 31)) :: r) h
  | .ladd => xv_l2 st fun x y r => xv_nx (pc + 1) L (.long (x + y) :: r) h
  | .lmul => xv_l2 st fun x y r => xv_nx (pc + 1) L (.long (x * y) :: r) h
  | .land => xv_l2 st fun x y r => xv_nx (pc + 1) L (.long (x &&& y) :: r) h
  | .lor => xv_l2 st fun x y r => xv_nx (pc + 1) L (.long (x ||| y) :: r) h
  | .lxor => xv_l2 st fun x y r => xv_nx (pc + 1) L (.long (x ^^^ y) :: r) h
  | .lshl => xv_li st fun x y r => xv_nx (pc + 1) L (.long (x <<< (y.toInt64 &&& 63)) :: r) h
  | .lshr => xv_li st fun x y r => xv_nx (pc + 1) L (.long (x >>> (y.toInt64 &&& 63)) :: r) h
  | .i2l => xv_i1 st fun x r => xv_nx (pc + 1) L (.long x.toInt64 :: r) h
  | .l2i => xv_l1 st fun x r => xv_nx (pc + 1) L (.int x.toInt32 :: r) h
  | .i2b => xv_i1 st fun x r => xv_nx (pc + 1) L (.int x.toInt8.toInt32 :: r) h
  | .pop => xv_v1 st fun _ r => xv_nx (pc + 1) L r h
  | .dup => xv_v1 st fun v r => xv_nx (pc + 1) L (v :: v :: r) h
  | .dup_x1 => xv_v1 st fun v r => xv_v1 r fun w r' => xv_nx (pc + 1) L (v :: w :: v :: r') h
  | .dup_x2 => xv_v1 st fun v r => xv_v1 r fun w r' => xv_v1 r' fun u r'' => xv_nx (pc + 1) L (v :: w :: u :: v :: r'') h
  | .dup2 => xv_v1 st fun v r => xv_v1 r fun w r' => xv_nx (pc + 1) L (v :: w :: v :: w :: r') h
  | .ifCond o off => xv_i1 st fun x r => xv_if (xv_cnd o x 0) pc off L r h
  | .if_icmp o off => xv_i2 st fun x y r => xv_if (xv_cnd o x y) pc off L r h
  | .if_acmp o off => xv_q1 st fun y r => xv_q1 r fun x r' => if xv_cok x y = true then xv_if (match o with | .eq => decide (x = y) | .ne => decide (¬ x = y)) pc off L r' h else none
  | .ifnull off => xv_q1 st fun x r => xv_if (decide (x = none)) pc off L r h
  | .ifnonnull off => xv_q1 st fun x r => xv_if (decide (¬ x = none)) pc off L r h
  | .goto off => xv_jmp pc off L st h
  | .tableswitch dflt lo hi offs => xv_i1 st fun x r => if x.toInt < lo ∨ hi < x.toInt then xv_jmp pc dflt L r h else match offs[(x.toInt - lo).toNat]? with
    | some off => xv_jmp pc off L r h
    | none => none
  | .getfield _ => xv_r1 st fun a r => if a < h.1 ∧ h.2.2.1 a = ic.2.1 / 100 then xv_nx (pc + 3) L ((if ic.2.2 = 1 then va_rf (h.2.2.2.2.1 ic.2.1 a) else .int (h.2.2.2.2.2.2.1 ic.2.1 a)) :: r) h else none
  | .putfield _ => if ic.2.2 = 1 then xv_q1 st fun x r => xv_r1 r fun a r' => if a < h.1 ∧ h.2.2.1 a = ic.2.1 / 100 then
        match h with | (n, z, tg, ln, fr, er, fi, ei, el) => xv_nx (pc + 3) L r' (n, z, tg, ln, xv_up fr ic.2.1 a x, er, fi, ei, el)
      else none
    else xv_i1 st fun x r => xv_r1 r fun a r' => if (a < h.1 ∧ h.2.2.1 a = ic.2.1 / 100) ∧ (ic.2.2 = 0 ∨ (ic.2.2 = 2 ∧ (x = 0 ∨ x = 1))) then
        match h with | (n, z, tg, ln, fr, er, fi, ei, el) => xv_nx (pc + 3) L r' (n, z, tg, ln, fr, er, xv_up fi ic.2.1 a x, ei, el)
      else none
  | .getstatic _ => xv_nx (pc + 3) L (.ref (xv_SB + ic.2.1) :: st) h
  | .iaload => xv_i1 st fun i r => xv_r1 r fun a r' => if a = xv_SB then (if 0 ≤ i ∧ i.toNatClampNeg < sc.1 then xv_nx (pc + 1) L (.int (sc.2 i.toNatClampNeg) :: r') h else none) else xv_in h i a (if h.2.2.1 a = 100 then xv_nx (pc + 1) L (.int (h.2.2.2.2.2.2.2.1 a i.toNatClampNeg) :: r') h else none)
  | .baload => xv_i1 st fun i r => xv_r1 r fun a r' => xv_in h i a (if h.2.2.1 a = 101 ∨ h.2.2.1 a = 102 then xv_nx (pc + 1) L (.int (h.2.2.2.2.2.2.2.1 a i.toNatClampNeg) :: r') h else none)
  | .laload => xv_i1 st fun i r => xv_r1 r fun a r' => xv_in h i a (if h.2.2.1 a = 103 then xv_nx (pc + 1) L (.long (h.2.2.2.2.2.2.2.2 a i.toNatClampNeg) :: r') h else none)
  | .aaload => xv_i1 st fun i r => xv_r1 r fun a r' => xv_in h i a (if h.2.2.1 a = ic.2.1 then xv_nx (pc + 1) L (va_rf (h.2.2.2.2.2.1 a i.toNatClampNeg) :: r') h else none)
  | .iastore => xv_i1 st fun x r0 => xv_i1 r0 fun i r => xv_r1 r fun a r' => xv_in h i a (if h.2.2.1 a = 100 then
        match h with | (n, z, tg, ln, fr, er, fi, ei, el) => xv_nx (pc + 1) L r' (n, z, tg, ln, fr, er, fi, xv_up ei a i.toNatClampNeg x, el)
      else none)
  | .bastore => xv_i1 st fun x r0 => xv_i1 r0 fun i r => xv_r1 r fun a r' => xv_in h i a (if h.2.2.1 a = 101 then
        match h with | (n, z, tg, ln, fr, er, fi, ei, el) => xv_nx (pc + 1) L r' (n, z, tg, ln, fr, er, fi, xv_up ei a i.toNatClampNeg x.toInt8.toInt32, el)
      else if h.2.2.1 a = 102 ∧ (x = 0 ∨ x = 1) then
        match h with | (n, z, tg, ln, fr, er, fi, ei, el) => xv_nx (pc + 1) L r' (n, z, tg, ln, fr, er, fi, xv_up ei a i.toNatClampNeg x, el)
      else none)
  | .lastore => xv_l1 st fun x r0 => xv_i1 r0 fun i r => xv_r1 r fun a r' => xv_in h i a (if h.2.2.1 a = 103 then
        match h with | (n, z, tg, ln, fr, er, fi, ei, el) => xv_nx (pc + 1) L r' (n, z, tg, ln, fr, er, fi, ei, xv_up el a i.toNatClampNeg x)
      else none)
  | .aastore => xv_q1 st fun x r0 => xv_i1 r0 fun i r => xv_r1 r fun a r' => xv_in h i a (if h.2.2.1 a = ic.2.1 ∧ xv_ok cp h a x = true then
        match h with | (n, z, tg, ln, fr, er, fi, ei, el) => xv_nx (pc + 1) L r' (n, z, tg, ln, fr, xv_up er a i.toNatClampNeg x, fi, ei, el)
      else none)
  | .arraylength => xv_r1 st fun a r => if a = xv_SB then xv_nx (pc + 1) L (.int (Int32.ofNat sc.1) :: r) h else if a = xv_SB + 2 ∧ ic.2.2 = 1 then xv_nx (pc + 1) L (.int 0 :: r) h else if a < h.1 ∧ h.2.2.1 a = ic.2.1 then xv_nx (pc + 1) L (.int (Int32.ofNat (h.2.2.2.1 a)) :: r) h else none
  | .new _ => xv_new1 (pc + 3) L st h ic.2.1 0 ic.2.2
  | .newarray _ => xv_i1 st fun n r => xv_len n (xv_new1 (pc + 2) L r h ic.2.1 n.toNatClampNeg n.toNatClampNeg)
  | .anewarray _ => xv_i1 st fun n r => xv_len n (xv_new1 (pc + 3) L r h ic.2.1 n.toNatClampNeg n.toNatClampNeg)
  | .checkcast _ => match st with
    | .null :: _ => xv_nx (pc + 3) L st h
    | .ref a :: _ => if a < h.1 ∧ h.2.2.1 a = ic.2.1 then xv_nx (pc + 3) L st h else none
    | _ => none
  | _ => none
/-- a return -/
def xv_ret (ic : xv_I) (st : List Value) : Option (Option Value) := match ic.1 with
  | .ireturn => match st with
    | [.int v] => if ic.2.2 = 0 ∨ (ic.2.2 = 2 ∧ (v = 0 ∨ v = 1)) then some (some (.int v)) else none
    | _ => none
  | .lreturn => match st with
    | [.long v] => some (some (.long v))
    | _ => none
  | .areturn => match st with
    | [.ref a] => some (some (.ref a))
    | [.null] => some (some .null)
    | _ => none
  | .return_ => match st with
    | [] => some none
    | _ => none
  | _ => none
/-- a call, or what the machine does itself -/
def xv_inv (cp cs : Nat → Nat) (lgs : Nat → List Nat) (mx : Nat → Nat) (ic : xv_I) (pc : Nat) (L : xv_L) (st : List Value) (h : xv_H) : xv_K := match ic.1 with
  | .invokestatic _ => if ic.2.1 = 1000 then
      match st with
      | .int n :: .int dp :: .ref d :: .int sp :: .ref s :: r => (xv_copy cp ic.2.2 (pc + 3) L h n dp d sp s r).map .inl
      | _ => none
    else if ic.2.1 = 1004 then xv_i2 st fun x y r => if xv_room r = true then (xv_nx (pc + 3) L (.int (if y < x then y else x) :: r) h).map .inl else none
    else if ic.2.1 = 1005 then xv_i2 st fun x y r => if xv_room r = true then (xv_nx (pc + 3) L (.int (if x < y then y else x) :: r) h).map .inl else none
    else if st.length < ic.2.2 then none else xv_call lgs mx ic.2.1 (st.take ic.2.2).reverse (st.drop ic.2.2) (pc + 3)
  | .invokespecial _ => if ic.2.1 = 1001 then xv_r1 st fun _ r => if xv_room r = true then (xv_nx (pc + 3) L r h).map .inl else none
    else if st.length < ic.2.2 then none else xv_r1 (st.drop ic.2.2) fun b r => xv_call lgs mx ic.2.1 (.ref b :: (st.take ic.2.2).reverse) r (pc + 3)
  | .invokevirtual _ => if ic.2.1 = 1002 then xv_r1 st fun a r => (xv_clone (pc + 3) L h a r).map .inl
    else if ic.2.1 = 1003 then xv_r1 st fun a r => if a < h.1 ∧ h.2.2.1 a = ic.2.2 ∧ xv_room r = true then (xv_nx (pc + 3) L (.ref (xv_SB + 1) :: r) h).map .inl else none
    else if st.length < ic.2.2 then none else xv_r1 (st.drop ic.2.2) fun b r => if b < h.1 ∧ h.2.2.1 b = cs ic.2.1 then xv_call lgs mx ic.2.1 (.ref b :: (st.take ic.2.2).reverse) r (pc + 3) else none
  | _ => none
/-- 1: a return, 2: a call -/
def xv_kind (i : ClassFile.Instr) : Nat := match i with
  | .ireturn | .lreturn | .areturn | .return_ => 1
  | .invokestatic _ | .invokespecial _ | .invokevirtual _ => 2
  | _ => 0
def xv_exec (sc : Nat × (Nat → Int32)) (cd : Nat → Nat → Option xv_I) (cp cs : Nat → Nat) (lgs : Nat → List Nat) (mx : Nat → Nat) : Nat → Nat → Nat → xv_L → List Value → xv_H → Option (Option Value × xv_H)
  | 0, _, _, _, _, _ => none
  | f + 1, y, pc, L, st, h => match cd y pc with
    | none => none
    | some ic => match xv_kind ic.1 with
      | 0 => match xv_act sc cp (lgs y) ic pc L st h with
        | none => none
        | some x => xv_exec sc cd cp cs lgs mx f y x.1 x.2.1 x.2.2.1 x.2.2.2
      | 1 => match xv_ret ic st with
        | none => none
        | some r => some (r, h)
      | _ => match xv_inv cp cs lgs mx ic pc L st h with
        | none => none
        | some (.inl x) => xv_exec sc cd cp cs lgs mx f y x.1 x.2.1 x.2.2.1 x.2.2.2
        | some (.inr k) => match xv_exec sc cd cp cs lgs mx f k.1 0 (xv_ent (mx k.1) k.2.1) [] h with
          | none => none
          | some q => xv_exec sc cd cp cs lgs mx f y k.2.2.2 L (q.1.toList ++ k.2.2.1) q.2
/-- more steps allowed, the same end -/
theorem xv_exec_succ {sc : Nat × (Nat → Int32)} {cd : Nat → Nat → Option xv_I} {cp cs : Nat → Nat} {lgs : Nat → List Nat} {mx : Nat → Nat} : ∀ (f y pc : Nat) (L : xv_L) (st : List Value) (h : xv_H) (x : Option Value × xv_H), xv_exec sc cd cp cs lgs mx f y pc L st h = some x → xv_exec sc cd cp cs lgs mx (f + 1) y pc L st h = some x := by
  intro f
  induction f with
  | zero => intro y pc L st h x hx; cases hx
  | succ f ih =>
    intro y pc L st h x hx
    rw [xv_exec] at hx ⊢
    cases hc : cd y pc with
    | none => rw [hc] at hx; cases hx
    | some ic =>
      simp only [hc] at hx ⊢
      split at hx
      · rename_i hk
        cases ha : xv_act sc cp (lgs y) ic pc L st h with
        | none => rw [ha] at hx; cases hx
        | some b =>
          simp only [ha] at hx ⊢
          exact ih _ _ _ _ _ _ hx
      · exact hx
      · cases ha : xv_inv cp cs lgs mx ic pc L st h with
        | none => rw [ha] at hx; cases hx
        | some b =>
          simp only [ha] at hx ⊢
          rcases b with b | k
          · exact ih _ _ _ _ _ _ hx
          · simp only at hx ⊢
            cases hc2 : xv_exec sc cd cp cs lgs mx f k.1 0 (xv_ent (mx k.1) k.2.1) [] h with
            | none => rw [hc2] at hx; cases hx
            | some q =>
              simp only [hc2] at hx
              rw [ih _ _ _ _ _ _ hc2]
              exact ih _ _ _ _ _ _ hx
theorem xv_exec_le {sc : Nat × (Nat → Int32)} {cd : Nat → Nat → Option xv_I} {cp cs : Nat → Nat} {lgs : Nat → List Nat} {mx : Nat → Nat} {f g y pc : Nat} {L : xv_L} {st : List Value} {h : xv_H} {x : Option Value × xv_H} (hx : xv_exec sc cd cp cs lgs mx f y pc L st h = some x) (hg : f ≤ g) : xv_exec sc cd cp cs lgs mx g y pc L st h = some x := by
  induction hg with
  | refl => exact hx
  | step _ ih => exact xv_exec_succ _ _ _ _ _ _ _ ih
end
section
/-! What the abstract heap says of the machine's: cell a is the machine's cell B0 + a; the numbers from xv_SB on are cells that were there before. -/
/-- B0; how many cells were there before; where; the tables of classes and of fields; of arrays; the heap before -/
abbrev xv_W : Type := Nat × Nat × (Nat → Nat) × va_G × (Nat → ClassId) × Heap
def xv_al (w : xv_W) (n : Nat) : Nat := if xv_SB ≤ n ∧ n < xv_SB + w.2.1 then w.2.2.1 (n - xv_SB) else w.1 + n
def xv_cv (al : Nat → Nat) (v : Value) : Value := match v with
  | .ref n => .ref (al n)
  | v => v
def xv_fv (w : xv_W) (rk : Nat → Bool) (h : xv_H) (f a : Nat) : Value := if rk f = true then xv_cv (xv_al w) (va_rf (h.2.2.2.2.1 f a)) else .int (h.2.2.2.2.2.2.1 f a)
def xv_ev (w : xv_W) (h : xv_H) (t a i : Nat) : Value := if t = 103 then .long (h.2.2.2.2.2.2.2.2 a i) else if 104 ≤ t then xv_cv (xv_al w) (va_rf (h.2.2.2.2.2.1 a i)) else .int (h.2.2.2.2.2.2.2.1 a i)
def xv_at (w : xv_W) (cl : List vw_C) (rk : Nat → Bool) (h : xv_H) (a : Nat) (cell : Cell) : Prop := cell.vm = .none ∧
  ((h.2.2.1 a < 100 ∧ cell.cls = w.2.2.2.1.1 (h.2.2.1 a) ∧ ∃ q : vw_C, cl[h.2.2.1 a]? = some q ∧ ∀ k, k < q.2.2 → cell.slots[w.2.2.2.1.2 (h.2.2.1 a) k]? = some (xv_fv w rk h (100 * h.2.2.1 a + k) a)) ∨
   (100 ≤ h.2.2.1 a ∧ cell = arrV (w.2.2.2.2.1 (h.2.2.1 a - 100)) (h.2.2.2.1 a) (fun i => xv_ev w h (h.2.2.1 a) a i)))
def xv_R (w : xv_W) (cl : List vw_C) (rk : Nat → Bool) (h : xv_H) (H : Heap) : Prop := H.size = w.1 + h.1 ∧ (∀ q, q < w.1 → H[q]? = w.2.2.2.2.2[q]?) ∧ ∀ a, a < h.1 → ∃ cell : Cell, H[w.1 + a]? = some cell ∧ xv_at w cl rk h a cell
def xv_as (al : Nat → Nat) (L : xv_L) : List (Nat × Value) := (List.range L.length).filterMap fun j => match L[j]? with
  | some (some v) => some (j, xv_cv al v)
  | _ => none
theorem xv_as_mem {al : Nat → Nat} {L : xv_L} {q : Nat × Value} : q ∈ xv_as al L ↔ ∃ v, L[q.1]? = some (some v) ∧ q.2 = xv_cv al v := by
  obtain ⟨j, u⟩ := q
  simp only [xv_as, List.mem_filterMap, List.mem_range]
  constructor
  · rintro ⟨i, hi, h⟩
    cases hL : L[i]? with
    | none => rw [hL] at h; cases h
    | some o =>
      cases o with
      | none => rw [hL] at h; cases h
      | some v =>
        rw [hL] at h
        simp only [Option.some.injEq, Prod.mk.injEq] at h
        obtain ⟨rfl, rfl⟩ := h
        exact ⟨v, hL, rfl⟩
  · rintro ⟨v, h1, h2⟩
    refine ⟨j, (List.getElem?_eq_some_iff.mp h1).1, ?_⟩
    have h1' : L[j]? = some (some v) := h1
    have h2' : u = xv_cv al v := h2
    rw [h1', h2']
theorem xv_cv_cat (al : Nat → Nat) (v : Value) : (xv_cv al v).category = v.category := by cases v <;> rfl
/-- the locals -/
def xv_ls (al : Nat → Nat) (lg : List Nat) (nL : Nat) (L : xv_L) (ls : Array Slot) : Prop := lv_has ls nL (xv_as al L) ∧ L.length = nL ∧ ∀ (j : Nat) (v : Value), L[j]? = some (some v) → v.category = 2 → j ∈ lg
theorem xv_ls.at {al : Nat → Nat} {lg : List Nat} {nL : Nat} {L : xv_L} {ls : Array Slot} (h : xv_ls al lg nL L ls) {i : Nat} {v : Value} (hi : L[i]? = some (some v)) : ls[i]? = some (.val (xv_cv al v)) :=
  h.1.2.2 (i, xv_cv al v) (xv_as_mem.mpr ⟨v, hi, rfl⟩)
theorem xv_has_sub {ls : Array Slot} {nL : Nat} {l l' : List (Nat × Value)} (h : lv_has ls nL l) (hs : ∀ q ∈ l', q ∈ l) : lv_has ls nL l' := ⟨h.1, h.2.1, fun q hq => h.2.2 q (hs q hq)⟩
theorem xv_b1_spec {lg : List Nat} {i : Nat} (h : xv_b1 lg i = true) {j : Nat} (hj : j + 1 = i) : j ∉ lg := by
  simp only [xv_b1, Bool.or_eq_true, beq_iff_eq, Bool.not_eq_true', List.contains_eq_mem] at h
  rcases h with h | h
  · omega
  · rw [show i - 1 = j by omega] at h
    simpa using h
theorem xv_ls.st1 {al : Nat → Nat} {lg : List Nat} {nL : Nat} {L : xv_L} {ls ls' : Array Slot} (h : xv_ls al lg nL L ls) {i : Nat} {v : Value} (hi : i < L.length) (hb : xv_b1 lg i = true) (hv : v.category = 1)
    (h' : lv_has ls' nL ((i, xv_cv al v) :: (xv_as al L).filter (fun q => !(q.1 == i) && !(q.1 + 1 == i && q.2.category == 2)))) : xv_ls al lg nL (L.set i (some v)) ls' := by
  refine ⟨xv_has_sub h' fun q hq => ?_, by simpa using h.2.1, fun j u hj hu => ?_⟩
  · obtain ⟨u, h1, h2⟩ := xv_as_mem.mp hq
    by_cases hqi : q.1 = i
    · rw [hqi, List.getElem?_set_self hi] at h1
      have e : u = v := by simpa using h1.symm
      subst e
      exact List.mem_cons.mpr (Or.inl (Prod.ext hqi h2))
    · rw [List.getElem?_set_ne (Ne.symm hqi)] at h1
      refine List.mem_cons_of_mem _ (List.mem_filter.mpr ⟨xv_as_mem.mpr ⟨u, h1, h2⟩, ?_⟩)
      have hc : ¬ (q.1 + 1 = i ∧ q.2.category = 2) := fun ⟨e1, e2⟩ => xv_b1_spec hb e1 (h.2.2 q.1 u h1 (by rw [h2, xv_cv_cat] at e2; exact e2))
      simp only [Bool.and_eq_true, Bool.not_eq_true', beq_eq_false_iff_ne, ne_eq, Bool.and_eq_false_imp, beq_iff_eq]
      exact ⟨hqi, fun e1 e2 => hc ⟨e1, e2⟩⟩
  · by_cases hji : j = i
    · rw [hji, List.getElem?_set_self hi] at hj
      have e : u = v := by simpa using hj.symm
      subst e
      omega
    · rw [List.getElem?_set_ne (Ne.symm hji)] at hj
      exact h.2.2 j u hj hu
theorem xv_ls.st2 {al : Nat → Nat} {lg : List Nat} {nL : Nat} {L : xv_L} {ls ls' : Array Slot} (h : xv_ls al lg nL L ls) {i : Nat} {v : Value} (hi : i + 1 < L.length) (hb : xv_b1 lg i = true) (hm : i ∈ lg)
    (h' : lv_has ls' nL ((i, xv_cv al v) :: (xv_as al L).filter (fun q => !(q.1 == i) && (!(q.1 == i + 1) && !(q.1 + 1 == i && q.2.category == 2))))) : xv_ls al lg nL ((L.set i (some v)).set (i + 1) none) ls' := by
  have key : ∀ (j : Nat) (u : Value), ((L.set i (some v)).set (i + 1) none)[j]? = some (some u) → (j = i ∧ u = v) ∨ (j ≠ i ∧ j ≠ i + 1 ∧ L[j]? = some (some u)) := by
    intro j u hj
    by_cases h1 : j = i + 1
    · subst h1
      rw [List.getElem?_set_self (by simpa using hi)] at hj
      cases hj
    · rw [List.getElem?_set_ne (Ne.symm h1)] at hj
      by_cases h2 : j = i
      · subst h2
        rw [List.getElem?_set_self (by omega)] at hj
        exact Or.inl ⟨rfl, by simpa using hj.symm⟩
      · rw [List.getElem?_set_ne (Ne.symm h2)] at hj
        exact Or.inr ⟨h2, h1, hj⟩
  refine ⟨xv_has_sub h' fun q hq => ?_, by simpa using h.2.1, fun j u hj hu => ?_⟩
  · obtain ⟨u, h1, h2⟩ := xv_as_mem.mp hq
    rcases key _ _ h1 with ⟨e1, e2⟩ | ⟨e1, e2, e3⟩
    · subst e2
      exact List.mem_cons.mpr (Or.inl (Prod.ext e1 h2))
    · refine List.mem_cons_of_mem _ (List.mem_filter.mpr ⟨xv_as_mem.mpr ⟨u, e3, h2⟩, ?_⟩)
      have hc : ¬ (q.1 + 1 = i ∧ q.2.category = 2) := fun ⟨d1, d2⟩ => xv_b1_spec hb d1 (h.2.2 q.1 u e3 (by rw [h2, xv_cv_cat] at d2; exact d2))
      simp only [Bool.and_eq_true, Bool.not_eq_true', beq_eq_false_iff_ne, ne_eq, Bool.and_eq_false_imp, beq_iff_eq]
      exact ⟨e1, e2, fun d1 d2 => hc ⟨d1, d2⟩⟩
  · rcases key _ _ hj with ⟨e1, -⟩ | ⟨-, -, e3⟩
    · rw [e1]; exact hm
    · exact h.2.2 j u e3 hu
/-- where the arguments stand -/
theorem xv_fit_spec {lg : List Nat} {n : Nat} : ∀ (av : List Value) (i : Nat), xv_fit lg n i av = true → i + (xv_sl av).length ≤ n ∧ ∀ (j : Nat) (v : Value), (xv_sl av)[j]? = some (some v) → v.category = 2 → i + j ∈ lg
  | [], i, h => ⟨by simpa [xv_fit, xv_sl] using h, fun j v hj => by simp [xv_sl] at hj⟩
  | v :: vs, i, h => by
    by_cases hc : v.category = 2
    · simp only [xv_fit, hc, if_true, Bool.and_eq_true, List.contains_eq_mem, decide_eq_true_eq] at h
      obtain ⟨h1, h2⟩ := xv_fit_spec vs (i + 2) h.2
      have e : xv_sl (v :: vs) = some v :: none :: xv_sl vs := by simp [xv_sl, hc]
      rw [e]
      refine ⟨by simp only [List.length_cons]; omega, fun j u hj hu => ?_⟩
      rcases j with _ | _ | j
      · exact h.1
      · simp at hj
      · have := h2 j u (by simpa using hj) hu
        rw [show i + (j + 1 + 1) = i + 2 + j by omega]
        exact this
    · simp only [xv_fit, hc, if_false] at h
      obtain ⟨h1, h2⟩ := xv_fit_spec vs (i + 1) h
      have e : xv_sl (v :: vs) = some v :: xv_sl vs := by simp [xv_sl, hc]
      rw [e]
      refine ⟨by simp only [List.length_cons]; omega, fun j u hj hu => ?_⟩
      rcases j with _ | j
      · exfalso
        simp at hj
        subst hj
        exact hc hu
      · have := h2 j u (by simpa using hj) hu
        rw [show i + (j + 1) = i + 1 + j by omega]
        exact this
theorem xv_sl_len (al : Nat → Nat) : ∀ av : List Value, (lg_sl (av.map (xv_cv al))).length = (xv_sl av).length
  | [] => rfl
  | v :: vs => by
    have ih := xv_sl_len al vs
    by_cases hc : v.category = 2
    · have e1 : xv_sl (v :: vs) = some v :: none :: xv_sl vs := by simp [xv_sl, hc]
      have e2 : lg_sl ((v :: vs).map (xv_cv al)) = .val (xv_cv al v) :: .second :: lg_sl (vs.map (xv_cv al)) := by simp [lg_sl, hc, xv_cv_cat]
      rw [e1, e2]; simp [ih]
    · have e1 : xv_sl (v :: vs) = some v :: xv_sl vs := by simp [xv_sl, hc]
      have e2 : lg_sl ((v :: vs).map (xv_cv al)) = .val (xv_cv al v) :: lg_sl (vs.map (xv_cv al)) := by simp [lg_sl, hc, xv_cv_cat]
      rw [e1, e2]; simp [ih]
theorem xv_sl_args (al : Nat → Nat) : ∀ (av : List Value) (i j : Nat) (v : Value), (xv_sl av)[j]? = some (some v) → (i + j, xv_cv al v) ∈ lv_args i (av.map (xv_cv al))
  | [], i, j, v, h => by simp [xv_sl] at h
  | u :: us, i, j, v, h => by
    by_cases hc : u.category = 2
    · have e1 : xv_sl (u :: us) = some u :: none :: xv_sl us := by simp [xv_sl, hc]
      rw [e1] at h
      simp only [List.map_cons, lv_args, xv_cv_cat, hc, if_true]
      rcases j with _ | _ | j
      · simp at h; subst h; exact List.mem_cons_self
      · simp at h
      · have := xv_sl_args al us (i + 2) j v (by simpa using h)
        rw [show i + (j + 1 + 1) = i + 2 + j by omega]
        exact List.mem_cons_of_mem _ this
    · have e1 : xv_sl (u :: us) = some u :: xv_sl us := by simp [xv_sl, hc]
      rw [e1] at h
      simp only [List.map_cons, lv_args, xv_cv_cat, hc, if_false]
      rcases j with _ | j
      · simp at h; subst h; exact List.mem_cons_self
      · have := xv_sl_args al us (i + 1) j v (by simpa using h)
        rw [show i + (j + 1) = i + 1 + j by omega]
        exact List.mem_cons_of_mem _ this
theorem xv_ls_entry (al : Nat → Nat) {lg : List Nat} {n : Nat} {av : List Value} (h : xv_fit lg n 0 av = true) : xv_ls al lg n (xv_ent n av) ((lg_sl (av.map (xv_cv al)) ++ List.replicate (n - (lg_sl (av.map (xv_cv al))).length) Slot.unset).toArray) := by
  obtain ⟨h1, h2⟩ := xv_fit_spec av 0 h
  have hl := lv_entry (av.map (xv_cv al)) (n := n) (by rw [xv_sl_len]; omega)
  have key : ∀ (j : Nat) (v : Value), (xv_ent n av)[j]? = some (some v) → (xv_sl av)[j]? = some (some v) := by
    intro j v hj
    by_cases hlt : j < (xv_sl av).length
    · rw [xv_ent, List.getElem?_append_left hlt] at hj
      exact hj
    · rw [xv_ent, List.getElem?_append_right (by omega)] at hj
      have := List.eq_of_mem_replicate (List.mem_of_getElem? hj)
      cases this
  refine ⟨xv_has_sub hl fun q hq => ?_, by simp [xv_ent]; omega, fun j v hj hv => ?_⟩
  · obtain ⟨v, e1, e2⟩ := xv_as_mem.mp hq
    have := xv_sl_args al av 0 q.1 v (key _ _ e1)
    rw [Nat.zero_add, ← e2] at this
    exact this
  · have := h2 j v (key _ _ hj) hv
    rwa [Nat.zero_add] at this
end
section
/-! One instruction of the abstract machine is one of the machine's. -/
/-- what the walk needs beside the words: casts, arrays of references, the call of a private start across a nest, the Class of Object[] -/
abbrev xv_X : Type := List (String × String) × List String × List (String × Nat × MethodName × String)
def xv_E (w : xv_W) (sx : xv_X) (U : State) : Prop := (∀ q ∈ sx.1, va_Nw (.castable q.1 q.2) U) ∧ (∀ C ∈ sx.2.1, va_AO C U) ∧ (∀ q ∈ sx.2.2, va_Nw (.methodLinkNest q.1 q.2.1 q.2.2.1 q.2.2.2) U) ∧ va_Mi "[Ljava/lang/Object;" (w.2.2.1 1) U ∧ va_Dc U ∧ 2 < w.2.1
theorem xv_E.warm {w : xv_W} {sx : xv_X} {u U : State} (hW : u.WarmedH U.vm) (h : xv_E w sx u) : xv_E w sx U :=
  ⟨fun q hq => (h.1 q hq).warmC hW, fun C hC => (h.2.1 C hC).moved hW.alike, fun q hq => (h.2.2.1 q hq).warmM hW, h.2.2.2.1.moved hW.alike, h.2.2.2.2.1.moved hW.alike, h.2.2.2.2.2⟩
/-- what a method's walk stands on: the machine, the code, its locals, its own name, the words; the tables; the room; the script and the cells that were there before -/
def xv_Cx (p : Program) (R : Room) (s : State) (m : MethodId) (args : Array Value) (meth : Method) (c : Code) (cc : ByteArray) (w : xv_W) (cl : List vw_C) (aty : List FieldType) (WS : List Jvm.Cond) (stt : List (String × String × String)) (sx : xv_X) (sc : Nat × (Nat → Int32)) (own : String) (nL n0 z0 nE zE : Nat) : Prop :=
  (p.tables.exec = Jvm.exec ∧ c.code = cc ∧ c.maxLocals = nL ∧ s.vm.findClass own = some m.cls ∧ ∀ x ∈ WS, x.before args s = true) ∧
  (va_K w.2.2.2.1 cl [] s ∧ ∀ (j : Nat) (ty : FieldType), aty[j]? = some ty → ArrOfT s (w.2.2.2.2.1 j) ty ∧ va_RA s (w.2.2.2.2.1 j) ty) ∧
  (nE ≤ R.cells + n0 ∧ zE ≤ R.slots + z0 ∧ nE ≤ xv_SB ∧ w.1 ≤ s.heap.size) ∧
  (va_X (w.2.2.1 0) sc.1 sc.2 s s.heap ∧ w.2.2.1 0 < w.1 ∧ 2 < w.2.1 ∧ ∃ fv : Nat → Value, va_T (.object "java/lang/Object") (w.2.2.1 2) 0 fv (fun a => w.1 ≤ a) s s.heap) ∧
  xv_E w sx s ∧ ∀ (k : Nat) (q : String × String × String), stt[k]? = some q → k + 2 < w.2.1 ∧ va_Z q.1 q.2.1 q.2.2 (.ref (w.2.2.1 (k + 2))) (fun a => w.1 ≤ a) s s.heap
/-- the machine, at this point of the abstract one, comes to Q -/
def xv_G (p : Program) (l : Launch) (e : Env) (R : Room) (s : State) (m : MethodId) (args : Array Value) (below : List Frame) (meth : Method) (c : Code) (Q : State → Prop) (w : xv_W) (cl : List vw_C) (rk : Nat → Bool) (lg : List Nat) (nL n0 z0 : Nat) (x : xv_N) : Prop :=
  ∀ (ls : Array Slot) (H : Heap) (locs : List Loc), xv_ls (xv_al w) lg nL x.2.1 ls → xv_R w cl rk x.2.2.2 H → va_S (fun a => w.1 ≤ a) s.heap H locs → n0 ≤ x.2.2.2.1 → z0 ≤ x.2.2.2.2.1 →
    W p l e R s m args below meth c H locs (x.2.2.2.1 - n0) (x.2.2.2.2.1 - z0) Q (F0 m x.1 ls (x.2.2.1.map (xv_cv (xv_al w))))
theorem xv_al_lt {w : xv_W} {a : Nat} (h : a < xv_SB) : xv_al w a = w.1 + a := by
  unfold xv_al
  rw [if_neg (by omega)]
theorem xv_al_st {w : xv_W} {k : Nat} (h : k < w.2.1) : xv_al w (xv_SB + k) = w.2.2.1 k := by
  unfold xv_al
  rw [if_pos (by omega), Nat.add_sub_cancel_left]
theorem xv_cv_rf (w : xv_W) (o : Option Nat) : xv_cv (xv_al w) (va_rf o) = va_rf (o.map (xv_al w)) := by cases o <;> rfl
section XS
variable {p : Program} {l : Launch} {e : Env} {R : Room} {s : State} {m : MethodId} {args : Array Value} {below : List Frame} {meth : Method} {c : Code} {Q : State → Prop} {cc : ByteArray} {w : xv_W} {cl : List vw_C} {rk : Nat → Bool} {aty : List FieldType} {WS : List Jvm.Cond} {stt : List (String × String × String)} {sx : xv_X} {sc : Nat × (Nat → Int32)} {own : String} {nL n0 z0 nE zE : Nat} {lg : List Nat} {pc : Nat} {L : xv_L} {st r : List Value} {h : xv_H} {x y : Int32} {u v : Int64} {i t : Nat}
/-- plain instructions: constants, arithmetic, the stack -/
theorem xs_null (hC : xv_Cx p R s m args meth c cc w cl aty WS stt sx sc own nL n0 z0 nE zE) (hd : decode cc pc = .ok (.aconst_null, 1)) (hG : xv_G p l e R s m args below meth c Q w cl rk lg nL n0 z0 (pc + 1, L, .null :: st, h)) : xv_G p l e R s m args below meth c Q w cl rk lg nL n0 z0 (pc, L, st, h) :=
  fun ls H locs hl hR hS h1 h2 => lv_null hC.1.1 hC.1.2.1 hd (hG ls H locs hl hR hS h1 h2)
theorem xs_iconst {n : Int} (hC : xv_Cx p R s m args meth c cc w cl aty WS stt sx sc own nL n0 z0 nE zE) (hd : decode cc pc = .ok (.iconst n, 1)) (hG : xv_G p l e R s m args below meth c Q w cl rk lg nL n0 z0 (pc + 1, L, .int (Int32.ofInt n) :: st, h)) : xv_G p l e R s m args below meth c Q w cl rk lg nL n0 z0 (pc, L, st, h) :=
  fun ls H locs hl hR hS h1 h2 => lv_iconst hC.1.1 hC.1.2.1 hd rfl (hG ls H locs hl hR hS h1 h2)
theorem xs_bipush {n : Int} (hC : xv_Cx p R s m args meth c cc w cl aty WS stt sx sc own nL n0 z0 nE zE) (hd : decode cc pc = .ok (.bipush n, 2)) (hG : xv_G p l e R s m args below meth c Q w cl rk lg nL n0 z0 (pc + 2, L, .int (Int8.ofInt n).toInt32 :: st, h)) : xv_G p l e R s m args below meth c Q w cl rk lg nL n0 z0 (pc, L, st, h) :=
  fun ls H locs hl hR hS h1 h2 => lv_bipush hC.1.1 hC.1.2.1 hd rfl (hG ls H locs hl hR hS h1 h2)
theorem xs_sipush {n : Int} (hC : xv_Cx p R s m args meth c cc w cl aty WS stt sx sc own nL n0 z0 nE zE) (hd : decode cc pc = .ok (.sipush n, 3)) (hG : xv_G p l e R s m args below meth c Q w cl rk lg nL n0 z0 (pc + 3, L, .int (Int16.ofInt n).toInt32 :: st, h)) : xv_G p l e R s m args below meth c Q w cl rk lg nL n0 z0 (pc, L, st, h) :=
  fun ls H locs hl hR hS h1 h2 => lv_sipush hC.1.1 hC.1.2.1 hd rfl (hG ls H locs hl hR hS h1 h2)
theorem xs_lconst {n : Fin 2} (hC : xv_Cx p R s m args meth c cc w cl aty WS stt sx sc own nL n0 z0 nE zE) (hd : decode cc pc = .ok (.lconst n, 1)) (hG : xv_G p l e R s m args below meth c Q w cl rk lg nL n0 z0 (pc + 1, L, .long (Int64.ofNat (n : Nat)) :: st, h)) : xv_G p l e R s m args below meth c Q w cl rk lg nL n0 z0 (pc, L, st, h) :=
  fun ls H locs hl hR hS h1 h2 => lv_lconst hC.1.1 hC.1.2.1 hd rfl (hG ls H locs hl hR hS h1 h2)
theorem xs_iadd (hC : xv_Cx p R s m args meth c cc w cl aty WS stt sx sc own nL n0 z0 nE zE) (hd : decode cc pc = .ok (.iadd, 1)) (hG : xv_G p l e R s m args below meth c Q w cl rk lg nL n0 z0 (pc + 1, L, .int (x + y) :: st, h)) : xv_G p l e R s m args below meth c Q w cl rk lg nL n0 z0 (pc, L, .int y :: .int x :: st, h) :=
  fun ls H locs hl hR hS h1 h2 => lv_iadd hC.1.1 hC.1.2.1 hd (hG ls H locs hl hR hS h1 h2)
theorem xs_isub (hC : xv_Cx p R s m args meth c cc w cl aty WS stt sx sc own nL n0 z0 nE zE) (hd : decode cc pc = .ok (.isub, 1)) (hG : xv_G p l e R s m args below meth c Q w cl rk lg nL n0 z0 (pc + 1, L, .int (x - y) :: st, h)) : xv_G p l e R s m args below meth c Q w cl rk lg nL n0 z0 (pc, L, .int y :: .int x :: st, h) :=
  fun ls H locs hl hR hS h1 h2 => lv_isub hC.1.1 hC.1.2.1 hd (hG ls H locs hl hR hS h1 h2)
theorem xs_imul (hC : xv_Cx p R s m args meth c cc w cl aty WS stt sx sc own nL n0 z0 nE zE) (hd : decode cc pc = .ok (.imul, 1)) (hG : xv_G p l e R s m args below meth c Q w cl rk lg nL n0 z0 (pc + 1, L, .int (x * y) :: st, h)) : xv_G p l e R s m args below meth c Q w cl rk lg nL n0 z0 (pc, L, .int y :: .int x :: st, h) :=
  fun ls H locs hl hR hS h1 h2 => lv_imul hC.1.1 hC.1.2.1 hd (hG ls H locs hl hR hS h1 h2)
theorem xs_iand (hC : xv_Cx p R s m args meth c cc w cl aty WS stt sx sc own nL n0 z0 nE zE) (hd : decode cc pc = .ok (.iand, 1)) (hG : xv_G p l e R s m args below meth c Q w cl rk lg nL n0 z0 (pc + 1, L, .int (x &&& y) :: st, h)) : xv_G p l e R s m args below meth c Q w cl rk lg nL n0 z0 (pc, L, .int y :: .int x :: st, h) :=
  fun ls H locs hl hR hS h1 h2 => lv_iand hC.1.1 hC.1.2.1 hd (hG ls H locs hl hR hS h1 h2)
theorem xs_ior (hC : xv_Cx p R s m args meth c cc w cl aty WS stt sx sc own nL n0 z0 nE zE) (hd : decode cc pc = .ok (.ior, 1)) (hG : xv_G p l e R s m args below meth c Q w cl rk lg nL n0 z0 (pc + 1, L, .int (x ||| y) :: st, h)) : xv_G p l e R s m args below meth c Q w cl rk lg nL n0 z0 (pc, L, .int y :: .int x :: st, h) :=
  fun ls H locs hl hR hS h1 h2 => lv_ior hC.1.1 hC.1.2.1 hd (hG ls H locs hl hR hS h1 h2)
theorem xs_ishl (hC : xv_Cx p R s m args meth c cc w cl aty WS stt sx sc own nL n0 z0 nE zE) (hd : decode cc pc = .ok (.ishl, 1)) (hG : xv_G p l e R s m args below meth c Q w cl rk lg nL n0 z0 (pc + 1, L, .int (x <<< (y &&& 31)) :: st, h)) : xv_G p l e R s m args below meth c Q w cl rk lg nL n0 z0 (pc, L, .int y :: .int x :: st, h) :=
  fun ls H locs hl hR hS h1 h2 => lv_ishl hC.1.1 hC.1.2.1 hd (hG ls H locs hl hR hS h1 h2)
theorem xs_ishr (hC : xv_Cx p R s m args meth c cc w cl aty WS stt sx sc own nL n0 z0 nE zE) (hd : decode cc pc = .ok (.ishr, 1)) (hG : xv_G p l e R s m args below meth c Q w cl rk lg nL n0 z0 (pc + 1, L, .int (x >>> (y &&& 31)) :: st, h)) : xv_G p l e R s m args below meth c Q w cl rk lg nL n0 z0 (pc, L, .int y :: .int x :: st, h) :=
  fun ls H locs hl hR hS h1 h2 => lv_ishr hC.1.1 hC.1.2.1 hd (hG ls H locs hl hR hS h1 h2)
theorem xs_idiv (hC : xv_Cx p R s m args meth c cc w cl aty WS stt sx sc own nL n0 z0 nE zE) (hd : decode cc pc = .ok (.idiv, 1)) (hy : ¬ y = 0) (hG : xv_G p l e R s m args below meth c Q w cl rk lg nL n0 z0 (pc + 1, L, .int (x / y) :: st, h)) : xv_G p l e R s m args below meth c Q w cl rk lg nL n0 z0 (pc, L, .int y :: .int x :: st, h) :=
  fun ls H locs hl hR hS h1 h2 => lv_idiv hC.1.1 hC.1.2.1 hd hy (hG ls H locs hl hR hS h1 h2)
theorem xs_irem (hC : xv_Cx p R s m args meth c cc w cl aty WS stt sx sc own nL n0 z0 nE zE) (hd : decode cc pc = .ok (.irem, 1)) (hy : ¬ y = 0) (hG : xv_G p l e R s m args below meth c Q w cl rk lg nL n0 z0 (pc + 1, L, .int (x - x / y * y) :: st, h)) : xv_G p l e R s m args below meth c Q w cl rk lg nL n0 z0 (pc, L, .int y :: .int x :: st, h) :=
  fun ls H locs hl hR hS h1 h2 => lv_irem hC.1.1 hC.1.2.1 hd hy (hG ls H locs hl hR hS h1 h2)
theorem xs_ladd (hC : xv_Cx p R s m args meth c cc w cl aty WS stt sx sc own nL n0 z0 nE zE) (hd : decode cc pc = .ok (.ladd, 1)) (hG : xv_G p l e R s m args below meth c Q w cl rk lg nL n0 z0 (pc + 1, L, .long (u + v) :: st, h)) : xv_G p l e R s m args below meth c Q w cl rk lg nL n0 z0 (pc, L, .long v :: .long u :: st, h) :=
  fun ls H locs hl hR hS h1 h2 => lv_ladd hC.1.1 hC.1.2.1 hd (hG ls H locs hl hR hS h1 h2)
theorem xs_lmul (hC : xv_Cx p R s m args meth c cc w cl aty WS stt sx sc own nL n0 z0 nE zE) (hd : decode cc pc = .ok (.lmul, 1)) (hG : xv_G p l e R s m args below meth c Q w cl rk lg nL n0 z0 (pc + 1, L, .long (u * v) :: st, h)) : xv_G p l e R s m args below meth c Q w cl rk lg nL n0 z0 (pc, L, .long v :: .long u :: st, h) :=
  fun ls H locs hl hR hS h1 h2 => lv_lmul hC.1.1 hC.1.2.1 hd (hG ls H locs hl hR hS h1 h2)
theorem xs_land (hC : xv_Cx p R s m args meth c cc w cl aty WS stt sx sc own nL n0 z0 nE zE) (hd : decode cc pc = .ok (.land, 1)) (hG : xv_G p l e R s m args below meth c Q w cl rk lg nL n0 z0 (pc + 1, L, .long (u &&& v) :: st, h)) : xv_G p l e R s m args below meth c Q w cl rk lg nL n0 z0 (pc, L, .long v :: .long u :: st, h) :=
  fun ls H locs hl hR hS h1 h2 => lv_land hC.1.1 hC.1.2.1 hd (hG ls H locs hl hR hS h1 h2)
theorem xs_lor (hC : xv_Cx p R s m args meth c cc w cl aty WS stt sx sc own nL n0 z0 nE zE) (hd : decode cc pc = .ok (.lor, 1)) (hG : xv_G p l e R s m args below meth c Q w cl rk lg nL n0 z0 (pc + 1, L, .long (u ||| v) :: st, h)) : xv_G p l e R s m args below meth c Q w cl rk lg nL n0 z0 (pc, L, .long v :: .long u :: st, h) :=
  fun ls H locs hl hR hS h1 h2 => lv_lor hC.1.1 hC.1.2.1 hd (hG ls H locs hl hR hS h1 h2)
theorem xs_lxor (hC : xv_Cx p R s m args meth c cc w cl aty WS stt sx sc own nL n0 z0 nE zE) (hd : decode cc pc = .ok (.lxor, 1)) (hG : xv_G p l e R s m args below meth c Q w cl rk lg nL n0 z0 (pc + 1, L, .long (u ^^^ v) :: st, h)) : xv_G p l e R s m args below meth c Q w cl rk lg nL n0 z0 (pc, L, .long v :: .long u :: st, h) :=
  fun ls H locs hl hR hS h1 h2 => lv_lxor hC.1.1 hC.1.2.1 hd (hG ls H locs hl hR hS h1 h2)
theorem xs_lshl (hC : xv_Cx p R s m args meth c cc w cl aty WS stt sx sc own nL n0 z0 nE zE) (hd : decode cc pc = .ok (.lshl, 1)) (hG : xv_G p l e R s m args below meth c Q w cl rk lg nL n0 z0 (pc + 1, L, .long (u <<< (y.toInt64 &&& 63)) :: st, h)) : xv_G p l e R s m args below meth c Q w cl rk lg nL n0 z0 (pc, L, .int y :: .long u :: st, h) :=
  fun ls H locs hl hR hS h1 h2 => lv_lshl hC.1.1 hC.1.2.1 hd rfl (hG ls H locs hl hR hS h1 h2)
theorem xs_lshr (hC : xv_Cx p R s m args meth c cc w cl aty WS stt sx sc own nL n0 z0 nE zE) (hd : decode cc pc = .ok (.lshr, 1)) (hG : xv_G p l e R s m args below meth c Q w cl rk lg nL n0 z0 (pc + 1, L, .long (u >>> (y.toInt64 &&& 63)) :: st, h)) : xv_G p l e R s m args below meth c Q w cl rk lg nL n0 z0 (pc, L, .int y :: .long u :: st, h) :=
  fun ls H locs hl hR hS h1 h2 => lv_lshr hC.1.1 hC.1.2.1 hd rfl (hG ls H locs hl hR hS h1 h2)
theorem xs_i2l (hC : xv_Cx p R s m args meth c cc w cl aty WS stt sx sc own nL n0 z0 nE zE) (hd : decode cc pc = .ok (.i2l, 1)) (hG : xv_G p l e R s m args below meth c Q w cl rk lg nL n0 z0 (pc + 1, L, .long x.toInt64 :: st, h)) : xv_G p l e R s m args below meth c Q w cl rk lg nL n0 z0 (pc, L, .int x :: st, h) :=
  fun ls H locs hl hR hS h1 h2 => lv_i2l hC.1.1 hC.1.2.1 hd rfl (hG ls H locs hl hR hS h1 h2)
theorem xs_l2i (hC : xv_Cx p R s m args meth c cc w cl aty WS stt sx sc own nL n0 z0 nE zE) (hd : decode cc pc = .ok (.l2i, 1)) (hG : xv_G p l e R s m args below meth c Q w cl rk lg nL n0 z0 (pc + 1, L, .int u.toInt32 :: st, h)) : xv_G p l e R s m args below meth c Q w cl rk lg nL n0 z0 (pc, L, .long u :: st, h) :=
  fun ls H locs hl hR hS h1 h2 => lv_l2i hC.1.1 hC.1.2.1 hd rfl (hG ls H locs hl hR hS h1 h2)
theorem xs_i2b (hC : xv_Cx p R s m args meth c cc w cl aty WS stt sx sc own nL n0 z0 nE zE) (hd : decode cc pc = .ok (.i2b, 1)) (hG : xv_G p l e R s m args below meth c Q w cl rk lg nL n0 z0 (pc + 1, L, .int x.toInt8.toInt32 :: st, h)) : xv_G p l e R s m args below meth c Q w cl rk lg nL n0 z0 (pc, L, .int x :: st, h) :=
  fun ls H locs hl hR hS h1 h2 => lv_i2b hC.1.1 hC.1.2.1 hd rfl (hG ls H locs hl hR hS h1 h2)
theorem xs_pop {va : Value} (hC : xv_Cx p R s m args meth c cc w cl aty WS stt sx sc own nL n0 z0 nE zE) (hd : decode cc pc = .ok (.pop, 1)) (hva : va.category = 1) (hG : xv_G p l e R s m args below meth c Q w cl rk lg nL n0 z0 (pc + 1, L, st, h)) : xv_G p l e R s m args below meth c Q w cl rk lg nL n0 z0 (pc, L, va :: st, h) :=
  fun ls H locs hl hR hS h1 h2 => lv_pop hC.1.1 hC.1.2.1 hd ((xv_cv_cat _ _).trans hva) (hG ls H locs hl hR hS h1 h2)
theorem xs_dup {va : Value} (hC : xv_Cx p R s m args meth c cc w cl aty WS stt sx sc own nL n0 z0 nE zE) (hd : decode cc pc = .ok (.dup, 1)) (hva : va.category = 1) (hG : xv_G p l e R s m args below meth c Q w cl rk lg nL n0 z0 (pc + 1, L, va :: va :: st, h)) : xv_G p l e R s m args below meth c Q w cl rk lg nL n0 z0 (pc, L, va :: st, h) :=
  fun ls H locs hl hR hS h1 h2 => lv_dup hC.1.1 hC.1.2.1 hd ((xv_cv_cat _ _).trans hva) (hG ls H locs hl hR hS h1 h2)
theorem xs_dup_x1 {va vb : Value} (hC : xv_Cx p R s m args meth c cc w cl aty WS stt sx sc own nL n0 z0 nE zE) (hd : decode cc pc = .ok (.dup_x1, 1)) (hva : va.category = 1) (hvb : vb.category = 1) (hG : xv_G p l e R s m args below meth c Q w cl rk lg nL n0 z0 (pc + 1, L, va :: vb :: va :: st, h)) : xv_G p l e R s m args below meth c Q w cl rk lg nL n0 z0 (pc, L, va :: vb :: st, h) :=
  fun ls H locs hl hR hS h1 h2 => lv_dup_x1 hC.1.1 hC.1.2.1 hd ((xv_cv_cat _ _).trans hva) ((xv_cv_cat _ _).trans hvb) (hG ls H locs hl hR hS h1 h2)
theorem xs_dup_x2 {va vb vd : Value} (hC : xv_Cx p R s m args meth c cc w cl aty WS stt sx sc own nL n0 z0 nE zE) (hd : decode cc pc = .ok (.dup_x2, 1)) (hva : va.category = 1) (hvb : vb.category = 1) (hvd : vd.category = 1) (hG : xv_G p l e R s m args below meth c Q w cl rk lg nL n0 z0 (pc + 1, L, va :: vb :: vd :: va :: st, h)) : xv_G p l e R s m args below meth c Q w cl rk lg nL n0 z0 (pc, L, va :: vb :: vd :: st, h) :=
  fun ls H locs hl hR hS h1 h2 => lv_dup_x2 hC.1.1 hC.1.2.1 hd ((xv_cv_cat _ _).trans hva) ((xv_cv_cat _ _).trans hvb) ((xv_cv_cat _ _).trans hvd) (hG ls H locs hl hR hS h1 h2)
theorem xs_dup2 {va vb : Value} (hC : xv_Cx p R s m args meth c cc w cl aty WS stt sx sc own nL n0 z0 nE zE) (hd : decode cc pc = .ok (.dup2, 1)) (hva : va.category = 1) (hvb : vb.category = 1) (hG : xv_G p l e R s m args below meth c Q w cl rk lg nL n0 z0 (pc + 1, L, va :: vb :: va :: vb :: st, h)) : xv_G p l e R s m args below meth c Q w cl rk lg nL n0 z0 (pc, L, va :: vb :: st, h) :=
  fun ls H locs hl hR hS h1 h2 => lv_dup2_11 hC.1.1 hC.1.2.1 hd ((xv_cv_cat _ _).trans hva) ((xv_cv_cat _ _).trans hvb) (hG ls H locs hl hR hS h1 h2)
/-- the locals -/
theorem xs_iload (hC : xv_Cx p R s m args meth c cc w cl aty WS stt sx sc own nL n0 z0 nE zE) (hd : decode cc pc = .ok (.iload i, 2)) (hL : L[i]? = some (some (.int x))) (hG : xv_G p l e R s m args below meth c Q w cl rk lg nL n0 z0 (pc + 2, L, .int x :: st, h)) : xv_G p l e R s m args below meth c Q w cl rk lg nL n0 z0 (pc, L, st, h) :=
  fun ls H locs hl hR hS h1 h2 => lv_iload hC.1.1 hC.1.2.1 hd (hl.at hL) (hG ls H locs hl hR hS h1 h2)
theorem xs_lload (hC : xv_Cx p R s m args meth c cc w cl aty WS stt sx sc own nL n0 z0 nE zE) (hd : decode cc pc = .ok (.lload i, 2)) (hL : L[i]? = some (some (.long u))) (hG : xv_G p l e R s m args below meth c Q w cl rk lg nL n0 z0 (pc + 2, L, .long u :: st, h)) : xv_G p l e R s m args below meth c Q w cl rk lg nL n0 z0 (pc, L, st, h) :=
  fun ls H locs hl hR hS h1 h2 => lv_lload hC.1.1 hC.1.2.1 hd (hl.at hL) (hG ls H locs hl hR hS h1 h2)
theorem xs_iload_n {k : Fin 4} (hC : xv_Cx p R s m args meth c cc w cl aty WS stt sx sc own nL n0 z0 nE zE) (hd : decode cc pc = .ok (.iload_n k, 1)) (hL : L[(k : Nat)]? = some (some (.int x))) (hG : xv_G p l e R s m args below meth c Q w cl rk lg nL n0 z0 (pc + 1, L, .int x :: st, h)) : xv_G p l e R s m args below meth c Q w cl rk lg nL n0 z0 (pc, L, st, h) :=
  fun ls H locs hl hR hS h1 h2 => lv_iload_n hC.1.1 hC.1.2.1 hd rfl (hl.at hL) (hG ls H locs hl hR hS h1 h2)
theorem xs_lload_n {k : Fin 4} (hC : xv_Cx p R s m args meth c cc w cl aty WS stt sx sc own nL n0 z0 nE zE) (hd : decode cc pc = .ok (.lload_n k, 1)) (hL : L[(k : Nat)]? = some (some (.long u))) (hG : xv_G p l e R s m args below meth c Q w cl rk lg nL n0 z0 (pc + 1, L, .long u :: st, h)) : xv_G p l e R s m args below meth c Q w cl rk lg nL n0 z0 (pc, L, st, h) :=
  fun ls H locs hl hR hS h1 h2 => lv_lload_n hC.1.1 hC.1.2.1 hd rfl (hl.at hL) (hG ls H locs hl hR hS h1 h2)
theorem xs_aload (hC : xv_Cx p R s m args meth c cc w cl aty WS stt sx sc own nL n0 z0 nE zE) (hd : decode cc pc = .ok (.aload i, 2)) (hL : L[i]? = some (some (.ref t))) (hG : xv_G p l e R s m args below meth c Q w cl rk lg nL n0 z0 (pc + 2, L, .ref t :: st, h)) : xv_G p l e R s m args below meth c Q w cl rk lg nL n0 z0 (pc, L, st, h) :=
  fun ls H locs hl hR hS h1 h2 => lv_aload hC.1.1 hC.1.2.1 hd (hl.at hL) (hG ls H locs hl hR hS h1 h2)
theorem xs_aload_n {k : Fin 4} (hC : xv_Cx p R s m args meth c cc w cl aty WS stt sx sc own nL n0 z0 nE zE) (hd : decode cc pc = .ok (.aload_n k, 1)) (hL : L[(k : Nat)]? = some (some (.ref t))) (hG : xv_G p l e R s m args below meth c Q w cl rk lg nL n0 z0 (pc + 1, L, .ref t :: st, h)) : xv_G p l e R s m args below meth c Q w cl rk lg nL n0 z0 (pc, L, st, h) :=
  fun ls H locs hl hR hS h1 h2 => lv_aload_n hC.1.1 hC.1.2.1 hd rfl (hl.at hL) (hG ls H locs hl hR hS h1 h2)
theorem xs_aloadN (hC : xv_Cx p R s m args meth c cc w cl aty WS stt sx sc own nL n0 z0 nE zE) (hd : decode cc pc = .ok (.aload i, 2)) (hL : L[i]? = some (some .null)) (hG : xv_G p l e R s m args below meth c Q w cl rk lg nL n0 z0 (pc + 2, L, .null :: st, h)) : xv_G p l e R s m args below meth c Q w cl rk lg nL n0 z0 (pc, L, st, h) :=
  fun ls H locs hl hR hS h1 h2 => lv_aloadN hC.1.1 hC.1.2.1 hd (hl.at hL) (hG ls H locs hl hR hS h1 h2)
theorem xs_aload_nN {k : Fin 4} (hC : xv_Cx p R s m args meth c cc w cl aty WS stt sx sc own nL n0 z0 nE zE) (hd : decode cc pc = .ok (.aload_n k, 1)) (hL : L[(k : Nat)]? = some (some .null)) (hG : xv_G p l e R s m args below meth c Q w cl rk lg nL n0 z0 (pc + 1, L, .null :: st, h)) : xv_G p l e R s m args below meth c Q w cl rk lg nL n0 z0 (pc, L, st, h) :=
  fun ls H locs hl hR hS h1 h2 => lv_aload_nN hC.1.1 hC.1.2.1 hd rfl (hl.at hL) (hG ls H locs hl hR hS h1 h2)
theorem xs_istore (hC : xv_Cx p R s m args meth c cc w cl aty WS stt sx sc own nL n0 z0 nE zE) (hd : decode cc pc = .ok (.istore i, 2)) (hi : i < L.length) (hb : xv_b1 lg i = true) (hG : xv_G p l e R s m args below meth c Q w cl rk lg nL n0 z0 (pc + 2, L.set i (some (.int x)), st, h)) : xv_G p l e R s m args below meth c Q w cl rk lg nL n0 z0 (pc, L, .int x :: st, h) :=
  fun ls H locs hl hR hS h1 h2 => lv_istore hC.1.1 hC.1.2.1 hd hl.1 (by rw [← hl.2.1]; exact hi) rfl fun ls' h' => hG ls' H locs (hl.st1 hi hb rfl h') hR hS h1 h2
theorem xs_istore_n {k : Fin 4} (hC : xv_Cx p R s m args meth c cc w cl aty WS stt sx sc own nL n0 z0 nE zE) (hd : decode cc pc = .ok (.istore_n k, 1)) (hi : (k : Nat) < L.length) (hb : xv_b1 lg (k : Nat) = true) (hG : xv_G p l e R s m args below meth c Q w cl rk lg nL n0 z0 (pc + 1, L.set (k : Nat) (some (.int x)), st, h)) : xv_G p l e R s m args below meth c Q w cl rk lg nL n0 z0 (pc, L, .int x :: st, h) :=
  fun ls H locs hl hR hS h1 h2 => lv_istore_n hC.1.1 hC.1.2.1 hd rfl hl.1 (by rw [← hl.2.1]; exact hi) rfl fun ls' h' => hG ls' H locs (hl.st1 hi hb rfl h') hR hS h1 h2
theorem xs_lstore (hC : xv_Cx p R s m args meth c cc w cl aty WS stt sx sc own nL n0 z0 nE zE) (hd : decode cc pc = .ok (.lstore i, 2)) (hi : i + 1 < L.length) (hb : xv_b1 lg i = true) (hm : i ∈ lg) (hG : xv_G p l e R s m args below meth c Q w cl rk lg nL n0 z0 (pc + 2, (L.set i (some (.long u))).set (i + 1) none, st, h)) : xv_G p l e R s m args below meth c Q w cl rk lg nL n0 z0 (pc, L, .long u :: st, h) :=
  fun ls H locs hl hR hS h1 h2 => lv_lstore hC.1.1 hC.1.2.1 hd hl.1 (by rw [← hl.2.1]; exact hi) rfl fun ls' h' => hG ls' H locs (hl.st2 hi hb hm h') hR hS h1 h2
theorem xs_lstore_n {k : Fin 4} (hC : xv_Cx p R s m args meth c cc w cl aty WS stt sx sc own nL n0 z0 nE zE) (hd : decode cc pc = .ok (.lstore_n k, 1)) (hi : (k : Nat) + 1 < L.length) (hb : xv_b1 lg (k : Nat) = true) (hm : (k : Nat) ∈ lg) (hG : xv_G p l e R s m args below meth c Q w cl rk lg nL n0 z0 (pc + 1, (L.set (k : Nat) (some (.long u))).set ((k : Nat) + 1) none, st, h)) : xv_G p l e R s m args below meth c Q w cl rk lg nL n0 z0 (pc, L, .long u :: st, h) :=
  fun ls H locs hl hR hS h1 h2 => lv_lstore_n hC.1.1 hC.1.2.1 hd rfl hl.1 (by rw [← hl.2.1]; exact hi) rfl fun ls' h' => hG ls' H locs (hl.st2 hi hb hm h') hR hS h1 h2
theorem xs_astore (hC : xv_Cx p R s m args meth c cc w cl aty WS stt sx sc own nL n0 z0 nE zE) (hd : decode cc pc = .ok (.astore i, 2)) (hi : i < L.length) (hb : xv_b1 lg i = true) (hG : xv_G p l e R s m args below meth c Q w cl rk lg nL n0 z0 (pc + 2, L.set i (some (.ref t)), st, h)) : xv_G p l e R s m args below meth c Q w cl rk lg nL n0 z0 (pc, L, .ref t :: st, h) :=
  fun ls H locs hl hR hS h1 h2 => lv_astore hC.1.1 hC.1.2.1 hd hl.1 (by rw [← hl.2.1]; exact hi) rfl fun ls' h' => hG ls' H locs (hl.st1 hi hb rfl h') hR hS h1 h2
theorem xs_astore_n {k : Fin 4} (hC : xv_Cx p R s m args meth c cc w cl aty WS stt sx sc own nL n0 z0 nE zE) (hd : decode cc pc = .ok (.astore_n k, 1)) (hi : (k : Nat) < L.length) (hb : xv_b1 lg (k : Nat) = true) (hG : xv_G p l e R s m args below meth c Q w cl rk lg nL n0 z0 (pc + 1, L.set (k : Nat) (some (.ref t)), st, h)) : xv_G p l e R s m args below meth c Q w cl rk lg nL n0 z0 (pc, L, .ref t :: st, h) :=
  fun ls H locs hl hR hS h1 h2 => lv_astore_n hC.1.1 hC.1.2.1 hd rfl hl.1 (by rw [← hl.2.1]; exact hi) rfl fun ls' h' => hG ls' H locs (hl.st1 hi hb rfl h') hR hS h1 h2
theorem xs_astoreN (hC : xv_Cx p R s m args meth c cc w cl aty WS stt sx sc own nL n0 z0 nE zE) (hd : decode cc pc = .ok (.astore i, 2)) (hi : i < L.length) (hb : xv_b1 lg i = true) (hG : xv_G p l e R s m args below meth c Q w cl rk lg nL n0 z0 (pc + 2, L.set i (some (.null)), st, h)) : xv_G p l e R s m args below meth c Q w cl rk lg nL n0 z0 (pc, L, .null :: st, h) :=
  fun ls H locs hl hR hS h1 h2 => lv_astoreN hC.1.1 hC.1.2.1 hd hl.1 (by rw [← hl.2.1]; exact hi) rfl fun ls' h' => hG ls' H locs (hl.st1 hi hb rfl h') hR hS h1 h2
theorem xs_astore_nN {k : Fin 4} (hC : xv_Cx p R s m args meth c cc w cl aty WS stt sx sc own nL n0 z0 nE zE) (hd : decode cc pc = .ok (.astore_n k, 1)) (hi : (k : Nat) < L.length) (hb : xv_b1 lg (k : Nat) = true) (hG : xv_G p l e R s m args below meth c Q w cl rk lg nL n0 z0 (pc + 1, L.set (k : Nat) (some (.null)), st, h)) : xv_G p l e R s m args below meth c Q w cl rk lg nL n0 z0 (pc, L, .null :: st, h) :=
  fun ls H locs hl hR hS h1 h2 => lv_astore_nN hC.1.1 hC.1.2.1 hd rfl hl.1 (by rw [← hl.2.1]; exact hi) rfl fun ls' h' => hG ls' H locs (hl.st1 hi hb rfl h') hR hS h1 h2
theorem xs_iinc {n : Int} (hC : xv_Cx p R s m args meth c cc w cl aty WS stt sx sc own nL n0 z0 nE zE) (hd : decode cc pc = .ok (.iinc i n, 3)) (hL : L[i]? = some (some (.int x))) (hi : i < L.length) (hb : xv_b1 lg i = true) (hG : xv_G p l e R s m args below meth c Q w cl rk lg nL n0 z0 (pc + 3, L.set i (some (.int (x + Int32.ofInt n))), st, h)) : xv_G p l e R s m args below meth c Q w cl rk lg nL n0 z0 (pc, L, st, h) := by
  intro ls H locs hl hR hS h1 h2
  obtain ⟨k, hk⟩ := List.getElem?_of_mem (xv_as_mem (al := xv_al w) (q := (i, .int x)) |>.mpr ⟨_, hL, rfl⟩)
  exact lv_iinc hC.1.1 hC.1.2.1 hd hl.1 hk rfl (by rw [← hl.2.1]; exact hi) rfl fun ls' h' => hG ls' H locs (hl.st1 (v := .int (x + Int32.ofInt n)) hi hb rfl h') hR hS h1 h2
/-- branches -/
theorem xs_if_eq {off : Int} {tgt : Nat} (hC : xv_Cx p R s m args meth c cc w cl aty WS stt sx sc own nL n0 z0 nE zE) (hd : decode cc pc = .ok (.ifCond .eq off, 3)) (ht : (pc : Int) + off = (tgt : Int)) (kt : x = 0 → xv_G p l e R s m args below meth c Q w cl rk lg nL n0 z0 (tgt, L, st, h)) (kf : ¬ (x = 0) → xv_G p l e R s m args below meth c Q w cl rk lg nL n0 z0 (pc + 3, L, st, h)) : xv_G p l e R s m args below meth c Q w cl rk lg nL n0 z0 (pc, L, .int x :: st, h) :=
  fun ls H locs hl hR hS h1 h2 => lv_if_eq hC.1.1 hC.1.2.1 hd ht (fun q => kt q ls H locs hl hR hS h1 h2) (fun q => kf q ls H locs hl hR hS h1 h2)
theorem xs_icmp_eq {off : Int} {tgt : Nat} (hC : xv_Cx p R s m args meth c cc w cl aty WS stt sx sc own nL n0 z0 nE zE) (hd : decode cc pc = .ok (.if_icmp .eq off, 3)) (ht : (pc : Int) + off = (tgt : Int)) (kt : x = y → xv_G p l e R s m args below meth c Q w cl rk lg nL n0 z0 (tgt, L, st, h)) (kf : ¬ (x = y) → xv_G p l e R s m args below meth c Q w cl rk lg nL n0 z0 (pc + 3, L, st, h)) : xv_G p l e R s m args below meth c Q w cl rk lg nL n0 z0 (pc, L, .int y :: .int x :: st, h) :=
  fun ls H locs hl hR hS h1 h2 => lv_icmp_eq hC.1.1 hC.1.2.1 hd ht (fun q => kt q ls H locs hl hR hS h1 h2) (fun q => kf q ls H locs hl hR hS h1 h2)
theorem xs_if_ne {off : Int} {tgt : Nat} (hC : xv_Cx p R s m args meth c cc w cl aty WS stt sx sc own nL n0 z0 nE zE) (hd : decode cc pc = .ok (.ifCond .ne off, 3)) (ht : (pc : Int) + off = (tgt : Int)) (kt : ¬ x = 0 → xv_G p l e R s m args below meth c Q w cl rk lg nL n0 z0 (tgt, L, st, h)) (kf : ¬ (¬ x = 0) → xv_G p l e R s m args below meth c Q w cl rk lg nL n0 z0 (pc + 3, L, st, h)) : xv_G p l e R s m args below meth c Q w cl rk lg nL n0 z0 (pc, L, .int x :: st, h) :=
  fun ls H locs hl hR hS h1 h2 => lv_if_ne hC.1.1 hC.1.2.1 hd ht (fun q => kt q ls H locs hl hR hS h1 h2) (fun q => kf (fun z => z q) ls H locs hl hR hS h1 h2)
theorem xs_icmp_ne {off : Int} {tgt : Nat} (hC : xv_Cx p R s m args meth c cc w cl aty WS stt sx sc own nL n0 z0 nE zE) (hd : decode cc pc = .ok (.if_icmp .ne off, 3)) (ht : (pc : Int) + off = (tgt : Int)) (kt : ¬ x = y → xv_G p l e R s m args below meth c Q w cl rk lg nL n0 z0 (tgt, L, st, h)) (kf : ¬ (¬ x = y) → xv_G p l e R s m args below meth c Q w cl rk lg nL n0 z0 (pc + 3, L, st, h)) : xv_G p l e R s m args below meth c Q w cl rk lg nL n0 z0 (pc, L, .int y :: .int x :: st, h) :=
  fun ls H locs hl hR hS h1 h2 => lv_icmp_ne hC.1.1 hC.1.2.1 hd ht (fun q => kt q ls H locs hl hR hS h1 h2) (fun q => kf (fun z => z q) ls H locs hl hR hS h1 h2)
theorem xs_if_lt {off : Int} {tgt : Nat} (hC : xv_Cx p R s m args meth c cc w cl aty WS stt sx sc own nL n0 z0 nE zE) (hd : decode cc pc = .ok (.ifCond .lt off, 3)) (ht : (pc : Int) + off = (tgt : Int)) (kt : x < 0 → xv_G p l e R s m args below meth c Q w cl rk lg nL n0 z0 (tgt, L, st, h)) (kf : ¬ (x < 0) → xv_G p l e R s m args below meth c Q w cl rk lg nL n0 z0 (pc + 3, L, st, h)) : xv_G p l e R s m args below meth c Q w cl rk lg nL n0 z0 (pc, L, .int x :: st, h) :=
  fun ls H locs hl hR hS h1 h2 => lv_if_lt hC.1.1 hC.1.2.1 hd ht (fun q => kt q ls H locs hl hR hS h1 h2) (fun q => kf q ls H locs hl hR hS h1 h2)
theorem xs_icmp_lt {off : Int} {tgt : Nat} (hC : xv_Cx p R s m args meth c cc w cl aty WS stt sx sc own nL n0 z0 nE zE) (hd : decode cc pc = .ok (.if_icmp .lt off, 3)) (ht : (pc : Int) + off = (tgt : Int)) (kt : x < y → xv_G p l e R s m args below meth c Q w cl rk lg nL n0 z0 (tgt, L, st, h)) (kf : ¬ (x < y) → xv_G p l e R s m args below meth c Q w cl rk lg nL n0 z0 (pc + 3, L, st, h)) : xv_G p l e R s m args below meth c Q w cl rk lg nL n0 z0 (pc, L, .int y :: .int x :: st, h) :=
  fun ls H locs hl hR hS h1 h2 => lv_icmp_lt hC.1.1 hC.1.2.1 hd ht (fun q => kt q ls H locs hl hR hS h1 h2) (fun q => kf q ls H locs hl hR hS h1 h2)
theorem xs_if_ge {off : Int} {tgt : Nat} (hC : xv_Cx p R s m args meth c cc w cl aty WS stt sx sc own nL n0 z0 nE zE) (hd : decode cc pc = .ok (.ifCond .ge off, 3)) (ht : (pc : Int) + off = (tgt : Int)) (kt : 0 ≤ x → xv_G p l e R s m args below meth c Q w cl rk lg nL n0 z0 (tgt, L, st, h)) (kf : ¬ (0 ≤ x) → xv_G p l e R s m args below meth c Q w cl rk lg nL n0 z0 (pc + 3, L, st, h)) : xv_G p l e R s m args below meth c Q w cl rk lg nL n0 z0 (pc, L, .int x :: st, h) :=
  fun ls H locs hl hR hS h1 h2 => lv_if_ge hC.1.1 hC.1.2.1 hd ht (fun q => kt q ls H locs hl hR hS h1 h2) (fun q => kf q ls H locs hl hR hS h1 h2)
theorem xs_icmp_ge {off : Int} {tgt : Nat} (hC : xv_Cx p R s m args meth c cc w cl aty WS stt sx sc own nL n0 z0 nE zE) (hd : decode cc pc = .ok (.if_icmp .ge off, 3)) (ht : (pc : Int) + off = (tgt : Int)) (kt : y ≤ x → xv_G p l e R s m args below meth c Q w cl rk lg nL n0 z0 (tgt, L, st, h)) (kf : ¬ (y ≤ x) → xv_G p l e R s m args below meth c Q w cl rk lg nL n0 z0 (pc + 3, L, st, h)) : xv_G p l e R s m args below meth c Q w cl rk lg nL n0 z0 (pc, L, .int y :: .int x :: st, h) :=
  fun ls H locs hl hR hS h1 h2 => lv_icmp_ge hC.1.1 hC.1.2.1 hd ht (fun q => kt q ls H locs hl hR hS h1 h2) (fun q => kf q ls H locs hl hR hS h1 h2)
theorem xs_if_gt {off : Int} {tgt : Nat} (hC : xv_Cx p R s m args meth c cc w cl aty WS stt sx sc own nL n0 z0 nE zE) (hd : decode cc pc = .ok (.ifCond .gt off, 3)) (ht : (pc : Int) + off = (tgt : Int)) (kt : 0 < x → xv_G p l e R s m args below meth c Q w cl rk lg nL n0 z0 (tgt, L, st, h)) (kf : ¬ (0 < x) → xv_G p l e R s m args below meth c Q w cl rk lg nL n0 z0 (pc + 3, L, st, h)) : xv_G p l e R s m args below meth c Q w cl rk lg nL n0 z0 (pc, L, .int x :: st, h) :=
  fun ls H locs hl hR hS h1 h2 => lv_if_gt hC.1.1 hC.1.2.1 hd ht (fun q => kt q ls H locs hl hR hS h1 h2) (fun q => kf q ls H locs hl hR hS h1 h2)
theorem xs_icmp_gt {off : Int} {tgt : Nat} (hC : xv_Cx p R s m args meth c cc w cl aty WS stt sx sc own nL n0 z0 nE zE) (hd : decode cc pc = .ok (.if_icmp .gt off, 3)) (ht : (pc : Int) + off = (tgt : Int)) (kt : y < x → xv_G p l e R s m args below meth c Q w cl rk lg nL n0 z0 (tgt, L, st, h)) (kf : ¬ (y < x) → xv_G p l e R s m args below meth c Q w cl rk lg nL n0 z0 (pc + 3, L, st, h)) : xv_G p l e R s m args below meth c Q w cl rk lg nL n0 z0 (pc, L, .int y :: .int x :: st, h) :=
  fun ls H locs hl hR hS h1 h2 => lv_icmp_gt hC.1.1 hC.1.2.1 hd ht (fun q => kt q ls H locs hl hR hS h1 h2) (fun q => kf q ls H locs hl hR hS h1 h2)
theorem xs_if_le {off : Int} {tgt : Nat} (hC : xv_Cx p R s m args meth c cc w cl aty WS stt sx sc own nL n0 z0 nE zE) (hd : decode cc pc = .ok (.ifCond .le off, 3)) (ht : (pc : Int) + off = (tgt : Int)) (kt : x ≤ 0 → xv_G p l e R s m args below meth c Q w cl rk lg nL n0 z0 (tgt, L, st, h)) (kf : ¬ (x ≤ 0) → xv_G p l e R s m args below meth c Q w cl rk lg nL n0 z0 (pc + 3, L, st, h)) : xv_G p l e R s m args below meth c Q w cl rk lg nL n0 z0 (pc, L, .int x :: st, h) :=
  fun ls H locs hl hR hS h1 h2 => lv_if_le hC.1.1 hC.1.2.1 hd ht (fun q => kt q ls H locs hl hR hS h1 h2) (fun q => kf q ls H locs hl hR hS h1 h2)
theorem xs_icmp_le {off : Int} {tgt : Nat} (hC : xv_Cx p R s m args meth c cc w cl aty WS stt sx sc own nL n0 z0 nE zE) (hd : decode cc pc = .ok (.if_icmp .le off, 3)) (ht : (pc : Int) + off = (tgt : Int)) (kt : x ≤ y → xv_G p l e R s m args below meth c Q w cl rk lg nL n0 z0 (tgt, L, st, h)) (kf : ¬ (x ≤ y) → xv_G p l e R s m args below meth c Q w cl rk lg nL n0 z0 (pc + 3, L, st, h)) : xv_G p l e R s m args below meth c Q w cl rk lg nL n0 z0 (pc, L, .int y :: .int x :: st, h) :=
  fun ls H locs hl hR hS h1 h2 => lv_icmp_le hC.1.1 hC.1.2.1 hd ht (fun q => kt q ls H locs hl hR hS h1 h2) (fun q => kf q ls H locs hl hR hS h1 h2)
theorem xs_goto {off : Int} {tgt : Nat} (hC : xv_Cx p R s m args meth c cc w cl aty WS stt sx sc own nL n0 z0 nE zE) (hd : decode cc pc = .ok (.goto off, 3)) (ht : (pc : Int) + off = (tgt : Int)) (kt : xv_G p l e R s m args below meth c Q w cl rk lg nL n0 z0 (tgt, L, st, h)) : xv_G p l e R s m args below meth c Q w cl rk lg nL n0 z0 (pc, L, st, h) :=
  fun ls H locs hl hR hS h1 h2 => lv_goto hC.1.1 hC.1.2.1 hd ht (kt ls H locs hl hR hS h1 h2)
theorem xs_tabOut {dflt lo hi : Int} {offs : Array Int} {len tgt : Nat} (hC : xv_Cx p R s m args meth c cc w cl aty WS stt sx sc own nL n0 z0 nE zE) (hd : decode cc pc = .ok (.tableswitch dflt lo hi offs, len)) (hx : x.toInt < lo ∨ hi < x.toInt) (ht : (pc : Int) + dflt = (tgt : Int)) (kt : xv_G p l e R s m args below meth c Q w cl rk lg nL n0 z0 (tgt, L, st, h)) : xv_G p l e R s m args below meth c Q w cl rk lg nL n0 z0 (pc, L, .int x :: st, h) :=
  fun ls H locs hl hR hS h1 h2 => lv_tableOut hC.1.1 hC.1.2.1 hd hx ht (kt ls H locs hl hR hS h1 h2)
theorem xs_tabIn {dflt lo hi off : Int} {offs : Array Int} {len tgt : Nat} (hC : xv_Cx p R s m args meth c cc w cl aty WS stt sx sc own nL n0 z0 nE zE) (hd : decode cc pc = .ok (.tableswitch dflt lo hi offs, len)) (hx : ¬ (x.toInt < lo ∨ hi < x.toInt)) (ho : offs[(x.toInt - lo).toNat]? = some off) (ht : (pc : Int) + off = (tgt : Int)) (kt : xv_G p l e R s m args below meth c Q w cl rk lg nL n0 z0 (tgt, L, st, h)) : xv_G p l e R s m args below meth c Q w cl rk lg nL n0 z0 (pc, L, .int x :: st, h) :=
  fun ls H locs hl hR hS h1 h2 => lv_tableIn hC.1.1 hC.1.2.1 hd (fun q => hx (Or.inl q)) (fun q => hx (Or.inr q)) ho ht (kt ls H locs hl hR hS h1 h2)
theorem xs_ifnull {o : Option Nat} {off : Int} {tgt : Nat} (hC : xv_Cx p R s m args meth c cc w cl aty WS stt sx sc own nL n0 z0 nE zE) (hd : decode cc pc = .ok (.ifnull off, 3)) (ht : (pc : Int) + off = (tgt : Int)) (kt : o = none → xv_G p l e R s m args below meth c Q w cl rk lg nL n0 z0 (tgt, L, st, h)) (kf : ¬ o = none → xv_G p l e R s m args below meth c Q w cl rk lg nL n0 z0 (pc + 3, L, st, h)) : xv_G p l e R s m args below meth c Q w cl rk lg nL n0 z0 (pc, L, va_rf o :: st, h) := by
  intro ls H locs hl hR hS h1 h2
  cases o with
  | none => exact lv_ifnullN hC.1.1 hC.1.2.1 hd ht (kt rfl ls H locs hl hR hS h1 h2)
  | some a => exact lv_ifnull hC.1.1 hC.1.2.1 hd (kf (fun q => by cases q) ls H locs hl hR hS h1 h2)
theorem xs_ifnonnull {o : Option Nat} {off : Int} {tgt : Nat} (hC : xv_Cx p R s m args meth c cc w cl aty WS stt sx sc own nL n0 z0 nE zE) (hd : decode cc pc = .ok (.ifnonnull off, 3)) (ht : (pc : Int) + off = (tgt : Int)) (kt : ¬ o = none → xv_G p l e R s m args below meth c Q w cl rk lg nL n0 z0 (tgt, L, st, h)) (kf : ¬ ¬ o = none → xv_G p l e R s m args below meth c Q w cl rk lg nL n0 z0 (pc + 3, L, st, h)) : xv_G p l e R s m args below meth c Q w cl rk lg nL n0 z0 (pc, L, va_rf o :: st, h) := by
  intro ls H locs hl hR hS h1 h2
  cases o with
  | none => exact lv_ifnonnullN hC.1.1 hC.1.2.1 hd (kf (fun q => q rfl) ls H locs hl hR hS h1 h2)
  | some a => exact lv_ifnonnull hC.1.1 hC.1.2.1 hd ht (kt (fun q => by cases q) ls H locs hl hR hS h1 h2)
theorem xs_acmp_eq {o1 o2 : Option Nat} {off : Int} {tgt : Nat} (hI : ∀ a b, xv_cmp a b → xv_al w a = xv_al w b → a = b) (hok : xv_cok o1 o2 = true) (hC : xv_Cx p R s m args meth c cc w cl aty WS stt sx sc own nL n0 z0 nE zE) (hd : decode cc pc = .ok (.if_acmp .eq off, 3)) (ht : (pc : Int) + off = (tgt : Int)) (kt : o1 = o2 → xv_G p l e R s m args below meth c Q w cl rk lg nL n0 z0 (tgt, L, st, h)) (kf : ¬ o1 = o2 → xv_G p l e R s m args below meth c Q w cl rk lg nL n0 z0 (pc + 3, L, st, h)) : xv_G p l e R s m args below meth c Q w cl rk lg nL n0 z0 (pc, L, va_rf o2 :: va_rf o1 :: st, h) := by
  intro ls H locs hl hR hS h1 h2
  have hj : o1.map (xv_al w) = o2.map (xv_al w) ↔ o1 = o2 := by
    constructor
    · intro q
      cases o1 <;> cases o2 <;> simp at q ⊢
      exact hI _ _ (by have h9 := hok; simp only [xv_cok, decide_eq_true_eq] at h9; exact h9) q
    · intro q; rw [q]
  simp only [List.map_cons, xv_cv_rf]
  exact lv_acmp_eq hC.1.1 hC.1.2.1 hd ht (fun q => kt (hj.mp q) ls H locs hl hR hS h1 h2) (fun q => kf (fun z => q (hj.mpr z)) ls H locs hl hR hS h1 h2)
theorem xs_acmp_ne {o1 o2 : Option Nat} {off : Int} {tgt : Nat} (hI : ∀ a b, xv_cmp a b → xv_al w a = xv_al w b → a = b) (hok : xv_cok o1 o2 = true) (hC : xv_Cx p R s m args meth c cc w cl aty WS stt sx sc own nL n0 z0 nE zE) (hd : decode cc pc = .ok (.if_acmp .ne off, 3)) (ht : (pc : Int) + off = (tgt : Int)) (kt : ¬ o1 = o2 → xv_G p l e R s m args below meth c Q w cl rk lg nL n0 z0 (tgt, L, st, h)) (kf : ¬ ¬ o1 = o2 → xv_G p l e R s m args below meth c Q w cl rk lg nL n0 z0 (pc + 3, L, st, h)) : xv_G p l e R s m args below meth c Q w cl rk lg nL n0 z0 (pc, L, va_rf o2 :: va_rf o1 :: st, h) := by
  intro ls H locs hl hR hS h1 h2
  have hj : o1.map (xv_al w) = o2.map (xv_al w) ↔ o1 = o2 := by
    constructor
    · intro q
      cases o1 <;> cases o2 <;> simp at q ⊢
      exact hI _ _ (by have h9 := hok; simp only [xv_cok, decide_eq_true_eq] at h9; exact h9) q
    · intro q; rw [q]
  simp only [List.map_cons, xv_cv_rf]
  exact lv_acmp_ne hC.1.1 hC.1.2.1 hd ht (fun q => kt (fun z => q (hj.mpr z)) ls H locs hl hR hS h1 h2) (fun q => kf (fun z => z (hj.mp q)) ls H locs hl hR hS h1 h2)
end XS
end
section
/-! Fields, arrays, new cells. -/
theorem xv_at.keep {w : xv_W} {cl : List vw_C} {rk : Nat → Bool} {h h' : xv_H} {a : Nat} {cell : Cell} (hc : xv_at w cl rk h a cell) (ht : h'.2.2.1 a = h.2.2.1 a) (hl : h'.2.2.2.1 a = h.2.2.2.1 a)
    (hf : ∀ f, xv_fv w rk h' f a = xv_fv w rk h f a) (he : ∀ t i, xv_ev w h' t a i = xv_ev w h t a i) : xv_at w cl rk h' a cell := by
  obtain ⟨h0, h1 | h1⟩ := hc
  · obtain ⟨q1, q2, q, q3, q4⟩ := h1
    refine ⟨h0, Or.inl ⟨by rw [ht]; exact q1, by rw [ht]; exact q2, q, by rw [ht]; exact q3, fun k hk => ?_⟩⟩
    rw [ht, hf]; exact q4 k hk
  · obtain ⟨q1, q2⟩ := h1
    refine ⟨h0, Or.inr ⟨by rw [ht]; exact q1, ?_⟩⟩
    rw [ht, hl, q2]
    congr 1
    funext i
    exact (he _ i).symm
/-- one cell changes -/
theorem xv_R.set {w : xv_W} {cl : List vw_C} {rk : Nat → Bool} {h h' : xv_H} {H H' : Heap} {a : Nat} {cell : Cell} (hR : xv_R w cl rk h H) (hn : h'.1 = h.1) (hz : H'.size = H.size) (ho : ∀ q, q ≠ w.1 + a → H'[q]? = H[q]?) (hc : H'[w.1 + a]? = some cell) (hat : xv_at w cl rk h' a cell)
    (hk : ∀ (b : Nat) (cb : Cell), b < h.1 → b ≠ a → xv_at w cl rk h b cb → xv_at w cl rk h' b cb) : xv_R w cl rk h' H' := by
  obtain ⟨h1, h2, h3⟩ := hR
  refine ⟨by rw [hz, hn]; exact h1, fun q hq => by rw [ho q (by omega)]; exact h2 q hq, fun b hb => ?_⟩
  rw [hn] at hb
  by_cases hba : b = a
  · subst hba
    exact ⟨cell, hc, hat⟩
  · obtain ⟨cb, e1, e2⟩ := h3 b hb
    exact ⟨cb, by rw [ho _ (by omega)]; exact e1, hk b cb hb hba e2⟩
/-- one cell comes -/
theorem xv_R.push {w : xv_W} {cl : List vw_C} {rk : Nat → Bool} {h h' : xv_H} {H H' : Heap} {cell : Cell} (hR : xv_R w cl rk h H) (hn : h'.1 = h.1 + 1) (hz : H'.size = H.size + 1) (ho : ∀ q, q < H.size → H'[q]? = H[q]?) (hc : H'[H.size]? = some cell) (hat : xv_at w cl rk h' h.1 cell)
    (hk : ∀ (b : Nat) (cb : Cell), b < h.1 → xv_at w cl rk h b cb → xv_at w cl rk h' b cb) : xv_R w cl rk h' H' := by
  obtain ⟨h1, h2, h3⟩ := hR
  refine ⟨by rw [hz, hn, h1]; omega, fun q hq => by rw [ho q (by omega)]; exact h2 q hq, fun b hb => ?_⟩
  rw [hn] at hb
  by_cases hba : b = h.1
  · subst hba
    exact ⟨cell, by rw [← h1]; exact hc, hat⟩
  · obtain ⟨cb, e1, e2⟩ := h3 b (by omega)
    exact ⟨cb, by rw [ho _ (by rw [h1]; omega)]; exact e1, hk b cb (by omega) e2⟩
theorem xv_S.push {A : Nat → Prop} {H0 H H1 : Heap} {locs : List Loc} (h : va_S A H0 H locs) (z : H1.size = H.size + 1) (ho : ∀ q, q < H.size → H1[q]? = H[q]?) : va_S A H0 H1 locs :=
  ⟨by rw [z]; exact Nat.le_succ_of_le h.1, fun q h1 h2 => (ho q (Nat.lt_of_lt_of_le h1 h.1)).trans (h.2.1 q h1 h2), h.2.2⟩
theorem xv_up_ne {β : Type} {f : Nat → Nat → β} {x y a b : Nat} {v : β} (h : ¬ (a = x ∧ b = y)) : xv_up f x y v a b = f a b := if_neg h
theorem xv_up_eq {β : Type} {f : Nat → Nat → β} {x y : Nat} {v : β} : xv_up f x y v x y = v := if_pos ⟨rfl, rfl⟩
theorem xv_arr_is {U : State} {cA : ClassId} {ty : FieldType} (h : ArrOfT U cA ty) {cell : Cell} (h1 : cell.cls = cA) (h2 : cell.vm = .none) : U.isArrayOf cell ty := by
  have h3 := h 0 (fun _ => .null)
  obtain ⟨c, sl, vm⟩ := cell
  simp only at h1 h2
  subst h1; subst h2
  exact h3
section XH
variable {p : Program} {l : Launch} {e : Env} {R : Room} {s : State} {m : MethodId} {args : Array Value} {below : List Frame} {meth : Method} {c : Code} {Q : State → Prop} {cc : ByteArray} {w : xv_W} {cl : List vw_C} {rk : Nat → Bool} {aty : List FieldType} {WS : List Jvm.Cond} {stt : List (String × String × String)} {sx : xv_X} {sc : Nat × (Nat → Int32)} {own : String} {nL n0 z0 nE zE : Nat} {lg : List Nat} {pc : Nat} {L : xv_L} {st r : List Value} {n z : Nat} {tg ln : Nat → Nat} {fr er : Nat → Nat → Option Nat} {fi ei : Nat → Nat → Int32} {el : Nat → Nat → Int64} {x y i : Int32} {u v : Int64} {a b : Nat}
/-- getfield: class ci, field k -/
theorem xs_getf {ci k idx : Nat} {q : vw_C} {ref : String} (hC : xv_Cx p R s m args meth c cc w cl aty WS stt sx sc own nL n0 z0 nE zE) (hd : decode cc pc = .ok (.getfield idx, 3)) (hq : cl[ci]? = some q) (hws : ∀ x ∈ u_ws q.1 q.2.1 q.2.2, x ∈ WS) (hci : ci < 100) (hk : k < q.2.2) (hlink : Jvm.Cond.fieldLink own idx ref (q.2.1 k).2.1 (q.2.1 k).2.2.1 ∈ WS) (hsame : ref = (q.2.1 k).1 ∨ Jvm.Cond.sameField ref (q.2.1 k).1 (q.2.1 k).2.1 (q.2.1 k).2.2.1 ∈ WS)
    (hE : n ≤ nE) (ha : a < n) (ht : tg a = ci)
    (hG : xv_G p l e R s m args below meth c Q w cl rk lg nL n0 z0 (pc + 3, L, (if rk (100 * ci + k) = true then va_rf (fr (100 * ci + k) a) else .int (fi (100 * ci + k) a)) :: st, (n, z, tg, ln, fr, er, fi, ei, el))) : xv_G p l e R s m args below meth c Q w cl rk lg nL n0 z0 (pc, L, .ref a :: st, (n, z, tg, ln, fr, er, fi, ei, el)) := by
  intro ls H locs hl hR hS h1 h2
  obtain ⟨⟨hx, hb, hml, hown, hts⟩, ⟨hK, hA⟩, ⟨hr1, hr2, hr3, hr4⟩, -⟩ := hC
  have hal : xv_al w a = w.1 + a := xv_al_lt (by omega)
  obtain ⟨cell, q1, q2, q3 | q3⟩ := hR.2.2 a ha
  · obtain ⟨q4, q5, q', q6, q7⟩ := q3
    simp only [ht] at q4 q5 q6 q7
    cases q6.symm.trans hq
    obtain ⟨hSl, hfc, kC, hkC, hkind⟩ := hK.1 ci _ hq
    obtain ⟨cf, kf, fj, f, hi, hsl⟩ := hSl k hk
    have hi' : s.fieldFound? ref (q.2.1 k).2.1 (q.2.1 k).2.2.1 = some (cf, kf, fj, f) := by
      rcases hsame with h | h
      · rw [h]; exact hi
      · exact u_same (hts _ h) _ hi
    have hv := q7 k hk
    refine W.getf hx hb hown (hts _ hlink) hi' (u_facts hfc hkC (u_lays hts hws hk) hi).1 (a := w.1 + a) q1 (by rw [q2]; exact fun h => by cases h) (v := xv_fv w rk (n, z, tg, ln, fr, er, fi, ei, el) (100 * ci + k) a) (by rw [hsl]; exact hv) rfl (rest := st.map (xv_cv (xv_al w))) (by simp only [List.map_cons, xv_cv, hal]) hd ?_
    have hg := hG ls H locs hl hR hS h1 h2
    simp only [List.map_cons] at hg
    have e : xv_cv (xv_al w) (if rk (100 * ci + k) = true then va_rf (fr (100 * ci + k) a) else .int (fi (100 * ci + k) a)) = xv_fv w rk (n, z, tg, ln, fr, er, fi, ei, el) (100 * ci + k) a := by
      unfold xv_fv
      split <;> rfl
    rw [e] at hg
    exact hg
  · exfalso
    obtain ⟨q4, -⟩ := q3
    simp only [ht] at q4
    omega
/-- putfield: what has changed -/
theorem xv_R.putf {h' : xv_H} {ci k : Nat} {q : vw_C} {H H' : Heap} {cell : Cell} {v0 : Value} (hR : xv_R w cl rk (n, z, tg, ln, fr, er, fi, ei, el) H) (ha : a < n) (ht : tg a = ci) (hci : ci < 100) (hq : cl[ci]? = some q) (hk : k < q.2.2) (hap : ∀ k', k' < q.2.2 → k' ≠ k → w.2.2.2.1.2 ci k' ≠ w.2.2.2.1.2 ci k)
    (hcell : H[w.1 + a]? = some cell) (hH : H'[w.1 + a]? = some (cell.setSlot (w.2.2.2.1.2 ci k) v0)) (hz : H'.size = H.size) (ho : ∀ q, q ≠ w.1 + a → H'[q]? = H[q]?) (e1 : h'.1 = n) (e2 : h'.2.2.1 = tg) (e3 : h'.2.2.2.1 = ln) (hv : xv_fv w rk h' (100 * ci + k) a = v0) (hf : ∀ g b, ¬ (g = 100 * ci + k ∧ b = a) → xv_fv w rk h' g b = xv_fv w rk (n, z, tg, ln, fr, er, fi, ei, el) g b)
    (he : ∀ t b j, xv_ev w h' t b j = xv_ev w (n, z, tg, ln, fr, er, fi, ei, el) t b j) : xv_R w cl rk h' H' := by
  refine hR.set e1 hz ho hH ?_ fun b cb hb hne hcb => hcb.keep (by rw [e2]) (by rw [e3]) (fun g => hf g b (fun z => hne z.2)) (fun t j => he t b j)
  obtain ⟨cell', q1, q2, q3 | q3⟩ := hR.2.2 a ha
  · cases q1.symm.trans hcell
    obtain ⟨q4, q5, q', q6, q7⟩ := q3
    simp only [ht] at q4 q5 q6 q7
    cases q6.symm.trans hq
    refine ⟨q2, Or.inl ⟨by rw [e2, ht]; exact hci, by rw [e2, ht]; exact q5, q, by rw [e2, ht]; exact hq, fun j hj => ?_⟩⟩
    rw [e2, ht]
    by_cases hjk : j = k
    · subst hjk
      rw [hv]
      exact Cell.slots_setSlot_self _ (k2_hasslot (q7 j hj))
    · rw [slot_ne _ _ (Ne.symm (hap j hj hjk)), q7 j hj, hf _ _ (fun z => hjk (by omega))]
  · exfalso
    obtain ⟨q4, -⟩ := q3
    simp only [ht] at q4
    omega
theorem xs_putf {h' : xv_H} {ci k idx : Nat} {q : vw_C} {ref : String} {ty0 : Nat → FieldType} {v0 : Value} (hC : xv_Cx p R s m args meth c cc w cl aty WS stt sx sc own nL n0 z0 nE zE) (hd : decode cc pc = .ok (.putfield idx, 3)) (hq : cl[ci]? = some q) (hws : ∀ x ∈ u_ws q.1 q.2.1 q.2.2, x ∈ WS) (hci : ci < 100) (hk : k < q.2.2) (hlink : Jvm.Cond.fieldLink own idx ref (q.2.1 k).2.1 (q.2.1 k).2.2.1 ∈ WS) (hsame : ref = (q.2.1 k).1 ∨ Jvm.Cond.sameField ref (q.2.1 k).1 (q.2.1 k).2.1 (q.2.1 k).2.2.1 ∈ WS)
    (hty : ∀ k, k < q.2.2 → parseFieldDescriptor (q.2.1 k).2.2.1 = some (ty0 k)) (hnm : ∀ a, a < q.2.2 → ∀ b, b < q.2.2 → a ≠ b → (q.2.1 a).2.1 ≠ (q.2.1 b).2.1) (hfin : (q.2.1 k).2.2.2 = false ∨ ((q.2.1 k).2.2.2 = true ∧ meth.name = "<init>" ∧ (q.2.1 k).1 = own)) (hnar : narrow (ty0 k) (xv_cv (xv_al w) v0) = xv_cv (xv_al w) v0) (hfit : fits (ty0 k) (xv_cv (xv_al w) v0) = true)
    (hE : n ≤ nE) (ha : a < n) (ht : tg a = ci)
    (e1 : h'.1 = n) (e0 : h'.2.1 = z) (e2 : h'.2.2.1 = tg) (e3 : h'.2.2.2.1 = ln) (hv : xv_fv w rk h' (100 * ci + k) a = xv_cv (xv_al w) v0) (hf : ∀ g b, ¬ (g = 100 * ci + k ∧ b = a) → xv_fv w rk h' g b = xv_fv w rk (n, z, tg, ln, fr, er, fi, ei, el) g b) (he : ∀ t b j, xv_ev w h' t b j = xv_ev w (n, z, tg, ln, fr, er, fi, ei, el) t b j)
    (hG : xv_G p l e R s m args below meth c Q w cl rk lg nL n0 z0 (pc + 3, L, st, h')) : xv_G p l e R s m args below meth c Q w cl rk lg nL n0 z0 (pc, L, v0 :: .ref a :: st, (n, z, tg, ln, fr, er, fi, ei, el)) := by
  intro ls H locs hl hR hS h1 h2
  obtain ⟨⟨hx, hb, hml, hown, hts⟩, ⟨hK, hA⟩, ⟨hr1, hr2, hr3, hr4⟩, -⟩ := hC
  have hal : xv_al w a = w.1 + a := xv_al_lt (by omega)
  have hap := va_apart (own := own) hts hws ty0 hty hnm hK hq
  obtain ⟨cell, q1, q2, q3 | q3⟩ := hR.2.2 a ha
  · obtain ⟨q4, q5, q', q6, q7⟩ := q3
    simp only [ht] at q4 q5 q6 q7
    cases q6.symm.trans hq
    obtain ⟨hSl, hfc, kC, hkC, hkind⟩ := hK.1 ci _ hq
    obtain ⟨cf, kf, fj, f, hi, hsl⟩ := hSl k hk
    have hi' : s.fieldFound? ref (q.2.1 k).2.1 (q.2.1 k).2.2.1 = some (cf, kf, fj, f) := by
      rcases hsame with h | h
      · rw [h]; exact hi
      · exact u_same (hts _ h) _ hi
    have hst := (u_facts hfc hkC (u_lays hts hws hk) hi).1
    have hlay := hts _ (hws _ (u_in_lay hk))
    unfold u_lay at hlay
    have kk : ∀ H' : Heap, H'[w.1 + a]? = some (cell.setSlot f.slot (xv_cv (xv_al w) v0)) → H'.size = H.size → (∀ q, q ≠ w.1 + a → H'[q]? = H[q]?) → W p l e R s m args below meth c H' (locs ++ [⟨w.1 + a, f.slot⟩]) (n - n0) (z - z0) Q (F0 m (pc + 3) ls (st.map (xv_cv (xv_al w)))) := by
      intro H' g1 g2 g3
      rw [hsl] at g1
      have hR' : xv_R w cl rk h' H' := hR.putf ha ht hci hq hk (fun k' hk' hne => hap k' k hk' hk hne) q1 g1 g2 g3 e1 e2 e3 hv hf he
      have := hG ls H' _ hl hR' (hS.put g2 g3 (k := f.slot) (Nat.le_add_right _ _)) (by simp only [e1]; exact h1) (by simp only [e0]; exact h2)
      simp only [e1, e0] at this
      exact this
    have hlt : f.slot < cell.slots.size := by rw [hsl]; exact k2_hasslot (q7 k hk)
    have hstk : (F0 m pc ls ((v0 :: Value.ref a :: st).map (xv_cv (xv_al w)))).stack = xv_cv (xv_al w) v0 :: .ref (w.1 + a) :: st.map (xv_cv (xv_al w)) := by simp only [List.map_cons, xv_cv, hal]
    rcases hfin with hfin | ⟨hfin, hin, hdecl⟩
    · rw [if_neg (by rw [hfin]; decide)] at hlay
      have h6 := u_store hfc hkC hkind hlay hi (hty k hk) hnar hfit
      exact W.putK hx hb (f := f) ⟨hown, hts _ hlink, ⟨_, _, _, hi'⟩, hst⟩ (by rw [q5]; exact h6) q1 q2 hlt rfl hstk hd kk
    · rw [if_pos hfin] at hlay
      have hcf : m.cls = cf := by
        obtain ⟨_, _, c', _, _, _, -, -, hf', -, -, -, hown2, -⟩ := Cond.laysFinal_spec hlay
        have e1 : c' = cf := by have := hi.symm.trans hf'; simp at this; exact this.1.symm
        rw [hdecl] at hown2
        rw [← e1]; exact Option.some.inj (hown.symm.trans hown2)
      have h6 := u_fits hfc hkC hkind (Or.inr hlay) hi (hty k hk) hnar hfit
      exact W.putFinK hx hb hown (hts _ hlink) hi' hst hcf hin (by rw [q5]; exact h6) q1 q2 hlt rfl hstk hd kk
  · exfalso
    obtain ⟨q4, -⟩ := q3
    simp only [ht] at q4
    omega
end XH
end
section
/-! Arrays. -/
theorem xv_R.arr {w : xv_W} {cl : List vw_C} {rk : Nat → Bool} {h : xv_H} {H : Heap} {a j : Nat} (hR : xv_R w cl rk h H) (ha : a < h.1) (ht : h.2.2.1 a = 100 + j) : ∃ cell : Cell, H[w.1 + a]? = some cell ∧ cell.vm = .none ∧ cell.cls = w.2.2.2.2.1 j ∧ cell.slots.size = h.2.2.2.1 a ∧ ∀ i, i < h.2.2.2.1 a → cell.slots[i]? = some (xv_ev w h (100 + j) a i) := by
  obtain ⟨cell, q1, q2, q3 | q3⟩ := hR.2.2 a ha
  · exfalso
    obtain ⟨q4, -⟩ := q3
    omega
  · obtain ⟨q4, q5⟩ := q3
    rw [ht, Nat.add_sub_cancel_left] at q5
    subst q5
    exact ⟨_, q1, q2, rfl, arrV_size _ _ _, fun i hi => arrV_read _ _ hi⟩
theorem xv_R.arrV {w : xv_W} {cl : List vw_C} {rk : Nat → Bool} {h : xv_H} {H : Heap} {a j : Nat} {cell : Cell} (hR : xv_R w cl rk h H) (ha : a < h.1) (ht : h.2.2.1 a = 100 + j) (hc : H[w.1 + a]? = some cell) : cell = arrV (w.2.2.2.2.1 j) (h.2.2.2.1 a) (fun i => xv_ev w h (100 + j) a i) := by
  obtain ⟨cell', q1, q2, q3 | q3⟩ := hR.2.2 a ha
  · exfalso
    obtain ⟨q4, -⟩ := q3
    omega
  · obtain ⟨q4, q5⟩ := q3
    rw [ht, Nat.add_sub_cancel_left] at q5
    cases q1.symm.trans hc
    exact q5
theorem xv_R.obj {w : xv_W} {cl : List vw_C} {rk : Nat → Bool} {h : xv_H} {H : Heap} {a ci : Nat} (hR : xv_R w cl rk h H) (ha : a < h.1) (ht : h.2.2.1 a = ci) (hci : ci < 100) : ∃ cell : Cell, H[w.1 + a]? = some cell ∧ cell.vm = .none ∧ cell.cls = w.2.2.2.1.1 ci := by
  obtain ⟨cell, q1, q2, q3 | q3⟩ := hR.2.2 a ha
  · obtain ⟨q4, q5, -⟩ := q3
    rw [ht] at q5
    exact ⟨cell, q1, q2, q5⟩
  · exfalso
    obtain ⟨q4, -⟩ := q3
    omega
theorem xv_in_not {i : Int32} {k : Nat} (h0 : 0 ≤ i) (h : i.toNatClampNeg < k) : ¬ (i < 0 ∨ k ≤ i.toNatClampNeg) := fun q => by
  rcases q with q | q
  · exact Int32.not_lt.mpr h0 q
  · omega
/-- an element is stored -/
theorem xv_R.pute {w : xv_W} {cl : List vw_C} {rk : Nat → Bool} {h h' : xv_H} {a j k : Nat} {H H' : Heap} {cell : Cell} {v0 : Value} (hR : xv_R w cl rk h H) (ha : a < h.1) (ht : h.2.2.1 a = 100 + j) (hk : k < h.2.2.2.1 a)
    (hcell : H[w.1 + a]? = some cell) (hH : H'[w.1 + a]? = some (cell.setSlot k v0)) (hz : H'.size = H.size) (ho : ∀ q, q ≠ w.1 + a → H'[q]? = H[q]?) (e1 : h'.1 = h.1) (e2 : h'.2.2.1 = h.2.2.1) (e3 : h'.2.2.2.1 = h.2.2.2.1) (hf : ∀ g b, xv_fv w rk h' g b = xv_fv w rk h g b) (hv : xv_ev w h' (100 + j) a k = v0)
    (he : ∀ t b i, ¬ (b = a ∧ i = k) → xv_ev w h' t b i = xv_ev w h t b i) : xv_R w cl rk h' H' := by
  refine hR.set e1 hz ho hH ?_ fun b cb hb hne hcb => hcb.keep (by rw [e2]) (by rw [e3]) (fun g => hf g b) (fun t i => he t b i (fun z => hne z.1))
  have q5 := hR.arrV ha ht hcell
  subst q5
  refine ⟨rfl, Or.inr ⟨by rw [e2, ht]; omega, ?_⟩⟩
  rw [e2, e3, ht, Nat.add_sub_cancel_left, arrV_store]
  congr 1
  funext i
  by_cases hik : i = k
  · subst hik
    rw [hv]; simp [updV]
  · rw [he _ _ _ (fun z => hik z.2)]; simp [updV, hik]
section XA
variable {p : Program} {l : Launch} {e : Env} {R : Room} {s : State} {m : MethodId} {args : Array Value} {below : List Frame} {meth : Method} {c : Code} {Q : State → Prop} {cc : ByteArray} {w : xv_W} {cl : List vw_C} {rk : Nat → Bool} {aty : List FieldType} {WS : List Jvm.Cond} {stt : List (String × String × String)} {sx : xv_X} {sc : Nat × (Nat → Int32)} {own : String} {nL n0 z0 nE zE : Nat} {lg : List Nat} {pc : Nat} {L : xv_L} {st r : List Value} {n z : Nat} {tg ln : Nat → Nat} {fr er : Nat → Nat → Option Nat} {fi ei : Nat → Nat → Int32} {el : Nat → Nat → Int64} {x y i : Int32} {u v : Int64} {a b : Nat} {o : Option Nat}
theorem xs_iald (hC : xv_Cx p R s m args meth c cc w cl aty WS stt sx sc own nL n0 z0 nE zE) (hd : decode cc pc = .ok (.iaload, 1)) (hty : aty[0]? = some .int) (hE : n ≤ nE) (ha : a < n) (h0 : 0 ≤ i) (hi : i.toNatClampNeg < ln a) (ht : tg a = 100 + 0) (hG : xv_G p l e R s m args below meth c Q w cl rk lg nL n0 z0 (pc + 1, L, .int (ei a i.toNatClampNeg) :: st, (n, z, tg, ln, fr, er, fi, ei, el))) : xv_G p l e R s m args below meth c Q w cl rk lg nL n0 z0 (pc, L, .int i :: .ref a :: st, (n, z, tg, ln, fr, er, fi, ei, el)) := by
  intro ls H locs hl hR hS h1 h2
  obtain ⟨⟨hx, hb, hml, hown, hts⟩, ⟨hK, hA⟩, ⟨hr1, hr2, hr3, hr4⟩, -⟩ := hC
  have hal : xv_al w a = w.1 + a := xv_al_lt (by omega)
  obtain ⟨cell, q1, q2, q5, q6, q7⟩ := hR.arr ha (j := 0) ht
  refine W.iald hx hb (a := w.1 + a) q1 (xv_arr_is (hA 0 _ hty).1 q5 q2) (by rw [q2]; exact fun h => by cases h) (xv_in_not h0 (by rw [q6]; exact hi)) (q7 _ hi) rfl (rest := st.map (xv_cv (xv_al w))) (by simp only [List.map_cons, xv_cv, hal]) hd ?_
  have hg := hG ls H locs hl hR hS h1 h2
  exact hg
theorem xs_bald (hC : xv_Cx p R s m args meth c cc w cl aty WS stt sx sc own nL n0 z0 nE zE) (hd : decode cc pc = .ok (.baload, 1)) (hty : aty[1]? = some .byte) (hE : n ≤ nE) (ha : a < n) (h0 : 0 ≤ i) (hi : i.toNatClampNeg < ln a) (ht : tg a = 100 + 1) (hG : xv_G p l e R s m args below meth c Q w cl rk lg nL n0 z0 (pc + 1, L, .int (ei a i.toNatClampNeg) :: st, (n, z, tg, ln, fr, er, fi, ei, el))) : xv_G p l e R s m args below meth c Q w cl rk lg nL n0 z0 (pc, L, .int i :: .ref a :: st, (n, z, tg, ln, fr, er, fi, ei, el)) := by
  intro ls H locs hl hR hS h1 h2
  obtain ⟨⟨hx, hb, hml, hown, hts⟩, ⟨hK, hA⟩, ⟨hr1, hr2, hr3, hr4⟩, -⟩ := hC
  have hal : xv_al w a = w.1 + a := xv_al_lt (by omega)
  obtain ⟨cell, q1, q2, q5, q6, q7⟩ := hR.arr ha (j := 1) ht
  refine W.bald hx hb (a := w.1 + a) q1 (xv_arr_is (hA 1 _ hty).1 q5 q2) (by rw [q2]; exact fun h => by cases h) (xv_in_not h0 (by rw [q6]; exact hi)) (q7 _ hi) rfl (rest := st.map (xv_cv (xv_al w))) (by simp only [List.map_cons, xv_cv, hal]) hd ?_
  have hg := hG ls H locs hl hR hS h1 h2
  exact hg
theorem xs_zald (hC : xv_Cx p R s m args meth c cc w cl aty WS stt sx sc own nL n0 z0 nE zE) (hd : decode cc pc = .ok (.baload, 1)) (hty : aty[2]? = some .boolean) (hE : n ≤ nE) (ha : a < n) (h0 : 0 ≤ i) (hi : i.toNatClampNeg < ln a) (ht : tg a = 100 + 2) (hG : xv_G p l e R s m args below meth c Q w cl rk lg nL n0 z0 (pc + 1, L, .int (ei a i.toNatClampNeg) :: st, (n, z, tg, ln, fr, er, fi, ei, el))) : xv_G p l e R s m args below meth c Q w cl rk lg nL n0 z0 (pc, L, .int i :: .ref a :: st, (n, z, tg, ln, fr, er, fi, ei, el)) := by
  intro ls H locs hl hR hS h1 h2
  obtain ⟨⟨hx, hb, hml, hown, hts⟩, ⟨hK, hA⟩, ⟨hr1, hr2, hr3, hr4⟩, -⟩ := hC
  have hal : xv_al w a = w.1 + a := xv_al_lt (by omega)
  obtain ⟨cell, q1, q2, q5, q6, q7⟩ := hR.arr ha (j := 2) ht
  refine W.zald hx hb (a := w.1 + a) q1 (xv_arr_is (hA 2 _ hty).1 q5 q2) (by rw [q2]; exact fun h => by cases h) (xv_in_not h0 (by rw [q6]; exact hi)) (q7 _ hi) rfl (rest := st.map (xv_cv (xv_al w))) (by simp only [List.map_cons, xv_cv, hal]) hd ?_
  have hg := hG ls H locs hl hR hS h1 h2
  exact hg
theorem xs_lald (hC : xv_Cx p R s m args meth c cc w cl aty WS stt sx sc own nL n0 z0 nE zE) (hd : decode cc pc = .ok (.laload, 1)) (hty : aty[3]? = some .long) (hE : n ≤ nE) (ha : a < n) (h0 : 0 ≤ i) (hi : i.toNatClampNeg < ln a) (ht : tg a = 100 + 3) (hG : xv_G p l e R s m args below meth c Q w cl rk lg nL n0 z0 (pc + 1, L, .long (el a i.toNatClampNeg) :: st, (n, z, tg, ln, fr, er, fi, ei, el))) : xv_G p l e R s m args below meth c Q w cl rk lg nL n0 z0 (pc, L, .int i :: .ref a :: st, (n, z, tg, ln, fr, er, fi, ei, el)) := by
  intro ls H locs hl hR hS h1 h2
  obtain ⟨⟨hx, hb, hml, hown, hts⟩, ⟨hK, hA⟩, ⟨hr1, hr2, hr3, hr4⟩, -⟩ := hC
  have hal : xv_al w a = w.1 + a := xv_al_lt (by omega)
  obtain ⟨cell, q1, q2, q5, q6, q7⟩ := hR.arr ha (j := 3) ht
  refine W.lald hx hb (a := w.1 + a) q1 (xv_arr_is (hA 3 _ hty).1 q5 q2) (by rw [q2]; exact fun h => by cases h) (xv_in_not h0 (by rw [q6]; exact hi)) (q7 _ hi) rfl (rest := st.map (xv_cv (xv_al w))) (by simp only [List.map_cons, xv_cv, hal]) hd ?_
  have hg := hG ls H locs hl hR hS h1 h2
  exact hg
theorem xs_aald {j : Nat} {C : String} (hC : xv_Cx p R s m args meth c cc w cl aty WS stt sx sc own nL n0 z0 nE zE) (hd : decode cc pc = .ok (.aaload, 1)) (hty : aty[j]? = some (.object C)) (hj : 4 ≤ j) (hE : n ≤ nE) (ha : a < n) (h0 : 0 ≤ i) (hi : i.toNatClampNeg < ln a) (ht : tg a = 100 + j) (hG : xv_G p l e R s m args below meth c Q w cl rk lg nL n0 z0 (pc + 1, L, va_rf (er a i.toNatClampNeg) :: st, (n, z, tg, ln, fr, er, fi, ei, el))) : xv_G p l e R s m args below meth c Q w cl rk lg nL n0 z0 (pc, L, .int i :: .ref a :: st, (n, z, tg, ln, fr, er, fi, ei, el)) := by
  intro ls H locs hl hR hS h1 h2
  obtain ⟨⟨hx, hb, hml, hown, hts⟩, ⟨hK, hA⟩, ⟨hr1, hr2, hr3, hr4⟩, -⟩ := hC
  have hal : xv_al w a = w.1 + a := xv_al_lt (by omega)
  obtain ⟨cell, q1, q2, q5, q6, q7⟩ := hR.arr ha (j := j) ht
  refine W.aald hx hb (a := w.1 + a) q1 (xv_arr_is (hA j _ hty).1 q5 q2) rfl (by rw [q2]; exact fun h => by cases h) (xv_in_not h0 (by rw [q6]; exact hi)) (q7 _ hi) rfl (rest := st.map (xv_cv (xv_al w))) (by simp only [List.map_cons, xv_cv, hal]) hd ?_
  have hg := hG ls H locs hl hR hS h1 h2
  have e : xv_ev w (n, z, tg, ln, fr, er, fi, ei, el) (100 + j) a i.toNatClampNeg = xv_cv (xv_al w) (va_rf (er a i.toNatClampNeg)) := by
    unfold xv_ev
    rw [if_neg (by omega), if_pos (by omega)]
  rw [e]
  exact hg
theorem xs_iast (hC : xv_Cx p R s m args meth c cc w cl aty WS stt sx sc own nL n0 z0 nE zE) (hd : decode cc pc = .ok (.iastore, 1)) (hty : aty[0]? = some .int) (hE : n ≤ nE) (ha : a < n) (h0 : 0 ≤ i) (hi : i.toNatClampNeg < ln a) (ht : tg a = 100 + 0) (hG : xv_G p l e R s m args below meth c Q w cl rk lg nL n0 z0 (pc + 1, L, st, (n, z, tg, ln, fr, er, fi, xv_up ei a i.toNatClampNeg x, el))) : xv_G p l e R s m args below meth c Q w cl rk lg nL n0 z0 (pc, L, .int x :: .int i :: .ref a :: st, (n, z, tg, ln, fr, er, fi, ei, el)) := by
  intro ls H locs hl hR hS h1 h2
  obtain ⟨⟨hx, hb, hml, hown, hts⟩, ⟨hK, hA⟩, ⟨hr1, hr2, hr3, hr4⟩, -⟩ := hC
  have hal : xv_al w a = w.1 + a := xv_al_lt (by omega)
  obtain ⟨cell, q1, q2, q5, q6, q7⟩ := hR.arr ha (j := 0) ht
  refine W.iast (x := x) hx hb (a := w.1 + a) q1 (xv_arr_is (hA 0 _ hty).1 q5 q2) (by rw [q2]; exact fun h => by cases h) (xv_in_not h0 (by rw [q6]; exact hi)) rfl (rest := st.map (xv_cv (xv_al w))) (by simp only [List.map_cons, xv_cv, hal]) hd fun H' g1 g2 g3 => ?_
  refine hG ls H' _ hl (hR.pute (h' := (n, z, tg, ln, fr, er, fi, xv_up ei a i.toNatClampNeg x, el)) ha ht hi q1 g1 g2 g3 rfl rfl rfl (fun g b => rfl) (by simp [xv_ev, xv_up_eq]) ?_) (hS.put g2 g3 (Nat.le_add_right _ _)) h1 h2
  intro t b k hne
  simp only [xv_ev, xv_up_ne hne]
theorem xs_bast (hC : xv_Cx p R s m args meth c cc w cl aty WS stt sx sc own nL n0 z0 nE zE) (hd : decode cc pc = .ok (.bastore, 1)) (hty : aty[1]? = some .byte) (hE : n ≤ nE) (ha : a < n) (h0 : 0 ≤ i) (hi : i.toNatClampNeg < ln a) (ht : tg a = 100 + 1) (hG : xv_G p l e R s m args below meth c Q w cl rk lg nL n0 z0 (pc + 1, L, st, (n, z, tg, ln, fr, er, fi, xv_up ei a i.toNatClampNeg x.toInt8.toInt32, el))) : xv_G p l e R s m args below meth c Q w cl rk lg nL n0 z0 (pc, L, .int x :: .int i :: .ref a :: st, (n, z, tg, ln, fr, er, fi, ei, el)) := by
  intro ls H locs hl hR hS h1 h2
  obtain ⟨⟨hx, hb, hml, hown, hts⟩, ⟨hK, hA⟩, ⟨hr1, hr2, hr3, hr4⟩, -⟩ := hC
  have hal : xv_al w a = w.1 + a := xv_al_lt (by omega)
  obtain ⟨cell, q1, q2, q5, q6, q7⟩ := hR.arr ha (j := 1) ht
  refine W.bast (x := x) hx hb (a := w.1 + a) q1 (xv_arr_is (hA 1 _ hty).1 q5 q2) (by rw [q2]; exact fun h => by cases h) (xv_in_not h0 (by rw [q6]; exact hi)) rfl (rest := st.map (xv_cv (xv_al w))) (by simp only [List.map_cons, xv_cv, hal]) hd fun H' g1 g2 g3 => ?_
  refine hG ls H' _ hl (hR.pute (h' := (n, z, tg, ln, fr, er, fi, xv_up ei a i.toNatClampNeg x.toInt8.toInt32, el)) ha ht hi q1 g1 g2 g3 rfl rfl rfl (fun g b => rfl) (by simp [xv_ev, xv_up_eq, narrow]) ?_) (hS.put g2 g3 (Nat.le_add_right _ _)) h1 h2
  intro t b k hne
  simp only [xv_ev, xv_up_ne hne]
theorem xs_zast (hC : xv_Cx p R s m args meth c cc w cl aty WS stt sx sc own nL n0 z0 nE zE) (hd : decode cc pc = .ok (.bastore, 1)) (hty : aty[2]? = some .boolean) (hE : n ≤ nE) (ha : a < n) (h0 : 0 ≤ i) (hi : i.toNatClampNeg < ln a) (ht : tg a = 100 + 2) (hx0 : x = 0 ∨ x = 1) (hG : xv_G p l e R s m args below meth c Q w cl rk lg nL n0 z0 (pc + 1, L, st, (n, z, tg, ln, fr, er, fi, xv_up ei a i.toNatClampNeg x, el))) : xv_G p l e R s m args below meth c Q w cl rk lg nL n0 z0 (pc, L, .int x :: .int i :: .ref a :: st, (n, z, tg, ln, fr, er, fi, ei, el)) := by
  intro ls H locs hl hR hS h1 h2
  obtain ⟨⟨hx, hb, hml, hown, hts⟩, ⟨hK, hA⟩, ⟨hr1, hr2, hr3, hr4⟩, -⟩ := hC
  have hal : xv_al w a = w.1 + a := xv_al_lt (by omega)
  obtain ⟨cell, q1, q2, q5, q6, q7⟩ := hR.arr ha (j := 2) ht
  refine W.zast (x := x) hx hb (a := w.1 + a) q1 (xv_arr_is (hA 2 _ hty).1 q5 q2) (by rw [q2]; exact fun h => by cases h) (xv_in_not h0 (by rw [q6]; exact hi)) rfl (rest := st.map (xv_cv (xv_al w))) (by simp only [List.map_cons, xv_cv, hal]) hd fun H' g1 g2 g3 => ?_
  refine hG ls H' _ hl (hR.pute (h' := (n, z, tg, ln, fr, er, fi, xv_up ei a i.toNatClampNeg x, el)) ha ht hi q1 g1 g2 g3 rfl rfl rfl (fun g b => rfl) (by rcases hx0 with rfl | rfl <;> simp [xv_ev, xv_up_eq, narrow] <;> decide) ?_) (hS.put g2 g3 (Nat.le_add_right _ _)) h1 h2
  intro t b k hne
  simp only [xv_ev, xv_up_ne hne]
theorem xs_last (hC : xv_Cx p R s m args meth c cc w cl aty WS stt sx sc own nL n0 z0 nE zE) (hd : decode cc pc = .ok (.lastore, 1)) (hty : aty[3]? = some .long) (hE : n ≤ nE) (ha : a < n) (h0 : 0 ≤ i) (hi : i.toNatClampNeg < ln a) (ht : tg a = 100 + 3) (hG : xv_G p l e R s m args below meth c Q w cl rk lg nL n0 z0 (pc + 1, L, st, (n, z, tg, ln, fr, er, fi, ei, xv_up el a i.toNatClampNeg u))) : xv_G p l e R s m args below meth c Q w cl rk lg nL n0 z0 (pc, L, .long u :: .int i :: .ref a :: st, (n, z, tg, ln, fr, er, fi, ei, el)) := by
  intro ls H locs hl hR hS h1 h2
  obtain ⟨⟨hx, hb, hml, hown, hts⟩, ⟨hK, hA⟩, ⟨hr1, hr2, hr3, hr4⟩, -⟩ := hC
  have hal : xv_al w a = w.1 + a := xv_al_lt (by omega)
  obtain ⟨cell, q1, q2, q5, q6, q7⟩ := hR.arr ha (j := 3) ht
  refine W.last (x := u) hx hb (a := w.1 + a) q1 (xv_arr_is (hA 3 _ hty).1 q5 q2) (by rw [q2]; exact fun h => by cases h) (xv_in_not h0 (by rw [q6]; exact hi)) rfl (rest := st.map (xv_cv (xv_al w))) (by simp only [List.map_cons, xv_cv, hal]) hd fun H' g1 g2 g3 => ?_
  refine hG ls H' _ hl (hR.pute (h' := (n, z, tg, ln, fr, er, fi, ei, xv_up el a i.toNatClampNeg u)) ha ht hi q1 g1 g2 g3 rfl rfl rfl (fun g b => rfl) (by simp [xv_ev, xv_up_eq]) ?_) (hS.put g2 g3 (Nat.le_add_right _ _)) h1 h2
  intro t b k hne
  simp only [xv_ev, xv_up_ne hne]
theorem xs_aastN {j : Nat} {C : String} (hC : xv_Cx p R s m args meth c cc w cl aty WS stt sx sc own nL n0 z0 nE zE) (hd : decode cc pc = .ok (.aastore, 1)) (hty : aty[j]? = some (.object C)) (hj : 4 ≤ j) (hE : n ≤ nE) (ha : a < n) (h0 : 0 ≤ i) (hi : i.toNatClampNeg < ln a) (ht : tg a = 100 + j) (hG : xv_G p l e R s m args below meth c Q w cl rk lg nL n0 z0 (pc + 1, L, st, (n, z, tg, ln, fr, xv_up er a i.toNatClampNeg none, fi, ei, el))) : xv_G p l e R s m args below meth c Q w cl rk lg nL n0 z0 (pc, L, .null :: .int i :: .ref a :: st, (n, z, tg, ln, fr, er, fi, ei, el)) := by
  intro ls H locs hl hR hS h1 h2
  obtain ⟨⟨hx, hb, hml, hown, hts⟩, ⟨hK, hA⟩, ⟨hr1, hr2, hr3, hr4⟩, -⟩ := hC
  have hal : xv_al w a = w.1 + a := xv_al_lt (by omega)
  obtain ⟨cell, q1, q2, q5, q6, q7⟩ := hR.arr ha (j := j) ht
  refine va_WaastN (C := C) hx hb (a := w.1 + a) q1 (xv_arr_is (hA j _ hty).1 q5 q2) (by rw [q2]; exact fun h => by cases h) (xv_in_not h0 (by rw [q6]; exact hi)) rfl (rest := st.map (xv_cv (xv_al w))) (by simp only [List.map_cons, xv_cv, hal]) hd fun H' g1 g2 g3 => ?_
  refine hG ls H' _ hl (hR.pute (h' := (n, z, tg, ln, fr, xv_up er a i.toNatClampNeg none, fi, ei, el)) ha ht hi q1 g1 g2 g3 rfl rfl rfl (fun g b => rfl) (by unfold xv_ev; rw [if_neg (by omega), if_pos (by omega)]; simp only [xv_up_eq]; rfl) ?_) (hS.put g2 g3 (Nat.le_add_right _ _)) h1 h2
  intro t b k hne
  simp only [xv_ev, xv_up_ne hne]
theorem xs_aast {j cj : Nat} {C : String} {q : vw_C} (hC : xv_Cx p R s m args meth c cc w cl aty WS stt sx sc own nL n0 z0 nE zE) (hd : decode cc pc = .ok (.aastore, 1)) (hty : aty[j]? = some (.object C)) (hj : 4 ≤ j) (hq : cl[cj]? = some q) (hcj : cj < 100) (hca : C = q.1 ∨ (q.1, C) ∈ sx.1) (hE : n ≤ nE) (ha : a < n) (h0 : 0 ≤ i) (hi : i.toNatClampNeg < ln a) (ht : tg a = 100 + j) (hb0 : b < n) (htb : tg b = cj) (hG : xv_G p l e R s m args below meth c Q w cl rk lg nL n0 z0 (pc + 1, L, st, (n, z, tg, ln, fr, xv_up er a i.toNatClampNeg (some b), fi, ei, el))) : xv_G p l e R s m args below meth c Q w cl rk lg nL n0 z0 (pc, L, .ref b :: .int i :: .ref a :: st, (n, z, tg, ln, fr, er, fi, ei, el)) := by
  intro ls H locs hl hR hS h1 h2
  obtain ⟨⟨hx, hb, hml, hown, hts⟩, ⟨hK, hA⟩, ⟨hr1, hr2, hr3, hr4⟩, -, hXE, -⟩ := hC
  have hal : xv_al w a = w.1 + a := xv_al_lt (by omega)
  obtain ⟨cell, q1, q2, q5, q6, q7⟩ := hR.arr ha (j := j) ht
  have hbl : xv_al w b = w.1 + b := xv_al_lt (by omega)
  obtain ⟨cellV, g1, g2, g3⟩ := hR.obj hb0 htb hcj
  have hcls := (hK.1 cj q hq).2
  obtain ⟨kA, comp, k1, k2, k3, -⟩ := (hA j _ hty).2
  obtain ⟨kE, hkE, -⟩ := Vm.findClass_spec k3
  obtain ⟨kC, hkC, -⟩ := hcls.2
  have hasg : s.vm.assignable (w.2.2.2.1.1 cj) comp = true := by
    rcases hca with hca | hca
    · subst hca
      cases k3.symm.trans hcls.1
      exact va_assign hcls
    · obtain ⟨c0, t1, f1, f2, f3⟩ := Cond.castable_spec (va_Nw.use (A := args) rfl (hXE.1 _ hca))
      cases hcls.1.symm.trans f1
      cases k3.symm.trans f2
      exact f3
  refine W.aast hx hb (a := w.1 + a) (v := w.1 + b) q1 (fun q h => by rw [q2] at h; cases h) (fun h => by rw [q2] at h; cases h) (by rw [q5]; exact k1) k2 rfl hkE ⟨Int32.not_lt.mpr h0, by rw [q6]; exact hi⟩ g1 (fun q h => by rw [g2] at h; cases h) (by rw [g3]; exact hkC) (by rw [g3]; exact hasg) rfl (rest := st.map (xv_cv (xv_al w))) (by simp only [List.map_cons, xv_cv, hal, hbl]) hd fun H' g1 g2 g3 => ?_
  refine hG ls H' _ hl (hR.pute (h' := (n, z, tg, ln, fr, xv_up er a i.toNatClampNeg (some b), fi, ei, el)) ha ht hi q1 g1 g2 g3 rfl rfl rfl (fun g b => rfl) (by unfold xv_ev; rw [if_neg (by omega), if_pos (by omega)]; simp only [xv_up_eq, va_rf, xv_cv, hbl]) ?_) (hS.put g2 g3 (Nat.le_add_right _ _)) h1 h2
  intro t b k hne
  simp only [xv_ev, xv_up_ne hne]
theorem xs_alen {j : Nat} {ty : FieldType} (hC : xv_Cx p R s m args meth c cc w cl aty WS stt sx sc own nL n0 z0 nE zE) (hd : decode cc pc = .ok (.arraylength, 1)) (hty : aty[j]? = some ty) (hE : n ≤ nE) (ha : a < n) (ht : tg a = 100 + j) (hG : xv_G p l e R s m args below meth c Q w cl rk lg nL n0 z0 (pc + 1, L, .int (Int32.ofNat (ln a)) :: st, (n, z, tg, ln, fr, er, fi, ei, el))) : xv_G p l e R s m args below meth c Q w cl rk lg nL n0 z0 (pc, L, .ref a :: st, (n, z, tg, ln, fr, er, fi, ei, el)) := by
  intro ls H locs hl hR hS h1 h2
  obtain ⟨⟨hx, hb, hml, hown, hts⟩, ⟨hK, hA⟩, ⟨hr1, hr2, hr3, hr4⟩, -⟩ := hC
  have hal : xv_al w a = w.1 + a := xv_al_lt (by omega)
  obtain ⟨cell, q1, q2, q5, q6, q7⟩ := hR.arr ha (j := j) ht
  refine W.alen (n := Int32.ofNat (ln a)) hx hb (a := w.1 + a) q1 (xv_arr_is (hA j _ hty).1 q5 q2) (by rw [q6]) rfl (rest := st.map (xv_cv (xv_al w))) (by simp only [List.map_cons, xv_cv, hal]) hd ?_
  exact hG ls H locs hl hR hS h1 h2
/-- the script -/
theorem xs_sald {h : xv_H} (hC : xv_Cx p R s m args meth c cc w cl aty WS stt sx sc own nL n0 z0 nE zE) (hd : decode cc pc = .ok (.iaload, 1)) (h0 : 0 ≤ i) (hi : i.toNatClampNeg < sc.1) (hG : xv_G p l e R s m args below meth c Q w cl rk lg nL n0 z0 (pc + 1, L, .int (sc.2 i.toNatClampNeg) :: st, h)) : xv_G p l e R s m args below meth c Q w cl rk lg nL n0 z0 (pc, L, .int i :: .ref xv_SB :: st, h) := by
  intro ls H locs hl hR hS h1 h2
  obtain ⟨⟨hx, hb, hml, hown, hts⟩, -, ⟨-, -, -, hr4⟩, ⟨hX, hX1, hX2, -⟩, -, -⟩ := hC
  have hal : xv_al w xv_SB = w.2.2.1 0 := xv_al_st (k := 0) (by omega)
  have := va_sld (A := fun a => w.1 ≤ a) (rest := st.map (xv_cv (xv_al w))) hx hb hX (by omega) (by omega) hS (xv_in_not h0 hi) hd (hG ls H locs hl hR hS h1 h2)
  simp only [List.map_cons, xv_cv, hal]
  exact this
theorem xs_slen {h : xv_H} (hC : xv_Cx p R s m args meth c cc w cl aty WS stt sx sc own nL n0 z0 nE zE) (hd : decode cc pc = .ok (.arraylength, 1)) (hG : xv_G p l e R s m args below meth c Q w cl rk lg nL n0 z0 (pc + 1, L, .int (Int32.ofNat sc.1) :: st, h)) : xv_G p l e R s m args below meth c Q w cl rk lg nL n0 z0 (pc, L, .ref xv_SB :: st, h) := by
  intro ls H locs hl hR hS h1 h2
  obtain ⟨⟨hx, hb, hml, hown, hts⟩, -, ⟨-, -, -, hr4⟩, ⟨hX, hX1, hX2, -⟩, -, -⟩ := hC
  have hal : xv_al w xv_SB = w.2.2.1 0 := xv_al_st (k := 0) (by omega)
  have := va_slen (A := fun a => w.1 ≤ a) (rest := st.map (xv_cv (xv_al w))) hx hb hX (by omega) (by omega) hS hd (hG ls H locs hl hR hS h1 h2)
  simp only [List.map_cons, xv_cv, hal]
  exact this
/-- the row of no elements that every list begins with -/
theorem xs_elen {h : xv_H} (hC : xv_Cx p R s m args meth c cc w cl aty WS stt sx sc own nL n0 z0 nE zE) (hd : decode cc pc = .ok (.arraylength, 1)) (hG : xv_G p l e R s m args below meth c Q w cl rk lg nL n0 z0 (pc + 1, L, .int 0 :: st, h)) : xv_G p l e R s m args below meth c Q w cl rk lg nL n0 z0 (pc, L, .ref (xv_SB + 2) :: st, h) := by
  intro ls H locs hl hR hS h1 h2
  obtain ⟨⟨hx, hb, hml, hown, hts⟩, -, -, ⟨-, -, hX2, fv, hT⟩, -, -⟩ := hC
  have hal : xv_al w (xv_SB + 2) = w.2.2.1 2 := xv_al_st hX2
  have := va_tlen (v := 0) (rest := st.map (xv_cv (xv_al w))) hx hb hT hS rfl hd (hG ls H locs hl hR hS h1 h2)
  simp only [List.map_cons, xv_cv, hal]
  exact this
/-- a constant that was there before -/
theorem xs_gets {h : xv_H} {k idx : Nat} {q : String × String × String} {ref : String} (hC : xv_Cx p R s m args meth c cc w cl aty WS stt sx sc own nL n0 z0 nE zE) (hd : decode cc pc = .ok (.getstatic idx, 3)) (hq : stt[k]? = some q) (hlink : Jvm.Cond.fieldLink own idx ref q.2.1 q.2.2 ∈ WS) (hsame : ref = q.1 ∨ Jvm.Cond.sameField ref q.1 q.2.1 q.2.2 ∈ WS) (hG : xv_G p l e R s m args below meth c Q w cl rk lg nL n0 z0 (pc + 3, L, .ref (xv_SB + (k + 2)) :: st, h)) : xv_G p l e R s m args below meth c Q w cl rk lg nL n0 z0 (pc, L, st, h) := by
  intro ls H locs hl hR hS h1 h2
  obtain ⟨⟨hx, hb, hml, hown, hts⟩, -, -, -, -, hZ⟩ := hC
  obtain ⟨hk, hZ⟩ := hZ k q hq
  have hal : xv_al w (xv_SB + (k + 2)) = w.2.2.1 (k + 2) := xv_al_st hk
  have hg := hG ls H locs hl hR hS h1 h2
  simp only [List.map_cons, xv_cv, hal] at hg
  refine va_gets (C := q.1) (ref := ref) hx hb hZ hS hown (hts _ hlink) ?_ hd hg
  intro x hx
  rcases hsame with h | h
  · rw [h]; exact hx
  · exact u_same (hts _ h) _ hx
theorem xs_castN {h : xv_H} {idx : Nat} (hC : xv_Cx p R s m args meth c cc w cl aty WS stt sx sc own nL n0 z0 nE zE) (hd : decode cc pc = .ok (.checkcast idx, 3)) (hG : xv_G p l e R s m args below meth c Q w cl rk lg nL n0 z0 (pc + 3, L, .null :: st, h)) : xv_G p l e R s m args below meth c Q w cl rk lg nL n0 z0 (pc, L, .null :: st, h) :=
  fun ls H locs hl hR hS h1 h2 => lv_castN hC.1.1 hC.1.2.1 hd (hG ls H locs hl hR hS h1 h2)
theorem xs_cast {ci idx : Nat} {q : vw_C} (hC : xv_Cx p R s m args meth c cc w cl aty WS stt sx sc own nL n0 z0 nE zE) (hd : decode cc pc = .ok (.checkcast idx, 3)) (hq : cl[ci]? = some q) (hci : ci < 100) (hlink : Jvm.Cond.classLink own idx q.1 ∈ WS) (hE : n ≤ nE) (ha : a < n) (ht : tg a = ci) (hG : xv_G p l e R s m args below meth c Q w cl rk lg nL n0 z0 (pc + 3, L, .ref a :: st, (n, z, tg, ln, fr, er, fi, ei, el))) : xv_G p l e R s m args below meth c Q w cl rk lg nL n0 z0 (pc, L, .ref a :: st, (n, z, tg, ln, fr, er, fi, ei, el)) := by
  intro ls H locs hl hR hS h1 h2
  obtain ⟨⟨hx, hb, hml, hown, hts⟩, ⟨hK, hA⟩, ⟨hr1, hr2, hr3, hr4⟩, -⟩ := hC
  obtain ⟨cell, g1, g2, g3⟩ := hR.obj ha ht hci
  have hal : xv_al w a = w.1 + a := xv_al_lt (by omega)
  have hcls := (hK.1 ci q hq).2
  have hg := hG ls H locs hl hR hS h1 h2
  simp only [List.map_cons, xv_cv, hal] at hg ⊢
  exact va_castS hx hb hown (hts _ hlink) hcls ⟨cell, g1, by rw [g2]; rfl, by rw [g3]; exact hcls.1⟩ hd hg
theorem xs_castA {j idx : Nat} {ty : FieldType} {nm : String} (hC : xv_Cx p R s m args meth c cc w cl aty WS stt sx sc own nL n0 z0 nE zE) (hd : decode cc pc = .ok (.checkcast idx, 3)) (hty : aty[j]? = some ty) (hlink : Jvm.Cond.classLink own idx nm ∈ WS) (hnm : s.vm.findClass nm = some (w.2.2.2.2.1 j)) (hE : n ≤ nE) (ha : a < n) (ht : tg a = 100 + j) (hG : xv_G p l e R s m args below meth c Q w cl rk lg nL n0 z0 (pc + 3, L, .ref a :: st, (n, z, tg, ln, fr, er, fi, ei, el))) : xv_G p l e R s m args below meth c Q w cl rk lg nL n0 z0 (pc, L, .ref a :: st, (n, z, tg, ln, fr, er, fi, ei, el)) := by
  intro ls H locs hl hR hS h1 h2
  obtain ⟨⟨hx, hb, hml, hown, hts⟩, ⟨hK, hA⟩, ⟨hr1, hr2, hr3, hr4⟩, -⟩ := hC
  have hal : xv_al w a = w.1 + a := xv_al_lt (by omega)
  obtain ⟨cell, q1, q2, q5, q6, q7⟩ := hR.arr ha (j := j) ht
  have hg := hG ls H locs hl hR hS h1 h2
  simp only [List.map_cons, xv_cv, hal] at hg ⊢
  exact va_castE hx hb hown (hts _ hlink) ⟨cell, q1, by rw [q2]; rfl, by rw [q5]; exact hnm⟩ hd hg
end XA
end
section
/-! New cells, copies. -/
theorem xv_new_keep {w : xv_W} {cl : List vw_C} {rk : Nat → Bool} {n z t m k : Nat} {tg ln : Nat → Nat} {fr er : Nat → Nat → Option Nat} {fi ei : Nat → Nat → Int32} {el : Nat → Nat → Int64} {b : Nat} {cb : Cell} (hb : b < n) (hc : xv_at w cl rk (n, z, tg, ln, fr, er, fi, ei, el) b cb) : xv_at w cl rk (xv_new (n, z, tg, ln, fr, er, fi, ei, el) t m k) b cb := by
  have hne : ¬ b = n := by omega
  refine hc.keep ?_ ?_ (fun f => ?_) (fun t i => ?_)
  · simp only [xv_new, xv_u1, if_neg hne]
  · simp only [xv_new, xv_u1, if_neg hne]
  · simp only [xv_fv, xv_new, xv_freshF, if_neg hne]
  · simp only [xv_ev, xv_new, xv_fresh, if_neg hne]
section XN
variable {p : Program} {l : Launch} {e : Env} {R : Room} {s : State} {m : MethodId} {args : Array Value} {below : List Frame} {meth : Method} {c : Code} {Q : State → Prop} {cc : ByteArray} {w : xv_W} {cl : List vw_C} {rk : Nat → Bool} {aty : List FieldType} {WS : List Jvm.Cond} {stt : List (String × String × String)} {sx : xv_X} {sc : Nat × (Nat → Int32)} {own : String} {nL n0 z0 nE zE : Nat} {lg : List Nat} {pc : Nat} {L : xv_L} {st r : List Value} {n z : Nat} {tg ln : Nat → Nat} {fr er : Nat → Nat → Option Nat} {fi ei : Nat → Nat → Int32} {el : Nat → Nat → Int64} {x y i : Int32} {u v : Int64} {a b : Nat}
theorem xs_new {ci idx : Nat} {q : vw_C} {ty0 : Nat → FieldType} (hC : xv_Cx p R s m args meth c cc w cl aty WS stt sx sc own nL n0 z0 nE zE) (hd : decode cc pc = .ok (.new idx, 3)) (hq : cl[ci]? = some q) (hci : ci < 100) (hws : ∀ x ∈ u_ws q.1 q.2.1 q.2.2, x ∈ WS) (hlink : Jvm.Cond.classLink own idx q.1 ∈ WS) (hins : Jvm.Cond.instantiable q.1 q.2.2 ∈ WS) (hini : Jvm.Cond.initialized q.1 ∈ WS)
    (hty : ∀ k, k < q.2.2 → parseFieldDescriptor (q.2.1 k).2.2.1 = some (ty0 k)) (hdf : ∀ k, k < q.2.2 → defaultValue (ty0 k) = if rk (100 * ci + k) = true then .null else .int 0) (hE : n + 1 ≤ nE) (hZ : z + q.2.2 ≤ zE)
    (hG : xv_G p l e R s m args below meth c Q w cl rk lg nL n0 z0 (pc + 3, L, .ref n :: st, xv_new (n, z, tg, ln, fr, er, fi, ei, el) ci 0 q.2.2)) : xv_G p l e R s m args below meth c Q w cl rk lg nL n0 z0 (pc, L, st, (n, z, tg, ln, fr, er, fi, ei, el)) := by
  intro ls H locs hl hR hS h1 h2
  obtain ⟨⟨hx, hb, hml, hown, hts⟩, ⟨hK, hA⟩, ⟨hr1, hr2, hr3, hr4⟩, -⟩ := hC
  simp only at h1 h2
  have hKn := hK.1 ci _ hq
  show W p l e R s m args below meth c H locs (n - n0) (z - z0) Q (F0 m pc ls (st.map (xv_cv (xv_al w))))
  refine W.newcK hx hb hown (hts _ hlink) (hts _ hins) (hts _ hini) rfl hd (by omega) (by omega) hKn.2.1 rfl fun H1 kC hkC g1 g2 g3 => ?_
  obtain ⟨cell, c1, c2, c3, c4⟩ := u_born ty0 hts hws hKn hkC g1 hty
  have hat : xv_at w cl rk (xv_new (n, z, tg, ln, fr, er, fi, ei, el) ci 0 q.2.2) n cell := by
    have et : (xv_new (n, z, tg, ln, fr, er, fi, ei, el) ci 0 q.2.2).2.2.1 n = ci := by simp [xv_new, xv_u1]
    refine ⟨c3, Or.inl ⟨by rw [et]; exact hci, by rw [et]; exact c2, q, by rw [et]; exact hq, fun k hk => ?_⟩⟩
    rw [et, c4 k hk]
    show some (defaultValue (ty0 k)) = _
    rw [hdf k hk]
    simp only [xv_fv, xv_new, xv_freshF, if_true]
    split <;> rfl
  have hR' := hR.push (h' := xv_new (n, z, tg, ln, fr, er, fi, ei, el) ci 0 q.2.2) rfl g2 g3 c1 hat (fun b cb hb hcb => xv_new_keep hb hcb)
  have hg := hG ls H1 locs hl hR' (xv_S.push hS g2 g3) (by simp only [xv_new]; omega) (by simp only [xv_new]; omega)
  have hal : xv_al w n = H.size := by rw [xv_al_lt (by omega)]; exact hR.1.symm
  simp only [xv_new, List.map_cons, xv_cv, hal] at hg
  rw [show n + 1 - n0 = n - n0 + 1 by omega, show z + q.2.2 - z0 = z - z0 + q.2.2 by omega] at hg
  exact hg
theorem xv_new_arr {j k : Nat} {cell : Cell} {v0 : Value} (h1 : cell = { cls := w.2.2.2.2.1 j, slots := Array.replicate k v0, vm := .none }) (hv : ∀ b i, xv_ev w (xv_new (n, z, tg, ln, fr, er, fi, ei, el) (100 + j) k k) (100 + j) n i = v0 ∨ b = b + 1) : xv_at w cl rk (xv_new (n, z, tg, ln, fr, er, fi, ei, el) (100 + j) k k) n cell := by
  have et : (xv_new (n, z, tg, ln, fr, er, fi, ei, el) (100 + j) k k).2.2.1 n = 100 + j := by simp [xv_new, xv_u1]
  have el' : (xv_new (n, z, tg, ln, fr, er, fi, ei, el) (100 + j) k k).2.2.2.1 n = k := by simp [xv_new, xv_u1]
  refine ⟨by rw [h1], Or.inr ⟨by rw [et]; omega, ?_⟩⟩
  rw [et, el', Nat.add_sub_cancel_left, h1, arrV_new]
  congr 1
  funext i
  rcases hv 0 i with h | h
  · exact h.symm
  · omega
theorem xs_newa {j : Nat} {atype : ClassFile.ArrayType} (hC : xv_Cx p R s m args meth c cc w cl aty WS stt sx sc own nL n0 z0 nE zE) (hd : decode cc pc = .ok (.newarray atype, 2)) (hty : aty[j]? = some (newarray.typeOf atype)) (hword : Jvm.Cond.arrayClass (newarray.typeOf atype) ∈ WS) (hj : (j = 3 ∧ newarray.typeOf atype = .long) ∨ (j < 3 ∧ defaultValue (newarray.typeOf atype) = .int 0 ∧ componentBytes (newarray.typeOf atype) ≤ 4)) (h0 : 0 ≤ x) (hx0 : x.toNatClampNeg ≤ 60000000) (hE : n + 1 ≤ nE) (hZ : z + x.toNatClampNeg ≤ zE)
    (hG : xv_G p l e R s m args below meth c Q w cl rk lg nL n0 z0 (pc + 2, L, .ref n :: st, xv_new (n, z, tg, ln, fr, er, fi, ei, el) (100 + j) x.toNatClampNeg x.toNatClampNeg)) : xv_G p l e R s m args below meth c Q w cl rk lg nL n0 z0 (pc, L, .int x :: st, (n, z, tg, ln, fr, er, fi, ei, el)) := by
  intro ls H locs hl hR hS h1 h2
  obtain ⟨⟨hx, hb, hml, hown, hts⟩, ⟨hK, hA⟩, ⟨hr1, hr2, hr3, hr4⟩, -⟩ := hC
  simp only at h1 h2
  have hbytes : x.toNatClampNeg * componentBytes (newarray.typeOf atype) ≤ 536870912 := by
    rcases hj with ⟨-, q⟩ | ⟨-, -, q⟩
    · rw [q]
      show x.toNatClampNeg * 8 ≤ _
      omega
    · have := Nat.mul_le_mul hx0 q
      omega
  show W p l e R s m args below meth c H locs (n - n0) (z - z0) Q (F0 m pc ls (.int x :: st.map (xv_cv (xv_al w))))
  refine W.newa (rest := st.map (xv_cv (xv_al w))) hx hb (hts _ hword) rfl hd rfl (Int32.not_lt.mpr h0) hbytes (by omega) (by omega) fun cA kA comp f1 f2 f3 => ?_
  have hcA : cA = w.2.2.2.2.1 j := by
    have h3 : s.vm.findClass ("[" ++ (newarray.typeOf atype).toString) = some (w.2.2.2.2.1 j) := by
      have := (hA j _ hty).2
      cases atype <;> exact this
    exact Option.some.inj (f1.symm.trans h3)
  have hat : xv_at w cl rk (xv_new (n, z, tg, ln, fr, er, fi, ei, el) (100 + j) x.toNatClampNeg x.toNatClampNeg) n { cls := cA, slots := Array.replicate x.toNatClampNeg (defaultValue (newarray.typeOf atype)), vm := .none } := by
    refine xv_new_arr (by rw [hcA]) fun _ i => Or.inl ?_
    rcases hj with ⟨q1, q2⟩ | ⟨q1, q2, -⟩
    · subst q1
      rw [q2]
      simp [xv_ev, xv_new, xv_fresh, defaultValue]
    · rw [q2]
      unfold xv_ev
      rw [if_neg (by omega), if_neg (by omega)]
      simp [xv_new, xv_fresh]
  have hR' := hR.push (h' := xv_new (n, z, tg, ln, fr, er, fi, ei, el) (100 + j) x.toNatClampNeg x.toNatClampNeg) (H' := H.push { cls := cA, slots := Array.replicate x.toNatClampNeg (defaultValue (newarray.typeOf atype)), vm := .none }) rfl (by simp) (fun q hq => by rw [Array.getElem?_push, if_neg (Nat.ne_of_lt hq)]) (by simp) hat (fun b cb hb hcb => xv_new_keep hb hcb)
  have hg := hG ls _ locs hl hR' (xv_S.push hS (by simp) (fun q hq => by rw [Array.getElem?_push, if_neg (Nat.ne_of_lt hq)])) (by simp only [xv_new]; omega) (by simp only [xv_new]; omega)
  have hal : xv_al w n = H.size := by rw [xv_al_lt (by omega)]; exact hR.1.symm
  simp only [xv_new, List.map_cons, xv_cv, hal] at hg
  rw [show n + 1 - n0 = n - n0 + 1 by omega, show z + x.toNatClampNeg - z0 = z - z0 + x.toNatClampNeg by omega] at hg
  exact hg
theorem xs_anew {j idx : Nat} {C : String} (hC : xv_Cx p R s m args meth c cc w cl aty WS stt sx sc own nL n0 z0 nE zE) (hd : decode cc pc = .ok (.anewarray idx, 3)) (hty : aty[j]? = some (.object C)) (hj : 4 ≤ j) (hlink : Jvm.Cond.classLink own idx C ∈ WS) (hover : C ∈ sx.2.1) (h0 : 0 ≤ x) (hx0 : x.toNatClampNeg ≤ 60000000) (hE : n + 1 ≤ nE) (hZ : z + x.toNatClampNeg ≤ zE)
    (hG : xv_G p l e R s m args below meth c Q w cl rk lg nL n0 z0 (pc + 3, L, .ref n :: st, xv_new (n, z, tg, ln, fr, er, fi, ei, el) (100 + j) x.toNatClampNeg x.toNatClampNeg)) : xv_G p l e R s m args below meth c Q w cl rk lg nL n0 z0 (pc, L, .int x :: st, (n, z, tg, ln, fr, er, fi, ei, el)) := by
  intro ls H locs hl hR hS h1 h2
  obtain ⟨⟨hx, hb, hml, hown, hts⟩, ⟨hK, hA⟩, ⟨hr1, hr2, hr3, hr4⟩, -, hXE, -⟩ := hC
  simp only at h1 h2
  show W p l e R s m args below meth c H locs (n - n0) (z - z0) Q (F0 m pc ls (.int x :: st.map (xv_cv (xv_al w))))
  refine W.anew (rest := st.map (xv_cv (xv_al w))) hx hb hown (hts _ hlink) (va_AO.use (hXE.2.1 _ hover)) rfl hd rfl (Int32.not_lt.mpr h0) (by omega) (by omega) (by omega) fun cA kA comp f1 f2 f3 f4 => ?_
  have hcA : cA = w.2.2.2.2.1 j := by
    obtain ⟨_, _, -, -, -, h3⟩ := (hA j _ hty).2
    exact Option.some.inj (f1.symm.trans h3)
  have hat : xv_at w cl rk (xv_new (n, z, tg, ln, fr, er, fi, ei, el) (100 + j) x.toNatClampNeg x.toNatClampNeg) n { cls := cA, slots := Array.replicate x.toNatClampNeg .null, vm := .none } := by
    refine xv_new_arr (by rw [hcA]) fun _ i => Or.inl ?_
    unfold xv_ev
    rw [if_neg (by omega), if_pos (by omega)]
    simp [xv_new, xv_fresh, va_rf, xv_cv]
  have hR' := hR.push (h' := xv_new (n, z, tg, ln, fr, er, fi, ei, el) (100 + j) x.toNatClampNeg x.toNatClampNeg) (H' := H.push { cls := cA, slots := Array.replicate x.toNatClampNeg .null, vm := .none }) rfl (by simp) (fun q hq => by rw [Array.getElem?_push, if_neg (Nat.ne_of_lt hq)]) (by simp) hat (fun b cb hb hcb => xv_new_keep hb hcb)
  have hg := hG ls _ locs hl hR' (xv_S.push hS (by simp) (fun q hq => by rw [Array.getElem?_push, if_neg (Nat.ne_of_lt hq)])) (by simp only [xv_new]; omega) (by simp only [xv_new]; omega)
  have hal : xv_al w n = H.size := by rw [xv_al_lt (by omega)]; exact hR.1.symm
  simp only [xv_new, List.map_cons, xv_cv, hal] at hg
  rw [show n + 1 - n0 = n - n0 + 1 by omega, show z + x.toNatClampNeg - z0 = z - z0 + x.toNatClampNeg by omega] at hg
  exact hg
end XN
end
section
/-! Copies: System.arraycopy, clone; Object's own start. -/
theorem xv_nn {z : Int32} (hz : 0 ≤ z) : z.toInt = (z.toNatClampNeg : Int) := by
  have hz0 : (0 : Int) ≤ z.toInt := by simpa using Int32.le_iff_toInt_le.mp hz
  show z.toInt = ((z.toInt.toNat : Nat) : Int)
  omega
theorem xv_cats (al : Nat → Nat) : ∀ r : List Value, ((r.map (xv_cv al)).map fun v => v.category).sum = (r.map fun v => v.category).sum
  | [] => rfl
  | v :: r => by simp only [List.map_cons, List.sum_cons, xv_cv_cat, xv_cats al r]
theorem xv_room_spec {r : List Value} (h : xv_room r = true) : (r.map fun v => v.category).sum ≤ 8 := by simpa [xv_room] using h
section XC
variable {p : Program} {l : Launch} {e : Env} {R : Room} {s : State} {m : MethodId} {args : Array Value} {below : List Frame} {meth : Method} {c : Code} {Q : State → Prop} {cc : ByteArray} {w : xv_W} {cl : List vw_C} {rk : Nat → Bool} {aty : List FieldType} {WS : List Jvm.Cond} {stt : List (String × String × String)} {sx : xv_X} {sc : Nat × (Nat → Int32)} {own : String} {nL n0 z0 nE zE : Nat} {lg : List Nat} {pc : Nat} {L : xv_L} {st r : List Value} {n z : Nat} {tg ln : Nat → Nat} {fr er : Nat → Nat → Option Nat} {fi ei : Nat → Nat → Int32} {el : Nat → Nat → Int64} {a b : Nat} {H : Heap} {locs : List Loc} {cells slots : Nat} {ls : Array Slot}
/-- arraycopy over any two arrays -/
theorem xw_copy (hexec : p.tables.exec = Jvm.exec) (hb : c.code = cc) (hml : c.maxLocals = ls.size) {index : Nat} (hown : s.vm.findClass own = some m.cls) (hlink : (Jvm.Cond.methodLink own index arraycopyName).before args s = true) (hnat : (Jvm.Cond.native arraycopyName).before args s = true) (hstat : (Jvm.Cond.static arraycopyName).before args s = true) (hini : (Jvm.Cond.initialized "java/lang/System").before args s = true)
    {a0 a1 : Nat} {cs cd : Cell} {k0 k1 : Class} {cm0 cm1 : ClassId} {ty0 ty1 : FieldType} (hc0 : H[a0]? = some cs) (hc1 : H[a1]? = some cd) (hv0 : cs.vm = .none) (hv1 : cd.vm = .none) (hk0 : s.vm.classes[cs.cls]? = some k0) (hk1 : s.vm.classes[cd.cls]? = some k1) (hkk0 : k0.kind = .array cm0 ty0) (hkk1 : k1.kind = .array cm1 ty1) (hty : ((refKind ty0 != refKind ty1) || (!refKind ty0 && ty0 != ty1)) = false)
    {sp dp k : Int32} (h1 : 0 ≤ sp) (h2 : 0 ≤ dp) (h3 : 0 ≤ k) (h4 : sp.toNatClampNeg + k.toNatClampNeg ≤ cs.slots.size) (h5 : dp.toNatClampNeg + k.toNatClampNeg ≤ cd.slots.size)
    (hvals : ∀ T : State, T.heap = H → ∀ vm', s.vm.Alike vm' → ∀ i, i < k.toNatClampNeg → fits ty1 (cs.slots.getD (sp.toNatClampNeg + i) .null) = true ∧ (T.setVm vm').takes cm1 (cs.slots.getD (sp.toNatClampNeg + i) .null))
    (hframes : 1 ≤ R.frames) (hlocals : (r.map fun v => v.category).sum + (nativeFrameWords "java/lang/System" "arraycopy" 5 + 11) ≤ R.locals) (hdg : decode cc pc = .ok (.invokestatic index, 3))
    (kk : ∀ (H' : Heap) (L : List Loc), (∀ q ∈ L, q.base = a1) → H'[a1]? = some (copied cs cd sp dp k) → H'.size = H.size → (∀ q, q ≠ a1 → H'[q]? = H[q]?) → W p l e R s m args below meth c H' (locs ++ L) cells slots Q (F0 m (pc + 3) ls r)) : W p l e R s m args below meth c H locs cells slots Q (F0 m pc ls (.int k :: .int dp :: .ref a1 :: .int sp :: .ref a0 :: r)) := by
  intro T hT X
  obtain ⟨vm', X', step⟩ := X.arraycopy hexec hown hlink hnat hstat hini (src := a0) (dst := a1) (cs := cs) (cd := cd) (srcPos := sp) (destPos := dp) (n := k) (by rw [hT]; exact hc0) (by rw [hT]; exact hc1)
    (fun _ h => by rw [hv0] at h; cases h) (fun _ h => by rw [hv1] at h; cases h) (fun h => by rw [hv0] at h; cases h) (fun h => by rw [hv1] at h; cases h) hk0 hk1 hkk0 hkk1 hty (Int32.not_lt.mpr h1) (Int32.not_lt.mpr h2) (Int32.not_lt.mpr h3)
    (by rw [xv_nn h1, xv_nn h3]; omega) (by rw [xv_nn h2, xv_nn h3]; omega) (hvals T hT)
    (g := F0 m pc ls (.int k :: .int dp :: .ref a1 :: .int sp :: .ref a0 :: r)) rfl (by rw [hml]) (rest := r) rfl (by rw [hb]; exact hdg) hframes (by show 2 * 0 + _ + _ ≤ _; omega)
  have hl : a1 < H.size := (Array.getElem?_eq_some_iff.mp hc1).1
  have hheap : ((T.setVm vm').setCell a1 (copied cs cd sp dp k)).heap = H.setIfInBounds a1 (copied cs cd sp dp k) := by rw [← hT]; rfl
  obtain ⟨t, b1, b2⟩ := kk _ _ (fun q hq => by
      obtain ⟨z, -, hz⟩ := List.mem_map.mp hq
      rw [← hz]) (show (H.setIfInBounds a1 _)[a1]? = some _ by simp [Array.getElem?_setIfInBounds, hl]) (by simp) (fun q hq => by simp [Array.getElem?_setIfInBounds, Ne.symm hq]) _ hheap X'
  exact ⟨t, step t b1, b2⟩
theorem xs_copyi {idx : Nat} {sp dp k : Int32} (hC : xv_Cx p R s m args meth c cc w cl aty WS stt sx sc own nL n0 z0 nE zE) (hd : decode cc pc = .ok (.invokestatic idx, 3)) (hlink : Jvm.Cond.methodLink own idx arraycopyName ∈ WS) (hnat : Jvm.Cond.native arraycopyName ∈ WS) (hstat : Jvm.Cond.static arraycopyName ∈ WS) (hini : Jvm.Cond.initialized "java/lang/System" ∈ WS) (hty : aty[0]? = some .int) (hE : n ≤ nE) (ha : a < n) (hb0 : b < n) (hta : tg a = 100) (htb : tg b = 100)
    (h1 : 0 ≤ sp) (h2 : 0 ≤ dp) (h3 : 0 ≤ k) (h4 : sp.toNatClampNeg + k.toNatClampNeg ≤ ln a) (h5 : dp.toNatClampNeg + k.toNatClampNeg ≤ ln b) (hroom : xv_room st = true) (hF : 1 ≤ R.frames) (hLo : 8 + (nativeFrameWords "java/lang/System" "arraycopy" 5 + 11) ≤ R.locals)
    (hG : xv_G p l e R s m args below meth c Q w cl rk lg nL n0 z0 (pc + 3, L, st, (n, z, tg, ln, fr, er, fi, xv_cpy ei a sp.toNatClampNeg b dp.toNatClampNeg k.toNatClampNeg, el))) : xv_G p l e R s m args below meth c Q w cl rk lg nL n0 z0 (pc, L, .int k :: .int dp :: .ref b :: .int sp :: .ref a :: st, (n, z, tg, ln, fr, er, fi, ei, el)) := by
  intro ls H locs hl hR hS g1 g2
  obtain ⟨⟨hx, hb, hml, hown, hts⟩, ⟨hK, hA⟩, ⟨hr1, hr2, hr3, hr4⟩, -⟩ := hC
  have hal : xv_al w a = w.1 + a := xv_al_lt (by omega)
  have hbl : xv_al w b = w.1 + b := xv_al_lt (by omega)
  obtain ⟨c0, p1, p2, p3, p4, p5⟩ := hR.arr ha (j := 0) hta
  obtain ⟨c1, q1, q2, q3, q4, q5⟩ := hR.arr hb0 (j := 0) htb
  have e0 := hR.arrV ha (j := 0) hta p1
  have e1 := hR.arrV hb0 (j := 0) htb q1
  have f0 : ∀ b, (fun i => xv_ev w (n, z, tg, ln, fr, er, fi, ei, el) (100 + 0) b i) = fun i => .int (ei b i) := fun b => by funext i; simp [xv_ev]
  obtain ⟨-, k0, hk0, cm0, hkk0⟩ := xv_arr_is (hA 0 _ hty).1 p3 p2
  obtain ⟨-, k1, hk1, cm1, hkk1⟩ := xv_arr_is (hA 0 _ hty).1 q3 q2
  have hcs := xv_room_spec hroom
  simp only [List.map_cons, xv_cv, hal, hbl]
  refine xw_copy hx hb (by rw [hml]; exact hl.1.1.symm) hown (hts _ hlink) (hts _ hnat) (hts _ hstat) (hts _ hini) p1 q1 p2 q2 hk0 hk1 hkk0 hkk1 (by decide) h1 h2 h3 (by rw [p4]; exact h4) (by rw [q4]; exact h5) (fun T hT vm' hvm i hi => ?_) hF (by rw [xv_cats]; omega) hd fun H' L g3 g4 g5 g6 => ?_
  · have e : c0.slots.getD (sp.toNatClampNeg + i) .null = .int (ei a (sp.toNatClampNeg + i)) := by
      rw [Array.getD_eq_getD_getElem?, p5 _ (by simp only; omega)]
      simp [xv_ev]
    rw [e]
    exact ⟨rfl, trivial⟩
  · have hcell : copied c0 c1 sp dp k = arrV (w.2.2.2.2.1 0) (ln b) (fun j => .int (va_cpy (ei a) (ei b) sp.toNatClampNeg dp.toNatClampNeg k.toNatClampNeg j)) := by
      rw [e0, e1]
      simp only [f0]
      exact va_copied (fun z => .int z) _ _ (ei a) (ei b) h4
    rw [hcell] at g4
    refine hG ls H' _ hl (hR.set (h' := (n, z, tg, ln, fr, er, fi, xv_cpy ei a sp.toNatClampNeg b dp.toNatClampNeg k.toNatClampNeg, el)) rfl g5 g6 g4 ⟨rfl, Or.inr ⟨by simp only [htb]; omega, ?_⟩⟩ fun b' cb hb' hne hcb => hcb.keep rfl rfl (fun g => rfl) (fun t i => ?_)) ⟨by rw [g5]; exact hS.1, fun q d1 d2 => (g6 q (fun z => d2 (by rw [z]; exact Nat.le_add_right _ _))).trans (hS.2.1 q d1 d2), fun q hq => ?_⟩ g1 g2
    · simp only [htb]
      congr 1
      funext i
      simp [xv_ev, xv_cpy, va_cpy]
    · simp only [xv_ev, xv_cpy, hne, false_and, if_false]
    · rcases List.mem_append.mp hq with d | d
      · exact hS.2.2 q d
      · rw [g3 q d]; exact Nat.le_add_right _ _
theorem xs_copyr {idx j cj : Nat} {C : String} {q : vw_C} {sp dp k : Int32} (hC : xv_Cx p R s m args meth c cc w cl aty WS stt sx sc own nL n0 z0 nE zE) (hd : decode cc pc = .ok (.invokestatic idx, 3)) (hlink : Jvm.Cond.methodLink own idx arraycopyName ∈ WS) (hnat : Jvm.Cond.native arraycopyName ∈ WS) (hstat : Jvm.Cond.static arraycopyName ∈ WS) (hini : Jvm.Cond.initialized "java/lang/System" ∈ WS) (hty : aty[j]? = some (.object C)) (hj : 4 ≤ j) (hq : cl[cj]? = some q) (hcj : cj < 100) (hca : C = q.1 ∨ (q.1, C) ∈ sx.1) (hE : n ≤ nE) (ha : a < n) (hb0 : b < n) (hta : tg a = 100 + j) (htb : tg b = 100 + j)
    (h1 : 0 ≤ sp) (h2 : 0 ≤ dp) (h3 : 0 ≤ k) (h4 : sp.toNatClampNeg + k.toNatClampNeg ≤ ln a) (h5 : dp.toNatClampNeg + k.toNatClampNeg ≤ ln b) (hel : ∀ i, i < k.toNatClampNeg → ∀ b', er a (sp.toNatClampNeg + i) = some b' → b' < n ∧ tg b' = cj) (hroom : xv_room st = true) (hF : 1 ≤ R.frames) (hLo : 8 + (nativeFrameWords "java/lang/System" "arraycopy" 5 + 11) ≤ R.locals)
    (hG : xv_G p l e R s m args below meth c Q w cl rk lg nL n0 z0 (pc + 3, L, st, (n, z, tg, ln, fr, xv_cpy er a sp.toNatClampNeg b dp.toNatClampNeg k.toNatClampNeg, fi, ei, el))) : xv_G p l e R s m args below meth c Q w cl rk lg nL n0 z0 (pc, L, .int k :: .int dp :: .ref b :: .int sp :: .ref a :: st, (n, z, tg, ln, fr, er, fi, ei, el)) := by
  intro ls H locs hl hR hS g1 g2
  obtain ⟨⟨hx, hb, hml, hown, hts⟩, ⟨hK, hA⟩, ⟨hr1, hr2, hr3, hr4⟩, -, hXE, -⟩ := hC
  have hal : xv_al w a = w.1 + a := xv_al_lt (by omega)
  have hbl : xv_al w b = w.1 + b := xv_al_lt (by omega)
  obtain ⟨c0, p1, p2, p3, p4, p5⟩ := hR.arr ha hta
  obtain ⟨c1, q1, q2, q3, q4, q5⟩ := hR.arr hb0 htb
  have e0 := hR.arrV ha (j := j) hta p1
  have e1 := hR.arrV hb0 (j := j) htb q1
  have f0 : ∀ b, (fun i => xv_ev w (n, z, tg, ln, fr, er, fi, ei, el) (100 + j) b i) = fun i => va_rf ((er b i).map (xv_al w)) := fun b => by
    funext i
    unfold xv_ev
    rw [if_neg (by omega), if_pos (by omega), xv_cv_rf]
  obtain ⟨-, k0, hk0, cm0, hkk0⟩ := xv_arr_is (hA j _ hty).1 p3 p2
  obtain ⟨-, k1, hk1, cm1, hkk1⟩ := xv_arr_is (hA j _ hty).1 q3 q2
  have hcs := xv_room_spec hroom
  simp only [List.map_cons, xv_cv, hal, hbl]
  refine xw_copy hx hb (by rw [hml]; exact hl.1.1.symm) hown (hts _ hlink) (hts _ hnat) (hts _ hstat) (hts _ hini) p1 q1 p2 q2 hk0 hk1 hkk0 hkk1 rfl h1 h2 h3 (by rw [p4]; exact h4) (by rw [q4]; exact h5) (fun T hT vm' hvm i hi => ?_) hF (by rw [xv_cats]; omega) hd fun H' L g3 g4 g5 g6 => ?_
  · have e : c0.slots.getD (sp.toNatClampNeg + i) .null = va_rf ((er a (sp.toNatClampNeg + i)).map (xv_al w)) := by
      rw [Array.getD_eq_getD_getElem?, p5 _ (by simp only; omega)]
      exact congrFun (f0 a) _
    rw [e]
    cases hy : er a (sp.toNatClampNeg + i) with
    | none => exact ⟨rfl, trivial⟩
    | some b' =>
      obtain ⟨d1, d2⟩ := hel i hi b' hy
      obtain ⟨cellV, d3, d4, d5⟩ := hR.obj d1 d2 hcj
      have hcls := (hK.1 cj q hq).2
      obtain ⟨kA, comp, r1, r2, r3, -⟩ := (hA j _ hty).2
      rw [q3] at hk1
      cases hk1.symm.trans r1
      cases hkk1.symm.trans r2
      obtain ⟨kE, hkE, -⟩ := Vm.findClass_spec r3
      obtain ⟨kC, hkC, -⟩ := hcls.2
      have hasg : s.vm.assignable (w.2.2.2.1.1 cj) cm1 = true := by
        rcases hca with hca | hca
        · subst hca
          cases r3.symm.trans hcls.1
          exact va_assign hcls
        · obtain ⟨c0, t1, f1, f2, f3⟩ := Cond.castable_spec (va_Nw.use (A := args) rfl (hXE.1 _ hca))
          cases hcls.1.symm.trans f1
          cases r3.symm.trans f2
          exact f3
      obtain ⟨kC', hkC', -⟩ := hvm.2.2 _ _ hkC
      obtain ⟨kE', hkE', -⟩ := hvm.2.2 _ _ hkE
      have hbl' : xv_al w b' = w.1 + b' := xv_al_lt (by omega)
      refine ⟨rfl, ?_⟩
      show (T.setVm vm').takes cm1 (.ref (xv_al w b'))
      refine ⟨cellV, (show T.heap[xv_al w b']? = some cellV by rw [hT, hbl']; exact d3), (fun q h => by rw [d4] at h; cases h), ⟨kC', by rw [d5]; exact hkC'⟩, ⟨kE', hkE'⟩, ?_⟩
      show vm'.assignable _ _ = true
      rw [hvm.assignable, d5]
      exact hasg
  · have hcell : copied c0 c1 sp dp k = arrV (w.2.2.2.2.1 j) (ln b) (fun i => va_rf ((va_cpy (er a) (er b) sp.toNatClampNeg dp.toNatClampNeg k.toNatClampNeg i).map (xv_al w))) := by
      rw [e0, e1]
      simp only [f0]
      exact va_copied (fun o => va_rf (o.map (xv_al w))) _ _ (er a) (er b) h4
    rw [hcell] at g4
    refine hG ls H' _ hl (hR.set (h' := (n, z, tg, ln, fr, xv_cpy er a sp.toNatClampNeg b dp.toNatClampNeg k.toNatClampNeg, fi, ei, el)) rfl g5 g6 g4 ⟨rfl, Or.inr ⟨by simp only [htb]; omega, ?_⟩⟩ fun b' cb hb' hne hcb => hcb.keep rfl rfl (fun g => rfl) (fun t i => ?_)) ⟨by rw [g5]; exact hS.1, fun q d1 d2 => (g6 q (fun z => d2 (by rw [z]; exact Nat.le_add_right _ _))).trans (hS.2.1 q d1 d2), fun q hq => ?_⟩ g1 g2
    · simp only [htb, Nat.add_sub_cancel_left]
      congr 1
      funext i
      unfold xv_ev
      rw [if_neg (by omega), if_pos (by omega), xv_cv_rf]
      simp only [xv_cpy, va_cpy, true_and]
    · simp only [xv_ev, xv_cpy, hne, false_and, if_false]
    · rcases List.mem_append.mp hq with d | d
      · exact hS.2.2 q d
      · rw [g3 q d]; exact Nat.le_add_right _ _
/-- clone of an array of ints -/
theorem xs_clone {idx : Nat} (hC : xv_Cx p R s m args meth c cc w cl aty WS stt sx sc own nL n0 z0 nE zE) (hd : decode cc pc = .ok (.invokevirtual idx, 3)) (hlink : Jvm.Cond.methodLink own idx ⟨"[I", "clone", "()Ljava/lang/Object;"⟩ ∈ WS) (hsame : Jvm.Cond.sameMethod "[I" "java/lang/Object" "clone" "()Ljava/lang/Object;" ∈ WS)
    (hnat : Jvm.Cond.native ⟨"java/lang/Object", "clone", "()Ljava/lang/Object;"⟩ ∈ WS) (hinst : Jvm.Cond.instanceMethod ⟨"java/lang/Object", "clone", "()Ljava/lang/Object;"⟩ ∈ WS) (hsel : Jvm.Cond.selects "[I" ⟨"[I", "clone", "()Ljava/lang/Object;"⟩ ⟨"java/lang/Object", "clone", "()Ljava/lang/Object;"⟩ ∈ WS) (hcl : ("[I", "java/lang/Cloneable") ∈ sx.1)
    (hty : aty[0]? = some .int) (hE : n + 1 ≤ nE) (hZ : z + ln a ≤ zE) (ha : a < n) (hta : tg a = 100) (hroom : xv_room st = true) (hF : 1 ≤ R.frames) (hLo : 22 ≤ R.locals)
    (hG : xv_G p l e R s m args below meth c Q w cl rk lg nL n0 z0 (pc + 3, L, .ref n :: st, (n + 1, z + ln a, xv_u1 tg n 100, xv_u1 ln n (ln a), xv_freshF fr n none, xv_fresh er n none, xv_freshF fi n 0, (fun b i => if b = n then xv_fresh ei n 0 a i else xv_fresh ei n 0 b i), xv_fresh el n 0))) : xv_G p l e R s m args below meth c Q w cl rk lg nL n0 z0 (pc, L, .ref a :: st, (n, z, tg, ln, fr, er, fi, ei, el)) := by
  intro ls H locs hl hR hS g1 g2
  obtain ⟨⟨hx, hb, hml, hown, hts⟩, ⟨hK, hA⟩, ⟨hr1, hr2, hr3, hr4⟩, -, hXE, -⟩ := hC
  simp only at g1 g2
  have hal : xv_al w a = w.1 + a := xv_al_lt (by omega)
  obtain ⟨c0, p1, p2, p3, p4, p5⟩ := hR.arr ha (j := 0) hta
  have hcs := xv_room_spec hroom
  obtain ⟨d0, t0', f1, f2, f3⟩ := Cond.castable_spec (va_Nw.use (A := args) rfl (hXE.1 _ hcl))
  have hnm : s.vm.findClass "[I" = some (w.2.2.2.2.1 0) := va_nm_int (hA 0 _ hty).2
  cases hnm.symm.trans f1
  show W p l e R s m args below meth c H locs (n - n0) (z - z0) Q (F0 m pc ls (.ref (xv_al w a) :: st.map (xv_cv (xv_al w))))
  intro T hT X
  obtain ⟨-, kA, hkA, comp, hkind⟩ := State.isArrayOf_alike X.warmed.alike ((hA 0 _ hty).1 0 (fun _ => .null))
  obtain ⟨-, kS, hkS, compS, hkindS⟩ := (hA 0 _ hty).1 0 (fun _ => .null)
  have e0 := hR.arrV ha (j := 0) hta p1
  have hcc : ({ cls := c0.cls, slots := c0.slots } : Cell) = c0 := by rw [e0]; rfl
  have hsz : c0.slots.size = ln a := p4
  rw [hal]
  obtain ⟨vm', X', stp⟩ := X.cloneArray hx hown (hts _ hlink) (hts _ hsame) (hts _ hnat) (hts _ hinst) (hts _ hsel) (a := w.1 + a) (cell := c0) (by rw [hT]; exact p1) (fun k h => by rw [p2] at h; cases h) (by rw [p2]; exact fun h => by cases h) (by rw [p3]; exact hnm) f2 (by rw [p3]; exact f3)
    (fun i v hv => by
      have hi : i < ln a := by rw [← hsz]; exact (Array.getElem?_eq_some_iff.mp hv).1
      rw [p5 i hi] at hv
      have e : v = .int (ei a i) := by
        have := Option.some.inj hv
        rw [← this]; simp [xv_ev]
      rw [p3, e]
      have hk' : T.vm.classes[w.2.2.2.2.1 0]? = some kA := hkA
      simp [State.fitsSlot, State.slotType?, hk', hkind, fits])
    (g := F0 m pc ls (.ref (w.1 + a) :: st.map (xv_cv (xv_al w)))) rfl (by rw [hml]; exact hl.1.1) rfl (by rw [hb]; exact hd) hF (by rw [xv_cats]; show 2 * 0 + _ + 14 ≤ _; omega) (by omega) (by rw [hsz]; omega) (hloader := by rw [p3]; exact Vm.clonesLoader_of_array hkS hkindS)
  rw [hcc, hsz] at X'
  have hat : xv_at w cl rk (n + 1, z + ln a, xv_u1 tg n 100, xv_u1 ln n (ln a), xv_freshF fr n none, xv_fresh er n none, xv_freshF fi n 0, (fun b i => if b = n then xv_fresh ei n 0 a i else xv_fresh ei n 0 b i), xv_fresh el n 0) n c0 := by
    refine ⟨p2, Or.inr ⟨by simp [xv_u1], ?_⟩⟩
    rw [e0]
    have hne : ¬ a = n := by omega
    simp only [xv_u1, if_true]
    congr 1
    funext i
    simp [xv_ev, xv_fresh, hne]
  have hR' := hR.push (h' := (n + 1, z + ln a, xv_u1 tg n 100, xv_u1 ln n (ln a), xv_freshF fr n none, xv_fresh er n none, xv_freshF fi n 0, (fun b i => if b = n then xv_fresh ei n 0 a i else xv_fresh ei n 0 b i), xv_fresh el n 0)) (H' := H.push c0) rfl (by simp) (fun q hq => by rw [Array.getElem?_push, if_neg (Nat.ne_of_lt hq)]) (by simp) hat (fun b cb hb hcb => by
    have hne : ¬ b = n := by simp only at hb; omega
    refine hcb.keep ?_ ?_ (fun f => ?_) (fun t i => ?_)
    · simp only [xv_u1, if_neg hne]
    · simp only [xv_u1, if_neg hne]
    · simp only [xv_fv, xv_freshF, if_neg hne]
    · simp only [xv_ev, xv_fresh, if_neg hne])
  have hg := hG ls _ locs hl hR' (xv_S.push hS (by simp) (fun q hq => by rw [Array.getElem?_push, if_neg (Nat.ne_of_lt hq)])) (by simp only; omega) (by simp only; omega)
  have haln : xv_al w n = H.size := by rw [xv_al_lt (by omega)]; exact hR.1.symm
  simp only [List.map_cons, xv_cv, haln] at hg
  rw [show n + 1 - n0 = n - n0 + 1 by omega, show z + ln a - z0 = z - z0 + ln a by omega] at hg
  obtain ⟨t, b1, b2⟩ := hg ((T.setVm vm').pushCell c0) (by rw [← hT]; rfl) X'
  refine ⟨t, stp t ?_, b2⟩
  rw [hcc, hT]
  exact b1
/-- Object's own start -/
theorem xs_objInit {idx : Nat} {h : xv_H} (hC : xv_Cx p R s m args meth c cc w cl aty WS stt sx sc own nL n0 z0 nE zE) (hd : decode cc pc = .ok (.invokespecial idx, 3)) (hlink : Jvm.Cond.methodLink own idx Lib.objectInit ∈ WS) (hinst : Jvm.Cond.instanceMethod Lib.objectInit ∈ WS) (hcode : Jvm.Cond.code Lib.objectInit ⟨#[0xb1]⟩ 1 none ∈ WS) (hroom : xv_room st = true) (hF : 1 ≤ R.frames) (hLo : 20 ≤ R.locals)
    (hG : xv_G p l e R s m args below meth c Q w cl rk lg nL n0 z0 (pc + 3, L, st, h)) : xv_G p l e R s m args below meth c Q w cl rk lg nL n0 z0 (pc, L, .ref a :: st, h) := by
  intro ls H locs hl hR hS g1 g2
  obtain ⟨⟨hx, hb, hml, hown, hts⟩, -⟩ := hC
  have hcs := xv_room_spec hroom
  exact W.objInit hx hb hown (hts _ hlink) (hts _ hinst) (hts _ hcode) rfl (by rw [hml]; exact hl.1.1) (rest := st.map (xv_cv (xv_al w))) rfl hd hF (by rw [xv_cats]; show 2 * 0 + _ + 12 ≤ _; omega) (hG ls H locs hl hR hS g1 g2)
/-- the Class of Object[] -/
theorem xs_getC {j idx : Nat} (hC : xv_Cx p R s m args meth c cc w cl aty WS stt sx sc own nL n0 z0 nE zE) (hd : decode cc pc = .ok (.invokevirtual idx, 3)) (hlink : Jvm.Cond.methodLink own idx ⟨"java/lang/Object", "getClass", "()Ljava/lang/Class;"⟩ ∈ WS) (hsel : Jvm.Cond.selects "[Ljava/lang/Object;" ⟨"java/lang/Object", "getClass", "()Ljava/lang/Class;"⟩ ⟨"java/lang/Object", "getClass", "()Ljava/lang/Class;"⟩ ∈ WS) (hinst : Jvm.Cond.instanceMethod ⟨"java/lang/Object", "getClass", "()Ljava/lang/Class;"⟩ ∈ WS) (hnat : Jvm.Cond.native ⟨"java/lang/Object", "getClass", "()Ljava/lang/Class;"⟩ ∈ WS)
    (hty : aty[j]? = some (.object "java/lang/Object")) (hE : n ≤ nE) (ha : a < n) (hta : tg a = 100 + j) (hroom : xv_room st = true) (hF : 1 ≤ R.frames) (hLo : 22 ≤ R.locals)
    (hG : xv_G p l e R s m args below meth c Q w cl rk lg nL n0 z0 (pc + 3, L, .ref (xv_SB + 1) :: st, (n, z, tg, ln, fr, er, fi, ei, el))) : xv_G p l e R s m args below meth c Q w cl rk lg nL n0 z0 (pc, L, .ref a :: st, (n, z, tg, ln, fr, er, fi, ei, el)) := by
  intro ls H locs hl hR hS g1 g2
  obtain ⟨⟨hx, hb, hml, hown, hts⟩, ⟨hK, hA⟩, ⟨hr1, hr2, hr3, hr4⟩, -, hXE, -⟩ := hC
  have hal : xv_al w a = w.1 + a := xv_al_lt (by omega)
  have hal2 : xv_al w (xv_SB + 1) = w.2.2.1 1 := xv_al_st (by have := hXE.2.2.2.2.2; omega)
  obtain ⟨c0, p1, p2, p3, p4, p5⟩ := hR.arr ha hta
  have hcs := xv_room_spec hroom
  have hg := hG ls H locs hl hR hS g1 g2
  simp only [List.map_cons, xv_cv, hal, hal2] at hg ⊢
  have hnm : s.vm.findClass "[Ljava/lang/Object;" = some (w.2.2.2.2.1 j) := va_nmO (hA j _ hty).2 (by decide)
  exact va_getC hx hb (by rw [hml]; exact hl.1.1.symm) hown (hts _ hlink) (va_Dc.use hXE.2.2.2.2.1) (hts _ hsel) (hts _ hinst) (hts _ hnat) hXE.2.2.2.1 ⟨c0, p1, by rw [p2]; rfl, by rw [p3]; exact hnm⟩ hF (by rw [xv_cats]; omega) hd hg
theorem xs_ldcM {idx : Nat} {h : xv_H} (hC : xv_Cx p R s m args meth c cc w cl aty WS stt sx sc own nL n0 z0 nE zE) (hd : decode cc pc = .ok (.ldc idx, 2)) (hlink : Jvm.Cond.classLink own idx "[Ljava/lang/Object;" ∈ WS) (hG : xv_G p l e R s m args below meth c Q w cl rk lg nL n0 z0 (pc + 2, L, .ref (xv_SB + 1) :: st, h)) : xv_G p l e R s m args below meth c Q w cl rk lg nL n0 z0 (pc, L, st, h) := by
  intro ls H locs hl hR hS g1 g2
  obtain ⟨⟨hx, hb, hml, hown, hts⟩, -, -, -, hXE, -⟩ := hC
  have hal2 : xv_al w (xv_SB + 1) = w.2.2.1 1 := xv_al_st (by have := hXE.2.2.2.2.2; omega)
  have hg := hG ls H locs hl hR hS g1 g2
  simp only [List.map_cons, xv_cv, hal2] at hg
  exact va_ldcM hx hb hown (hts _ hlink) hXE.2.2.2.1 hd hg
theorem xs_min {idx : Nat} {h : xv_H} {x y : Int32} (hC : xv_Cx p R s m args meth c cc w cl aty WS stt sx sc own nL n0 z0 nE zE) (hd : decode cc pc = .ok (.invokestatic idx, 3)) (hlink : Jvm.Cond.methodLink own idx Lib.Math.min.name ∈ WS) (hstat : Jvm.Cond.static Lib.Math.min.name ∈ WS) (hini : Jvm.Cond.initialized "java/lang/Math" ∈ WS) (hcode : Jvm.Cond.code Lib.Math.min.name Lib.Math.min.code 2 (some .int) ∈ WS) (hroom : xv_room st = true) (hF : 1 ≤ R.frames) (hLo : 22 ≤ R.locals) (hE : h.1 ≤ nE) (hZ : h.2.1 ≤ zE)
    (hG : xv_G p l e R s m args below meth c Q w cl rk lg nL n0 z0 (pc + 3, L, .int (if y < x then y else x) :: st, h)) : xv_G p l e R s m args below meth c Q w cl rk lg nL n0 z0 (pc, L, .int y :: .int x :: st, h) := by
  intro ls H locs hl hR hS g1 g2
  obtain ⟨⟨hx, hb, hml, hown, hts⟩, -, ⟨hr1, hr2, hr3, hr4⟩, -, -, -⟩ := hC
  have hcs := xv_room_spec hroom
  simp only at g1 g2
  show W p l e R s m args below meth c H locs (h.1 - n0) (h.2.1 - z0) Q (F0 m pc ls (.int y :: .int x :: st.map (xv_cv (xv_al w))))
  exact va_mmin hx hb (by rw [hml]; exact hl.1.1.symm) hown (hts _ hlink) (hts _ hstat) (hts _ hini) (hts _ hcode) hF (by rw [xv_cats]; omega) (by omega) (by omega) hd (hG ls H locs hl hR hS g1 g2)
theorem xs_max {idx : Nat} {h : xv_H} {x y : Int32} (hC : xv_Cx p R s m args meth c cc w cl aty WS stt sx sc own nL n0 z0 nE zE) (hd : decode cc pc = .ok (.invokestatic idx, 3)) (hlink : Jvm.Cond.methodLink own idx Lib.Math.max.name ∈ WS) (hstat : Jvm.Cond.static Lib.Math.max.name ∈ WS) (hini : Jvm.Cond.initialized "java/lang/Math" ∈ WS) (hcode : Jvm.Cond.code Lib.Math.max.name Lib.Math.max.code 2 (some .int) ∈ WS) (hroom : xv_room st = true) (hF : 1 ≤ R.frames) (hLo : 22 ≤ R.locals) (hE : h.1 ≤ nE) (hZ : h.2.1 ≤ zE)
    (hG : xv_G p l e R s m args below meth c Q w cl rk lg nL n0 z0 (pc + 3, L, .int (if x < y then y else x) :: st, h)) : xv_G p l e R s m args below meth c Q w cl rk lg nL n0 z0 (pc, L, .int y :: .int x :: st, h) := by
  intro ls H locs hl hR hS g1 g2
  obtain ⟨⟨hx, hb, hml, hown, hts⟩, -, ⟨hr1, hr2, hr3, hr4⟩, -, -, -⟩ := hC
  have hcs := xv_room_spec hroom
  simp only at g1 g2
  show W p l e R s m args below meth c H locs (h.1 - n0) (h.2.1 - z0) Q (F0 m pc ls (.int y :: .int x :: st.map (xv_cv (xv_al w))))
  exact va_mmax hx hb (by rw [hml]; exact hl.1.1.symm) hown (hts _ hlink) (hts _ hstat) (hts _ hini) (hts _ hcode) hF (by rw [xv_cats]; omega) (by omega) (by omega) hd (hG ls H locs hl hR hS g1 g2)
end XC
end
section
/-! What it needs for an instruction to go on. -/
section XI
variable {β : Type} {st : List Value} {b : β} {L : xv_L} {i : Nat} {lg : List Nat} {h : xv_H}
theorem xv_i1_inv {f : Int32 → List Value → Option β} (q : xv_i1 st f = some b) : ∃ x r, st = .int x :: r ∧ f x r = some b := by
  unfold xv_i1 at q
  split at q
  · exact ⟨_, _, rfl, q⟩
  · cases q
theorem xv_i2_inv {f : Int32 → Int32 → List Value → Option β} (q : xv_i2 st f = some b) : ∃ x y r, st = .int y :: .int x :: r ∧ f x y r = some b := by
  unfold xv_i2 at q
  split at q
  · exact ⟨_, _, _, rfl, q⟩
  · cases q
theorem xv_l1_inv {f : Int64 → List Value → Option β} (q : xv_l1 st f = some b) : ∃ x r, st = .long x :: r ∧ f x r = some b := by
  unfold xv_l1 at q
  split at q
  · exact ⟨_, _, rfl, q⟩
  · cases q
theorem xv_l2_inv {f : Int64 → Int64 → List Value → Option β} (q : xv_l2 st f = some b) : ∃ x y r, st = .long y :: .long x :: r ∧ f x y r = some b := by
  unfold xv_l2 at q
  split at q
  · exact ⟨_, _, _, rfl, q⟩
  · cases q
theorem xv_li_inv {f : Int64 → Int32 → List Value → Option β} (q : xv_li st f = some b) : ∃ x y r, st = .int y :: .long x :: r ∧ f x y r = some b := by
  unfold xv_li at q
  split at q
  · exact ⟨_, _, _, rfl, q⟩
  · cases q
theorem xv_r1_inv {f : Nat → List Value → Option β} (q : xv_r1 st f = some b) : ∃ a r, st = .ref a :: r ∧ f a r = some b := by
  unfold xv_r1 at q
  split at q
  · exact ⟨_, _, rfl, q⟩
  · cases q
theorem xv_q1_inv {f : Option Nat → List Value → Option β} (q : xv_q1 st f = some b) : ∃ o r, st = va_rf o :: r ∧ f o r = some b := by
  unfold xv_q1 at q
  split at q
  · exact ⟨some _, _, rfl, q⟩
  · exact ⟨none, _, rfl, q⟩
  · cases q
theorem xv_v1_inv {f : Value → List Value → Option β} (q : xv_v1 st f = some b) : ∃ v r, st = v :: r ∧ v.category = 1 ∧ f v r = some b := by
  unfold xv_v1 at q
  split at q
  · split at q
    · rename_i hc
      exact ⟨_, _, rfl, hc, q⟩
    · cases q
  · cases q
theorem xv_in_inv {x : Int32} {a : Nat} {k : Option β} (q : xv_in h x a k = some b) : a < h.1 ∧ 0 ≤ x ∧ x.toNatClampNeg < h.2.2.2.1 a ∧ k = some b := by
  unfold xv_in at q
  split at q
  · rename_i hc
    exact ⟨hc.1, hc.2.1, hc.2.2, q⟩
  · cases q
theorem xv_iload_inv {f : Int32 → Option β} (q : xv_iload L i f = some b) : ∃ x, L[i]? = some (some (.int x)) ∧ f x = some b := by
  unfold xv_iload at q
  split at q
  · rename_i hc
    exact ⟨_, hc, q⟩
  · cases q
theorem xv_lload_inv {f : Int64 → Option β} (q : xv_lload L i f = some b) : ∃ x, L[i]? = some (some (.long x)) ∧ f x = some b := by
  unfold xv_lload at q
  split at q
  · rename_i hc
    exact ⟨_, hc, q⟩
  · cases q
theorem xv_aload_inv {f : Option Nat → Option β} (q : xv_aload L i f = some b) : (∃ x, L[i]? = some (some (.ref x)) ∧ f (some x) = some b) ∨ (L[i]? = some (some .null) ∧ f none = some b) := by
  unfold xv_aload at q
  split at q
  · rename_i hc
    exact Or.inl ⟨_, hc, q⟩
  · rename_i hc
    exact Or.inr ⟨hc, q⟩
  · cases q
theorem xv_st1_inv {v : Value} {f : xv_L → Option β} (q : xv_st1 lg L i v f = some b) : i < L.length ∧ xv_b1 lg i = true ∧ f (L.set i (some v)) = some b := by
  unfold xv_st1 at q
  split at q
  · rename_i hc
    exact ⟨hc.1, hc.2, q⟩
  · cases q
theorem xv_st2_inv {v : Value} {f : xv_L → Option β} (q : xv_st2 lg L i v f = some b) : i + 1 < L.length ∧ xv_b1 lg i = true ∧ i ∈ lg ∧ f ((L.set i (some v)).set (i + 1) none) = some b := by
  unfold xv_st2 at q
  split at q
  · rename_i hc
    exact ⟨hc.1, hc.2.1, by simpa using hc.2.2, q⟩
  · cases q
theorem xv_len_inv {n : Int32} {k : Option β} (q : xv_len n k = some b) : 0 ≤ n ∧ n.toNatClampNeg ≤ 60000000 ∧ k = some b := by
  unfold xv_len at q
  split at q
  · rename_i hc
    exact ⟨hc.1, hc.2, q⟩
  · cases q
end XI
theorem xv_nx_inv {pc : Nat} {L : xv_L} {st : List Value} {h : xv_H} {x : xv_N} (q : xv_nx pc L st h = some x) : x = (pc, L, st, h) := (Option.some.inj q).symm
theorem xv_jmp_inv {pc : Nat} {off : Int} {L : xv_L} {st : List Value} {h : xv_H} {x : xv_N} (q : xv_jmp pc off L st h = some x) : ∃ t : Nat, (pc : Int) + off = (t : Int) ∧ x = (t, L, st, h) := by
  unfold xv_jmp at q
  split at q
  · rename_i t ht
    exact ⟨t, ht, xv_nx_inv q⟩
  · cases q
theorem xv_if_inv {c : Bool} {pc : Nat} {off : Int} {L : xv_L} {st : List Value} {h : xv_H} {x : xv_N} (q : xv_if c pc off L st h = some x) : (c = true ∧ ∃ t : Nat, (pc : Int) + off = (t : Int) ∧ x = (t, L, st, h)) ∨ (c = false ∧ x = (pc + 3, L, st, h)) := by
  unfold xv_if at q
  split at q
  · rename_i hc
    exact Or.inl ⟨hc, xv_jmp_inv q⟩
  · rename_i hc
    exact Or.inr ⟨by simpa using hc, xv_nx_inv q⟩
end
section
/-! Every plain instruction. -/
/-- a method: name, code, locals, answer; how many frames and how many words of frames its calls take -/
abbrev xv_M : Type := MethodName × ByteArray × Nat × Option FieldType × Nat × Nat
def xv_same (WS : List Jvm.Cond) (ref o n d : String) : Prop := ref = o ∨ Jvm.Cond.sameField ref o n d ∈ WS
/-- an instruction is resolved as the words say -/
def xv_okI (sx : xv_X) (cl : List vw_C) (tyf : Nat → Nat → FieldType) (rk : Nat → Bool) (aty : List FieldType) (cp : Nat → Nat) (WS : List Jvm.Cond) (stt : List (String × String × String)) (y : MethodName) (pc : Nat) (ic : xv_I) : Prop := match ic.1 with
  | .ldc i => (ic.2.2 = 0 ∧ Jvm.Cond.constant y.cls i (Int32.ofNat ic.2.1) ∈ WS) ∨ (ic.2.2 = 1 ∧ Jvm.Cond.classLink y.cls i "[Ljava/lang/Object;" ∈ WS)
  | .ldc2_w i => Jvm.Cond.constantLong y.cls i (Int64.ofNat ic.2.1) ∈ WS
  | .ifCond _ off => 0 ≤ (pc : Int) + off
  | .if_icmp _ off => 0 ≤ (pc : Int) + off
  | .if_acmp _ off => 0 ≤ (pc : Int) + off
  | .ifnull off => 0 ≤ (pc : Int) + off
  | .ifnonnull off => 0 ≤ (pc : Int) + off
  | .getfield i => ∃ (ci k : Nat) (q : vw_C) (ref : String), ic.2.1 = 100 * ci + k ∧ k < 100 ∧ ci < 100 ∧ cl[ci]? = some q ∧ k < q.2.2 ∧ Jvm.Cond.fieldLink y.cls i ref (q.2.1 k).2.1 (q.2.1 k).2.2.1 ∈ WS ∧ xv_same WS ref (q.2.1 k).1 (q.2.1 k).2.1 (q.2.1 k).2.2.1 ∧ rk ic.2.1 = decide (ic.2.2 = 1)
  | .putfield i => ∃ (ci k : Nat) (q : vw_C) (ref : String), ic.2.1 = 100 * ci + k ∧ k < 100 ∧ ci < 100 ∧ cl[ci]? = some q ∧ k < q.2.2 ∧ Jvm.Cond.fieldLink y.cls i ref (q.2.1 k).2.1 (q.2.1 k).2.2.1 ∈ WS ∧ xv_same WS ref (q.2.1 k).1 (q.2.1 k).2.1 (q.2.1 k).2.2.1 ∧ rk ic.2.1 = decide (ic.2.2 = 1) ∧
      ((q.2.1 k).2.2.2 = false ∨ ((q.2.1 k).2.2.2 = true ∧ y.name = "<init>" ∧ (q.2.1 k).1 = y.cls)) ∧ (ic.2.2 = 1 → (∃ C, tyf ci k = .object C) ∨ ∃ t, tyf ci k = .array t) ∧ (ic.2.2 = 0 → tyf ci k = .int) ∧ (ic.2.2 = 2 → tyf ci k = .boolean)
  | .getstatic i => ∃ (q : String × String × String) (ref : String) (k : Nat), ic.2.1 = k + 2 ∧ stt[k]? = some q ∧ Jvm.Cond.fieldLink y.cls i ref q.2.1 q.2.2 ∈ WS ∧ xv_same WS ref q.1 q.2.1 q.2.2
  | .aaload => ∃ (j : Nat) (C : String), ic.2.1 = 100 + j ∧ 4 ≤ j ∧ aty[j]? = some (.object C)
  | .aastore => ∃ (j : Nat) (C : String) (q : vw_C), ic.2.1 = 100 + j ∧ 4 ≤ j ∧ aty[j]? = some (.object C) ∧ cl[cp ic.2.1]? = some q ∧ cp ic.2.1 < 100 ∧ (C = q.1 ∨ (q.1, C) ∈ sx.1)
  | .arraylength => ∃ (j : Nat) (ty : FieldType), ic.2.1 = 100 + j ∧ aty[j]? = some ty
  | .new i => ∃ q : vw_C, cl[ic.2.1]? = some q ∧ ic.2.1 < 100 ∧ ic.2.2 = q.2.2 ∧ Jvm.Cond.classLink y.cls i q.1 ∈ WS ∧ Jvm.Cond.instantiable q.1 q.2.2 ∈ WS ∧ Jvm.Cond.initialized q.1 ∈ WS
  | .newarray t => ∃ j : Nat, ic.2.1 = 100 + j ∧ aty[j]? = some (newarray.typeOf t) ∧ Jvm.Cond.arrayClass (newarray.typeOf t) ∈ WS ∧ ((j = 3 ∧ newarray.typeOf t = .long) ∨ (j < 3 ∧ defaultValue (newarray.typeOf t) = .int 0 ∧ componentBytes (newarray.typeOf t) ≤ 4))
  | .anewarray i => ∃ (j : Nat) (C : String), ic.2.1 = 100 + j ∧ 4 ≤ j ∧ aty[j]? = some (.object C) ∧ Jvm.Cond.classLink y.cls i C ∈ WS ∧ C ∈ sx.2.1
  | .checkcast i => (∃ q : vw_C, cl[ic.2.1]? = some q ∧ ic.2.1 < 100 ∧ Jvm.Cond.classLink y.cls i q.1 ∈ WS) ∨ ∃ (j : Nat) (ty : FieldType), ic.2.1 = 100 + j ∧ aty[j]? = some ty ∧ Jvm.Cond.classLink y.cls i ("[" ++ ty.toString) ∈ WS
  | _ => True
/-- the tables of fields and arrays -/
def xv_okC (cl : List vw_C) (tyf : Nat → Nat → FieldType) (rk : Nat → Bool) (aty : List FieldType) (WS : List Jvm.Cond) : Prop :=
  (∀ (ci : Nat) (q : vw_C), cl[ci]? = some q → (∀ x ∈ u_ws q.1 q.2.1 q.2.2, x ∈ WS) ∧ (∀ k, k < q.2.2 → parseFieldDescriptor (q.2.1 k).2.2.1 = some (tyf ci k)) ∧ (∀ a, a < q.2.2 → ∀ b, b < q.2.2 → a ≠ b → (q.2.1 a).2.1 ≠ (q.2.1 b).2.1) ∧ ∀ k, k < q.2.2 → defaultValue (tyf ci k) = if rk (100 * ci + k) = true then .null else .int 0) ∧
  aty[0]? = some .int ∧ aty[1]? = some .byte ∧ aty[2]? = some .boolean ∧ aty[3]? = some .long
/-- how long an instruction is; 0: any length -/
def xv_il (i : ClassFile.Instr) : Nat := match i with
  | .tableswitch _ _ _ _ => 0
  | .bipush _ | .ldc _ | .iload _ | .lload _ | .aload _ | .istore _ | .lstore _ | .astore _ | .newarray _ => 2
  | .sipush _ | .ldc2_w _ | .iinc _ _ | .ifCond _ _ | .if_icmp _ _ | .if_acmp _ _ | .ifnull _ | .ifnonnull _ | .goto _ | .getfield _ | .putfield _ | .getstatic _ | .new _ | .anewarray _ | .checkcast _ | .invokestatic _ | .invokespecial _ | .invokevirtual _ => 3
  | _ => 1
def xv_dec (cc : ByteArray) (pc : Nat) (i : ClassFile.Instr) : Prop := ∃ len, decode cc pc = .ok (i, len) ∧ (xv_il i = 0 ∨ len = xv_il i)
theorem xv_dec.at {cc : ByteArray} {pc k : Nat} {i : ClassFile.Instr} (h : xv_dec cc pc i) (hk : xv_il i = k + 1) : decode cc pc = .ok (i, k + 1) := by
  obtain ⟨len, h1, h2 | h2⟩ := h
  · omega
  · rw [h1, h2, hk]
theorem xv_nm {s : State} {cA : ClassId} {ty : FieldType} (h : va_RA s cA ty) : s.vm.findClass ("[" ++ ty.toString) = some cA := by
  cases ty <;> first | exact h | (obtain ⟨_, _, -, -, -, h4⟩ := h; exact h4)
section XD
variable {p : Program} {l : Launch} {e : Env} {R : Room} {s : State} {m : MethodId} {args : Array Value} {below : List Frame} {meth : Method} {c : Code} {Q : State → Prop} {cc : ByteArray} {w : xv_W} {cl : List vw_C} {rk : Nat → Bool} {aty : List FieldType} {WS : List Jvm.Cond} {stt : List (String × String × String)} {sx : xv_X} {sc : Nat × (Nat → Int32)} {nL n0 z0 nE zE : Nat} {lg : List Nat} {pc : Nat} {L : xv_L} {st : List Value} {h : xv_H} {tyf : Nat → Nat → FieldType} {cp : Nat → Nat} {y : MethodName} {r q : Nat} {x : xv_N}
theorem xd_null (hC : xv_Cx p R s m args meth c cc w cl aty WS stt sx sc y.cls nL n0 z0 nE zE) (hd : xv_dec cc pc (.aconst_null)) (ha : xv_act sc cp lg (.aconst_null, r, q) pc L st h = some x) (hG : xv_G p l e R s m args below meth c Q w cl rk lg nL n0 z0 x) : xv_G p l e R s m args below meth c Q w cl rk lg nL n0 z0 (pc, L, st, h) := by
  simp only [xv_act] at ha
  cases xv_nx_inv ha
  exact xs_null hC (hd.at rfl) hG
theorem xd_iconst {n : Int} (hC : xv_Cx p R s m args meth c cc w cl aty WS stt sx sc y.cls nL n0 z0 nE zE) (hd : xv_dec cc pc (.iconst n)) (ha : xv_act sc cp lg (.iconst n, r, q) pc L st h = some x) (hG : xv_G p l e R s m args below meth c Q w cl rk lg nL n0 z0 x) : xv_G p l e R s m args below meth c Q w cl rk lg nL n0 z0 (pc, L, st, h) := by
  simp only [xv_act] at ha
  cases xv_nx_inv ha
  exact xs_iconst hC (hd.at rfl) hG
theorem xd_bipush {n : Int} (hC : xv_Cx p R s m args meth c cc w cl aty WS stt sx sc y.cls nL n0 z0 nE zE) (hd : xv_dec cc pc (.bipush n)) (ha : xv_act sc cp lg (.bipush n, r, q) pc L st h = some x) (hG : xv_G p l e R s m args below meth c Q w cl rk lg nL n0 z0 x) : xv_G p l e R s m args below meth c Q w cl rk lg nL n0 z0 (pc, L, st, h) := by
  simp only [xv_act] at ha
  cases xv_nx_inv ha
  exact xs_bipush hC (hd.at rfl) hG
theorem xd_sipush {n : Int} (hC : xv_Cx p R s m args meth c cc w cl aty WS stt sx sc y.cls nL n0 z0 nE zE) (hd : xv_dec cc pc (.sipush n)) (ha : xv_act sc cp lg (.sipush n, r, q) pc L st h = some x) (hG : xv_G p l e R s m args below meth c Q w cl rk lg nL n0 z0 x) : xv_G p l e R s m args below meth c Q w cl rk lg nL n0 z0 (pc, L, st, h) := by
  simp only [xv_act] at ha
  cases xv_nx_inv ha
  exact xs_sipush hC (hd.at rfl) hG
theorem xd_lconst {n : Fin 2} (hC : xv_Cx p R s m args meth c cc w cl aty WS stt sx sc y.cls nL n0 z0 nE zE) (hd : xv_dec cc pc (.lconst n)) (ha : xv_act sc cp lg (.lconst n, r, q) pc L st h = some x) (hG : xv_G p l e R s m args below meth c Q w cl rk lg nL n0 z0 x) : xv_G p l e R s m args below meth c Q w cl rk lg nL n0 z0 (pc, L, st, h) := by
  simp only [xv_act] at ha
  cases xv_nx_inv ha
  exact xs_lconst hC (hd.at rfl) hG
theorem xd_iadd (hC : xv_Cx p R s m args meth c cc w cl aty WS stt sx sc y.cls nL n0 z0 nE zE) (hd : xv_dec cc pc (.iadd)) (ha : xv_act sc cp lg (.iadd, r, q) pc L st h = some x) (hG : xv_G p l e R s m args below meth c Q w cl rk lg nL n0 z0 x) : xv_G p l e R s m args below meth c Q w cl rk lg nL n0 z0 (pc, L, st, h) := by
  simp only [xv_act] at ha
  obtain ⟨a, b, t, rfl, ha1⟩ := xv_i2_inv ha
  cases xv_nx_inv ha1
  exact xs_iadd hC (hd.at rfl) hG
theorem xd_isub (hC : xv_Cx p R s m args meth c cc w cl aty WS stt sx sc y.cls nL n0 z0 nE zE) (hd : xv_dec cc pc (.isub)) (ha : xv_act sc cp lg (.isub, r, q) pc L st h = some x) (hG : xv_G p l e R s m args below meth c Q w cl rk lg nL n0 z0 x) : xv_G p l e R s m args below meth c Q w cl rk lg nL n0 z0 (pc, L, st, h) := by
  simp only [xv_act] at ha
  obtain ⟨a, b, t, rfl, ha1⟩ := xv_i2_inv ha
  cases xv_nx_inv ha1
  exact xs_isub hC (hd.at rfl) hG
theorem xd_imul (hC : xv_Cx p R s m args meth c cc w cl aty WS stt sx sc y.cls nL n0 z0 nE zE) (hd : xv_dec cc pc (.imul)) (ha : xv_act sc cp lg (.imul, r, q) pc L st h = some x) (hG : xv_G p l e R s m args below meth c Q w cl rk lg nL n0 z0 x) : xv_G p l e R s m args below meth c Q w cl rk lg nL n0 z0 (pc, L, st, h) := by
  simp only [xv_act] at ha
  obtain ⟨a, b, t, rfl, ha1⟩ := xv_i2_inv ha
  cases xv_nx_inv ha1
  exact xs_imul hC (hd.at rfl) hG
theorem xd_iand (hC : xv_Cx p R s m args meth c cc w cl aty WS stt sx sc y.cls nL n0 z0 nE zE) (hd : xv_dec cc pc (.iand)) (ha : xv_act sc cp lg (.iand, r, q) pc L st h = some x) (hG : xv_G p l e R s m args below meth c Q w cl rk lg nL n0 z0 x) : xv_G p l e R s m args below meth c Q w cl rk lg nL n0 z0 (pc, L, st, h) := by
  simp only [xv_act] at ha
  obtain ⟨a, b, t, rfl, ha1⟩ := xv_i2_inv ha
  cases xv_nx_inv ha1
  exact xs_iand hC (hd.at rfl) hG
theorem xd_ior (hC : xv_Cx p R s m args meth c cc w cl aty WS stt sx sc y.cls nL n0 z0 nE zE) (hd : xv_dec cc pc (.ior)) (ha : xv_act sc cp lg (.ior, r, q) pc L st h = some x) (hG : xv_G p l e R s m args below meth c Q w cl rk lg nL n0 z0 x) : xv_G p l e R s m args below meth c Q w cl rk lg nL n0 z0 (pc, L, st, h) := by
  simp only [xv_act] at ha
  obtain ⟨a, b, t, rfl, ha1⟩ := xv_i2_inv ha
  cases xv_nx_inv ha1
  exact xs_ior hC (hd.at rfl) hG
theorem xd_ishl (hC : xv_Cx p R s m args meth c cc w cl aty WS stt sx sc y.cls nL n0 z0 nE zE) (hd : xv_dec cc pc (.ishl)) (ha : xv_act sc cp lg (.ishl, r, q) pc L st h = some x) (hG : xv_G p l e R s m args below meth c Q w cl rk lg nL n0 z0 x) : xv_G p l e R s m args below meth c Q w cl rk lg nL n0 z0 (pc, L, st, h) := by
  simp only [xv_act] at ha
  obtain ⟨a, b, t, rfl, ha1⟩ := xv_i2_inv ha
  cases xv_nx_inv ha1
  exact xs_ishl hC (hd.at rfl) hG
theorem xd_ishr (hC : xv_Cx p R s m args meth c cc w cl aty WS stt sx sc y.cls nL n0 z0 nE zE) (hd : xv_dec cc pc (.ishr)) (ha : xv_act sc cp lg (.ishr, r, q) pc L st h = some x) (hG : xv_G p l e R s m args below meth c Q w cl rk lg nL n0 z0 x) : xv_G p l e R s m args below meth c Q w cl rk lg nL n0 z0 (pc, L, st, h) := by
  simp only [xv_act] at ha
  obtain ⟨a, b, t, rfl, ha1⟩ := xv_i2_inv ha
  cases xv_nx_inv ha1
  exact xs_ishr hC (hd.at rfl) hG
theorem xd_idiv (hC : xv_Cx p R s m args meth c cc w cl aty WS stt sx sc y.cls nL n0 z0 nE zE) (hd : xv_dec cc pc (.idiv)) (ha : xv_act sc cp lg (.idiv, r, q) pc L st h = some x) (hG : xv_G p l e R s m args below meth c Q w cl rk lg nL n0 z0 x) : xv_G p l e R s m args below meth c Q w cl rk lg nL n0 z0 (pc, L, st, h) := by
  simp only [xv_act] at ha
  obtain ⟨a, b, t, rfl, ha1⟩ := xv_i2_inv ha
  split at ha1
  · cases ha1
  · rename_i hb
    cases xv_nx_inv ha1
    exact xs_idiv hC (hd.at rfl) hb hG
theorem xd_irem (hC : xv_Cx p R s m args meth c cc w cl aty WS stt sx sc y.cls nL n0 z0 nE zE) (hd : xv_dec cc pc (.irem)) (ha : xv_act sc cp lg (.irem, r, q) pc L st h = some x) (hG : xv_G p l e R s m args below meth c Q w cl rk lg nL n0 z0 x) : xv_G p l e R s m args below meth c Q w cl rk lg nL n0 z0 (pc, L, st, h) := by
  simp only [xv_act] at ha
  obtain ⟨a, b, t, rfl, ha1⟩ := xv_i2_inv ha
  split at ha1
  · cases ha1
  · rename_i hb
    cases xv_nx_inv ha1
    exact xs_irem hC (hd.at rfl) hb hG
theorem xd_ladd (hC : xv_Cx p R s m args meth c cc w cl aty WS stt sx sc y.cls nL n0 z0 nE zE) (hd : xv_dec cc pc (.ladd)) (ha : xv_act sc cp lg (.ladd, r, q) pc L st h = some x) (hG : xv_G p l e R s m args below meth c Q w cl rk lg nL n0 z0 x) : xv_G p l e R s m args below meth c Q w cl rk lg nL n0 z0 (pc, L, st, h) := by
  simp only [xv_act] at ha
  obtain ⟨a, b, t, rfl, ha1⟩ := xv_l2_inv ha
  cases xv_nx_inv ha1
  exact xs_ladd hC (hd.at rfl) hG
theorem xd_lmul (hC : xv_Cx p R s m args meth c cc w cl aty WS stt sx sc y.cls nL n0 z0 nE zE) (hd : xv_dec cc pc (.lmul)) (ha : xv_act sc cp lg (.lmul, r, q) pc L st h = some x) (hG : xv_G p l e R s m args below meth c Q w cl rk lg nL n0 z0 x) : xv_G p l e R s m args below meth c Q w cl rk lg nL n0 z0 (pc, L, st, h) := by
  simp only [xv_act] at ha
  obtain ⟨a, b, t, rfl, ha1⟩ := xv_l2_inv ha
  cases xv_nx_inv ha1
  exact xs_lmul hC (hd.at rfl) hG
theorem xd_land (hC : xv_Cx p R s m args meth c cc w cl aty WS stt sx sc y.cls nL n0 z0 nE zE) (hd : xv_dec cc pc (.land)) (ha : xv_act sc cp lg (.land, r, q) pc L st h = some x) (hG : xv_G p l e R s m args below meth c Q w cl rk lg nL n0 z0 x) : xv_G p l e R s m args below meth c Q w cl rk lg nL n0 z0 (pc, L, st, h) := by
  simp only [xv_act] at ha
  obtain ⟨a, b, t, rfl, ha1⟩ := xv_l2_inv ha
  cases xv_nx_inv ha1
  exact xs_land hC (hd.at rfl) hG
theorem xd_lor (hC : xv_Cx p R s m args meth c cc w cl aty WS stt sx sc y.cls nL n0 z0 nE zE) (hd : xv_dec cc pc (.lor)) (ha : xv_act sc cp lg (.lor, r, q) pc L st h = some x) (hG : xv_G p l e R s m args below meth c Q w cl rk lg nL n0 z0 x) : xv_G p l e R s m args below meth c Q w cl rk lg nL n0 z0 (pc, L, st, h) := by
  simp only [xv_act] at ha
  obtain ⟨a, b, t, rfl, ha1⟩ := xv_l2_inv ha
  cases xv_nx_inv ha1
  exact xs_lor hC (hd.at rfl) hG
theorem xd_lxor (hC : xv_Cx p R s m args meth c cc w cl aty WS stt sx sc y.cls nL n0 z0 nE zE) (hd : xv_dec cc pc (.lxor)) (ha : xv_act sc cp lg (.lxor, r, q) pc L st h = some x) (hG : xv_G p l e R s m args below meth c Q w cl rk lg nL n0 z0 x) : xv_G p l e R s m args below meth c Q w cl rk lg nL n0 z0 (pc, L, st, h) := by
  simp only [xv_act] at ha
  obtain ⟨a, b, t, rfl, ha1⟩ := xv_l2_inv ha
  cases xv_nx_inv ha1
  exact xs_lxor hC (hd.at rfl) hG
theorem xd_lshl (hC : xv_Cx p R s m args meth c cc w cl aty WS stt sx sc y.cls nL n0 z0 nE zE) (hd : xv_dec cc pc (.lshl)) (ha : xv_act sc cp lg (.lshl, r, q) pc L st h = some x) (hG : xv_G p l e R s m args below meth c Q w cl rk lg nL n0 z0 x) : xv_G p l e R s m args below meth c Q w cl rk lg nL n0 z0 (pc, L, st, h) := by
  simp only [xv_act] at ha
  obtain ⟨a, b, t, rfl, ha1⟩ := xv_li_inv ha
  cases xv_nx_inv ha1
  exact xs_lshl hC (hd.at rfl) hG
theorem xd_lshr (hC : xv_Cx p R s m args meth c cc w cl aty WS stt sx sc y.cls nL n0 z0 nE zE) (hd : xv_dec cc pc (.lshr)) (ha : xv_act sc cp lg (.lshr, r, q) pc L st h = some x) (hG : xv_G p l e R s m args below meth c Q w cl rk lg nL n0 z0 x) : xv_G p l e R s m args below meth c Q w cl rk lg nL n0 z0 (pc, L, st, h) := by
  simp only [xv_act] at ha
  obtain ⟨a, b, t, rfl, ha1⟩ := xv_li_inv ha
  cases xv_nx_inv ha1
  exact xs_lshr hC (hd.at rfl) hG
theorem xd_i2l (hC : xv_Cx p R s m args meth c cc w cl aty WS stt sx sc y.cls nL n0 z0 nE zE) (hd : xv_dec cc pc (.i2l)) (ha : xv_act sc cp lg (.i2l, r, q) pc L st h = some x) (hG : xv_G p l e R s m args below meth c Q w cl rk lg nL n0 z0 x) : xv_G p l e R s m args below meth c Q w cl rk lg nL n0 z0 (pc, L, st, h) := by
  simp only [xv_act] at ha
  obtain ⟨a, t, rfl, ha1⟩ := xv_i1_inv ha
  cases xv_nx_inv ha1
  exact xs_i2l hC (hd.at rfl) hG
theorem xd_i2b (hC : xv_Cx p R s m args meth c cc w cl aty WS stt sx sc y.cls nL n0 z0 nE zE) (hd : xv_dec cc pc (.i2b)) (ha : xv_act sc cp lg (.i2b, r, q) pc L st h = some x) (hG : xv_G p l e R s m args below meth c Q w cl rk lg nL n0 z0 x) : xv_G p l e R s m args below meth c Q w cl rk lg nL n0 z0 (pc, L, st, h) := by
  simp only [xv_act] at ha
  obtain ⟨a, t, rfl, ha1⟩ := xv_i1_inv ha
  cases xv_nx_inv ha1
  exact xs_i2b hC (hd.at rfl) hG
theorem xd_l2i (hC : xv_Cx p R s m args meth c cc w cl aty WS stt sx sc y.cls nL n0 z0 nE zE) (hd : xv_dec cc pc (.l2i)) (ha : xv_act sc cp lg (.l2i, r, q) pc L st h = some x) (hG : xv_G p l e R s m args below meth c Q w cl rk lg nL n0 z0 x) : xv_G p l e R s m args below meth c Q w cl rk lg nL n0 z0 (pc, L, st, h) := by
  simp only [xv_act] at ha
  obtain ⟨a, t, rfl, ha1⟩ := xv_l1_inv ha
  cases xv_nx_inv ha1
  exact xs_l2i hC (hd.at rfl) hG
theorem xd_pop (hC : xv_Cx p R s m args meth c cc w cl aty WS stt sx sc y.cls nL n0 z0 nE zE) (hd : xv_dec cc pc (.pop)) (ha : xv_act sc cp lg (.pop, r, q) pc L st h = some x) (hG : xv_G p l e R s m args below meth c Q w cl rk lg nL n0 z0 x) : xv_G p l e R s m args below meth c Q w cl rk lg nL n0 z0 (pc, L, st, h) := by
  simp only [xv_act] at ha
  obtain ⟨a, t, rfl, h1, ha1⟩ := xv_v1_inv ha
  cases xv_nx_inv ha1
  exact xs_pop hC (hd.at rfl) h1 hG
theorem xd_dup (hC : xv_Cx p R s m args meth c cc w cl aty WS stt sx sc y.cls nL n0 z0 nE zE) (hd : xv_dec cc pc (.dup)) (ha : xv_act sc cp lg (.dup, r, q) pc L st h = some x) (hG : xv_G p l e R s m args below meth c Q w cl rk lg nL n0 z0 x) : xv_G p l e R s m args below meth c Q w cl rk lg nL n0 z0 (pc, L, st, h) := by
  simp only [xv_act] at ha
  obtain ⟨a, t, rfl, h1, ha1⟩ := xv_v1_inv ha
  cases xv_nx_inv ha1
  exact xs_dup hC (hd.at rfl) h1 hG
theorem xd_dup_x1 (hC : xv_Cx p R s m args meth c cc w cl aty WS stt sx sc y.cls nL n0 z0 nE zE) (hd : xv_dec cc pc (.dup_x1)) (ha : xv_act sc cp lg (.dup_x1, r, q) pc L st h = some x) (hG : xv_G p l e R s m args below meth c Q w cl rk lg nL n0 z0 x) : xv_G p l e R s m args below meth c Q w cl rk lg nL n0 z0 (pc, L, st, h) := by
  simp only [xv_act] at ha
  obtain ⟨a, t, rfl, h1, ha1⟩ := xv_v1_inv ha
  obtain ⟨b, t, rfl, h2, ha2⟩ := xv_v1_inv ha1
  cases xv_nx_inv ha2
  exact xs_dup_x1 hC (hd.at rfl) h1 h2 hG
theorem xd_dup2 (hC : xv_Cx p R s m args meth c cc w cl aty WS stt sx sc y.cls nL n0 z0 nE zE) (hd : xv_dec cc pc (.dup2)) (ha : xv_act sc cp lg (.dup2, r, q) pc L st h = some x) (hG : xv_G p l e R s m args below meth c Q w cl rk lg nL n0 z0 x) : xv_G p l e R s m args below meth c Q w cl rk lg nL n0 z0 (pc, L, st, h) := by
  simp only [xv_act] at ha
  obtain ⟨a, t, rfl, h1, ha1⟩ := xv_v1_inv ha
  obtain ⟨b, t, rfl, h2, ha2⟩ := xv_v1_inv ha1
  cases xv_nx_inv ha2
  exact xs_dup2 hC (hd.at rfl) h1 h2 hG
theorem xd_dup_x2 (hC : xv_Cx p R s m args meth c cc w cl aty WS stt sx sc y.cls nL n0 z0 nE zE) (hd : xv_dec cc pc (.dup_x2)) (ha : xv_act sc cp lg (.dup_x2, r, q) pc L st h = some x) (hG : xv_G p l e R s m args below meth c Q w cl rk lg nL n0 z0 x) : xv_G p l e R s m args below meth c Q w cl rk lg nL n0 z0 (pc, L, st, h) := by
  simp only [xv_act] at ha
  obtain ⟨a, t, rfl, h1, ha1⟩ := xv_v1_inv ha
  obtain ⟨b, t, rfl, h2, ha2⟩ := xv_v1_inv ha1
  obtain ⟨d, t, rfl, h3, ha3⟩ := xv_v1_inv ha2
  cases xv_nx_inv ha3
  exact xs_dup_x2 hC (hd.at rfl) h1 h2 h3 hG
theorem xd_iload {i : Nat} (hC : xv_Cx p R s m args meth c cc w cl aty WS stt sx sc y.cls nL n0 z0 nE zE) (hd : xv_dec cc pc (.iload i)) (ha : xv_act sc cp lg (.iload i, r, q) pc L st h = some x) (hG : xv_G p l e R s m args below meth c Q w cl rk lg nL n0 z0 x) : xv_G p l e R s m args below meth c Q w cl rk lg nL n0 z0 (pc, L, st, h) := by
  simp only [xv_act] at ha
  obtain ⟨a, h1, ha1⟩ := xv_iload_inv ha
  cases xv_nx_inv ha1
  exact xs_iload hC (hd.at rfl) h1 hG
theorem xd_iload_n {i : Fin 4} (hC : xv_Cx p R s m args meth c cc w cl aty WS stt sx sc y.cls nL n0 z0 nE zE) (hd : xv_dec cc pc (.iload_n i)) (ha : xv_act sc cp lg (.iload_n i, r, q) pc L st h = some x) (hG : xv_G p l e R s m args below meth c Q w cl rk lg nL n0 z0 x) : xv_G p l e R s m args below meth c Q w cl rk lg nL n0 z0 (pc, L, st, h) := by
  simp only [xv_act] at ha
  obtain ⟨a, h1, ha1⟩ := xv_iload_inv ha
  cases xv_nx_inv ha1
  exact xs_iload_n hC (hd.at rfl) h1 hG
theorem xd_lload {i : Nat} (hC : xv_Cx p R s m args meth c cc w cl aty WS stt sx sc y.cls nL n0 z0 nE zE) (hd : xv_dec cc pc (.lload i)) (ha : xv_act sc cp lg (.lload i, r, q) pc L st h = some x) (hG : xv_G p l e R s m args below meth c Q w cl rk lg nL n0 z0 x) : xv_G p l e R s m args below meth c Q w cl rk lg nL n0 z0 (pc, L, st, h) := by
  simp only [xv_act] at ha
  obtain ⟨a, h1, ha1⟩ := xv_lload_inv ha
  cases xv_nx_inv ha1
  exact xs_lload hC (hd.at rfl) h1 hG
theorem xd_lload_n {i : Fin 4} (hC : xv_Cx p R s m args meth c cc w cl aty WS stt sx sc y.cls nL n0 z0 nE zE) (hd : xv_dec cc pc (.lload_n i)) (ha : xv_act sc cp lg (.lload_n i, r, q) pc L st h = some x) (hG : xv_G p l e R s m args below meth c Q w cl rk lg nL n0 z0 x) : xv_G p l e R s m args below meth c Q w cl rk lg nL n0 z0 (pc, L, st, h) := by
  simp only [xv_act] at ha
  obtain ⟨a, h1, ha1⟩ := xv_lload_inv ha
  cases xv_nx_inv ha1
  exact xs_lload_n hC (hd.at rfl) h1 hG
theorem xd_aload {i : Nat} (hC : xv_Cx p R s m args meth c cc w cl aty WS stt sx sc y.cls nL n0 z0 nE zE) (hd : xv_dec cc pc (.aload i)) (ha : xv_act sc cp lg (.aload i, r, q) pc L st h = some x) (hG : xv_G p l e R s m args below meth c Q w cl rk lg nL n0 z0 x) : xv_G p l e R s m args below meth c Q w cl rk lg nL n0 z0 (pc, L, st, h) := by
  simp only [xv_act] at ha
  rcases xv_aload_inv ha with ⟨a, h1, ha1⟩ | ⟨h1, ha1⟩
  · cases xv_nx_inv ha1
    exact xs_aload hC (hd.at rfl) h1 hG
  · cases xv_nx_inv ha1
    exact xs_aloadN hC (hd.at rfl) h1 hG
theorem xd_aload_n {i : Fin 4} (hC : xv_Cx p R s m args meth c cc w cl aty WS stt sx sc y.cls nL n0 z0 nE zE) (hd : xv_dec cc pc (.aload_n i)) (ha : xv_act sc cp lg (.aload_n i, r, q) pc L st h = some x) (hG : xv_G p l e R s m args below meth c Q w cl rk lg nL n0 z0 x) : xv_G p l e R s m args below meth c Q w cl rk lg nL n0 z0 (pc, L, st, h) := by
  simp only [xv_act] at ha
  rcases xv_aload_inv ha with ⟨a, h1, ha1⟩ | ⟨h1, ha1⟩
  · cases xv_nx_inv ha1
    exact xs_aload_n hC (hd.at rfl) h1 hG
  · cases xv_nx_inv ha1
    exact xs_aload_nN hC (hd.at rfl) h1 hG
theorem xd_istore {i : Nat} (hC : xv_Cx p R s m args meth c cc w cl aty WS stt sx sc y.cls nL n0 z0 nE zE) (hd : xv_dec cc pc (.istore i)) (ha : xv_act sc cp lg (.istore i, r, q) pc L st h = some x) (hG : xv_G p l e R s m args below meth c Q w cl rk lg nL n0 z0 x) : xv_G p l e R s m args below meth c Q w cl rk lg nL n0 z0 (pc, L, st, h) := by
  simp only [xv_act] at ha
  obtain ⟨a, t, rfl, ha1⟩ := xv_i1_inv ha
  obtain ⟨h1, h2, ha2⟩ := xv_st1_inv ha1
  cases xv_nx_inv ha2
  exact xs_istore hC (hd.at rfl) h1 h2 hG
theorem xd_istore_n {i : Fin 4} (hC : xv_Cx p R s m args meth c cc w cl aty WS stt sx sc y.cls nL n0 z0 nE zE) (hd : xv_dec cc pc (.istore_n i)) (ha : xv_act sc cp lg (.istore_n i, r, q) pc L st h = some x) (hG : xv_G p l e R s m args below meth c Q w cl rk lg nL n0 z0 x) : xv_G p l e R s m args below meth c Q w cl rk lg nL n0 z0 (pc, L, st, h) := by
  simp only [xv_act] at ha
  obtain ⟨a, t, rfl, ha1⟩ := xv_i1_inv ha
  obtain ⟨h1, h2, ha2⟩ := xv_st1_inv ha1
  cases xv_nx_inv ha2
  exact xs_istore_n hC (hd.at rfl) h1 h2 hG
theorem xd_lstore {i : Nat} (hC : xv_Cx p R s m args meth c cc w cl aty WS stt sx sc y.cls nL n0 z0 nE zE) (hd : xv_dec cc pc (.lstore i)) (ha : xv_act sc cp lg (.lstore i, r, q) pc L st h = some x) (hG : xv_G p l e R s m args below meth c Q w cl rk lg nL n0 z0 x) : xv_G p l e R s m args below meth c Q w cl rk lg nL n0 z0 (pc, L, st, h) := by
  simp only [xv_act] at ha
  obtain ⟨a, t, rfl, ha1⟩ := xv_l1_inv ha
  obtain ⟨h1, h2, h3, ha2⟩ := xv_st2_inv ha1
  cases xv_nx_inv ha2
  exact xs_lstore hC (hd.at rfl) h1 h2 h3 hG
theorem xd_lstore_n {i : Fin 4} (hC : xv_Cx p R s m args meth c cc w cl aty WS stt sx sc y.cls nL n0 z0 nE zE) (hd : xv_dec cc pc (.lstore_n i)) (ha : xv_act sc cp lg (.lstore_n i, r, q) pc L st h = some x) (hG : xv_G p l e R s m args below meth c Q w cl rk lg nL n0 z0 x) : xv_G p l e R s m args below meth c Q w cl rk lg nL n0 z0 (pc, L, st, h) := by
  simp only [xv_act] at ha
  obtain ⟨a, t, rfl, ha1⟩ := xv_l1_inv ha
  obtain ⟨h1, h2, h3, ha2⟩ := xv_st2_inv ha1
  cases xv_nx_inv ha2
  exact xs_lstore_n hC (hd.at rfl) h1 h2 h3 hG
theorem xd_astore {i : Nat} (hC : xv_Cx p R s m args meth c cc w cl aty WS stt sx sc y.cls nL n0 z0 nE zE) (hd : xv_dec cc pc (.astore i)) (ha : xv_act sc cp lg (.astore i, r, q) pc L st h = some x) (hG : xv_G p l e R s m args below meth c Q w cl rk lg nL n0 z0 x) : xv_G p l e R s m args below meth c Q w cl rk lg nL n0 z0 (pc, L, st, h) := by
  simp only [xv_act] at ha
  obtain ⟨a, t, rfl, ha1⟩ := xv_q1_inv ha
  obtain ⟨h1, h2, ha2⟩ := xv_st1_inv ha1
  cases xv_nx_inv ha2
  cases a with
  | none => exact xs_astoreN hC (hd.at rfl) h1 h2 hG
  | some a => exact xs_astore hC (hd.at rfl) h1 h2 hG
theorem xd_astore_n {i : Fin 4} (hC : xv_Cx p R s m args meth c cc w cl aty WS stt sx sc y.cls nL n0 z0 nE zE) (hd : xv_dec cc pc (.astore_n i)) (ha : xv_act sc cp lg (.astore_n i, r, q) pc L st h = some x) (hG : xv_G p l e R s m args below meth c Q w cl rk lg nL n0 z0 x) : xv_G p l e R s m args below meth c Q w cl rk lg nL n0 z0 (pc, L, st, h) := by
  simp only [xv_act] at ha
  obtain ⟨a, t, rfl, ha1⟩ := xv_q1_inv ha
  obtain ⟨h1, h2, ha2⟩ := xv_st1_inv ha1
  cases xv_nx_inv ha2
  cases a with
  | none => exact xs_astore_nN hC (hd.at rfl) h1 h2 hG
  | some a => exact xs_astore_n hC (hd.at rfl) h1 h2 hG
theorem xd_iinc {i : Nat} {n : Int} (hC : xv_Cx p R s m args meth c cc w cl aty WS stt sx sc y.cls nL n0 z0 nE zE) (hd : xv_dec cc pc (.iinc i n)) (ha : xv_act sc cp lg (.iinc i n, r, q) pc L st h = some x) (hG : xv_G p l e R s m args below meth c Q w cl rk lg nL n0 z0 x) : xv_G p l e R s m args below meth c Q w cl rk lg nL n0 z0 (pc, L, st, h) := by
  simp only [xv_act] at ha
  obtain ⟨a, h0, ha1⟩ := xv_iload_inv ha
  obtain ⟨h1, h2, ha2⟩ := xv_st1_inv ha1
  cases xv_nx_inv ha2
  exact xs_iinc hC (hd.at rfl) h0 h1 h2 hG
theorem xd_goto {off : Int} (hC : xv_Cx p R s m args meth c cc w cl aty WS stt sx sc y.cls nL n0 z0 nE zE) (hd : xv_dec cc pc (.goto off)) (ha : xv_act sc cp lg (.goto off, r, q) pc L st h = some x) (hG : xv_G p l e R s m args below meth c Q w cl rk lg nL n0 z0 x) : xv_G p l e R s m args below meth c Q w cl rk lg nL n0 z0 (pc, L, st, h) := by
  simp only [xv_act] at ha
  obtain ⟨t, h1, rfl⟩ := xv_jmp_inv ha
  exact xs_goto hC (hd.at rfl) h1 hG
theorem xd_if {o : ClassFile.Cond} {off : Int} (hC : xv_Cx p R s m args meth c cc w cl aty WS stt sx sc y.cls nL n0 z0 nE zE) (hd : xv_dec cc pc (.ifCond o off)) (hj : 0 ≤ (pc : Int) + off) (ha : xv_act sc cp lg (.ifCond o off, r, q) pc L st h = some x) (hG : xv_G p l e R s m args below meth c Q w cl rk lg nL n0 z0 x) : xv_G p l e R s m args below meth c Q w cl rk lg nL n0 z0 (pc, L, st, h) := by
  simp only [xv_act] at ha
  obtain ⟨a, t, rfl, ha1⟩ := xv_i1_inv ha
  obtain ⟨tg, ht⟩ := Int.eq_ofNat_of_zero_le hj
  rcases xv_if_inv ha1 with ⟨hc, t', h1, rfl⟩ | ⟨hc, rfl⟩
  · have e : t' = tg := Int.ofNat.inj (h1.symm.trans ht)
    subst e
    cases o <;> simp only [xv_cnd, decide_eq_true_eq] at hc
    · exact xs_if_eq hC (hd.at rfl) ht (fun _ => hG) (fun z => absurd hc z)
    · exact xs_if_ne hC (hd.at rfl) ht (fun _ => hG) (fun z => absurd hc z)
    · exact xs_if_lt hC (hd.at rfl) ht (fun _ => hG) (fun z => absurd hc z)
    · exact xs_if_ge hC (hd.at rfl) ht (fun _ => hG) (fun z => absurd hc z)
    · exact xs_if_gt hC (hd.at rfl) ht (fun _ => hG) (fun z => absurd hc z)
    · exact xs_if_le hC (hd.at rfl) ht (fun _ => hG) (fun z => absurd hc z)
  · cases o <;> simp only [xv_cnd, decide_eq_false_iff_not] at hc
    · exact xs_if_eq hC (hd.at rfl) ht (fun z => absurd z hc) (fun _ => hG)
    · exact xs_if_ne hC (hd.at rfl) ht (fun z => absurd z hc) (fun _ => hG)
    · exact xs_if_lt hC (hd.at rfl) ht (fun z => absurd z hc) (fun _ => hG)
    · exact xs_if_ge hC (hd.at rfl) ht (fun z => absurd z hc) (fun _ => hG)
    · exact xs_if_gt hC (hd.at rfl) ht (fun z => absurd z hc) (fun _ => hG)
    · exact xs_if_le hC (hd.at rfl) ht (fun z => absurd z hc) (fun _ => hG)
theorem xd_icmp {o : ClassFile.Cond} {off : Int} (hC : xv_Cx p R s m args meth c cc w cl aty WS stt sx sc y.cls nL n0 z0 nE zE) (hd : xv_dec cc pc (.if_icmp o off)) (hj : 0 ≤ (pc : Int) + off) (ha : xv_act sc cp lg (.if_icmp o off, r, q) pc L st h = some x) (hG : xv_G p l e R s m args below meth c Q w cl rk lg nL n0 z0 x) : xv_G p l e R s m args below meth c Q w cl rk lg nL n0 z0 (pc, L, st, h) := by
  simp only [xv_act] at ha
  obtain ⟨a, b, t, rfl, ha1⟩ := xv_i2_inv ha
  obtain ⟨tg, ht⟩ := Int.eq_ofNat_of_zero_le hj
  rcases xv_if_inv ha1 with ⟨hc, t', h1, rfl⟩ | ⟨hc, rfl⟩
  · have e : t' = tg := Int.ofNat.inj (h1.symm.trans ht)
    subst e
    cases o <;> simp only [xv_cnd, decide_eq_true_eq] at hc
    · exact xs_icmp_eq hC (hd.at rfl) ht (fun _ => hG) (fun z => absurd hc z)
    · exact xs_icmp_ne hC (hd.at rfl) ht (fun _ => hG) (fun z => absurd hc z)
    · exact xs_icmp_lt hC (hd.at rfl) ht (fun _ => hG) (fun z => absurd hc z)
    · exact xs_icmp_ge hC (hd.at rfl) ht (fun _ => hG) (fun z => absurd hc z)
    · exact xs_icmp_gt hC (hd.at rfl) ht (fun _ => hG) (fun z => absurd hc z)
    · exact xs_icmp_le hC (hd.at rfl) ht (fun _ => hG) (fun z => absurd hc z)
  · cases o <;> simp only [xv_cnd, decide_eq_false_iff_not] at hc
    · exact xs_icmp_eq hC (hd.at rfl) ht (fun z => absurd z hc) (fun _ => hG)
    · exact xs_icmp_ne hC (hd.at rfl) ht (fun z => absurd z hc) (fun _ => hG)
    · exact xs_icmp_lt hC (hd.at rfl) ht (fun z => absurd z hc) (fun _ => hG)
    · exact xs_icmp_ge hC (hd.at rfl) ht (fun z => absurd z hc) (fun _ => hG)
    · exact xs_icmp_gt hC (hd.at rfl) ht (fun z => absurd z hc) (fun _ => hG)
    · exact xs_icmp_le hC (hd.at rfl) ht (fun z => absurd z hc) (fun _ => hG)
theorem xd_acmp {o : ClassFile.ACond} {off : Int} (hC : xv_Cx p R s m args meth c cc w cl aty WS stt sx sc y.cls nL n0 z0 nE zE) (hd : xv_dec cc pc (.if_acmp o off)) (hI : ∀ a b, xv_cmp a b → xv_al w a = xv_al w b → a = b) (hj : 0 ≤ (pc : Int) + off) (ha : xv_act sc cp lg (.if_acmp o off, r, q) pc L st h = some x) (hG : xv_G p l e R s m args below meth c Q w cl rk lg nL n0 z0 x) : xv_G p l e R s m args below meth c Q w cl rk lg nL n0 z0 (pc, L, st, h) := by
  simp only [xv_act] at ha
  obtain ⟨b, t, rfl, ha1⟩ := xv_q1_inv ha
  obtain ⟨a, t, rfl, ha2⟩ := xv_q1_inv ha1
  obtain ⟨tg, ht⟩ := Int.eq_ofNat_of_zero_le hj
  split at ha2
  · rename_i hok
    rcases xv_if_inv ha2 with ⟨hc, t', h1, rfl⟩ | ⟨hc, rfl⟩
    · have e : t' = tg := Int.ofNat.inj (h1.symm.trans ht)
      subst e
      cases o <;> simp only [decide_eq_true_eq] at hc
      · exact xs_acmp_eq hI hok hC (hd.at rfl) ht (fun _ => hG) (fun z => absurd hc z)
      · exact xs_acmp_ne hI hok hC (hd.at rfl) ht (fun _ => hG) (fun z => absurd hc z)
    · cases o <;> simp only [decide_eq_false_iff_not] at hc
      · exact xs_acmp_eq hI hok hC (hd.at rfl) ht (fun z => absurd z hc) (fun _ => hG)
      · exact xs_acmp_ne hI hok hC (hd.at rfl) ht (fun z => absurd z hc) (fun _ => hG)
  · cases ha2
theorem xd_ifnull {off : Int} (hC : xv_Cx p R s m args meth c cc w cl aty WS stt sx sc y.cls nL n0 z0 nE zE) (hd : xv_dec cc pc (.ifnull off)) (hj : 0 ≤ (pc : Int) + off) (ha : xv_act sc cp lg (.ifnull off, r, q) pc L st h = some x) (hG : xv_G p l e R s m args below meth c Q w cl rk lg nL n0 z0 x) : xv_G p l e R s m args below meth c Q w cl rk lg nL n0 z0 (pc, L, st, h) := by
  simp only [xv_act] at ha
  obtain ⟨a, t, rfl, ha1⟩ := xv_q1_inv ha
  obtain ⟨tg, ht⟩ := Int.eq_ofNat_of_zero_le hj
  rcases xv_if_inv ha1 with ⟨hc, t', h1, rfl⟩ | ⟨hc, rfl⟩
  · have e : t' = tg := Int.ofNat.inj (h1.symm.trans ht)
    subst e
    simp only [decide_eq_true_eq] at hc
    exact xs_ifnull hC (hd.at rfl) ht (fun _ => hG) (fun z => absurd hc z)
  · simp only [decide_eq_false_iff_not] at hc
    exact xs_ifnull hC (hd.at rfl) ht (fun z => absurd z hc) (fun _ => hG)
theorem xd_ifnonnull {off : Int} (hC : xv_Cx p R s m args meth c cc w cl aty WS stt sx sc y.cls nL n0 z0 nE zE) (hd : xv_dec cc pc (.ifnonnull off)) (hj : 0 ≤ (pc : Int) + off) (ha : xv_act sc cp lg (.ifnonnull off, r, q) pc L st h = some x) (hG : xv_G p l e R s m args below meth c Q w cl rk lg nL n0 z0 x) : xv_G p l e R s m args below meth c Q w cl rk lg nL n0 z0 (pc, L, st, h) := by
  simp only [xv_act] at ha
  obtain ⟨a, t, rfl, ha1⟩ := xv_q1_inv ha
  obtain ⟨tg, ht⟩ := Int.eq_ofNat_of_zero_le hj
  rcases xv_if_inv ha1 with ⟨hc, t', h1, rfl⟩ | ⟨hc, rfl⟩
  · have e : t' = tg := Int.ofNat.inj (h1.symm.trans ht)
    subst e
    simp only [decide_eq_true_eq] at hc
    exact xs_ifnonnull hC (hd.at rfl) ht (fun _ => hG) (fun z => absurd hc z)
  · simp only [decide_eq_false_iff_not] at hc
    exact xs_ifnonnull hC (hd.at rfl) ht (fun z => absurd z hc) (fun _ => hG)
theorem xd_table {dflt lo hi : Int} {offs : Array Int} (hC : xv_Cx p R s m args meth c cc w cl aty WS stt sx sc y.cls nL n0 z0 nE zE) (hd : xv_dec cc pc (.tableswitch dflt lo hi offs)) (ha : xv_act sc cp lg (.tableswitch dflt lo hi offs, r, q) pc L st h = some x) (hG : xv_G p l e R s m args below meth c Q w cl rk lg nL n0 z0 x) : xv_G p l e R s m args below meth c Q w cl rk lg nL n0 z0 (pc, L, st, h) := by
  simp only [xv_act] at ha
  obtain ⟨a, t, rfl, ha1⟩ := xv_i1_inv ha
  obtain ⟨len, hd, -⟩ := hd
  split at ha1
  · rename_i hx
    obtain ⟨t', h1, rfl⟩ := xv_jmp_inv ha1
    exact xs_tabOut hC hd hx h1 hG
  · rename_i hx
    split at ha1
    · rename_i off ho
      obtain ⟨t', h1, rfl⟩ := xv_jmp_inv ha1
      exact xs_tabIn hC hd hx ho h1 hG
    · cases ha1
end XD
end
section
/-! The instructions that reach cells. -/
section XE
variable {p : Program} {l : Launch} {e : Env} {R : Room} {s : State} {m : MethodId} {args : Array Value} {below : List Frame} {meth : Method} {c : Code} {Q : State → Prop} {cc : ByteArray} {w : xv_W} {cl : List vw_C} {rk : Nat → Bool} {aty : List FieldType} {WS : List Jvm.Cond} {stt : List (String × String × String)} {sx : xv_X} {sc : Nat × (Nat → Int32)} {nL n0 z0 nE zE : Nat} {lg : List Nat} {pc : Nat} {L : xv_L} {st : List Value} {n z : Nat} {tg ln : Nat → Nat} {fr er : Nat → Nat → Option Nat} {fi ei : Nat → Nat → Int32} {el : Nat → Nat → Int64} {tyf : Nat → Nat → FieldType} {cp : Nat → Nat} {y : MethodName} {r q : Nat} {x : xv_N}
theorem xe_ldc {i : Nat} (hC : xv_Cx p R s m args meth c cc w cl aty WS stt sx sc y.cls nL n0 z0 nE zE) (hd : xv_dec cc pc (.ldc i)) (hT : xv_okC cl tyf rk aty WS) (hok : xv_okI sx cl tyf rk aty cp WS stt y pc (.ldc i, r, q)) (hE : x.2.2.2.1 ≤ nE) (hZ : x.2.2.2.2.1 ≤ zE) (ha : xv_act sc cp lg (.ldc i, r, q) pc L st (n, z, tg, ln, fr, er, fi, ei, el) = some x) (hG : xv_G p l e R s m args below meth c Q w cl rk lg nL n0 z0 x) : xv_G p l e R s m args below meth c Q w cl rk lg nL n0 z0 (pc, L, st, (n, z, tg, ln, fr, er, fi, ei, el)) := by
  rcases hok with ⟨h0, h1⟩ | ⟨h0, h1⟩
  · simp only at h0
    simp only [xv_act, h0, if_true] at ha
    cases xv_nx_inv ha
    exact fun ls H locs hl hR hS g1 g2 => lv_ldc hC.1.1 hC.1.2.1 hC.1.2.2.2.1 (hC.1.2.2.2.2 _ h1) (hd.at rfl) (hG ls H locs hl hR hS g1 g2)
  · simp only at h0
    simp only [xv_act, h0, if_true] at ha
    rw [if_neg (by decide)] at ha
    cases xv_nx_inv ha
    exact xs_ldcM hC (hd.at rfl) h1 hG
theorem xe_ldc2 {i : Nat} (hC : xv_Cx p R s m args meth c cc w cl aty WS stt sx sc y.cls nL n0 z0 nE zE) (hd : xv_dec cc pc (.ldc2_w i)) (hT : xv_okC cl tyf rk aty WS) (hok : xv_okI sx cl tyf rk aty cp WS stt y pc (.ldc2_w i, r, q)) (hE : x.2.2.2.1 ≤ nE) (hZ : x.2.2.2.2.1 ≤ zE) (ha : xv_act sc cp lg (.ldc2_w i, r, q) pc L st (n, z, tg, ln, fr, er, fi, ei, el) = some x) (hG : xv_G p l e R s m args below meth c Q w cl rk lg nL n0 z0 x) : xv_G p l e R s m args below meth c Q w cl rk lg nL n0 z0 (pc, L, st, (n, z, tg, ln, fr, er, fi, ei, el)) := by
  simp only [xv_act] at ha
  cases xv_nx_inv ha
  exact fun ls H locs hl hR hS g1 g2 => lv_ldc2 hC.1.1 hC.1.2.1 hC.1.2.2.2.1 (hC.1.2.2.2.2 _ hok) (hd.at rfl) (hG ls H locs hl hR hS g1 g2)
theorem xe_getf {i : Nat} (hC : xv_Cx p R s m args meth c cc w cl aty WS stt sx sc y.cls nL n0 z0 nE zE) (hd : xv_dec cc pc (.getfield i)) (hT : xv_okC cl tyf rk aty WS) (hok : xv_okI sx cl tyf rk aty cp WS stt y pc (.getfield i, r, q)) (hE : x.2.2.2.1 ≤ nE) (hZ : x.2.2.2.2.1 ≤ zE) (ha : xv_act sc cp lg (.getfield i, r, q) pc L st (n, z, tg, ln, fr, er, fi, ei, el) = some x) (hG : xv_G p l e R s m args below meth c Q w cl rk lg nL n0 z0 x) : xv_G p l e R s m args below meth c Q w cl rk lg nL n0 z0 (pc, L, st, (n, z, tg, ln, fr, er, fi, ei, el)) := by
  simp only [xv_act] at ha
  obtain ⟨ci, k, q0, ref, h1, h2, h3, h4, h5, h6, h7, h8⟩ := hok
  simp only at h1 h8
  subst h1
  obtain ⟨a, t, rfl, ha1⟩ := xv_r1_inv ha
  have e : (100 * ci + k) / 100 = ci := by omega
  simp only [e] at ha1
  split at ha1
  · rename_i hc
    cases xv_nx_inv ha1
    refine xs_getf hC (hd.at rfl) h4 (hT.1 ci q0 h4).1 h3 h5 h6 h7 hE hc.1 hc.2 ?_
    rw [h8]
    by_cases hq : q = 1
    · rw [if_pos hq] at hG
      rw [if_pos (by simpa using hq)]; exact hG
    · rw [if_neg hq] at hG
      rw [if_neg (by simpa using hq)]; exact hG
  · cases ha1
theorem xe_putf {i : Nat} (hC : xv_Cx p R s m args meth c cc w cl aty WS stt sx sc y.cls nL n0 z0 nE zE) (hd : xv_dec cc pc (.putfield i)) (hT : xv_okC cl tyf rk aty WS) (hok : xv_okI sx cl tyf rk aty cp WS stt y pc (.putfield i, r, q)) (hmn : meth.name = y.name) (hE : x.2.2.2.1 ≤ nE) (hZ : x.2.2.2.2.1 ≤ zE) (ha : xv_act sc cp lg (.putfield i, r, q) pc L st (n, z, tg, ln, fr, er, fi, ei, el) = some x) (hG : xv_G p l e R s m args below meth c Q w cl rk lg nL n0 z0 x) : xv_G p l e R s m args below meth c Q w cl rk lg nL n0 z0 (pc, L, st, (n, z, tg, ln, fr, er, fi, ei, el)) := by
  obtain ⟨ci, k, q0, ref, h1, h2, h3, h4, h5, h6, h7, h8, h9, h10, h11, h12⟩ := hok
  simp only at h1 h8 h10 h11 h12
  subst h1
  obtain ⟨hw, hty, hnm, -⟩ := hT.1 ci q0 h4
  have e : (100 * ci + k) / 100 = ci := by omega
  have hfin : (q0.2.1 k).2.2.2 = false ∨ ((q0.2.1 k).2.2.2 = true ∧ meth.name = "<init>" ∧ (q0.2.1 k).1 = y.cls) := by
    rcases h9 with h9 | ⟨a1, a2, a3⟩
    · exact Or.inl h9
    · exact Or.inr ⟨a1, hmn.trans a2, a3⟩
  simp only [xv_act] at ha
  by_cases hq : q = 1
  · rw [if_pos hq] at ha
    obtain ⟨o, t, rfl, ha1⟩ := xv_q1_inv ha
    obtain ⟨a, t, rfl, ha2⟩ := xv_r1_inv ha1
    simp only [e] at ha2
    split at ha2
    · rename_i hc
      cases xv_nx_inv ha2
      have hrk : rk (100 * ci + k) = true := by rw [h8]; simpa using hq
      have hre : narrow (tyf ci k) (xv_cv (xv_al w) (va_rf o)) = xv_cv (xv_al w) (va_rf o) ∧ fits (tyf ci k) (xv_cv (xv_al w) (va_rf o)) = true := by
        rcases h10 hq with ⟨C, hC⟩ | ⟨t, hC⟩ <;> rw [hC] <;> cases o <;> exact ⟨rfl, rfl⟩
      refine xs_putf (ty0 := tyf ci) (h' := (n, z, tg, ln, xv_up fr (100 * ci + k) a o, er, fi, ei, el)) hC (hd.at rfl) h4 hw h3 h5 h6 h7 hty hnm hfin hre.1 hre.2 hE hc.1 hc.2 rfl rfl rfl rfl ?_ (fun g b hne => ?_) (fun _ _ _ => rfl) hG
      · simp only [xv_fv, hrk, if_true, xv_up_eq]
      · simp only [xv_fv, xv_up_ne hne]
    · cases ha2
  · rw [if_neg hq] at ha
    obtain ⟨v, t, rfl, ha3⟩ := xv_i1_inv ha
    obtain ⟨a, t, rfl, ha4⟩ := xv_r1_inv ha3
    simp only [e] at ha4
    split at ha4
    · rename_i hc
      cases xv_nx_inv ha4
      have hrk : ¬ rk (100 * ci + k) = true := by rw [h8]; simpa using hq
      have hre : narrow (tyf ci k) (.int v) = .int v ∧ fits (tyf ci k) (.int v) = true := by
        rcases hc.2 with d | ⟨d, d1 | d1⟩
        · rw [h11 d]; exact ⟨rfl, rfl⟩
        · rw [h12 d, d1]; exact ⟨by decide, by decide⟩
        · rw [h12 d, d1]; exact ⟨by decide, by decide⟩
      refine xs_putf (ty0 := tyf ci) (v0 := .int v) (h' := (n, z, tg, ln, fr, er, xv_up fi (100 * ci + k) a v, ei, el)) hC (hd.at rfl) h4 hw h3 h5 h6 h7 hty hnm hfin hre.1 hre.2 hE hc.1.1 hc.1.2 rfl rfl rfl rfl ?_ (fun g b hne => ?_) (fun _ _ _ => rfl) hG
      · simp only [xv_fv, if_neg hrk, xv_up_eq]; rfl
      · simp only [xv_fv, xv_up_ne hne]
    · cases ha4
theorem xe_gets {i : Nat} (hC : xv_Cx p R s m args meth c cc w cl aty WS stt sx sc y.cls nL n0 z0 nE zE) (hd : xv_dec cc pc (.getstatic i)) (hT : xv_okC cl tyf rk aty WS) (hok : xv_okI sx cl tyf rk aty cp WS stt y pc (.getstatic i, r, q)) (hE : x.2.2.2.1 ≤ nE) (hZ : x.2.2.2.2.1 ≤ zE) (ha : xv_act sc cp lg (.getstatic i, r, q) pc L st (n, z, tg, ln, fr, er, fi, ei, el) = some x) (hG : xv_G p l e R s m args below meth c Q w cl rk lg nL n0 z0 x) : xv_G p l e R s m args below meth c Q w cl rk lg nL n0 z0 (pc, L, st, (n, z, tg, ln, fr, er, fi, ei, el)) := by
  simp only [xv_act] at ha
  obtain ⟨q0, ref, k, h0, h1, h2, h3⟩ := hok
  simp only at h0
  subst h0
  cases xv_nx_inv ha
  exact xs_gets hC (hd.at rfl) h1 h2 h3 hG
theorem xe_iald (hC : xv_Cx p R s m args meth c cc w cl aty WS stt sx sc y.cls nL n0 z0 nE zE) (hd : xv_dec cc pc (.iaload)) (hT : xv_okC cl tyf rk aty WS) (hok : xv_okI sx cl tyf rk aty cp WS stt y pc (.iaload, r, q)) (hE : x.2.2.2.1 ≤ nE) (hZ : x.2.2.2.2.1 ≤ zE) (ha : xv_act sc cp lg (.iaload, r, q) pc L st (n, z, tg, ln, fr, er, fi, ei, el) = some x) (hG : xv_G p l e R s m args below meth c Q w cl rk lg nL n0 z0 x) : xv_G p l e R s m args below meth c Q w cl rk lg nL n0 z0 (pc, L, st, (n, z, tg, ln, fr, er, fi, ei, el)) := by
  simp only [xv_act] at ha
  obtain ⟨i, t, rfl, ha1⟩ := xv_i1_inv ha
  obtain ⟨a, t, rfl, ha2⟩ := xv_r1_inv ha1
  split at ha2
  · rename_i ha0
    subst ha0
    split at ha2
    · rename_i hc
      cases xv_nx_inv ha2
      exact xs_sald hC (hd.at rfl) hc.1 hc.2 hG
    · cases ha2
  · obtain ⟨h1, h2, h3, ha3⟩ := xv_in_inv ha2
    split at ha3
    · rename_i hc
      cases xv_nx_inv ha3
      exact xs_iald hC (hd.at rfl) hT.2.1 hE h1 h2 h3 hc hG
    · cases ha3
theorem xe_bald (hC : xv_Cx p R s m args meth c cc w cl aty WS stt sx sc y.cls nL n0 z0 nE zE) (hd : xv_dec cc pc (.baload)) (hT : xv_okC cl tyf rk aty WS) (hok : xv_okI sx cl tyf rk aty cp WS stt y pc (.baload, r, q)) (hE : x.2.2.2.1 ≤ nE) (hZ : x.2.2.2.2.1 ≤ zE) (ha : xv_act sc cp lg (.baload, r, q) pc L st (n, z, tg, ln, fr, er, fi, ei, el) = some x) (hG : xv_G p l e R s m args below meth c Q w cl rk lg nL n0 z0 x) : xv_G p l e R s m args below meth c Q w cl rk lg nL n0 z0 (pc, L, st, (n, z, tg, ln, fr, er, fi, ei, el)) := by
  simp only [xv_act] at ha
  obtain ⟨i, t, rfl, ha1⟩ := xv_i1_inv ha
  obtain ⟨a, t, rfl, ha2⟩ := xv_r1_inv ha1
  obtain ⟨h1, h2, h3, ha3⟩ := xv_in_inv ha2
  split at ha3
  · rename_i hc
    cases xv_nx_inv ha3
    rcases hc with hc | hc
    · exact xs_bald hC (hd.at rfl) hT.2.2.1 hE h1 h2 h3 hc hG
    · exact xs_zald hC (hd.at rfl) hT.2.2.2.1 hE h1 h2 h3 hc hG
  · cases ha3
theorem xe_lald (hC : xv_Cx p R s m args meth c cc w cl aty WS stt sx sc y.cls nL n0 z0 nE zE) (hd : xv_dec cc pc (.laload)) (hT : xv_okC cl tyf rk aty WS) (hok : xv_okI sx cl tyf rk aty cp WS stt y pc (.laload, r, q)) (hE : x.2.2.2.1 ≤ nE) (hZ : x.2.2.2.2.1 ≤ zE) (ha : xv_act sc cp lg (.laload, r, q) pc L st (n, z, tg, ln, fr, er, fi, ei, el) = some x) (hG : xv_G p l e R s m args below meth c Q w cl rk lg nL n0 z0 x) : xv_G p l e R s m args below meth c Q w cl rk lg nL n0 z0 (pc, L, st, (n, z, tg, ln, fr, er, fi, ei, el)) := by
  simp only [xv_act] at ha
  obtain ⟨i, t, rfl, ha1⟩ := xv_i1_inv ha
  obtain ⟨a, t, rfl, ha2⟩ := xv_r1_inv ha1
  obtain ⟨h1, h2, h3, ha3⟩ := xv_in_inv ha2
  split at ha3
  · rename_i hc
    cases xv_nx_inv ha3
    exact xs_lald hC (hd.at rfl) hT.2.2.2.2 hE h1 h2 h3 hc hG
  · cases ha3
theorem xe_aald (hC : xv_Cx p R s m args meth c cc w cl aty WS stt sx sc y.cls nL n0 z0 nE zE) (hd : xv_dec cc pc (.aaload)) (hT : xv_okC cl tyf rk aty WS) (hok : xv_okI sx cl tyf rk aty cp WS stt y pc (.aaload, r, q)) (hE : x.2.2.2.1 ≤ nE) (hZ : x.2.2.2.2.1 ≤ zE) (ha : xv_act sc cp lg (.aaload, r, q) pc L st (n, z, tg, ln, fr, er, fi, ei, el) = some x) (hG : xv_G p l e R s m args below meth c Q w cl rk lg nL n0 z0 x) : xv_G p l e R s m args below meth c Q w cl rk lg nL n0 z0 (pc, L, st, (n, z, tg, ln, fr, er, fi, ei, el)) := by
  simp only [xv_act] at ha
  obtain ⟨j, C, e1, e2, e3⟩ := hok
  simp only at e1
  subst e1
  obtain ⟨i, t, rfl, ha1⟩ := xv_i1_inv ha
  obtain ⟨a, t, rfl, ha2⟩ := xv_r1_inv ha1
  obtain ⟨h1, h2, h3, ha3⟩ := xv_in_inv ha2
  split at ha3
  · rename_i hc
    cases xv_nx_inv ha3
    exact xs_aald hC (hd.at rfl) e3 e2 hE h1 h2 h3 hc hG
  · cases ha3
theorem xe_iast (hC : xv_Cx p R s m args meth c cc w cl aty WS stt sx sc y.cls nL n0 z0 nE zE) (hd : xv_dec cc pc (.iastore)) (hT : xv_okC cl tyf rk aty WS) (hok : xv_okI sx cl tyf rk aty cp WS stt y pc (.iastore, r, q)) (hE : x.2.2.2.1 ≤ nE) (hZ : x.2.2.2.2.1 ≤ zE) (ha : xv_act sc cp lg (.iastore, r, q) pc L st (n, z, tg, ln, fr, er, fi, ei, el) = some x) (hG : xv_G p l e R s m args below meth c Q w cl rk lg nL n0 z0 x) : xv_G p l e R s m args below meth c Q w cl rk lg nL n0 z0 (pc, L, st, (n, z, tg, ln, fr, er, fi, ei, el)) := by
  simp only [xv_act] at ha
  obtain ⟨v, t, rfl, ha1⟩ := xv_i1_inv ha
  obtain ⟨i, t, rfl, ha2⟩ := xv_i1_inv ha1
  obtain ⟨a, t, rfl, ha3⟩ := xv_r1_inv ha2
  obtain ⟨h1, h2, h3, ha4⟩ := xv_in_inv ha3
  split at ha4
  · rename_i hc
    cases xv_nx_inv ha4
    exact xs_iast hC (hd.at rfl) hT.2.1 hE h1 h2 h3 hc hG
  · cases ha4
theorem xe_last (hC : xv_Cx p R s m args meth c cc w cl aty WS stt sx sc y.cls nL n0 z0 nE zE) (hd : xv_dec cc pc (.lastore)) (hT : xv_okC cl tyf rk aty WS) (hok : xv_okI sx cl tyf rk aty cp WS stt y pc (.lastore, r, q)) (hE : x.2.2.2.1 ≤ nE) (hZ : x.2.2.2.2.1 ≤ zE) (ha : xv_act sc cp lg (.lastore, r, q) pc L st (n, z, tg, ln, fr, er, fi, ei, el) = some x) (hG : xv_G p l e R s m args below meth c Q w cl rk lg nL n0 z0 x) : xv_G p l e R s m args below meth c Q w cl rk lg nL n0 z0 (pc, L, st, (n, z, tg, ln, fr, er, fi, ei, el)) := by
  simp only [xv_act] at ha
  obtain ⟨v, t, rfl, ha1⟩ := xv_l1_inv ha
  obtain ⟨i, t, rfl, ha2⟩ := xv_i1_inv ha1
  obtain ⟨a, t, rfl, ha3⟩ := xv_r1_inv ha2
  obtain ⟨h1, h2, h3, ha4⟩ := xv_in_inv ha3
  split at ha4
  · rename_i hc
    cases xv_nx_inv ha4
    exact xs_last hC (hd.at rfl) hT.2.2.2.2 hE h1 h2 h3 hc hG
  · cases ha4
theorem xe_bast (hC : xv_Cx p R s m args meth c cc w cl aty WS stt sx sc y.cls nL n0 z0 nE zE) (hd : xv_dec cc pc (.bastore)) (hT : xv_okC cl tyf rk aty WS) (hok : xv_okI sx cl tyf rk aty cp WS stt y pc (.bastore, r, q)) (hE : x.2.2.2.1 ≤ nE) (hZ : x.2.2.2.2.1 ≤ zE) (ha : xv_act sc cp lg (.bastore, r, q) pc L st (n, z, tg, ln, fr, er, fi, ei, el) = some x) (hG : xv_G p l e R s m args below meth c Q w cl rk lg nL n0 z0 x) : xv_G p l e R s m args below meth c Q w cl rk lg nL n0 z0 (pc, L, st, (n, z, tg, ln, fr, er, fi, ei, el)) := by
  simp only [xv_act] at ha
  obtain ⟨v, t, rfl, ha1⟩ := xv_i1_inv ha
  obtain ⟨i, t, rfl, ha2⟩ := xv_i1_inv ha1
  obtain ⟨a, t, rfl, ha3⟩ := xv_r1_inv ha2
  obtain ⟨h1, h2, h3, ha4⟩ := xv_in_inv ha3
  split at ha4
  · rename_i hc
    cases xv_nx_inv ha4
    exact xs_bast hC (hd.at rfl) hT.2.2.1 hE h1 h2 h3 hc hG
  · split at ha4
    · rename_i hc
      cases xv_nx_inv ha4
      exact xs_zast hC (hd.at rfl) hT.2.2.2.1 hE h1 h2 h3 hc.1 hc.2 hG
    · cases ha4
theorem xe_aast (hC : xv_Cx p R s m args meth c cc w cl aty WS stt sx sc y.cls nL n0 z0 nE zE) (hd : xv_dec cc pc (.aastore)) (hT : xv_okC cl tyf rk aty WS) (hok : xv_okI sx cl tyf rk aty cp WS stt y pc (.aastore, r, q)) (hE : x.2.2.2.1 ≤ nE) (hZ : x.2.2.2.2.1 ≤ zE) (ha : xv_act sc cp lg (.aastore, r, q) pc L st (n, z, tg, ln, fr, er, fi, ei, el) = some x) (hG : xv_G p l e R s m args below meth c Q w cl rk lg nL n0 z0 x) : xv_G p l e R s m args below meth c Q w cl rk lg nL n0 z0 (pc, L, st, (n, z, tg, ln, fr, er, fi, ei, el)) := by
  simp only [xv_act] at ha
  obtain ⟨j, C, q0, e1, e2, e3, e4, e5, e6⟩ := hok
  simp only at e1 e4 e5
  subst e1
  obtain ⟨o, t, rfl, ha1⟩ := xv_q1_inv ha
  obtain ⟨i, t, rfl, ha2⟩ := xv_i1_inv ha1
  obtain ⟨a, t, rfl, ha3⟩ := xv_r1_inv ha2
  obtain ⟨h1, h2, h3, ha4⟩ := xv_in_inv ha3
  split at ha4
  · rename_i hc
    cases xv_nx_inv ha4
    cases o with
    | none => exact xs_aastN hC (hd.at rfl) e3 e2 hE h1 h2 h3 hc.1 hG
    | some b =>
      have hb := hc.2
      simp only [xv_ok, decide_eq_true_eq] at hb
      have hc1 : tg a = 100 + j := hc.1
      rw [hc1] at hb
      exact xs_aast hC (hd.at rfl) e3 e2 e4 e5 e6 hE h1 h2 h3 hc.1 hb.1 hb.2 hG
  · cases ha4
theorem xe_alen (hC : xv_Cx p R s m args meth c cc w cl aty WS stt sx sc y.cls nL n0 z0 nE zE) (hd : xv_dec cc pc (.arraylength)) (hT : xv_okC cl tyf rk aty WS) (hok : xv_okI sx cl tyf rk aty cp WS stt y pc (.arraylength, r, q)) (hE : x.2.2.2.1 ≤ nE) (hZ : x.2.2.2.2.1 ≤ zE) (ha : xv_act sc cp lg (.arraylength, r, q) pc L st (n, z, tg, ln, fr, er, fi, ei, el) = some x) (hG : xv_G p l e R s m args below meth c Q w cl rk lg nL n0 z0 x) : xv_G p l e R s m args below meth c Q w cl rk lg nL n0 z0 (pc, L, st, (n, z, tg, ln, fr, er, fi, ei, el)) := by
  simp only [xv_act] at ha
  obtain ⟨j, ty, e1, e2⟩ := hok
  simp only at e1
  subst e1
  obtain ⟨a, t, rfl, ha1⟩ := xv_r1_inv ha
  split at ha1
  · rename_i ha0
    subst ha0
    cases xv_nx_inv ha1
    exact xs_slen hC (hd.at rfl) hG
  · split at ha1
    · rename_i hc
      obtain ⟨rfl, -⟩ := hc
      cases xv_nx_inv ha1
      exact xs_elen hC (hd.at rfl) hG
    · split at ha1
      · rename_i hc
        cases xv_nx_inv ha1
        exact xs_alen hC (hd.at rfl) e2 hE hc.1 hc.2 hG
      · cases ha1
theorem xe_new {i : Nat} (hC : xv_Cx p R s m args meth c cc w cl aty WS stt sx sc y.cls nL n0 z0 nE zE) (hd : xv_dec cc pc (.new i)) (hT : xv_okC cl tyf rk aty WS) (hok : xv_okI sx cl tyf rk aty cp WS stt y pc (.new i, r, q)) (hE : x.2.2.2.1 ≤ nE) (hZ : x.2.2.2.2.1 ≤ zE) (ha : xv_act sc cp lg (.new i, r, q) pc L st (n, z, tg, ln, fr, er, fi, ei, el) = some x) (hG : xv_G p l e R s m args below meth c Q w cl rk lg nL n0 z0 x) : xv_G p l e R s m args below meth c Q w cl rk lg nL n0 z0 (pc, L, st, (n, z, tg, ln, fr, er, fi, ei, el)) := by
  simp only [xv_act] at ha
  obtain ⟨q0, h1, h2, h3, h4, h5, h6⟩ := hok
  simp only at h1 h2 h3
  subst h3
  obtain ⟨hw, hty, hnm, hdf⟩ := hT.1 r q0 h1
  cases xv_nx_inv ha
  exact xs_new (ty0 := tyf r) hC (hd.at rfl) h1 h2 hw h4 h5 h6 hty hdf hE hZ hG
theorem xe_newa {t : ClassFile.ArrayType} (hC : xv_Cx p R s m args meth c cc w cl aty WS stt sx sc y.cls nL n0 z0 nE zE) (hd : xv_dec cc pc (.newarray t)) (hT : xv_okC cl tyf rk aty WS) (hok : xv_okI sx cl tyf rk aty cp WS stt y pc (.newarray t, r, q)) (hE : x.2.2.2.1 ≤ nE) (hZ : x.2.2.2.2.1 ≤ zE) (ha : xv_act sc cp lg (.newarray t, r, q) pc L st (n, z, tg, ln, fr, er, fi, ei, el) = some x) (hG : xv_G p l e R s m args below meth c Q w cl rk lg nL n0 z0 x) : xv_G p l e R s m args below meth c Q w cl rk lg nL n0 z0 (pc, L, st, (n, z, tg, ln, fr, er, fi, ei, el)) := by
  simp only [xv_act] at ha
  obtain ⟨j, e1, e2, e3, e4⟩ := hok
  simp only at e1
  subst e1
  obtain ⟨k, t0, rfl, ha1⟩ := xv_i1_inv ha
  obtain ⟨h1, h2, ha2⟩ := xv_len_inv ha1
  cases xv_nx_inv ha2
  exact xs_newa hC (hd.at rfl) e2 e3 e4 h1 h2 hE hZ hG
theorem xe_anew {i : Nat} (hC : xv_Cx p R s m args meth c cc w cl aty WS stt sx sc y.cls nL n0 z0 nE zE) (hd : xv_dec cc pc (.anewarray i)) (hT : xv_okC cl tyf rk aty WS) (hok : xv_okI sx cl tyf rk aty cp WS stt y pc (.anewarray i, r, q)) (hE : x.2.2.2.1 ≤ nE) (hZ : x.2.2.2.2.1 ≤ zE) (ha : xv_act sc cp lg (.anewarray i, r, q) pc L st (n, z, tg, ln, fr, er, fi, ei, el) = some x) (hG : xv_G p l e R s m args below meth c Q w cl rk lg nL n0 z0 x) : xv_G p l e R s m args below meth c Q w cl rk lg nL n0 z0 (pc, L, st, (n, z, tg, ln, fr, er, fi, ei, el)) := by
  simp only [xv_act] at ha
  obtain ⟨j, C, e1, e2, e3, e4, e5⟩ := hok
  simp only at e1
  subst e1
  obtain ⟨k, t0, rfl, ha1⟩ := xv_i1_inv ha
  obtain ⟨h1, h2, ha2⟩ := xv_len_inv ha1
  cases xv_nx_inv ha2
  exact xs_anew hC (hd.at rfl) e3 e2 e4 e5 h1 h2 hE hZ hG
theorem xe_cast {i : Nat} (hC : xv_Cx p R s m args meth c cc w cl aty WS stt sx sc y.cls nL n0 z0 nE zE) (hd : xv_dec cc pc (.checkcast i)) (hT : xv_okC cl tyf rk aty WS) (hok : xv_okI sx cl tyf rk aty cp WS stt y pc (.checkcast i, r, q)) (hE : x.2.2.2.1 ≤ nE) (hZ : x.2.2.2.2.1 ≤ zE) (ha : xv_act sc cp lg (.checkcast i, r, q) pc L st (n, z, tg, ln, fr, er, fi, ei, el) = some x) (hG : xv_G p l e R s m args below meth c Q w cl rk lg nL n0 z0 x) : xv_G p l e R s m args below meth c Q w cl rk lg nL n0 z0 (pc, L, st, (n, z, tg, ln, fr, er, fi, ei, el)) := by
  simp only [xv_act] at ha
  split at ha
  · cases xv_nx_inv ha
    exact xs_castN hC (hd.at rfl) hG
  · split at ha
    · rename_i hc
      cases xv_nx_inv ha
      rcases hok with ⟨q0, e1, e2, e3⟩ | ⟨j, ty, e1, e2, e3⟩
      · exact xs_cast hC (hd.at rfl) e1 e2 e3 hE hc.1 hc.2 hG
      · simp only at e1
        subst e1
        exact xs_castA hC (hd.at rfl) e2 e3 (xv_nm (hC.2.1.2 j ty e2).2) hE hc.1 hc.2 hG
    · cases ha
  · cases ha
end XE
end
section
/-! All plain instructions; what grows; calls; the machine does what the abstract one does. -/
theorem xv_act_grows {sc : Nat × (Nat → Int32)} {cp : Nat → Nat} {lg : List Nat} {ic : xv_I} {pc : Nat} {L : xv_L} {st : List Value} {h : xv_H} {x : xv_N} (ha : xv_act sc cp lg ic pc L st h = some x) : h.1 ≤ x.2.2.2.1 ∧ h.2.1 ≤ x.2.2.2.2.1 := by
  obtain ⟨I, r, q⟩ := ic
  obtain ⟨n, z, tg, ln, fr, er, fi, ei, el⟩ := h
  cases I <;> simp only [xv_act, xv_i1, xv_i2, xv_l1, xv_l2, xv_li, xv_r1, xv_q1, xv_v1, xv_in, xv_iload, xv_lload, xv_aload, xv_st1, xv_st2, xv_len, xv_if, xv_jmp, xv_nx, xv_new1, xv_new] at ha <;> (repeat' split at ha) <;> first | (cases ha; exact ⟨Nat.le_refl _, Nat.le_refl _⟩) | (cases ha; exact ⟨Nat.le_succ _, Nat.le_add_right _ _⟩) | cases ha
section XP
variable {p : Program} {l : Launch} {e : Env} {R : Room} {s : State} {m : MethodId} {args : Array Value} {below : List Frame} {meth : Method} {c : Code} {Q : State → Prop} {cc : ByteArray} {w : xv_W} {cl : List vw_C} {rk : Nat → Bool} {aty : List FieldType} {WS : List Jvm.Cond} {stt : List (String × String × String)} {sx : xv_X} {sc : Nat × (Nat → Int32)} {nL n0 z0 nE zE : Nat} {lg : List Nat} {pc : Nat} {L : xv_L} {st : List Value} {h : xv_H} {tyf : Nat → Nat → FieldType} {cp : Nat → Nat} {y : MethodName} {ic : xv_I} {x : xv_N}
theorem xv_plain (hC : xv_Cx p R s m args meth c cc w cl aty WS stt sx sc y.cls nL n0 z0 nE zE) (hd : xv_dec cc pc ic.1) (hT : xv_okC cl tyf rk aty WS) (hok : xv_okI sx cl tyf rk aty cp WS stt y pc ic) (hmn : meth.name = y.name) (hI : ∀ a b, xv_cmp a b → xv_al w a = xv_al w b → a = b) (hE : x.2.2.2.1 ≤ nE) (hZ : x.2.2.2.2.1 ≤ zE) (ha : xv_act sc cp lg ic pc L st h = some x) (hG : xv_G p l e R s m args below meth c Q w cl rk lg nL n0 z0 x) : xv_G p l e R s m args below meth c Q w cl rk lg nL n0 z0 (pc, L, st, h) := by
  obtain ⟨I, r, q⟩ := ic
  obtain ⟨n, z, tg, ln, fr, er, fi, ei, el⟩ := h
  cases I
  case aconst_null => exact xd_null hC hd ha hG
  case iconst => exact xd_iconst hC hd ha hG
  case bipush => exact xd_bipush hC hd ha hG
  case sipush => exact xd_sipush hC hd ha hG
  case lconst => exact xd_lconst hC hd ha hG
  case ldc => exact xe_ldc hC hd hT hok hE hZ ha hG
  case ldc2_w => exact xe_ldc2 hC hd hT hok hE hZ ha hG
  case iload => exact xd_iload hC hd ha hG
  case iload_n => exact xd_iload_n hC hd ha hG
  case lload => exact xd_lload hC hd ha hG
  case lload_n => exact xd_lload_n hC hd ha hG
  case aload => exact xd_aload hC hd ha hG
  case aload_n => exact xd_aload_n hC hd ha hG
  case istore => exact xd_istore hC hd ha hG
  case istore_n => exact xd_istore_n hC hd ha hG
  case lstore => exact xd_lstore hC hd ha hG
  case lstore_n => exact xd_lstore_n hC hd ha hG
  case astore => exact xd_astore hC hd ha hG
  case astore_n => exact xd_astore_n hC hd ha hG
  case iinc => exact xd_iinc hC hd ha hG
  case iadd => exact xd_iadd hC hd ha hG
  case isub => exact xd_isub hC hd ha hG
  case imul => exact xd_imul hC hd ha hG
  case iand => exact xd_iand hC hd ha hG
  case ior => exact xd_ior hC hd ha hG
  case idiv => exact xd_idiv hC hd ha hG
  case irem => exact xd_irem hC hd ha hG
  case ishl => exact xd_ishl hC hd ha hG
  case ishr => exact xd_ishr hC hd ha hG
  case ladd => exact xd_ladd hC hd ha hG
  case lmul => exact xd_lmul hC hd ha hG
  case land => exact xd_land hC hd ha hG
  case lor => exact xd_lor hC hd ha hG
  case lxor => exact xd_lxor hC hd ha hG
  case lshl => exact xd_lshl hC hd ha hG
  case lshr => exact xd_lshr hC hd ha hG
  case i2l => exact xd_i2l hC hd ha hG
  case l2i => exact xd_l2i hC hd ha hG
  case i2b => exact xd_i2b hC hd ha hG
  case pop => exact xd_pop hC hd ha hG
  case dup => exact xd_dup hC hd ha hG
  case dup_x1 => exact xd_dup_x1 hC hd ha hG
  case dup_x2 => exact xd_dup_x2 hC hd ha hG
  case dup2 => exact xd_dup2 hC hd ha hG
  case ifCond => exact xd_if hC hd hok ha hG
  case if_icmp => exact xd_icmp hC hd hok ha hG
  case if_acmp => exact xd_acmp hC hd hI hok ha hG
  case ifnull => exact xd_ifnull hC hd hok ha hG
  case ifnonnull => exact xd_ifnonnull hC hd hok ha hG
  case goto => exact xd_goto hC hd ha hG
  case tableswitch => exact xd_table hC hd ha hG
  case getfield => exact xe_getf hC hd hT hok hE hZ ha hG
  case putfield => exact xe_putf hC hd hT hok hmn hE hZ ha hG
  case getstatic => exact xe_gets hC hd hT hok hE hZ ha hG
  case iaload => exact xe_iald hC hd hT hok hE hZ ha hG
  case baload => exact xe_bald hC hd hT hok hE hZ ha hG
  case laload => exact xe_lald hC hd hT hok hE hZ ha hG
  case aaload => exact xe_aald hC hd hT hok hE hZ ha hG
  case iastore => exact xe_iast hC hd hT hok hE hZ ha hG
  case bastore => exact xe_bast hC hd hT hok hE hZ ha hG
  case lastore => exact xe_last hC hd hT hok hE hZ ha hG
  case aastore => exact xe_aast hC hd hT hok hE hZ ha hG
  case arraylength => exact xe_alen hC hd hT hok hE hZ ha hG
  case new => exact xe_new hC hd hT hok hE hZ ha hG
  case newarray => exact xe_newa hC hd hT hok hE hZ ha hG
  case anewarray => exact xe_anew hC hd hT hok hE hZ ha hG
  case checkcast => exact xe_cast hC hd hT hok hE hZ ha hG
  all_goals cases ha
end XP
end
section
/-! Calls, returns; the machine does what the abstract one does. -/
def xv_rm (k : Nat × Nat) (mc ms : Nat) : Room := { frames := k.1, cells := mc, slots := ms, locals := k.2 }
/-- returns and calls are resolved as the words say -/
def xv_okJ (yL : Nat) (sx : xv_X) (mt : List xv_M) (cl : List vw_C) (aty : List FieldType) (cp cs : Nat → Nat) (WS : List Jvm.Cond) (M : xv_M) (ic : xv_I) : Prop := match ic.1 with
  | .ireturn => (ic.2.2 = 0 → M.2.2.2.1 = some .int) ∧ (ic.2.2 = 2 → M.2.2.2.1 = some .boolean)
  | .lreturn => M.2.2.2.1 = some .long
  | .areturn => ∃ rt, M.2.2.2.1 = some rt ∧ ((∃ n, rt = .object n) ∨ ∃ t, rt = .array t)
  | .return_ => M.2.2.2.1 = none
  | .invokestatic i => if ic.2.1 = 1000 then 1 ≤ M.2.2.2.2.1 ∧ 26 ≤ M.2.2.2.2.2 ∧ Jvm.Cond.methodLink M.1.cls i arraycopyName ∈ WS ∧ Jvm.Cond.native arraycopyName ∈ WS ∧ Jvm.Cond.static arraycopyName ∈ WS ∧ Jvm.Cond.initialized "java/lang/System" ∈ WS ∧ (104 ≤ ic.2.2 → ∃ (j : Nat) (C : String) (q : vw_C), ic.2.2 = 100 + j ∧ aty[j]? = some (.object C) ∧ cl[cp ic.2.2]? = some q ∧ cp ic.2.2 < 100 ∧ (C = q.1 ∨ (q.1, C) ∈ sx.1))
      else if ic.2.1 = 1004 then 1 ≤ M.2.2.2.2.1 ∧ 26 ≤ M.2.2.2.2.2 ∧ Jvm.Cond.methodLink M.1.cls i Lib.Math.min.name ∈ WS ∧ Jvm.Cond.static Lib.Math.min.name ∈ WS ∧ Jvm.Cond.initialized "java/lang/Math" ∈ WS ∧ Jvm.Cond.code Lib.Math.min.name Lib.Math.min.code 2 (some .int) ∈ WS
      else if ic.2.1 = 1005 then 1 ≤ M.2.2.2.2.1 ∧ 26 ≤ M.2.2.2.2.2 ∧ Jvm.Cond.methodLink M.1.cls i Lib.Math.max.name ∈ WS ∧ Jvm.Cond.static Lib.Math.max.name ∈ WS ∧ Jvm.Cond.initialized "java/lang/Math" ∈ WS ∧ Jvm.Cond.code Lib.Math.max.name Lib.Math.max.code 2 (some .int) ∈ WS
      else ic.2.1 ≠ yL ∧ ∃ M' : xv_M, mt[ic.2.1]? = some M' ∧ M'.2.2.2.2.1 < M.2.2.2.2.1 ∧ 19 + M'.2.2.1 + M'.2.2.2.2.2 ≤ M.2.2.2.2.2 ∧ Jvm.Cond.methodLink M.1.cls i M'.1 ∈ WS ∧ Jvm.Cond.static M'.1 ∈ WS ∧ (parseMethodDescriptor M'.1.desc).map (fun d => d.parameters.length) = some ic.2.2
  | .invokespecial i => if ic.2.1 = 1001 then 1 ≤ M.2.2.2.2.1 ∧ 26 ≤ M.2.2.2.2.2 ∧ Jvm.Cond.methodLink M.1.cls i Lib.objectInit ∈ WS ∧ Jvm.Cond.instanceMethod Lib.objectInit ∈ WS ∧ Jvm.Cond.code Lib.objectInit ⟨#[0xb1]⟩ 1 none ∈ WS
      else ic.2.1 ≠ yL ∧ ∃ M' : xv_M, mt[ic.2.1]? = some M' ∧ M'.2.2.2.2.1 < M.2.2.2.2.1 ∧ 19 + M'.2.2.1 + M'.2.2.2.2.2 ≤ M.2.2.2.2.2 ∧ M'.2.2.2.1 = none ∧ M'.1.name = "<init>" ∧ (Jvm.Cond.methodLink M.1.cls i M'.1 ∈ WS ∨ ∃ host, (M.1.cls, i, M'.1, host) ∈ sx.2.2) ∧ Jvm.Cond.instanceMethod M'.1 ∈ WS ∧ (parseMethodDescriptor M'.1.desc).map (fun d => d.parameters.length) = some ic.2.2
  | .invokevirtual i => if ic.2.1 = 1002 then 1 ≤ M.2.2.2.2.1 ∧ 26 ≤ M.2.2.2.2.2 ∧ Jvm.Cond.methodLink M.1.cls i ⟨"[I", "clone", "()Ljava/lang/Object;"⟩ ∈ WS ∧ Jvm.Cond.sameMethod "[I" "java/lang/Object" "clone" "()Ljava/lang/Object;" ∈ WS ∧ Jvm.Cond.native ⟨"java/lang/Object", "clone", "()Ljava/lang/Object;"⟩ ∈ WS ∧ Jvm.Cond.instanceMethod ⟨"java/lang/Object", "clone", "()Ljava/lang/Object;"⟩ ∈ WS ∧ Jvm.Cond.selects "[I" ⟨"[I", "clone", "()Ljava/lang/Object;"⟩ ⟨"java/lang/Object", "clone", "()Ljava/lang/Object;"⟩ ∈ WS ∧ ("[I", "java/lang/Cloneable") ∈ sx.1
      else if ic.2.1 = 1003 then 1 ≤ M.2.2.2.2.1 ∧ 26 ≤ M.2.2.2.2.2 ∧ (∃ j, ic.2.2 = 100 + j ∧ aty[j]? = some (.object "java/lang/Object")) ∧ Jvm.Cond.methodLink M.1.cls i ⟨"java/lang/Object", "getClass", "()Ljava/lang/Class;"⟩ ∈ WS ∧ Jvm.Cond.selects "[Ljava/lang/Object;" ⟨"java/lang/Object", "getClass", "()Ljava/lang/Class;"⟩ ⟨"java/lang/Object", "getClass", "()Ljava/lang/Class;"⟩ ∈ WS ∧ Jvm.Cond.instanceMethod ⟨"java/lang/Object", "getClass", "()Ljava/lang/Class;"⟩ ∈ WS ∧ Jvm.Cond.native ⟨"java/lang/Object", "getClass", "()Ljava/lang/Class;"⟩ ∈ WS
      else ic.2.1 ≠ yL ∧ ∃ (M' : xv_M) (q : vw_C), mt[ic.2.1]? = some M' ∧ M'.2.2.2.2.1 < M.2.2.2.2.1 ∧ 19 + M'.2.2.1 + M'.2.2.2.2.2 ≤ M.2.2.2.2.2 ∧ cl[cs ic.2.1]? = some q ∧ cs ic.2.1 < 100 ∧ q.1 = M'.1.cls ∧ Jvm.Cond.methodLink M.1.cls i M'.1 ∈ WS ∧ Jvm.Cond.instanceMethod M'.1 ∈ WS ∧ Jvm.Cond.selects M'.1.cls M'.1 M'.1 ∈ WS ∧ (parseMethodDescriptor M'.1.desc).map (fun d => d.parameters.length) = some ic.2.2
  | _ => True
def xv_Tab (yL : Nat) (sx : xv_X) (mt : List xv_M) (cl : List vw_C) (tyf : Nat → Nat → FieldType) (rk : Nat → Bool) (aty : List FieldType) (cp cs : Nat → Nat) (WS : List Jvm.Cond) (stt : List (String × String × String)) (cd : Nat → Nat → Option xv_I) (mx : Nat → Nat) : Prop :=
  xv_okC cl tyf rk aty WS ∧ (∀ x ∈ WS, (x.onTables && x.keeps) = true ∨ ∃ ty, x = .arrayClass ty) ∧
  ∀ (y : Nat) (M : xv_M), mt[y]? = some M → (y ≠ yL → plainName M.1.cls = true ∧ (M.1.cls ≠ "java/lang/invoke/MethodHandle" ∧ M.1.cls ≠ "java/lang/invoke/VarHandle") ∧ Jvm.Cond.code M.1 M.2.1 M.2.2.1 M.2.2.2.1 ∈ WS ∧ Jvm.Cond.initialized M.1.cls ∈ WS) ∧ mx y = M.2.2.1 ∧
    ∀ (pc : Nat) (ic : xv_I), cd y pc = some ic → xv_dec M.2.1 pc ic.1 ∧ xv_okI sx cl tyf rk aty cp WS stt M.1 pc ic ∧ xv_okJ yL sx mt cl aty cp cs WS M ic
/-- what the tables say, at any state of the run -/
def xv_K0 (w : xv_W) (cl : List vw_C) (aty : List FieldType) (stt : List (String × String × String)) (sx : xv_X) (sc : Nat × (Nat → Int32)) (U : State) : Prop :=
  (va_K w.2.2.2.1 cl [] U ∧ ∀ (j : Nat) (ty : FieldType), aty[j]? = some ty → ArrOfT U (w.2.2.2.2.1 j) ty ∧ va_RA U (w.2.2.2.2.1 j) ty) ∧
  (va_X (w.2.2.1 0) sc.1 sc.2 U w.2.2.2.2.2 ∧ w.2.2.1 0 < w.1 ∧ 2 < w.2.1 ∧ ∃ fv : Nat → Value, va_T (.object "java/lang/Object") (w.2.2.1 2) 0 fv (fun a => w.1 ≤ a) U w.2.2.2.2.2) ∧
  xv_E w sx U ∧ ∀ (k : Nat) (q : String × String × String), stt[k]? = some q → k + 2 < w.2.1 ∧ va_Z q.1 q.2.1 q.2.2 (.ref (w.2.2.1 (k + 2))) (fun a => w.1 ≤ a) U w.2.2.2.2.2
theorem xv_K0.moved {w : xv_W} {cl : List vw_C} {aty : List FieldType} {stt : List (String × String × String)} {sx : xv_X} {sc : Nat × (Nat → Int32)} {u U : State} (hW : u.WarmedH U.vm) (h : xv_K0 w cl aty stt sx sc u) : xv_K0 w cl aty stt sx sc U := by
  obtain ⟨⟨h1, h2⟩, ⟨h3, h4, h5, fv, h6⟩, h8, h7⟩ := h
  have hvm := hW.alike
  exact ⟨⟨va_K.moved hvm h1, fun j ty hj => ⟨arrOfT_moved hvm (h2 j ty hj).1, (h2 j ty hj).2.moved hvm⟩⟩, ⟨va_X.moved hvm h3, h4, h5, fv, h6.moved hvm⟩, h8.warm hW, fun k q hk => ⟨(h7 k q hk).1, (h7 k q hk).2.moved hvm⟩⟩
def xv_Pc (w : xv_W) (cl : List vw_C) (rk : Nat → Bool) (aty : List FieldType) (stt : List (String × String × String)) (sx : xv_X) (sc : Nat × (Nat → Int32)) (h : xv_H) (av : List Value) : Array Value → State → Prop := fun v U => v = (av.map (xv_cv (xv_al w))).toArray ∧ xv_K0 w cl aty stt sx sc U ∧ xv_R w cl rk h U.heap
def xv_Qc (w : xv_W) (cl : List vw_C) (rk : Nat → Bool) (r : Option Value) (h : xv_H) : Array Value → State → Outcome → State → Prop := fun _ _ o t => o = .returned (r.map (xv_cv (xv_al w))) ∧ xv_R w cl rk h t.heap
theorem xv_Pc_blind {w : xv_W} {cl : List vw_C} {rk : Nat → Bool} {aty : List FieldType} {stt : List (String × String × String)} {sx : xv_X} {sc : Nat × (Nat → Int32)} {h : xv_H} {av : List Value} : FrameBlind (xv_Pc w cl rk aty stt sx sc h av) := fun _ _ _ _ hp => hp
/-- what is so at a method's start -/
theorem xv_Cx_of {p : Program} {R : Room} {s : State} {m : MethodId} {args : Array Value} {meth : Method} {c : Code} {cc : ByteArray} {w : xv_W} {cl : List vw_C} {rk : Nat → Bool} {aty : List FieldType} {WS : List Jvm.Cond} {stt : List (String × String × String)} {sx : xv_X} {sc : Nat × (Nat → Int32)} {own : String} {nL n0 z0 nE zE : Nat} {h : xv_H}
    (hx : p.tables.exec = Jvm.exec) (hb : c.code = cc) (hml : c.maxLocals = nL) (hown : s.vm.findClass own = some m.cls) (hts : ∀ x ∈ WS, x.before args s = true) (hK : xv_K0 w cl aty stt sx sc s) (hR : xv_R w cl rk h s.heap) (hwo : w.1 ≤ w.2.2.2.2.2.size) (h1 : nE ≤ R.cells + n0) (h2 : zE ≤ R.slots + z0) (h3 : nE ≤ xv_SB) : xv_Cx p R s m args meth c cc w cl aty WS stt sx sc own nL n0 z0 nE zE := by
  obtain ⟨g1, ⟨g2, g3, g4, fv, g5⟩, g7, g6⟩ := hK
  have hq : ∀ a : Nat, ¬ w.1 ≤ a → s.heap[a]? = w.2.2.2.2.2[a]? := fun a ha => hR.2.1 a (by omega)
  refine ⟨⟨hx, hb, hml, hown, hts⟩, g1, ⟨h1, h2, h3, by rw [hR.1]; exact Nat.le_add_right _ _⟩, ⟨va_X.kept g2 (hq _ (by omega)), g3, g4, fv, ?_⟩, g7, fun k q hk => ⟨(g6 k q hk).1, va_Z.kept (g6 k q hk).2 (fun a _ ha => hq a ha)⟩⟩
  obtain ⟨cell, d1, d2, d3, d4, d5, d6, d7⟩ := g5
  exact ⟨cell, by rw [hq _ d7]; exact d1, d2, d3, d4, d5, d6, d7⟩
section XM
variable {p : Program} {l : Launch} {e : Env} {R : Room} {s : State} {m : MethodId} {args : Array Value} {below : List Frame} {meth : Method} {c : Code} {Q : State → Prop} {w : xv_W} {cl : List vw_C} {rk : Nat → Bool} {aty : List FieldType} {WS : List Jvm.Cond} {stt : List (String × String × String)} {sx : xv_X} {sc : Nat × (Nat → Int32)} {tyf : Nat → Nat → FieldType} {cp cs : Nat → Nat} {yL : Nat} {mt : List xv_M} {cd : Nat → Nat → Option xv_I} {lgs : Nat → List Nat} {mx : Nat → Nat}
/-- a method's walk from any point of it, if the abstract one ends -/
def xv_Sound (l : Launch) (w : xv_W) (cl : List vw_C) (rk : Nat → Bool) (aty : List FieldType) (WS : List Jvm.Cond) (stt : List (String × String × String)) (sx : xv_X) (sc : Nat × (Nat → Int32)) (cp cs : Nat → Nat) (mt : List xv_M) (cd : Nat → Nat → Option xv_I) (lgs : Nat → List Nat) (mx : Nat → Nat) (f : Nat) : Prop :=
  ∀ (y pc : Nat) (L : xv_L) (st : List Value) (h : xv_H) (r : Option Value) (h' : xv_H), xv_exec sc cd cp cs lgs mx f y pc L st h = some (r, h') → (h.1 ≤ h'.1 ∧ h.2.1 ≤ h'.2.1) ∧
    ∀ (M : xv_M), mt[y]? = some M → ∀ (p : Program) (e : Env) (R : Room) (s : State) (m : MethodId) (args : Array Value) (below : List Frame) (meth : Method) (c : Code) (Q : State → Prop) (n0 z0 : Nat),
      xv_Cx p R s m args meth c M.2.1 w cl aty WS stt sx sc M.1.cls M.2.2.1 n0 z0 h'.1 h'.2.1 → meth.name = M.1.name → M.2.2.2.2.1 ≤ R.frames → M.2.2.2.2.2 ≤ R.locals → xv_K0 w cl aty stt sx sc s → (∀ q, q < w.1 → s.heap[q]? = w.2.2.2.2.2[q]?) →
      (∀ (pc' : Nat) (ic : xv_I) (L' : xv_L) (st' : List Value) (ls : Array Slot) (H : Heap) (locs : List Loc), cd y pc' = some ic → xv_kind ic.1 = 1 → xv_ret ic st' = some r → xv_ls (xv_al w) (lgs y) M.2.2.1 L' ls → xv_R w cl rk h' H → va_S (fun a => w.1 ≤ a) s.heap H locs → W p l e R s m args below meth c H locs (h'.1 - n0) (h'.2.1 - z0) Q (F0 m pc' ls (st'.map (xv_cv (xv_al w))))) →
      xv_G p l e R s m args below meth c Q w cl rk (lgs y) M.2.2.1 n0 z0 (pc, L, st, h)
/-- .. so its contract -/
theorem xv_met {f y : Nat} {M : xv_M} {av : List Value} {h h' : xv_H} {r : Option Value} (hS : xv_Sound l w cl rk aty WS stt sx sc cp cs mt cd lgs mx f) (hTb : xv_Tab yL sx mt cl tyf rk aty cp cs WS stt cd mx) (hwo : w.1 ≤ w.2.2.2.2.2.size) (hM : mt[y]? = some M) (hyL : y ≠ yL) (hx : xv_exec sc cd cp cs lgs mx f y 0 (xv_ent (mx y) av) [] h = some (r, h')) (hfit : xv_fit (lgs y) (mx y) 0 av = true) (hB : h'.1 ≤ xv_SB) :
    Met l M.1 (Jvm.Cond.code M.1 M.2.1 M.2.2.1 M.2.2.2.1 :: WS) (xv_rm M.2.2.2.2 (h'.1 - h.1) (h'.2.1 - h.2.1)) (xv_Pc w cl rk aty stt sx sc h av) (xv_Qc w cl rk r h') (h'.1 - h.1) (h'.2.1 - h.2.1) (fun a => w.1 ≤ a) := by
  obtain ⟨hT, hgood, hMs⟩ := hTb
  obtain ⟨tt, t5, t7⟩ := hMs y M hM
  obtain ⟨t1, t2, t3, t4⟩ := tt hyL
  obtain ⟨⟨m1, m2⟩, hs⟩ := hS y 0 _ _ h r h' hx
  refine Met.ofW (cc := M.2.1) (maxL := M.2.2.1) (ret := M.2.2.2.1) t1 rfl ?_
  intro p e s m args below meth c s₁ B hml hv
  obtain ⟨rfl, hK, hR⟩ := hv
  have hts := atoms_spec (ws := Jvm.Cond.code M.1 M.2.1 M.2.2.1 M.2.2.2.1 :: WS) B.pre
  have hown : s.vm.findClass M.1.cls = some m.cls := findClass_of_methodNamed B.named
  have hlk := B.notSynchronized
  have hmn : meth.name = M.1.name := (name_of_methodNamed B.named B.method).1
  have hC : xv_Cx p (xv_rm M.2.2.2.2 (h'.1 - h.1) (h'.2.1 - h.2.1)) s m (av.map (xv_cv (xv_al w))).toArray meth c M.2.1 w cl aty WS stt sx sc M.1.cls M.2.2.1 h.1 h.2.1 h'.1 h'.2.1 := xv_Cx_of B.exec B.bytes hml hown (fun x hx => hts x (List.mem_cons_of_mem _ hx)) hK hR hwo (by simp only [xv_rm]; omega) (by simp only [xv_rm]; omega) hB
  have hg := hs M hM p e (xv_rm M.2.2.2.2 (h'.1 - h.1) (h'.2.1 - h.2.1)) s m _ below meth c (MQ below (xv_Qc w cl rk r h') (av.map (xv_cv (xv_al w))).toArray s (h'.1 - h.1) (h'.2.1 - h.2.1) (fun a => w.1 ≤ a)) h.1 h.2.1 hC hmn (Nat.le_refl _) (Nat.le_refl _) hK hR.2.1 ?_
  · rw [lg_entry_eq]
    have := hg _ s.heap [] (by rw [t5]; exact xv_ls_entry (xv_al w) (t5 ▸ hfit)) hR va_S.rf (Nat.le_refl _) (Nat.le_refl _)
    simp only [Nat.sub_self, List.map_nil] at this
    exact this
  · intro pc' ic L' st' ls H locs hcd hk hr hl hR' hS'
    obtain ⟨d1, -, d3⟩ := t7 pc' ic hcd
    obtain ⟨I, q1, q2⟩ := ic
    have hq : ∀ t : State, t.heap = H → s.WarmedH t.vm → xv_Qc w cl rk r h' (av.map (xv_cv (xv_al w))).toArray s (.returned (r.map (xv_cv (xv_al w)))) t := fun t ht _ => ⟨rfl, by rw [ht]; exact hR'⟩
    cases I
    case ireturn =>
      simp only [xv_ret] at hr
      split at hr
      · split at hr
        · rename_i v hc
          cases hr
          rcases hc with hc | ⟨hc, hv | hv⟩
          · exact W.zret B.exec B.bytes (B.returns.trans (d3.1 hc)) rfl hq hS'.2.2 (d1.at rfl) hlk
          · subst hv
            exact W.zret B.exec B.bytes (B.returns.trans (d3.2 hc)) (by decide) hq hS'.2.2 (d1.at rfl) hlk
          · subst hv
            exact W.zret B.exec B.bytes (B.returns.trans (d3.2 hc)) (by decide) hq hS'.2.2 (d1.at rfl) hlk
        · cases hr
      · cases hr
    case lreturn =>
      simp only [xv_ret] at hr
      split at hr
      · cases hr
        exact W.lret B.exec B.bytes (B.returns.trans d3) hq hS'.2.2 (d1.at rfl) hlk
      · cases hr
    case areturn =>
      obtain ⟨rt, e1, e2⟩ := d3
      simp only [xv_ret] at hr
      split at hr
      · cases hr
        exact W.aret B.exec B.bytes (B.returns.trans e1) e2 (Or.inr ⟨_, rfl⟩) hq hS'.2.2 (d1.at rfl) hlk
      · cases hr
        exact W.aret B.exec B.bytes (B.returns.trans e1) e2 (Or.inl rfl) hq hS'.2.2 (d1.at rfl) hlk
      · cases hr
    case return_ =>
      simp only [xv_ret] at hr
      split at hr
      · cases hr
        exact W.vret B.exec B.bytes (B.returns.trans d3) hq hS'.2.2 (d1.at rfl) hlk
      · cases hr
    all_goals cases hr
/-- behind a call -/
theorem xv_after {H : Heap} {locs : List Loc} {cells slots mc ms pc : Nat} {ls : Array Slot} {st0 rest : List Value} {Qa : State → Outcome → State → Prop} (hr : va_Run p l e R s m args below meth c H locs cells slots mc ms (F0 m pc ls st0) rest Qa (fun a => w.1 ≤ a)) (hS : va_S (fun a => w.1 ≤ a) s.heap H locs)
    (kk : ∀ (v : Option Value) (st₀ t : State) (locs1 : List Loc), (∀ q ∈ locs1, w.1 ≤ q.base) → Qa st₀ (.returned v) t → W p l e R s m args below meth c t.heap locs1 (cells + mc) (slots + ms) Q (F0 m (pc + 3) ls (v.toList ++ rest))) : W p l e R s m args below meth c H locs cells slots Q (F0 m pc ls st0) := by
  intro T hT X
  obtain ⟨v, st₀, t, T', L, h0, X', hL, e1, e2, hq, stp⟩ := hr T hT X
  obtain ⟨t2, a1, b1⟩ := kk v st₀ t (locs ++ L) (fun q hq => by
    rcases List.mem_append.mp hq with h | h
    · exact hS.2.2 q h
    · exact hL q h) hq T' e1 X'
  exact ⟨t2, stp t2 a1, b1⟩
end XM
end
section
/-! The machine does what the abstract one does: by the number of steps. -/
section XZ
variable {p : Program} {l : Launch} {e : Env} {R : Room} {s : State} {m : MethodId} {args : Array Value} {below : List Frame} {meth : Method} {c : Code} {Q : State → Prop} {w : xv_W} {cl : List vw_C} {rk : Nat → Bool} {aty : List FieldType} {WS : List Jvm.Cond} {stt : List (String × String × String)} {sx : xv_X} {sc : Nat × (Nat → Int32)} {tyf : Nat → Nat → FieldType} {cp cs : Nat → Nat} {yL : Nat} {mt : List xv_M} {cd : Nat → Nat → Option xv_I} {lgs : Nat → List Nat} {mx : Nat → Nat} {M : xv_M} {pc : Nat} {ic : xv_I} {L : xv_L} {st : List Value} {h h' : xv_H} {n0 z0 : Nat} {lg : List Nat}
theorem xv_inv_grows {x : xv_N} (ha : xv_inv cp cs lgs mx ic pc L st h = some (.inl x)) : h.1 ≤ x.2.2.2.1 ∧ h.2.1 ≤ x.2.2.2.2.1 := by
  obtain ⟨I, r, q⟩ := ic
  obtain ⟨n, z, tg, ln, fr, er, fi, ei, el⟩ := h
  cases I <;> simp only [xv_inv, xv_r1, xv_i2, xv_call, xv_copy, xv_clone, xv_new, xv_nx, Option.map_some, Option.map_none] at ha <;> (repeat' split at ha) <;> first | (cases ha; exact ⟨Nat.le_refl _, Nat.le_refl _⟩) | (cases ha; exact ⟨Nat.le_succ _, Nat.le_add_right _ _⟩) | cases ha
/-- what the machine does itself -/
theorem xv_own {x : xv_N} (hC : xv_Cx p R s m args meth c M.2.1 w cl aty WS stt sx sc M.1.cls M.2.2.1 n0 z0 h'.1 h'.2.1) (hd : xv_dec M.2.1 pc ic.1) (hT : xv_okC cl tyf rk aty WS) (hok : xv_okJ yL sx mt cl aty cp cs WS M ic) (hRf : M.2.2.2.2.1 ≤ R.frames) (hRl : M.2.2.2.2.2 ≤ R.locals) (hE : x.2.2.2.1 ≤ h'.1) (hZ : x.2.2.2.2.1 ≤ h'.2.1) (ha : xv_inv cp cs lgs mx ic pc L st h = some (.inl x)) (hG : xv_G p l e R s m args below meth c Q w cl rk lg M.2.2.1 n0 z0 x) : xv_G p l e R s m args below meth c Q w cl rk lg M.2.2.1 n0 z0 (pc, L, st, h) := by
  obtain ⟨I, r, q⟩ := ic
  obtain ⟨n, z, tg, ln, fr, er, fi, ei, el⟩ := h
  cases I
  case invokestatic i =>
    simp only [xv_inv] at ha
    split at ha
    · rename_i hr
      simp only [xv_okJ, hr, if_true] at hok
      obtain ⟨k1, k1', k2, k3, k4, k5, k6⟩ := hok
      have hF : 1 ≤ R.frames := by omega
      have hLo : 8 + (nativeFrameWords "java/lang/System" "arraycopy" 5 + 11) ≤ R.locals := by
        have : nativeFrameWords "java/lang/System" "arraycopy" 5 = 7 := by decide
        omega
      split at ha
      · simp only [xv_copy] at ha
        split at ha
        · rename_i hc
          obtain ⟨⟨c1, c2⟩, ⟨c3, c4, c5⟩, ⟨c6, c7⟩, c8⟩ := hc
          split at ha
          · rename_i hc
            cases ha
            exact xs_copyi hC (hd.at rfl) k2 k3 k4 k5 hT.2.1 hE c1 c2 hc.1 hc.2.1 c3 c4 c5 c6 c7 c8 hF hLo hG
          · split at ha
            · rename_i hc
              cases ha
              obtain ⟨j, C, q0, e1, e2, e3, e4, e5⟩ := k6 hc.2.2.1
              refine xs_copyr hC (hd.at rfl) k2 k3 k4 k5 e2 (by have := hc.2.2.1; omega) e3 e4 e5 hE c1 c2 (by rw [← e1]; exact hc.1) (by rw [← e1]; exact hc.2.1) c3 c4 c5 c6 c7 ?_ c8 hF hLo hG
              intro i hi b' hb'
              have := hc.2.2.2 i hi
              simp only [hb', xv_ok, decide_eq_true_eq] at this
              rw [hc.2.1] at this
              exact this
            · cases ha
        · cases ha
      · cases ha
    · rename_i hr
      simp only [xv_okJ, if_neg hr] at hok
      split at ha
      · rename_i hr2
        rw [if_pos hr2] at hok
        obtain ⟨k1, k1', k2, k3, k4, k5⟩ := hok
        obtain ⟨u1, u2, t, rfl, hb1⟩ := xv_i2_inv ha
        split at hb1
        · rename_i hc
          cases hb1
          exact xs_min hC (hd.at rfl) k2 k3 k4 k5 hc (by omega) (by omega) hE hZ hG
        · cases hb1
      · rename_i hr2
        rw [if_neg hr2] at hok
        split at ha
        · rename_i hr3
          rw [if_pos hr3] at hok
          obtain ⟨k1, k1', k2, k3, k4, k5⟩ := hok
          obtain ⟨u1, u2, t, rfl, hb1⟩ := xv_i2_inv ha
          split at hb1
          · rename_i hc
            cases hb1
            exact xs_max hC (hd.at rfl) k2 k3 k4 k5 hc (by omega) (by omega) hE hZ hG
          · cases hb1
        · split at ha
          · cases ha
          · simp only [xv_call] at ha
            split at ha <;> cases ha
  case invokespecial i =>
    simp only [xv_inv] at ha
    split at ha
    · rename_i hr
      simp only [xv_okJ, hr, if_true] at hok
      obtain ⟨k1, k1', k2, k3, k4⟩ := hok
      obtain ⟨a, t, rfl, hb1⟩ := xv_r1_inv ha
      split at hb1
      · rename_i hc
        cases hb1
        exact xs_objInit hC (hd.at rfl) k2 k3 k4 hc (by omega) (by omega) hG
      · cases hb1
    · split at ha
      · cases ha
      · obtain ⟨a, t, e1, hb1⟩ := xv_r1_inv ha
        simp only [xv_call] at hb1
        split at hb1 <;> cases hb1
  case invokevirtual i =>
    simp only [xv_inv] at ha
    split at ha
    · rename_i hr
      simp only [xv_okJ, hr, if_true] at hok
      obtain ⟨k1, k1', k2, k3, k4, k5, k6, k7⟩ := hok
      obtain ⟨a, t, rfl, hb1⟩ := xv_r1_inv ha
      simp only [xv_clone] at hb1
      split at hb1
      · rename_i hc
        simp only [xv_new] at hb1
        cases hb1
        exact xs_clone hC (hd.at rfl) k2 k3 k4 k5 k6 k7 hT.2.1 hE hZ hc.1 hc.2.1 hc.2.2 (by omega) (by omega) hG
      · cases hb1
    · rename_i hr
      simp only [xv_okJ, if_neg hr] at hok
      split at ha
      · rename_i hr2
        rw [if_pos hr2] at hok
        obtain ⟨k1, k1', ⟨j, k2, k3⟩, k4, k5, k6, k7⟩ := hok
        obtain ⟨a, t, rfl, hb1⟩ := xv_r1_inv ha
        split at hb1
        · rename_i hc
          cases hb1
          exact xs_getC hC (hd.at rfl) k4 k5 k6 k7 k3 hE hc.1 (hc.2.1.trans k2) hc.2.2 (by omega) (by omega) hG
        · cases hb1
      · split at ha
        · cases ha
        · obtain ⟨a, t, e1, hb1⟩ := xv_r1_inv ha
          split at hb1
          · simp only [xv_call] at hb1
            split at hb1 <;> cases hb1
          · cases hb1
  all_goals cases ha
theorem xv_words (hgood : ∀ x ∈ WS, (x.onTables && x.keeps) = true ∨ ∃ ty, x = .arrayClass ty) (hts : ∀ x ∈ WS, x.before args s = true) {y : Jvm.Cond} (hy : y ∈ WS) : ∀ x ∈ y :: WS, ∀ (a' : Array Value) (U : State), s.WarmedH U.vm → x.before a' U = true := by
  intro x hx a' U hW
  have hx' : x ∈ WS := by
    rcases List.mem_cons.mp hx with h | h
    · rw [h]; exact hy
    · exact h
  exact word_at hW (hgood x hx') (hts x hx')
theorem xv_callB {M' : xv_M} {i q mc ms : Nat} (hgood : ∀ x ∈ WS, (x.onTables && x.keeps) = true ∨ ∃ ty, x = .arrayClass ty) (hts : ∀ x ∈ WS, x.before args s = true) (hrk : M'.2.2.2.2.1 < M.2.2.2.2.1) (hlw : 19 + M'.2.2.1 + M'.2.2.2.2.2 ≤ M.2.2.2.2.2) (hRf : M.2.2.2.2.1 ≤ R.frames) (hRl : M.2.2.2.2.2 ≤ R.locals) (h2 : Jvm.Cond.code M'.1 M'.2.1 M'.2.2.1 M'.2.2.2.1 ∈ WS) (h3 : Jvm.Cond.initialized M'.1.cls ∈ WS) (h4 : M'.1.cls ≠ "java/lang/invoke/MethodHandle" ∧ M'.1.cls ≠ "java/lang/invoke/VarHandle") (h5 : Jvm.Cond.methodLink M.1.cls i M'.1 ∈ WS) (h6 : (parseMethodDescriptor M'.1.desc).map (fun d => d.parameters.length) = some q) :
    CallB R s args M.1.cls i M'.1 M'.2.1 M'.2.2.1 M'.2.2.2.1 (Jvm.Cond.code M'.1 M'.2.1 M'.2.2.1 M'.2.2.2.1 :: WS) (xv_rm M'.2.2.2.2 mc ms) mc ms q := by
  refine ⟨rfl, rfl, by simp only [xv_rm]; omega, by simp only [xv_rm]; omega, xv_words hgood hts h2, List.mem_cons_self, hts _ h2, hts _ h3, h4, fun sig hs => ?_, hts _ h5⟩
  rw [hs] at h6
  exact (Option.some.inj h6).symm
end XZ
section XY
variable {l : Launch} {w : xv_W} {cl : List vw_C} {rk : Nat → Bool} {aty : List FieldType} {WS : List Jvm.Cond} {stt : List (String × String × String)} {sx : xv_X} {sc : Nat × (Nat → Int32)} {tyf : Nat → Nat → FieldType} {cp cs : Nat → Nat} {yL : Nat} {mt : List xv_M} {cd : Nat → Nat → Option xv_I} {lgs : Nat → List Nat} {mx : Nat → Nat}
/-- the stack at a call -/
theorem xv_stk (al : Nat → Nat) (st : List Value) (q : Nat) : st.map (xv_cv al) = (((st.take q).reverse).map (xv_cv al)).reverse ++ (st.drop q).map (xv_cv al) := by
  rw [List.map_reverse, List.reverse_reverse, ← List.map_append, List.take_append_drop]
theorem xv_sound (hTb : xv_Tab yL sx mt cl tyf rk aty cp cs WS stt cd mx) (hwo : w.1 ≤ w.2.2.2.2.2.size) (hI : ∀ a b, xv_cmp a b → xv_al w a = xv_al w b → a = b) : ∀ f : Nat, xv_Sound l w cl rk aty WS stt sx sc cp cs mt cd lgs mx f
  | 0 => fun y pc L st h r h' hx => by cases hx
  | f + 1 => by
    have ih := xv_sound hTb hwo hI f
    intro y pc L st h r h' hx
    rw [xv_exec] at hx
    cases hc : cd y pc with
    | none => rw [hc] at hx; cases hx
    | some ic =>
      simp only [hc] at hx
      split at hx
      · cases ha : xv_act sc cp (lgs y) ic pc L st h with
        | none => rw [ha] at hx; cases hx
        | some x =>
          simp only [ha] at hx
          obtain ⟨⟨m1, m2⟩, hs⟩ := ih _ _ _ _ _ _ _ hx
          obtain ⟨g1, g2⟩ := xv_act_grows ha
          refine ⟨⟨Nat.le_trans g1 m1, Nat.le_trans g2 m2⟩, fun M hM p e R s m args below meth c Q n0 z0 hC hmn hRf hRl hK hHo hRet => ?_⟩
          obtain ⟨-, -, t7⟩ := hTb.2.2 y M hM
          obtain ⟨d1, d2, d3⟩ := t7 pc ic hc
          exact xv_plain hC d1 hTb.1 d2 hmn hI m1 m2 ha (hs M hM p e R s m args below meth c Q n0 z0 hC hmn hRf hRl hK hHo hRet)
      · rename_i hk
        cases ha : xv_ret ic st with
        | none => rw [ha] at hx; cases hx
        | some r0 =>
          simp only [ha] at hx
          cases hx
          exact ⟨⟨Nat.le_refl _, Nat.le_refl _⟩, fun M hM p e R s m args below meth c Q n0 z0 hC hmn hRf hRl hK hHo hRet ls H locs hl hR hS _ _ => hRet pc ic L st ls H locs hc hk ha hl hR hS⟩
      · cases ha : xv_inv cp cs lgs mx ic pc L st h with
        | none => rw [ha] at hx; cases hx
        | some b =>
          simp only [ha] at hx
          rcases b with x | k
          · simp only at hx
            obtain ⟨⟨m1, m2⟩, hs⟩ := ih _ _ _ _ _ _ _ hx
            obtain ⟨g1, g2⟩ := xv_inv_grows ha
            refine ⟨⟨Nat.le_trans g1 m1, Nat.le_trans g2 m2⟩, fun M hM p e R s m args below meth c Q n0 z0 hC hmn hRf hRl hK hHo hRet => ?_⟩
            obtain ⟨-, -, t7⟩ := hTb.2.2 y M hM
            obtain ⟨d1, d2, d3⟩ := t7 pc ic hc
            exact xv_own hC d1 hTb.1 d3 hRf hRl m1 m2 ha (hs M hM p e R s m args below meth c Q n0 z0 hC hmn hRf hRl hK hHo hRet)
          · simp only at hx
            cases hc2 : xv_exec sc cd cp cs lgs mx f k.1 0 (xv_ent (mx k.1) k.2.1) [] h with
            | none => rw [hc2] at hx; cases hx
            | some q1 =>
              obtain ⟨r1, h1⟩ := q1
              simp only [hc2] at hx
              obtain ⟨⟨g1, g2⟩, -⟩ := ih _ _ _ _ _ _ _ hc2
              obtain ⟨⟨m1, m2⟩, hs⟩ := ih _ _ _ _ _ _ _ hx
              refine ⟨⟨Nat.le_trans g1 m1, Nat.le_trans g2 m2⟩, fun M hM p e R s m args below meth c Q n0 z0 hC hmn hRf hRl hK hHo hRet => ?_⟩
              obtain ⟨-, -, t7⟩ := hTb.2.2 y M hM
              obtain ⟨d1, d2, d3⟩ := t7 pc ic hc
              have hG := hs M hM p e R s m args below meth c Q n0 z0 hC hmn hRf hRl hK hHo hRet
              obtain ⟨⟨hex, hb, hml, hown, hts⟩, -, ⟨hr1, hr2, hr3, hr4⟩, -, hXE, -⟩ := hC
              intro ls H locs hl hR hS n1 n2
              simp only at n1 n2 hR
              show W p l e R s m args below meth c H locs (h.1 - n0) (h.2.1 - z0) Q (F0 m pc ls (st.map (xv_cv (xv_al w))))
              -- behind the call
              have back : ∀ (v : Option Value) (st₀ t : State) (locs1 : List Loc) (a : Array Value), (∀ q ∈ locs1, w.1 ≤ q.base) → xv_Qc w cl rk r1 h1 a st₀ (.returned v) t → W p l e R s m args below meth c t.heap locs1 (h.1 - n0 + (h1.1 - h.1)) (h.2.1 - z0 + (h1.2.1 - h.2.1)) Q (F0 m k.2.2.2 ls (v.toList ++ k.2.2.1.map (xv_cv (xv_al w)))) := by
                intro v st₀ t locs1 a hlo hq
                obtain ⟨hv, hR1⟩ := hq
                cases hv
                have hg := hG ls t.heap locs1 hl hR1 ⟨by rw [hR1.1]; have := hS.1; rw [hR.1] at this; omega, fun q _ h2 => by rw [hR1.2.1 q (by omega), hHo q (by omega)], hlo⟩ (by simp only; omega) (by simp only; omega)
                simp only at hg
                rw [show h1.1 - n0 = h.1 - n0 + (h1.1 - h.1) by omega, show h1.2.1 - z0 = h.2.1 - z0 + (h1.2.1 - h.2.1) by omega] at hg
                have e : (r1.toList ++ k.2.2.1).map (xv_cv (xv_al w)) = (r1.map (xv_cv (xv_al w))).toList ++ k.2.2.1.map (xv_cv (xv_al w)) := by cases r1 <;> simp
                rw [e] at hg
                exact hg
              have hpre : ∀ U : State, U.heap = H → s.WarmedH U.vm → ∀ a : List Value, a = k.2.1.map (xv_cv (xv_al w)) → xv_Pc w cl rk aty stt sx sc h k.2.1 a.toArray U := fun U hU hW a ha => ⟨by rw [ha], hK.moved hW, by rw [hU]; exact hR⟩
              obtain ⟨I, ri, qi⟩ := ic
              cases I
              case invokestatic i =>
                simp only [xv_inv] at ha
                split at ha
                · split at ha
                  · cases hcp : xv_copy cp qi (pc + 3) L h _ _ _ _ _ _ <;> rw [hcp] at ha <;> cases ha
                  · cases ha
                · rename_i hr
                  simp only [xv_okJ, if_neg hr] at d3
                  by_cases hm1 : ri = 1004
                  · rw [if_pos hm1] at ha
                    obtain ⟨u1, u2, t, rfl, hb1⟩ := xv_i2_inv ha
                    split at hb1 <;> cases hb1
                  rw [if_neg hm1] at ha d3
                  by_cases hm2 : ri = 1005
                  · rw [if_pos hm2] at ha
                    obtain ⟨u1, u2, t, rfl, hb1⟩ := xv_i2_inv ha
                    split at hb1 <;> cases hb1
                  rw [if_neg hm2] at ha d3
                  obtain ⟨eL, M', e1, e2, e2', e3, e4, e5⟩ := d3
                  split at ha
                  · cases ha
                  · rename_i hlen
                    simp only [xv_call] at ha
                    split at ha
                    · rename_i hcd
                      cases ha
                      obtain ⟨t1, t2, t3, t4⟩ := (hTb.2.2 ri M' e1).1 eL
                      have hM1 := xv_met ih hTb hwo e1 eL hc2 hcd.1 (Nat.le_trans m1 hr3)
                      have cw := xv_callB (R := R) (M := M) (mc := h1.1 - h.1) (ms := h1.2.1 - h.2.1) hTb.2.1 hts e2 e2' hRf hRl t3 t4 t2 e3 e5
                      refine xv_after (va_runS (As := ((st.take qi).reverse).map (xv_cv (xv_al w))) (rest := (st.drop qi).map (xv_cv (xv_al w))) ⟨hex, hb, hml, hown, hts⟩ hM1 ⟨cw, hts _ e4⟩ ⟨xv_Pc_blind, fun U hU hW => hpre U hU hW _ rfl⟩ rfl (by simp; omega) hl.1.1 (xv_stk _ _ _) (by rw [xv_cats]; have := xv_room_spec hcd.2; show 2 * 0 + _ ≤ 8; omega) (d1.at rfl) ⟨by omega, by omega⟩) hS ?_
                      intro v st₀ t locs1 hlo hq
                      exact back v st₀ t locs1 _ hlo hq
                    · cases ha
              case invokespecial i q1 q2 =>
                simp only [xv_inv] at ha
                split at ha
                · obtain ⟨a, t, rfl, hb1⟩ := xv_r1_inv ha
                  split at hb1 <;> cases hb1
                · rename_i hr
                  simp only [xv_okJ, if_neg hr] at d3
                  obtain ⟨eL, M', e1, e2, e2', e0, e6, e3, e4, e5⟩ := d3
                  split at ha
                  · cases ha
                  · rename_i hlen
                    obtain ⟨b, t, hst, hb1⟩ := xv_r1_inv ha
                    simp only [xv_call] at hb1
                    split at hb1
                    · rename_i hcd
                      cases hb1
                      obtain ⟨t1, t2, t3, t4⟩ := (hTb.2.2 ri M' e1).1 eL
                      have hM1 := xv_met ih hTb hwo e1 eL hc2 hcd.1 (Nat.le_trans m1 hr3)
                      obtain ⟨nm, by', ml, rt, rn⟩ := M'
                      simp only at e0
                      subst e0
                      have hpre' : PreS s H (xv_Pc w cl rk aty stt sx sc h (.ref b :: (st.take qi).reverse)) (.ref (xv_al w b) :: ((st.take qi).reverse).map (xv_cv (xv_al w))) := ⟨xv_Pc_blind, fun U hU hW => hpre U hU hW _ rfl⟩
                      have hlen' : (((st.take qi).reverse).map (xv_cv (xv_al w))).length = qi := by simp; omega
                      have hstk : (F0 m pc ls (st.map (xv_cv (xv_al w)))).stack = (((st.take qi).reverse).map (xv_cv (xv_al w))).reverse ++ .ref (xv_al w b) :: t.map (xv_cv (xv_al w)) := by
                        rw [show (F0 m pc ls (st.map (xv_cv (xv_al w)))).stack = _ from xv_stk (xv_al w) st qi, hst]; rfl
                      have hroom : 2 * (F0 m pc ls (st.map (xv_cv (xv_al w)))).monitorRoom + ((t.map (xv_cv (xv_al w))).map fun v => v.category).sum ≤ 8 := by
                        rw [xv_cats]; have := xv_room_spec hcd.2; show 2 * 0 + _ ≤ 8; omega
                      rcases e3 with e3 | ⟨host, e3⟩
                      · have cw := xv_callB (R := R) (M := M) (mc := h1.1 - h.1) (ms := h1.2.1 - h.2.1) hTb.2.1 hts e2 e2' hRf hRl t3 t4 t2 e3 e5
                        refine xv_after (va_runI ⟨hex, hb, hml, hown, hts⟩ hM1 ⟨cw, e6, hts _ e4⟩ hpre' rfl hlen' hl.1.1 hstk hroom (d1.at rfl) ⟨by omega, by omega⟩) hS ?_
                        intro v st₀ t locs1 hlo hq
                        exact back v st₀ t locs1 _ hlo hq
                      · have cw : va_CN R s args M.1.cls i nm host by' ml none (Jvm.Cond.code nm by' ml none :: WS) (xv_rm rn (h1.1 - h.1) (h1.2.1 - h.2.1)) (h1.1 - h.1) (h1.2.1 - h.2.1) qi := by
                          refine ⟨⟨rfl, rfl, by simp only [xv_rm]; simp only at e2; omega, by simp only [xv_rm]; simp only at e2'; omega, xv_words hTb.2.1 hts t3, List.mem_cons_self⟩, hts _ t3, hts _ t4, t2, fun sig hs => ?_, va_Nw.use rfl (hXE.2.2.1 _ e3)⟩
                          simp only at e5
                          rw [hs] at e5
                          exact (Option.some.inj e5).symm
                        refine xv_after (va_runIN ⟨hex, hb, hml, hown, hts⟩ hM1 ⟨cw, e6, hts _ e4⟩ hpre' rfl hlen' hl.1.1 hstk hroom (d1.at rfl) ⟨by omega, by omega⟩) hS ?_
                        intro v st₀ t locs1 hlo hq
                        exact back v st₀ t locs1 _ hlo hq
                    · cases hb1
              case invokevirtual i =>
                simp only [xv_inv] at ha
                split at ha
                · obtain ⟨a, t, rfl, hb1⟩ := xv_r1_inv ha
                  cases hcp : xv_clone (pc + 3) L h a t <;> rw [hcp] at hb1 <;> cases hb1
                · rename_i hr
                  simp only [xv_okJ, if_neg hr] at d3
                  by_cases hne : ri = 1003
                  · rw [if_pos hne] at ha
                    obtain ⟨a, t, rfl, hb1⟩ := xv_r1_inv ha
                    split at hb1 <;> cases hb1
                  rw [if_neg hne] at ha d3
                  obtain ⟨eL, M', q0, e1, e2, e2', c1, c2, c3, e3, e4, e6, e5⟩ := d3
                  split at ha
                  · cases ha
                  · rename_i hlen
                    obtain ⟨b, t, hst, hb1⟩ := xv_r1_inv ha
                    split at hb1
                    · rename_i hrec
                      simp only [xv_call] at hb1
                      split at hb1
                      · rename_i hcd
                        cases hb1
                        obtain ⟨t1, t2, t3, t4⟩ := (hTb.2.2 ri M' e1).1 eL
                        have hM1 := xv_met ih hTb hwo e1 eL hc2 hcd.1 (Nat.le_trans m1 hr3)
                        have cw := xv_callB (R := R) (M := M) (mc := h1.1 - h.1) (ms := h1.2.1 - h.2.1) hTb.2.1 hts e2 e2' hRf hRl t3 t4 t2 e3 e5
                        obtain ⟨cell, f1, f2, f3⟩ := hR.obj hrec.1 hrec.2 c2
                        have hal : xv_al w b = w.1 + b := xv_al_lt (by omega)
                        have hcls := (hK.1.1.1 _ q0 c1).2
                        refine xv_after (va_runV (C := M'.1.cls) (b := xv_al w b) (As := ((st.take qi).reverse).map (xv_cv (xv_al w))) (rest := t.map (xv_cv (xv_al w))) ⟨hex, hb, hml, hown, hts⟩ hM1 ⟨cw, hts _ e4, hts _ e6⟩ ⟨xv_Pc_blind, ⟨cell, by rw [hal]; exact f1, by rw [f2]; rfl, by rw [f3, ← c3]; exact hcls.1⟩, fun U hU hW => hpre U hU hW _ rfl⟩ rfl (by simp; omega) hl.1.1 (by rw [show (F0 m pc ls (st.map (xv_cv (xv_al w)))).stack = _ from xv_stk (xv_al w) st qi, hst]; rfl) (by rw [xv_cats]; have := xv_room_spec hcd.2; show 2 * 0 + _ ≤ 8; omega) (d1.at rfl) ⟨by omega, by omega⟩) hS ?_
                        intro v st₀ t locs1 hlo hq
                        exact back v st₀ t locs1 _ hlo hq
                      · cases hb1
                    · cases hb1
              all_goals cases ha
end XY
end
