section
/-! An abstract machine: a heap of numbered cells as plain functions, frames as lists. It is run by 'xv_exec'; what it does the machine does (part 03). -/
/-- a heap: cells, slots, tag of a cell, length of an array; fields and elements that are references; fields and elements that are ints; elements that are longs -/
abbrev xv_H : Type := Nat × Nat × (Nat → Nat) × (Nat → Nat) × (Nat → Nat → Option Nat) × (Nat → Nat → Option Nat) × (Nat → Nat → Int32) × (Nat → Nat → Int32) × (Nat → Nat → Int64)
abbrev xv_L : Type := List (Option Value)
/-- an instruction as decoded, two numbers by which it is resolved -/
abbrev xv_I : Type := ClassFile.Instr × Nat × Nat
abbrev xv_N : Type := Nat × xv_L × List Value × xv_H
abbrev xv_A : Type := Option xv_N
/-- a call: method, arguments, the stack below, where it goes on -/
abbrev xv_K : Type := Option (xv_N ⊕ (Nat × List Value × List Value × Nat))
def xv_up {β : Type} (f : Nat → Nat → β) (x y : Nat) (v : β) : Nat → Nat → β := fun a b => if a = x ∧ b = y then v else f a b
def xv_u1 (f : Nat → Nat) (x v : Nat) : Nat → Nat := fun a => if a = x then v else f a
def xv_fresh {β : Type} (f : Nat → Nat → β) (x : Nat) (v : β) : Nat → Nat → β := fun a b => if a = x then v else f a b
def xv_freshF {β : Type} (f : Nat → Nat → β) (x : Nat) (v : β) : Nat → Nat → β := fun a b => if b = x then v else f a b
/-- a new cell of tag t, length m, k slots -/
def xv_new (h : xv_H) (t m k : Nat) : xv_H := match h with
  | (n, z, tg, ln, fr, er, fi, ei, el) => (n + 1, z + k, xv_u1 tg n t, xv_u1 ln n m, xv_freshF fr n none, xv_fresh er n none, xv_freshF fi n 0, xv_fresh ei n 0, xv_fresh el n 0)
def xv_cpy {β : Type} (f : Nat → Nat → β) (s sp d dp n : Nat) : Nat → Nat → β := fun a i => if a = d ∧ dp ≤ i ∧ i < dp + n then f s (sp + (i - dp)) else f a i
def xv_nx (pc : Nat) (L : xv_L) (st : List Value) (h : xv_H) : xv_A := some (pc, L, st, h)
/-- may a value of one slot be stored at i -/
def xv_b1 (lg : List Nat) (i : Nat) : Bool := i == 0 || !(lg.contains (i - 1))
def xv_jmp (pc : Nat) (off : Int) (L : xv_L) (st : List Value) (h : xv_H) : xv_A := match (pc : Int) + off with
  | .ofNat t => xv_nx t L st h
  | .negSucc _ => none
def xv_cnd (o : ClassFile.Cond) (x y : Int32) : Bool := match o with
  | .eq => decide (x = y)
  | .ne => decide (¬ x = y)
  | .lt => decide (x < y)
  | .ge => decide (y ≤ x)
  | .gt => decide (y < x)
  | .le => decide (x ≤ y)
def xv_if (b : Bool) (pc : Nat) (off : Int) (L : xv_L) (st : List Value) (h : xv_H) : xv_A := if b = true then xv_jmp pc off L st h else xv_nx (pc + 3) L st h
def xv_i1 {β : Type} (st : List Value) (f : Int32 → List Value → Option β) : Option β := match st with
  | .int x :: r => f x r
  | _ => none
def xv_i2 {β : Type} (st : List Value) (f : Int32 → Int32 → List Value → Option β) : Option β := match st with
  | .int y :: .int x :: r => f x y r
  | _ => none
def xv_l1 {β : Type} (st : List Value) (f : Int64 → List Value → Option β) : Option β := match st with
  | .long x :: r => f x r
  | _ => none
def xv_l2 {β : Type} (st : List Value) (f : Int64 → Int64 → List Value → Option β) : Option β := match st with
  | .long y :: .long x :: r => f x y r
  | _ => none
def xv_li {β : Type} (st : List Value) (f : Int64 → Int32 → List Value → Option β) : Option β := match st with
  | .int y :: .long x :: r => f x y r
  | _ => none
def xv_r1 {β : Type} (st : List Value) (f : Nat → List Value → Option β) : Option β := match st with
  | .ref a :: r => f a r
  | _ => none
/-- a reference or null -/
def xv_q1 {β : Type} (st : List Value) (f : Option Nat → List Value → Option β) : Option β := match st with
  | .ref a :: r => f (some a) r
  | .null :: r => f none r
  | _ => none
def xv_v1 {β : Type} (st : List Value) (f : Value → List Value → Option β) : Option β := match st with
  | v :: r => if v.category = 1 then f v r else none
  | _ => none
/-- an index of an array: in range -/
def xv_in {β : Type} (h : xv_H) (i : Int32) (a : Nat) (k : Option β) : Option β := if a < h.1 ∧ 0 ≤ i ∧ i.toNatClampNeg < h.2.2.2.1 a then k else none
def xv_iload {β : Type} (L : xv_L) (i : Nat) (f : Int32 → Option β) : Option β := match L[i]? with
  | some (some (.int x)) => f x
  | _ => none
def xv_lload {β : Type} (L : xv_L) (i : Nat) (f : Int64 → Option β) : Option β := match L[i]? with
  | some (some (.long x)) => f x
  | _ => none
def xv_aload {β : Type} (L : xv_L) (i : Nat) (f : Option Nat → Option β) : Option β := match L[i]? with
  | some (some (.ref x)) => f (some x)
  | some (some .null) => f none
  | _ => none
def xv_st1 {β : Type} (lg : List Nat) (L : xv_L) (i : Nat) (v : Value) (f : xv_L → Option β) : Option β := if i < L.length ∧ xv_b1 lg i = true then f (L.set i (some v)) else none
def xv_st2 {β : Type} (lg : List Nat) (L : xv_L) (i : Nat) (v : Value) (f : xv_L → Option β) : Option β := if i + 1 < L.length ∧ xv_b1 lg i = true ∧ lg.contains i = true then f ((L.set i (some v)).set (i + 1) none) else none
/-- the number of the first of the cells that the program doesn't make: constants of enums and the like -/
def xv_SB : Nat := 10000000
def xv_new1 (pc' : Nat) (L : xv_L) (st : List Value) (h : xv_H) (t m k : Nat) : xv_A := xv_nx pc' L (.ref h.1 :: st) (xv_new h t m k)
def xv_len {β : Type} (n : Int32) (k : Option β) : Option β := if 0 ≤ n ∧ n.toNatClampNeg ≤ 60000000 then k else none
/-- what an array of references may hold: arrays of tag t hold cells of tag cp t -/
def xv_ok (cp : Nat → Nat) (h : xv_H) (a : Nat) (x : Option Nat) : Bool := match x with
  | none => true
  | some b => decide (b < h.1 ∧ h.2.2.1 b = cp (h.2.2.1 a))
/-- do the arguments fit: so many locals, and the longs where they may stand -/
def xv_fit (lg : List Nat) (n : Nat) : Nat → List Value → Bool
  | i, [] => decide (i ≤ n)
  | i, v :: vs => if v.category = 2 then lg.contains i && xv_fit lg n (i + 2) vs else xv_fit lg n (i + 1) vs
def xv_sl (av : List Value) : xv_L := av.flatMap fun v => if v.category = 2 then [some v, none] else [some v]
def xv_ent (n : Nat) (av : List Value) : xv_L := xv_sl av ++ List.replicate (n - (xv_sl av).length) none
def xv_room (st : List Value) : Bool := decide ((st.map fun v => v.category).sum ≤ 8)
def xv_call (lgs : Nat → List Nat) (mx : Nat → Nat) (y : Nat) (av rest : List Value) (pc' : Nat) : xv_K := if xv_fit (lgs y) (mx y) 0 av = true ∧ xv_room rest = true then some (.inr (y, av, rest, pc')) else none
def xv_copy (cp : Nat → Nat) (t pc' : Nat) (L : xv_L) (h : xv_H) (n dp : Int32) (d : Nat) (sp : Int32) (s : Nat) (r : List Value) : xv_A :=
  if (s < h.1 ∧ d < h.1) ∧ (0 ≤ sp ∧ 0 ≤ dp ∧ 0 ≤ n) ∧ (sp.toNatClampNeg + n.toNatClampNeg ≤ h.2.2.2.1 s ∧ dp.toNatClampNeg + n.toNatClampNeg ≤ h.2.2.2.1 d) ∧ xv_room r = true then
    if h.2.2.1 s = 100 ∧ h.2.2.1 d = 100 ∧ t = 100 then
      match h with | (n1, z, tg, ln, fr, er, fi, ei, el) => xv_nx pc' L r (n1, z, tg, ln, fr, er, fi, xv_cpy ei s sp.toNatClampNeg d dp.toNatClampNeg n.toNatClampNeg, el)
    else if h.2.2.1 s = t ∧ h.2.2.1 d = t ∧ 104 ≤ t ∧ ∀ i, i < n.toNatClampNeg → xv_ok cp h d (h.2.2.2.2.2.1 s (sp.toNatClampNeg + i)) = true then
      match h with | (n1, z, tg, ln, fr, er, fi, ei, el) => xv_nx pc' L r (n1, z, tg, ln, fr, xv_cpy er s sp.toNatClampNeg d dp.toNatClampNeg n.toNatClampNeg, fi, ei, el)
    else none
  else none
def xv_clone (pc' : Nat) (L : xv_L) (h : xv_H) (a : Nat) (r : List Value) : xv_A :=
  if a < h.1 ∧ h.2.2.1 a = 100 ∧ xv_room r = true then
    match xv_new h 100 (h.2.2.2.1 a) (h.2.2.2.1 a) with | (n1, z, tg, ln, fr, er, fi, ei, el) => xv_nx pc' L (.ref h.1 :: r) (n1, z, tg, ln, fr, er, fi, (fun b i => if b = h.1 then ei a i else ei b i), el)
  else none
/-- may two references be compared: those that were there before only where they are known to differ -/
def xv_cmp (a b : Nat) : Prop := a = b ∨ (a < xv_SB ∧ (b < xv_SB ∨ xv_SB + 2 ≤ b)) ∨ (b < xv_SB ∧ (a < xv_SB ∨ xv_SB + 2 ≤ a)) ∨ (xv_SB + 3 ≤ a ∧ xv_SB + 3 ≤ b)
def xv_cok (x y : Option Nat) : Bool := match x, y with
  | some a, some b => decide (a = b ∨ (a < xv_SB ∧ (b < xv_SB ∨ xv_SB + 2 ≤ b)) ∨ (b < xv_SB ∧ (a < xv_SB ∨ xv_SB + 2 ≤ a)) ∨ (xv_SB + 3 ≤ a ∧ xv_SB + 3 ≤ b))
  | _, _ => true
/-- one instruction; sc: the script, cell number xv_SB -/
def xv_act (sc : Nat × (Nat → Int32)) (cp : Nat → Nat) (lg : List Nat) (ic : xv_I) (pc : Nat) (L : xv_L) (st : List Value) (h : xv_H) : xv_A := match ic.1 with
  | .aconst_null => xv_nx (pc + 1) L (.null :: st) h
  | .iconst n => xv_nx (pc + 1) L (.int (Int32.ofInt n) :: st) h
  | .bipush n => xv_nx (pc + 2) L (.int (Int8.ofInt n).toInt32 :: st) h
  | .sipush n => xv_nx (pc + 3) L (.int (Int16.ofInt n).toInt32 :: st) h
  | .lconst n => xv_nx (pc + 1) L (.long (Int64.ofNat (n : Nat)) :: st) h
  | .ldc _ => if ic.2.2 = 0 then xv_nx (pc + 2) L (.int (Int32.ofNat ic.2.1) :: st) h else if ic.2.2 = 1 then xv_nx (pc + 2) L (.ref (xv_SB + 1) :: st) h else none
  | .ldc2_w _ => xv_nx (pc + 3) L (.long (Int64.ofNat ic.2.1) :: st) h
  | .iload i => xv_iload L i fun x => xv_nx (pc + 2) L (.int x :: st) h
  | .iload_n i => xv_iload L i fun x => xv_nx (pc + 1) L (.int x :: st) h
  | .lload i => xv_lload L i fun x => xv_nx (pc + 2) L (.long x :: st) h
  | .lload_n i => xv_lload L i fun x => xv_nx (pc + 1) L (.long x :: st) h
  | .aload i => xv_aload L i fun x => xv_nx (pc + 2) L (va_rf x :: st) h
  | .aload_n i => xv_aload L i fun x => xv_nx (pc + 1) L (va_rf x :: st) h
  | .istore i => xv_i1 st fun x r => xv_st1 lg L i (.int x) fun L' => xv_nx (pc + 2) L' r h
  | .istore_n i => xv_i1 st fun x r => xv_st1 lg L i (.int x) fun L' => xv_nx (pc + 1) L' r h
  | .lstore i => xv_l1 st fun x r => xv_st2 lg L i (.long x) fun L' => xv_nx (pc + 2) L' r h
  | .lstore_n i => xv_l1 st fun x r => xv_st2 lg L i (.long x) fun L' => xv_nx (pc + 1) L' r h
  | .astore i => xv_q1 st fun x r => xv_st1 lg L i (va_rf x) fun L' => xv_nx (pc + 2) L' r h
  | .astore_n i => xv_q1 st fun x r => xv_st1 lg L i (va_rf x) fun L' => xv_nx (pc + 1) L' r h
  | .iinc i n => xv_iload L i fun x => xv_st1 lg L i (.int (x + Int32.ofInt n)) fun L' => xv_nx (pc + 3) L' st h
  | .iadd => xv_i2 st fun x y r => xv_nx (pc + 1) L (.int (x + y) :: r) h
  | .isub => xv_i2 st fun x y r => xv_nx (pc + 1) L (.int (x - y) :: r) h
  | .imul => xv_i2 st fun x y r => xv_nx (pc + 1) L (.int (x * y) :: r) h
  | .iand => xv_i2 st fun x y r => xv_nx (pc + 1) L (.int (x &&& y) :: r) h
  | .ior => xv_i2 st fun x y r => xv_nx (pc + 1) L (.int (x ||| y) :: r) h
  | .idiv => xv_i2 st fun x y r => if y = 0 then none else xv_nx (pc + 1) L (.int (x / y) :: r) h
  | .irem => xv_i2 st fun x y r => if y = 0 then none else xv_nx (pc + 1) L (.int (x - x / y * y) :: r) h
  | .ishl => xv_i2 st fun x y r => xv_nx (pc + 1) L (.int (x <<< (y &&& 31)) :: r) h
  | .ishr => xv_i2 st fun x y r => xv_nx (pc + 1) L (.int (x >>> (y &&& 31)) :: r) h
  | .ladd => xv_l2 st fun x y r => xv_nx (pc + 1) L (.long (x + y) :: r) h
  | .lmul => xv_l2 st fun x y r => xv_nx (pc + 1) L (.long (x * y) :: r) h
  | .land => xv_l2 st fun x y r => xv_nx (pc + 1) L (.long (x &&& y) :: r) h
  | .lor => xv_l2 st fun x y r => xv_nx (pc + 1) L (.long (x ||| y) :: r) h
  | .lxor => xv_l2 st fun x y r => xv_nx (pc + 1) L (.long (x ^^^ y) :: r) h
  | .lshl => xv_li st fun x y r => xv_nx (pc + 1) L (.long (x <<< (y.toInt64 &&& 63)) :: r) h
  | .lshr => xv_li st fun x y r => xv_nx (pc + 1) L (.long (x >>> (y.toInt64 &&& 63)) :: r) h
  | .i2l => xv_i1 st fun x r => xv_nx (pc + 1) L (.long x.toInt64 :: r) h
  | .l2i => xv_l1 st fun x r => xv_nx (pc + 1) L (.int x.toInt32 :: r) h
  | .i2b => xv_i1 st fun x r => xv_nx (pc + 1) L (.int x.toInt8.toInt32 :: r) h
  | .pop => xv_v1 st fun _ r => xv_nx (pc + 1) L r h
  | .dup => xv_v1 st fun v r => xv_nx (pc + 1) L (v :: v :: r) h
  | .dup_x1 => xv_v1 st fun v r => xv_v1 r fun w r' => xv_nx (pc + 1) L (v :: w :: v :: r') h
  | .dup_x2 => xv_v1 st fun v r => xv_v1 r fun w r' => xv_v1 r' fun u r'' => xv_nx (pc + 1) L (v :: w :: u :: v :: r'') h
  | .dup2 => xv_v1 st fun v r => xv_v1 r fun w r' => xv_nx (pc + 1) L (v :: w :: v :: w :: r') h
  | .ifCond o off => xv_i1 st fun x r => xv_if (xv_cnd o x 0) pc off L r h
  | .if_icmp o off => xv_i2 st fun x y r => xv_if (xv_cnd o x y) pc off L r h
  | .if_acmp o off => xv_q1 st fun y r => xv_q1 r fun x r' => if xv_cok x y = true then xv_if (match o with | .eq => decide (x = y) | .ne => decide (¬ x = y)) pc off L r' h else none
  | .ifnull off => xv_q1 st fun x r => xv_if (decide (x = none)) pc off L r h
  | .ifnonnull off => xv_q1 st fun x r => xv_if (decide (¬ x = none)) pc off L r h
  | .goto off => xv_jmp pc off L st h
  | .tableswitch dflt lo hi offs => xv_i1 st fun x r => if x.toInt < lo ∨ hi < x.toInt then xv_jmp pc dflt L r h else match offs[(x.toInt - lo).toNat]? with
    | some off => xv_jmp pc off L r h
    | none => none
  | .getfield _ => xv_r1 st fun a r => if a < h.1 ∧ h.2.2.1 a = ic.2.1 / 100 then xv_nx (pc + 3) L ((if ic.2.2 = 1 then va_rf (h.2.2.2.2.1 ic.2.1 a) else .int (h.2.2.2.2.2.2.1 ic.2.1 a)) :: r) h else none
  | .putfield _ => if ic.2.2 = 1 then xv_q1 st fun x r => xv_r1 r fun a r' => if a < h.1 ∧ h.2.2.1 a = ic.2.1 / 100 then
        match h with | (n, z, tg, ln, fr, er, fi, ei, el) => xv_nx (pc + 3) L r' (n, z, tg, ln, xv_up fr ic.2.1 a x, er, fi, ei, el)
      else none
    else xv_i1 st fun x r => xv_r1 r fun a r' => if (a < h.1 ∧ h.2.2.1 a = ic.2.1 / 100) ∧ (ic.2.2 = 0 ∨ (ic.2.2 = 2 ∧ (x = 0 ∨ x = 1))) then
        match h with | (n, z, tg, ln, fr, er, fi, ei, el) => xv_nx (pc + 3) L r' (n, z, tg, ln, fr, er, xv_up fi ic.2.1 a x, ei, el)
      else none
  | .getstatic _ => xv_nx (pc + 3) L (.ref (xv_SB + ic.2.1) :: st) h
  | .iaload => xv_i1 st fun i r => xv_r1 r fun a r' => if a = xv_SB then (if 0 ≤ i ∧ i.toNatClampNeg < sc.1 then xv_nx (pc + 1) L (.int (sc.2 i.toNatClampNeg) :: r') h else none) else xv_in h i a (if h.2.2.1 a = 100 then xv_nx (pc + 1) L (.int (h.2.2.2.2.2.2.2.1 a i.toNatClampNeg) :: r') h else none)
  | .baload => xv_i1 st fun i r => xv_r1 r fun a r' => xv_in h i a (if h.2.2.1 a = 101 ∨ h.2.2.1 a = 102 then xv_nx (pc + 1) L (.int (h.2.2.2.2.2.2.2.1 a i.toNatClampNeg) :: r') h else none)
  | .laload => xv_i1 st fun i r => xv_r1 r fun a r' => xv_in h i a (if h.2.2.1 a = 103 then xv_nx (pc + 1) L (.long (h.2.2.2.2.2.2.2.2 a i.toNatClampNeg) :: r') h else none)
  | .aaload => xv_i1 st fun i r => xv_r1 r fun a r' => xv_in h i a (if h.2.2.1 a = ic.2.1 then xv_nx (pc + 1) L (va_rf (h.2.2.2.2.2.1 a i.toNatClampNeg) :: r') h else none)
  | .iastore => xv_i1 st fun x r0 => xv_i1 r0 fun i r => xv_r1 r fun a r' => xv_in h i a (if h.2.2.1 a = 100 then
        match h with | (n, z, tg, ln, fr, er, fi, ei, el) => xv_nx (pc + 1) L r' (n, z, tg, ln, fr, er, fi, xv_up ei a i.toNatClampNeg x, el)
      else none)
  | .bastore => xv_i1 st fun x r0 => xv_i1 r0 fun i r => xv_r1 r fun a r' => xv_in h i a (if h.2.2.1 a = 101 then
        match h with | (n, z, tg, ln, fr, er, fi, ei, el) => xv_nx (pc + 1) L r' (n, z, tg, ln, fr, er, fi, xv_up ei a i.toNatClampNeg x.toInt8.toInt32, el)
      else if h.2.2.1 a = 102 ∧ (x = 0 ∨ x = 1) then
        match h with | (n, z, tg, ln, fr, er, fi, ei, el) => xv_nx (pc + 1) L r' (n, z, tg, ln, fr, er, fi, xv_up ei a i.toNatClampNeg x, el)
      else none)
  | .lastore => xv_l1 st fun x r0 => xv_i1 r0 fun i r => xv_r1 r fun a r' => xv_in h i a (if h.2.2.1 a = 103 then
        match h with | (n, z, tg, ln, fr, er, fi, ei, el) => xv_nx (pc + 1) L r' (n, z, tg, ln, fr, er, fi, ei, xv_up el a i.toNatClampNeg x)
      else none)
  | .aastore => xv_q1 st fun x r0 => xv_i1 r0 fun i r => xv_r1 r fun a r' => xv_in h i a (if h.2.2.1 a = ic.2.1 ∧ xv_ok cp h a x = true then
        match h with | (n, z, tg, ln, fr, er, fi, ei, el) => xv_nx (pc + 1) L r' (n, z, tg, ln, fr, xv_up er a i.toNatClampNeg x, fi, ei, el)
      else none)
  | .arraylength => xv_r1 st fun a r => if a = xv_SB then xv_nx (pc + 1) L (.int (Int32.ofNat sc.1) :: r) h else if a = xv_SB + 2 ∧ ic.2.2 = 1 then xv_nx (pc + 1) L (.int 0 :: r) h else if a < h.1 ∧ h.2.2.1 a = ic.2.1 then xv_nx (pc + 1) L (.int (Int32.ofNat (h.2.2.2.1 a)) :: r) h else none
  | .new _ => xv_new1 (pc + 3) L st h ic.2.1 0 ic.2.2
  | .newarray _ => xv_i1 st fun n r => xv_len n (xv_new1 (pc + 2) L r h ic.2.1 n.toNatClampNeg n.toNatClampNeg)
  | .anewarray _ => xv_i1 st fun n r => xv_len n (xv_new1 (pc + 3) L r h ic.2.1 n.toNatClampNeg n.toNatClampNeg)
  | .checkcast _ => match st with
    | .null :: _ => xv_nx (pc + 3) L st h
    | .ref a :: _ => if a < h.1 ∧ h.2.2.1 a = ic.2.1 then xv_nx (pc + 3) L st h else none
    | _ => none
  | _ => none
/-- a return -/
def xv_ret (ic : xv_I) (st : List Value) : Option (Option Value) := match ic.1 with
  | .ireturn => match st with
    | [.int v] => if ic.2.2 = 0 ∨ (ic.2.2 = 2 ∧ (v = 0 ∨ v = 1)) then some (some (.int v)) else none
    | _ => none
  | .lreturn => match st with
    | [.long v] => some (some (.long v))
    | _ => none
  | .areturn => match st with
    | [.ref a] => some (some (.ref a))
    | [.null] => some (some .null)
    | _ => none
  | .return_ => match st with
    | [] => some none
    | _ => none
  | _ => none
/-- a call, or what the machine does itself -/
def xv_inv (cp cs : Nat → Nat) (lgs : Nat → List Nat) (mx : Nat → Nat) (ic : xv_I) (pc : Nat) (L : xv_L) (st : List Value) (h : xv_H) : xv_K := match ic.1 with
  | .invokestatic _ => if ic.2.1 = 1000 then
      match st with
      | .int n :: .int dp :: .ref d :: .int sp :: .ref s :: r => (xv_copy cp ic.2.2 (pc + 3) L h n dp d sp s r).map .inl
      | _ => none
    else if ic.2.1 = 1004 then xv_i2 st fun x y r => if xv_room r = true then (xv_nx (pc + 3) L (.int (if y < x then y else x) :: r) h).map .inl else none
    else if ic.2.1 = 1005 then xv_i2 st fun x y r => if xv_room r = true then (xv_nx (pc + 3) L (.int (if x < y then y else x) :: r) h).map .inl else none
    else if st.length < ic.2.2 then none else xv_call lgs mx ic.2.1 (st.take ic.2.2).reverse (st.drop ic.2.2) (pc + 3)
  | .invokespecial _ => if ic.2.1 = 1001 then xv_r1 st fun _ r => if xv_room r = true then (xv_nx (pc + 3) L r h).map .inl else none
    else if st.length < ic.2.2 then none else xv_r1 (st.drop ic.2.2) fun b r => xv_call lgs mx ic.2.1 (.ref b :: (st.take ic.2.2).reverse) r (pc + 3)
  | .invokevirtual _ => if ic.2.1 = 1002 then xv_r1 st fun a r => (xv_clone (pc + 3) L h a r).map .inl
    else if ic.2.1 = 1003 then xv_r1 st fun a r => if a < h.1 ∧ h.2.2.1 a = ic.2.2 ∧ xv_room r = true then (xv_nx (pc + 3) L (.ref (xv_SB + 1) :: r) h).map .inl else none
    else if st.length < ic.2.2 then none else xv_r1 (st.drop ic.2.2) fun b r => if b < h.1 ∧ h.2.2.1 b = cs ic.2.1 then xv_call lgs mx ic.2.1 (.ref b :: (st.take ic.2.2).reverse) r (pc + 3) else none
  | _ => none
/-- 1: a return, 2: a call -/
def xv_kind (i : ClassFile.Instr) : Nat := match i with
  | .ireturn | .lreturn | .areturn | .return_ => 1
  | .invokestatic _ | .invokespecial _ | .invokevirtual _ => 2
  | _ => 0
def xv_exec (sc : Nat × (Nat → Int32)) (cd : Nat → Nat → Option xv_I) (cp cs : Nat → Nat) (lgs : Nat → List Nat) (mx : Nat → Nat) : Nat → Nat → Nat → xv_L → List Value → xv_H → Option (Option Value × xv_H)
  | 0, _, _, _, _, _ => none
  | f + 1, y, pc, L, st, h => match cd y pc with
    | none => none
    | some ic => match xv_kind ic.1 with
      | 0 => match xv_act sc cp (lgs y) ic pc L st h with
        | none => none
        | some x => xv_exec sc cd cp cs lgs mx f y x.1 x.2.1 x.2.2.1 x.2.2.2
      | 1 => match xv_ret ic st with
        | none => none
        | some r => some (r, h)
      | _ => match xv_inv cp cs lgs mx ic pc L st h with
        | none => none
        | some (.inl x) => xv_exec sc cd cp cs lgs mx f y x.1 x.2.1 x.2.2.1 x.2.2.2
        | some (.inr k) => match xv_exec sc cd cp cs lgs mx f k.1 0 (xv_ent (mx k.1) k.2.1) [] h with
          | none => none
          | some q => xv_exec sc cd cp cs lgs mx f y k.2.2.2 L (q.1.toList ++ k.2.2.1) q.2
/-- more steps allowed, the same end -/
theorem xv_exec_succ {sc : Nat × (Nat → Int32)} {cd : Nat → Nat → Option xv_I} {cp cs : Nat → Nat} {lgs : Nat → List Nat} {mx : Nat → Nat} : ∀ (f y pc : Nat) (L : xv_L) (st : List Value) (h : xv_H) (x : Option Value × xv_H), xv_exec sc cd cp cs lgs mx f y pc L st h = some x → xv_exec sc cd cp cs lgs mx (f + 1) y pc L st h = some x := by
  intro f
  induction f with
  | zero => intro y pc L st h x hx; cases hx
  | succ f ih =>
    intro y pc L st h x hx
    rw [xv_exec] at hx ⊢
    cases hc : cd y pc with
    | none => rw [hc] at hx; cases hx
    | some ic =>
      simp only [hc] at hx ⊢
      split at hx
      · rename_i hk
        cases ha : xv_act sc cp (lgs y) ic pc L st h with
        | none => rw [ha] at hx; cases hx
        | some b =>
          simp only [ha] at hx ⊢
          exact ih _ _ _ _ _ _ hx
      · exact hx
      · cases ha : xv_inv cp cs lgs mx ic pc L st h with
        | none => rw [ha] at hx; cases hx
        | some b =>
          simp only [ha] at hx ⊢
          rcases b with b | k
          · exact ih _ _ _ _ _ _ hx
          · simp only at hx ⊢
            cases hc2 : xv_exec sc cd cp cs lgs mx f k.1 0 (xv_ent (mx k.1) k.2.1) [] h with
            | none => rw [hc2] at hx; cases hx
            | some q =>
              simp only [hc2] at hx
              rw [ih _ _ _ _ _ _ hc2]
              exact ih _ _ _ _ _ _ hx
theorem xv_exec_le {sc : Nat × (Nat → Int32)} {cd : Nat → Nat → Option xv_I} {cp cs : Nat → Nat} {lgs : Nat → List Nat} {mx : Nat → Nat} {f g y pc : Nat} {L : xv_L} {st : List Value} {h : xv_H} {x : Option Value × xv_H} (hx : xv_exec sc cd cp cs lgs mx f y pc L st h = some x) (hg : f ≤ g) : xv_exec sc cd cp cs lgs mx g y pc L st h = some x := by
  induction hg with
  | refl => exact hx
  | step _ ih => exact xv_exec_succ _ _ _ _ _ _ _ ih
end
section
/-! What the abstract heap says of the machine's: cell a is the machine's cell B0 + a; the numbers from xv_SB on are cells that were there before. -/
/-- B0; how many cells were there before; where; the tables of classes and of fields; of arrays; the heap before -/
abbrev xv_W : Type := Nat × Nat × (Nat → Nat) × va_G × (Nat → ClassId) × Heap
def xv_al (w : xv_W) (n : Nat) : Nat := if xv_SB ≤ n ∧ n < xv_SB + w.2.1 then w.2.2.1 (n - xv_SB) else w.1 + n
def xv_cv (al : Nat → Nat) (v : Value) : Value := match v with
  | .ref n => .ref (al n)
  | v => v
def xv_fv (w : xv_W) (rk : Nat → Bool) (h : xv_H) (f a : Nat) : Value := if rk f = true then xv_cv (xv_al w) (va_rf (h.2.2.2.2.1 f a)) else .int (h.2.2.2.2.2.2.1 f a)
def xv_ev (w : xv_W) (h : xv_H) (t a i : Nat) : Value := if t = 103 then .long (h.2.2.2.2.2.2.2.2 a i) else if 104 ≤ t then xv_cv (xv_al w) (va_rf (h.2.2.2.2.2.1 a i)) else .int (h.2.2.2.2.2.2.2.1 a i)
def xv_at (w : xv_W) (cl : List vw_C) (rk : Nat → Bool) (h : xv_H) (a : Nat) (cell : Cell) : Prop := cell.vm = .none ∧
  ((h.2.2.1 a < 100 ∧ cell.cls = w.2.2.2.1.1 (h.2.2.1 a) ∧ ∃ q : vw_C, cl[h.2.2.1 a]? = some q ∧ ∀ k, k < q.2.2 → cell.slots[w.2.2.2.1.2 (h.2.2.1 a) k]? = some (xv_fv w rk h (100 * h.2.2.1 a + k) a)) ∨
   (100 ≤ h.2.2.1 a ∧ cell = arrV (w.2.2.2.2.1 (h.2.2.1 a - 100)) (h.2.2.2.1 a) (fun i => xv_ev w h (h.2.2.1 a) a i)))
def xv_R (w : xv_W) (cl : List vw_C) (rk : Nat → Bool) (h : xv_H) (H : Heap) : Prop := H.size = w.1 + h.1 ∧ (∀ q, q < w.1 → H[q]? = w.2.2.2.2.2[q]?) ∧ ∀ a, a < h.1 → ∃ cell : Cell, H[w.1 + a]? = some cell ∧ xv_at w cl rk h a cell
def xv_as (al : Nat → Nat) (L : xv_L) : List (Nat × Value) := (List.range L.length).filterMap fun j => match L[j]? with
  | some (some v) => some (j, xv_cv al v)
  | _ => none
theorem xv_as_mem {al : Nat → Nat} {L : xv_L} {q : Nat × Value} : q ∈ xv_as al L ↔ ∃ v, L[q.1]? = some (some v) ∧ q.2 = xv_cv al v := by
  obtain ⟨j, u⟩ := q
  simp only [xv_as, List.mem_filterMap, List.mem_range]
  constructor
  · rintro ⟨i, hi, h⟩
    cases hL : L[i]? with
    | none => rw [hL] at h; cases h
    | some o =>
      cases o with
      | none => rw [hL] at h; cases h
      | some v =>
        rw [hL] at h
        simp only [Option.some.injEq, Prod.mk.injEq] at h
        obtain ⟨rfl, rfl⟩ := h
        exact ⟨v, hL, rfl⟩
  · rintro ⟨v, h1, h2⟩
    refine ⟨j, (List.getElem?_eq_some_iff.mp h1).1, ?_⟩
    have h1' : L[j]? = some (some v) := h1
    have h2' : u = xv_cv al v := h2
    rw [h1', h2']
theorem xv_cv_cat (al : Nat → Nat) (v : Value) : (xv_cv al v).category = v.category := by cases v <;> rfl
/-- the locals -/
def xv_ls (al : Nat → Nat) (lg : List Nat) (nL : Nat) (L : xv_L) (ls : Array Slot) : Prop := lv_has ls nL (xv_as al L) ∧ L.length = nL ∧ ∀ (j : Nat) (v : Value), L[j]? = some (some v) → v.category = 2 → j ∈ lg
theorem xv_ls.at {al : Nat → Nat} {lg : List Nat} {nL : Nat} {L : xv_L} {ls : Array Slot} (h : xv_ls al lg nL L ls) {i : Nat} {v : Value} (hi : L[i]? = some (some v)) : ls[i]? = some (.val (xv_cv al v)) :=
  h.1.2.2 (i, xv_cv al v) (xv_as_mem.mpr ⟨v, hi, rfl⟩)
theorem xv_has_sub {ls : Array Slot} {nL : Nat} {l l' : List (Nat × Value)} (h : lv_has ls nL l) (hs : ∀ q ∈ l', q ∈ l) : lv_has ls nL l' := ⟨h.1, h.2.1, fun q hq => h.2.2 q (hs q hq)⟩
theorem xv_b1_spec {lg : List Nat} {i : Nat} (h : xv_b1 lg i = true) {j : Nat} (hj : j + 1 = i) : j ∉ lg := by
  simp only [xv_b1, Bool.or_eq_true, beq_iff_eq, Bool.not_eq_true', List.contains_eq_mem] at h
  rcases h with h | h
  · omega
  · rw [show i - 1 = j by omega] at h
    simpa using h
theorem xv_ls.st1 {al : Nat → Nat} {lg : List Nat} {nL : Nat} {L : xv_L} {ls ls' : Array Slot} (h : xv_ls al lg nL L ls) {i : Nat} {v : Value} (hi : i < L.length) (hb : xv_b1 lg i = true) (hv : v.category = 1)
    (h' : lv_has ls' nL ((i, xv_cv al v) :: (xv_as al L).filter (fun q => !(q.1 == i) && !(q.1 + 1 == i && q.2.category == 2)))) : xv_ls al lg nL (L.set i (some v)) ls' := by
  refine ⟨xv_has_sub h' fun q hq => ?_, by simpa using h.2.1, fun j u hj hu => ?_⟩
  · obtain ⟨u, h1, h2⟩ := xv_as_mem.mp hq
    by_cases hqi : q.1 = i
    · rw [hqi, List.getElem?_set_self hi] at h1
      have e : u = v := by simpa using h1.symm
      subst e
      exact List.mem_cons.mpr (Or.inl (Prod.ext hqi h2))
    · rw [List.getElem?_set_ne (Ne.symm hqi)] at h1
      refine List.mem_cons_of_mem _ (List.mem_filter.mpr ⟨xv_as_mem.mpr ⟨u, h1, h2⟩, ?_⟩)
      have hc : ¬ (q.1 + 1 = i ∧ q.2.category = 2) := fun ⟨e1, e2⟩ => xv_b1_spec hb e1 (h.2.2 q.1 u h1 (by rw [h2, xv_cv_cat] at e2; exact e2))
      simp only [Bool.and_eq_true, Bool.not_eq_true', beq_eq_false_iff_ne, ne_eq, Bool.and_eq_false_imp, beq_iff_eq]
      exact ⟨hqi, fun e1 e2 => hc ⟨e1, e2⟩⟩
  · by_cases hji : j = i
    · rw [hji, List.getElem?_set_self hi] at hj
      have e : u = v := by simpa using hj.symm
      subst e
      omega
    · rw [List.getElem?_set_ne (Ne.symm hji)] at hj
      exact h.2.2 j u hj hu
theorem xv_ls.st2 {al : Nat → Nat} {lg : List Nat} {nL : Nat} {L : xv_L} {ls ls' : Array Slot} (h : xv_ls al lg nL L ls) {i : Nat} {v : Value} (hi : i + 1 < L.length) (hb : xv_b1 lg i = true) (hm : i ∈ lg)
    (h' : lv_has ls' nL ((i, xv_cv al v) :: (xv_as al L).filter (fun q => !(q.1 == i) && (!(q.1 == i + 1) && !(q.1 + 1 == i && q.2.category == 2))))) : xv_ls al lg nL ((L.set i (some v)).set (i + 1) none) ls' := by
  have key : ∀ (j : Nat) (u : Value), ((L.set i (some v)).set (i + 1) none)[j]? = some (some u) → (j = i ∧ u = v) ∨ (j ≠ i ∧ j ≠ i + 1 ∧ L[j]? = some (some u)) := by
    intro j u hj
    by_cases h1 : j = i + 1
    · subst h1
      rw [List.getElem?_set_self (by simpa using hi)] at hj
      cases hj
    · rw [List.getElem?_set_ne (Ne.symm h1)] at hj
      by_cases h2 : j = i
      · subst h2
        rw [List.getElem?_set_self (by omega)] at hj
        exact Or.inl ⟨rfl, by simpa using hj.symm⟩
      · rw [List.getElem?_set_ne (Ne.symm h2)] at hj
        exact Or.inr ⟨h2, h1, hj⟩
  refine ⟨xv_has_sub h' fun q hq => ?_, by simpa using h.2.1, fun j u hj hu => ?_⟩
  · obtain ⟨u, h1, h2⟩ := xv_as_mem.mp hq
    rcases key _ _ h1 with ⟨e1, e2⟩ | ⟨e1, e2, e3⟩
    · subst e2
      exact List.mem_cons.mpr (Or.inl (Prod.ext e1 h2))
    · refine List.mem_cons_of_mem _ (List.mem_filter.mpr ⟨xv_as_mem.mpr ⟨u, e3, h2⟩, ?_⟩)
      have hc : ¬ (q.1 + 1 = i ∧ q.2.category = 2) := fun ⟨d1, d2⟩ => xv_b1_spec hb d1 (h.2.2 q.1 u e3 (by rw [h2, xv_cv_cat] at d2; exact d2))
      simp only [Bool.and_eq_true, Bool.not_eq_true', beq_eq_false_iff_ne, ne_eq, Bool.and_eq_false_imp, beq_iff_eq]
      exact ⟨e1, e2, fun d1 d2 => hc ⟨d1, d2⟩⟩
  · rcases key _ _ hj with ⟨e1, -⟩ | ⟨-, -, e3⟩
    · rw [e1]; exact hm
    · exact h.2.2 j u e3 hu
/-- where the arguments stand -/
theorem xv_fit_spec {lg : List Nat} {n : Nat} : ∀ (av : List Value) (i : Nat), xv_fit lg n i av = true → i + (xv_sl av).length ≤ n ∧ ∀ (j : Nat) (v : Value), (xv_sl av)[j]? = some (some v) → v.category = 2 → i + j ∈ lg
  | [], i, h => ⟨by simpa [xv_fit, xv_sl] using h, fun j v hj => by simp [xv_sl] at hj⟩
  | v :: vs, i, h => by
    by_cases hc : v.category = 2
    · simp only [xv_fit, hc, if_true, Bool.and_eq_true, List.contains_eq_mem, decide_eq_true_eq] at h
      obtain ⟨h1, h2⟩ := xv_fit_spec vs (i + 2) h.2
      have e : xv_sl (v :: vs) = some v :: none :: xv_sl vs := by simp [xv_sl, hc]
      rw [e]
      refine ⟨by simp only [List.length_cons]; omega, fun j u hj hu => ?_⟩
      rcases j with _ | _ | j
      · exact h.1
      · simp at hj
      · have := h2 j u (by simpa using hj) hu
        rw [show i + (j + 1 + 1) = i + 2 + j by omega]
        exact this
    · simp only [xv_fit, hc, if_false] at h
      obtain ⟨h1, h2⟩ := xv_fit_spec vs (i + 1) h
      have e : xv_sl (v :: vs) = some v :: xv_sl vs := by simp [xv_sl, hc]
      rw [e]
      refine ⟨by simp only [List.length_cons]; omega, fun j u hj hu => ?_⟩
      rcases j with _ | j
      · exfalso
        simp at hj
        subst hj
        exact hc hu
      · have := h2 j u (by simpa using hj) hu
        rw [show i + (j + 1) = i + 1 + j by omega]
        exact this
theorem xv_sl_len (al : Nat → Nat) : ∀ av : List Value, (lg_sl (av.map (xv_cv al))).length = (xv_sl av).length
  | [] => rfl
  | v :: vs => by
    have ih := xv_sl_len al vs
    by_cases hc : v.category = 2
    · have e1 : xv_sl (v :: vs) = some v :: none :: xv_sl vs := by simp [xv_sl, hc]
      have e2 : lg_sl ((v :: vs).map (xv_cv al)) = .val (xv_cv al v) :: .second :: lg_sl (vs.map (xv_cv al)) := by simp [lg_sl, hc, xv_cv_cat]
      rw [e1, e2]; simp [ih]
    · have e1 : xv_sl (v :: vs) = some v :: xv_sl vs := by simp [xv_sl, hc]
      have e2 : lg_sl ((v :: vs).map (xv_cv al)) = .val (xv_cv al v) :: lg_sl (vs.map (xv_cv al)) := by simp [lg_sl, hc, xv_cv_cat]
      rw [e1, e2]; simp [ih]
theorem xv_sl_args (al : Nat → Nat) : ∀ (av : List Value) (i j : Nat) (v : Value), (xv_sl av)[j]? = some (some v) → (i + j, xv_cv al v) ∈ lv_args i (av.map (xv_cv al))
  | [], i, j, v, h => by simp [xv_sl] at h
  | u :: us, i, j, v, h => by
    by_cases hc : u.category = 2
    · have e1 : xv_sl (u :: us) = some u :: none :: xv_sl us := by simp [xv_sl, hc]
      rw [e1] at h
      simp only [List.map_cons, lv_args, xv_cv_cat, hc, if_true]
      rcases j with _ | _ | j
      · simp at h; subst h; exact List.mem_cons_self
      · simp at h
      · have := xv_sl_args al us (i + 2) j v (by simpa using h)
        rw [show i + (j + 1 + 1) = i + 2 + j by omega]
        exact List.mem_cons_of_mem _ this
    · have e1 : xv_sl (u :: us) = some u :: xv_sl us := by simp [xv_sl, hc]
      rw [e1] at h
      simp only [List.map_cons, lv_args, xv_cv_cat, hc, if_false]
      rcases j with _ | j
      · simp at h; subst h; exact List.mem_cons_self
      · have := xv_sl_args al us (i + 1) j v (by simpa using h)
        rw [show i + (j + 1) = i + 1 + j by omega]
        exact List.mem_cons_of_mem _ this
theorem xv_ls_entry (al : Nat → Nat) {lg : List Nat} {n : Nat} {av : List Value} (h : xv_fit lg n 0 av = true) : xv_ls al lg n (xv_ent n av) ((lg_sl (av.map (xv_cv al)) ++ List.replicate (n - (lg_sl (av.map (xv_cv al))).length) Slot.unset).toArray) := by
  obtain ⟨h1, h2⟩ := xv_fit_spec av 0 h
  have hl := lv_entry (av.map (xv_cv al)) (n := n) (by rw [xv_sl_len]; omega)
  have key : ∀ (j : Nat) (v : Value), (xv_ent n av)[j]? = some (some v) → (xv_sl av)[j]? = some (some v) := by
    intro j v hj
    by_cases hlt : j < (xv_sl av).length
    · rw [xv_ent, List.getElem?_append_left hlt] at hj
      exact hj
    · rw [xv_ent, List.getElem?_append_right (by omega)] at hj
      have := List.eq_of_mem_replicate (List.mem_of_getElem? hj)
      cases this
  refine ⟨xv_has_sub hl fun q hq => ?_, by simp [xv_ent]; omega, fun j v hj hv => ?_⟩
  · obtain ⟨v, e1, e2⟩ := xv_as_mem.mp hq
    have := xv_sl_args al av 0 q.1 v (key _ _ e1)
    rw [Nat.zero_add, ← e2] at this
    exact this
  · have := h2 j v (key _ _ hj) hv
    rwa [Nat.zero_add] at this
end
section
/-! One instruction of the abstract machine is one of the machine's. -/
/-- what the walk needs beside the words: casts, arrays of references, the call of a private start across a nest, the Class of Object[] -/
abbrev xv_X : Type := List (String × String) × List String × List (String × Nat × MethodName × String)
def xv_E (w : xv_W) (sx : xv_X) (U : State) : Prop := (∀ q ∈ sx.1, va_Nw (.castable q.1 q.2) U) ∧ (∀ C ∈ sx.2.1, va_AO C U) ∧ (∀ q ∈ sx.2.2, va_Nw (.methodLinkNest q.1 q.2.1 q.2.2.1 q.2.2.2) U) ∧ va_Mi "[Ljava/lang/Object;" (w.2.2.1 1) U ∧ va_Dc U ∧ 2 < w.2.1
theorem xv_E.warm {w : xv_W} {sx : xv_X} {u U : State} (hW : u.WarmedH U.vm) (h : xv_E w sx u) : xv_E w sx U :=
  ⟨fun q hq => (h.1 q hq).warmC hW, fun C hC => (h.2.1 C hC).moved hW.alike, fun q hq => (h.2.2.1 q hq).warmM hW, h.2.2.2.1.moved hW.alike, h.2.2.2.2.1.moved hW.alike, h.2.2.2.2.2⟩
/-- what a method's walk stands on: the machine, the code, its locals, its own name, the words; the tables; the room; the script and the cells that were there before -/
def xv_Cx (p : Program) (R : Room) (s : State) (m : MethodId) (args : Array Value) (meth : Method) (c : Code) (cc : ByteArray) (w : xv_W) (cl : List vw_C) (aty : List FieldType) (WS : List Jvm.Cond) (stt : List (String × String × String)) (sx : xv_X) (sc : Nat × (Nat → Int32)) (own : String) (nL n0 z0 nE zE : Nat) : Prop :=
  (p.tables.exec = Jvm.exec ∧ c.code = cc ∧ c.maxLocals = nL ∧ s.vm.findClass own = some m.cls ∧ ∀ x ∈ WS, x.before args s = true) ∧
  (va_K w.2.2.2.1 cl [] s ∧ ∀ (j : Nat) (ty : FieldType), aty[j]? = some ty → ArrOfT s (w.2.2.2.2.1 j) ty ∧ va_RA s (w.2.2.2.2.1 j) ty) ∧
  (nE ≤ R.cells + n0 ∧ zE ≤ R.slots + z0 ∧ nE ≤ xv_SB ∧ w.1 ≤ s.heap.size) ∧
  (va_X (w.2.2.1 0) sc.1 sc.2 s s.heap ∧ w.2.2.1 0 < w.1 ∧ 2 < w.2.1 ∧ ∃ fv : Nat → Value, va_T (.object "java/lang/Object") (w.2.2.1 2) 0 fv (fun a => w.1 ≤ a) s s.heap) ∧
  xv_E w sx s ∧ ∀ (k : Nat) (q : String × String × String), stt[k]? = some q → k + 2 < w.2.1 ∧ va_Z q.1 q.2.1 q.2.2 (.ref (w.2.2.1 (k + 2))) (fun a => w.1 ≤ a) s s.heap
/-- the machine, at this point of the abstract one, comes to Q -/
def xv_G (p : Program) (l : Launch) (e : Env) (R : Room) (s : State) (m : MethodId) (args : Array Value) (below : List Frame) (meth : Method) (c : Code) (Q : State → Prop) (w : xv_W) (cl : List vw_C) (rk : Nat → Bool) (lg : List Nat) (nL n0 z0 : Nat) (x : xv_N) : Prop :=
  ∀ (ls : Array Slot) (H : Heap) (locs : List Loc), xv_ls (xv_al w) lg nL x.2.1 ls → xv_R w cl rk x.2.2.2 H → va_S (fun a => w.1 ≤ a) s.heap H locs → n0 ≤ x.2.2.2.1 → z0 ≤ x.2.2.2.2.1 →
    W p l e R s m args below meth c H locs (x.2.2.2.1 - n0) (x.2.2.2.2.1 - z0) Q (F0 m x.1 ls (x.2.2.1.map (xv_cv (xv_al w))))
theorem xv_al_lt {w : xv_W} {a : Nat} (h : a < xv_SB) : xv_al w a = w.1 + a := by
  unfold xv_al
  rw [if_neg (by omega)]
theorem xv_al_st {w : xv_W} {k : Nat} (h : k < w.2.1) : xv_al w (xv_SB + k) = w.2.2.1 k := by
  unfold xv_al
  rw [if_pos (by omega), Nat.add_sub_cancel_left]
theorem xv_cv_rf (w : xv_W) (o : Option Nat) : xv_cv (xv_al w) (va_rf o) = va_rf (o.map (xv_al w)) := by cases o <;> rfl
section XS
variable {p : Program} {l : Launch} {e : Env} {R : Room} {s : State} {m : MethodId} {args : Array Value} {below : List Frame} {meth : Method} {c : Code} {Q : State → Prop} {cc : ByteArray} {w : xv_W} {cl : List vw_C} {rk : Nat → Bool} {aty : List FieldType} {WS : List Jvm.Cond} {stt : List (String × String × String)} {sx : xv_X} {sc : Nat × (Nat → Int32)} {own : String} {nL n0 z0 nE zE : Nat} {lg : List Nat} {pc : Nat} {L : xv_L} {st r : List Value} {h : xv_H} {x y : Int32} {u v : Int64} {i t : Nat}
/-- plain instructions: constants, arithmetic, the stack -/
theorem xs_null (hC : xv_Cx p R s m args meth c cc w cl aty WS stt sx sc own nL n0 z0 nE zE) (hd : decode cc pc = .ok (.aconst_null, 1)) (hG : xv_G p l e R s m args below meth c Q w cl rk lg nL n0 z0 (pc + 1, L, .null :: st, h)) : xv_G p l e R s m args below meth c Q w cl rk lg nL n0 z0 (pc, L, st, h) :=
  fun ls H locs hl hR hS h1 h2 => lv_null hC.1.1 hC.1.2.1 hd (hG ls H locs hl hR hS h1 h2)
theorem xs_iconst {n : Int} (hC : xv_Cx p R s m args meth c cc w cl aty WS stt sx sc own nL n0 z0 nE zE) (hd : decode cc pc = .ok (.iconst n, 1)) (hG : xv_G p l e R s m args below meth c Q w cl rk lg nL n0 z0 (pc + 1, L, .int (Int32.ofInt n) :: st, h)) : xv_G p l e R s m args below meth c Q w cl rk lg nL n0 z0 (pc, L, st, h) :=
  fun ls H locs hl hR hS h1 h2 => lv_iconst hC.1.1 hC.1.2.1 hd rfl (hG ls H locs hl hR hS h1 h2)
theorem xs_bipush {n : Int} (hC : xv_Cx p R s m args meth c cc w cl aty WS stt sx sc own nL n0 z0 nE zE) (hd : decode cc pc = .ok (.bipush n, 2)) (hG : xv_G p l e R s m args below meth c Q w cl rk lg nL n0 z0 (pc + 2, L, .int (Int8.ofInt n).toInt32 :: st, h)) : xv_G p l e R s m args below meth c Q w cl rk lg nL n0 z0 (pc, L, st, h) :=
  fun ls H locs hl hR hS h1 h2 => lv_bipush hC.1.1 hC.1.2.1 hd rfl (hG ls H locs hl hR hS h1 h2)
theorem xs_sipush {n : Int} (hC : xv_Cx p R s m args meth c cc w cl aty WS stt sx sc own nL n0 z0 nE zE) (hd : decode cc pc = .ok (.sipush n, 3)) (hG : xv_G p l e R s m args below meth c Q w cl rk lg nL n0 z0 (pc + 3, L, .int (Int16.ofInt n).toInt32 :: st, h)) : xv_G p l e R s m args below meth c Q w cl rk lg nL n0 z0 (pc, L, st, h) :=
  fun ls H locs hl hR hS h1 h2 => lv_sipush hC.1.1 hC.1.2.1 hd rfl (hG ls H locs hl hR hS h1 h2)
theorem xs_lconst {n : Fin 2} (hC : xv_Cx p R s m args meth c cc w cl aty WS stt sx sc own nL n0 z0 nE zE) (hd : decode cc pc = .ok (.lconst n, 1)) (hG : xv_G p l e R s m args below meth c Q w cl rk lg nL n0 z0 (pc + 1, L, .long (Int64.ofNat (n : Nat)) :: st, h)) : xv_G p l e R s m args below meth c Q w cl rk lg nL n0 z0 (pc, L, st, h) :=
  fun ls H locs hl hR hS h1 h2 => lv_lconst hC.1.1 hC.1.2.1 hd rfl (hG ls H locs hl hR hS h1 h2)
theorem xs_iadd (hC : xv_Cx p R s m args meth c cc w cl aty WS stt sx sc own nL n0 z0 nE zE) (hd : decode cc pc = .ok (.iadd, 1)) (hG : xv_G p l e R s m args below meth c Q w cl rk lg nL n0 z0 (pc + 1, L, .int (x + y) :: st, h)) : xv_G p l e R s m args below meth c Q w cl rk lg nL n0 z0 (pc, L, .int y :: .int x :: st, h) :=
  fun ls H locs hl hR hS h1 h2 => lv_iadd hC.1.1 hC.1.2.1 hd (hG ls H locs hl hR hS h1 h2)
theorem xs_isub (hC : xv_Cx p R s m args meth c cc w cl aty WS stt sx sc own nL n0 z0 nE zE) (hd : decode cc pc = .ok (.isub, 1)) (hG : xv_G p l e R s m args below meth c Q w cl rk lg nL n0 z0 (pc + 1, L, .int (x - y) :: st, h)) : xv_G p l e R s m args below meth c Q w cl rk lg nL n0 z0 (pc, L, .int y :: .int x :: st, h) :=
  fun ls H locs hl hR hS h1 h2 => lv_isub hC.1.1 hC.1.2.1 hd (hG ls H locs hl hR hS h1 h2)
theorem xs_imul (hC : xv_Cx p R s m args meth c cc w cl aty WS stt sx sc own nL n0 z0 nE zE) (hd : decode cc pc = .ok (.imul, 1)) (hG : xv_G p l e R s m args below meth c Q w cl rk lg nL n0 z0 (pc + 1, L, .int (x * y) :: st, h)) : xv_G p l e R s m args below meth c Q w cl rk lg nL n0 z0 (pc, L, .int y :: .int x :: st, h) :=
  fun ls H locs hl hR hS h1 h2 => lv_imul hC.1.1 hC.1.2.1 hd (hG ls H locs hl hR hS h1 h2)
theorem xs_iand (hC : xv_Cx p R s m args meth c cc w cl aty WS stt sx sc own nL n0 z0 nE zE) (hd : decode cc pc = .ok (.iand, 1)) (hG : xv_G p l e R s m args below meth c Q w cl rk lg nL n0 z0 (pc + 1, L, .int (x &&& y) :: st, h)) : xv_G p l e R s m args below meth c Q w cl rk lg nL n0 z0 (pc, L, .int y :: .int x :: st, h) :=
  fun ls H locs hl hR hS h1 h2 => lv_iand hC.1.1 hC.1.2.1 hd (hG ls H locs hl hR hS h1 h2)
theorem xs_ior (hC : xv_Cx p R s m args meth c cc w cl aty WS stt sx sc own nL n0 z0 nE zE) (hd : decode cc pc = .ok (.ior, 1)) (hG : xv_G p l e R s m args below meth c Q w cl rk lg nL n0 z0 (pc + 1, L, .int (x ||| y) :: st, h)) : xv_G p l e R s m args below meth c Q w cl rk lg nL n0 z0 (pc, L, .int y :: .int x :: st, h) :=
  fun ls H locs hl hR hS h1 h2 => lv_ior hC.1.1 hC.1.2.1 hd (hG ls H locs hl hR hS h1 h2)
theorem xs_ishl (hC : xv_Cx p R s m args meth c cc w cl aty WS stt sx sc own nL n0 z0 nE zE) (hd : decode cc pc = .ok (.ishl, 1)) (hG : xv_G p l e R s m args below meth c Q w cl rk lg nL n0 z0 (pc + 1, L, .int (x <<< (y &&& 31)) :: st, h)) : xv_G p l e R s m args below meth c Q w cl rk lg nL n0 z0 (pc, L, .int y :: .int x :: st, h) :=
  fun ls H locs hl hR hS h1 h2 => lv_ishl hC.1.1 hC.1.2.1 hd (hG ls H locs hl hR hS h1 h2)
theorem xs_ishr (hC : xv_Cx p R s m args meth c cc w cl aty WS stt sx sc own nL n0 z0 nE zE) (hd : decode cc pc = .ok (.ishr, 1)) (hG : xv_G p l e R s m args below meth c Q w cl rk lg nL n0 z0 (pc + 1, L, .int (x >>> (y &&& 31)) :: st, h)) : xv_G p l e R s m args below meth c Q w cl rk lg nL n0 z0 (pc, L, .int y :: .int x :: st, h) :=
  fun ls H locs hl hR hS h1 h2 => lv_ishr hC.1.1 hC.1.2.1 hd (hG ls H locs hl hR hS h1 h2)
theorem xs_idiv (hC : xv_Cx p R s m args meth c cc w cl aty WS stt sx sc own nL n0 z0 nE zE) (hd : decode cc pc = .ok (.idiv, 1)) (hy : ¬ y = 0) (hG : xv_G p l e R s m args below meth c Q w cl rk lg nL n0 z0 (pc + 1, L, .int (x / y) :: st, h)) : xv_G p l e R s m args below meth c Q w cl rk lg nL n0 z0 (pc, L, .int y :: .int x :: st, h) :=
  fun ls H locs hl hR hS h1 h2 => lv_idiv hC.1.1 hC.1.2.1 hd hy (hG ls H locs hl hR hS h1 h2)
theorem xs_irem (hC : xv_Cx p R s m args meth c cc w cl aty WS stt sx sc own nL n0 z0 nE zE) (hd : decode cc pc = .ok (.irem, 1)) (hy : ¬ y = 0) (hG : xv_G p l e R s m args below meth c Q w cl rk lg nL n0 z0 (pc + 1, L, .int (x - x / y * y) :: st, h)) : xv_G p l e R s m args below meth c Q w cl rk lg nL n0 z0 (pc, L, .int y :: .int x :: st, h) :=
  fun ls H locs hl hR hS h1 h2 => lv_irem hC.1.1 hC.1.2.1 hd hy (hG ls H locs hl hR hS h1 h2)
theorem xs_ladd (hC : xv_Cx p R s m args meth c cc w cl aty WS stt sx sc own nL n0 z0 nE zE) (hd : decode cc pc = .ok (.ladd, 1)) (hG : xv_G p l e R s m args below meth c Q w cl rk lg nL n0 z0 (pc + 1, L, .long (u + v) :: st, h)) : xv_G p l e R s m args below meth c Q w cl rk lg nL n0 z0 (pc, L, .long v :: .long u :: st, h) :=
  fun ls H locs hl hR hS h1 h2 => lv_ladd hC.1.1 hC.1.2.1 hd (hG ls H locs hl hR hS h1 h2)
theorem xs_lmul (hC : xv_Cx p R s m args meth c cc w cl aty WS stt sx sc own nL n0 z0 nE zE) (hd : decode cc pc = .ok (.lmul, 1)) (hG : xv_G p l e R s m args below meth c Q w cl rk lg nL n0 z0 (pc + 1, L, .long (u * v) :: st, h)) : xv_G p l e R s m args below meth c Q w cl rk lg nL n0 z0 (pc, L, .long v :: .long u :: st, h) :=
  fun ls H locs hl hR hS h1 h2 => lv_lmul hC.1.1 hC.1.2.1 hd (hG ls H locs hl hR hS h1 h2)
theorem xs_land (hC : xv_Cx p R s m args meth c cc w cl aty WS stt sx sc own nL n0 z0 nE zE) (hd : decode cc pc = .ok (.land, 1)) (hG : xv_G p l e R s m args below meth c Q w cl rk lg nL n0 z0 (pc + 1, L, .long (u &&& v) :: st, h)) : xv_G p l e R s m args below meth c Q w cl rk lg nL n0 z0 (pc, L, .long v :: .long u :: st, h) :=
  fun ls H locs hl hR hS h1 h2 => lv_land hC.1.1 hC.1.2.1 hd (hG ls H locs hl hR hS h1 h2)
theorem xs_lor (hC : xv_Cx p R s m args meth c cc w cl aty WS stt sx sc own nL n0 z0 nE zE) (hd : decode cc pc = .ok (.lor, 1)) (hG : xv_G p l e R s m args below meth c Q w cl rk lg nL n0 z0 (pc + 1, L, .long (u ||| v) :: st, h)) : xv_G p l e R s m args below meth c Q w cl rk lg nL n0 z0 (pc, L, .long v :: .long u :: st, h) :=
  fun ls H locs hl hR hS h1 h2 => lv_lor hC.1.1 hC.1.2.1 hd (hG ls H locs hl hR hS h1 h2)
theorem xs_lxor (hC : xv_Cx p R s m args meth c cc w cl aty WS stt sx sc own nL n0 z0 nE zE) (hd : decode cc pc = .ok (.lxor, 1)) (hG : xv_G p l e R s m args below meth c Q w cl rk lg nL n0 z0 (pc + 1, L, .long (u ^^^ v) :: st, h)) : xv_G p l e R s m args below meth c Q w cl rk lg nL n0 z0 (pc, L, .long v :: .long u :: st, h) :=
  fun ls H locs hl hR hS h1 h2 => lv_lxor hC.1.1 hC.1.2.1 hd (hG ls H locs hl hR hS h1 h2)
theorem xs_lshl (hC : xv_Cx p R s m args meth c cc w cl aty WS stt sx sc own nL n0 z0 nE zE) (hd : decode cc pc = .ok (.lshl, 1)) (hG : xv_G p l e R s m args below meth c Q w cl rk lg nL n0 z0 (pc + 1, L, .long (u <<< (y.toInt64 &&& 63)) :: st, h)) : xv_G p l e R s m args below meth c Q w cl rk lg nL n0 z0 (pc, L, .int y :: .long u :: st, h) :=
  fun ls H locs hl hR hS h1 h2 => lv_lshl hC.1.1 hC.1.2.1 hd rfl (hG ls H locs hl hR hS h1 h2)
theorem xs_lshr (hC : xv_Cx p R s m args meth c cc w cl aty WS stt sx sc own nL n0 z0 nE zE) (hd : decode cc pc = .ok (.lshr, 1)) (hG : xv_G p l e R s m args below meth c Q w cl rk lg nL n0 z0 (pc + 1, L, .long (u >>> (y.toInt64 &&& 63)) :: st, h)) : xv_G p l e R s m args below meth c Q w cl rk lg nL n0 z0 (pc, L, .int y :: .long u :: st, h) :=
  fun ls H locs hl hR hS h1 h2 => lv_lshr hC.1.1 hC.1.2.1 hd rfl (hG ls H locs hl hR hS h1 h2)
theorem xs_i2l (hC : xv_Cx p R s m args meth c cc w cl aty WS stt sx sc own nL n0 z0 nE zE) (hd : decode cc pc = .ok (.i2l, 1)) (hG : xv_G p l e R s m args below meth c Q w cl rk lg nL n0 z0 (pc + 1, L, .long x.toInt64 :: st, h)) : xv_G p l e R s m args below meth c Q w cl rk lg nL n0 z0 (pc, L, .int x :: st, h) :=
  fun ls H locs hl hR hS h1 h2 => lv_i2l hC.1.1 hC.1.2.1 hd rfl (hG ls H locs hl hR hS h1 h2)
theorem xs_l2i (hC : xv_Cx p R s m args meth c cc w cl aty WS stt sx sc own nL n0 z0 nE zE) (hd : decode cc pc = .ok (.l2i, 1)) (hG : xv_G p l e R s m args below meth c Q w cl rk lg nL n0 z0 (pc + 1, L, .int u.toInt32 :: st, h)) : xv_G p l e R s m args below meth c Q w cl rk lg nL n0 z0 (pc, L, .long u :: st, h) :=
  fun ls H locs hl hR hS h1 h2 => lv_l2i hC.1.1 hC.1.2.1 hd rfl (hG ls H locs hl hR hS h1 h2)
theorem xs_i2b (hC : xv_Cx p R s m args meth c cc w cl aty WS stt sx sc own nL n0 z0 nE zE) (hd : decode cc pc = .ok (.i2b, 1)) (hG : xv_G p l e R s m args below meth c Q w cl rk lg nL n0 z0 (pc + 1, L, .int x.toInt8.toInt32 :: st, h)) : xv_G p l e R s m args below meth c Q w cl rk lg nL n0 z0 (pc, L, .int x :: st, h) :=
  fun ls H locs hl hR hS h1 h2 => lv_i2b hC.1.1 hC.1.2.1 hd rfl (hG ls H locs hl hR hS h1 h2)
theorem xs_pop {va : Value} (hC : xv_Cx p R s m args meth c cc w cl aty WS stt sx sc own nL n0 z0 nE zE) (hd : decode cc pc = .ok (.pop, 1)) (hva : va.category = 1) (hG : xv_G p l e R s m args below meth c Q w cl rk lg nL n0 z0 (pc + 1, L, st, h)) : xv_G p l e R s m args below meth c Q w cl rk lg nL n0 z0 (pc, L, va :: st, h) :=
  fun ls H locs hl hR hS h1 h2 => lv_pop hC.1.1 hC.1.2.1 hd ((xv_cv_cat _ _).trans hva) (hG ls H locs hl hR hS h1 h2)
theorem xs_dup {va : Value} (hC : xv_Cx p R s m args meth c cc w cl aty WS stt sx sc own nL n0 z0 nE zE) (hd : decode cc pc = .ok (.dup, 1)) (hva : va.category = 1) (hG : xv_G p l e R s m args below meth c Q w cl rk lg nL n0 z0 (pc + 1, L, va :: va :: st, h)) : xv_G p l e R s m args below meth c Q w cl rk lg nL n0 z0 (pc, L, va :: st, h) :=
  fun ls H locs hl hR hS h1 h2 => lv_dup hC.1.1 hC.1.2.1 hd ((xv_cv_cat _ _).trans hva) (hG ls H locs hl hR hS h1 h2)
theorem xs_dup_x1 {va vb : Value} (hC : xv_Cx p R s m args meth c cc w cl aty WS stt sx sc own nL n0 z0 nE zE) (hd : decode cc pc = .ok (.dup_x1, 1)) (hva : va.category = 1) (hvb : vb.category = 1) (hG : xv_G p l e R s m args below meth c Q w cl rk lg nL n0 z0 (pc + 1, L, va :: vb :: va :: st, h)) : xv_G p l e R s m args below meth c Q w cl rk lg nL n0 z0 (pc, L, va :: vb :: st, h) :=
  fun ls H locs hl hR hS h1 h2 => lv_dup_x1 hC.1.1 hC.1.2.1 hd ((xv_cv_cat _ _).trans hva) ((xv_cv_cat _ _).trans hvb) (hG ls H locs hl hR hS h1 h2)
theorem xs_dup_x2 {va vb vd : Value} (hC : xv_Cx p R s m args meth c cc w cl aty WS stt sx sc own nL n0 z0 nE zE) (hd : decode cc pc = .ok (.dup_x2, 1)) (hva : va.category = 1) (hvb : vb.category = 1) (hvd : vd.category = 1) (hG : xv_G p l e R s m args below meth c Q w cl rk lg nL n0 z0 (pc + 1, L, va :: vb :: vd :: va :: st, h)) : xv_G p l e R s m args below meth c Q w cl rk lg nL n0 z0 (pc, L, va :: vb :: vd :: st, h) :=
  fun ls H locs hl hR hS h1 h2 => lv_dup_x2 hC.1.1 hC.1.2.1 hd ((xv_cv_cat _ _).trans hva) ((xv_cv_cat _ _).trans hvb) ((xv_cv_cat _ _).trans hvd) (hG ls H locs hl hR hS h1 h2)
theorem xs_dup2 {va vb : Value} (hC : xv_Cx p R s m args meth c cc w cl aty WS stt sx sc own nL n0 z0 nE zE) (hd : decode cc pc = .ok (.dup2, 1)) (hva : va.category = 1) (hvb : vb.category = 1) (hG : xv_G p l e R s m args below meth c Q w cl rk lg nL n0 z0 (pc + 1, L, va :: vb :: va :: vb :: st, h)) : xv_G p l e R s m args below meth c Q w cl rk lg nL n0 z0 (pc, L, va :: vb :: st, h) :=
  fun ls H locs hl hR hS h1 h2 => lv_dup2_11 hC.1.1 hC.1.2.1 hd ((xv_cv_cat _ _).trans hva) ((xv_cv_cat _ _).trans hvb) (hG ls H locs hl hR hS h1 h2)
/-- the locals -/
theorem xs_iload (hC : xv_Cx p R s m args meth c cc w cl aty WS stt sx sc own nL n0 z0 nE zE) (hd : decode cc pc = .ok (.iload i, 2)) (hL : L[i]? = some (some (.int x))) (hG : xv_G p l e R s m args below meth c Q w cl rk lg nL n0 z0 (pc + 2, L, .int x :: st, h)) : xv_G p l e R s m args below meth c Q w cl rk lg nL n0 z0 (pc, L, st, h) :=
  fun ls H locs hl hR hS h1 h2 => lv_iload hC.1.1 hC.1.2.1 hd (hl.at hL) (hG ls H locs hl hR hS h1 h2)
theorem xs_lload (hC : xv_Cx p R s m args meth c cc w cl aty WS stt sx sc own nL n0 z0 nE zE) (hd : decode cc pc = .ok (.lload i, 2)) (hL : L[i]? = some (some (.long u))) (hG : xv_G p l e R s m args below meth c Q w cl rk lg nL n0 z0 (pc + 2, L, .long u :: st, h)) : xv_G p l e R s m args below meth c Q w cl rk lg nL n0 z0 (pc, L, st, h) :=
  fun ls H locs hl hR hS h1 h2 => lv_lload hC.1.1 hC.1.2.1 hd (hl.at hL) (hG ls H locs hl hR hS h1 h2)
theorem xs_iload_n {k : Fin 4} (hC : xv_Cx p R s m args meth c cc w cl aty WS stt sx sc own nL n0 z0 nE zE) (hd : decode cc pc = .ok (.iload_n k, 1)) (hL : L[(k : Nat)]? = some (some (.int x))) (hG : xv_G p l e R s m args below meth c Q w cl rk lg nL n0 z0 (pc + 1, L, .int x :: st, h)) : xv_G p l e R s m args below meth c Q w cl rk lg nL n0 z0 (pc, L, st, h) :=
  fun ls H locs hl hR hS h1 h2 => lv_iload_n hC.1.1 hC.1.2.1 hd rfl (hl.at hL) (hG ls H locs hl hR hS h1 h2)
theorem xs_lload_n {k : Fin 4} (hC : xv_Cx p R s m args meth c cc w cl aty WS stt sx sc own nL n0 z0 nE zE) (hd : decode cc pc = .ok (.lload_n k, 1)) (hL : L[(k : Nat)]? = some (some (.long u))) (hG : xv_G p l e R s m args below meth c Q w cl rk lg nL n0 z0 (pc + 1, L, .long u :: st, h)) : xv_G p l e R s m args below meth c Q w cl rk lg nL n0 z0 (pc, L, st, h) :=
  fun ls H locs hl hR hS h1 h2 => lv_lload_n hC.1.1 hC.1.2.1 hd rfl (hl.at hL) (hG ls H locs hl hR hS h1 h2)
theorem xs_aload (hC : xv_Cx p R s m args meth c cc w cl aty WS stt sx sc own nL n0 z0 nE zE) (hd : decode cc pc = .ok (.aload i, 2)) (hL : L[i]? = some (some (.ref t))) (hG : xv_G p l e R s m args below meth c Q w cl rk lg nL n0 z0 (pc + 2, L, .ref t :: st, h)) : xv_G p l e R s m args below meth c Q w cl rk lg nL n0 z0 (pc, L, st, h) :=
  fun ls H locs hl hR hS h1 h2 => lv_aload hC.1.1 hC.1.2.1 hd (hl.at hL) (hG ls H locs hl hR hS h1 h2)
theorem xs_aload_n {k : Fin 4} (hC : xv_Cx p R s m args meth c cc w cl aty WS stt sx sc own nL n0 z0 nE zE) (hd : decode cc pc = .ok (.aload_n k, 1)) (hL : L[(k : Nat)]? = some (some (.ref t))) (hG : xv_G p l e R s m args below meth c Q w cl rk lg nL n0 z0 (pc + 1, L, .ref t :: st, h)) : xv_G p l e R s m args below meth c Q w cl rk lg nL n0 z0 (pc, L, st, h) :=
  fun ls H locs hl hR hS h1 h2 => lv_aload_n hC.1.1 hC.1.2.1 hd rfl (hl.at hL) (hG ls H locs hl hR hS h1 h2)
theorem xs_aloadN (hC : xv_Cx p R s m args meth c cc w cl aty WS stt sx sc own nL n0 z0 nE zE) (hd : decode cc pc = .ok (.aload i, 2)) (hL : L[i]? = some (some .null)) (hG : xv_G p l e R s m args below meth c Q w cl rk lg nL n0 z0 (pc + 2, L, .null :: st, h)) : xv_G p l e R s m args below meth c Q w cl rk lg nL n0 z0 (pc, L, st, h) :=
  fun ls H locs hl hR hS h1 h2 => lv_aloadN hC.1.1 hC.1.2.1 hd (hl.at hL) (hG ls H locs hl hR hS h1 h2)
theorem xs_aload_nN {k : Fin 4} (hC : xv_Cx p R s m args meth c cc w cl aty WS stt sx sc own nL n0 z0 nE zE) (hd : decode cc pc = .ok (.aload_n k, 1)) (hL : L[(k : Nat)]? = some (some .null)) (hG : xv_G p l e R s m args below meth c Q w cl rk lg nL n0 z0 (pc + 1, L, .null :: st, h)) : xv_G p l e R s m args below meth c Q w cl rk lg nL n0 z0 (pc, L, st, h) :=
  fun ls H locs hl hR hS h1 h2 => lv_aload_nN hC.1.1 hC.1.2.1 hd rfl (hl.at hL) (hG ls H locs hl hR hS h1 h2)
theorem xs_istore (hC : xv_Cx p R s m args meth c cc w cl aty WS stt sx sc own nL n0 z0 nE zE) (hd : decode cc pc = .ok (.istore i, 2)) (hi : i < L.length) (hb : xv_b1 lg i = true) (hG : xv_G p l e R s m args below meth c Q w cl rk lg nL n0 z0 (pc + 2, L.set i (some (.int x)), st, h)) : xv_G p l e R s m args below meth c Q w cl rk lg nL n0 z0 (pc, L, .int x :: st, h) :=
  fun ls H locs hl hR hS h1 h2 => lv_istore hC.1.1 hC.1.2.1 hd hl.1 (by rw [← hl.2.1]; exact hi) rfl fun ls' h' => hG ls' H locs (hl.st1 hi hb rfl h') hR hS h1 h2
theorem xs_istore_n {k : Fin 4} (hC : xv_Cx p R s m args meth c cc w cl aty WS stt sx sc own nL n0 z0 nE zE) (hd : decode cc pc = .ok (.istore_n k, 1)) (hi : (k : Nat) < L.length) (hb : xv_b1 lg (k : Nat) = true) (hG : xv_G p l e R s m args below meth c Q w cl rk lg nL n0 z0 (pc + 1, L.set (k : Nat) (some (.int x)), st, h)) : xv_G p l e R s m args below meth c Q w cl rk lg nL n0 z0 (pc, L, .int x :: st, h) :=
  fun ls H locs hl hR hS h1 h2 => lv_istore_n hC.1.1 hC.1.2.1 hd rfl hl.1 (by rw [← hl.2.1]; exact hi) rfl fun ls' h' => hG ls' H locs (hl.st1 hi hb rfl h') hR hS h1 h2
theorem xs_lstore (hC : xv_Cx p R s m args meth c cc w cl aty WS stt sx sc own nL n0 z0 nE zE) (hd : decode cc pc = .ok (.lstore i, 2)) (hi : i + 1 < L.length) (hb : xv_b1 lg i = true) (hm : i ∈ lg) (hG : xv_G p l e R s m args below meth c Q w cl rk lg nL n0 z0 (pc + 2, (L.set i (some (.long u))).set (i + 1) none, st, h)) : xv_G p l e R s m args below meth c Q w cl rk lg nL n0 z0 (pc, L, .long u :: st, h) :=
  fun ls H locs hl hR hS h1 h2 => lv_lstore hC.1.1 hC.1.2.1 hd hl.1 (by rw [← hl.2.1]; exact hi) rfl fun ls' h' => hG ls' H locs (hl.st2 hi hb hm h') hR hS h1 h2
theorem xs_lstore_n {k : Fin 4} (hC : xv_Cx p R s m args meth c cc w cl aty WS stt sx sc own nL n0 z0 nE zE) (hd : decode cc pc = .ok (.lstore_n k, 1)) (hi : (k : Nat) + 1 < L.length) (hb : xv_b1 lg (k : Nat) = true) (hm : (k : Nat) ∈ lg) (hG : xv_G p l e R s m args below meth c Q w cl rk lg nL n0 z0 (pc + 1, (L.set (k : Nat) (some (.long u))).set ((k : Nat) + 1) none, st, h)) : xv_G p l e R s m args below meth c Q w cl rk lg nL n0 z0 (pc, L, .long u :: st, h) :=
  fun ls H locs hl hR hS h1 h2 => lv_lstore_n hC.1.1 hC.1.2.1 hd rfl hl.1 (by rw [← hl.2.1]; exact hi) rfl fun ls' h' => hG ls' H locs (hl.st2 hi hb hm h') hR hS h1 h2
theorem xs_astore (hC : xv_Cx p R s m args meth c cc w cl aty WS stt sx sc own nL n0 z0 nE zE) (hd : decode cc pc = .ok (.astore i, 2)) (hi : i < L.length) (hb : xv_b1 lg i = true) (hG : xv_G p l e R s m args below meth c Q w cl rk lg nL n0 z0 (pc + 2, L.set i (some (.ref t)), st, h)) : xv_G p l e R s m args below meth c Q w cl rk lg nL n0 z0 (pc, L, .ref t :: st, h) :=
  fun ls H locs hl hR hS h1 h2 => lv_astore hC.1.1 hC.1.2.1 hd hl.1 (by rw [← hl.2.1]; exact hi) rfl fun ls' h' => hG ls' H locs (hl.st1 hi hb rfl h') hR hS h1 h2
theorem xs_astore_n {k : Fin 4} (hC : xv_Cx p R s m args meth c cc w cl aty WS stt sx sc own nL n0 z0 nE zE) (hd : decode cc pc = .ok (.astore_n k, 1)) (hi : (k : Nat) < L.length) (hb : xv_b1 lg (k : Nat) = true) (hG : xv_G p l e R s m args below meth c Q w cl rk lg nL n0 z0 (pc + 1, L.set (k : Nat) (some (.ref t)), st, h)) : xv_G p l e R s m args below meth c Q w cl rk lg nL n0 z0 (pc, L, .ref t :: st, h) :=
  fun ls H locs hl hR hS h1 h2 => lv_astore_n hC.1.1 hC.1.2.1 hd rfl hl.1 (by rw [← hl.2.1]; exact hi) rfl fun ls' h' => hG ls' H locs (hl.st1 hi hb rfl h') hR hS h1 h2
theorem xs_astoreN (hC : xv_Cx p R s m args meth c cc w cl aty WS stt sx sc own nL n0 z0 nE zE) (hd : decode cc pc = .ok (.astore i, 2)) (hi : i < L.length) (hb : xv_b1 lg i = true) (hG : xv_G p l e R s m args below meth c Q w cl rk lg nL n0 z0 (pc + 2, L.set i (some (.null)), st, h)) : xv_G p l e R s m args below meth c Q w cl rk lg nL n0 z0 (pc, L, .null :: st, h) :=
  fun ls H locs hl hR hS h1 h2 => lv_astoreN hC.1.1 hC.1.2.1 hd hl.1 (by rw [← hl.2.1]; exact hi) rfl fun ls' h' => hG ls' H locs (hl.st1 hi hb rfl h') hR hS h1 h2
theorem xs_astore_nN {k : Fin 4} (hC : xv_Cx p R s m args meth c cc w cl aty WS stt sx sc own nL n0 z0 nE zE) (hd : decode cc pc = .ok (.astore_n k, 1)) (hi : (k : Nat) < L.length) (hb : xv_b1 lg (k : Nat) = true) (hG : xv_G p l e R s m args below meth c Q w cl rk lg nL n0 z0 (pc + 1, L.set (k : Nat) (some (.null)), st, h)) : xv_G p l e R s m args below meth c Q w cl rk lg nL n0 z0 (pc, L, .null :: st, h) :=
  fun ls H locs hl hR hS h1 h2 => lv_astore_nN hC.1.1 hC.1.2.1 hd rfl hl.1 (by rw [← hl.2.1]; exact hi) rfl fun ls' h' => hG ls' H locs (hl.st1 hi hb rfl h') hR hS h1 h2
theorem xs_iinc {n : Int} (hC : xv_Cx p R s m args meth c cc w cl aty WS stt sx sc own nL n0 z0 nE zE) (hd : decode cc pc = .ok (.iinc i n, 3)) (hL : L[i]? = some (some (.int x))) (hi : i < L.length) (hb : xv_b1 lg i = true) (hG : xv_G p l e R s m args below meth c Q w cl rk lg nL n0 z0 (pc + 3, L.set i (some (.int (x + Int32.ofInt n))), st, h)) : xv_G p l e R s m args below meth c Q w cl rk lg nL n0 z0 (pc, L, st, h) := by
  intro ls H locs hl hR hS h1 h2
  obtain ⟨k, hk⟩ := List.getElem?_of_mem (xv_as_mem (al := xv_al w) (q := (i, .int x)) |>.mpr ⟨_, hL, rfl⟩)
  exact lv_iinc hC.1.1 hC.1.2.1 hd hl.1 hk rfl (by rw [← hl.2.1]; exact hi) rfl fun ls' h' => hG ls' H locs (hl.st1 (v := .int (x + Int32.ofInt n)) hi hb rfl h') hR hS h1 h2
/-- branches -/
theorem xs_if_eq {off : Int} {tgt : Nat} (hC : xv_Cx p R s m args meth c cc w cl aty WS stt sx sc own nL n0 z0 nE zE) (hd : decode cc pc = .ok (.ifCond .eq off, 3)) (ht : (pc : Int) + off = (tgt : Int)) (kt : x = 0 → xv_G p l e R s m args below meth c Q w cl rk lg nL n0 z0 (tgt, L, st, h)) (kf : ¬ (x = 0) → xv_G p l e R s m args below meth c Q w cl rk lg nL n0 z0 (pc + 3, L, st, h)) : xv_G p l e R s m args below meth c Q w cl rk lg nL n0 z0 (pc, L, .int x :: st, h) :=
  fun ls H locs hl hR hS h1 h2 => lv_if_eq hC.1.1 hC.1.2.1 hd ht (fun q => kt q ls H locs hl hR hS h1 h2) (fun q => kf q ls H locs hl hR hS h1 h2)
theorem xs_icmp_eq {off : Int} {tgt : Nat} (hC : xv_Cx p R s m args meth c cc w cl aty WS stt sx sc own nL n0 z0 nE zE) (hd : decode cc pc = .ok (.if_icmp .eq off, 3)) (ht : (pc : Int) + off = (tgt : Int)) (kt : x = y → xv_G p l e R s m args below meth c Q w cl rk lg nL n0 z0 (tgt, L, st, h)) (kf : ¬ (x = y) → xv_G p l e R s m args below meth c Q w cl rk lg nL n0 z0 (pc + 3, L, st, h)) : xv_G p l e R s m args below meth c Q w cl rk lg nL n0 z0 (pc, L, .int y :: .int x :: st, h) :=
  fun ls H locs hl hR hS h1 h2 => lv_icmp_eq hC.1.1 hC.1.2.1 hd ht (fun q => kt q ls H locs hl hR hS h1 h2) (fun q => kf q ls H locs hl hR hS h1 h2)
theorem xs_if_ne {off : Int} {tgt : Nat} (hC : xv_Cx p R s m args meth c cc w cl aty WS stt sx sc own nL n0 z0 nE zE) (hd : decode cc pc = .ok (.ifCond .ne off, 3)) (ht : (pc : Int) + off = (tgt : Int)) (kt : ¬ x = 0 → xv_G p l e R s m args below meth c Q w cl rk lg nL n0 z0 (tgt, L, st, h)) (kf : ¬ (¬ x = 0) → xv_G p l e R s m args below meth c Q w cl rk lg nL n0 z0 (pc + 3, L, st, h)) : xv_G p l e R s m args below meth c Q w cl rk lg nL n0 z0 (pc, L, .int x :: st, h) :=
  fun ls H locs hl hR hS h1 h2 => lv_if_ne hC.1.1 hC.1.2.1 hd ht (fun q => kt q ls H locs hl hR hS h1 h2) (fun q => kf (fun z => z q) ls H locs hl hR hS h1 h2)
theorem xs_icmp_ne {off : Int} {tgt : Nat} (hC : xv_Cx p R s m args meth c cc w cl aty WS stt sx sc own nL n0 z0 nE zE) (hd : decode cc pc = .ok (.if_icmp .ne off, 3)) (ht : (pc : Int) + off = (tgt : Int)) (kt : ¬ x = y → xv_G p l e R s m args below meth c Q w cl rk lg nL n0 z0 (tgt, L, st, h)) (kf : ¬ (¬ x = y) → xv_G p l e R s m args below meth c Q w cl rk lg nL n0 z0 (pc + 3, L, st, h)) : xv_G p l e R s m args below meth c Q w cl rk lg nL n0 z0 (pc, L, .int y :: .int x :: st, h) :=
  fun ls H locs hl hR hS h1 h2 => lv_icmp_ne hC.1.1 hC.1.2.1 hd ht (fun q => kt q ls H locs hl hR hS h1 h2) (fun q => kf (fun z => z q) ls H locs hl hR hS h1 h2)
theorem xs_if_lt {off : Int} {tgt : Nat} (hC : xv_Cx p R s m args meth c cc w cl aty WS stt sx sc own nL n0 z0 nE zE) (hd : decode cc pc = .ok (.ifCond .lt off, 3)) (ht : (pc : Int) + off = (tgt : Int)) (kt : x < 0 → xv_G p l e R s m args below meth c Q w cl rk lg nL n0 z0 (tgt, L, st, h)) (kf : ¬ (x < 0) → xv_G p l e R s m args below meth c Q w cl rk lg nL n0 z0 (pc + 3, L, st, h)) : xv_G p l e R s m args below meth c Q w cl rk lg nL n0 z0 (pc, L, .int x :: st, h) :=
  fun ls H locs hl hR hS h1 h2 => lv_if_lt hC.1.1 hC.1.2.1 hd ht (fun q => kt q ls H locs hl hR hS h1 h2) (fun q => kf q ls H locs hl hR hS h1 h2)
theorem xs_icmp_lt {off : Int} {tgt : Nat} (hC : xv_Cx p R s m args meth c cc w cl aty WS stt sx sc own nL n0 z0 nE zE) (hd : decode cc pc = .ok (.if_icmp .lt off, 3)) (ht : (pc : Int) + off = (tgt : Int)) (kt : x < y → xv_G p l e R s m args below meth c Q w cl rk lg nL n0 z0 (tgt, L, st, h)) (kf : ¬ (x < y) → xv_G p l e R s m args below meth c Q w cl rk lg nL n0 z0 (pc + 3, L, st, h)) : xv_G p l e R s m args below meth c Q w cl rk lg nL n0 z0 (pc, L, .int y :: .int x :: st, h) :=
  fun ls H locs hl hR hS h1 h2 => lv_icmp_lt hC.1.1 hC.1.2.1 hd ht (fun q => kt q ls H locs hl hR hS h1 h2) (fun q => kf q ls H locs hl hR hS h1 h2)
theorem xs_if_ge {off : Int} {tgt : Nat} (hC : xv_Cx p R s m args meth c cc w cl aty WS stt sx sc own nL n0 z0 nE zE) (hd : decode cc pc = .ok (.ifCond .ge off, 3)) (ht : (pc : Int) + off = (tgt : Int)) (kt : 0 ≤ x → xv_G p l e R s m args below meth c Q w cl rk lg nL n0 z0 (tgt, L, st, h)) (kf : ¬ (0 ≤ x) → xv_G p l e R s m args below meth c Q w cl rk lg nL n0 z0 (pc + 3, L, st, h)) : xv_G p l e R s m args below meth c Q w cl rk lg nL n0 z0 (pc, L, .int x :: st, h) :=
  fun ls H locs hl hR hS h1 h2 => lv_if_ge hC.1.1 hC.1.2.1 hd ht (fun q => kt q ls H locs hl hR hS h1 h2) (fun q => kf q ls H locs hl hR hS h1 h2)
theorem xs_icmp_ge {off : Int} {tgt : Nat} (hC : xv_Cx p R s m args meth c cc w cl aty WS stt sx sc own nL n0 z0 nE zE) (hd : decode cc pc = .ok (.if_icmp .ge off, 3)) (ht : (pc : Int) + off = (tgt : Int)) (kt : y ≤ x → xv_G p l e R s m args below meth c Q w cl rk lg nL n0 z0 (tgt, L, st, h)) (kf : ¬ (y ≤ x) → xv_G p l e R s m args below meth c Q w cl rk lg nL n0 z0 (pc + 3, L, st, h)) : xv_G p l e R s m args below meth c Q w cl rk lg nL n0 z0 (pc, L, .int y :: .int x :: st, h) :=
  fun ls H locs hl hR hS h1 h2 => lv_icmp_ge hC.1.1 hC.1.2.1 hd ht (fun q => kt q ls H locs hl hR hS h1 h2) (fun q => kf q ls H locs hl hR hS h1 h2)
theorem xs_if_gt {off : Int} {tgt : Nat} (hC : xv_Cx p R s m args meth c cc w cl aty WS stt sx sc own nL n0 z0 nE zE) (hd : decode cc pc = .ok (.ifCond .gt off, 3)) (ht : (pc : Int) + off = (tgt : Int)) (kt : 0 < x → xv_G p l e R s m args below meth c Q w cl rk lg nL n0 z0 (tgt, L, st, h)) (kf : ¬ (0 < x) → xv_G p l e R s m args below meth c Q w cl rk lg nL n0 z0 (pc + 3, L, st, h)) : xv_G p l e R s m args below meth c Q w cl rk lg nL n0 z0 (pc, L, .int x :: st, h) :=
  fun ls H locs hl hR hS h1 h2 => lv_if_gt hC.1.1 hC.1.2.1 hd ht (fun q => kt q ls H locs hl hR hS h1 h2) (fun q => kf q ls H locs hl hR hS h1 h2)
theorem xs_icmp_gt {off : Int} {tgt : Nat} (hC : xv_Cx p R s m args meth c cc w cl aty WS stt sx sc own nL n0 z0 nE zE) (hd : decode cc pc = .ok (.if_icmp .gt off, 3)) (ht : (pc : Int) + off = (tgt : Int)) (kt : y < x → xv_G p l e R s m args below meth c Q w cl rk lg nL n0 z0 (tgt, L, st, h)) (kf : ¬ (y < x) → xv_G p l e R s m args below meth c Q w cl rk lg nL n0 z0 (pc + 3, L, st, h)) : xv_G p l e R s m args below meth c Q w cl rk lg nL n0 z0 (pc, L, .int y :: .int x :: st, h) :=
  fun ls H locs hl hR hS h1 h2 => lv_icmp_gt hC.1.1 hC.1.2.1 hd ht (fun q => kt q ls H locs hl hR hS h1 h2) (fun q => kf q ls H locs hl hR hS h1 h2)
theorem xs_if_le {off : Int} {tgt : Nat} (hC : xv_Cx p R s m args meth c cc w cl aty WS stt sx sc own nL n0 z0 nE zE) (hd : decode cc pc = .ok (.ifCond .le off, 3)) (ht : (pc : Int) + off = (tgt : Int)) (kt : x ≤ 0 → xv_G p l e R s m args below meth c Q w cl rk lg nL n0 z0 (tgt, L, st, h)) (kf : ¬ (x ≤ 0) → xv_G p l e R s m args below meth c Q w cl rk lg nL n0 z0 (pc + 3, L, st, h)) : xv_G p l e R s m args below meth c Q w cl rk lg nL n0 z0 (pc, L, .int x :: st, h) :=
  fun ls H locs hl hR hS h1 h2 => lv_if_le hC.1.1 hC.1.2.1 hd ht (fun q => kt q ls H locs hl hR hS h1 h2) (fun q => kf q ls H locs hl hR hS h1 h2)
theorem xs_icmp_le {off : Int} {tgt : Nat} (hC : xv_Cx p R s m args meth c cc w cl aty WS stt sx sc own nL n0 z0 nE zE) (hd : decode cc pc = .ok (.if_icmp .le off, 3)) (ht : (pc : Int) + off = (tgt : Int)) (kt : x ≤ y → xv_G p l e R s m args below meth c Q w cl rk lg nL n0 z0 (tgt, L, st, h)) (kf : ¬ (x ≤ y) → xv_G p l e R s m args below meth c Q w cl rk lg nL n0 z0 (pc + 3, L, st, h)) : xv_G p l e R s m args below meth c Q w cl rk lg nL n0 z0 (pc, L, .int y :: .int x :: st, h) :=
  fun ls H locs hl hR hS h1 h2 => lv_icmp_le hC.1.1 hC.1.2.1 hd ht (fun q => kt q ls H locs hl hR hS h1 h2) (fun q => kf q ls H locs hl hR hS h1 h2)
theorem xs_goto {off : Int} {tgt : Nat} (hC : xv_Cx p R s m args meth c cc w cl aty WS stt sx sc own nL n0 z0 nE zE) (hd : decode cc pc = .ok (.goto off, 3)) (ht : (pc : Int) + off = (tgt : Int)) (kt : xv_G p l e R s m args below meth c Q w cl rk lg nL n0 z0 (tgt, L, st, h)) : xv_G p l e R s m args below meth c Q w cl rk lg nL n0 z0 (pc, L, st, h) :=
  fun ls H locs hl hR hS h1 h2 => lv_goto hC.1.1 hC.1.2.1 hd ht (kt ls H locs hl hR hS h1 h2)
theorem xs_tabOut {dflt lo hi : Int} {offs : Array Int} {len tgt : Nat} (hC : xv_Cx p R s m args meth c cc w cl aty WS stt sx sc own nL n0 z0 nE zE) (hd : decode cc pc = .ok (.tableswitch dflt lo hi offs, len)) (hx : x.toInt < lo ∨ hi < x.toInt) (ht : (pc : Int) + dflt = (tgt : Int)) (kt : xv_G p l e R s m args below meth c Q w cl rk lg nL n0 z0 (tgt, L, st, h)) : xv_G p l e R s m args below meth c Q w cl rk lg nL n0 z0 (pc, L, .int x :: st, h) :=
  fun ls H locs hl hR hS h1 h2 => lv_tableOut hC.1.1 hC.1.2.1 hd hx ht (kt ls H locs hl hR hS h1 h2)
theorem xs_tabIn {dflt lo hi off : Int} {offs : Array Int} {len tgt : Nat} (hC : xv_Cx p R s m args meth c cc w cl aty WS stt sx sc own nL n0 z0 nE zE) (hd : decode cc pc = .ok (.tableswitch dflt lo hi offs, len)) (hx : ¬ (x.toInt < lo ∨ hi < x.toInt)) (ho : offs[(x.toInt - lo).toNat]? = some off) (ht : (pc : Int) + off = (tgt : Int)) (kt : xv_G p l e R s m args below meth c Q w cl rk lg nL n0 z0 (tgt, L, st, h)) : xv_G p l e R s m args below meth c Q w cl rk lg nL n0 z0 (pc, L, .int x :: st, h) :=
  fun ls H locs hl hR hS h1 h2 => lv_tableIn hC.1.1 hC.1.2.1 hd (fun q => hx (Or.inl q)) (fun q => hx (Or.inr q)) ho ht (kt ls H locs hl hR hS h1 h2)
theorem xs_ifnull {o : Option Nat} {off : Int} {tgt : Nat} (hC : xv_Cx p R s m args meth c cc w cl aty WS stt sx sc own nL n0 z0 nE zE) (hd : decode cc pc = .ok (.ifnull off, 3)) (ht : (pc : Int) + off = (tgt : Int)) (kt : o = none → xv_G p l e R s m args below meth c Q w cl rk lg nL n0 z0 (tgt, L, st, h)) (kf : ¬ o = none → xv_G p l e R s m args below meth c Q w cl rk lg nL n0 z0 (pc + 3, L, st, h)) : xv_G p l e R s m args below meth c Q w cl rk lg nL n0 z0 (pc, L, va_rf o :: st, h) := by
  intro ls H locs hl hR hS h1 h2
  cases o with
  | none => exact lv_ifnullN hC.1.1 hC.1.2.1 hd ht (kt rfl ls H locs hl hR hS h1 h2)
  | some a => exact lv_ifnull hC.1.1 hC.1.2.1 hd (kf (fun q => by cases q) ls H locs hl hR hS h1 h2)
theorem xs_ifnonnull {o : Option Nat} {off : Int} {tgt : Nat} (hC : xv_Cx p R s m args meth c cc w cl aty WS stt sx sc own nL n0 z0 nE zE) (hd : decode cc pc = .ok (.ifnonnull off, 3)) (ht : (pc : Int) + off = (tgt : Int)) (kt : ¬ o = none → xv_G p l e R s m args below meth c Q w cl rk lg nL n0 z0 (tgt, L, st, h)) (kf : ¬ ¬ o = none → xv_G p l e R s m args below meth c Q w cl rk lg nL n0 z0 (pc + 3, L, st, h)) : xv_G p l e R s m args below meth c Q w cl rk lg nL n0 z0 (pc, L, va_rf o :: st, h) := by
  intro ls H locs hl hR hS h1 h2
  cases o with
  | none => exact lv_ifnonnullN hC.1.1 hC.1.2.1 hd (kf (fun q => q rfl) ls H locs hl hR hS h1 h2)
  | some a => exact lv_ifnonnull hC.1.1 hC.1.2.1 hd ht (kt (fun q => by cases q) ls H locs hl hR hS h1 h2)
theorem xs_acmp_eq {o1 o2 : Option Nat} {off : Int} {tgt : Nat} (hI : ∀ a b, xv_cmp a b → xv_al w a = xv_al w b → a = b) (hok : xv_cok o1 o2 = true) (hC : xv_Cx p R s m args meth c cc w cl aty WS stt sx sc own nL n0 z0 nE zE) (hd : decode cc pc = .ok (.if_acmp .eq off, 3)) (ht : (pc : Int) + off = (tgt : Int)) (kt : o1 = o2 → xv_G p l e R s m args below meth c Q w cl rk lg nL n0 z0 (tgt, L, st, h)) (kf : ¬ o1 = o2 → xv_G p l e R s m args below meth c Q w cl rk lg nL n0 z0 (pc + 3, L, st, h)) : xv_G p l e R s m args below meth c Q w cl rk lg nL n0 z0 (pc, L, va_rf o2 :: va_rf o1 :: st, h) := by
  intro ls H locs hl hR hS h1 h2
  have hj : o1.map (xv_al w) = o2.map (xv_al w) ↔ o1 = o2 := by
    constructor
    · intro q
      cases o1 <;> cases o2 <;> simp at q ⊢
      exact hI _ _ (by have h9 := hok; simp only [xv_cok, decide_eq_true_eq] at h9; exact h9) q
    · intro q; rw [q]
  simp only [List.map_cons, xv_cv_rf]
  exact lv_acmp_eq hC.1.1 hC.1.2.1 hd ht (fun q => kt (hj.mp q) ls H locs hl hR hS h1 h2) (fun q => kf (fun z => q (hj.mpr z)) ls H locs hl hR hS h1 h2)
theorem xs_acmp_ne {o1 o2 : Option Nat} {off : Int} {tgt : Nat} (hI : ∀ a b, xv_cmp a b → xv_al w a = xv_al w b → a = b) (hok : xv_cok o1 o2 = true) (hC : xv_Cx p R s m args meth c cc w cl aty WS stt sx sc own nL n0 z0 nE zE) (hd : decode cc pc = .ok (.if_acmp .ne off, 3)) (ht : (pc : Int) + off = (tgt : Int)) (kt : ¬ o1 = o2 → xv_G p l e R s m args below meth c Q w cl rk lg nL n0 z0 (tgt, L, st, h)) (kf : ¬ ¬ o1 = o2 → xv_G p l e R s m args below meth c Q w cl rk lg nL n0 z0 (pc + 3, L, st, h)) : xv_G p l e R s m args below meth c Q w cl rk lg nL n0 z0 (pc, L, va_rf o2 :: va_rf o1 :: st, h) := by
  intro ls H locs hl hR hS h1 h2
  have hj : o1.map (xv_al w) = o2.map (xv_al w) ↔ o1 = o2 := by
    constructor
    · intro q
      cases o1 <;> cases o2 <;> simp at q ⊢
      exact hI _ _ (by have h9 := hok; simp only [xv_cok, decide_eq_true_eq] at h9; exact h9) q
    · intro q; rw [q]
  simp only [List.map_cons, xv_cv_rf]
  exact lv_acmp_ne hC.1.1 hC.1.2.1 hd ht (fun q => kt (fun z => q (hj.mpr z)) ls H locs hl hR hS h1 h2) (fun q => kf (fun z => z (hj.mp q)) ls H locs hl hR hS h1 h2)
end XS
end
section
/-! Fields, arrays, new cells. -/
theorem xv_at.keep {w : xv_W} {cl : List vw_C} {rk : Nat → Bool} {h h' : xv_H} {a : Nat} {cell : Cell} (hc : xv_at w cl rk h a cell) (ht : h'.2.2.1 a = h.2.2.1 a) (hl : h'.2.2.2.1 a = h.2.2.2.1 a)
    (hf : ∀ f, xv_fv w rk h' f a = xv_fv w rk h f a) (he : ∀ t i, xv_ev w h' t a i = xv_ev w h t a i) : xv_at w cl rk h' a cell := by
  obtain ⟨h0, h1 | h1⟩ := hc
  · obtain ⟨q1, q2, q, q3, q4⟩ := h1
    refine ⟨h0, Or.inl ⟨by rw [ht]; exact q1, by rw [ht]; exact q2, q, by rw [ht]; exact q3, fun k hk => ?_⟩⟩
    rw [ht, hf]; exact q4 k hk
  · obtain ⟨q1, q2⟩ := h1
    refine ⟨h0, Or.inr ⟨by rw [ht]; exact q1, ?_⟩⟩
    rw [ht, hl, q2]
    congr 1
    funext i
    exact (he _ i).symm
/-- one cell changes -/
theorem xv_R.set {w : xv_W} {cl : List vw_C} {rk : Nat → Bool} {h h' : xv_H} {H H' : Heap} {a : Nat} {cell : Cell} (hR : xv_R w cl rk h H) (hn : h'.1 = h.1) (hz : H'.size = H.size) (ho : ∀ q, q ≠ w.1 + a → H'[q]? = H[q]?) (hc : H'[w.1 + a]? = some cell) (hat : xv_at w cl rk h' a cell)
    (hk : ∀ (b : Nat) (cb : Cell), b < h.1 → b ≠ a → xv_at w cl rk h b cb → xv_at w cl rk h' b cb) : xv_R w cl rk h' H' := by
  obtain ⟨h1, h2, h3⟩ := hR
  refine ⟨by rw [hz, hn]; exact h1, fun q hq => by rw [ho q (by omega)]; exact h2 q hq, fun b hb => ?_⟩
  rw [hn] at hb
  by_cases hba : b = a
  · subst hba
    exact ⟨cell, hc, hat⟩
  · obtain ⟨cb, e1, e2⟩ := h3 b hb
    exact ⟨cb, by rw [ho _ (by omega)]; exact e1, hk b cb hb hba e2⟩
/-- one cell comes -/
theorem xv_R.push {w : xv_W} {cl : List vw_C} {rk : Nat → Bool} {h h' : xv_H} {H H' : Heap} {cell : Cell} (hR : xv_R w cl rk h H) (hn : h'.1 = h.1 + 1) (hz : H'.size = H.size + 1) (ho : ∀ q, q < H.size → H'[q]? = H[q]?) (hc : H'[H.size]? = some cell) (hat : xv_at w cl rk h' h.1 cell)
    (hk : ∀ (b : Nat) (cb : Cell), b < h.1 → xv_at w cl rk h b cb → xv_at w cl rk h' b cb) : xv_R w cl rk h' H' := by
  obtain ⟨h1, h2, h3⟩ := hR
  refine ⟨by rw [hz, hn, h1]; omega, fun q hq => by rw [ho q (by omega)]; exact h2 q hq, fun b hb => ?_⟩
  rw [hn] at hb
  by_cases hba : b = h.1
  · subst hba
    exact ⟨cell, by rw [← h1]; exact hc, hat⟩
  · obtain ⟨cb, e1, e2⟩ := h3 b (by omega)
    exact ⟨cb, by rw [ho _ (by rw [h1]; omega)]; exact e1, hk b cb (by omega) e2⟩
theorem xv_S.push {A : Nat → Prop} {H0 H H1 : Heap} {locs : List Loc} (h : va_S A H0 H locs) (z : H1.size = H.size + 1) (ho : ∀ q, q < H.size → H1[q]? = H[q]?) : va_S A H0 H1 locs :=
  ⟨by rw [z]; exact Nat.le_succ_of_le h.1, fun q h1 h2 => (ho q (Nat.lt_of_lt_of_le h1 h.1)).trans (h.2.1 q h1 h2), h.2.2⟩
theorem xv_up_ne {β : Type} {f : Nat → Nat → β} {x y a b : Nat} {v : β} (h : ¬ (a = x ∧ b = y)) : xv_up f x y v a b = f a b := if_neg h
theorem xv_up_eq {β : Type} {f : Nat → Nat → β} {x y : Nat} {v : β} : xv_up f x y v x y = v := if_pos ⟨rfl, rfl⟩
theorem xv_arr_is {U : State} {cA : ClassId} {ty : FieldType} (h : ArrOfT U cA ty) {cell : Cell} (h1 : cell.cls = cA) (h2 : cell.vm = .none) : U.isArrayOf cell ty := by
  have h3 := h 0 (fun _ => .null)
  obtain ⟨c, sl, vm⟩ := cell
  simp only at h1 h2
  subst h1; subst h2
  exact h3
section XH
variable {p : Program} {l : Launch} {e : Env} {R : Room} {s : State} {m : MethodId} {args : Array Value} {below : List Frame} {meth : Method} {c : Code} {Q : State → Prop} {cc : ByteArray} {w : xv_W} {cl : List vw_C} {rk : Nat → Bool} {aty : List FieldType} {WS : List Jvm.Cond} {stt : List (String × String × String)} {sx : xv_X} {sc : Nat × (Nat → Int32)} {own : String} {nL n0 z0 nE zE : Nat} {lg : List Nat} {pc : Nat} {L : xv_L} {st r : List Value} {n z : Nat} {tg ln : Nat → Nat} {fr er : Nat → Nat → Option Nat} {fi ei : Nat → Nat → Int32} {el : Nat → Nat → Int64} {x y i : Int32} {u v : Int64} {a b : Nat}
/-- getfield: class ci, field k -/
theorem xs_getf {ci k idx : Nat} {q : vw_C} {ref : String} (hC : xv_Cx p R s m args meth c cc w cl aty WS stt sx sc own nL n0 z0 nE zE) (hd : decode cc pc = .ok (.getfield idx, 3)) (hq : cl[ci]? = some q) (hws : ∀ x ∈ u_ws q.1 q.2.1 q.2.2, x ∈ WS) (hci : ci < 100) (hk : k < q.2.2) (hlink : Jvm.Cond.fieldLink own idx ref (q.2.1 k).2.1 (q.2.1 k).2.2.1 ∈ WS) (hsame : ref = (q.2.1 k).1 ∨ Jvm.Cond.sameField ref (q.2.1 k).1 (q.2.1 k).2.1 (q.2.1 k).2.2.1 ∈ WS)
    (hE : n ≤ nE) (ha : a < n) (ht : tg a = ci)
    (hG : xv_G p l e R s m args below meth c Q w cl rk lg nL n0 z0 (pc + 3, L, (if rk (100 * ci + k) = true then va_rf (fr (100 * ci + k) a) else .int (fi (100 * ci + k) a)) :: st, (n, z, tg, ln, fr, er, fi, ei, el))) : xv_G p l e R s m args below meth c Q w cl rk lg nL n0 z0 (pc, L, .ref a :: st, (n, z, tg, ln, fr, er, fi, ei, el)) := by
  intro ls H locs hl hR hS h1 h2
  obtain ⟨⟨hx, hb, hml, hown, hts⟩, ⟨hK, hA⟩, ⟨hr1, hr2, hr3, hr4⟩, -⟩ := hC
  have hal : xv_al w a = w.1 + a := xv_al_lt (by omega)
  obtain ⟨cell, q1, q2, q3 | q3⟩ := hR.2.2 a ha
  · obtain ⟨q4, q5, q', q6, q7⟩ := q3
    simp only [ht] at q4 q5 q6 q7
    cases q6.symm.trans hq
    obtain ⟨hSl, hfc, kC, hkC, hkind⟩ := hK.1 ci _ hq
    obtain ⟨cf, kf, fj, f, hi, hsl⟩ := hSl k hk
    have hi' : s.fieldFound? ref (q.2.1 k).2.1 (q.2.1 k).2.2.1 = some (cf, kf, fj, f) := by
      rcases hsame with h | h
      · rw [h]; exact hi
      · exact u_same (hts _ h) _ hi
    have hv := q7 k hk
    refine W.getf hx hb hown (hts _ hlink) hi' (u_facts hfc hkC (u_lays hts hws hk) hi).1 (a := w.1 + a) q1 (by rw [q2]; exact fun h => by cases h) (v := xv_fv w rk (n, z, tg, ln, fr, er, fi, ei, el) (100 * ci + k) a) (by rw [hsl]; exact hv) rfl (rest := st.map (xv_cv (xv_al w))) (by simp only [List.map_cons, xv_cv, hal]) hd ?_
    have hg := hG ls H locs hl hR hS h1 h2
    simp only [List.map_cons] at hg
    have e : xv_cv (xv_al w) (if rk (100 * ci + k) = true then va_rf (fr (100 * ci + k) a) else .int (fi (100 * ci + k) a)) = xv_fv w rk (n, z, tg, ln, fr, er, fi, ei, el) (100 * ci + k) a := by
      unfold xv_fv
      split <;> rfl
    rw [e] at hg
    exact hg
  · exfalso
    obtain ⟨q4, -⟩ := q3
    simp only [ht] at q4
    omega
/-- putfield: what has changed -/
theorem xv_R.putf {h' : xv_H} {ci k : Nat} {q : vw_C} {H H' : Heap} {cell : Cell} {v0 : Value} (hR : xv_R w cl rk (n, z, tg, ln, fr, er, fi, ei, el) H) (ha : a < n) (ht : tg a = ci) (hci : ci < 100) (hq : cl[ci]? = some q) (hk : k < q.2.2) (hap : ∀ k', k' < q.2.2 → k' ≠ k → w.2.2.2.1.2 ci k' ≠ w.2.2.2.1.2 ci k)
    (hcell : H[w.1 + a]? = some cell) (hH : H'[w.1 + a]? = some (cell.setSlot (w.2.2.2.1.2 ci k) v0)) (hz : H'.size = H.size) (ho : ∀ q, q ≠ w.1 + a → H'[q]? = H[q]?) (e1 : h'.1 = n) (e2 : h'.2.2.1 = tg) (e3 : h'.2.2.2.1 = ln) (hv : xv_fv w rk h' (100 * ci + k) a = v0) (hf : ∀ g b, ¬ (g = 100 * ci + k ∧ b = a) → xv_fv w rk h' g b = xv_fv w rk (n, z, tg, ln, fr, er, fi, ei, el) g b)
    (he : ∀ t b j, xv_ev w h' t b j = xv_ev w (n, z, tg, ln, fr, er, fi, ei, el) t b j) : xv_R w cl rk h' H' := by
  refine hR.set e1 hz ho hH ?_ fun b cb hb hne hcb => hcb.keep (by rw [e2]) (by rw [e3]) (fun g => hf g b (fun z => hne z.2)) (fun t j => he t b j)
  obtain ⟨cell', q1, q2, q3 | q3⟩ := hR.2.2 a ha
  · cases q1.symm.trans hcell
    obtain ⟨q4, q5, q', q6, q7⟩ := q3
    simp only [ht] at q4 q5 q6 q7
    cases q6.symm.trans hq
    refine ⟨q2, Or.inl ⟨by rw [e2, ht]; exact hci, by rw [e2, ht]; exact q5, q, by rw [e2, ht]; exact hq, fun j hj => ?_⟩⟩
    rw [e2, ht]
    by_cases hjk : j = k
    · subst hjk
      rw [hv]
      exact Cell.slots_setSlot_self _ (k2_hasslot (q7 j hj))
    · rw [slot_ne _ _ (Ne.symm (hap j hj hjk)), q7 j hj, hf _ _ (fun z => hjk (by omega))]
  · exfalso
    obtain ⟨q4, -⟩ := q3
    simp only [ht] at q4
    omega
theorem xs_putf {h' : xv_H} {ci k idx : Nat} {q : vw_C} {ref : String} {ty0 : Nat → FieldType} {v0 : Value} (hC : xv_Cx p R s m args meth c cc w cl aty WS stt sx sc own nL n0 z0 nE zE) (hd : decode cc pc = .ok (.putfield idx, 3)) (hq : cl[ci]? = some q) (hws : ∀ x ∈ u_ws q.1 q.2.1 q.2.2, x ∈ WS) (hci : ci < 100) (hk : k < q.2.2) (hlink : Jvm.Cond.fieldLink own idx ref (q.2.1 k).2.1 (q.2.1 k).2.2.1 ∈ WS) (hsame : ref = (q.2.1 k).1 ∨ Jvm.Cond.sameField ref (q.2.1 k).1 (q.2.1 k).2.1 (q.2.1 k).2.2.1 ∈ WS)
    (hty : ∀ k, k < q.2.2 → parseFieldDescriptor (q.2.1 k).2.2.1 = some (ty0 k)) (hnm : ∀ a, a < q.2.2 → ∀ b, b < q.2.2 → a ≠ b → (q.2.1 a).2.1 ≠ (q.2.1 b).2.1) (hfin : (q.2.1 k).2.2.2 = false ∨ ((q.2.1 k).2.2.2 = true ∧ meth.name = "<init>" ∧ (q.2.1 k).1 = own)) (hnar : narrow (ty0 k) (xv_cv (xv_al w) v0) = xv_cv (xv_al w) v0) (hfit : fits (ty0 k) (xv_cv (xv_al w) v0) = true)
    (hE : n ≤ nE) (ha : a < n) (ht : tg a = ci)
    (e1 : h'.1 = n) (e0 : h'.2.1 = z) (e2 : h'.2.2.1 = tg) (e3 : h'.2.2.2.1 = ln) (hv : xv_fv w rk h' (100 * ci + k) a = xv_cv (xv_al w) v0) (hf : ∀ g b, ¬ (g = 100 * ci + k ∧ b = a) → xv_fv w rk h' g b = xv_fv w rk (n, z, tg, ln, fr, er, fi, ei, el) g b) (he : ∀ t b j, xv_ev w h' t b j = xv_ev w (n, z, tg, ln, fr, er, fi, ei, el) t b j)
    (hG : xv_G p l e R s m args below meth c Q w cl rk lg nL n0 z0 (pc + 3, L, st, h')) : xv_G p l e R s m args below meth c Q w cl rk lg nL n0 z0 (pc, L, v0 :: .ref a :: st, (n, z, tg, ln, fr, er, fi, ei, el)) := by
  intro ls H locs hl hR hS h1 h2
  obtain ⟨⟨hx, hb, hml, hown, hts⟩, ⟨hK, hA⟩, ⟨hr1, hr2, hr3, hr4⟩, -⟩ := hC
  have hal : xv_al w a = w.1 + a := xv_al_lt (by omega)
  have hap := va_apart (own := own) hts hws ty0 hty hnm hK hq
  obtain ⟨cell, q1, q2, q3 | q3⟩ := hR.2.2 a ha
  · obtain ⟨q4, q5, q', q6, q7⟩ := q3
    simp only [ht] at q4 q5 q6 q7
    cases q6.symm.trans hq
    obtain ⟨hSl, hfc, kC, hkC, hkind⟩ := hK.1 ci _ hq
    obtain ⟨cf, kf, fj, f, hi, hsl⟩ := hSl k hk
    have hi' : s.fieldFound? ref (q.2.1 k).2.1 (q.2.1 k).2.2.1 = some (cf, kf, fj, f) := by
      rcases hsame with h | h
      · rw [h]; exact hi
      · exact u_same (hts _ h) _ hi
    have hst := (u_facts hfc hkC (u_lays hts hws hk) hi).1
    have hlay := hts _ (hws _ (u_in_lay hk))
    unfold u_lay at hlay
    have kk : ∀ H' : Heap, H'[w.1 + a]? = some (cell.setSlot f.slot (xv_cv (xv_al w) v0)) → H'.size = H.size → (∀ q, q ≠ w.1 + a → H'[q]? = H[q]?) → W p l e R s m args below meth c H' (locs ++ [⟨w.1 + a, f.slot⟩]) (n - n0) (z - z0) Q (F0 m (pc + 3) ls (st.map (xv_cv (xv_al w)))) := by
      intro H' g1 g2 g3
      rw [hsl] at g1
      have hR' : xv_R w cl rk h' H' := hR.putf ha ht hci hq hk (fun k' hk' hne => hap k' k hk' hk hne) q1 g1 g2 g3 e1 e2 e3 hv hf he
      have := hG ls H' _ hl hR' (hS.put g2 g3 (k := f.slot) (Nat.le_add_right _ _)) (by simp only [e1]; exact h1) (by simp only [e0]; exact h2)
      simp only [e1, e0] at this
      exact this
    have hlt : f.slot < cell.slots.size := by rw [hsl]; exact k2_hasslot (q7 k hk)
    have hstk : (F0 m pc ls ((v0 :: Value.ref a :: st).map (xv_cv (xv_al w)))).stack = xv_cv (xv_al w) v0 :: .ref (w.1 + a) :: st.map (xv_cv (xv_al w)) := by simp only [List.map_cons, xv_cv, hal]
    rcases hfin with hfin | ⟨hfin, hin, hdecl⟩
    · rw [if_neg (by rw [hfin]; decide)] at hlay
      have h6 := u_store hfc hkC hkind hlay hi (hty k hk) hnar hfit
      exact W.putK hx hb (f := f) ⟨hown, hts _ hlink, ⟨_, _, _, hi'⟩, hst⟩ (by rw [q5]; exact h6) q1 q2 hlt rfl hstk hd kk
    · rw [if_pos hfin] at hlay
      have hcf : m.cls = cf := by
        obtain ⟨_, _, c', _, _, _, -, -, hf', -, -, -, hown2, -⟩ := Cond.laysFinal_spec hlay
        have e1 : c' = cf := by have := hi.symm.trans hf'; simp at this; exact this.1.symm
        rw [hdecl] at hown2
        rw [← e1]; exact Option.some.inj (hown.symm.trans hown2)
      have h6 := u_fits hfc hkC hkind (Or.inr hlay) hi (hty k hk) hnar hfit
      exact W.putFinK hx hb hown (hts _ hlink) hi' hst hcf hin (by rw [q5]; exact h6) q1 q2 hlt rfl hstk hd kk
  · exfalso
    obtain ⟨q4, -⟩ := q3
    simp only [ht] at q4
    omega
end XH
end
section
/-! Arrays. -/
theorem xv_R.arr {w : xv_W} {cl : List vw_C} {rk : Nat → Bool} {h : xv_H} {H : Heap} {a j : Nat} (hR : xv_R w cl rk h H) (ha : a < h.1) (ht : h.2.2.1 a = 100 + j) : ∃ cell : Cell, H[w.1 + a]? = some cell ∧ cell.vm = .none ∧ cell.cls = w.2.2.2.2.1 j ∧ cell.slots.size = h.2.2.2.1 a ∧ ∀ i, i < h.2.2.2.1 a → cell.slots[i]? = some (xv_ev w h (100 + j) a i) := by
  obtain ⟨cell, q1, q2, q3 | q3⟩ := hR.2.2 a ha
  · exfalso
    obtain ⟨q4, -⟩ := q3
    omega
  · obtain ⟨q4, q5⟩ := q3
    rw [ht, Nat.add_sub_cancel_left] at q5
    subst q5
    exact ⟨_, q1, q2, rfl, arrV_size _ _ _, fun i hi => arrV_read _ _ hi⟩
theorem xv_R.arrV {w : xv_W} {cl : List vw_C} {rk : Nat → Bool} {h : xv_H} {H : Heap} {a j : Nat} {cell : Cell} (hR : xv_R w cl rk h H) (ha : a < h.1) (ht : h.2.2.1 a = 100 + j) (hc : H[w.1 + a]? = some cell) : cell = arrV (w.2.2.2.2.1 j) (h.2.2.2.1 a) (fun i => xv_ev w h (100 + j) a i) := by
  obtain ⟨cell', q1, q2, q3 | q3⟩ := hR.2.2 a ha
  · exfalso
    obtain ⟨q4, -⟩ := q3
    omega
  · obtain ⟨q4, q5⟩ := q3
    rw [ht, Nat.add_sub_cancel_left] at q5
    cases q1.symm.trans hc
    exact q5
theorem xv_R.obj {w : xv_W} {cl : List vw_C} {rk : Nat → Bool} {h : xv_H} {H : Heap} {a ci : Nat} (hR : xv_R w cl rk h H) (ha : a < h.1) (ht : h.2.2.1 a = ci) (hci : ci < 100) : ∃ cell : Cell, H[w.1 + a]? = some cell ∧ cell.vm = .none ∧ cell.cls = w.2.2.2.1.1 ci := by
  obtain ⟨cell, q1, q2, q3 | q3⟩ := hR.2.2 a ha
  · obtain ⟨q4, q5, -⟩ := q3
    rw [ht] at q5
    exact ⟨cell, q1, q2, q5⟩
  · exfalso
    obtain ⟨q4, -⟩ := q3
    omega
theorem xv_in_not {i : Int32} {k : Nat} (h0 : 0 ≤ i) (h : i.toNatClampNeg < k) : ¬ (i < 0 ∨ k ≤ i.toNatClampNeg) := fun q => by
  rcases q with q | q
  · exact Int32.not_lt.mpr h0 q
  · omega
/-- an element is stored -/
theorem xv_R.pute {w : xv_W} {cl : List vw_C} {rk : Nat → Bool} {h h' : xv_H} {a j k : Nat} {H H' : Heap} {cell : Cell} {v0 : Value} (hR : xv_R w cl rk h H) (ha : a < h.1) (ht : h.2.2.1 a = 100 + j) (hk : k < h.2.2.2.1 a)
    (hcell : H[w.1 + a]? = some cell) (hH : H'[w.1 + a]? = some (cell.setSlot k v0)) (hz : H'.size = H.size) (ho : ∀ q, q ≠ w.1 + a → H'[q]? = H[q]?) (e1 : h'.1 = h.1) (e2 : h'.2.2.1 = h.2.2.1) (e3 : h'.2.2.2.1 = h.2.2.2.1) (hf : ∀ g b, xv_fv w rk h' g b = xv_fv w rk h g b) (hv : xv_ev w h' (100 + j) a k = v0)
    (he : ∀ t b i, ¬ (b = a ∧ i = k) → xv_ev w h' t b i = xv_ev w h t b i) : xv_R w cl rk h' H' := by
  refine hR.set e1 hz ho hH ?_ fun b cb hb hne hcb => hcb.keep (by rw [e2]) (by rw [e3]) (fun g => hf g b) (fun t i => he t b i (fun z => hne z.1))
  have q5 := hR.arrV ha ht hcell
  subst q5
  refine ⟨rfl, Or.inr ⟨by rw [e2, ht]; omega, ?_⟩⟩
  rw [e2, e3, ht, Nat.add_sub_cancel_left, arrV_store]
  congr 1
  funext i
  by_cases hik : i = k
  · subst hik
    rw [hv]; simp [updV]
  · rw [he _ _ _ (fun z => hik z.2)]; simp [updV, hik]
section XA
variable {p : Program} {l : Launch} {e : Env} {R : Room} {s : State} {m : MethodId} {args : Array Value} {below : List Frame} {meth : Method} {c : Code} {Q : State → Prop} {cc : ByteArray} {w : xv_W} {cl : List vw_C} {rk : Nat → Bool} {aty : List FieldType} {WS : List Jvm.Cond} {stt : List (String × String × String)} {sx : xv_X} {sc : Nat × (Nat → Int32)} {own : String} {nL n0 z0 nE zE : Nat} {lg : List Nat} {pc : Nat} {L : xv_L} {st r : List Value} {n z : Nat} {tg ln : Nat → Nat} {fr er : Nat → Nat → Option Nat} {fi ei : Nat → Nat → Int32} {el : Nat → Nat → Int64} {x y i : Int32} {u v : Int64} {a b : Nat} {o : Option Nat}
theorem xs_iald (hC : xv_Cx p R s m args meth c cc w cl aty WS stt sx sc own nL n0 z0 nE zE) (hd : decode cc pc = .ok (.iaload, 1)) (hty : aty[0]? = some .int) (hE : n ≤ nE) (ha : a < n) (h0 : 0 ≤ i) (hi : i.toNatClampNeg < ln a) (ht : tg a = 100 + 0) (hG : xv_G p l e R s m args below meth c Q w cl rk lg nL n0 z0 (pc + 1, L, .int (ei a i.toNatClampNeg) :: st, (n, z, tg, ln, fr, er, fi, ei, el))) : xv_G p l e R s m args below meth c Q w cl rk lg nL n0 z0 (pc, L, .int i :: .ref a :: st, (n, z, tg, ln, fr, er, fi, ei, el)) := by
  intro ls H locs hl hR hS h1 h2
  obtain ⟨⟨hx, hb, hml, hown, hts⟩, ⟨hK, hA⟩, ⟨hr1, hr2, hr3, hr4⟩, -⟩ := hC
  have hal : xv_al w a = w.1 + a := xv_al_lt (by omega)
  obtain ⟨cell, q1, q2, q5, q6, q7⟩ := hR.arr ha (j := 0) ht
  refine W.iald hx hb (a := w.1 + a) q1 (xv_arr_is (hA 0 _ hty).1 q5 q2) (by rw [q2]; exact fun h => by cases h) (xv_in_not h0 (by rw [q6]; exact hi)) (q7 _ hi) rfl (rest := st.map (xv_cv (xv_al w))) (by simp only [List.map_cons, xv_cv, hal]) hd ?_
  have hg := hG ls H locs hl hR hS h1 h2
  exact hg
theorem xs_bald (hC : xv_Cx p R s m args meth c cc w cl aty WS stt sx sc own nL n0 z0 nE zE) (hd : decode cc pc = .ok (.baload, 1)) (hty : aty[1]? = some .byte) (hE : n ≤ nE) (ha : a < n) (h0 : 0 ≤ i) (hi : i.toNatClampNeg < ln a) (ht : tg a = 100 + 1) (hG : xv_G p l e R s m args below meth c Q w cl rk lg nL n0 z0 (pc + 1, L, .int (ei a i.toNatClampNeg) :: st, (n, z, tg, ln, fr, er, fi, ei, el))) : xv_G p l e R s m args below meth c Q w cl rk lg nL n0 z0 (pc, L, .int i :: .ref a :: st, (n, z, tg, ln, fr, er, fi, ei, el)) := by
  intro ls H locs hl hR hS h1 h2
  obtain ⟨⟨hx, hb, hml, hown, hts⟩, ⟨hK, hA⟩, ⟨hr1, hr2, hr3, hr4⟩, -⟩ := hC
  have hal : xv_al w a = w.1 + a := xv_al_lt (by omega)
  obtain ⟨cell, q1, q2, q5, q6, q7⟩ := hR.arr ha (j := 1) ht
  refine W.bald hx hb (a := w.1 + a) q1 (xv_arr_is (hA 1 _ hty).1 q5 q2) (by rw [q2]; exact fun h => by cases h) (xv_in_not h0 (by rw [q6]; exact hi)) (q7 _ hi) rfl (rest := st.map (xv_cv (xv_al w))) (by simp only [List.map_cons, xv_cv, hal]) hd ?_
  have hg := hG ls H locs hl hR hS h1 h2
  exact hg
theorem xs_zald (hC : xv_Cx p R s m args meth c cc w cl aty WS stt sx sc own nL n0 z0 nE zE) (hd : decode cc pc = .ok (.baload, 1)) (hty : aty[2]? = some .boolean) (hE : n ≤ nE) (ha : a < n) (h0 : 0 ≤ i) (hi : i.toNatClampNeg < ln a) (ht : tg a = 100 + 2) (hG : xv_G p l e R s m args below meth c Q w cl rk lg nL n0 z0 (pc + 1, L, .int (ei a i.toNatClampNeg) :: st, (n, z, tg, ln, fr, er, fi, ei, el))) : xv_G p l e R s m args below meth c Q w cl rk lg nL n0 z0 (pc, L, .int i :: .ref a :: st, (n, z, tg, ln, fr, er, fi, ei, el)) := by
  intro ls H locs hl hR hS h1 h2
  obtain ⟨⟨hx, hb, hml, hown, hts⟩, ⟨hK, hA⟩, ⟨hr1, hr2, hr3, hr4⟩, -⟩ := hC
  have hal : xv_al w a = w.1 + a := xv_al_lt (by omega)
  obtain ⟨cell, q1, q2, q5, q6, q7⟩ := hR.arr ha (j := 2) ht
  refine W.zald hx hb (a := w.1 + a) q1 (xv_arr_is (hA 2 _ hty).1 q5 q2) (by rw [q2]; exact fun h => by cases h) (xv_in_not h0 (by rw [q6]; exact hi)) (q7 _ hi) rfl (rest := st.map (xv_cv (xv_al w))) (by simp only [List.map_cons, xv_cv, hal]) hd ?_
  have hg := hG ls H locs hl hR hS h1 h2
  exact hg
theorem xs_lald (hC : xv_Cx p R s m args meth c cc w cl aty WS stt sx sc own nL n0 z0 nE zE) (hd : decode cc pc = .ok (.laload, 1)) (hty : aty[3]? = some .long) (hE : n ≤ nE) (ha : a < n) (h0 : 0 ≤ i) (hi : i.toNatClampNeg < ln a) (ht : tg a = 100 + 3) (hG : xv_G p l e R s m args below meth c Q w cl rk lg nL n0 z0 (pc + 1, L, .long (el a i.toNatClampNeg) :: st, (n, z, tg, ln, fr, er, fi, ei, el))) : xv_G p l e R s m args below meth c Q w cl rk lg nL n0 z0 (pc, L, .int i :: .ref a :: st, (n, z, tg, ln, fr, er, fi, ei, el)) := by
  intro ls H locs hl hR hS h1 h2
  obtain ⟨⟨hx, hb, hml, hown, hts⟩, ⟨hK, hA⟩, ⟨hr1, hr2, hr3, hr4⟩, -⟩ := hC
  have hal : xv_al w a = w.1 + a := xv_al_lt (by omega)
  obtain ⟨cell, q1, q2, q5, q6, q7⟩ := hR.arr ha (j := 3) ht
  refine W.lald hx hb (a := w.1 + a) q1 (xv_arr_is (hA 3 _ hty).1 q5 q2) (by rw [q2]; exact fun h => by cases h) (xv_in_not h0 (by rw [q6]; exact hi)) (q7 _ hi) rfl (rest := st.map (xv_cv (xv_al w))) (by simp only [List.map_cons, xv_cv, hal]) hd ?_
  have hg := hG ls H locs hl hR hS h1 h2
  exact hg
theorem xs_aald {j : Nat} {C : String} (hC : xv_Cx p R s m args meth c cc w cl aty WS stt sx sc own nL n0 z0 nE zE) (hd : decode cc pc = .ok (.aaload, 1)) (hty : aty[j]? = some (.object C)) (hj : 4 ≤ j) (hE : n ≤ nE) (ha : a < n) (h0 : 0 ≤ i) (hi : i.toNatClampNeg < ln a) (ht : tg a = 100 + j) (hG : xv_G p l e R s m args below meth c Q w cl rk lg nL n0 z0 (pc + 1, L, va_rf (er a i.toNatClampNeg) :: st, (n, z, tg, ln, fr, er, fi, ei, el))) : xv_G p l e R s m args below meth c Q w cl rk lg nL n0 z0 (pc, L, .int i :: .ref a :: st, (n, z, tg, ln, fr, er, fi, ei, el)) := by
  intro ls H locs hl hR hS h1 h2
  obtain ⟨⟨hx, hb, hml, hown, hts⟩, ⟨hK, hA⟩, ⟨hr1, hr2, hr3, hr4⟩, -⟩ := hC
  have hal : xv_al w a = w.1 + a := xv_al_lt (by omega)
  obtain ⟨cell, q1, q2, q5, q6, q7⟩ := hR.arr ha (j := j) ht
  refine W.aald hx hb (a := w.1 + a) q1 (xv_arr_is (hA j _ hty).1 q5 q2) rfl (by rw [q2]; exact fun h => by cases h) (xv_in_not h0 (by rw [q6]; exact hi)) (q7 _ hi) rfl (rest := st.map (xv_cv (xv_al w))) (by simp only [List.map_cons, xv_cv, hal]) hd ?_
  have hg := hG ls H locs hl hR hS h1 h2
  have e : xv_ev w (n, z, tg, ln, fr, er, fi, ei, el) (100 + j) a i.toNatClampNeg = xv_cv (xv_al w) (va_rf (er a i.toNatClampNeg)) := by
    unfold xv_ev
    rw [if_neg (by omega), if_pos (by omega)]
  rw [e]
  exact hg
theorem xs_iast (hC : xv_Cx p R s m args meth c cc w cl aty WS stt sx sc own nL n0 z0 nE zE) (hd : decode cc pc = .ok (.iastore, 1)) (hty : aty[0]? = some .int) (hE : n ≤ nE) (ha : a < n) (h0 : 0 ≤ i) (hi : i.toNatClampNeg < ln a) (ht : tg a = 100 + 0) (hG : xv_G p l e R s m args below meth c Q w cl rk lg nL n0 z0 (pc + 1, L, st, (n, z, tg, ln, fr, er, fi, xv_up ei a i.toNatClampNeg x, el))) : xv_G p l e R s m args below meth c Q w cl rk lg nL n0 z0 (pc, L, .int x :: .int i :: .ref a :: st, (n, z, tg, ln, fr, er, fi, ei, el)) := by
  intro ls H locs hl hR hS h1 h2
  obtain ⟨⟨hx, hb, hml, hown, hts⟩, ⟨hK, hA⟩, ⟨hr1, hr2, hr3, hr4⟩, -⟩ := hC
  have hal : xv_al w a = w.1 + a := xv_al_lt (by omega)
  obtain ⟨cell, q1, q2, q5, q6, q7⟩ := hR.arr ha (j := 0) ht
  refine W.iast (x := x) hx hb (a := w.1 + a) q1 (xv_arr_is (hA 0 _ hty).1 q5 q2) (by rw [q2]; exact fun h => by cases h) (xv_in_not h0 (by rw [q6]; exact hi)) rfl (rest := st.map (xv_cv (xv_al w))) (by simp only [List.map_cons, xv_cv, hal]) hd fun H' g1 g2 g3 => ?_
  refine hG ls H' _ hl (hR.pute (h' := (n, z, tg, ln, fr, er, fi, xv_up ei a i.toNatClampNeg x, el)) ha ht hi q1 g1 g2 g3 rfl rfl rfl (fun g b => rfl) (by simp [xv_ev, xv_up_eq]) ?_) (hS.put g2 g3 (Nat.le_add_right _ _)) h1 h2
  intro t b k hne
  simp only [xv_ev, xv_up_ne hne]
theorem xs_bast (hC : xv_Cx p R s m args meth c cc w cl aty WS stt sx sc own nL n0 z0 nE zE) (hd : decode cc pc = .ok (.bastore, 1)) (hty : aty[1]? = some .byte) (hE : n ≤ nE) (ha : a < n) (h0 : 0 ≤ i) (hi : i.toNatClampNeg < ln a) (ht : tg a = 100 + 1) (hG : xv_G p l e R s m args below meth c Q w cl rk lg nL n0 z0 (pc + 1, L, st, (n, z, tg, ln, fr, er, fi, xv_up ei a i.toNatClampNeg x.toInt8.toInt32, el))) : xv_G p l e R s m args below meth c Q w cl rk lg nL n0 z0 (pc, L, .int x :: .int i :: .ref a :: st, (n, z, tg, ln, fr, er, fi, ei, el)) := by
  intro ls H locs hl hR hS h1 h2
  obtain ⟨⟨hx, hb, hml, hown, hts⟩, ⟨hK, hA⟩, ⟨hr1, hr2, hr3, hr4⟩, -⟩ := hC
  have hal : xv_al w a = w.1 + a := xv_al_lt (by omega)
  obtain ⟨cell, q1, q2, q5, q6, q7⟩ := hR.arr ha (j := 1) ht
  refine W.bast (x := x) hx hb (a := w.1 + a) q1 (xv_arr_is (hA 1 _ hty).1 q5 q2) (by rw [q2]; exact fun h => by cases h) (xv_in_not h0 (by rw [q6]; exact hi)) rfl (rest := st.map (xv_cv (xv_al w))) (by simp only [List.map_cons, xv_cv, hal]) hd fun H' g1 g2 g3 => ?_
  refine hG ls H' _ hl (hR.pute (h' := (n, z, tg, ln, fr, er, fi, xv_up ei a i.toNatClampNeg x.toInt8.toInt32, el)) ha ht hi q1 g1 g2 g3 rfl rfl rfl (fun g b => rfl) (by simp [xv_ev, xv_up_eq, narrow]) ?_) (hS.put g2 g3 (Nat.le_add_right _ _)) h1 h2
  intro t b k hne
  simp only [xv_ev, xv_up_ne hne]
theorem xs_zast (hC : xv_Cx p R s m args meth c cc w cl aty WS stt sx sc own nL n0 z0 nE zE) (hd : decode cc pc = .ok (.bastore, 1)) (hty : aty[2]? = some .boolean) (hE : n ≤ nE) (ha : a < n) (h0 : 0 ≤ i) (hi : i.toNatClampNeg < ln a) (ht : tg a = 100 + 2) (hx0 : x = 0 ∨ x = 1) (hG : xv_G p l e R s m args below meth c Q w cl rk lg nL n0 z0 (pc + 1, L, st, (n, z, tg, ln, fr, er, fi, xv_up ei a i.toNatClampNeg x, el))) : xv_G p l e R s m args below meth c Q w cl rk lg nL n0 z0 (pc, L, .int x :: .int i :: .ref a :: st, (n, z, tg, ln, fr, er, fi, ei, el)) := by
  intro ls H locs hl hR hS h1 h2
  obtain ⟨⟨hx, hb, hml, hown, hts⟩, ⟨hK, hA⟩, ⟨hr1, hr2, hr3, hr4⟩, -⟩ := hC
  have hal : xv_al w a = w.1 + a := xv_al_lt (by omega)
  obtain ⟨cell, q1, q2, q5, q6, q7⟩ := hR.arr ha (j := 2) ht
  refine W.zast (x := x) hx hb (a := w.1 + a) q1 (xv_arr_is (hA 2 _ hty).1 q5 q2) (by rw [q2]; exact fun h => by cases h) (xv_in_not h0 (by rw [q6]; exact hi)) rfl (rest := st.map (xv_cv (xv_al w))) (by simp only [List.map_cons, xv_cv, hal]) hd fun H' g1 g2 g3 => ?_
  refine hG ls H' _ hl (hR.pute (h' := (n, z, tg, ln, fr, er, fi, xv_up ei a i.toNatClampNeg x, el)) ha ht hi q1 g1 g2 g3 rfl rfl rfl (fun g b => rfl) (by rcases hx0 with rfl | rfl <;> simp [xv_ev, xv_up_eq, narrow] <;> decide) ?_) (hS.put g2 g3 (Nat.le_add_right _ _)) h1 h2
  intro t b k hne
  simp only [xv_ev, xv_up_ne hne]
theorem xs_last (hC : xv_Cx p R s m args meth c cc w cl aty WS stt sx sc own nL n0 z0 nE zE) (hd : decode cc pc = .ok (.lastore, 1)) (hty : aty[3]? = some .long) (hE : n ≤ nE) (ha : a < n) (h0 : 0 ≤ i) (hi : i.toNatClampNeg < ln a) (ht : tg a = 100 + 3) (hG : xv_G p l e R s m args below meth c Q w cl rk lg nL n0 z0 (pc + 1, L, st, (n, z, tg, ln, fr, er, fi, ei, xv_up el a i.toNatClampNeg u))) : xv_G p l e R s m args below meth c Q w cl rk lg nL n0 z0 (pc, L, .long u :: .int i :: .ref a :: st, (n, z, tg, ln, fr, er, fi, ei, el)) := by
  intro ls H locs hl hR hS h1 h2
  obtain ⟨⟨hx, hb, hml, hown, hts⟩, ⟨hK, hA⟩, ⟨hr1, hr2, hr3, hr4⟩, -⟩ := hC
  have hal : xv_al w a = w.1 + a := xv_al_lt (by omega)
  obtain ⟨cell, q1, q2, q5, q6, q7⟩ := hR.arr ha (j := 3) ht
  refine W.last (x := u) hx hb (a := w.1 + a) q1 (xv_arr_is (hA 3 _ hty).1 q5 q2) (by rw [q2]; exact fun h => by cases h) (xv_in_not h0 (by rw [q6]; exact hi)) rfl (rest := st.map (xv_cv (xv_al w))) (by simp only [List.map_cons, xv_cv, hal]) hd fun H' g1 g2 g3 => ?_
  refine hG ls H' _ hl (hR.pute (h' := (n, z, tg, ln, fr, er, fi, ei, xv_up el a i.toNatClampNeg u)) ha ht hi q1 g1 g2 g3 rfl rfl rfl (fun g b => rfl) (by simp [xv_ev, xv_up_eq]) ?_) (hS.put g2 g3 (Nat.le_add_right _ _)) h1 h2
  intro t b k hne
  simp only [xv_ev, xv_up_ne hne]
theorem xs_aastN {j : Nat} {C : String} (hC : xv_Cx p R s m args meth c cc w cl aty WS stt sx sc own nL n0 z0 nE zE) (hd : decode cc pc = .ok (.aastore, 1)) (hty : aty[j]? = some (.object C)) (hj : 4 ≤ j) (hE : n ≤ nE) (ha : a < n) (h0 : 0 ≤ i) (hi : i.toNatClampNeg < ln a) (ht : tg a = 100 + j) (hG : xv_G p l e R s m args below meth c Q w cl rk lg nL n0 z0 (pc + 1, L, st, (n, z, tg, ln, fr, xv_up er a i.toNatClampNeg none, fi, ei, el))) : xv_G p l e R s m args below meth c Q w cl rk lg nL n0 z0 (pc, L, .null :: .int i :: .ref a :: st, (n, z, tg, ln, fr, er, fi, ei, el)) := by
  intro ls H locs hl hR hS h1 h2
  obtain ⟨⟨hx, hb, hml, hown, hts⟩, ⟨hK, hA⟩, ⟨hr1, hr2, hr3, hr4⟩, -⟩ := hC
  have hal : xv_al w a = w.1 + a := xv_al_lt (by omega)
  obtain ⟨cell, q1, q2, q5, q6, q7⟩ := hR.arr ha (j := j) ht
  refine va_WaastN (C := C) hx hb (a := w.1 + a) q1 (xv_arr_is (hA j _ hty).1 q5 q2) (by rw [q2]; exact fun h => by cases h) (xv_in_not h0 (by rw [q6]; exact hi)) rfl (rest := st.map (xv_cv (xv_al w))) (by simp only [List.map_cons, xv_cv, hal]) hd fun H' g1 g2 g3 => ?_
  refine hG ls H' _ hl (hR.pute (h' := (n, z, tg, ln, fr, xv_up er a i.toNatClampNeg none, fi, ei, el)) ha ht hi q1 g1 g2 g3 rfl rfl rfl (fun g b => rfl) (by unfold xv_ev; rw [if_neg (by omega), if_pos (by omega)]; simp only [xv_up_eq]; rfl) ?_) (hS.put g2 g3 (Nat.le_add_right _ _)) h1 h2
  intro t b k hne
  simp only [xv_ev, xv_up_ne hne]
theorem xs_aast {j cj : Nat} {C : String} {q : vw_C} (hC : xv_Cx p R s m args meth c cc w cl aty WS stt sx sc own nL n0 z0 nE zE) (hd : decode cc pc = .ok (.aastore, 1)) (hty : aty[j]? = some (.object C)) (hj : 4 ≤ j) (hq : cl[cj]? = some q) (hcj : cj < 100) (hca : C = q.1 ∨ (q.1, C) ∈ sx.1) (hE : n ≤ nE) (ha : a < n) (h0 : 0 ≤ i) (hi : i.toNatClampNeg < ln a) (ht : tg a = 100 + j) (hb0 : b < n) (htb : tg b = cj) (hG : xv_G p l e R s m args below meth c Q w cl rk lg nL n0 z0 (pc + 1, L, st, (n, z, tg, ln, fr, xv_up er a i.toNatClampNeg (some b), fi, ei, el))) : xv_G p l e R s m args below meth c Q w cl rk lg nL n0 z0 (pc, L, .ref b :: .int i :: .ref a :: st, (n, z, tg, ln, fr, er, fi, ei, el)) := by
  intro ls H locs hl hR hS h1 h2
  obtain ⟨⟨hx, hb, hml, hown, hts⟩, ⟨hK, hA⟩, ⟨hr1, hr2, hr3, hr4⟩, -, hXE, -⟩ := hC
  have hal : xv_al w a = w.1 + a := xv_al_lt (by omega)
  obtain ⟨cell, q1, q2, q5, q6, q7⟩ := hR.arr ha (j := j) ht
  have hbl : xv_al w b = w.1 + b := xv_al_lt (by omega)
  obtain ⟨cellV, g1, g2, g3⟩ := hR.obj hb0 htb hcj
  have hcls := (hK.1 cj q hq).2
  obtain ⟨kA, comp, k1, k2, k3, -⟩ := (hA j _ hty).2
  obtain ⟨kE, hkE, -⟩ := Vm.findClass_spec k3
  obtain ⟨kC, hkC, -⟩ := hcls.2
  have hasg : s.vm.assignable (w.2.2.2.1.1 cj) comp = true := by
    rcases hca with hca | hca
    · subst hca
      cases k3.symm.trans hcls.1
      exact va_assign hcls
    · obtain ⟨c0, t1, f1, f2, f3⟩ := Cond.castable_spec (va_Nw.use (A := args) rfl (hXE.1 _ hca))
      cases hcls.1.symm.trans f1
      cases k3.symm.trans f2
      exact f3
  refine W.aast hx hb (a := w.1 + a) (v := w.1 + b) q1 (fun q h => by rw [q2] at h; cases h) (fun h => by rw [q2] at h; cases h) (by rw [q5]; exact k1) k2 rfl hkE ⟨Int32.not_lt.mpr h0, by rw [q6]; exact hi⟩ g1 (fun q h => by rw [g2] at h; cases h) (by rw [g3]; exact hkC) (by rw [g3]; exact hasg) rfl (rest := st.map (xv_cv (xv_al w))) (by simp only [List.map_cons, xv_cv, hal, hbl]) hd fun H' g1 g2 g3 => ?_
  refine hG ls H' _ hl (hR.pute (h' := (n, z, tg, ln, fr, xv_up er a i.toNatClampNeg (some b), fi, ei, el)) ha ht hi q1 g1 g2 g3 rfl rfl rfl (fun g b => rfl) (by unfold xv_ev; rw [if_neg (by omega), if_pos (by omega)]; simp only [xv_up_eq, va_rf, xv_cv, hbl]) ?_) (hS.put g2 g3 (Nat.le_add_right _ _)) h1 h2
  intro t b k hne
  simp only [xv_ev, xv_up_ne hne]
theorem xs_alen {j : Nat} {ty : FieldType} (hC : xv_Cx p R s m args meth c cc w cl aty WS stt sx sc own nL n0 z0 nE zE) (hd : decode cc pc = .ok (.arraylength, 1)) (hty : aty[j]? = some ty) (hE : n ≤ nE) (ha : a < n) (ht : tg a = 100 + j) (hG : xv_G p l e R s m args below meth c Q w cl rk lg nL n0 z0 (pc + 1, L, .int (Int32.ofNat (ln a)) :: st, (n, z, tg, ln, fr, er, fi, ei, el))) : xv_G p l e R s m args below meth c Q w cl rk lg nL n0 z0 (pc, L, .ref a :: st, (n, z, tg, ln, fr, er, fi, ei, el)) := by
  intro ls H locs hl hR hS h1 h2
  obtain ⟨⟨hx, hb, hml, hown, hts⟩, ⟨hK, hA⟩, ⟨hr1, hr2, hr3, hr4⟩, -⟩ := hC
  have hal : xv_al w a = w.1 + a := xv_al_lt (by omega)
  obtain ⟨cell, q1, q2, q5, q6, q7⟩ := hR.arr ha (j := j) ht
  refine W.alen (n := Int32.ofNat (ln a)) hx hb (a := w.1 + a) q1 (xv_arr_is (hA j _ hty).1 q5 q2) (by rw [q6]) rfl (rest := st.map (xv_cv (xv_al w))) (by simp only [List.map_cons, xv_cv, hal]) hd ?_
  exact hG ls H locs hl hR hS h1 h2
/-- the script -/
theorem xs_sald {h : xv_H} (hC : xv_Cx p R s m args meth c cc w cl aty WS stt sx sc own nL n0 z0 nE zE) (hd : decode cc pc = .ok (.iaload, 1)) (h0 : 0 ≤ i) (hi : i.toNatClampNeg < sc.1) (hG : xv_G p l e R s m args below meth c Q w cl rk lg nL n0 z0 (pc + 1, L, .int (sc.2 i.toNatClampNeg) :: st, h)) : xv_G p l e R s m args below meth c Q w cl rk lg nL n0 z0 (pc, L, .int i :: .ref xv_SB :: st, h) := by
  intro ls H locs hl hR hS h1 h2
  obtain ⟨⟨hx, hb, hml, hown, hts⟩, -, ⟨-, -, -, hr4⟩, ⟨hX, hX1, hX2, -⟩, -, -⟩ := hC
  have hal : xv_al w xv_SB = w.2.2.1 0 := xv_al_st (k := 0) (by omega)
  have := va_sld (A := fun a => w.1 ≤ a) (rest := st.map (xv_cv (xv_al w))) hx hb hX (by omega) (by omega) hS (xv_in_not h0 hi) hd (hG ls H locs hl hR hS h1 h2)
  simp only [List.map_cons, xv_cv, hal]
  exact this
theorem xs_slen {h : xv_H} (hC : xv_Cx p R s m args meth c cc w cl aty WS stt sx sc own nL n0 z0 nE zE) (hd : decode cc pc = .ok (.arraylength, 1)) (hG : xv_G p l e R s m args below meth c Q w cl rk lg nL n0 z0 (pc + 1, L, .int (Int32.ofNat sc.1) :: st, h)) : xv_G p l e R s m args below meth c Q w cl rk lg nL n0 z0 (pc, L, .ref xv_SB :: st, h) := by
  intro ls H locs hl hR hS h1 h2
  obtain ⟨⟨hx, hb, hml, hown, hts⟩, -, ⟨-, -, -, hr4⟩, ⟨hX, hX1, hX2, -⟩, -, -⟩ := hC
  have hal : xv_al w xv_SB = w.2.2.1 0 := xv_al_st (k := 0) (by omega)
  have := va_slen (A := fun a => w.1 ≤ a) (rest := st.map (xv_cv (xv_al w))) hx hb hX (by omega) (by omega) hS hd (hG ls H locs hl hR hS h1 h2)
  simp only [List.map_cons, xv_cv, hal]
  exact this
/-- the row of no elements that every list begins with -/
theorem xs_elen {h : xv_H} (hC : xv_Cx p R s m args meth c cc w cl aty WS stt sx sc own nL n0 z0 nE zE) (hd : decode cc pc = .ok (.arraylength, 1)) (hG : xv_G p l e R s m args below meth c Q w cl rk lg nL n0 z0 (pc + 1, L, .int 0 :: st, h)) : xv_G p l e R s m args below meth c Q w cl rk lg nL n0 z0 (pc, L, .ref (xv_SB + 2) :: st, h) := by
  intro ls H locs hl hR hS h1 h2
  obtain ⟨⟨hx, hb, hml, hown, hts⟩, -, -, ⟨-, -, hX2, fv, hT⟩, -, -⟩ := hC
  have hal : xv_al w (xv_SB + 2) = w.2.2.1 2 := xv_al_st hX2
  have := va_tlen (v := 0) (rest := st.map (xv_cv (xv_al w))) hx hb hT hS rfl hd (hG ls H locs hl hR hS h1 h2)
  simp only [List.map_cons, xv_cv, hal]
  exact this
/-- a constant that was there before -/
theorem xs_gets {h : xv_H} {k idx : Nat} {q : String × String × String} {ref : String} (hC : xv_Cx p R s m args meth c cc w cl aty WS stt sx sc own nL n0 z0 nE zE) (hd : decode cc pc = .ok (.getstatic idx, 3)) (hq : stt[k]? = some q) (hlink : Jvm.Cond.fieldLink own idx ref q.2.1 q.2.2 ∈ WS) (hsame : ref = q.1 ∨ Jvm.Cond.sameField ref q.1 q.2.1 q.2.2 ∈ WS) (hG : xv_G p l e R s m args below meth c Q w cl rk lg nL n0 z0 (pc + 3, L, .ref (xv_SB + (k + 2)) :: st, h)) : xv_G p l e R s m args below meth c Q w cl rk lg nL n0 z0 (pc, L, st, h) := by
  intro ls H locs hl hR hS h1 h2
  obtain ⟨⟨hx, hb, hml, hown, hts⟩, -, -, -, -, hZ⟩ := hC
  obtain ⟨hk, hZ⟩ := hZ k q hq
  have hal : xv_al w (xv_SB + (k + 2)) = w.2.2.1 (k + 2) := xv_al_st hk
  have hg := hG ls H locs hl hR hS h1 h2
  simp only [List.map_cons, xv_cv, hal] at hg
  refine va_gets (C := q.1) (ref := ref) hx hb hZ hS hown (hts _ hlink) ?_ hd hg
  intro x hx
  rcases hsame with h | h
  · rw [h]; exact hx
  · exact u_same (hts _ h) _ hx
theorem xs_castN {h : xv_H} {idx : Nat} (hC : xv_Cx p R s m args meth c cc w cl aty WS stt sx sc own nL n0 z0 nE zE) (hd : decode cc pc = .ok (.checkcast idx, 3)) (hG : xv_G p l e R s m args below meth c Q w cl rk lg nL n0 z0 (pc + 3, L, .null :: st, h)) : xv_G p l e R s m args below meth c Q w cl rk lg nL n0 z0 (pc, L, .null :: st, h) :=
  fun ls H locs hl hR hS h1 h2 => lv_castN hC.1.1 hC.1.2.1 hd (hG ls H locs hl hR hS h1 h2)
theorem xs_cast {ci idx : Nat} {q : vw_C} (hC : xv_Cx p R s m args meth c cc w cl aty WS stt sx sc own nL n0 z0 nE zE) (hd : decode cc pc = .ok (.checkcast idx, 3)) (hq : cl[ci]? = some q) (hci : ci < 100) (hlink : Jvm.Cond.classLink own idx q.1 ∈ WS) (hE : n ≤ nE) (ha : a < n) (ht : tg a = ci) (hG : xv_G p l e R s m args below meth c Q w cl rk lg nL n0 z0 (pc + 3, L, .ref a :: st, (n, z, tg, ln, fr, er, fi, ei, el))) : xv_G p l e R s m args below meth c Q w cl rk lg nL n0 z0 (pc, L, .ref a :: st, (n, z, tg, ln, fr, er, fi, ei, el)) := by
  intro ls H locs hl hR hS h1 h2
  obtain ⟨⟨hx, hb, hml, hown, hts⟩, ⟨hK, hA⟩, ⟨hr1, hr2, hr3, hr4⟩, -⟩ := hC
  obtain ⟨cell, g1, g2, g3⟩ := hR.obj ha ht hci
  have hal : xv_al w a = w.1 + a := xv_al_lt (by omega)
  have hcls := (hK.1 ci q hq).2
  have hg := hG ls H locs hl hR hS h1 h2
  simp only [List.map_cons, xv_cv, hal] at hg ⊢
  exact va_castS hx hb hown (hts _ hlink) hcls ⟨cell, g1, by rw [g2]; rfl, by rw [g3]; exact hcls.1⟩ hd hg
theorem xs_castA {j idx : Nat} {ty : FieldType} {nm : String} (hC : xv_Cx p R s m args meth c cc w cl aty WS stt sx sc own nL n0 z0 nE zE) (hd : decode cc pc = .ok (.checkcast idx, 3)) (hty : aty[j]? = some ty) (hlink : Jvm.Cond.classLink own idx nm ∈ WS) (hnm : s.vm.findClass nm = some (w.2.2.2.2.1 j)) (hE : n ≤ nE) (ha : a < n) (ht : tg a = 100 + j) (hG : xv_G p l e R s m args below meth c Q w cl rk lg nL n0 z0 (pc + 3, L, .ref a :: st, (n, z, tg, ln, fr, er, fi, ei, el))) : xv_G p l e R s m args below meth c Q w cl rk lg nL n0 z0 (pc, L, .ref a :: st, (n, z, tg, ln, fr, er, fi, ei, el)) := by
  intro ls H locs hl hR hS h1 h2
  obtain ⟨⟨hx, hb, hml, hown, hts⟩, ⟨hK, hA⟩, ⟨hr1, hr2, hr3, hr4⟩, -⟩ := hC
  have hal : xv_al w a = w.1 + a := xv_al_lt (by omega)
  obtain ⟨cell, q1, q2, q5, q6, q7⟩ := hR.arr ha (j := j) ht
  have hg := hG ls H locs hl hR hS h1 h2
  simp only [List.map_cons, xv_cv, hal] at hg ⊢
  exact va_castE hx hb hown (hts _ hlink) ⟨cell, q1, by rw [q2]; rfl, by rw [q5]; exact hnm⟩ hd hg
end XA
end
section
/-! New cells, copies. -/
theorem xv_new_keep {w : xv_W} {cl : List vw_C} {rk : Nat → Bool} {n z t m k : Nat} {tg ln : Nat → Nat} {fr er : Nat → Nat → Option Nat} {fi ei : Nat → Nat → Int32} {el : Nat → Nat → Int64} {b : Nat} {cb : Cell} (hb : b < n) (hc : xv_at w cl rk (n, z, tg, ln, fr, er, fi, ei, el) b cb) : xv_at w cl rk (xv_new (n, z, tg, ln, fr, er, fi, ei, el) t m k) b cb := by
  have hne : ¬ b = n := by omega
  refine hc.keep ?_ ?_ (fun f => ?_) (fun t i => ?_)
  · simp only [xv_new, xv_u1, if_neg hne]
  · simp only [xv_new, xv_u1, if_neg hne]
  · simp only [xv_fv, xv_new, xv_freshF, if_neg hne]
  · simp only [xv_ev, xv_new, xv_fresh, if_neg hne]
section XN
variable {p : Program} {l : Launch} {e : Env} {R : Room} {s : State} {m : MethodId} {args : Array Value} {below : List Frame} {meth : Method} {c : Code} {Q : State → Prop} {cc : ByteArray} {w : xv_W} {cl : List vw_C} {rk : Nat → Bool} {aty : List FieldType} {WS : List Jvm.Cond} {stt : List (String × String × String)} {sx : xv_X} {sc : Nat × (Nat → Int32)} {own : String} {nL n0 z0 nE zE : Nat} {lg : List Nat} {pc : Nat} {L : xv_L} {st r : List Value} {n z : Nat} {tg ln : Nat → Nat} {fr er : Nat → Nat → Option Nat} {fi ei : Nat → Nat → Int32} {el : Nat → Nat → Int64} {x y i : Int32} {u v : Int64} {a b : Nat}
theorem xs_new {ci idx : Nat} {q : vw_C} {ty0 : Nat → FieldType} (hC : xv_Cx p R s m args meth c cc w cl aty WS stt sx sc own nL n0 z0 nE zE) (hd : decode cc pc = .ok (.new idx, 3)) (hq : cl[ci]? = some q) (hci : ci < 100) (hws : ∀ x ∈ u_ws q.1 q.2.1 q.2.2, x ∈ WS) (hlink : Jvm.Cond.classLink own idx q.1 ∈ WS) (hins : Jvm.Cond.instantiable q.1 q.2.2 ∈ WS) (hini : Jvm.Cond.initialized q.1 ∈ WS)
    (hty : ∀ k, k < q.2.2 → parseFieldDescriptor (q.2.1 k).2.2.1 = some (ty0 k)) (hdf : ∀ k, k < q.2.2 → defaultValue (ty0 k) = if rk (100 * ci + k) = true then .null else .int 0) (hE : n + 1 ≤ nE) (hZ : z + q.2.2 ≤ zE)
    (hG : xv_G p l e R s m args below meth c Q w cl rk lg nL n0 z0 (pc + 3, L, .ref n :: st, xv_new (n, z, tg, ln, fr, er, fi, ei, el) ci 0 q.2.2)) : xv_G p l e R s m args below meth c Q w cl rk lg nL n0 z0 (pc, L, st, (n, z, tg, ln, fr, er, fi, ei, el)) := by
  intro ls H locs hl hR hS h1 h2
  obtain ⟨⟨hx, hb, hml, hown, hts⟩, ⟨hK, hA⟩, ⟨hr1, hr2, hr3, hr4⟩, -⟩ := hC
  simp only at h1 h2
  have hKn := hK.1 ci _ hq
  show W p l e R s m args below meth c H locs (n - n0) (z - z0) Q (F0 m pc ls (st.map (xv_cv (xv_al w))))
  refine W.newcK hx hb hown (hts _ hlink) (hts _ hins) (hts _ hini) rfl hd (by omega) (by omega) hKn.2.1 rfl fun H1 kC hkC g1 g2 g3 => ?_
  obtain ⟨cell, c1, c2, c3, c4⟩ := u_born ty0 hts hws hKn hkC g1 hty
  have hat : xv_at w cl rk (xv_new (n, z, tg, ln, fr, er, fi, ei, el) ci 0 q.2.2) n cell := by
    have et : (xv_new (n, z, tg, ln, fr, er, fi, ei, el) ci 0 q.2.2).2.2.1 n = ci := by simp [xv_new, xv_u1]
    refine ⟨c3, Or.inl ⟨by rw [et]; exact hci, by rw [et]; exact c2, q, by rw [et]; exact hq, fun k hk => ?_⟩⟩
    rw [et, c4 k hk]
    show some (defaultValue (ty0 k)) = _
    rw [hdf k hk]
    simp only [xv_fv, xv_new, xv_freshF, if_true]
    split <;> rfl
  have hR' := hR.push (h' := xv_new (n, z, tg, ln, fr, er, fi, ei, el) ci 0 q.2.2) rfl g2 g3 c1 hat (fun b cb hb hcb => xv_new_keep hb hcb)
  have hg := hG ls H1 locs hl hR' (xv_S.push hS g2 g3) (by simp only [xv_new]; omega) (by simp only [xv_new]; omega)
  have hal : xv_al w n = H.size := by rw [xv_al_lt (by omega)]; exact hR.1.symm
  simp only [xv_new, List.map_cons, xv_cv, hal] at hg
  rw [show n + 1 - n0 = n - n0 + 1 by omega, show z + q.2.2 - z0 = z - z0 + q.2.2 by omega] at hg
  exact hg
theorem xv_new_arr {j k : Nat} {cell : Cell} {v0 : Value} (h1 : cell = { cls := w.2.2.2.2.1 j, slots := Array.replicate k v0, vm := .none }) (hv : ∀ b i, xv_ev w (xv_new (n, z, tg, ln, fr, er, fi, ei, el) (100 + j) k k) (100 + j) n i = v0 ∨ b = b + 1) : xv_at w cl rk (xv_new (n, z, tg, ln, fr, er, fi, ei, el) (100 + j) k k) n cell := by
  have et : (xv_new (n, z, tg, ln, fr, er, fi, ei, el) (100 + j) k k).2.2.1 n = 100 + j := by simp [xv_new, xv_u1]
  have el' : (xv_new (n, z, tg, ln, fr, er, fi, ei, el) (100 + j) k k).2.2.2.1 n = k := by simp [xv_new, xv_u1]
  refine ⟨by rw [h1], Or.inr ⟨by rw [et]; omega, ?_⟩⟩
  rw [et, el', Nat.add_sub_cancel_left, h1, arrV_new]
  congr 1
  funext i
  rcases hv 0 i with h | h
  · exact h.symm
  · omega
theorem xs_newa {j : Nat} {atype : ClassFile.ArrayType} (hC : xv_Cx p R s m args meth c cc w cl aty WS stt sx sc own nL n0 z0 nE zE) (hd : decode cc pc = .ok (.newarray atype, 2)) (hty : aty[j]? = some (newarray.typeOf atype)) (hword : Jvm.Cond.arrayClass (newarray.typeOf atype) ∈ WS) (hj : (j = 3 ∧ newarray.typeOf atype = .long) ∨ (j < 3 ∧ defaultValue (newarray.typeOf atype) = .int 0 ∧ componentBytes (newarray.typeOf atype) ≤ 4)) (h0 : 0 ≤ x) (hx0 : x.toNatClampNeg ≤ 60000000) (hE : n + 1 ≤ nE) (hZ : z + x.toNatClampNeg ≤ zE)
    (hG : xv_G p l e R s m args below meth c Q w cl rk lg nL n0 z0 (pc + 2, L, .ref n :: st, xv_new (n, z, tg, ln, fr, er, fi, ei, el) (100 + j) x.toNatClampNeg x.toNatClampNeg)) : xv_G p l e R s m args below meth c Q w cl rk lg nL n0 z0 (pc, L, .int x :: st, (n, z, tg, ln, fr, er, fi, ei, el)) := by
  intro ls H locs hl hR hS h1 h2
  obtain ⟨⟨hx, hb, hml, hown, hts⟩, ⟨hK, hA⟩, ⟨hr1, hr2, hr3, hr4⟩, -⟩ := hC
  simp only at h1 h2
  have hbytes : x.toNatClampNeg * componentBytes (newarray.typeOf atype) ≤ 536870912 := by
    rcases hj with ⟨-, q⟩ | ⟨-, -, q⟩
    · rw [q]
      show x.toNatClampNeg * 8 ≤ _
      omega
    · have := Nat.mul_le_mul hx0 q
      omega
  show W p l e R s m args below meth c H locs (n - n0) (z - z0) Q (F0 m pc ls (.int x :: st.map (xv_cv (xv_al w))))
  refine W.newa (rest := st.map (xv_cv (xv_al w))) hx hb (hts _ hword) rfl hd rfl (Int32.not_lt.mpr h0) hbytes (by omega) (by omega) fun cA kA comp f1 f2 f3 => ?_
  have hcA : cA = w.2.2.2.2.1 j := by
    have h3 : s.vm.findClass ("[" ++ (newarray.typeOf atype).toString) = some (w.2.2.2.2.1 j) := by
      have := (hA j _ hty).2
      cases atype <;> exact this
    exact Option.some.inj (f1.symm.trans h3)
  have hat : xv_at w cl rk (xv_new (n, z, tg, ln, fr, er, fi, ei, el) (100 + j) x.toNatClampNeg x.toNatClampNeg) n { cls := cA, slots := Array.replicate x.toNatClampNeg (defaultValue (newarray.typeOf atype)), vm := .none } := by
    refine xv_new_arr (by rw [hcA]) fun _ i => Or.inl ?_
    rcases hj with ⟨q1, q2⟩ | ⟨q1, q2, -⟩
    · subst q1
      rw [q2]
      simp [xv_ev, xv_new, xv_fresh, defaultValue]
    · rw [q2]
      unfold xv_ev
      rw [if_neg (by omega), if_neg (by omega)]
      simp [xv_new, xv_fresh]
  have hR' := hR.push (h' := xv_new (n, z, tg, ln, fr, er, fi, ei, el) (100 + j) x.toNatClampNeg x.toNatClampNeg) (H' := H.push { cls := cA, slots := Array.replicate x.toNatClampNeg (defaultValue (newarray.typeOf atype)), vm := .none }) rfl (by simp) (fun q hq => by rw [Array.getElem?_push, if_neg (Nat.ne_of_lt hq)]) (by simp) hat (fun b cb hb hcb => xv_new_keep hb hcb)
  have hg := hG ls _ locs hl hR' (xv_S.push hS (by simp) (fun q hq => by rw [Array.getElem?_push, if_neg (Nat.ne_of_lt hq)])) (by simp only [xv_new]; omega) (by simp only [xv_new]; omega)
  have hal : xv_al w n = H.size := by rw [xv_al_lt (by omega)]; exact hR.1.symm
  simp only [xv_new, List.map_cons, xv_cv, hal] at hg
  rw [show n + 1 - n0 = n - n0 + 1 by omega, show z + x.toNatClampNeg - z0 = z - z0 + x.toNatClampNeg by omega] at hg
  exact hg
theorem xs_anew {j idx : Nat} {C : String} (hC : xv_Cx p R s m args meth c cc w cl aty WS stt sx sc own nL n0 z0 nE zE) (hd : decode cc pc = .ok (.anewarray idx, 3)) (hty : aty[j]? = some (.object C)) (hj : 4 ≤ j) (hlink : Jvm.Cond.classLink own idx C ∈ WS) (hover : C ∈ sx.2.1) (h0 : 0 ≤ x) (hx0 : x.toNatClampNeg ≤ 60000000) (hE : n + 1 ≤ nE) (hZ : z + x.toNatClampNeg ≤ zE)
    (hG : xv_G p l e R s m args below meth c Q w cl rk lg nL n0 z0 (pc + 3, L, .ref n :: st, xv_new (n, z, tg, ln, fr, er, fi, ei, el) (100 + j) x.toNatClampNeg x.toNatClampNeg)) : xv_G p l e R s m args below meth c Q w cl rk lg nL n0 z0 (pc, L, .int x :: st, (n, z, tg, ln, fr, er, fi, ei, el)) := by
  intro ls H locs hl hR hS h1 h2
  obtain ⟨⟨hx, hb, hml, hown, hts⟩, ⟨hK, hA⟩, ⟨hr1, hr2, hr3, hr4⟩, -, hXE, -⟩ := hC
  simp only at h1 h2
  show W p l e R s m args below meth c H locs (n - n0) (z - z0) Q (F0 m pc ls (.int x :: st.map (xv_cv (xv_al w))))
  refine W.anew (rest := st.map (xv_cv (xv_al w))) hx hb hown (hts _ hlink) (va_AO.use (hXE.2.1 _ hover)) rfl hd rfl (Int32.not_lt.mpr h0) (by omega) (by omega) (by omega) fun cA kA comp f1 f2 f3 f4 => ?_
  have hcA : cA = w.2.2.2.2.1 j := by
    obtain ⟨_, _, -, -, -, h3⟩ := (hA j _ hty).2
    exact Option.some.inj (f1.symm.trans h3)
  have hat : xv_at w cl rk (xv_new (n, z, tg, ln, fr, er, fi, ei, el) (100 + j) x.toNatClampNeg x.toNatClampNeg) n { cls := cA, slots := Array.replicate x.toNatClampNeg .null, vm := .none } := by
    refine xv_new_arr (by rw [hcA]) fun _ i => Or.inl ?_
    unfold xv_ev
    rw [if_neg (by omega), if_pos (by omega)]
    simp [xv_new, xv_fresh, va_rf, xv_cv]
  have hR' := hR.push (h' := xv_new (n, z, tg, ln, fr, er, fi, ei, el) (100 + j) x.toNatClampNeg x.toNatClampNeg) (H' := H.push { cls := cA, slots := Array.replicate x.toNatClampNeg .null, vm := .none }) rfl (by simp) (fun q hq => by rw [Array.getElem?_push, if_neg (Nat.ne_of_lt hq)]) (by simp) hat (fun b cb hb hcb => xv_new_keep hb hcb)
  have hg := hG ls _ locs hl hR' (xv_S.push hS (by simp) (fun q hq => by rw [Array.getElem?_push, if_neg (Nat.ne_of_lt hq)])) (by simp only [xv_new]; omega) (by simp only [xv_new]; omega)
  have hal : xv_al w n = H.size := by rw [xv_al_lt (by omega)]; exact hR.1.symm
  simp only [xv_new, List.map_cons, xv_cv, hal] at hg
  rw [show n + 1 - n0 = n - n0 + 1 by omega, show z + x.toNatClampNeg - z0 = z - z0 + x.toNatClampNeg by omega] at hg
  exact hg
end XN
end
section
/-! Copies: System.arraycopy, clone; Object's own start. -/
theorem xv_nn {z : Int32} (hz : 0 ≤ z) : z.toInt = (z.toNatClampNeg : Int) := by
  have hz0 : (0 : Int) ≤ z.toInt := by simpa using Int32.le_iff_toInt_le.mp hz
  show z.toInt = ((z.toInt.toNat : Nat) : Int)
  omega
theorem xv_cats (al : Nat → Nat) : ∀ r : List Value, ((r.map (xv_cv al)).map fun v => v.category).sum = (r.map fun v => v.category).sum
  | [] => rfl
  | v :: r => by simp only [List.map_cons, List.sum_cons, xv_cv_cat, xv_cats al r]
theorem xv_room_spec {r : List Value} (h : xv_room r = true) : (r.map fun v => v.category).sum ≤ 8 := by simpa [xv_room] using h
section XC
variable {p : Program} {l : Launch} {e : Env} {R : Room} {s : State} {m : MethodId} {args : Array Value} {below : List Frame} {meth : Method} {c : Code} {Q : State → Prop} {cc : ByteArray} {w : xv_W} {cl : List vw_C} {rk : Nat → Bool} {aty : List FieldType} {WS : List Jvm.Cond} {stt : List (String × String × String)} {sx : xv_X} {sc : Nat × (Nat → Int32)} {own : String} {nL n0 z0 nE zE : Nat} {lg : List Nat} {pc : Nat} {L : xv_L} {st r : List Value} {n z : Nat} {tg ln : Nat → Nat} {fr er : Nat → Nat → Option Nat} {fi ei : Nat → Nat → Int32} {el : Nat → Nat → Int64} {a b : Nat} {H : Heap} {locs : List Loc} {cells slots : Nat} {ls : Array Slot}
/-- arraycopy over any two arrays -/
theorem xw_copy (hexec : p.tables.exec = Jvm.exec) (hb : c.code = cc) (hml : c.maxLocals = ls.size) {index : Nat} (hown : s.vm.findClass own = some m.cls) (hlink : (Jvm.Cond.methodLink own index arraycopyName).before args s = true) (hnat : (Jvm.Cond.native arraycopyName).before args s = true) (hstat : (Jvm.Cond.static arraycopyName).before args s = true) (hini : (Jvm.Cond.initialized "java/lang/System").before args s = true)
    {a0 a1 : Nat} {cs cd : Cell} {k0 k1 : Class} {cm0 cm1 : ClassId} {ty0 ty1 : FieldType} (hc0 : H[a0]? = some cs) (hc1 : H[a1]? = some cd) (hv0 : cs.vm = .none) (hv1 : cd.vm = .none) (hk0 : s.vm.classes[cs.cls]? = some k0) (hk1 : s.vm.classes[cd.cls]? = some k1) (hkk0 : k0.kind = .array cm0 ty0) (hkk1 : k1.kind = .array cm1 ty1) (hty : ((refKind ty0 != refKind ty1) || (!refKind ty0 && ty0 != ty1)) = false)
    {sp dp k : Int32} (h1 : 0 ≤ sp) (h2 : 0 ≤ dp) (h3 : 0 ≤ k) (h4 : sp.toNatClampNeg + k.toNatClampNeg ≤ cs.slots.size) (h5 : dp.toNatClampNeg + k.toNatClampNeg ≤ cd.slots.size)
    (hvals : ∀ T : State, T.heap = H → ∀ vm', s.vm.Alike vm' → ∀ i, i < k.toNatClampNeg → fits ty1 (cs.slots.getD (sp.toNatClampNeg + i) .null) = true ∧ (T.setVm vm').takes cm1 (cs.slots.getD (sp.toNatClampNeg + i) .null))
    (hframes : 1 ≤ R.frames) (hlocals : (r.map fun v => v.category).sum + (nativeFrameWords "java/lang/System" "arraycopy" 5 + 11) ≤ R.locals) (hdg : decode cc pc = .ok (.invokestatic index, 3))
    (kk : ∀ (H' : Heap) (L : List Loc), (∀ q ∈ L, q.base = a1) → H'[a1]? = some (copied cs cd sp dp k) → H'.size = H.size → (∀ q, q ≠ a1 → H'[q]? = H[q]?) → W p l e R s m args below meth c H' (locs ++ L) cells slots Q (F0 m (pc + 3) ls r)) : W p l e R s m args below meth c H locs cells slots Q (F0 m pc ls (.int k :: .int dp :: .ref a1 :: .int sp :: .ref a0 :: r)) := by
  intro T hT X
  obtain ⟨vm', X', step⟩ := X.arraycopy hexec hown hlink hnat hstat hini (src := a0) (dst := a1) (cs := cs) (cd := cd) (srcPos := sp) (destPos := dp) (n := k) (by rw [hT]; exact hc0) (by rw [hT]; exact hc1)
    (fun _ h => by rw [hv0] at h; cases h) (fun _ h => by rw [hv1] at h; cases h) (fun h => by rw [hv0] at h; cases h) (fun h => by rw [hv1] at h; cases h) hk0 hk1 hkk0 hkk1 hty (Int32.not_lt.mpr h1) (Int32.not_lt.mpr h2) (Int32.not_lt.mpr h3)
    (by rw [xv_nn h1, xv_nn h3]; omega) (by rw [xv_nn h2, xv_nn h3]; omega) (hvals T hT)
    (g := F0 m pc ls (.int k :: .int dp :: .ref a1 :: .int sp :: .ref a0 :: r)) rfl (by rw [hml]) (rest := r) rfl (by rw [hb]; exact hdg) hframes (by show 2 * 0 + _ + _ ≤ _; omega)
  have hl : a1 < H.size := (Array.getElem?_eq_some_iff.mp hc1).1
  have hheap : ((T.setVm vm').setCell a1 (copied cs cd sp dp k)).heap = H.setIfInBounds a1 (copied cs cd sp dp k) := by rw [← hT]; rfl
  obtain ⟨t, b1, b2⟩ := kk _ _ (fun q hq => by
      obtain ⟨z, -, hz⟩ := List.mem_map.mp hq
      rw [← hz]) (show (H.setIfInBounds a1 _)[a1]? = some _ by simp [Array.getElem?_setIfInBounds, hl]) (by simp) (fun q hq => by simp [Array.getElem?_setIfInBounds, Ne.symm hq]) _ hheap X'
  exact ⟨t, step t b1, b2⟩
theorem xs_copyi {idx : Nat} {sp dp k : Int32} (hC : xv_Cx p R s m args meth c cc w cl aty WS stt sx sc own nL n0 z0 nE zE) (hd : decode cc pc = .ok (.invokestatic idx, 3)) (hlink : Jvm.Cond.methodLink own idx arraycopyName ∈ WS) (hnat : Jvm.Cond.native arraycopyName ∈ WS) (hstat : Jvm.Cond.static arraycopyName ∈ WS) (hini : Jvm.Cond.initialized "java/lang/System" ∈ WS) (hty : aty[0]? = some .int) (hE : n ≤ nE) (ha : a < n) (hb0 : b < n) (hta : tg a = 100) (htb : tg b = 100)
    (h1 : 0 ≤ sp) (h2 : 0 ≤ dp) (h3 : 0 ≤ k) (h4 : sp.toNatClampNeg + k.toNatClampNeg ≤ ln a) (h5 : dp.toNatClampNeg + k.toNatClampNeg ≤ ln b) (hroom : xv_room st = true) (hF : 1 ≤ R.frames) (hLo : 8 + (nativeFrameWords "java/lang/System" "arraycopy" 5 + 11) ≤ R.locals)
    (hG : xv_G p l e R s m args below meth c Q w cl rk lg nL n0 z0 (pc + 3, L, st, (n, z, tg, ln, fr, er, fi, xv_cpy ei a sp.toNatClampNeg b dp.toNatClampNeg k.toNatClampNeg, el))) : xv_G p l e R s m args below meth c Q w cl rk lg nL n0 z0 (pc, L, .int k :: .int dp :: .ref b :: .int sp :: .ref a :: st, (n, z, tg, ln, fr, er, fi, ei, el)) := by
  intro ls H locs hl hR hS g1 g2
  obtain ⟨⟨hx, hb, hml, hown, hts⟩, ⟨hK, hA⟩, ⟨hr1, hr2, hr3, hr4⟩, -⟩ := hC
  have hal : xv_al w a = w.1 + a := xv_al_lt (by omega)
  have hbl : xv_al w b = w.1 + b := xv_al_lt (by omega)
  obtain ⟨c0, p1, p2, p3, p4, p5⟩ := hR.arr ha (j := 0) hta
  obtain ⟨c1, q1, q2, q3, q4, q5⟩ := hR.arr hb0 (j := 0) htb
  have e0 := hR.arrV ha (j := 0) hta p1
  have e1 := hR.arrV hb0 (j := 0) htb q1
  have f0 : ∀ b, (fun i => xv_ev w (n, z, tg, ln, fr, er, fi, ei, el) (100 + 0) b i) = fun i => .int (ei b i) := fun b => by funext i; simp [xv_ev]
  obtain ⟨-, k0, hk0, cm0, hkk0⟩ := xv_arr_is (hA 0 _ hty).1 p3 p2
  obtain ⟨-, k1, hk1, cm1, hkk1⟩ := xv_arr_is (hA 0 _ hty).1 q3 q2
  have hcs := xv_room_spec hroom
  simp only [List.map_cons, xv_cv, hal, hbl]
  refine xw_copy hx hb (by rw [hml]; exact hl.1.1.symm) hown (hts _ hlink) (hts _ hnat) (hts _ hstat) (hts _ hini) p1 q1 p2 q2 hk0 hk1 hkk0 hkk1 (by decide) h1 h2 h3 (by rw [p4]; exact h4) (by rw [q4]; exact h5) (fun T hT vm' hvm i hi => ?_) hF (by rw [xv_cats]; omega) hd fun H' L g3 g4 g5 g6 => ?_
  · have e : c0.slots.getD (sp.toNatClampNeg + i) .null = .int (ei a (sp.toNatClampNeg + i)) := by
      rw [Array.getD_eq_getD_getElem?, p5 _ (by simp only; omega)]
      simp [xv_ev]
    rw [e]
    exact ⟨rfl, trivial⟩
  · have hcell : copied c0 c1 sp dp k = arrV (w.2.2.2.2.1 0) (ln b) (fun j => .int (va_cpy (ei a) (ei b) sp.toNatClampNeg dp.toNatClampNeg k.toNatClampNeg j)) := by
      rw [e0, e1]
      simp only [f0]
      exact va_copied (fun z => .int z) _ _ (ei a) (ei b) h4
    rw [hcell] at g4
    refine hG ls H' _ hl (hR.set (h' := (n, z, tg, ln, fr, er, fi, xv_cpy ei a sp.toNatClampNeg b dp.toNatClampNeg k.toNatClampNeg, el)) rfl g5 g6 g4 ⟨rfl, Or.inr ⟨by simp only [htb]; omega, ?_⟩⟩ fun b' cb hb' hne hcb => hcb.keep rfl rfl (fun g => rfl) (fun t i => ?_)) ⟨by rw [g5]; exact hS.1, fun q d1 d2 => (g6 q (fun z => d2 (by rw [z]; exact Nat.le_add_right _ _))).trans (hS.2.1 q d1 d2), fun q hq => ?_⟩ g1 g2
    · simp only [htb]
      congr 1
      funext i
      simp [xv_ev, xv_cpy, va_cpy]
    · simp only [xv_ev, xv_cpy, hne, false_and, if_false]
    · rcases List.mem_append.mp hq with d | d
      · exact hS.2.2 q d
      · rw [g3 q d]; exact Nat.le_add_right _ _
theorem xs_copyr {idx j cj : Nat} {C : String} {q : vw_C} {sp dp k : Int32} (hC : xv_Cx p R s m args meth c cc w cl aty WS stt sx sc own nL n0 z0 nE zE) (hd : decode cc pc = .ok (.invokestatic idx, 3)) (hlink : Jvm.Cond.methodLink own idx arraycopyName ∈ WS) (hnat : Jvm.Cond.native arraycopyName ∈ WS) (hstat : Jvm.Cond.static arraycopyName ∈ WS) (hini : Jvm.Cond.initialized "java/lang/System" ∈ WS) (hty : aty[j]? = some (.object C)) (hj : 4 ≤ j) (hq : cl[cj]? = some q) (hcj : cj < 100) (hca : C = q.1 ∨ (q.1, C) ∈ sx.1) (hE : n ≤ nE) (ha : a < n) (hb0 : b < n) (hta : tg a = 100 + j) (htb : tg b = 100 + j)
    (h1 : 0 ≤ sp) (h2 : 0 ≤ dp) (h3 : 0 ≤ k) (h4 : sp.toNatClampNeg + k.toNatClampNeg ≤ ln a) (h5 : dp.toNatClampNeg + k.toNatClampNeg ≤ ln b) (hel : ∀ i, i < k.toNatClampNeg → ∀ b', er a (sp.toNatClampNeg + i) = some b' → b' < n ∧ tg b' = cj) (hroom : xv_room st = true) (hF : 1 ≤ R.frames) (hLo : 8 + (nativeFrameWords "java/lang/System" "arraycopy" 5 + 11) ≤ R.locals)
    (hG : xv_G p l e R s m args below meth c Q w cl rk lg nL n0 z0 (pc + 3, L, st, (n, z, tg, ln, fr, xv_cpy er a sp.toNatClampNeg b dp.toNatClampNeg k.toNatClampNeg, fi, ei, el))) : xv_G p l e R s m args below meth c Q w cl rk lg nL n0 z0 (pc, L, .int k :: .int dp :: .ref b :: .int sp :: .ref a :: st, (n, z, tg, ln, fr, er, fi, ei, el)) := by
  intro ls H locs hl hR hS g1 g2
  obtain ⟨⟨hx, hb, hml, hown, hts⟩, ⟨hK, hA⟩, ⟨hr1, hr2, hr3, hr4⟩, -, hXE, -⟩ := hC
  have hal : xv_al w a = w.1 + a := xv_al_lt (by omega)
  have hbl : xv_al w b = w.1 + b := xv_al_lt (by omega)
  obtain ⟨c0, p1, p2, p3, p4, p5⟩ := hR.arr ha hta
  obtain ⟨c1, q1, q2, q3, q4, q5⟩ := hR.arr hb0 htb
  have e0 := hR.arrV ha (j := j) hta p1
  have e1 := hR.arrV hb0 (j := j) htb q1
  have f0 : ∀ b, (fun i => xv_ev w (n, z, tg, ln, fr, er, fi, ei, el) (100 + j) b i) = fun i => va_rf ((er b i).map (xv_al w)) := fun b => by
    funext i
    unfold xv_ev
    rw [if_neg (by omega), if_pos (by omega), xv_cv_rf]
  obtain ⟨-, k0, hk0, cm0, hkk0⟩ := xv_arr_is (hA j _ hty).1 p3 p2
  obtain ⟨-, k1, hk1, cm1, hkk1⟩ := xv_arr_is (hA j _ hty).1 q3 q2
  have hcs := xv_room_spec hroom
  simp only [List.map_cons, xv_cv, hal, hbl]
  refine xw_copy hx hb (by rw [hml]; exact hl.1.1.symm) hown (hts _ hlink) (hts _ hnat) (hts _ hstat) (hts _ hini) p1 q1 p2 q2 hk0 hk1 hkk0 hkk1 rfl h1 h2 h3 (by rw [p4]; exact h4) (by rw [q4]; exact h5) (fun T hT vm' hvm i hi => ?_) hF (by rw [xv_cats]; omega) hd fun H' L g3 g4 g5 g6 => ?_
  · have e : c0.slots.getD (sp.toNatClampNeg + i) .null = va_rf ((er a (sp.toNatClampNeg + i)).map (xv_al w)) := by
      rw [Array.getD_eq_getD_getElem?, p5 _ (by simp only; omega)]
      exact congrFun (f0 a) _
    rw [e]
    cases hy : er a (sp.toNatClampNeg + i) with
    | none => exact ⟨rfl, trivial⟩
    | some b' =>
      obtain ⟨d1, d2⟩ := hel i hi b' hy
      obtain ⟨cellV, d3, d4, d5⟩ := hR.obj d1 d2 hcj
      have hcls := (hK.1 cj q hq).2
      obtain ⟨kA, comp, r1, r2, r3, -⟩ := (hA j _ hty).2
      rw [q3] at hk1
      cases hk1.symm.trans r1
      cases hkk1.symm.trans r2
      obtain ⟨kE, hkE, -⟩ := Vm.findClass_spec r3
      obtain ⟨kC, hkC, -⟩ := hcls.2
      have hasg : s.vm.assignable (w.2.2.2.1.1 cj) cm1 = true := by
        rcases hca with hca | hca
        · subst hca
          cases r3.symm.trans hcls.1
          exact va_assign hcls
        · obtain ⟨c0, t1, f1, f2, f3⟩ := Cond.castable_spec (va_Nw.use (A := args) rfl (hXE.1 _ hca))
          cases hcls.1.symm.trans f1
          cases r3.symm.trans f2
          exact f3
      obtain ⟨kC', hkC', -⟩ := hvm.2.2 _ _ hkC
      obtain ⟨kE', hkE', -⟩ := hvm.2.2 _ _ hkE
      have hbl' : xv_al w b' = w.1 + b' := xv_al_lt (by omega)
      refine ⟨rfl, ?_⟩
      show (T.setVm vm').takes cm1 (.ref (xv_al w b'))
      refine ⟨cellV, (show T.heap[xv_al w b']? = some cellV by rw [hT, hbl']; exact d3), (fun q h => by rw [d4] at h; cases h), ⟨kC', by rw [d5]; exact hkC'⟩, ⟨kE', hkE'⟩, ?_⟩
      show vm'.assignable _ _ = true
      rw [hvm.assignable, d5]
      exact hasg
  · have hcell : copied c0 c1 sp dp k = arrV (w.2.2.2.2.1 j) (ln b) (fun i => va_rf ((va_cpy (er a) (er b) sp.toNatClampNeg dp.toNatClampNeg k.toNatClampNeg i).map (xv_al w))) := by
      rw [e0, e1]
      simp only [f0]
      exact va_copied (fun o => va_rf (o.map (xv_al w))) _ _ (er a) (er b) h4
    rw [hcell] at g4
    refine hG ls H' _ hl (hR.set (h' := (n, z, tg, ln, fr, xv_cpy er a sp.toNatClampNeg b dp.toNatClampNeg k.toNatClampNeg, fi, ei, el)) rfl g5 g6 g4 ⟨rfl, Or.inr ⟨by simp only [htb]; omega, ?_⟩⟩ fun b' cb hb' hne hcb => hcb.keep rfl rfl (fun g => rfl) (fun t i => ?_)) ⟨by rw [g5]; exact hS.1, fun q d1 d2 => (g6 q (fun z => d2 (by rw [z]; exact Nat.le_add_right _ _))).trans (hS.2.1 q d1 d2), fun q hq => ?_⟩ g1 g2
    · simp only [htb, Nat.add_sub_cancel_left]
      congr 1
      funext i
      unfold xv_ev
      rw [if_neg (by omega), if_pos (by omega), xv_cv_rf]
      simp only [xv_cpy, va_cpy, true_and]
    · simp only [xv_ev, xv_cpy, hne, false_and, if_false]
    · rcases List.mem_append.mp hq with d | d
      · exact hS.2.2 q d
      · rw [g3 q d]; exact Nat.le_add_right _ _
/-- clone of an array of ints -/
theorem xs_clone {idx : Nat} (hC : xv_Cx p R s m args meth c cc w cl aty WS stt sx sc own nL n0 z0 nE zE) (hd : decode cc pc = .ok (.invokevirtual idx, 3)) (hlink : Jvm.Cond.methodLink own idx ⟨"[I", "clone", "()Ljava/lang/Object;"⟩ ∈ WS) (hsame : Jvm.Cond.sameMethod "[I" "java/lang/Object" "clone" "()Ljava/lang/Object;" ∈ WS)
    (hnat : Jvm.Cond.native ⟨"java/lang/Object", "clone", "()Ljava/lang/Object;"⟩ ∈ WS) (hinst : Jvm.Cond.instanceMethod ⟨"java/lang/Object", "clone", "()Ljava/lang/Object;"⟩ ∈ WS) (hsel : Jvm.Cond.selects "[I" ⟨"[I", "clone", "()Ljava/lang/Object;"⟩ ⟨"java/lang/Object", "clone", "()Ljava/lang/Object;"⟩ ∈ WS) (hcl : ("[I", "java/lang/Cloneable") ∈ sx.1)
    (hty : aty[0]? = some .int) (hE : n + 1 ≤ nE) (hZ : z + ln a ≤ zE) (ha : a < n) (hta : tg a = 100) (hroom : xv_room st = true) (hF : 1 ≤ R.frames) (hLo : 22 ≤ R.locals)
    (hG : xv_G p l e R s m args below meth c Q w cl rk lg nL n0 z0 (pc + 3, L, .ref n :: st, (n + 1, z + ln a, xv_u1 tg n 100, xv_u1 ln n (ln a), xv_freshF fr n none, xv_fresh er n none, xv_freshF fi n 0, (fun b i => if b = n then xv_fresh ei n 0 a i else xv_fresh ei n 0 b i), xv_fresh el n 0))) : xv_G p l e R s m args below meth c Q w cl rk lg nL n0 z0 (pc, L, .ref a :: st, (n, z, tg, ln, fr, er, fi, ei, el)) := by
  intro ls H locs hl hR hS g1 g2
  obtain ⟨⟨hx, hb, hml, hown, hts⟩, ⟨hK, hA⟩, ⟨hr1, hr2, hr3, hr4⟩, -, hXE, -⟩ := hC
  simp only at g1 g2
  have hal : xv_al w a = w.1 + a := xv_al_lt (by omega)
  obtain ⟨c0, p1, p2, p3, p4, p5⟩ := hR.arr ha (j := 0) hta
  have hcs := xv_room_spec hroom
  obtain ⟨d0, t0', f1, f2, f3⟩ := Cond.castable_spec (va_Nw.use (A := args) rfl (hXE.1 _ hcl))
  have hnm : s.vm.findClass "[I" = some (w.2.2.2.2.1 0) := va_nm_int (hA 0 _ hty).2
  cases hnm.symm.trans f1
  show W p l e R s m args below meth c H locs (n - n0) (z - z0) Q (F0 m pc ls (.ref (xv_al w a) :: st.map (xv_cv (xv_al w))))
  intro T hT X
  obtain ⟨-, kA, hkA, comp, hkind⟩ := State.isArrayOf_alike X.warmed.alike ((hA 0 _ hty).1 0 (fun _ => .null))
  obtain ⟨-, kS, hkS, compS, hkindS⟩ := (hA 0 _ hty).1 0 (fun _ => .null)
  have e0 := hR.arrV ha (j := 0) hta p1
  have hcc : ({ cls := c0.cls, slots := c0.slots } : Cell) = c0 := by rw [e0]; rfl
  have hsz : c0.slots.size = ln a := p4
  rw [hal]
  obtain ⟨vm', X', stp⟩ := X.cloneArray hx hown (hts _ hlink) (hts _ hsame) (hts _ hnat) (hts _ hinst) (hts _ hsel) (a := w.1 + a) (cell := c0) (by rw [hT]; exact p1) (fun k h => by rw [p2] at h; cases h) (by rw [p2]; exact fun h => by cases h) (by rw [p3]; exact hnm) f2 (by rw [p3]; exact f3)
    (fun i v hv => by
      have hi : i < ln a := by rw [← hsz]; exact (Array.getElem?_eq_some_iff.mp hv).1
      rw [p5 i hi] at hv
      have e : v = .int (ei a i) := by
        have := Option.some.inj hv
        rw [← this]; simp [xv_ev]
      rw [p3, e]
      have hk' : T.vm.classes[w.2.2.2.2.1 0]? = some kA := hkA
      simp [State.fitsSlot, State.slotType?, hk', hkind, fits])
    (g := F0 m pc ls (.ref (w.1 + a) :: st.map (xv_cv (xv_al w)))) rfl (by rw [hml]; exact hl.1.1) rfl (by rw [hb]; exact hd) hF (by rw [xv_cats]; show 2 * 0 + _ + 14 ≤ _; omega) (by omega) (by rw [hsz]; omega) (hloader := by rw [p3]; exact Vm.clonesLoader_of_array hkS hkindS)
  rw [hcc, hsz] at X'
  have hat : xv_at w cl rk (n + 1, z + ln a, xv_u1 tg n 100, xv_u1 ln n (ln a), xv_freshF fr n none, xv_fresh er n none, xv_freshF fi n 0, (fun b i => if b = n then xv_fresh ei n 0 a i else xv_fresh ei n 0 b i), xv_fresh el n 0) n c0 := by
    refine ⟨p2, Or.inr ⟨by simp [xv_u1], ?_⟩⟩
    rw [e0]
    have hne : ¬ a = n := by omega
    simp only [xv_u1, if_true]
    congr 1
    funext i
    simp [xv_ev, xv_fresh, hne]
  have hR' := hR.push (h' := (n + 1, z + ln a, xv_u1 tg n 100, xv_u1 ln n (ln a), xv_freshF fr n none, xv_fresh er n none, xv_freshF fi n 0, (fun b i => if b = n then xv_fresh ei n 0 a i else xv_fresh ei n 0 b i), xv_fresh el n 0)) (H' := H.push c0) rfl (by simp) (fun q hq => by rw [Array.getElem?_push, if_neg (Nat.ne_of_lt hq)]) (by simp) hat (fun b cb hb hcb => by
    have hne : ¬ b = n := by simp only at hb; omega
    refine hcb.keep ?_ ?_ (fun f => ?_) (fun t i => ?_)
    · simp only [xv_u1, if_neg hne]
    · simp only [xv_u1, if_neg hne]
    · simp only [xv_fv, xv_freshF, if_neg hne]
    · simp only [xv_ev, xv_fresh, if_neg hne])
  have hg := hG ls _ locs hl hR' (xv_S.push hS (by simp) (fun q hq => by rw [Array.getElem?_push, if_neg (Nat.ne_of_lt hq)])) (by simp only; omega) (by simp only; omega)
  have haln : xv_al w n = H.size := by rw [xv_al_lt (by omega)]; exact hR.1.symm
  simp only [List.map_cons, xv_cv, haln] at hg
  rw [show n + 1 - n0 = n - n0 + 1 by omega, show z + ln a - z0 = z - z0 + ln a by omega] at hg
  obtain ⟨t, b1, b2⟩ := hg ((T.setVm vm').pushCell c0) (by rw [← hT]; rfl) X'
  refine ⟨t, stp t ?_, b2⟩
  rw [hcc, hT]
  exact b1
/-- Object's own start -/
theorem xs_objInit {idx : Nat} {h : xv_H} (hC : xv_Cx p R s m args meth c cc w cl aty WS stt sx sc own nL n0 z0 nE zE) (hd : decode cc pc = .ok (.invokespecial idx, 3)) (hlink : Jvm.Cond.methodLink own idx Lib.objectInit ∈ WS) (hinst : Jvm.Cond.instanceMethod Lib.objectInit ∈ WS) (hcode : Jvm.Cond.code Lib.objectInit ⟨#[0xb1]⟩ 1 none ∈ WS) (hroom : xv_room st = true) (hF : 1 ≤ R.frames) (hLo : 20 ≤ R.locals)
    (hG : xv_G p l e R s m args below meth c Q w cl rk lg nL n0 z0 (pc + 3, L, st, h)) : xv_G p l e R s m args below meth c Q w cl rk lg nL n0 z0 (pc, L, .ref a :: st, h) := by
  intro ls H locs hl hR hS g1 g2
  obtain ⟨⟨hx, hb, hml, hown, hts⟩, -⟩ := hC
  have hcs := xv_room_spec hroom
  exact W.objInit hx hb hown (hts _ hlink) (hts _ hinst) (hts _ hcode) rfl (by rw [hml]; exact hl.1.1) (rest := st.map (xv_cv (xv_al w))) rfl hd hF (by rw [xv_cats]; show 2 * 0 + _ + 12 ≤ _; omega) (hG ls H locs hl hR hS g1 g2)
/-- the Class of Object[] -/
theorem xs_getC {j idx : Nat} (hC : xv_Cx p R s m args meth c cc w cl aty WS stt sx sc own nL n0 z0 nE zE) (hd : decode cc pc = .ok (.invokevirtual idx, 3)) (hlink : Jvm.Cond.methodLink own idx ⟨"java/lang/Object", "getClass", "()Ljava/lang/Class;"⟩ ∈ WS) (hsel : Jvm.Cond.selects "[Ljava/lang/Object;" ⟨"java/lang/Object", "getClass", "()Ljava/lang/Class;"⟩ ⟨"java/lang/Object", "getClass", "()Ljava/lang/Class;"⟩ ∈ WS) (hinst : Jvm.Cond.instanceMethod ⟨"java/lang/Object", "getClass", "()Ljava/lang/Class;"⟩ ∈ WS) (hnat : Jvm.Cond.native ⟨"java/lang/Object", "getClass", "()Ljava/lang/Class;"⟩ ∈ WS)
    (hty : aty[j]? = some (.object "java/lang/Object")) (hE : n ≤ nE) (ha : a < n) (hta : tg a = 100 + j) (hroom : xv_room st = true) (hF : 1 ≤ R.frames) (hLo : 22 ≤ R.locals)
    (hG : xv_G p l e R s m args below meth c Q w cl rk lg nL n0 z0 (pc + 3, L, .ref (xv_SB + 1) :: st, (n, z, tg, ln, fr, er, fi, ei, el))) : xv_G p l e R s m args below meth c Q w cl rk lg nL n0 z0 (pc, L, .ref a :: st, (n, z, tg, ln, fr, er, fi, ei, el)) := by
  intro ls H locs hl hR hS g1 g2
  obtain ⟨⟨hx, hb, hml, hown, hts⟩, ⟨hK, hA⟩, ⟨hr1, hr2, hr3, hr4⟩, -, hXE, -⟩ := hC
  have hal : xv_al w a = w.1 + a := xv_al_lt (by omega)
  have hal2 : xv_al w (xv_SB + 1) = w.2.2.1 1 := xv_al_st (by have := hXE.2.2.2.2.2; omega)
  obtain ⟨c0, p1, p2, p3, p4, p5⟩ := hR.arr ha hta
  have hcs := xv_room_spec hroom
  have hg := hG ls H locs hl hR hS g1 g2
  simp only [List.map_cons, xv_cv, hal, hal2] at hg ⊢
  have hnm : s.vm.findClass "[Ljava/lang/Object;" = some (w.2.2.2.2.1 j) := va_nmO (hA j _ hty).2 (by decide)
  exact va_getC hx hb (by rw [hml]; exact hl.1.1.symm) hown (hts _ hlink) (va_Dc.use hXE.2.2.2.2.1) (hts _ hsel) (hts _ hinst) (hts _ hnat) hXE.2.2.2.1 ⟨c0, p1, by rw [p2]; rfl, by rw [p3]; exact hnm⟩ hF (by rw [xv_cats]; omega) hd hg
theorem xs_ldcM {idx : Nat} {h : xv_H} (hC : xv_Cx p R s m args meth c cc w cl aty WS stt sx sc own nL n0 z0 nE zE) (hd : decode cc pc = .ok (.ldc idx, 2)) (hlink : Jvm.Cond.classLink own idx "[Ljava/lang/Object;" ∈ WS) (hG : xv_G p l e R s m args below meth c Q w cl rk lg nL n0 z0 (pc + 2, L, .ref (xv_SB + 1) :: st, h)) : xv_G p l e R s m args below meth c Q w cl rk lg nL n0 z0 (pc, L, st, h) := by
  intro ls H locs hl hR hS g1 g2
  obtain ⟨⟨hx, hb, hml, hown, hts⟩, -, -, -, hXE, -⟩ := hC
  have hal2 : xv_al w (xv_SB + 1) = w.2.2.1 1 := xv_al_st (by have := hXE.2.2.2.2.2; omega)
  have hg := hG ls H locs hl hR hS g1 g2
  simp only [List.map_cons, xv_cv, hal2] at hg
  exact va_ldcM hx hb hown (hts _ hlink) hXE.2.2.2.1 hd hg
theorem xs_min {idx : Nat} {h : xv_H} {x y : Int32} (hC : xv_Cx p R s m args meth c cc w cl aty WS stt sx sc own nL n0 z0 nE zE) (hd : decode cc pc = .ok (.invokestatic idx, 3)) (hlink : Jvm.Cond.methodLink own idx Lib.Math.min.name ∈ WS) (hstat : Jvm.Cond.static Lib.Math.min.name ∈ WS) (hini : Jvm.Cond.initialized "java/lang/Math" ∈ WS) (hcode : Jvm.Cond.code Lib.Math.min.name Lib.Math.min.code 2 (some .int) ∈ WS) (hroom : xv_room st = true) (hF : 1 ≤ R.frames) (hLo : 22 ≤ R.locals) (hE : h.1 ≤ nE) (hZ : h.2.1 ≤ zE)
    (hG : xv_G p l e R s m args below meth c Q w cl rk lg nL n0 z0 (pc + 3, L, .int (if y < x then y else x) :: st, h)) : xv_G p l e R s m args below meth c Q w cl rk lg nL n0 z0 (pc, L, .int y :: .int x :: st, h) := by
  intro ls H locs hl hR hS g1 g2
  obtain ⟨⟨hx, hb, hml, hown, hts⟩, -, ⟨hr1, hr2, hr3, hr4⟩, -, -, -⟩ := hC
  have hcs := xv_room_spec hroom
  simp only at g1 g2
  show W p l e R s m args below meth c H locs (h.1 - n0) (h.2.1 - z0) Q (F0 m pc ls (.int y :: .int x :: st.map (xv_cv (xv_al w))))
  exact va_mmin hx hb (by rw [hml]; exact hl.1.1.symm) hown (hts _ hlink) (hts _ hstat) (hts _ hini) (hts _ hcode) hF (by rw [xv_cats]; omega) (by omega) (by omega) hd (hG ls H locs hl hR hS g1 g2)
theorem xs_max {idx : Nat} {h : xv_H} {x y : Int32} (hC : xv_Cx p R s m args meth c cc w cl aty WS stt sx sc own nL n0 z0 nE zE) (hd : decode cc pc = .ok (.invokestatic idx, 3)) (hlink : Jvm.Cond.methodLink own idx Lib.Math.max.name ∈ WS) (hstat : Jvm.Cond.static Lib.Math.max.name ∈ WS) (hini : Jvm.Cond.initialized "java/lang/Math" ∈ WS) (hcode : Jvm.Cond.code Lib.Math.max.name Lib.Math.max.code 2 (some .int) ∈ WS) (hroom : xv_room st = true) (hF : 1 ≤ R.frames) (hLo : 22 ≤ R.locals) (hE : h.1 ≤ nE) (hZ : h.2.1 ≤ zE)
    (hG : xv_G p l e R s m args below meth c Q w cl rk lg nL n0 z0 (pc + 3, L, .int (if x < y then y else x) :: st, h)) : xv_G p l e R s m args below meth c Q w cl rk lg nL n0 z0 (pc, L, .int y :: .int x :: st, h) := by
  intro ls H locs hl hR hS g1 g2
  obtain ⟨⟨hx, hb, hml, hown, hts⟩, -, ⟨hr1, hr2, hr3, hr4⟩, -, -, -⟩ := hC
  have hcs := xv_room_spec hroom
  simp only at g1 g2
  show W p l e R s m args below meth c H locs (h.1 - n0) (h.2.1 - z0) Q (F0 m pc ls (.int y :: .int x :: st.map (xv_cv (xv_al w))))
  exact va_mmax hx hb (by rw [hml]; exact hl.1.1.symm) hown (hts _ hlink) (hts _ hstat) (hts _ hini) (hts _ hcode) hF (by rw [xv_cats]; omega) (by omega) (by omega) hd (hG ls H locs hl hR hS g1 g2)
end XC
end
section
/-! What it needs for an instruction to go on. -/
section XI
variable {β : Type} {st : List Value} {b : β} {L : xv_L} {i : Nat} {lg : List Nat} {h : xv_H}
theorem xv_i1_inv {f : Int32 → List Value → Option β} (q : xv_i1 st f = some b) : ∃ x r, st = .int x :: r ∧ f x r = some b := by
  unfold xv_i1 at q
  split at q
  · exact ⟨_, _, rfl, q⟩
  · cases q
theorem xv_i2_inv {f : Int32 → Int32 → List Value → Option β} (q : xv_i2 st f = some b) : ∃ x y r, st = .int y :: .int x :: r ∧ f x y r = some b := by
  unfold xv_i2 at q
  split at q
  · exact ⟨_, _, _, rfl, q⟩
  · cases q
theorem xv_l1_inv {f : Int64 → List Value → Option β} (q : xv_l1 st f = some b) : ∃ x r, st = .long x :: r ∧ f x r = some b := by
  unfold xv_l1 at q
  split at q
  · exact ⟨_, _, rfl, q⟩
  · cases q
theorem xv_l2_inv {f : Int64 → Int64 → List Value → Option β} (q : xv_l2 st f = some b) : ∃ x y r, st = .long y :: .long x :: r ∧ f x y r = some b := by
  unfold xv_l2 at q
  split at q
  · exact ⟨_, _, _, rfl, q⟩
  · cases q
theorem xv_li_inv {f : Int64 → Int32 → List Value → Option β} (q : xv_li st f = some b) : ∃ x y r, st = .int y :: .long x :: r ∧ f x y r = some b := by
  unfold xv_li at q
  split at q
  · exact ⟨_, _, _, rfl, q⟩
  · cases q
theorem xv_r1_inv {f : Nat → List Value → Option β} (q : xv_r1 st f = some b) : ∃ a r, st = .ref a :: r ∧ f a r = some b := by
  unfold xv_r1 at q
  split at q
  · exact ⟨_, _, rfl, q⟩
  · cases q
theorem xv_q1_inv {f : Option Nat → List Value → Option β} (q : xv_q1 st f = some b) : ∃ o r, st = va_rf o :: r ∧ f o r = some b := by
  unfold xv_q1 at q
  split at q
  · exact ⟨some _, _, rfl, q⟩
  · exact ⟨none, _, rfl, q⟩
  · cases q
theorem xv_v1_inv {f : Value → List Value → Option β} (q : xv_v1 st f = some b) : ∃ v r, st = v :: r ∧ v.category = 1 ∧ f v r = some b := by
  unfold xv_v1 at q
  split at q
  · split at q
    · rename_i hc
      exact ⟨_, _, rfl, hc, q⟩
    · cases q
  · cases q
theorem xv_in_inv {x : Int32} {a : Nat} {k : Option β} (q : xv_in h x a k = some b) : a < h.1 ∧ 0 ≤ x ∧ x.toNatClampNeg < h.2.2.2.1 a ∧ k = some b := by
  unfold xv_in at q
  split at q
  · rename_i hc
    exact ⟨hc.1, hc.2.1, hc.2.2, q⟩
  · cases q
theorem xv_iload_inv {f : Int32 → Option β} (q : xv_iload L i f = some b) : ∃ x, L[i]? = some (some (.int x)) ∧ f x = some b := by
  unfold xv_iload at q
  split at q
  · rename_i hc
    exact ⟨_, hc, q⟩
  · cases q
theorem xv_lload_inv {f : Int64 → Option β} (q : xv_lload L i f = some b) : ∃ x, L[i]? = some (some (.long x)) ∧ f x = some b := by
  unfold xv_lload at q
  split at q
  · rename_i hc
    exact ⟨_, hc, q⟩
  · cases q
theorem xv_aload_inv {f : Option Nat → Option β} (q : xv_aload L i f = some b) : (∃ x, L[i]? = some (some (.ref x)) ∧ f (some x) = some b) ∨ (L[i]? = some (some .null) ∧ f none = some b) := by
  unfold xv_aload at q
  split at q
  · rename_i hc
    exact Or.inl ⟨_, hc, q⟩
  · rename_i hc
    exact Or.inr ⟨hc, q⟩
  · cases q
theorem xv_st1_inv {v : Value} {f : xv_L → Option β} (q : xv_st1 lg L i v f = some b) : i < L.length ∧ xv_b1 lg i = true ∧ f (L.set i (some v)) = some b := by
  unfold xv_st1 at q
  split at q
  · rename_i hc
    exact ⟨hc.1, hc.2, q⟩
  · cases q
theorem xv_st2_inv {v : Value} {f : xv_L → Option β} (q : xv_st2 lg L i v f = some b) : i + 1 < L.length ∧ xv_b1 lg i = true ∧ i ∈ lg ∧ f ((L.set i (some v)).set (i + 1) none) = some b := by
  unfold xv_st2 at q
  split at q
  · rename_i hc
    exact ⟨hc.1, hc.2.1, by simpa using hc.2.2, q⟩
  · cases q
theorem xv_len_inv {n : Int32} {k : Option β} (q : xv_len n k = some b) : 0 ≤ n ∧ n.toNatClampNeg ≤ 60000000 ∧ k = some b := by
  unfold xv_len at q
  split at q
  · rename_i hc
    exact ⟨hc.1, hc.2, q⟩
  · cases q
end XI
theorem xv_nx_inv {pc : Nat} {L : xv_L} {st : List Value} {h : xv_H} {x : xv_N} (q : xv_nx pc L st h = some x) : x = (pc, L, st, h) := (Option.some.inj q).symm
theorem xv_jmp_inv {pc : Nat} {off : Int} {L : xv_L} {st : List Value} {h : xv_H} {x : xv_N} (q : xv_jmp pc off L st h = some x) : ∃ t : Nat, (pc : Int) + off = (t : Int) ∧ x = (t, L, st, h) := by
  unfold xv_jmp at q
  split at q
  · rename_i t ht
    exact ⟨t, ht, xv_nx_inv q⟩
  · cases q
theorem xv_if_inv {c : Bool} {pc : Nat} {off : Int} {L : xv_L} {st : List Value} {h : xv_H} {x : xv_N} (q : xv_if c pc off L st h = some x) : (c = true ∧ ∃ t : Nat, (pc : Int) + off = (t : Int) ∧ x = (t, L, st, h)) ∨ (c = false ∧ x = (pc + 3, L, st, h)) := by
  unfold xv_if at q
  split at q
  · rename_i hc
    exact Or.inl ⟨hc, xv_jmp_inv q⟩
  · rename_i hc
    exact Or.inr ⟨by simpa using hc, xv_nx_inv q⟩
end
section
/-! Every plain instruction. -/
/-- a method: name, code, locals, answer; how many frames and how many words of frames its calls take -/
abbrev xv_M : Type := MethodName × ByteArray × Nat × Option FieldType × Nat × Nat
def xv_same (WS : List Jvm.Cond) (ref o n d : String) : Prop := ref = o ∨ Jvm.Cond.sameField ref o n d ∈ WS
/-- an instruction is resolved as the words say -/
def xv_okI (sx : xv_X) (cl : List vw_C) (tyf : Nat → Nat → FieldType) (rk : Nat → Bool) (aty : List FieldType) (cp : Nat → Nat) (WS : List Jvm.Cond) (stt : List (String × String × String)) (y : MethodName) (pc : Nat) (ic : xv_I) : Prop := match ic.1 with
  | .ldc i => (ic.2.2 = 0 ∧ Jvm.Cond.constant y.cls i (Int32.ofNat ic.2.1) ∈ WS) ∨ (ic.2.2 = 1 ∧ Jvm.Cond.classLink y.cls i "[Ljava/lang/Object;" ∈ WS)
  | .ldc2_w i => Jvm.Cond.constantLong y.cls i (Int64.ofNat ic.2.1) ∈ WS
  | .ifCond _ off => 0 ≤ (pc : Int) + off
  | .if_icmp _ off => 0 ≤ (pc : Int) + off
  | .if_acmp _ off => 0 ≤ (pc : Int) + off
  | .ifnull off => 0 ≤ (pc : Int) + off
  | .ifnonnull off => 0 ≤ (pc : Int) + off
  | .getfield i => ∃ (ci k : Nat) (q : vw_C) (ref : String), ic.2.1 = 100 * ci + k ∧ k < 100 ∧ ci < 100 ∧ cl[ci]? = some q ∧ k < q.2.2 ∧ Jvm.Cond.fieldLink y.cls i ref (q.2.1 k).2.1 (q.2.1 k).2.2.1 ∈ WS ∧ xv_same WS ref (q.2.1 k).1 (q.2.1 k).2.1 (q.2.1 k).2.2.1 ∧ rk ic.2.1 = decide (ic.2.2 = 1)
  | .putfield i => ∃ (ci k : Nat) (q : vw_C) (ref : String), ic.2.1 = 100 * ci + k ∧ k < 100 ∧ ci < 100 ∧ cl[ci]? = some q ∧ k < q.2.2 ∧ Jvm.Cond.fieldLink y.cls i ref (q.2.1 k).2.1 (q.2.1 k).2.2.1 ∈ WS ∧ xv_same WS ref (q.2.1 k).1 (q.2.1 k).2.1 (q.2.1 k).2.2.1 ∧ rk ic.2.1 = decide (ic.2.2 = 1) ∧
      ((q.2.1 k).2.2.2 = false ∨ ((q.2.1 k).2.2.2 = true ∧ y.name = "<init>" ∧ (q.2.1 k).1 = y.cls)) ∧ (ic.2.2 = 1 → (∃ C, tyf ci k = .object C) ∨ ∃ t, tyf ci k = .array t) ∧ (ic.2.2 = 0 → tyf ci k = .int) ∧ (ic.2.2 = 2 → tyf ci k = .boolean)
  | .getstatic i => ∃ (q : String × String × String) (ref : String) (k : Nat), ic.2.1 = k + 2 ∧ stt[k]? = some q ∧ Jvm.Cond.fieldLink y.cls i ref q.2.1 q.2.2 ∈ WS ∧ xv_same WS ref q.1 q.2.1 q.2.2
  | .aaload => ∃ (j : Nat) (C : String), ic.2.1 = 100 + j ∧ 4 ≤ j ∧ aty[j]? = some (.object C)
  | .aastore => ∃ (j : Nat) (C : String) (q : vw_C), ic.2.1 = 100 + j ∧ 4 ≤ j ∧ aty[j]? = some (.object C) ∧ cl[cp ic.2.1]? = some q ∧ cp ic.2.1 < 100 ∧ (C = q.1 ∨ (q.1, C) ∈ sx.1)
  | .arraylength => ∃ (j : Nat) (ty : FieldType), ic.2.1 = 100 + j ∧ aty[j]? = some ty
  | .new i => ∃ q : vw_C, cl[ic.2.1]? = some q ∧ ic.2.1 < 100 ∧ ic.2.2 = q.2.2 ∧ Jvm.Cond.classLink y.cls i q.1 ∈ WS ∧ Jvm.Cond.instantiable q.1 q.2.2 ∈ WS ∧ Jvm.Cond.initialized q.1 ∈ WS
  | .newarray t => ∃ j : Nat, ic.2.1 = 100 + j ∧ aty[j]? = some (newarray.typeOf t) ∧ Jvm.Cond.arrayClass (newarray.typeOf t) ∈ WS ∧ ((j = 3 ∧ newarray.typeOf t = .long) ∨ (j < 3 ∧ defaultValue (newarray.typeOf t) = .int 0 ∧ componentBytes (newarray.typeOf t) ≤ 4))
  | .anewarray i => ∃ (j : Nat) (C : String), ic.2.1 = 100 + j ∧ 4 ≤ j ∧ aty[j]? = some (.object C) ∧ Jvm.Cond.classLink y.cls i C ∈ WS ∧ C ∈ sx.2.1
  | .checkcast i => (∃ q : vw_C, cl[ic.2.1]? = some q ∧ ic.2.1 < 100 ∧ Jvm.Cond.classLink y.cls i q.1 ∈ WS) ∨ ∃ (j : Nat) (ty : FieldType), ic.2.1 = 100 + j ∧ aty[j]? = some ty ∧ Jvm.Cond.classLink y.cls i ("[" ++ ty.toString) ∈ WS
  | _ => True
/-- the tables of fields and arrays -/
def xv_okC (cl : List vw_C) (tyf : Nat → Nat → FieldType) (rk : Nat → Bool) (aty : List FieldType) (WS : List Jvm.Cond) : Prop :=
  (∀ (ci : Nat) (q : vw_C), cl[ci]? = some q → (∀ x ∈ u_ws q.1 q.2.1 q.2.2, x ∈ WS) ∧ (∀ k, k < q.2.2 → parseFieldDescriptor (q.2.1 k).2.2.1 = some (tyf ci k)) ∧ (∀ a, a < q.2.2 → ∀ b, b < q.2.2 → a ≠ b → (q.2.1 a).2.1 ≠ (q.2.1 b).2.1) ∧ ∀ k, k < q.2.2 → defaultValue (tyf ci k) = if rk (100 * ci + k) = true then .null else .int 0) ∧
  aty[0]? = some .int ∧ aty[1]? = some .byte ∧ aty[2]? = some .boolean ∧ aty[3]? = some .long
/-- how long an instruction is; 0: any length -/
def xv_il (i : ClassFile.Instr) : Nat := match i with
  | .tableswitch _ _ _ _ => 0
  | .bipush _ | .ldc _ | .iload _ | .lload _ | .aload _ | .istore _ | .lstore _ | .astore _ | .newarray _ => 2
  | .sipush _ | .ldc2_w _ | .iinc _ _ | .ifCond _ _ | .if_icmp _ _ | .if_acmp _ _ | .ifnull _ | .ifnonnull _ | .goto _ | .getfield _ | .putfield _ | .getstatic _ | .new _ | .anewarray _ | .checkcast _ | .invokestatic _ | .invokespecial _ | .invokevirtual _ => 3
  | _ => 1
def xv_dec (cc : ByteArray) (pc : Nat) (i : ClassFile.Instr) : Prop := ∃ len, decode cc pc = .ok (i, len) ∧ (xv_il i = 0 ∨ len = xv_il i)
theorem xv_dec.at {cc : ByteArray} {pc k : Nat} {i : ClassFile.Instr} (h : xv_dec cc pc i) (hk : xv_il i = k + 1) : decode cc pc = .ok (i, k + 1) := by
  obtain ⟨len, h1, h2 | h2⟩ := h
  · omega
  · rw [h1, h2, hk]
theorem xv_nm {s : State} {cA : ClassId} {ty : FieldType} (h : va_RA s cA ty) : s.vm.findClass ("[" ++ ty.toString) = some cA := by
  cases ty <;> first | exact h | (obtain ⟨_, _, -, -, -, h4⟩ := h; exact h4)
section XD
variable {p : Program} {l : Launch} {e : Env} {R : Room} {s : State} {m : MethodId} {args : Array Value} {below : List Frame} {meth : Method} {c : Code} {Q : State → Prop} {cc : ByteArray} {w : xv_W} {cl : List vw_C} {rk : Nat → Bool} {aty : List FieldType} {WS : List Jvm.Cond} {stt : List (String × String × String)} {sx : xv_X} {sc : Nat × (Nat → Int32)} {nL n0 z0 nE zE : Nat} {lg : List Nat} {pc : Nat} {L : xv_L} {st : List Value} {h : xv_H} {tyf : Nat → Nat → FieldType} {cp : Nat → Nat} {y : MethodName} {r q : Nat} {x : xv_N}
theorem xd_null (hC : xv_Cx p R s m args meth c cc w cl aty WS stt sx sc y.cls nL n0 z0 nE zE) (hd : xv_dec cc pc (.aconst_null)) (ha : xv_act sc cp lg (.aconst_null, r, q) pc L st h = some x) (hG : xv_G p l e R s m args below meth c Q w cl rk lg nL n0 z0 x) : xv_G p l e R s m args below meth c Q w cl rk lg nL n0 z0 (pc, L, st, h) := by
  simp only [xv_act] at ha
  cases xv_nx_inv ha
  exact xs_null hC (hd.at rfl) hG
theorem xd_iconst {n : Int} (hC : xv_Cx p R s m args meth c cc w cl aty WS stt sx sc y.cls nL n0 z0 nE zE) (hd : xv_dec cc pc (.iconst n)) (ha : xv_act sc cp lg (.iconst n, r, q) pc L st h = some x) (hG : xv_G p l e R s m args below meth c Q w cl rk lg nL n0 z0 x) : xv_G p l e R s m args below meth c Q w cl rk lg nL n0 z0 (pc, L, st, h) := by
  simp only [xv_act] at ha
  cases xv_nx_inv ha
  exact xs_iconst hC (hd.at rfl) hG
theorem xd_bipush {n : Int} (hC : xv_Cx p R s m args meth c cc w cl aty WS stt sx sc y.cls nL n0 z0 nE zE) (hd : xv_dec cc pc (.bipush n)) (ha : xv_act sc cp lg (.bipush n, r, q) pc L st h = some x) (hG : xv_G p l e R s m args below meth c Q w cl rk lg nL n0 z0 x) : xv_G p l e R s m args below meth c Q w cl rk lg nL n0 z0 (pc, L, st, h) := by
  simp only [xv_act] at ha
  cases xv_nx_inv ha
  exact xs_bipush hC (hd.at rfl) hG
theorem xd_sipush {n : Int} (hC : xv_Cx p R s m args meth c cc w cl aty WS stt sx sc y.cls nL n0 z0 nE zE) (hd : xv_dec cc pc (.sipush n)) (ha : xv_act sc cp lg (.sipush n, r, q) pc L st h = some x) (hG : xv_G p l e R s m args below meth c Q w cl rk lg nL n0 z0 x) : xv_G p l e R s m args below meth c Q w cl rk lg nL n0 z0 (pc, L, st, h) := by
  simp only [xv_act] at ha
  cases xv_nx_inv ha
  exact xs_sipush hC (hd.at rfl) hG
theorem xd_lconst {n : Fin 2} (hC : xv_Cx p R s m args meth c cc w cl aty WS stt sx sc y.cls nL n0 z0 nE zE) (hd : xv_dec cc pc (.lconst n)) (ha : xv_act sc cp lg (.lconst n, r, q) pc L st h = some x) (hG : xv_G p l e R s m args below meth c Q w cl rk lg nL n0 z0 x) : xv_G p l e R s m args below meth c Q w cl rk lg nL n0 z0 (pc, L, st, h) := by
  simp only [xv_act] at ha
  cases xv_nx_inv ha
  exact xs_lconst hC (hd.at rfl) hG
theorem xd_iadd (hC : xv_Cx p R s m args meth c cc w cl aty WS stt sx sc y.cls nL n0 z0 nE zE) (hd : xv_dec cc pc (.iadd)) (ha : xv_act sc cp lg (.iadd, r, q) pc L st h = some x) (hG : xv_G p l e R s m args below meth c Q w cl rk lg nL n0 z0 x) : xv_G p l e R s m args below meth c Q w cl rk lg nL n0 z0 (pc, L, st, h) := by
  simp only [xv_act] at ha
  obtain ⟨a, b, t, rfl, ha1⟩ := xv_i2_inv ha
  cases xv_nx_inv ha1
  exact xs_iadd hC (hd.at rfl) hG
theorem xd_isub (hC : xv_Cx p R s m args meth c cc w cl aty WS stt sx sc y.cls nL n0 z0 nE zE) (hd : xv_dec cc pc (.isub)) (ha : xv_act sc cp lg (.isub, r, q) pc L st h = some x) (hG : xv_G p l e R s m args below meth c Q w cl rk lg nL n0 z0 x) : xv_G p l e R s m args below meth c Q w cl rk lg nL n0 z0 (pc, L, st, h) := by
  simp only [xv_act] at ha
  obtain ⟨a, b, t, rfl, ha1⟩ := xv_i2_inv ha
  cases xv_nx_inv ha1
  exact xs_isub hC (hd.at rfl) hG
theorem xd_imul (hC : xv_Cx p R s m args meth c cc w cl aty WS stt sx sc y.cls nL n0 z0 nE zE) (hd : xv_dec cc pc (.imul)) (ha : xv_act sc cp lg (.imul, r, q) pc L st h = some x) (hG : xv_G p l e R s m args below meth c Q w cl rk lg nL n0 z0 x) : xv_G p l e R s m args below meth c Q w cl rk lg nL n0 z0 (pc, L, st, h) := by
  simp only [xv_act] at ha
  obtain ⟨a, b, t, rfl, ha1⟩ := xv_i2_inv ha
  cases xv_nx_inv ha1
  exact xs_imul hC (hd.at rfl) hG
theorem xd_iand (hC : xv_Cx p R s m args meth c cc w cl aty WS stt sx sc y.cls nL n0 z0 nE zE) (hd : xv_dec cc pc (.iand)) (ha : xv_act sc cp lg (.iand, r, q) pc L st h = some x) (hG : xv_G p l e R s m args below meth c Q w cl rk lg nL n0 z0 x) : xv_G p l e R s m args below meth c Q w cl rk lg nL n0 z0 (pc, L, st, h) := by
  simp only [xv_act] at ha
  obtain ⟨a, b, t, rfl, ha1⟩ := xv_i2_inv ha
  cases xv_nx_inv ha1
  exact xs_iand hC (hd.at rfl) hG
theorem xd_ior (hC : xv_Cx p R s m args meth c cc w cl aty WS stt sx sc y.cls nL n0 z0 nE zE) (hd : xv_dec cc pc (.ior)) (ha : xv_act sc cp lg (.ior, r, q) pc L st h = some x) (hG : xv_G p l e R s m args below meth c Q w cl rk lg nL n0 z0 x) : xv_G p l e R s m args below meth c Q w cl rk lg nL n0 z0 (pc, L, st, h) := by
  simp only [xv_act] at ha
  obtain ⟨a, b, t, rfl, ha1⟩ := xv_i2_inv ha
  cases xv_nx_inv ha1
  exact xs_ior hC (hd.at rfl) hG
theorem xd_ishl (hC : xv_Cx p R s m args meth c cc w cl aty WS stt sx sc y.cls nL n0 z0 nE zE) (hd : xv_dec cc pc (.ishl)) (ha : xv_act sc cp lg (.ishl, r, q) pc L st h = some x) (hG : xv_G p l e R s m args below meth c Q w cl rk lg nL n0 z0 x) : xv_G p l e R s m args below meth c Q w cl rk lg nL n0 z0 (pc, L, st, h) := by
  simp only [xv_act] at ha
  obtain ⟨a, b, t, rfl, ha1⟩ := xv_i2_inv ha
  cases xv_nx_inv ha1
  exact xs_ishl hC (hd.at rfl) hG
theorem xd_ishr (hC : xv_Cx p R s m args meth c cc w cl aty WS stt sx sc y.cls nL n0 z0 nE zE) (hd : xv_dec cc pc (.ishr)) (ha : xv_act sc cp lg (.ishr, r, q) pc L st h = some x) (hG : xv_G p l e R s m args below meth c Q w cl rk lg nL n0 z0 x) : xv_G p l e R s m args below meth c Q w cl rk lg nL n0 z0 (pc, L, st, h) := by
  simp only [xv_act] at ha
  obtain ⟨a, b, t, rfl, ha1⟩ := xv_i2_inv ha
  cases xv_nx_inv ha1
  exact xs_ishr hC (hd.at rfl) hG
theorem xd_idiv (hC : xv_Cx p R s m args meth c cc w cl aty WS stt sx sc y.cls nL n0 z0 nE zE) (hd : xv_dec cc pc (.idiv)) (ha : xv_act sc cp lg (.idiv, r, q) pc L st h = some x) (hG : xv_G p l e R s m args below meth c Q w cl rk lg nL n0 z0 x) : xv_G p l e R s m args below meth c Q w cl rk lg nL n0 z0 (pc, L, st, h) := by
  simp only [xv_act] at ha
  obtain ⟨a, b, t, rfl, ha1⟩ := xv_i2_inv ha
  split at ha1
  · cases ha1
  · rename_i hb
    cases xv_nx_inv ha1
    exact xs_idiv hC (hd.at rfl) hb hG
theorem xd_irem (hC : xv_Cx p R s m args meth c cc w cl aty WS stt sx sc y.cls nL n0 z0 nE zE) (hd : xv_dec cc pc (.irem)) (ha : xv_act sc cp lg (.irem, r, q) pc L st h = some x) (hG : xv_G p l e R s m args below meth c Q w cl rk lg nL n0 z0 x) : xv_G p l e R s m args below meth c Q w cl rk lg nL n0 z0 (pc, L, st, h) := by
  simp only [xv_act] at ha
  obtain ⟨a, b, t, rfl, ha1⟩ := xv_i2_inv ha
  split at ha1
  · cases ha1
  · rename_i hb
    cases xv_nx_inv ha1
    exact xs_irem hC (hd.at rfl) hb hG
theorem xd_ladd (hC : xv_Cx p R s m args meth c cc w cl aty WS stt sx sc y.cls nL n0 z0 nE zE) (hd : xv_dec cc pc (.ladd)) (ha : xv_act sc cp lg (.ladd, r, q) pc L st h = some x) (hG : xv_G p l e R s m args below meth c Q w cl rk lg nL n0 z0 x) : xv_G p l e R s m args below meth c Q w cl rk lg nL n0 z0 (pc, L, st, h) := by
  simp only [xv_act] at ha
  obtain ⟨a, b, t, rfl, ha1⟩ := xv_l2_inv ha
  cases xv_nx_inv ha1
  exact xs_ladd hC (hd.at rfl) hG
theorem xd_lmul (hC : xv_Cx p R s m args meth c cc w cl aty WS stt sx sc y.cls nL n0 z0 nE zE) (hd : xv_dec cc pc (.lmul)) (ha : xv_act sc cp lg (.lmul, r, q) pc L st h = some x) (hG : xv_G p l e R s m args below meth c Q w cl rk lg nL n0 z0 x) : xv_G p l e R s m args below meth c Q w cl rk lg nL n0 z0 (pc, L, st, h) := by
  simp only [xv_act] at ha
  obtain ⟨a, b, t, rfl, ha1⟩ := xv_l2_inv ha
  cases xv_nx_inv ha1
  exact xs_lmul hC (hd.at rfl) hG
theorem xd_land (hC : xv_Cx p R s m args meth c cc w cl aty WS stt sx sc y.cls nL n0 z0 nE zE) (hd : xv_dec cc pc (.land)) (ha : xv_act sc cp lg (.land, r, q) pc L st h = some x) (hG : xv_G p l e R s m args below meth c Q w cl rk lg nL n0 z0 x) : xv_G p l e R s m args below meth c Q w cl rk lg nL n0 z0 (pc, L, st, h) := by
  simp only [xv_act] at ha
  obtain ⟨a, b, t, rfl, ha1⟩ := xv_l2_inv ha
  cases xv_nx_inv ha1
  exact xs_land hC (hd.at rfl) hG
theorem xd_lor (hC : xv_Cx p R s m args meth c cc w cl aty WS stt sx sc y.cls nL n0 z0 nE zE) (hd : xv_dec cc pc (.lor)) (ha : xv_act sc cp lg (.lor, r, q) pc L st h = some x) (hG : xv_G p l e R s m args below meth c Q w cl rk lg nL n0 z0 x) : xv_G p l e R s m args below meth c Q w cl rk lg nL n0 z0 (pc, L, st, h) := by
  simp only [xv_act] at ha
  obtain ⟨a, b, t, rfl, ha1⟩ := xv_l2_inv ha
  cases xv_nx_inv ha1
  exact xs_lor hC (hd.at rfl) hG
theorem xd_lxor (hC : xv_Cx p R s m args meth c cc w cl aty WS stt sx sc y.cls nL n0 z0 nE zE) (hd : xv_dec cc pc (.lxor)) (ha : xv_act sc cp lg (.lxor, r, q) pc L st h = some x) (hG : xv_G p l e R s m args below meth c Q w cl rk lg nL n0 z0 x) : xv_G p l e R s m args below meth c Q w cl rk lg nL n0 z0 (pc, L, st, h) := by
  simp only [xv_act] at ha
  obtain ⟨a, b, t, rfl, ha1⟩ := xv_l2_inv ha
  cases xv_nx_inv ha1
  exact xs_lxor hC (hd.at rfl) hG
theorem xd_lshl (hC : xv_Cx p R s m args meth c cc w cl aty WS stt sx sc y.cls nL n0 z0 nE zE) (hd : xv_dec cc pc (.lshl)) (ha : xv_act sc cp lg (.lshl, r, q) pc L st h = some x) (hG : xv_G p l e R s m args below meth c Q w cl rk lg nL n0 z0 x) : xv_G p l e R s m args below meth c Q w cl rk lg nL n0 z0 (pc, L, st, h) := by
  simp only [xv_act] at ha
  obtain ⟨a, b, t, rfl, ha1⟩ := xv_li_inv ha
  cases xv_nx_inv ha1
  exact xs_lshl hC (hd.at rfl) hG
theorem xd_lshr (hC : xv_Cx p R s m args meth c cc w cl aty WS stt sx sc y.cls nL n0 z0 nE zE) (hd : xv_dec cc pc (.lshr)) (ha : xv_act sc cp lg (.lshr, r, q) pc L st h = some x) (hG : xv_G p l e R s m args below meth c Q w cl rk lg nL n0 z0 x) : xv_G p l e R s m args below meth c Q w cl rk lg nL n0 z0 (pc, L, st, h) := by
  simp only [xv_act] at ha
  obtain ⟨a, b, t, rfl, ha1⟩ := xv_li_inv ha
  cases xv_nx_inv ha1
  exact xs_lshr hC (hd.at rfl) hG
theorem xd_i2l (hC : xv_Cx p R s m args meth c cc w cl aty WS stt sx sc y.cls nL n0 z0 nE zE) (hd : xv_dec cc pc (.i2l)) (ha : xv_act sc cp lg (.i2l, r, q) pc L st h = some x) (hG : xv_G p l e R s m args below meth c Q w cl rk lg nL n0 z0 x) : xv_G p l e R s m args below meth c Q w cl rk lg nL n0 z0 (pc, L, st, h) := by
  simp only [xv_act] at ha
  obtain ⟨a, t, rfl, ha1⟩ := xv_i1_inv ha
  cases xv_nx_inv ha1
  exact xs_i2l hC (hd.at rfl) hG
theorem xd_i2b (hC : xv_Cx p R s m args meth c cc w cl aty WS stt sx sc y.cls nL n0 z0 nE zE) (hd : xv_dec cc pc (.i2b)) (ha : xv_act sc cp lg (.i2b, r, q) pc L st h = some x) (hG : xv_G p l e R s m args below meth c Q w cl rk lg nL n0 z0 x) : xv_G p l e R s m args below meth c Q w cl rk lg nL n0 z0 (pc, L, st, h) := by
  simp only [xv_act] at ha
  obtain ⟨a, t, rfl, ha1⟩ := xv_i1_inv ha
  cases xv_nx_inv ha1
  exact xs_i2b hC (hd.at rfl) hG
theorem xd_l2i (hC : xv_Cx p R s m args meth c cc w cl aty WS stt sx sc y.cls nL n0 z0 nE zE) (hd : xv_dec cc pc (.l2i)) (ha : xv_act sc cp lg (.l2i, r, q) pc L st h = some x) (hG : xv_G p l e R s m args below meth c Q w cl rk lg nL n0 z0 x) : xv_G p l e R s m args below meth c Q w cl rk lg nL n0 z0 (pc, L, st, h) := by
  simp only [xv_act] at ha
  obtain ⟨a, t, rfl, ha1⟩ := xv_l1_inv ha
  cases xv_nx_inv ha1
  exact xs_l2i hC (hd.at rfl) hG
theorem xd_pop (hC : xv_Cx p R s m args meth c cc w cl aty WS stt sx sc y.cls nL n0 z0 nE zE) (hd : xv_dec cc pc (.pop)) (ha : xv_act sc cp lg (.pop, r, q) pc L st h = some x) (hG : xv_G p l e R s m args below meth c Q w cl rk lg nL n0 z0 x) : xv_G p l e R s m args below meth c Q w cl rk lg nL n0 z0 (pc, L, st, h) := by
  simp only [xv_act] at ha
  obtain ⟨a, t, rfl, h1, ha1⟩ := xv_v1_inv ha
  cases xv_nx_inv ha1
  exact xs_pop hC (hd.at rfl) h1 hG
theorem xd_dup (hC : xv_Cx p R s m args meth c cc w cl aty WS stt sx sc y.cls nL n0 z0 nE zE) (hd : xv_dec cc pc (.dup)) (ha : xv_act sc cp lg (.dup, r, q) pc L st h = some x) (hG : xv_G p l e R s m args below meth c Q w cl rk lg nL n0 z0 x) : xv_G p l e R s m args below meth c Q w cl rk lg nL n0 z0 (pc, L, st, h) := by
  simp only [xv_act] at ha
  obtain ⟨a, t, rfl, h1, ha1⟩ := xv_v1_inv ha
  cases xv_nx_inv ha1
  exact xs_dup hC (hd.at rfl) h1 hG
theorem xd_dup_x1 (hC : xv_Cx p R s m args meth c cc w cl aty WS stt sx sc y.cls nL n0 z0 nE zE) (hd : xv_dec cc pc (.dup_x1)) (ha : xv_act sc cp lg (.dup_x1, r, q) pc L st h = some x) (hG : xv_G p l e R s m args below meth c Q w cl rk lg nL n0 z0 x) : xv_G p l e R s m args below meth c Q w cl rk lg nL n0 z0 (pc, L, st, h) := by
  simp only [xv_act] at ha
  obtain ⟨a, t, rfl, h1, ha1⟩ := xv_v1_inv ha
  obtain ⟨b, t, rfl, h2, ha2⟩ := xv_v1_inv ha1
  cases xv_nx_inv ha2
  exact xs_dup_x1 hC (hd.at rfl) h1 h2 hG
theorem xd_dup2 (hC : xv_Cx p R s m args meth c cc w cl aty WS stt sx sc y.cls nL n0 z0 nE zE) (hd : xv_dec cc pc (.dup2)) (ha : xv_act sc cp lg (.dup2, r, q) pc L st h = some x) (hG : xv_G p l e R s m args below meth c Q w cl rk lg nL n0 z0 x) : xv_G p l e R s m args below meth c Q w cl rk lg nL n0 z0 (pc, L, st, h) := by
  simp only [xv_act] at ha
  obtain ⟨a, t, rfl, h1, ha1⟩ := xv_v1_inv ha
  obtain ⟨b, t, rfl, h2, ha2⟩ := xv_v1_inv ha1
  cases xv_nx_inv ha2
  exact xs_dup2 hC (hd.at rfl) h1 h2 hG
theorem xd_dup_x2 (hC : xv_Cx p R s m args meth c cc w cl aty WS stt sx sc y.cls nL n0 z0 nE zE) (hd : xv_dec cc pc (.dup_x2)) (ha : xv_act sc cp lg (.dup_x2, r, q) pc L st h = some x) (hG : xv_G p l e R s m args below meth c Q w cl rk lg nL n0 z0 x) : xv_G p l e R s m args below meth c Q w cl rk lg nL n0 z0 (pc, L, st, h) := by
  simp only [xv_act] at ha
  obtain ⟨a, t, rfl, h1, ha1⟩ := xv_v1_inv ha
  obtain ⟨b, t, rfl, h2, ha2⟩ := xv_v1_inv ha1
  obtain ⟨d, t, rfl, h3, ha3⟩ := xv_v1_inv ha2
  cases xv_nx_inv ha3
  exact xs_dup_x2 hC (hd.at rfl) h1 h2 h3 hG
theorem xd_iload {i : Nat} (hC : xv_Cx p R s m args meth c cc w cl aty WS stt sx sc y.cls nL n0 z0 nE zE) (hd : xv_dec cc pc (.iload i)) (ha : xv_act sc cp lg (.iload i, r, q) pc L st h = some x) (hG : xv_G p l e R s m args below meth c Q w cl rk lg nL n0 z0 x) : xv_G p l e R s m args below meth c Q w cl rk lg nL n0 z0 (pc, L, st, h) := by
  simp only [xv_act] at ha
  obtain ⟨a, h1, ha1⟩ := xv_iload_inv ha
  cases xv_nx_inv ha1
  exact xs_iload hC (hd.at rfl) h1 hG
theorem xd_iload_n {i : Fin 4} (hC : xv_Cx p R s m args meth c cc w cl aty WS stt sx sc y.cls nL n0 z0 nE zE) (hd : xv_dec cc pc (.iload_n i)) (ha : xv_act sc cp lg (.iload_n i, r, q) pc L st h = some x) (hG : xv_G p l e R s m args below meth c Q w cl rk lg nL n0 z0 x) : xv_G p l e R s m args below meth c Q w cl rk lg nL n0 z0 (pc, L, st, h) := by
  simp only [xv_act] at ha
  obtain ⟨a, h1, ha1⟩ := xv_iload_inv ha
  cases xv_nx_inv ha1
  exact xs_iload_n hC (hd.at rfl) h1 hG
theorem xd_lload {i : Nat} (hC : xv_Cx p R s m args meth c cc w cl aty WS stt sx sc y.cls nL n0 z0 nE zE) (hd : xv_dec cc pc (.lload i)) (ha : xv_act sc cp lg (.lload i, r, q) pc L st h = some x) (hG : xv_G p l e R s m args below meth c Q w cl rk lg nL n0 z0 x) : xv_G p l e R s m args below meth c Q w cl rk lg nL n0 z0 (pc, L, st, h) := by
  simp only [xv_act] at ha
  obtain ⟨a, h1, ha1⟩ := xv_lload_inv ha
  cases xv_nx_inv ha1
  exact xs_lload hC (hd.at rfl) h1 hG
theorem xd_lload_n {i : Fin 4} (hC : xv_Cx p R s m args meth c cc w cl aty WS stt sx sc y.cls nL n0 z0 nE zE) (hd : xv_dec cc pc (.lload_n i)) (ha : xv_act sc cp lg (.lload_n i, r, q) pc L st h = some x) (hG : xv_G p l e R s m args below meth c Q w cl rk lg nL n0 z0 x) : xv_G p l e R s m args below meth c Q w cl rk lg nL n0 z0 (pc, L, st, h) := by
  simp only [xv_act] at ha
  obtain ⟨a, h1, ha1⟩ := xv_lload_inv ha
  cases xv_nx_inv ha1
  exact xs_lload_n hC (hd.at rfl) h1 hG
theorem xd_aload {i : Nat} (hC : xv_Cx p R s m args meth c cc w cl aty WS stt sx sc y.cls nL n0 z0 nE zE) (hd : xv_dec cc pc (.aload i)) (ha : xv_act sc cp lg (.aload i, r, q) pc L st h = some x) (hG : xv_G p l e R s m args below meth c Q w cl rk lg nL n0 z0 x) : xv_G p l e R s m args below meth c Q w cl rk lg nL n0 z0 (pc, L, st, h) := by
  simp only [xv_act] at ha
  rcases xv_aload_inv ha with ⟨a, h1, ha1⟩ | ⟨h1, ha1⟩
  · cases xv_nx_inv ha1
    exact xs_aload hC (hd.at rfl) h1 hG
  · cases xv_nx_inv ha1
    exact xs_aloadN hC (hd.at rfl) h1 hG
theorem xd_aload_n {i : Fin 4} (hC : xv_Cx p R s m args meth c cc w cl aty WS stt sx sc y.cls nL n0 z0 nE zE) (hd : xv_dec cc pc (.aload_n i)) (ha : xv_act sc cp lg (.aload_n i, r, q) pc L st h = some x) (hG : xv_G p l e R s m args below meth c Q w cl rk lg nL n0 z0 x) : xv_G p l e R s m args below meth c Q w cl rk lg nL n0 z0 (pc, L, st, h) := by
  simp only [xv_act] at ha
  rcases xv_aload_inv ha with ⟨a, h1, ha1⟩ | ⟨h1, ha1⟩
  · cases xv_nx_inv ha1
    exact xs_aload_n hC (hd.at rfl) h1 hG
  · cases xv_nx_inv ha1
    exact xs_aload_nN hC (hd.at rfl) h1 hG
theorem xd_istore {i : Nat} (hC : xv_Cx p R s m args meth c cc w cl aty WS stt sx sc y.cls nL n0 z0 nE zE) (hd : xv_dec cc pc (.istore i)) (ha : xv_act sc cp lg (.istore i, r, q) pc L st h = some x) (hG : xv_G p l e R s m args below meth c Q w cl rk lg nL n0 z0 x) : xv_G p l e R s m args below meth c Q w cl rk lg nL n0 z0 (pc, L, st, h) := by
  simp only [xv_act] at ha
  obtain ⟨a, t, rfl, ha1⟩ := xv_i1_inv ha
  obtain ⟨h1, h2, ha2⟩ := xv_st1_inv ha1
  cases xv_nx_inv ha2
  exact xs_istore hC (hd.at rfl) h1 h2 hG
theorem xd_istore_n {i : Fin 4} (hC : xv_Cx p R s m args meth c cc w cl aty WS stt sx sc y.cls nL n0 z0 nE zE) (hd : xv_dec cc pc (.istore_n i)) (ha : xv_act sc cp lg (.istore_n i, r, q) pc L st h = some x) (hG : xv_G p l e R s m args below meth c Q w cl rk lg nL n0 z0 x) : xv_G p l e R s m args below meth c Q w cl rk lg nL n0 z0 (pc, L, st, h) := by
  simp only [xv_act] at ha
  obtain ⟨a, t, rfl, ha1⟩ := xv_i1_inv ha
  obtain ⟨h1, h2, ha2⟩ := xv_st1_inv ha1
  cases xv_nx_inv ha2
  exact xs_istore_n hC (hd.at rfl) h1 h2 hG
theorem xd_lstore {i : Nat} (hC : xv_Cx p R s m args meth c cc w cl aty WS stt sx sc y.cls nL n0 z0 nE zE) (hd : xv_dec cc pc (.lstore i)) (ha : xv_act sc cp lg (.lstore i, r, q) pc L st h = some x) (hG : xv_G p l e R s m args below meth c Q w cl rk lg nL n0 z0 x) : xv_G p l e R s m args below meth c Q w cl rk lg nL n0 z0 (pc, L, st, h) := by
  simp only [xv_act] at ha
  obtain ⟨a, t, rfl, ha1⟩ := xv_l1_inv ha
  obtain ⟨h1, h2, h3, ha2⟩ := xv_st2_inv ha1
  cases xv_nx_inv ha2
  exact xs_lstore hC (hd.at rfl) h1 h2 h3 hG
theorem xd_lstore_n {i : Fin 4} (hC : xv_Cx p R s m args meth c cc w cl aty WS stt sx sc y.cls nL n0 z0 nE zE) (hd : xv_dec cc pc (.lstore_n i)) (ha : xv_act sc cp lg (.lstore_n i, r, q) pc L st h = some x) (hG : xv_G p l e R s m args below meth c Q w cl rk lg nL n0 z0 x) : xv_G p l e R s m args below meth c Q w cl rk lg nL n0 z0 (pc, L, st, h) := by
  simp only [xv_act] at ha
  obtain ⟨a, t, rfl, ha1⟩ := xv_l1_inv ha
  obtain ⟨h1, h2, h3, ha2⟩ := xv_st2_inv ha1
  cases xv_nx_inv ha2
  exact xs_lstore_n hC (hd.at rfl) h1 h2 h3 hG
theorem xd_astore {i : Nat} (hC : xv_Cx p R s m args meth c cc w cl aty WS stt sx sc y.cls nL n0 z0 nE zE) (hd : xv_dec cc pc (.astore i)) (ha : xv_act sc cp lg (.astore i, r, q) pc L st h = some x) (hG : xv_G p l e R s m args below meth c Q w cl rk lg nL n0 z0 x) : xv_G p l e R s m args below meth c Q w cl rk lg nL n0 z0 (pc, L, st, h) := by
  simp only [xv_act] at ha
  obtain ⟨a, t, rfl, ha1⟩ := xv_q1_inv ha
  obtain ⟨h1, h2, ha2⟩ := xv_st1_inv ha1
  cases xv_nx_inv ha2
  cases a with
  | none => exact xs_astoreN hC (hd.at rfl) h1 h2 hG
  | some a => exact xs_astore hC (hd.at rfl) h1 h2 hG
theorem xd_astore_n {i : Fin 4} (hC : xv_Cx p R s m args meth c cc w cl aty WS stt sx sc y.cls nL n0 z0 nE zE) (hd : xv_dec cc pc (.astore_n i)) (ha : xv_act sc cp lg (.astore_n i, r, q) pc L st h = some x) (hG : xv_G p l e R s m args below meth c Q w cl rk lg nL n0 z0 x) : xv_G p l e R s m args below meth c Q w cl rk lg nL n0 z0 (pc, L, st, h) := by
  simp only [xv_act] at ha
  obtain ⟨a, t, rfl, ha1⟩ := xv_q1_inv ha
  obtain ⟨h1, h2, ha2⟩ := xv_st1_inv ha1
  cases xv_nx_inv ha2
  cases a with
  | none => exact xs_astore_nN hC (hd.at rfl) h1 h2 hG
  | some a => exact xs_astore_n hC (hd.at rfl) h1 h2 hG
theorem xd_iinc {i : Nat} {n : Int} (hC : xv_Cx p R s m args meth c cc w cl aty WS stt sx sc y.cls nL n0 z0 nE zE) (hd : xv_dec cc pc (.iinc i n)) (ha : xv_act sc cp lg (.iinc i n, r, q) pc L st h = some x) (hG : xv_G p l e R s m args below meth c Q w cl rk lg nL n0 z0 x) : xv_G p l e R s m args below meth c Q w cl rk lg nL n0 z0 (pc, L, st, h) := by
  simp only [xv_act] at ha
  obtain ⟨a, h0, ha1⟩ := xv_iload_inv ha
  obtain ⟨h1, h2, ha2⟩ := xv_st1_inv ha1
  cases xv_nx_inv ha2
  exact xs_iinc hC (hd.at rfl) h0 h1 h2 hG
theorem xd_goto {off : Int} (hC : xv_Cx p R s m args meth c cc w cl aty WS stt sx sc y.cls nL n0 z0 nE zE) (hd : xv_dec cc pc (.goto off)) (ha : xv_act sc cp lg (.goto off, r, q) pc L st h = some x) (hG : xv_G p l e R s m args below meth c Q w cl rk lg nL n0 z0 x) : xv_G p l e R s m args below meth c Q w cl rk lg nL n0 z0 (pc, L, st, h) := by
  simp only [xv_act] at ha
  obtain ⟨t, h1, rfl⟩ := xv_jmp_inv ha
  exact xs_goto hC (hd.at rfl) h1 hG
theorem xd_if {o : ClassFile.Cond} {off : Int} (hC : xv_Cx p R s m args meth c cc w cl aty WS stt sx sc y.cls nL n0 z0 nE zE) (hd : xv_dec cc pc (.ifCond o off)) (hj : 0 ≤ (pc : Int) + off) (ha : xv_act sc cp lg (.ifCond o off, r, q) pc L st h = some x) (hG : xv_G p l e R s m args below meth c Q w cl rk lg nL n0 z0 x) : xv_G p l e R s m args below meth c Q w cl rk lg nL n0 z0 (pc, L, st, h) := by
  simp only [xv_act] at ha
  obtain ⟨a, t, rfl, ha1⟩ := xv_i1_inv ha
  obtain ⟨tg, ht⟩ := Int.eq_ofNat_of_zero_le hj
  rcases xv_if_inv ha1 with ⟨hc, t', h1, rfl⟩ | ⟨hc, rfl⟩
  · have e : t' = tg := Int.ofNat.inj (h1.symm.trans ht)
    subst e
    cases o <;> simp only [xv_cnd, decide_eq_true_eq] at hc
    · exact xs_if_eq hC (hd.at rfl) ht (fun _ => hG) (fun z => absurd hc z)
    · exact xs_if_ne hC (hd.at rfl) ht (fun _ => hG) (fun z => absurd hc z)
    · exact xs_if_lt hC (hd.at rfl) ht (fun _ => hG) (fun z => absurd hc z)
    · exact xs_if_ge hC (hd.at rfl) ht (fun _ => hG) (fun z => absurd hc z)
    · exact xs_if_gt hC (hd.at rfl) ht (fun _ => hG) (fun z => absurd hc z)
    · exact xs_if_le hC (hd.at rfl) ht (fun _ => hG) (fun z => absurd hc z)
  · cases o <;> simp only [xv_cnd, decide_eq_false_iff_not] at hc
    · exact xs_if_eq hC (hd.at rfl) ht (fun z => absurd z hc) (fun _ => hG)
    · exact xs_if_ne hC (hd.at rfl) ht (fun z => absurd z hc) (fun _ => hG)
    · exact xs_if_lt hC (hd.at rfl) ht (fun z => absurd z hc) (fun _ => hG)
    · exact xs_if_ge hC (hd.at rfl) ht (fun z => absurd z hc) (fun _ => hG)
    · exact xs_if_gt hC (hd.at rfl) ht (fun z => absurd z hc) (fun _ => hG)
    · exact xs_if_le hC (hd.at rfl) ht (fun z => absurd z hc) (fun _ => hG)
theorem xd_icmp {o : ClassFile.Cond} {off : Int} (hC : xv_Cx p R s m args meth c cc w cl aty WS stt sx sc y.cls nL n0 z0 nE zE) (hd : xv_dec cc pc (.if_icmp o off)) (hj : 0 ≤ (pc : Int) + off) (ha : xv_act sc cp lg (.if_icmp o off, r, q) pc L st h = some x) (hG : xv_G p l e R s m args below meth c Q w cl rk lg nL n0 z0 x) : xv_G p l e R s m args below meth c Q w cl rk lg nL n0 z0 (pc, L, st, h) := by
  simp only [xv_act] at ha
  obtain ⟨a, b, t, rfl, ha1⟩ := xv_i2_inv ha
  obtain ⟨tg, ht⟩ := Int.eq_ofNat_of_zero_le hj
  rcases xv_if_inv ha1 with ⟨hc, t', h1, rfl⟩ | ⟨hc, rfl⟩
  · have e : t' = tg := Int.ofNat.inj (h1.symm.trans ht)
    subst e
    cases o <;> simp only [xv_cnd, decide_eq_true_eq] at hc
    · exact xs_icmp_eq hC (hd.at rfl) ht (fun _ => hG) (fun z => absurd hc z)
    · exact xs_icmp_ne hC (hd.at rfl) ht (fun _ => hG) (fun z => absurd hc z)
    · exact xs_icmp_lt hC (hd.at rfl) ht (fun _ => hG) (fun z => absurd hc z)
    · exact xs_icmp_ge hC (hd.at rfl) ht (fun _ => hG) (fun z => absurd hc z)
    · exact xs_icmp_gt hC (hd.at rfl) ht (fun _ => hG) (fun z => absurd hc z)
    · exact xs_icmp_le hC (hd.at rfl) ht (fun _ => hG) (fun z => absurd hc z)
  · cases o <;> simp only [xv_cnd, decide_eq_false_iff_not] at hc
    · exact xs_icmp_eq hC (hd.at rfl) ht (fun z => absurd z hc) (fun _ => hG)
    · exact xs_icmp_ne hC (hd.at rfl) ht (fun z => absurd z hc) (fun _ => hG)
    · exact xs_icmp_lt hC (hd.at rfl) ht (fun z => absurd z hc) (fun _ => hG)
    · exact xs_icmp_ge hC (hd.at rfl) ht (fun z => absurd z hc) (fun _ => hG)
    · exact xs_icmp_gt hC (hd.at rfl) ht (fun z => absurd z hc) (fun _ => hG)
    · exact xs_icmp_le hC (hd.at rfl) ht (fun z => absurd z hc) (fun _ => hG)
theorem xd_acmp {o : ClassFile.ACond} {off : Int} (hC : xv_Cx p R s m args meth c cc w cl aty WS stt sx sc y.cls nL n0 z0 nE zE) (hd : xv_dec cc pc (.if_acmp o off)) (hI : ∀ a b, xv_cmp a b → xv_al w a = xv_al w b → a = b) (hj : 0 ≤ (pc : Int) + off) (ha : xv_act sc cp lg (.if_acmp o off, r, q) pc L st h = some x) (hG : xv_G p l e R s m args below meth c Q w cl rk lg nL n0 z0 x) : xv_G p l e R s m args below meth c Q w cl rk lg nL n0 z0 (pc, L, st, h) := by
  simp only [xv_act] at ha
  obtain ⟨b, t, rfl, ha1⟩ := xv_q1_inv ha
  obtain ⟨a, t, rfl, ha2⟩ := xv_q1_inv ha1
  obtain ⟨tg, ht⟩ := Int.eq_ofNat_of_zero_le hj
  split at ha2
  · rename_i hok
    rcases xv_if_inv ha2 with ⟨hc, t', h1, rfl⟩ | ⟨hc, rfl⟩
    · have e : t' = tg := Int.ofNat.inj (h1.symm.trans ht)
      subst e
      cases o <;> simp only [decide_eq_true_eq] at hc
      · exact xs_acmp_eq hI hok hC (hd.at rfl) ht (fun _ => hG) (fun z => absurd hc z)
      · exact xs_acmp_ne hI hok hC (hd.at rfl) ht (fun _ => hG) (fun z => absurd hc z)
    · cases o <;> simp only [decide_eq_false_iff_not] at hc
      · exact xs_acmp_eq hI hok hC (hd.at rfl) ht (fun z => absurd z hc) (fun _ => hG)
      · exact xs_acmp_ne hI hok hC (hd.at rfl) ht (fun z => absurd z hc) (fun _ => hG)
  · cases ha2
theorem xd_ifnull {off : Int} (hC : xv_Cx p R s m args meth c cc w cl aty WS stt sx sc y.cls nL n0 z0 nE zE) (hd : xv_dec cc pc (.ifnull off)) (hj : 0 ≤ (pc : Int) + off) (ha : xv_act sc cp lg (.ifnull off, r, q) pc L st h = some x) (hG : xv_G p l e R s m args below meth c Q w cl rk lg nL n0 z0 x) : xv_G p l e R s m args below meth c Q w cl rk lg nL n0 z0 (pc, L, st, h) := by
  simp only [xv_act] at ha
  obtain ⟨a, t, rfl, ha1⟩ := xv_q1_inv ha
  obtain ⟨tg, ht⟩ := Int.eq_ofNat_of_zero_le hj
  rcases xv_if_inv ha1 with ⟨hc, t', h1, rfl⟩ | ⟨hc, rfl⟩
  · have e : t' = tg := Int.ofNat.inj (h1.symm.trans ht)
    subst e
    simp only [decide_eq_true_eq] at hc
    exact xs_ifnull hC (hd.at rfl) ht (fun _ => hG) (fun z => absurd hc z)
  · simp only [decide_eq_false_iff_not] at hc
    exact xs_ifnull hC (hd.at rfl) ht (fun z => absurd z hc) (fun _ => hG)
theorem xd_ifnonnull {off : Int} (hC : xv_Cx p R s m args meth c cc w cl aty WS stt sx sc y.cls nL n0 z0 nE zE) (hd : xv_dec cc pc (.ifnonnull off)) (hj : 0 ≤ (pc : Int) + off) (ha : xv_act sc cp lg (.ifnonnull off, r, q) pc L st h = some x) (hG : xv_G p l e R s m args below meth c Q w cl rk lg nL n0 z0 x) : xv_G p l e R s m args below meth c Q w cl rk lg nL n0 z0 (pc, L, st, h) := by
  simp only [xv_act] at ha
  obtain ⟨a, t, rfl, ha1⟩ := xv_q1_inv ha
  obtain ⟨tg, ht⟩ := Int.eq_ofNat_of_zero_le hj
  rcases xv_if_inv ha1 with ⟨hc, t', h1, rfl⟩ | ⟨hc, rfl⟩
  · have e : t' = tg := Int.ofNat.inj (h1.symm.trans ht)
    subst e
    simp only [decide_eq_true_eq] at hc
    exact xs_ifnonnull hC (hd.at rfl) ht (fun _ => hG) (fun z => absurd hc z)
  · simp only [decide_eq_false_iff_not] at hc
    exact xs_ifnonnull hC (hd.at rfl) ht (fun z => absurd z hc) (fun _ => hG)
theorem xd_table {dflt lo hi : Int} {offs : Array Int} (hC : xv_Cx p R s m args meth c cc w cl aty WS stt sx sc y.cls nL n0 z0 nE zE) (hd : xv_dec cc pc (.tableswitch dflt lo hi offs)) (ha : xv_act sc cp lg (.tableswitch dflt lo hi offs, r, q) pc L st h = some x) (hG : xv_G p l e R s m args below meth c Q w cl rk lg nL n0 z0 x) : xv_G p l e R s m args below meth c Q w cl rk lg nL n0 z0 (pc, L, st, h) := by
  simp only [xv_act] at ha
  obtain ⟨a, t, rfl, ha1⟩ := xv_i1_inv ha
  obtain ⟨len, hd, -⟩ := hd
  split at ha1
  · rename_i hx
    obtain ⟨t', h1, rfl⟩ := xv_jmp_inv ha1
    exact xs_tabOut hC hd hx h1 hG
  · rename_i hx
    split at ha1
    · rename_i off ho
      obtain ⟨t', h1, rfl⟩ := xv_jmp_inv ha1
      exact xs_tabIn hC hd hx ho h1 hG
    · cases ha1
end XD
end
section
/-! The instructions that reach cells. -/
section XE
variable {p : Program} {l : Launch} {e : Env} {R : Room} {s : State} {m : MethodId} {args : Array Value} {below : List Frame} {meth : Method} {c : Code} {Q : State → Prop} {cc : ByteArray} {w : xv_W} {cl : List vw_C} {rk : Nat → Bool} {aty : List FieldType} {WS : List Jvm.Cond} {stt : List (String × String × String)} {sx : xv_X} {sc : Nat × (Nat → Int32)} {nL n0 z0 nE zE : Nat} {lg : List Nat} {pc : Nat} {L : xv_L} {st : List Value} {n z : Nat} {tg ln : Nat → Nat} {fr er : Nat → Nat → Option Nat} {fi ei : Nat → Nat → Int32} {el : Nat → Nat → Int64} {tyf : Nat → Nat → FieldType} {cp : Nat → Nat} {y : MethodName} {r q : Nat} {x : xv_N}
theorem xe_ldc {i : Nat} (hC : xv_Cx p R s m args meth c cc w cl aty WS stt sx sc y.cls nL n0 z0 nE zE) (hd : xv_dec cc pc (.ldc i)) (hT : xv_okC cl tyf rk aty WS) (hok : xv_okI sx cl tyf rk aty cp WS stt y pc (.ldc i, r, q)) (hE : x.2.2.2.1 ≤ nE) (hZ : x.2.2.2.2.1 ≤ zE) (ha : xv_act sc cp lg (.ldc i, r, q) pc L st (n, z, tg, ln, fr, er, fi, ei, el) = some x) (hG : xv_G p l e R s m args below meth c Q w cl rk lg nL n0 z0 x) : xv_G p l e R s m args below meth c Q w cl rk lg nL n0 z0 (pc, L, st, (n, z, tg, ln, fr, er, fi, ei, el)) := by
  rcases hok with ⟨h0, h1⟩ | ⟨h0, h1⟩
  · simp only at h0
    simp only [xv_act, h0, if_true] at ha
    cases xv_nx_inv ha
    exact fun ls H locs hl hR hS g1 g2 => lv_ldc hC.1.1 hC.1.2.1 hC.1.2.2.2.1 (hC.1.2.2.2.2 _ h1) (hd.at rfl) (hG ls H locs hl hR hS g1 g2)
  · simp only at h0
    simp only [xv_act, h0, if_true] at ha
    rw [if_neg (by decide)] at ha
    cases xv_nx_inv ha
    exact xs_ldcM hC (hd.at rfl) h1 hG
theorem xe_ldc2 {i : Nat} (hC : xv_Cx p R s m args meth c cc w cl aty WS stt sx sc y.cls nL n0 z0 nE zE) (hd : xv_dec cc pc (.ldc2_w i)) (hT : xv_okC cl tyf rk aty WS) (hok : xv_okI sx cl tyf rk aty cp WS stt y pc (.ldc2_w i, r, q)) (hE : x.2.2.2.1 ≤ nE) (hZ : x.2.2.2.2.1 ≤ zE) (ha : xv_act sc cp lg (.ldc2_w i, r, q) pc L st (n, z, tg, ln, fr, er, fi, ei, el) = some x) (hG : xv_G p l e R s m args below meth c Q w cl rk lg nL n0 z0 x) : xv_G p l e R s m args below meth c Q w cl rk lg nL n0 z0 (pc, L, st, (n, z, tg, ln, fr, er, fi, ei, el)) := by
  simp only [xv_act] at ha
  cases xv_nx_inv ha
  exact fun ls H locs hl hR hS g1 g2 => lv_ldc2 hC.1.1 hC.1.2.1 hC.1.2.2.2.1 (hC.1.2.2.2.2 _ hok) (hd.at rfl) (hG ls H locs hl hR hS g1 g2)
theorem xe_getf {i : Nat} (hC : xv_Cx p R s m args meth c cc w cl aty WS stt sx sc y.cls nL n0 z0 nE zE) (hd : xv_dec cc pc (.getfield i)) (hT : xv_okC cl tyf rk aty WS) (hok : xv_okI sx cl tyf rk aty cp WS stt y pc (.getfield i, r, q)) (hE : x.2.2.2.1 ≤ nE) (hZ : x.2.2.2.2.1 ≤ zE) (ha : xv_act sc cp lg (.getfield i, r, q) pc L st (n, z, tg, ln, fr, er, fi, ei, el) = some x) (hG : xv_G p l e R s m args below meth c Q w cl rk lg nL n0 z0 x) : xv_G p l e R s m args below meth c Q w cl rk lg nL n0 z0 (pc, L, st, (n, z, tg, ln, fr, er, fi, ei, el)) := by
  simp only [xv_act] at ha
  obtain ⟨ci, k, q0, ref, h1, h2, h3, h4, h5, h6, h7, h8⟩ := hok
  simp only at h1 h8
  subst h1
  obtain ⟨a, t, rfl, ha1⟩ := xv_r1_inv ha
  have e : (100 * ci + k) / 100 = ci := by omega
  simp only [e] at ha1
  split at ha1
  · rename_i hc
    cases xv_nx_inv ha1
    refine xs_getf hC (hd.at rfl) h4 (hT.1 ci q0 h4).1 h3 h5 h6 h7 hE hc.1 hc.2 ?_
    rw [h8]
    by_cases hq : q = 1
    · rw [if_pos hq] at hG
      rw [if_pos (by simpa using hq)]; exact hG
    · rw [if_neg hq] at hG
      rw [if_neg (by simpa using hq)]; exact hG
  · cases ha1
theorem xe_putf {i : Nat} (hC : xv_Cx p R s m args meth c cc w cl aty WS stt sx sc y.cls nL n0 z0 nE zE) (hd : xv_dec cc pc (.putfield i)) (hT : xv_okC cl tyf rk aty WS) (hok : xv_okI sx cl tyf rk aty cp WS stt y pc (.putfield i, r, q)) (hmn : y.name = "<init>" → meth.name = "<init>") (hE : x.2.2.2.1 ≤ nE) (hZ : x.2.2.2.2.1 ≤ zE) (ha : xv_act sc cp lg (.putfield i, r, q) pc L st (n, z, tg, ln, fr, er, fi, ei, el) = some x) (hG : xv_G p l e R s m args below meth c Q w cl rk lg nL n0 z0 x) : xv_G p l e R s m args below meth c Q w cl rk lg nL n0 z0 (pc, L, st, (n, z, tg, ln, fr, er, fi, ei, el)) := by
  obtain ⟨ci, k, q0, ref, h1, h2, h3, h4, h5, h6, h7, h8, h9, h10, h11, h12⟩ := hok
  simp only at h1 h8 h10 h11 h12
  subst h1
  obtain ⟨hw, hty, hnm, -⟩ := hT.1 ci q0 h4
  have e : (100 * ci + k) / 100 = ci := by omega
  have hfin : (q0.2.1 k).2.2.2 = false ∨ ((q0.2.1 k).2.2.2 = true ∧ meth.name = "<init>" ∧ (q0.2.1 k).1 = y.cls) := by
    rcases h9 with h9 | ⟨a1, a2, a3⟩
    · exact Or.inl h9
    · exact Or.inr ⟨a1, hmn a2, a3⟩
  simp only [xv_act] at ha
  by_cases hq : q = 1
  · rw [if_pos hq] at ha
    obtain ⟨o, t, rfl, ha1⟩ := xv_q1_inv ha
    obtain ⟨a, t, rfl, ha2⟩ := xv_r1_inv ha1
    simp only [e] at ha2
    split at ha2
    · rename_i hc
      cases xv_nx_inv ha2
      have hrk : rk (100 * ci + k) = true := by rw [h8]; simpa using hq
      have hre : narrow (tyf ci k) (xv_cv (xv_al w) (va_rf o)) = xv_cv (xv_al w) (va_rf o) ∧ fits (tyf ci k) (xv_cv (xv_al w) (va_rf o)) = true := by
        rcases h10 hq with ⟨C, hC⟩ | ⟨t, hC⟩ <;> rw [hC] <;> cases o <;> exact ⟨rfl, rfl⟩
      refine xs_putf (ty0 := tyf ci) (h' := (n, z, tg, ln, xv_up fr (100 * ci + k) a o, er, fi, ei, el)) hC (hd.at rfl) h4 hw h3 h5 h6 h7 hty hnm hfin hre.1 hre.2 hE hc.1 hc.2 rfl rfl rfl rfl ?_ (fun g b hne => ?_) (fun _ _ _ => rfl) hG
      · simp only [xv_fv, hrk, if_true, xv_up_eq]
      · simp only [xv_fv, xv_up_ne hne]
    · cases ha2
  · rw [if_neg hq] at ha
    obtain ⟨v, t, rfl, ha3⟩ := xv_i1_inv ha
    obtain ⟨a, t, rfl, ha4⟩ := xv_r1_inv ha3
    simp only [e] at ha4
    split at ha4
    · rename_i hc
      cases xv_nx_inv ha4
      have hrk : ¬ rk (100 * ci + k) = true := by rw [h8]; simpa using hq
      have hre : narrow (tyf ci k) (.int v) = .int v ∧ fits (tyf ci k) (.int v) = true := by
        rcases hc.2 with d | ⟨d, d1 | d1⟩
        · rw [h11 d]; exact ⟨rfl, rfl⟩
        · rw [h12 d, d1]; exact ⟨by decide, by decide⟩
        · rw [h12 d, d1]; exact ⟨by decide, by decide⟩
      refine xs_putf (ty0 := tyf ci) (v0 := .int v) (h' := (n, z, tg, ln, fr, er, xv_up fi (100 * ci + k) a v, ei, el)) hC (hd.at rfl) h4 hw h3 h5 h6 h7 hty hnm hfin hre.1 hre.2 hE hc.1.1 hc.1.2 rfl rfl rfl rfl ?_ (fun g b hne => ?_) (fun _ _ _ => rfl) hG
      · simp only [xv_fv, if_neg hrk, xv_up_eq]; rfl
      · simp only [xv_fv, xv_up_ne hne]
    · cases ha4
theorem xe_gets {i : Nat} (hC : xv_Cx p R s m args meth c cc w cl aty WS stt sx sc y.cls nL n0 z0 nE zE) (hd : xv_dec cc pc (.getstatic i)) (hT : xv_okC cl tyf rk aty WS) (hok : xv_okI sx cl tyf rk aty cp WS stt y pc (.getstatic i, r, q)) (hE : x.2.2.2.1 ≤ nE) (hZ : x.2.2.2.2.1 ≤ zE) (ha : xv_act sc cp lg (.getstatic i, r, q) pc L st (n, z, tg, ln, fr, er, fi, ei, el) = some x) (hG : xv_G p l e R s m args below meth c Q w cl rk lg nL n0 z0 x) : xv_G p l e R s m args below meth c Q w cl rk lg nL n0 z0 (pc, L, st, (n, z, tg, ln, fr, er, fi, ei, el)) := by
  simp only [xv_act] at ha
  obtain ⟨q0, ref, k, h0, h1, h2, h3⟩ := hok
  simp only at h0
  subst h0
  cases xv_nx_inv ha
  exact xs_gets hC (hd.at rfl) h1 h2 h3 hG
theorem xe_iald (hC : xv_Cx p R s m args meth c cc w cl aty WS stt sx sc y.cls nL n0 z0 nE zE) (hd : xv_dec cc pc (.iaload)) (hT : xv_okC cl tyf rk aty WS) (hok : xv_okI sx cl tyf rk aty cp WS stt y pc (.iaload, r, q)) (hE : x.2.2.2.1 ≤ nE) (hZ : x.2.2.2.2.1 ≤ zE) (ha : xv_act sc cp lg (.iaload, r, q) pc L st (n, z, tg, ln, fr, er, fi, ei, el) = some x) (hG : xv_G p l e R s m args below meth c Q w cl rk lg nL n0 z0 x) : xv_G p l e R s m args below meth c Q w cl rk lg nL n0 z0 (pc, L, st, (n, z, tg, ln, fr, er, fi, ei, el)) := by
  simp only [xv_act] at ha
  obtain ⟨i, t, rfl, ha1⟩ := xv_i1_inv ha
  obtain ⟨a, t, rfl, ha2⟩ := xv_r1_inv ha1
  split at ha2
  · rename_i ha0
    subst ha0
    split at ha2
    · rename_i hc
      cases xv_nx_inv ha2
      exact xs_sald hC (hd.at rfl) hc.1 hc.2 hG
    · cases ha2
  · obtain ⟨h1, h2, h3, ha3⟩ := xv_in_inv ha2
    split at ha3
    · rename_i hc
      cases xv_nx_inv ha3
      exact xs_iald hC (hd.at rfl) hT.2.1 hE h1 h2 h3 hc hG
    · cases ha3
theorem xe_bald (hC : xv_Cx p R s m args meth c cc w cl aty WS stt sx sc y.cls nL n0 z0 nE zE) (hd : xv_dec cc pc (.baload)) (hT : xv_okC cl tyf rk aty WS) (hok : xv_okI sx cl tyf rk aty cp WS stt y pc (.baload, r, q)) (hE : x.2.2.2.1 ≤ nE) (hZ : x.2.2.2.2.1 ≤ zE) (ha : xv_act sc cp lg (.baload, r, q) pc L st (n, z, tg, ln, fr, er, fi, ei, el) = some x) (hG : xv_G p l e R s m args below meth c Q w cl rk lg nL n0 z0 x) : xv_G p l e R s m args below meth c Q w cl rk lg nL n0 z0 (pc, L, st, (n, z, tg, ln, fr, er, fi, ei, el)) := by
  simp only [xv_act] at ha
  obtain ⟨i, t, rfl, ha1⟩ := xv_i1_inv ha
  obtain ⟨a, t, rfl, ha2⟩ := xv_r1_inv ha1
  obtain ⟨h1, h2, h3, ha3⟩ := xv_in_inv ha2
  split at ha3
  · rename_i hc
    cases xv_nx_inv ha3
    rcases hc with hc | hc
    · exact xs_bald hC (hd.at rfl) hT.2.2.1 hE h1 h2 h3 hc hG
    · exact xs_zald hC (hd.at rfl) hT.2.2.2.1 hE h1 h2 h3 hc hG
  · cases ha3
theorem xe_lald (hC : xv_Cx p R s m args meth c cc w cl aty WS stt sx sc y.cls nL n0 z0 nE zE) (hd : xv_dec cc pc (.laload)) (hT : xv_okC cl tyf rk aty WS) (hok : xv_okI sx cl tyf rk aty cp WS stt y pc (.laload, r, q)) (hE : x.2.2.2.1 ≤ nE) (hZ : x.2.2.2.2.1 ≤ zE) (ha : xv_act sc cp lg (.laload, r, q) pc L st (n, z, tg, ln, fr, er, fi, ei, el) = some x) (hG : xv_G p l e R s m args below meth c Q w cl rk lg nL n0 z0 x) : xv_G p l e R s m args below meth c Q w cl rk lg nL n0 z0 (pc, L, st, (n, z, tg, ln, fr, er, fi, ei, el)) := by
  simp only [xv_act] at ha
  obtain ⟨i, t, rfl, ha1⟩ := xv_i1_inv ha
  obtain ⟨a, t, rfl, ha2⟩ := xv_r1_inv ha1
  obtain ⟨h1, h2, h3, ha3⟩ := xv_in_inv ha2
  split at ha3
  · rename_i hc
    cases xv_nx_inv ha3
    exact xs_lald hC (hd.at rfl) hT.2.2.2.2 hE h1 h2 h3 hc hG
  · cases ha3
theorem xe_aald (hC : xv_Cx p R s m args meth c cc w cl aty WS stt sx sc y.cls nL n0 z0 nE zE) (hd : xv_dec cc pc (.aaload)) (hT : xv_okC cl tyf rk aty WS) (hok : xv_okI sx cl tyf rk aty cp WS stt y pc (.aaload, r, q)) (hE : x.2.2.2.1 ≤ nE) (hZ : x.2.2.2.2.1 ≤ zE) (ha : xv_act sc cp lg (.aaload, r, q) pc L st (n, z, tg, ln, fr, er, fi, ei, el) = some x) (hG : xv_G p l e R s m args below meth c Q w cl rk lg nL n0 z0 x) : xv_G p l e R s m args below meth c Q w cl rk lg nL n0 z0 (pc, L, st, (n, z, tg, ln, fr, er, fi, ei, el)) := by
  simp only [xv_act] at ha
  obtain ⟨j, C, e1, e2, e3⟩ := hok
  simp only at e1
  subst e1
  obtain ⟨i, t, rfl, ha1⟩ := xv_i1_inv ha
  obtain ⟨a, t, rfl, ha2⟩ := xv_r1_inv ha1
  obtain ⟨h1, h2, h3, ha3⟩ := xv_in_inv ha2
  split at ha3
  · rename_i hc
    cases xv_nx_inv ha3
    exact xs_aald hC (hd.at rfl) e3 e2 hE h1 h2 h3 hc hG
  · cases ha3
theorem xe_iast (hC : xv_Cx p R s m args meth c cc w cl aty WS stt sx sc y.cls nL n0 z0 nE zE) (hd : xv_dec cc pc (.iastore)) (hT : xv_okC cl tyf rk aty WS) (hok : xv_okI sx cl tyf rk aty cp WS stt y pc (.iastore, r, q)) (hE : x.2.2.2.1 ≤ nE) (hZ : x.2.2.2.2.1 ≤ zE) (ha : xv_act sc cp lg (.iastore, r, q) pc L st (n, z, tg, ln, fr, er, fi, ei, el) = some x) (hG : xv_G p l e R s m args below meth c Q w cl rk lg nL n0 z0 x) : xv_G p l e R s m args below meth c Q w cl rk lg nL n0 z0 (pc, L, st, (n, z, tg, ln, fr, er, fi, ei, el)) := by
  simp only [xv_act] at ha
  obtain ⟨v, t, rfl, ha1⟩ := xv_i1_inv ha
  obtain ⟨i, t, rfl, ha2⟩ := xv_i1_inv ha1
  obtain ⟨a, t, rfl, ha3⟩ := xv_r1_inv ha2
  obtain ⟨h1, h2, h3, ha4⟩ := xv_in_inv ha3
  split at ha4
  · rename_i hc
    cases xv_nx_inv ha4
    exact xs_iast hC (hd.at rfl) hT.2.1 hE h1 h2 h3 hc hG
  · cases ha4
theorem xe_last (hC : xv_Cx p R s m args meth c cc w cl aty WS stt sx sc y.cls nL n0 z0 nE zE) (hd : xv_dec cc pc (.lastore)) (hT : xv_okC cl tyf rk aty WS) (hok : xv_okI sx cl tyf rk aty cp WS stt y pc (.lastore, r, q)) (hE : x.2.2.2.1 ≤ nE) (hZ : x.2.2.2.2.1 ≤ zE) (ha : xv_act sc cp lg (.lastore, r, q) pc L st (n, z, tg, ln, fr, er, fi, ei, el) = some x) (hG : xv_G p l e R s m args below meth c Q w cl rk lg nL n0 z0 x) : xv_G p l e R s m args below meth c Q w cl rk lg nL n0 z0 (pc, L, st, (n, z, tg, ln, fr, er, fi, ei, el)) := by
  simp only [xv_act] at ha
  obtain ⟨v, t, rfl, ha1⟩ := xv_l1_inv ha
  obtain ⟨i, t, rfl, ha2⟩ := xv_i1_inv ha1
  obtain ⟨a, t, rfl, ha3⟩ := xv_r1_inv ha2
  obtain ⟨h1, h2, h3, ha4⟩ := xv_in_inv ha3
  split at ha4
  · rename_i hc
    cases xv_nx_inv ha4
    exact xs_last hC (hd.at rfl) hT.2.2.2.2 hE h1 h2 h3 hc hG
  · cases ha4
theorem xe_bast (hC : xv_Cx p R s m args meth c cc w cl aty WS stt sx sc y.cls nL n0 z0 nE zE) (hd : xv_dec cc pc (.bastore)) (hT : xv_okC cl tyf rk aty WS) (hok : xv_okI sx cl tyf rk aty cp WS stt y pc (.bastore, r, q)) (hE : x.2.2.2.1 ≤ nE) (hZ : x.2.2.2.2.1 ≤ zE) (ha : xv_act sc cp lg (.bastore, r, q) pc L st (n, z, tg, ln, fr, er, fi, ei, el) = some x) (hG : xv_G p l e R s m args below meth c Q w cl rk lg nL n0 z0 x) : xv_G p l e R s m args below meth c Q w cl rk lg nL n0 z0 (pc, L, st, (n, z, tg, ln, fr, er, fi, ei, el)) := by
  simp only [xv_act] at ha
  obtain ⟨v, t, rfl, ha1⟩ := xv_i1_inv ha
  obtain ⟨i, t, rfl, ha2⟩ := xv_i1_inv ha1
  obtain ⟨a, t, rfl, ha3⟩ := xv_r1_inv ha2
  obtain ⟨h1, h2, h3, ha4⟩ := xv_in_inv ha3
  split at ha4
  · rename_i hc
    cases xv_nx_inv ha4
    exact xs_bast hC (hd.at rfl) hT.2.2.1 hE h1 h2 h3 hc hG
  · split at ha4
    · rename_i hc
      cases xv_nx_inv ha4
      exact xs_zast hC (hd.at rfl) hT.2.2.2.1 hE h1 h2 h3 hc.1 hc.2 hG
    · cases ha4
theorem xe_aast (hC : xv_Cx p R s m args meth c cc w cl aty WS stt sx sc y.cls nL n0 z0 nE zE) (hd : xv_dec cc pc (.aastore)) (hT : xv_okC cl tyf rk aty WS) (hok : xv_okI sx cl tyf rk aty cp WS stt y pc (.aastore, r, q)) (hE : x.2.2.2.1 ≤ nE) (hZ : x.2.2.2.2.1 ≤ zE) (ha : xv_act sc cp lg (.aastore, r, q) pc L st (n, z, tg, ln, fr, er, fi, ei, el) = some x) (hG : xv_G p l e R s m args below meth c Q w cl rk lg nL n0 z0 x) : xv_G p l e R s m args below meth c Q w cl rk lg nL n0 z0 (pc, L, st, (n, z, tg, ln, fr, er, fi, ei, el)) := by
  simp only [xv_act] at ha
  obtain ⟨j, C, q0, e1, e2, e3, e4, e5, e6⟩ := hok
  simp only at e1 e4 e5
  subst e1
  obtain ⟨o, t, rfl, ha1⟩ := xv_q1_inv ha
  obtain ⟨i, t, rfl, ha2⟩ := xv_i1_inv ha1
  obtain ⟨a, t, rfl, ha3⟩ := xv_r1_inv ha2
  obtain ⟨h1, h2, h3, ha4⟩ := xv_in_inv ha3
  split at ha4
  · rename_i hc
    cases xv_nx_inv ha4
    cases o with
    | none => exact xs_aastN hC (hd.at rfl) e3 e2 hE h1 h2 h3 hc.1 hG
    | some b =>
      have hb := hc.2
      simp only [xv_ok, decide_eq_true_eq] at hb
      have hc1 : tg a = 100 + j := hc.1
      rw [hc1] at hb
      exact xs_aast hC (hd.at rfl) e3 e2 e4 e5 e6 hE h1 h2 h3 hc.1 hb.1 hb.2 hG
  · cases ha4
theorem xe_alen (hC : xv_Cx p R s m args meth c cc w cl aty WS stt sx sc y.cls nL n0 z0 nE zE) (hd : xv_dec cc pc (.arraylength)) (hT : xv_okC cl tyf rk aty WS) (hok : xv_okI sx cl tyf rk aty cp WS stt y pc (.arraylength, r, q)) (hE : x.2.2.2.1 ≤ nE) (hZ : x.2.2.2.2.1 ≤ zE) (ha : xv_act sc cp lg (.arraylength, r, q) pc L st (n, z, tg, ln, fr, er, fi, ei, el) = some x) (hG : xv_G p l e R s m args below meth c Q w cl rk lg nL n0 z0 x) : xv_G p l e R s m args below meth c Q w cl rk lg nL n0 z0 (pc, L, st, (n, z, tg, ln, fr, er, fi, ei, el)) := by
  simp only [xv_act] at ha
  obtain ⟨j, ty, e1, e2⟩ := hok
  simp only at e1
  subst e1
  obtain ⟨a, t, rfl, ha1⟩ := xv_r1_inv ha
  split at ha1
  · rename_i ha0
    subst ha0
    cases xv_nx_inv ha1
    exact xs_slen hC (hd.at rfl) hG
  · split at ha1
    · rename_i hc
      obtain ⟨rfl, -⟩ := hc
      cases xv_nx_inv ha1
      exact xs_elen hC (hd.at rfl) hG
    · split at ha1
      · rename_i hc
        cases xv_nx_inv ha1
        exact xs_alen hC (hd.at rfl) e2 hE hc.1 hc.2 hG
      · cases ha1
theorem xe_new {i : Nat} (hC : xv_Cx p R s m args meth c cc w cl aty WS stt sx sc y.cls nL n0 z0 nE zE) (hd : xv_dec cc pc (.new i)) (hT : xv_okC cl tyf rk aty WS) (hok : xv_okI sx cl tyf rk aty cp WS stt y pc (.new i, r, q)) (hE : x.2.2.2.1 ≤ nE) (hZ : x.2.2.2.2.1 ≤ zE) (ha : xv_act sc cp lg (.new i, r, q) pc L st (n, z, tg, ln, fr, er, fi, ei, el) = some x) (hG : xv_G p l e R s m args below meth c Q w cl rk lg nL n0 z0 x) : xv_G p l e R s m args below meth c Q w cl rk lg nL n0 z0 (pc, L, st, (n, z, tg, ln, fr, er, fi, ei, el)) := by
  simp only [xv_act] at ha
  obtain ⟨q0, h1, h2, h3, h4, h5, h6⟩ := hok
  simp only at h1 h2 h3
  subst h3
  obtain ⟨hw, hty, hnm, hdf⟩ := hT.1 r q0 h1
  cases xv_nx_inv ha
  exact xs_new (ty0 := tyf r) hC (hd.at rfl) h1 h2 hw h4 h5 h6 hty hdf hE hZ hG
theorem xe_newa {t : ClassFile.ArrayType} (hC : xv_Cx p R s m args meth c cc w cl aty WS stt sx sc y.cls nL n0 z0 nE zE) (hd : xv_dec cc pc (.newarray t)) (hT : xv_okC cl tyf rk aty WS) (hok : xv_okI sx cl tyf rk aty cp WS stt y pc (.newarray t, r, q)) (hE : x.2.2.2.1 ≤ nE) (hZ : x.2.2.2.2.1 ≤ zE) (ha : xv_act sc cp lg (.newarray t, r, q) pc L st (n, z, tg, ln, fr, er, fi, ei, el) = some x) (hG : xv_G p l e R s m args below meth c Q w cl rk lg nL n0 z0 x) : xv_G p l e R s m args below meth c Q w cl rk lg nL n0 z0 (pc, L, st, (n, z, tg, ln, fr, er, fi, ei, el)) := by
  simp only [xv_act] at ha
  obtain ⟨j, e1, e2, e3, e4⟩ := hok
  simp only at e1
  subst e1
  obtain ⟨k, t0, rfl, ha1⟩ := xv_i1_inv ha
  obtain ⟨h1, h2, ha2⟩ := xv_len_inv ha1
  cases xv_nx_inv ha2
  exact xs_newa hC (hd.at rfl) e2 e3 e4 h1 h2 hE hZ hG
theorem xe_anew {i : Nat} (hC : xv_Cx p R s m args meth c cc w cl aty WS stt sx sc y.cls nL n0 z0 nE zE) (hd : xv_dec cc pc (.anewarray i)) (hT : xv_okC cl tyf rk aty WS) (hok : xv_okI sx cl tyf rk aty cp WS stt y pc (.anewarray i, r, q)) (hE : x.2.2.2.1 ≤ nE) (hZ : x.2.2.2.2.1 ≤ zE) (ha : xv_act sc cp lg (.anewarray i, r, q) pc L st (n, z, tg, ln, fr, er, fi, ei, el) = some x) (hG : xv_G p l e R s m args below meth c Q w cl rk lg nL n0 z0 x) : xv_G p l e R s m args below meth c Q w cl rk lg nL n0 z0 (pc, L, st, (n, z, tg, ln, fr, er, fi, ei, el)) := by
  simp only [xv_act] at ha
  obtain ⟨j, C, e1, e2, e3, e4, e5⟩ := hok
  simp only at e1
  subst e1
  obtain ⟨k, t0, rfl, ha1⟩ := xv_i1_inv ha
  obtain ⟨h1, h2, ha2⟩ := xv_len_inv ha1
  cases xv_nx_inv ha2
  exact xs_anew hC (hd.at rfl) e3 e2 e4 e5 h1 h2 hE hZ hG
theorem xe_cast {i : Nat} (hC : xv_Cx p R s m args meth c cc w cl aty WS stt sx sc y.cls nL n0 z0 nE zE) (hd : xv_dec cc pc (.checkcast i)) (hT : xv_okC cl tyf rk aty WS) (hok : xv_okI sx cl tyf rk aty cp WS stt y pc (.checkcast i, r, q)) (hE : x.2.2.2.1 ≤ nE) (hZ : x.2.2.2.2.1 ≤ zE) (ha : xv_act sc cp lg (.checkcast i, r, q) pc L st (n, z, tg, ln, fr, er, fi, ei, el) = some x) (hG : xv_G p l e R s m args below meth c Q w cl rk lg nL n0 z0 x) : xv_G p l e R s m args below meth c Q w cl rk lg nL n0 z0 (pc, L, st, (n, z, tg, ln, fr, er, fi, ei, el)) := by
  simp only [xv_act] at ha
  split at ha
  · cases xv_nx_inv ha
    exact xs_castN hC (hd.at rfl) hG
  · split at ha
    · rename_i hc
      cases xv_nx_inv ha
      rcases hok with ⟨q0, e1, e2, e3⟩ | ⟨j, ty, e1, e2, e3⟩
      · exact xs_cast hC (hd.at rfl) e1 e2 e3 hE hc.1 hc.2 hG
      · simp only at e1
        subst e1
        exact xs_castA hC (hd.at rfl) e2 e3 (xv_nm (hC.2.1.2 j ty e2).2) hE hc.1 hc.2 hG
    · cases ha
  · cases ha
end XE
end
section
/-! All plain instructions; what grows; calls; the machine does what the abstract one does. -/
theorem xv_act_grows {sc : Nat × (Nat → Int32)} {cp : Nat → Nat} {lg : List Nat} {ic : xv_I} {pc : Nat} {L : xv_L} {st : List Value} {h : xv_H} {x : xv_N} (ha : xv_act sc cp lg ic pc L st h = some x) : h.1 ≤ x.2.2.2.1 ∧ h.2.1 ≤ x.2.2.2.2.1 := by
  obtain ⟨I, r, q⟩ := ic
  obtain ⟨n, z, tg, ln, fr, er, fi, ei, el⟩ := h
  cases I <;> simp only [xv_act, xv_i1, xv_i2, xv_l1, xv_l2, xv_li, xv_r1, xv_q1, xv_v1, xv_in, xv_iload, xv_lload, xv_aload, xv_st1, xv_st2, xv_len, xv_if, xv_jmp, xv_nx, xv_new1, xv_new] at ha <;> (repeat' split at ha) <;> first | (cases ha; exact ⟨Nat.le_refl _, Nat.le_refl _⟩) | (cases ha; exact ⟨Nat.le_succ _, Nat.le_add_right _ _⟩) | cases ha
section XP
variable {p : Program} {l : Launch} {e : Env} {R : Room} {s : State} {m : MethodId} {args : Array Value} {below : List Frame} {meth : Method} {c : Code} {Q : State → Prop} {cc : ByteArray} {w : xv_W} {cl : List vw_C} {rk : Nat → Bool} {aty : List FieldType} {WS : List Jvm.Cond} {stt : List (String × String × String)} {sx : xv_X} {sc : Nat × (Nat → Int32)} {nL n0 z0 nE zE : Nat} {lg : List Nat} {pc : Nat} {L : xv_L} {st : List Value} {h : xv_H} {tyf : Nat → Nat → FieldType} {cp : Nat → Nat} {y : MethodName} {ic : xv_I} {x : xv_N}
theorem xv_plain (hC : xv_Cx p R s m args meth c cc w cl aty WS stt sx sc y.cls nL n0 z0 nE zE) (hd : xv_dec cc pc ic.1) (hT : xv_okC cl tyf rk aty WS) (hok : xv_okI sx cl tyf rk aty cp WS stt y pc ic) (hmn : y.name = "<init>" → meth.name = "<init>") (hI : ∀ a b, xv_cmp a b → xv_al w a = xv_al w b → a = b) (hE : x.2.2.2.1 ≤ nE) (hZ : x.2.2.2.2.1 ≤ zE) (ha : xv_act sc cp lg ic pc L st h = some x) (hG : xv_G p l e R s m args below meth c Q w cl rk lg nL n0 z0 x) : xv_G p l e R s m args below meth c Q w cl rk lg nL n0 z0 (pc, L, st, h) := by
  obtain ⟨I, r, q⟩ := ic
  obtain ⟨n, z, tg, ln, fr, er, fi, ei, el⟩ := h
  cases I
  case aconst_null => exact xd_null hC hd ha hG
  case iconst => exact xd_iconst hC hd ha hG
  case bipush => exact xd_bipush hC hd ha hG
  case sipush => exact xd_sipush hC hd ha hG
  case lconst => exact xd_lconst hC hd ha hG
  case ldc => exact xe_ldc hC hd hT hok hE hZ ha hG
  case ldc2_w => exact xe_ldc2 hC hd hT hok hE hZ ha hG
  case iload => exact xd_iload hC hd ha hG
  case iload_n => exact xd_iload_n hC hd ha hG
  case lload => exact xd_lload hC hd ha hG
  case lload_n => exact xd_lload_n hC hd ha hG
  case aload => exact xd_aload hC hd ha hG
  case aload_n => exact xd_aload_n hC hd ha hG
  case istore => exact xd_istore hC hd ha hG
  case istore_n => exact xd_istore_n hC hd ha hG
  case lstore => exact xd_lstore hC hd ha hG
  case lstore_n => exact xd_lstore_n hC hd ha hG
  case astore => exact xd_astore hC hd ha hG
  case astore_n => exact xd_astore_n hC hd ha hG
  case iinc => exact xd_iinc hC hd ha hG
  case iadd => exact xd_iadd hC hd ha hG
  case isub => exact xd_isub hC hd ha hG
  case imul => exact xd_imul hC hd ha hG
  case iand => exact xd_iand hC hd ha hG
  case ior => exact xd_ior hC hd ha hG
  case idiv => exact xd_idiv hC hd ha hG
  case irem => exact xd_irem hC hd ha hG
  case ishl => exact xd_ishl hC hd ha hG
  case ishr => exact xd_ishr hC hd ha hG
  case ladd => exact xd_ladd hC hd ha hG
  case lmul => exact xd_lmul hC hd ha hG
  case land => exact xd_land hC hd ha hG
  case lor => exact xd_lor hC hd ha hG
  case lxor => exact xd_lxor hC hd ha hG
  case lshl => exact xd_lshl hC hd ha hG
  case lshr => exact xd_lshr hC hd ha hG
  case i2l => exact xd_i2l hC hd ha hG
  case l2i => exact xd_l2i hC hd ha hG
  case i2b => exact xd_i2b hC hd ha hG
  case pop => exact xd_pop hC hd ha hG
  case dup => exact xd_dup hC hd ha hG
  case dup_x1 => exact xd_dup_x1 hC hd ha hG
  case dup_x2 => exact xd_dup_x2 hC hd ha hG
  case dup2 => exact xd_dup2 hC hd ha hG
  case ifCond => exact xd_if hC hd hok ha hG
  case if_icmp => exact xd_icmp hC hd hok ha hG
  case if_acmp => exact xd_acmp hC hd hI hok ha hG
  case ifnull => exact xd_ifnull hC hd hok ha hG
  case ifnonnull => exact xd_ifnonnull hC hd hok ha hG
  case goto => exact xd_goto hC hd ha hG
  case tableswitch => exact xd_table hC hd ha hG
  case getfield => exact xe_getf hC hd hT hok hE hZ ha hG
  case putfield => exact xe_putf hC hd hT hok hmn hE hZ ha hG
  case getstatic => exact xe_gets hC hd hT hok hE hZ ha hG
  case iaload => exact xe_iald hC hd hT hok hE hZ ha hG
  case baload => exact xe_bald hC hd hT hok hE hZ ha hG
  case laload => exact xe_lald hC hd hT hok hE hZ ha hG
  case aaload => exact xe_aald hC hd hT hok hE hZ ha hG
  case iastore => exact xe_iast hC hd hT hok hE hZ ha hG
  case bastore => exact xe_bast hC hd hT hok hE hZ ha hG
  case lastore => exact xe_last hC hd hT hok hE hZ ha hG
  case aastore => exact xe_aast hC hd hT hok hE hZ ha hG
  case arraylength => exact xe_alen hC hd hT hok hE hZ ha hG
  case new => exact xe_new hC hd hT hok hE hZ ha hG
  case newarray => exact xe_newa hC hd hT hok hE hZ ha hG
  case anewarray => exact xe_anew hC hd hT hok hE hZ ha hG
  case checkcast => exact xe_cast hC hd hT hok hE hZ ha hG
  all_goals cases ha
end XP
end
section
/-! Calls, returns; the machine does what the abstract one does. -/
def xv_rm (k : Nat × Nat) (mc ms : Nat) : Room := { frames := k.1, cells := mc, slots := ms, locals := k.2 }
/-- returns and calls are resolved as the words say -/
def xv_okJ (yL : Nat) (sx : xv_X) (mt : List xv_M) (cl : List vw_C) (aty : List FieldType) (cp cs : Nat → Nat) (WS : List Jvm.Cond) (M : xv_M) (ic : xv_I) : Prop := match ic.1 with
  | .ireturn => (ic.2.2 = 0 → M.2.2.2.1 = some .int) ∧ (ic.2.2 = 2 → M.2.2.2.1 = some .boolean)
  | .lreturn => M.2.2.2.1 = some .long
  | .areturn => ∃ rt, M.2.2.2.1 = some rt ∧ ((∃ n, rt = .object n) ∨ ∃ t, rt = .array t)
  | .return_ => M.2.2.2.1 = none
  | .invokestatic i => if ic.2.1 = 1000 then 1 ≤ M.2.2.2.2.1 ∧ 26 ≤ M.2.2.2.2.2 ∧ Jvm.Cond.methodLink M.1.cls i arraycopyName ∈ WS ∧ Jvm.Cond.native arraycopyName ∈ WS ∧ Jvm.Cond.static arraycopyName ∈ WS ∧ Jvm.Cond.initialized "java/lang/System" ∈ WS ∧ (104 ≤ ic.2.2 → ∃ (j : Nat) (C : String) (q : vw_C), ic.2.2 = 100 + j ∧ aty[j]? = some (.object C) ∧ cl[cp ic.2.2]? = some q ∧ cp ic.2.2 < 100 ∧ (C = q.1 ∨ (q.1, C) ∈ sx.1))
      else if ic.2.1 = 1004 then 1 ≤ M.2.2.2.2.1 ∧ 26 ≤ M.2.2.2.2.2 ∧ Jvm.Cond.methodLink M.1.cls i Lib.Math.min.name ∈ WS ∧ Jvm.Cond.static Lib.Math.min.name ∈ WS ∧ Jvm.Cond.initialized "java/lang/Math" ∈ WS ∧ Jvm.Cond.code Lib.Math.min.name Lib.Math.min.code 2 (some .int) ∈ WS
      else if ic.2.1 = 1005 then 1 ≤ M.2.2.2.2.1 ∧ 26 ≤ M.2.2.2.2.2 ∧ Jvm.Cond.methodLink M.1.cls i Lib.Math.max.name ∈ WS ∧ Jvm.Cond.static Lib.Math.max.name ∈ WS ∧ Jvm.Cond.initialized "java/lang/Math" ∈ WS ∧ Jvm.Cond.code Lib.Math.max.name Lib.Math.max.code 2 (some .int) ∈ WS
      else ic.2.1 ≠ yL ∧ ∃ M' : xv_M, mt[ic.2.1]? = some M' ∧ M'.2.2.2.2.1 < M.2.2.2.2.1 ∧ 19 + M'.2.2.1 + M'.2.2.2.2.2 ≤ M.2.2.2.2.2 ∧ Jvm.Cond.methodLink M.1.cls i M'.1 ∈ WS ∧ Jvm.Cond.static M'.1 ∈ WS ∧ (parseMethodDescriptor M'.1.desc).map (fun d => d.parameters.length) = some ic.2.2
  | .invokespecial i => if ic.2.1 = 1001 then 1 ≤ M.2.2.2.2.1 ∧ 26 ≤ M.2.2.2.2.2 ∧ Jvm.Cond.methodLink M.1.cls i Lib.objectInit ∈ WS ∧ Jvm.Cond.instanceMethod Lib.objectInit ∈ WS ∧ Jvm.Cond.code Lib.objectInit ⟨#[0xb1]⟩ 1 none ∈ WS
      else ic.2.1 ≠ yL ∧ ∃ M' : xv_M, mt[ic.2.1]? = some M' ∧ M'.2.2.2.2.1 < M.2.2.2.2.1 ∧ 19 + M'.2.2.1 + M'.2.2.2.2.2 ≤ M.2.2.2.2.2 ∧ M'.2.2.2.1 = none ∧ M'.1.name = "<init>" ∧ (Jvm.Cond.methodLink M.1.cls i M'.1 ∈ WS ∨ ∃ host, (M.1.cls, i, M'.1, host) ∈ sx.2.2) ∧ Jvm.Cond.instanceMethod M'.1 ∈ WS ∧ (parseMethodDescriptor M'.1.desc).map (fun d => d.parameters.length) = some ic.2.2
  | .invokevirtual i => if ic.2.1 = 1002 then 1 ≤ M.2.2.2.2.1 ∧ 26 ≤ M.2.2.2.2.2 ∧ Jvm.Cond.methodLink M.1.cls i ⟨"[I", "clone", "()Ljava/lang/Object;"⟩ ∈ WS ∧ Jvm.Cond.sameMethod "[I" "java/lang/Object" "clone" "()Ljava/lang/Object;" ∈ WS ∧ Jvm.Cond.native ⟨"java/lang/Object", "clone", "()Ljava/lang/Object;"⟩ ∈ WS ∧ Jvm.Cond.instanceMethod ⟨"java/lang/Object", "clone", "()Ljava/lang/Object;"⟩ ∈ WS ∧ Jvm.Cond.selects "[I" ⟨"[I", "clone", "()Ljava/lang/Object;"⟩ ⟨"java/lang/Object", "clone", "()Ljava/lang/Object;"⟩ ∈ WS ∧ ("[I", "java/lang/Cloneable") ∈ sx.1
      else if ic.2.1 = 1003 then 1 ≤ M.2.2.2.2.1 ∧ 26 ≤ M.2.2.2.2.2 ∧ (∃ j, ic.2.2 = 100 + j ∧ aty[j]? = some (.object "java/lang/Object")) ∧ Jvm.Cond.methodLink M.1.cls i ⟨"java/lang/Object", "getClass", "()Ljava/lang/Class;"⟩ ∈ WS ∧ Jvm.Cond.selects "[Ljava/lang/Object;" ⟨"java/lang/Object", "getClass", "()Ljava/lang/Class;"⟩ ⟨"java/lang/Object", "getClass", "()Ljava/lang/Class;"⟩ ∈ WS ∧ Jvm.Cond.instanceMethod ⟨"java/lang/Object", "getClass", "()Ljava/lang/Class;"⟩ ∈ WS ∧ Jvm.Cond.native ⟨"java/lang/Object", "getClass", "()Ljava/lang/Class;"⟩ ∈ WS
      else ic.2.1 ≠ yL ∧ ∃ (M' : xv_M) (q : vw_C), mt[ic.2.1]? = some M' ∧ M'.2.2.2.2.1 < M.2.2.2.2.1 ∧ 19 + M'.2.2.1 + M'.2.2.2.2.2 ≤ M.2.2.2.2.2 ∧ cl[cs ic.2.1]? = some q ∧ cs ic.2.1 < 100 ∧ q.1 = M'.1.cls ∧ Jvm.Cond.methodLink M.1.cls i M'.1 ∈ WS ∧ Jvm.Cond.instanceMethod M'.1 ∈ WS ∧ Jvm.Cond.selects M'.1.cls M'.1 M'.1 ∈ WS ∧ (parseMethodDescriptor M'.1.desc).map (fun d => d.parameters.length) = some ic.2.2
  | _ => True
def xv_Tab (yL : Nat) (sx : xv_X) (mt : List xv_M) (cl : List vw_C) (tyf : Nat → Nat → FieldType) (rk : Nat → Bool) (aty : List FieldType) (cp cs : Nat → Nat) (WS : List Jvm.Cond) (stt : List (String × String × String)) (cd : Nat → Nat → Option xv_I) (mx : Nat → Nat) : Prop :=
  xv_okC cl tyf rk aty WS ∧ (∀ x ∈ WS, (x.onTables && x.keeps) = true ∨ ∃ ty, x = .arrayClass ty) ∧
  ∀ (y : Nat) (M : xv_M), mt[y]? = some M → (y ≠ yL → plainName M.1.cls = true ∧ (M.1.cls ≠ "java/lang/invoke/MethodHandle" ∧ M.1.cls ≠ "java/lang/invoke/VarHandle") ∧ Jvm.Cond.code M.1 M.2.1 M.2.2.1 M.2.2.2.1 ∈ WS ∧ Jvm.Cond.initialized M.1.cls ∈ WS) ∧ mx y = M.2.2.1 ∧
    ∀ (pc : Nat) (ic : xv_I), cd y pc = some ic → xv_dec M.2.1 pc ic.1 ∧ xv_okI sx cl tyf rk aty cp WS stt M.1 pc ic ∧ xv_okJ yL sx mt cl aty cp cs WS M ic
/-- what the tables say, at any state of the run -/
def xv_K0 (w : xv_W) (cl : List vw_C) (aty : List FieldType) (stt : List (String × String × String)) (sx : xv_X) (sc : Nat × (Nat → Int32)) (U : State) : Prop :=
  (va_K w.2.2.2.1 cl [] U ∧ ∀ (j : Nat) (ty : FieldType), aty[j]? = some ty → ArrOfT U (w.2.2.2.2.1 j) ty ∧ va_RA U (w.2.2.2.2.1 j) ty) ∧
  (va_X (w.2.2.1 0) sc.1 sc.2 U w.2.2.2.2.2 ∧ w.2.2.1 0 < w.1 ∧ 2 < w.2.1 ∧ ∃ fv : Nat → Value, va_T (.object "java/lang/Object") (w.2.2.1 2) 0 fv (fun a => w.1 ≤ a) U w.2.2.2.2.2) ∧
  xv_E w sx U ∧ ∀ (k : Nat) (q : String × String × String), stt[k]? = some q → k + 2 < w.2.1 ∧ va_Z q.1 q.2.1 q.2.2 (.ref (w.2.2.1 (k + 2))) (fun a => w.1 ≤ a) U w.2.2.2.2.2
theorem xv_K0.moved {w : xv_W} {cl : List vw_C} {aty : List FieldType} {stt : List (String × String × String)} {sx : xv_X} {sc : Nat × (Nat → Int32)} {u U : State} (hW : u.WarmedH U.vm) (h : xv_K0 w cl aty stt sx sc u) : xv_K0 w cl aty stt sx sc U := by
  obtain ⟨⟨h1, h2⟩, ⟨h3, h4, h5, fv, h6⟩, h8, h7⟩ := h
  have hvm := hW.alike
  exact ⟨⟨va_K.moved hvm h1, fun j ty hj => ⟨arrOfT_moved hvm (h2 j ty hj).1, (h2 j ty hj).2.moved hvm⟩⟩, ⟨va_X.moved hvm h3, h4, h5, fv, h6.moved hvm⟩, h8.warm hW, fun k q hk => ⟨(h7 k q hk).1, (h7 k q hk).2.moved hvm⟩⟩
def xv_Pc (w : xv_W) (cl : List vw_C) (rk : Nat → Bool) (aty : List FieldType) (stt : List (String × String × String)) (sx : xv_X) (sc : Nat × (Nat → Int32)) (h : xv_H) (av : List Value) : Array Value → State → Prop := fun v U => v = (av.map (xv_cv (xv_al w))).toArray ∧ xv_K0 w cl aty stt sx sc U ∧ xv_R w cl rk h U.heap
def xv_Qc (w : xv_W) (cl : List vw_C) (rk : Nat → Bool) (r : Option Value) (h : xv_H) : Array Value → State → Outcome → State → Prop := fun _ _ o t => o = .returned (r.map (xv_cv (xv_al w))) ∧ xv_R w cl rk h t.heap
theorem xv_Pc_blind {w : xv_W} {cl : List vw_C} {rk : Nat → Bool} {aty : List FieldType} {stt : List (String × String × String)} {sx : xv_X} {sc : Nat × (Nat → Int32)} {h : xv_H} {av : List Value} : FrameBlind (xv_Pc w cl rk aty stt sx sc h av) := fun _ _ _ _ hp => hp
/-- what is so at a method's start -/
theorem xv_Cx_of {p : Program} {R : Room} {s : State} {m : MethodId} {args : Array Value} {meth : Method} {c : Code} {cc : ByteArray} {w : xv_W} {cl : List vw_C} {rk : Nat → Bool} {aty : List FieldType} {WS : List Jvm.Cond} {stt : List (String × String × String)} {sx : xv_X} {sc : Nat × (Nat → Int32)} {own : String} {nL n0 z0 nE zE : Nat} {h : xv_H}
    (hx : p.tables.exec = Jvm.exec) (hb : c.code = cc) (hml : c.maxLocals = nL) (hown : s.vm.findClass own = some m.cls) (hts : ∀ x ∈ WS, x.before args s = true) (hK : xv_K0 w cl aty stt sx sc s) (hR : xv_R w cl rk h s.heap) (hwo : w.1 ≤ w.2.2.2.2.2.size) (h1 : nE ≤ R.cells + n0) (h2 : zE ≤ R.slots + z0) (h3 : nE ≤ xv_SB) : xv_Cx p R s m args meth c cc w cl aty WS stt sx sc own nL n0 z0 nE zE := by
  obtain ⟨g1, ⟨g2, g3, g4, fv, g5⟩, g7, g6⟩ := hK
  have hq : ∀ a : Nat, ¬ w.1 ≤ a → s.heap[a]? = w.2.2.2.2.2[a]? := fun a ha => hR.2.1 a (by omega)
  refine ⟨⟨hx, hb, hml, hown, hts⟩, g1, ⟨h1, h2, h3, by rw [hR.1]; exact Nat.le_add_right _ _⟩, ⟨va_X.kept g2 (hq _ (by omega)), g3, g4, fv, ?_⟩, g7, fun k q hk => ⟨(g6 k q hk).1, va_Z.kept (g6 k q hk).2 (fun a _ ha => hq a ha)⟩⟩
  obtain ⟨cell, d1, d2, d3, d4, d5, d6, d7⟩ := g5
  exact ⟨cell, by rw [hq _ d7]; exact d1, d2, d3, d4, d5, d6, d7⟩
section XM
variable {p : Program} {l : Launch} {e : Env} {R : Room} {s : State} {m : MethodId} {args : Array Value} {below : List Frame} {meth : Method} {c : Code} {Q : State → Prop} {w : xv_W} {cl : List vw_C} {rk : Nat → Bool} {aty : List FieldType} {WS : List Jvm.Cond} {stt : List (String × String × String)} {sx : xv_X} {sc : Nat × (Nat → Int32)} {tyf : Nat → Nat → FieldType} {cp cs : Nat → Nat} {yL : Nat} {mt : List xv_M} {cd : Nat → Nat → Option xv_I} {lgs : Nat → List Nat} {mx : Nat → Nat}
/-- a method's walk from any point of it, if the abstract one ends -/
def xv_Sound (l : Launch) (w : xv_W) (cl : List vw_C) (rk : Nat → Bool) (aty : List FieldType) (WS : List Jvm.Cond) (stt : List (String × String × String)) (sx : xv_X) (sc : Nat × (Nat → Int32)) (cp cs : Nat → Nat) (mt : List xv_M) (cd : Nat → Nat → Option xv_I) (lgs : Nat → List Nat) (mx : Nat → Nat) (f : Nat) : Prop :=
  ∀ (y pc : Nat) (L : xv_L) (st : List Value) (h : xv_H) (r : Option Value) (h' : xv_H), xv_exec sc cd cp cs lgs mx f y pc L st h = some (r, h') → (h.1 ≤ h'.1 ∧ h.2.1 ≤ h'.2.1) ∧
    ∀ (M : xv_M), mt[y]? = some M → ∀ (p : Program) (e : Env) (R : Room) (s : State) (m : MethodId) (args : Array Value) (below : List Frame) (meth : Method) (c : Code) (Q : State → Prop) (n0 z0 : Nat),
      xv_Cx p R s m args meth c M.2.1 w cl aty WS stt sx sc M.1.cls M.2.2.1 n0 z0 h'.1 h'.2.1 → (M.1.name = "<init>" → meth.name = "<init>") → M.2.2.2.2.1 ≤ R.frames → M.2.2.2.2.2 ≤ R.locals → xv_K0 w cl aty stt sx sc s → (∀ q, q < w.1 → s.heap[q]? = w.2.2.2.2.2[q]?) →
      (∀ (pc' : Nat) (ic : xv_I) (L' : xv_L) (st' : List Value) (ls : Array Slot) (H : Heap) (locs : List Loc), cd y pc' = some ic → xv_kind ic.1 = 1 → xv_ret ic st' = some r → xv_ls (xv_al w) (lgs y) M.2.2.1 L' ls → xv_R w cl rk h' H → va_S (fun a => w.1 ≤ a) s.heap H locs → W p l e R s m args below meth c H locs (h'.1 - n0) (h'.2.1 - z0) Q (F0 m pc' ls (st'.map (xv_cv (xv_al w))))) →
      xv_G p l e R s m args below meth c Q w cl rk (lgs y) M.2.2.1 n0 z0 (pc, L, st, h)
/-- .. so its contract -/
theorem xv_met {f y : Nat} {M : xv_M} {av : List Value} {h h' : xv_H} {r : Option Value} (hS : xv_Sound l w cl rk aty WS stt sx sc cp cs mt cd lgs mx f) (hTb : xv_Tab yL sx mt cl tyf rk aty cp cs WS stt cd mx) (hwo : w.1 ≤ w.2.2.2.2.2.size) (hM : mt[y]? = some M) (hyL : y ≠ yL) (hx : xv_exec sc cd cp cs lgs mx f y 0 (xv_ent (mx y) av) [] h = some (r, h')) (hfit : xv_fit (lgs y) (mx y) 0 av = true) (hB : h'.1 ≤ xv_SB) :
    Met l M.1 (Jvm.Cond.code M.1 M.2.1 M.2.2.1 M.2.2.2.1 :: WS) (xv_rm M.2.2.2.2 (h'.1 - h.1) (h'.2.1 - h.2.1)) (xv_Pc w cl rk aty stt sx sc h av) (xv_Qc w cl rk r h') (h'.1 - h.1) (h'.2.1 - h.2.1) (fun a => w.1 ≤ a) := by
  obtain ⟨hT, hgood, hMs⟩ := hTb
  obtain ⟨tt, t5, t7⟩ := hMs y M hM
  obtain ⟨t1, t2, t3, t4⟩ := tt hyL
  obtain ⟨⟨m1, m2⟩, hs⟩ := hS y 0 _ _ h r h' hx
  refine Met.ofW (cc := M.2.1) (maxL := M.2.2.1) (ret := M.2.2.2.1) t1 rfl ?_
  intro p e s m args below meth c s₁ B hml hv
  obtain ⟨rfl, hK, hR⟩ := hv
  have hts := atoms_spec (ws := Jvm.Cond.code M.1 M.2.1 M.2.2.1 M.2.2.2.1 :: WS) B.pre
  have hown : s.vm.findClass M.1.cls = some m.cls := findClass_of_methodNamed B.named
  have hlk := B.notSynchronized
  have hmn : meth.name = M.1.name := (name_of_methodNamed B.named B.method).1
  have hC : xv_Cx p (xv_rm M.2.2.2.2 (h'.1 - h.1) (h'.2.1 - h.2.1)) s m (av.map (xv_cv (xv_al w))).toArray meth c M.2.1 w cl aty WS stt sx sc M.1.cls M.2.2.1 h.1 h.2.1 h'.1 h'.2.1 := xv_Cx_of B.exec B.bytes hml hown (fun x hx => hts x (List.mem_cons_of_mem _ hx)) hK hR hwo (by simp only [xv_rm]; omega) (by simp only [xv_rm]; omega) hB
  have hg := hs M hM p e (xv_rm M.2.2.2.2 (h'.1 - h.1) (h'.2.1 - h.2.1)) s m _ below meth c (MQ below (xv_Qc w cl rk r h') (av.map (xv_cv (xv_al w))).toArray s (h'.1 - h.1) (h'.2.1 - h.2.1) (fun a => w.1 ≤ a)) h.1 h.2.1 hC (fun h => hmn.trans h) (Nat.le_refl _) (Nat.le_refl _) hK hR.2.1 ?_
  · rw [lg_entry_eq]
    have := hg _ s.heap [] (by rw [t5]; exact xv_ls_entry (xv_al w) (t5 ▸ hfit)) hR va_S.rf (Nat.le_refl _) (Nat.le_refl _)
    simp only [Nat.sub_self, List.map_nil] at this
    exact this
  · intro pc' ic L' st' ls H locs hcd hk hr hl hR' hS'
    obtain ⟨d1, -, d3⟩ := t7 pc' ic hcd
    obtain ⟨I, q1, q2⟩ := ic
    have hq : ∀ t : State, t.heap = H → s.WarmedH t.vm → xv_Qc w cl rk r h' (av.map (xv_cv (xv_al w))).toArray s (.returned (r.map (xv_cv (xv_al w)))) t := fun t ht _ => ⟨rfl, by rw [ht]; exact hR'⟩
    cases I
    case ireturn =>
      simp only [xv_ret] at hr
      split at hr
      · split at hr
        · rename_i v hc
          cases hr
          rcases hc with hc | ⟨hc, hv | hv⟩
          · exact W.zret B.exec B.bytes (B.returns.trans (d3.1 hc)) rfl hq hS'.2.2 (d1.at rfl) hlk
          · subst hv
            exact W.zret B.exec B.bytes (B.returns.trans (d3.2 hc)) (by decide) hq hS'.2.2 (d1.at rfl) hlk
          · subst hv
            exact W.zret B.exec B.bytes (B.returns.trans (d3.2 hc)) (by decide) hq hS'.2.2 (d1.at rfl) hlk
        · cases hr
      · cases hr
    case lreturn =>
      simp only [xv_ret] at hr
      split at hr
      · cases hr
        exact W.lret B.exec B.bytes (B.returns.trans d3) hq hS'.2.2 (d1.at rfl) hlk
      · cases hr
    case areturn =>
      obtain ⟨rt, e1, e2⟩ := d3
      simp only [xv_ret] at hr
      split at hr
      · cases hr
        exact W.aret B.exec B.bytes (B.returns.trans e1) e2 (Or.inr ⟨_, rfl⟩) hq hS'.2.2 (d1.at rfl) hlk
      · cases hr
        exact W.aret B.exec B.bytes (B.returns.trans e1) e2 (Or.inl rfl) hq hS'.2.2 (d1.at rfl) hlk
      · cases hr
    case return_ =>
      simp only [xv_ret] at hr
      split at hr
      · cases hr
        exact W.vret B.exec B.bytes (B.returns.trans d3) hq hS'.2.2 (d1.at rfl) hlk
      · cases hr
    all_goals cases hr
/-- behind a call -/
theorem xv_after {H : Heap} {locs : List Loc} {cells slots mc ms pc : Nat} {ls : Array Slot} {st0 rest : List Value} {Qa : State → Outcome → State → Prop} (hr : va_Run p l e R s m args below meth c H locs cells slots mc ms (F0 m pc ls st0) rest Qa (fun a => w.1 ≤ a)) (hS : va_S (fun a => w.1 ≤ a) s.heap H locs)
    (kk : ∀ (v : Option Value) (st₀ t : State) (locs1 : List Loc), (∀ q ∈ locs1, w.1 ≤ q.base) → Qa st₀ (.returned v) t → W p l e R s m args below meth c t.heap locs1 (cells + mc) (slots + ms) Q (F0 m (pc + 3) ls (v.toList ++ rest))) : W p l e R s m args below meth c H locs cells slots Q (F0 m pc ls st0) := by
  intro T hT X
  obtain ⟨v, st₀, t, T', L, h0, X', hL, e1, e2, hq, stp⟩ := hr T hT X
  obtain ⟨t2, a1, b1⟩ := kk v st₀ t (locs ++ L) (fun q hq => by
    rcases List.mem_append.mp hq with h | h
    · exact hS.2.2 q h
    · exact hL q h) hq T' e1 X'
  exact ⟨t2, stp t2 a1, b1⟩
end XM
end
section
/-! The machine does what the abstract one does: by the number of steps. -/
section XZ
variable {p : Program} {l : Launch} {e : Env} {R : Room} {s : State} {m : MethodId} {args : Array Value} {below : List Frame} {meth : Method} {c : Code} {Q : State → Prop} {w : xv_W} {cl : List vw_C} {rk : Nat → Bool} {aty : List FieldType} {WS : List Jvm.Cond} {stt : List (String × String × String)} {sx : xv_X} {sc : Nat × (Nat → Int32)} {tyf : Nat → Nat → FieldType} {cp cs : Nat → Nat} {yL : Nat} {mt : List xv_M} {cd : Nat → Nat → Option xv_I} {lgs : Nat → List Nat} {mx : Nat → Nat} {M : xv_M} {pc : Nat} {ic : xv_I} {L : xv_L} {st : List Value} {h h' : xv_H} {n0 z0 : Nat} {lg : List Nat}
theorem xv_inv_grows {x : xv_N} (ha : xv_inv cp cs lgs mx ic pc L st h = some (.inl x)) : h.1 ≤ x.2.2.2.1 ∧ h.2.1 ≤ x.2.2.2.2.1 := by
  obtain ⟨I, r, q⟩ := ic
  obtain ⟨n, z, tg, ln, fr, er, fi, ei, el⟩ := h
  cases I <;> simp only [xv_inv, xv_r1, xv_i2, xv_call, xv_copy, xv_clone, xv_new, xv_nx, Option.map_some, Option.map_none] at ha <;> (repeat' split at ha) <;> first | (cases ha; exact ⟨Nat.le_refl _, Nat.le_refl _⟩) | (cases ha; exact ⟨Nat.le_succ _, Nat.le_add_right _ _⟩) | cases ha
/-- what the machine does itself -/
theorem xv_own {x : xv_N} (hC : xv_Cx p R s m args meth c M.2.1 w cl aty WS stt sx sc M.1.cls M.2.2.1 n0 z0 h'.1 h'.2.1) (hd : xv_dec M.2.1 pc ic.1) (hT : xv_okC cl tyf rk aty WS) (hok : xv_okJ yL sx mt cl aty cp cs WS M ic) (hRf : M.2.2.2.2.1 ≤ R.frames) (hRl : M.2.2.2.2.2 ≤ R.locals) (hE : x.2.2.2.1 ≤ h'.1) (hZ : x.2.2.2.2.1 ≤ h'.2.1) (ha : xv_inv cp cs lgs mx ic pc L st h = some (.inl x)) (hG : xv_G p l e R s m args below meth c Q w cl rk lg M.2.2.1 n0 z0 x) : xv_G p l e R s m args below meth c Q w cl rk lg M.2.2.1 n0 z0 (pc, L, st, h) := by
  obtain ⟨I, r, q⟩ := ic
  obtain ⟨n, z, tg, ln, fr, er, fi, ei, el⟩ := h
  cases I
  case invokestatic i =>
    simp only [xv_inv] at ha
    split at ha
    · rename_i hr
      simp only [xv_okJ, hr, if_true] at hok
      obtain ⟨k1, k1', k2, k3, k4, k5, k6⟩ := hok
      have hF : 1 ≤ R.frames := by omega
      have hLo : 8 + (nativeFrameWords "java/lang/System" "arraycopy" 5 + 11) ≤ R.locals := by
        have : nativeFrameWords "java/lang/System" "arraycopy" 5 = 7 := by decide
        omega
      split at ha
      · simp only [xv_copy] at ha
        split at ha
        · rename_i hc
          obtain ⟨⟨c1, c2⟩, ⟨c3, c4, c5⟩, ⟨c6, c7⟩, c8⟩ := hc
          split at ha
          · rename_i hc
            cases ha
            exact xs_copyi hC (hd.at rfl) k2 k3 k4 k5 hT.2.1 hE c1 c2 hc.1 hc.2.1 c3 c4 c5 c6 c7 c8 hF hLo hG
          · split at ha
            · rename_i hc
              cases ha
              obtain ⟨j, C, q0, e1, e2, e3, e4, e5⟩ := k6 hc.2.2.1
              refine xs_copyr hC (hd.at rfl) k2 k3 k4 k5 e2 (by have := hc.2.2.1; omega) e3 e4 e5 hE c1 c2 (by rw [← e1]; exact hc.1) (by rw [← e1]; exact hc.2.1) c3 c4 c5 c6 c7 ?_ c8 hF hLo hG
              intro i hi b' hb'
              have := hc.2.2.2 i hi
              simp only [hb', xv_ok, decide_eq_true_eq] at this
              rw [hc.2.1] at this
              exact this
            · cases ha
        · cases ha
      · cases ha
    · rename_i hr
      simp only [xv_okJ, if_neg hr] at hok
      split at ha
      · rename_i hr2
        rw [if_pos hr2] at hok
        obtain ⟨k1, k1', k2, k3, k4, k5⟩ := hok
        obtain ⟨u1, u2, t, rfl, hb1⟩ := xv_i2_inv ha
        split at hb1
        · rename_i hc
          cases hb1
          exact xs_min hC (hd.at rfl) k2 k3 k4 k5 hc (by omega) (by omega) hE hZ hG
        · cases hb1
      · rename_i hr2
        rw [if_neg hr2] at hok
        split at ha
        · rename_i hr3
          rw [if_pos hr3] at hok
          obtain ⟨k1, k1', k2, k3, k4, k5⟩ := hok
          obtain ⟨u1, u2, t, rfl, hb1⟩ := xv_i2_inv ha
          split at hb1
          · rename_i hc
            cases hb1
            exact xs_max hC (hd.at rfl) k2 k3 k4 k5 hc (by omega) (by omega) hE hZ hG
          · cases hb1
        · split at ha
          · cases ha
          · simp only [xv_call] at ha
            split at ha <;> cases ha
  case invokespecial i =>
    simp only [xv_inv] at ha
    split at ha
    · rename_i hr
      simp only [xv_okJ, hr, if_true] at hok
      obtain ⟨k1, k1', k2, k3, k4⟩ := hok
      obtain ⟨a, t, rfl, hb1⟩ := xv_r1_inv ha
      split at hb1
      · rename_i hc
        cases hb1
        exact xs_objInit hC (hd.at rfl) k2 k3 k4 hc (by omega) (by omega) hG
      · cases hb1
    · split at ha
      · cases ha
      · obtain ⟨a, t, e1, hb1⟩ := xv_r1_inv ha
        simp only [xv_call] at hb1
        split at hb1 <;> cases hb1
  case invokevirtual i =>
    simp only [xv_inv] at ha
    split at ha
    · rename_i hr
      simp only [xv_okJ, hr, if_true] at hok
      obtain ⟨k1, k1', k2, k3, k4, k5, k6, k7⟩ := hok
      obtain ⟨a, t, rfl, hb1⟩ := xv_r1_inv ha
      simp only [xv_clone] at hb1
      split at hb1
      · rename_i hc
        simp only [xv_new] at hb1
        cases hb1
        exact xs_clone hC (hd.at rfl) k2 k3 k4 k5 k6 k7 hT.2.1 hE hZ hc.1 hc.2.1 hc.2.2 (by omega) (by omega) hG
      · cases hb1
    · rename_i hr
      simp only [xv_okJ, if_neg hr] at hok
      split at ha
      · rename_i hr2
        rw [if_pos hr2] at hok
        obtain ⟨k1, k1', ⟨j, k2, k3⟩, k4, k5, k6, k7⟩ := hok
        obtain ⟨a, t, rfl, hb1⟩ := xv_r1_inv ha
        split at hb1
        · rename_i hc
          cases hb1
          exact xs_getC hC (hd.at rfl) k4 k5 k6 k7 k3 hE hc.1 (hc.2.1.trans k2) hc.2.2 (by omega) (by omega) hG
        · cases hb1
      · split at ha
        · cases ha
        · obtain ⟨a, t, e1, hb1⟩ := xv_r1_inv ha
          split at hb1
          · simp only [xv_call] at hb1
            split at hb1 <;> cases hb1
          · cases hb1
  all_goals cases ha
theorem xv_words (hgood : ∀ x ∈ WS, (x.onTables && x.keeps) = true ∨ ∃ ty, x = .arrayClass ty) (hts : ∀ x ∈ WS, x.before args s = true) {y : Jvm.Cond} (hy : y ∈ WS) : ∀ x ∈ y :: WS, ∀ (a' : Array Value) (U : State), s.WarmedH U.vm → x.before a' U = true := by
  intro x hx a' U hW
  have hx' : x ∈ WS := by
    rcases List.mem_cons.mp hx with h | h
    · rw [h]; exact hy
    · exact h
  exact word_at hW (hgood x hx') (hts x hx')
theorem xv_callB {M' : xv_M} {i q mc ms : Nat} (hgood : ∀ x ∈ WS, (x.onTables && x.keeps) = true ∨ ∃ ty, x = .arrayClass ty) (hts : ∀ x ∈ WS, x.before args s = true) (hrk : M'.2.2.2.2.1 < M.2.2.2.2.1) (hlw : 19 + M'.2.2.1 + M'.2.2.2.2.2 ≤ M.2.2.2.2.2) (hRf : M.2.2.2.2.1 ≤ R.frames) (hRl : M.2.2.2.2.2 ≤ R.locals) (h2 : Jvm.Cond.code M'.1 M'.2.1 M'.2.2.1 M'.2.2.2.1 ∈ WS) (h3 : Jvm.Cond.initialized M'.1.cls ∈ WS) (h4 : M'.1.cls ≠ "java/lang/invoke/MethodHandle" ∧ M'.1.cls ≠ "java/lang/invoke/VarHandle") (h5 : Jvm.Cond.methodLink M.1.cls i M'.1 ∈ WS) (h6 : (parseMethodDescriptor M'.1.desc).map (fun d => d.parameters.length) = some q) :
    CallB R s args M.1.cls i M'.1 M'.2.1 M'.2.2.1 M'.2.2.2.1 (Jvm.Cond.code M'.1 M'.2.1 M'.2.2.1 M'.2.2.2.1 :: WS) (xv_rm M'.2.2.2.2 mc ms) mc ms q := by
  refine ⟨rfl, rfl, by simp only [xv_rm]; omega, by simp only [xv_rm]; omega, xv_words hgood hts h2, List.mem_cons_self, hts _ h2, hts _ h3, h4, fun sig hs => ?_, hts _ h5⟩
  rw [hs] at h6
  exact (Option.some.inj h6).symm
end XZ
section XY
variable {l : Launch} {w : xv_W} {cl : List vw_C} {rk : Nat → Bool} {aty : List FieldType} {WS : List Jvm.Cond} {stt : List (String × String × String)} {sx : xv_X} {sc : Nat × (Nat → Int32)} {tyf : Nat → Nat → FieldType} {cp cs : Nat → Nat} {yL : Nat} {mt : List xv_M} {cd : Nat → Nat → Option xv_I} {lgs : Nat → List Nat} {mx : Nat → Nat}
/-- the stack at a call -/
theorem xv_stk (al : Nat → Nat) (st : List Value) (q : Nat) : st.map (xv_cv al) = (((st.take q).reverse).map (xv_cv al)).reverse ++ (st.drop q).map (xv_cv al) := by
  rw [List.map_reverse, List.reverse_reverse, ← List.map_append, List.take_append_drop]
theorem xv_sound (hTb : xv_Tab yL sx mt cl tyf rk aty cp cs WS stt cd mx) (hwo : w.1 ≤ w.2.2.2.2.2.size) (hI : ∀ a b, xv_cmp a b → xv_al w a = xv_al w b → a = b) : ∀ f : Nat, xv_Sound l w cl rk aty WS stt sx sc cp cs mt cd lgs mx f
  | 0 => fun y pc L st h r h' hx => by cases hx
  | f + 1 => by
    have ih := xv_sound hTb hwo hI f
    intro y pc L st h r h' hx
    rw [xv_exec] at hx
    cases hc : cd y pc with
    | none => rw [hc] at hx; cases hx
    | some ic =>
      simp only [hc] at hx
      split at hx
      · cases ha : xv_act sc cp (lgs y) ic pc L st h with
        | none => rw [ha] at hx; cases hx
        | some x =>
          simp only [ha] at hx
          obtain ⟨⟨m1, m2⟩, hs⟩ := ih _ _ _ _ _ _ _ hx
          obtain ⟨g1, g2⟩ := xv_act_grows ha
          refine ⟨⟨Nat.le_trans g1 m1, Nat.le_trans g2 m2⟩, fun M hM p e R s m args below meth c Q n0 z0 hC hmn hRf hRl hK hHo hRet => ?_⟩
          obtain ⟨-, -, t7⟩ := hTb.2.2 y M hM
          obtain ⟨d1, d2, d3⟩ := t7 pc ic hc
          exact xv_plain hC d1 hTb.1 d2 hmn hI m1 m2 ha (hs M hM p e R s m args below meth c Q n0 z0 hC hmn hRf hRl hK hHo hRet)
      · rename_i hk
        cases ha : xv_ret ic st with
        | none => rw [ha] at hx; cases hx
        | some r0 =>
          simp only [ha] at hx
          cases hx
          exact ⟨⟨Nat.le_refl _, Nat.le_refl _⟩, fun M hM p e R s m args below meth c Q n0 z0 hC hmn hRf hRl hK hHo hRet ls H locs hl hR hS _ _ => hRet pc ic L st ls H locs hc hk ha hl hR hS⟩
      · cases ha : xv_inv cp cs lgs mx ic pc L st h with
        | none => rw [ha] at hx; cases hx
        | some b =>
          simp only [ha] at hx
          rcases b with x | k
          · simp only at hx
            obtain ⟨⟨m1, m2⟩, hs⟩ := ih _ _ _ _ _ _ _ hx
            obtain ⟨g1, g2⟩ := xv_inv_grows ha
            refine ⟨⟨Nat.le_trans g1 m1, Nat.le_trans g2 m2⟩, fun M hM p e R s m args below meth c Q n0 z0 hC hmn hRf hRl hK hHo hRet => ?_⟩
            obtain ⟨-, -, t7⟩ := hTb.2.2 y M hM
            obtain ⟨d1, d2, d3⟩ := t7 pc ic hc
            exact xv_own hC d1 hTb.1 d3 hRf hRl m1 m2 ha (hs M hM p e R s m args below meth c Q n0 z0 hC hmn hRf hRl hK hHo hRet)
          · simp only at hx
            cases hc2 : xv_exec sc cd cp cs lgs mx f k.1 0 (xv_ent (mx k.1) k.2.1) [] h with
            | none => rw [hc2] at hx; cases hx
            | some q1 =>
              obtain ⟨r1, h1⟩ := q1
              simp only [hc2] at hx
              obtain ⟨⟨g1, g2⟩, -⟩ := ih _ _ _ _ _ _ _ hc2
              obtain ⟨⟨m1, m2⟩, hs⟩ := ih _ _ _ _ _ _ _ hx
              refine ⟨⟨Nat.le_trans g1 m1, Nat.le_trans g2 m2⟩, fun M hM p e R s m args below meth c Q n0 z0 hC hmn hRf hRl hK hHo hRet => ?_⟩
              obtain ⟨-, -, t7⟩ := hTb.2.2 y M hM
              obtain ⟨d1, d2, d3⟩ := t7 pc ic hc
              have hG := hs M hM p e R s m args below meth c Q n0 z0 hC hmn hRf hRl hK hHo hRet
              obtain ⟨⟨hex, hb, hml, hown, hts⟩, -, ⟨hr1, hr2, hr3, hr4⟩, -, hXE, -⟩ := hC
              intro ls H locs hl hR hS n1 n2
              simp only at n1 n2 hR
              show W p l e R s m args below meth c H locs (h.1 - n0) (h.2.1 - z0) Q (F0 m pc ls (st.map (xv_cv (xv_al w))))
              -- behind the call
              have back : ∀ (v : Option Value) (st₀ t : State) (locs1 : List Loc) (a : Array Value), (∀ q ∈ locs1, w.1 ≤ q.base) → xv_Qc w cl rk r1 h1 a st₀ (.returned v) t → W p l e R s m args below meth c t.heap locs1 (h.1 - n0 + (h1.1 - h.1)) (h.2.1 - z0 + (h1.2.1 - h.2.1)) Q (F0 m k.2.2.2 ls (v.toList ++ k.2.2.1.map (xv_cv (xv_al w)))) := by
                intro v st₀ t locs1 a hlo hq
                obtain ⟨hv, hR1⟩ := hq
                cases hv
                have hg := hG ls t.heap locs1 hl hR1 ⟨by rw [hR1.1]; have := hS.1; rw [hR.1] at this; omega, fun q _ h2 => by rw [hR1.2.1 q (by omega), hHo q (by omega)], hlo⟩ (by simp only; omega) (by simp only; omega)
                simp only at hg
                rw [show h1.1 - n0 = h.1 - n0 + (h1.1 - h.1) by omega, show h1.2.1 - z0 = h.2.1 - z0 + (h1.2.1 - h.2.1) by omega] at hg
                have e : (r1.toList ++ k.2.2.1).map (xv_cv (xv_al w)) = (r1.map (xv_cv (xv_al w))).toList ++ k.2.2.1.map (xv_cv (xv_al w)) := by cases r1 <;> simp
                rw [e] at hg
                exact hg
              have hpre : ∀ U : State, U.heap = H → s.WarmedH U.vm → ∀ a : List Value, a = k.2.1.map (xv_cv (xv_al w)) → xv_Pc w cl rk aty stt sx sc h k.2.1 a.toArray U := fun U hU hW a ha => ⟨by rw [ha], hK.moved hW, by rw [hU]; exact hR⟩
              obtain ⟨I, ri, qi⟩ := ic
              cases I
              case invokestatic i =>
                simp only [xv_inv] at ha
                split at ha
                · split at ha
                  · cases hcp : xv_copy cp qi (pc + 3) L h _ _ _ _ _ _ <;> rw [hcp] at ha <;> cases ha
                  · cases ha
                · rename_i hr
                  simp only [xv_okJ, if_neg hr] at d3
                  by_cases hm1 : ri = 1004
                  · rw [if_pos hm1] at ha
                    obtain ⟨u1, u2, t, rfl, hb1⟩ := xv_i2_inv ha
                    split at hb1 <;> cases hb1
                  rw [if_neg hm1] at ha d3
                  by_cases hm2 : ri = 1005
                  · rw [if_pos hm2] at ha
                    obtain ⟨u1, u2, t, rfl, hb1⟩ := xv_i2_inv ha
                    split at hb1 <;> cases hb1
                  rw [if_neg hm2] at ha d3
                  obtain ⟨eL, M', e1, e2, e2', e3, e4, e5⟩ := d3
                  split at ha
                  · cases ha
                  · rename_i hlen
                    simp only [xv_call] at ha
                    split at ha
                    · rename_i hcd
                      cases ha
                      obtain ⟨t1, t2, t3, t4⟩ := (hTb.2.2 ri M' e1).1 eL
                      have hM1 := xv_met ih hTb hwo e1 eL hc2 hcd.1 (Nat.le_trans m1 hr3)
                      have cw := xv_callB (R := R) (M := M) (mc := h1.1 - h.1) (ms := h1.2.1 - h.2.1) hTb.2.1 hts e2 e2' hRf hRl t3 t4 t2 e3 e5
                      refine xv_after (va_runS (As := ((st.take qi).reverse).map (xv_cv (xv_al w))) (rest := (st.drop qi).map (xv_cv (xv_al w))) ⟨hex, hb, hml, hown, hts⟩ hM1 ⟨cw, hts _ e4⟩ ⟨xv_Pc_blind, fun U hU hW => hpre U hU hW _ rfl⟩ rfl (by simp; omega) hl.1.1 (xv_stk _ _ _) (by rw [xv_cats]; have := xv_room_spec hcd.2; show 2 * 0 + _ ≤ 8; omega) (d1.at rfl) ⟨by omega, by omega⟩) hS ?_
                      intro v st₀ t locs1 hlo hq
                      exact back v st₀ t locs1 _ hlo hq
                    · cases ha
              case invokespecial i q1 q2 =>
                simp only [xv_inv] at ha
                split at ha
                · obtain ⟨a, t, rfl, hb1⟩ := xv_r1_inv ha
                  split at hb1 <;> cases hb1
                · rename_i hr
                  simp only [xv_okJ, if_neg hr] at d3
                  obtain ⟨eL, M', e1, e2, e2', e0, e6, e3, e4, e5⟩ := d3
                  split at ha
                  · cases ha
                  · rename_i hlen
                    obtain ⟨b, t, hst, hb1⟩ := xv_r1_inv ha
                    simp only [xv_call] at hb1
                    split at hb1
                    · rename_i hcd
                      cases hb1
                      obtain ⟨t1, t2, t3, t4⟩ := (hTb.2.2 ri M' e1).1 eL
                      have hM1 := xv_met ih hTb hwo e1 eL hc2 hcd.1 (Nat.le_trans m1 hr3)
                      obtain ⟨nm, by', ml, rt, rn⟩ := M'
                      simp only at e0
                      subst e0
                      have hpre' : PreS s H (xv_Pc w cl rk aty stt sx sc h (.ref b :: (st.take qi).reverse)) (.ref (xv_al w b) :: ((st.take qi).reverse).map (xv_cv (xv_al w))) := ⟨xv_Pc_blind, fun U hU hW => hpre U hU hW _ rfl⟩
                      have hlen' : (((st.take qi).reverse).map (xv_cv (xv_al w))).length = qi := by simp; omega
                      have hstk : (F0 m pc ls (st.map (xv_cv (xv_al w)))).stack = (((st.take qi).reverse).map (xv_cv (xv_al w))).reverse ++ .ref (xv_al w b) :: t.map (xv_cv (xv_al w)) := by
                        rw [show (F0 m pc ls (st.map (xv_cv (xv_al w)))).stack = _ from xv_stk (xv_al w) st qi, hst]; rfl
                      have hroom : 2 * (F0 m pc ls (st.map (xv_cv (xv_al w)))).monitorRoom + ((t.map (xv_cv (xv_al w))).map fun v => v.category).sum ≤ 8 := by
                        rw [xv_cats]; have := xv_room_spec hcd.2; show 2 * 0 + _ ≤ 8; omega
                      rcases e3 with e3 | ⟨host, e3⟩
                      · have cw := xv_callB (R := R) (M := M) (mc := h1.1 - h.1) (ms := h1.2.1 - h.2.1) hTb.2.1 hts e2 e2' hRf hRl t3 t4 t2 e3 e5
                        refine xv_after (va_runI ⟨hex, hb, hml, hown, hts⟩ hM1 ⟨cw, e6, hts _ e4⟩ hpre' rfl hlen' hl.1.1 hstk hroom (d1.at rfl) ⟨by omega, by omega⟩) hS ?_
                        intro v st₀ t locs1 hlo hq
                        exact back v st₀ t locs1 _ hlo hq
                      · have cw : va_CN R s args M.1.cls i nm host by' ml none (Jvm.Cond.code nm by' ml none :: WS) (xv_rm rn (h1.1 - h.1) (h1.2.1 - h.2.1)) (h1.1 - h.1) (h1.2.1 - h.2.1) qi := by
                          refine ⟨⟨rfl, rfl, by simp only [xv_rm]; simp only at e2; omega, by simp only [xv_rm]; simp only at e2'; omega, xv_words hTb.2.1 hts t3, List.mem_cons_self⟩, hts _ t3, hts _ t4, t2, fun sig hs => ?_, va_Nw.use rfl (hXE.2.2.1 _ e3)⟩
                          simp only at e5
                          rw [hs] at e5
                          exact (Option.some.inj e5).symm
                        refine xv_after (va_runIN ⟨hex, hb, hml, hown, hts⟩ hM1 ⟨cw, e6, hts _ e4⟩ hpre' rfl hlen' hl.1.1 hstk hroom (d1.at rfl) ⟨by omega, by omega⟩) hS ?_
                        intro v st₀ t locs1 hlo hq
                        exact back v st₀ t locs1 _ hlo hq
                    · cases hb1
              case invokevirtual i =>
                simp only [xv_inv] at ha
                split at ha
                · obtain ⟨a, t, rfl, hb1⟩ := xv_r1_inv ha
                  cases hcp : xv_clone (pc + 3) L h a t <;> rw [hcp] at hb1 <;> cases hb1
                · rename_i hr
                  simp only [xv_okJ, if_neg hr] at d3
                  by_cases hne : ri = 1003
                  · rw [if_pos hne] at ha
                    obtain ⟨a, t, rfl, hb1⟩ := xv_r1_inv ha
                    split at hb1 <;> cases hb1
                  rw [if_neg hne] at ha d3
                  obtain ⟨eL, M', q0, e1, e2, e2', c1, c2, c3, e3, e4, e6, e5⟩ := d3
                  split at ha
                  · cases ha
                  · rename_i hlen
                    obtain ⟨b, t, hst, hb1⟩ := xv_r1_inv ha
                    split at hb1
                    · rename_i hrec
                      simp only [xv_call] at hb1
                      split at hb1
                      · rename_i hcd
                        cases hb1
                        obtain ⟨t1, t2, t3, t4⟩ := (hTb.2.2 ri M' e1).1 eL
                        have hM1 := xv_met ih hTb hwo e1 eL hc2 hcd.1 (Nat.le_trans m1 hr3)
                        have cw := xv_callB (R := R) (M := M) (mc := h1.1 - h.1) (ms := h1.2.1 - h.2.1) hTb.2.1 hts e2 e2' hRf hRl t3 t4 t2 e3 e5
                        obtain ⟨cell, f1, f2, f3⟩ := hR.obj hrec.1 hrec.2 c2
                        have hal : xv_al w b = w.1 + b := xv_al_lt (by omega)
                        have hcls := (hK.1.1.1 _ q0 c1).2
                        refine xv_after (va_runV (C := M'.1.cls) (b := xv_al w b) (As := ((st.take qi).reverse).map (xv_cv (xv_al w))) (rest := t.map (xv_cv (xv_al w))) ⟨hex, hb, hml, hown, hts⟩ hM1 ⟨cw, hts _ e4, hts _ e6⟩ ⟨xv_Pc_blind, ⟨cell, by rw [hal]; exact f1, by rw [f2]; rfl, by rw [f3, ← c3]; exact hcls.1⟩, fun U hU hW => hpre U hU hW _ rfl⟩ rfl (by simp; omega) hl.1.1 (by rw [show (F0 m pc ls (st.map (xv_cv (xv_al w)))).stack = _ from xv_stk (xv_al w) st qi, hst]; rfl) (by rw [xv_cats]; have := xv_room_spec hcd.2; show 2 * 0 + _ ≤ 8; omega) (d1.at rfl) ⟨by omega, by omega⟩) hS ?_
                        intro v st₀ t locs1 hlo hq
                        exact back v st₀ t locs1 _ hlo hq
                      · cases hb1
                    · cases hb1
              all_goals cases ha
end XY
end
section
-- ===== PART A: goes FIRST, ahead of the names: the tables' words, and 'selects' of the private methods out of them =====
/-- a private method of a class that the tables say can be made, by its rows of tables_1 -/
def lw_okq (q : MethodName × Nat) : Prop := (q.1.cls ≠ "java/lang/invoke/MethodHandle" ∧ q.1.cls ≠ "java/lang/invoke/VarHandle") ∧ Cond.instantiable q.1.cls q.2 ∈ tables_1 ∧ Cond.privateMethod q.1 ∈ tables_1 ∧ Cond.instanceMethod q.1 ∈ tables_1
theorem lw_p0 : lw_okq (⟨"CellTree", "beginWork", "(ILCellTree$Task;III)Z"⟩, 5) := ⟨⟨by decide +kernel, by decide +kernel⟩, List.mem_of_getElem? (i := 25) (by decide +kernel), List.mem_of_getElem? (i := 278) (by decide +kernel), List.mem_of_getElem? (i := 279) (by decide +kernel)⟩
theorem lw_p1 : lw_okq (⟨"CellTree$Client", "walkFor", "(I)V"⟩, 13) := ⟨⟨by decide +kernel, by decide +kernel⟩, List.mem_of_getElem? (i := 120) (by decide +kernel), List.mem_of_getElem? (i := 303) (by decide +kernel), List.mem_of_getElem? (i := 304) (by decide +kernel)⟩
theorem lw_p2 : lw_okq (⟨"CellTree$Client", "collectLeaf", "()V"⟩, 13) := ⟨⟨by decide +kernel, by decide +kernel⟩, List.mem_of_getElem? (i := 120) (by decide +kernel), List.mem_of_getElem? (i := 313) (by decide +kernel), List.mem_of_getElem? (i := 314) (by decide +kernel)⟩
theorem lw_p3 : lw_okq (⟨"CellTree$Client", "giveUp", "()V"⟩, 13) := ⟨⟨by decide +kernel, by decide +kernel⟩, List.mem_of_getElem? (i := 120) (by decide +kernel), List.mem_of_getElem? (i := 317) (by decide +kernel), List.mem_of_getElem? (i := 318) (by decide +kernel)⟩
theorem lw_p4 : lw_okq (⟨"CellTree$Client", "endAddress", "()I"⟩, 13) := ⟨⟨by decide +kernel, by decide +kernel⟩, List.mem_of_getElem? (i := 120) (by decide +kernel), List.mem_of_getElem? (i := 321) (by decide +kernel), List.mem_of_getElem? (i := 322) (by decide +kernel)⟩
theorem lw_p5 : lw_okq (⟨"CellTree$Client", "draftCheck", "()V"⟩, 13) := ⟨⟨by decide +kernel, by decide +kernel⟩, List.mem_of_getElem? (i := 120) (by decide +kernel), List.mem_of_getElem? (i := 333) (by decide +kernel), List.mem_of_getElem? (i := 334) (by decide +kernel)⟩
theorem lw_p6 : lw_okq (⟨"CellTree$Client", "draftFor", "(LCellTree$Step;)LCellTree$Transaction;"⟩, 13) := ⟨⟨by decide +kernel, by decide +kernel⟩, List.mem_of_getElem? (i := 120) (by decide +kernel), List.mem_of_getElem? (i := 339) (by decide +kernel), List.mem_of_getElem? (i := 340) (by decide +kernel)⟩
theorem lw_p7 : lw_okq (⟨"CellTree$Client", "useLeaf", "()V"⟩, 13) := ⟨⟨by decide +kernel, by decide +kernel⟩, List.mem_of_getElem? (i := 120) (by decide +kernel), List.mem_of_getElem? (i := 405) (by decide +kernel), List.mem_of_getElem? (i := 406) (by decide +kernel)⟩
theorem lw_p8 : lw_okq (⟨"CellTree$Client", "draftChange", "(LCellTree$Content;)V"⟩, 13) := ⟨⟨by decide +kernel, by decide +kernel⟩, List.mem_of_getElem? (i := 120) (by decide +kernel), List.mem_of_getElem? (i := 445) (by decide +kernel), List.mem_of_getElem? (i := 446) (by decide +kernel)⟩
theorem lw_p9 : lw_okq (⟨"CellTree$Client", "walk", "()V"⟩, 13) := ⟨⟨by decide +kernel, by decide +kernel⟩, List.mem_of_getElem? (i := 120) (by decide +kernel), List.mem_of_getElem? (i := 460) (by decide +kernel), List.mem_of_getElem? (i := 461) (by decide +kernel)⟩
theorem lw_p10 : lw_okq (⟨"CellTree$Client", "split", "()V"⟩, 13) := ⟨⟨by decide +kernel, by decide +kernel⟩, List.mem_of_getElem? (i := 120) (by decide +kernel), List.mem_of_getElem? (i := 472) (by decide +kernel), List.mem_of_getElem? (i := 473) (by decide +kernel)⟩
theorem lw_p11 : lw_okq (⟨"CellTree$Client", "splitRoot", "()V"⟩, 13) := ⟨⟨by decide +kernel, by decide +kernel⟩, List.mem_of_getElem? (i := 120) (by decide +kernel), List.mem_of_getElem? (i := 476) (by decide +kernel), List.mem_of_getElem? (i := 477) (by decide +kernel)⟩
theorem lw_p12 : lw_okq (⟨"CellTree$Client", "newAddress", "()I"⟩, 13) := ⟨⟨by decide +kernel, by decide +kernel⟩, List.mem_of_getElem? (i := 120) (by decide +kernel), List.mem_of_getElem? (i := 480) (by decide +kernel), List.mem_of_getElem? (i := 481) (by decide +kernel)⟩
theorem lw_p13 : lw_okq (⟨"CellTree$Content", "cut", "()I"⟩, 5) := ⟨⟨by decide +kernel, by decide +kernel⟩, List.mem_of_getElem? (i := 33) (by decide +kernel), List.mem_of_getElem? (i := 512) (by decide +kernel), List.mem_of_getElem? (i := 513) (by decide +kernel)⟩
theorem lw_p14 : lw_okq (⟨"CellTree$Client", "splitBelow", "(ILCellTree$Cell;)V"⟩, 13) := ⟨⟨by decide +kernel, by decide +kernel⟩, List.mem_of_getElem? (i := 120) (by decide +kernel), List.mem_of_getElem? (i := 522) (by decide +kernel), List.mem_of_getElem? (i := 523) (by decide +kernel)⟩
theorem lw_p15 : lw_okq (⟨"CellTree", "beginDraft", "(LCellTree$Client;)V"⟩, 5) := ⟨⟨by decide +kernel, by decide +kernel⟩, List.mem_of_getElem? (i := 25) (by decide +kernel), List.mem_of_getElem? (i := 530) (by decide +kernel), List.mem_of_getElem? (i := 531) (by decide +kernel)⟩
def lw_privs_1 : List (MethodName × Nat) := [(⟨"CellTree", "beginWork", "(ILCellTree$Task;III)Z"⟩, 5), (⟨"CellTree$Client", "walkFor", "(I)V"⟩, 13), (⟨"CellTree$Client", "collectLeaf", "()V"⟩, 13), (⟨"CellTree$Client", "giveUp", "()V"⟩, 13), (⟨"CellTree$Client", "endAddress", "()I"⟩, 13), (⟨"CellTree$Client", "draftCheck", "()V"⟩, 13), (⟨"CellTree$Client", "draftFor", "(LCellTree$Step;)LCellTree$Transaction;"⟩, 13), (⟨"CellTree$Client", "useLeaf", "()V"⟩, 13), (⟨"CellTree$Client", "draftChange", "(LCellTree$Content;)V"⟩, 13), (⟨"CellTree$Client", "walk", "()V"⟩, 13), (⟨"CellTree$Client", "split", "()V"⟩, 13), (⟨"CellTree$Client", "splitRoot", "()V"⟩, 13), (⟨"CellTree$Client", "newAddress", "()I"⟩, 13), (⟨"CellTree$Content", "cut", "()I"⟩, 5), (⟨"CellTree$Client", "splitBelow", "(ILCellTree$Cell;)V"⟩, 13), (⟨"CellTree", "beginDraft", "(LCellTree$Client;)V"⟩, 5)]
theorem lw_r1 : ∀ q ∈ lw_privs_1, lw_okq q := List.forall_mem_cons.mpr ⟨lw_p0, List.forall_mem_cons.mpr ⟨lw_p1, List.forall_mem_cons.mpr ⟨lw_p2, List.forall_mem_cons.mpr ⟨lw_p3, List.forall_mem_cons.mpr ⟨lw_p4, List.forall_mem_cons.mpr ⟨lw_p5, List.forall_mem_cons.mpr ⟨lw_p6, List.forall_mem_cons.mpr ⟨lw_p7, List.forall_mem_cons.mpr ⟨lw_p8, List.forall_mem_cons.mpr ⟨lw_p9, List.forall_mem_cons.mpr ⟨lw_p10, List.forall_mem_cons.mpr ⟨lw_p11, List.forall_mem_cons.mpr ⟨lw_p12, List.forall_mem_cons.mpr ⟨lw_p13, List.forall_mem_cons.mpr ⟨lw_p14, List.forall_mem_cons.mpr ⟨lw_p15, fun _ h => absurd h List.not_mem_nil⟩⟩⟩⟩⟩⟩⟩⟩⟩⟩⟩⟩⟩⟩⟩⟩
theorem lw_p16 : lw_okq (⟨"CellTree", "sendPrepare", "(LCellTree$Transaction;)I"⟩, 5) := ⟨⟨by decide +kernel, by decide +kernel⟩, List.mem_of_getElem? (i := 25) (by decide +kernel), List.mem_of_getElem? (i := 534) (by decide +kernel), List.mem_of_getElem? (i := 535) (by decide +kernel)⟩
theorem lw_p17 : lw_okq (⟨"CellTree", "send", "(ILCellTree$Transaction;ILCellTree$Cell;)V"⟩, 5) := ⟨⟨by decide +kernel, by decide +kernel⟩, List.mem_of_getElem? (i := 25) (by decide +kernel), List.mem_of_getElem? (i := 538) (by decide +kernel), List.mem_of_getElem? (i := 539) (by decide +kernel)⟩
theorem lw_p18 : lw_okq (⟨"java/util/ArrayList", "add", "(Ljava/lang/Object;[Ljava/lang/Object;I)V"⟩, 3) := ⟨⟨by decide +kernel, by decide +kernel⟩, List.mem_of_getElem? (i := 228) (by decide +kernel), List.mem_of_getElem? (i := 573) (by decide +kernel), List.mem_of_getElem? (i := 574) (by decide +kernel)⟩
theorem lw_p19 : lw_okq (⟨"java/util/ArrayList", "grow", "()[Ljava/lang/Object;"⟩, 3) := ⟨⟨by decide +kernel, by decide +kernel⟩, List.mem_of_getElem? (i := 228) (by decide +kernel), List.mem_of_getElem? (i := 577) (by decide +kernel), List.mem_of_getElem? (i := 578) (by decide +kernel)⟩
theorem lw_p20 : lw_okq (⟨"java/util/ArrayList", "grow", "(I)[Ljava/lang/Object;"⟩, 3) := ⟨⟨by decide +kernel, by decide +kernel⟩, List.mem_of_getElem? (i := 228) (by decide +kernel), List.mem_of_getElem? (i := 581) (by decide +kernel), List.mem_of_getElem? (i := 582) (by decide +kernel)⟩
theorem lw_p21 : lw_okq (⟨"CellTree", "isUnderWay", "(I)Z"⟩, 5) := ⟨⟨by decide +kernel, by decide +kernel⟩, List.mem_of_getElem? (i := 25) (by decide +kernel), List.mem_of_getElem? (i := 647) (by decide +kernel), List.mem_of_getElem? (i := 648) (by decide +kernel)⟩
theorem lw_p22 : lw_okq (⟨"java/util/ArrayList", "fastRemove", "([Ljava/lang/Object;I)V"⟩, 3) := ⟨⟨by decide +kernel, by decide +kernel⟩, List.mem_of_getElem? (i := 228) (by decide +kernel), List.mem_of_getElem? (i := 677) (by decide +kernel), List.mem_of_getElem? (i := 678) (by decide +kernel)⟩
theorem lw_p23 : lw_okq (⟨"CellTree", "hearAnswer", "(LCellTree$Message;)V"⟩, 5) := ⟨⟨by decide +kernel, by decide +kernel⟩, List.mem_of_getElem? (i := 25) (by decide +kernel), List.mem_of_getElem? (i := 682) (by decide +kernel), List.mem_of_getElem? (i := 683) (by decide +kernel)⟩
theorem lw_p24 : lw_okq (⟨"CellTree", "sendVerdict", "(ILCellTree$Transaction;I)V"⟩, 5) := ⟨⟨by decide +kernel, by decide +kernel⟩, List.mem_of_getElem? (i := 25) (by decide +kernel), List.mem_of_getElem? (i := 686) (by decide +kernel), List.mem_of_getElem? (i := 687) (by decide +kernel)⟩
theorem lw_p25 : lw_okq (⟨"CellTree$Client", "forgetPath", "()V"⟩, 13) := ⟨⟨by decide +kernel, by decide +kernel⟩, List.mem_of_getElem? (i := 120) (by decide +kernel), List.mem_of_getElem? (i := 698) (by decide +kernel), List.mem_of_getElem? (i := 699) (by decide +kernel)⟩
theorem lw_p26 : lw_okq (⟨"CellTree$Client", "look", "(LCellTree$Cell;)V"⟩, 13) := ⟨⟨by decide +kernel, by decide +kernel⟩, List.mem_of_getElem? (i := 120) (by decide +kernel), List.mem_of_getElem? (i := 710) (by decide +kernel), List.mem_of_getElem? (i := 711) (by decide +kernel)⟩
theorem lw_p27 : lw_okq (⟨"CellTree", "reachMemory", "(LCellTree$Message;)V"⟩, 5) := ⟨⟨by decide +kernel, by decide +kernel⟩, List.mem_of_getElem? (i := 25) (by decide +kernel), List.mem_of_getElem? (i := 719) (by decide +kernel), List.mem_of_getElem? (i := 720) (by decide +kernel)⟩
theorem lw_p28 : lw_okq (⟨"CellTree$MemoryNode", "carryOut", "(LCellTree$Transaction;)V"⟩, 5) := ⟨⟨by decide +kernel, by decide +kernel⟩, List.mem_of_getElem? (i := 90) (by decide +kernel), List.mem_of_getElem? (i := 727) (by decide +kernel), List.mem_of_getElem? (i := 728) (by decide +kernel)⟩
theorem lw_p29 : lw_okq (⟨"CellTree$MemoryNode", "isHere", "(LCellTree$Item;)Z"⟩, 5) := ⟨⟨by decide +kernel, by decide +kernel⟩, List.mem_of_getElem? (i := 90) (by decide +kernel), List.mem_of_getElem? (i := 731) (by decide +kernel), List.mem_of_getElem? (i := 732) (by decide +kernel)⟩
theorem lw_p30 : lw_okq (⟨"CellTree$MemoryNode", "setLocks", "(LCellTree$Transaction;I)V"⟩, 5) := ⟨⟨by decide +kernel, by decide +kernel⟩, List.mem_of_getElem? (i := 90) (by decide +kernel), List.mem_of_getElem? (i := 742) (by decide +kernel), List.mem_of_getElem? (i := 743) (by decide +kernel)⟩
theorem lw_p31 : lw_okq (⟨"CellTree$MemoryNode", "canTake", "(LCellTree$Transaction;)Z"⟩, 5) := ⟨⟨by decide +kernel, by decide +kernel⟩, List.mem_of_getElem? (i := 90) (by decide +kernel), List.mem_of_getElem? (i := 759) (by decide +kernel), List.mem_of_getElem? (i := 760) (by decide +kernel)⟩
def lw_privs_2 : List (MethodName × Nat) := [(⟨"CellTree", "sendPrepare", "(LCellTree$Transaction;)I"⟩, 5), (⟨"CellTree", "send", "(ILCellTree$Transaction;ILCellTree$Cell;)V"⟩, 5), (⟨"java/util/ArrayList", "add", "(Ljava/lang/Object;[Ljava/lang/Object;I)V"⟩, 3), (⟨"java/util/ArrayList", "grow", "()[Ljava/lang/Object;"⟩, 3), (⟨"java/util/ArrayList", "grow", "(I)[Ljava/lang/Object;"⟩, 3), (⟨"CellTree", "isUnderWay", "(I)Z"⟩, 5), (⟨"java/util/ArrayList", "fastRemove", "([Ljava/lang/Object;I)V"⟩, 3), (⟨"CellTree", "hearAnswer", "(LCellTree$Message;)V"⟩, 5), (⟨"CellTree", "sendVerdict", "(ILCellTree$Transaction;I)V"⟩, 5), (⟨"CellTree$Client", "forgetPath", "()V"⟩, 13), (⟨"CellTree$Client", "look", "(LCellTree$Cell;)V"⟩, 13), (⟨"CellTree", "reachMemory", "(LCellTree$Message;)V"⟩, 5), (⟨"CellTree$MemoryNode", "carryOut", "(LCellTree$Transaction;)V"⟩, 5), (⟨"CellTree$MemoryNode", "isHere", "(LCellTree$Item;)Z"⟩, 5), (⟨"CellTree$MemoryNode", "setLocks", "(LCellTree$Transaction;I)V"⟩, 5), (⟨"CellTree$MemoryNode", "canTake", "(LCellTree$Transaction;)Z"⟩, 5)]
theorem lw_r2 : ∀ q ∈ lw_privs_2, lw_okq q := List.forall_mem_cons.mpr ⟨lw_p16, List.forall_mem_cons.mpr ⟨lw_p17, List.forall_mem_cons.mpr ⟨lw_p18, List.forall_mem_cons.mpr ⟨lw_p19, List.forall_mem_cons.mpr ⟨lw_p20, List.forall_mem_cons.mpr ⟨lw_p21, List.forall_mem_cons.mpr ⟨lw_p22, List.forall_mem_cons.mpr ⟨lw_p23, List.forall_mem_cons.mpr ⟨lw_p24, List.forall_mem_cons.mpr ⟨lw_p25, List.forall_mem_cons.mpr ⟨lw_p26, List.forall_mem_cons.mpr ⟨lw_p27, List.forall_mem_cons.mpr ⟨lw_p28, List.forall_mem_cons.mpr ⟨lw_p29, List.forall_mem_cons.mpr ⟨lw_p30, List.forall_mem_cons.mpr ⟨lw_p31, fun _ h => absurd h List.not_mem_nil⟩⟩⟩⟩⟩⟩⟩⟩⟩⟩⟩⟩⟩⟩⟩⟩
theorem lw_p32 : lw_okq (⟨"CellTree", "isUp", "(I)Z"⟩, 5) := ⟨⟨by decide +kernel, by decide +kernel⟩, List.mem_of_getElem? (i := 25) (by decide +kernel), List.mem_of_getElem? (i := 788) (by decide +kernel), List.mem_of_getElem? (i := 789) (by decide +kernel)⟩
theorem lw_p33 : lw_okq (⟨"CellTree", "areParticipantsUp", "(LCellTree$Transaction;)Z"⟩, 5) := ⟨⟨by decide +kernel, by decide +kernel⟩, List.mem_of_getElem? (i := 25) (by decide +kernel), List.mem_of_getElem? (i := 811) (by decide +kernel), List.mem_of_getElem? (i := 812) (by decide +kernel)⟩
theorem lw_p34 : lw_okq (⟨"CellTree", "settle", "(LCellTree$Transaction;)V"⟩, 5) := ⟨⟨by decide +kernel, by decide +kernel⟩, List.mem_of_getElem? (i := 25) (by decide +kernel), List.mem_of_getElem? (i := 815) (by decide +kernel), List.mem_of_getElem? (i := 816) (by decide +kernel)⟩
theorem lw_p35 : lw_okq (⟨"CellTree", "isToCommit", "(LCellTree$Transaction;)Z"⟩, 5) := ⟨⟨by decide +kernel, by decide +kernel⟩, List.mem_of_getElem? (i := 25) (by decide +kernel), List.mem_of_getElem? (i := 819) (by decide +kernel), List.mem_of_getElem? (i := 820) (by decide +kernel)⟩
theorem lw_p36 : lw_okq (⟨"CellTree", "cellAt", "(I)LCellTree$Cell;"⟩, 5) := ⟨⟨by decide +kernel, by decide +kernel⟩, List.mem_of_getElem? (i := 25) (by decide +kernel), List.mem_of_getElem? (i := 855) (by decide +kernel), List.mem_of_getElem? (i := 856) (by decide +kernel)⟩
theorem lw_p37 : lw_okq (⟨"CellTreeModel", "prepare", "(II)V"⟩, 42) := ⟨⟨by decide +kernel, by decide +kernel⟩, List.mem_of_getElem? (i := 871) (by decide +kernel), List.mem_of_getElem? (i := 1030) (by decide +kernel), List.mem_of_getElem? (i := 1031) (by decide +kernel)⟩
theorem lw_p38 : lw_okq (⟨"CellTreeModel", "lockOf", "(I)I"⟩, 42) := ⟨⟨by decide +kernel, by decide +kernel⟩, List.mem_of_getElem? (i := 871) (by decide +kernel), List.mem_of_getElem? (i := 1034) (by decide +kernel), List.mem_of_getElem? (i := 1035) (by decide +kernel)⟩
theorem lw_p39 : lw_okq (⟨"CellTreeModel", "send", "(III)I"⟩, 42) := ⟨⟨by decide +kernel, by decide +kernel⟩, List.mem_of_getElem? (i := 871) (by decide +kernel), List.mem_of_getElem? (i := 1038) (by decide +kernel), List.mem_of_getElem? (i := 1039) (by decide +kernel)⟩
theorem lw_p40 : lw_okq (⟨"CellTreeModel", "fits", "(I)Z"⟩, 42) := ⟨⟨by decide +kernel, by decide +kernel⟩, List.mem_of_getElem? (i := 871) (by decide +kernel), List.mem_of_getElem? (i := 1042) (by decide +kernel), List.mem_of_getElem? (i := 1043) (by decide +kernel)⟩
theorem lw_p41 : lw_okq (⟨"CellTreeModel", "parts", "(I)I"⟩, 42) := ⟨⟨by decide +kernel, by decide +kernel⟩, List.mem_of_getElem? (i := 871) (by decide +kernel), List.mem_of_getElem? (i := 1050) (by decide +kernel), List.mem_of_getElem? (i := 1051) (by decide +kernel)⟩
theorem lw_p42 : lw_okq (⟨"CellTreeModel", "takesPart", "(II)Z"⟩, 42) := ⟨⟨by decide +kernel, by decide +kernel⟩, List.mem_of_getElem? (i := 871) (by decide +kernel), List.mem_of_getElem? (i := 1054) (by decide +kernel), List.mem_of_getElem? (i := 1055) (by decide +kernel)⟩
theorem lw_p43 : lw_okq (⟨"CellTreeModel", "carryOut", "(II)V"⟩, 42) := ⟨⟨by decide +kernel, by decide +kernel⟩, List.mem_of_getElem? (i := 871) (by decide +kernel), List.mem_of_getElem? (i := 1058) (by decide +kernel), List.mem_of_getElem? (i := 1059) (by decide +kernel)⟩
theorem lw_p44 : lw_okq (⟨"CellTreeModel", "refused", "(II)V"⟩, 42) := ⟨⟨by decide +kernel, by decide +kernel⟩, List.mem_of_getElem? (i := 871) (by decide +kernel), List.mem_of_getElem? (i := 1062) (by decide +kernel), List.mem_of_getElem? (i := 1063) (by decide +kernel)⟩
theorem lw_p45 : lw_okq (⟨"CellTreeModel", "wrong", "(I)V"⟩, 42) := ⟨⟨by decide +kernel, by decide +kernel⟩, List.mem_of_getElem? (i := 871) (by decide +kernel), List.mem_of_getElem? (i := 1066) (by decide +kernel), List.mem_of_getElem? (i := 1067) (by decide +kernel)⟩
theorem lw_p46 : lw_okq (⟨"CellTreeModel", "forget", "(I)V"⟩, 42) := ⟨⟨by decide +kernel, by decide +kernel⟩, List.mem_of_getElem? (i := 871) (by decide +kernel), List.mem_of_getElem? (i := 1070) (by decide +kernel), List.mem_of_getElem? (i := 1071) (by decide +kernel)⟩
theorem lw_p47 : lw_okq (⟨"CellTreeModel", "anew", "(I)V"⟩, 42) := ⟨⟨by decide +kernel, by decide +kernel⟩, List.mem_of_getElem? (i := 871) (by decide +kernel), List.mem_of_getElem? (i := 1074) (by decide +kernel), List.mem_of_getElem? (i := 1075) (by decide +kernel)⟩
def lw_privs_3 : List (MethodName × Nat) := [(⟨"CellTree", "isUp", "(I)Z"⟩, 5), (⟨"CellTree", "areParticipantsUp", "(LCellTree$Transaction;)Z"⟩, 5), (⟨"CellTree", "settle", "(LCellTree$Transaction;)V"⟩, 5), (⟨"CellTree", "isToCommit", "(LCellTree$Transaction;)Z"⟩, 5), (⟨"CellTree", "cellAt", "(I)LCellTree$Cell;"⟩, 5), (⟨"CellTreeModel", "prepare", "(II)V"⟩, 42), (⟨"CellTreeModel", "lockOf", "(I)I"⟩, 42), (⟨"CellTreeModel", "send", "(III)I"⟩, 42), (⟨"CellTreeModel", "fits", "(I)Z"⟩, 42), (⟨"CellTreeModel", "parts", "(I)I"⟩, 42), (⟨"CellTreeModel", "takesPart", "(II)Z"⟩, 42), (⟨"CellTreeModel", "carryOut", "(II)V"⟩, 42), (⟨"CellTreeModel", "refused", "(II)V"⟩, 42), (⟨"CellTreeModel", "wrong", "(I)V"⟩, 42), (⟨"CellTreeModel", "forget", "(I)V"⟩, 42), (⟨"CellTreeModel", "anew", "(I)V"⟩, 42)]
theorem lw_r3 : ∀ q ∈ lw_privs_3, lw_okq q := List.forall_mem_cons.mpr ⟨lw_p32, List.forall_mem_cons.mpr ⟨lw_p33, List.forall_mem_cons.mpr ⟨lw_p34, List.forall_mem_cons.mpr ⟨lw_p35, List.forall_mem_cons.mpr ⟨lw_p36, List.forall_mem_cons.mpr ⟨lw_p37, List.forall_mem_cons.mpr ⟨lw_p38, List.forall_mem_cons.mpr ⟨lw_p39, List.forall_mem_cons.mpr ⟨lw_p40, List.forall_mem_cons.mpr ⟨lw_p41, List.forall_mem_cons.mpr ⟨lw_p42, List.forall_mem_cons.mpr ⟨lw_p43, List.forall_mem_cons.mpr ⟨lw_p44, List.forall_mem_cons.mpr ⟨lw_p45, List.forall_mem_cons.mpr ⟨lw_p46, List.forall_mem_cons.mpr ⟨lw_p47, fun _ h => absurd h List.not_mem_nil⟩⟩⟩⟩⟩⟩⟩⟩⟩⟩⟩⟩⟩⟩⟩⟩
theorem lw_p48 : lw_okq (⟨"CellTreeModel", "startWalk", "(I)V"⟩, 42) := ⟨⟨by decide +kernel, by decide +kernel⟩, List.mem_of_getElem? (i := 871) (by decide +kernel), List.mem_of_getElem? (i := 1078) (by decide +kernel), List.mem_of_getElem? (i := 1079) (by decide +kernel)⟩
theorem lw_p49 : lw_okq (⟨"CellTreeModel", "go", "(II)V"⟩, 42) := ⟨⟨by decide +kernel, by decide +kernel⟩, List.mem_of_getElem? (i := 871) (by decide +kernel), List.mem_of_getElem? (i := 1082) (by decide +kernel), List.mem_of_getElem? (i := 1083) (by decide +kernel)⟩
theorem lw_p50 : lw_okq (⟨"CellTreeModel", "walk", "(I)V"⟩, 42) := ⟨⟨by decide +kernel, by decide +kernel⟩, List.mem_of_getElem? (i := 871) (by decide +kernel), List.mem_of_getElem? (i := 1086) (by decide +kernel), List.mem_of_getElem? (i := 1087) (by decide +kernel)⟩
theorem lw_p51 : lw_okq (⟨"CellTreeModel", "last", "(I)I"⟩, 42) := ⟨⟨by decide +kernel, by decide +kernel⟩, List.mem_of_getElem? (i := 871) (by decide +kernel), List.mem_of_getElem? (i := 1090) (by decide +kernel), List.mem_of_getElem? (i := 1091) (by decide +kernel)⟩
theorem lw_p52 : lw_okq (⟨"CellTreeModel", "splitInner", "(IJI)V"⟩, 42) := ⟨⟨by decide +kernel, by decide +kernel⟩, List.mem_of_getElem? (i := 871) (by decide +kernel), List.mem_of_getElem? (i := 1097) (by decide +kernel), List.mem_of_getElem? (i := 1098) (by decide +kernel)⟩
theorem lw_p53 : lw_okq (⟨"CellTreeModel", "freshAddress", "(I)I"⟩, 42) := ⟨⟨by decide +kernel, by decide +kernel⟩, List.mem_of_getElem? (i := 871) (by decide +kernel), List.mem_of_getElem? (i := 1126) (by decide +kernel), List.mem_of_getElem? (i := 1127) (by decide +kernel)⟩
theorem lw_p54 : lw_okq (⟨"CellTreeModel", "addItem", "(IIIJIII)V"⟩, 42) := ⟨⟨by decide +kernel, by decide +kernel⟩, List.mem_of_getElem? (i := 871) (by decide +kernel), List.mem_of_getElem? (i := 1130) (by decide +kernel), List.mem_of_getElem? (i := 1131) (by decide +kernel)⟩
theorem lw_p55 : lw_okq (⟨"CellTreeModel", "above", "(IZIIII)V"⟩, 42) := ⟨⟨by decide +kernel, by decide +kernel⟩, List.mem_of_getElem? (i := 871) (by decide +kernel), List.mem_of_getElem? (i := 1134) (by decide +kernel), List.mem_of_getElem? (i := 1135) (by decide +kernel)⟩
theorem lw_p56 : lw_okq (⟨"CellTreeModel", "begin", "(III)V"⟩, 42) := ⟨⟨by decide +kernel, by decide +kernel⟩, List.mem_of_getElem? (i := 871) (by decide +kernel), List.mem_of_getElem? (i := 1144) (by decide +kernel), List.mem_of_getElem? (i := 1145) (by decide +kernel)⟩
theorem lw_p57 : lw_okq (⟨"CellTreeModel", "ask", "(I)I"⟩, 42) := ⟨⟨by decide +kernel, by decide +kernel⟩, List.mem_of_getElem? (i := 871) (by decide +kernel), List.mem_of_getElem? (i := 1148) (by decide +kernel), List.mem_of_getElem? (i := 1149) (by decide +kernel)⟩
theorem lw_p58 : lw_okq (⟨"CellTreeModel", "agreed", "(IIIJIII)V"⟩, 42) := ⟨⟨by decide +kernel, by decide +kernel⟩, List.mem_of_getElem? (i := 871) (by decide +kernel), List.mem_of_getElem? (i := 1152) (by decide +kernel), List.mem_of_getElem? (i := 1153) (by decide +kernel)⟩
theorem lw_p59 : lw_okq (⟨"CellTreeModel", "looked", "(IIJIII)V"⟩, 42) := ⟨⟨by decide +kernel, by decide +kernel⟩, List.mem_of_getElem? (i := 871) (by decide +kernel), List.mem_of_getElem? (i := 1156) (by decide +kernel), List.mem_of_getElem? (i := 1157) (by decide +kernel)⟩
theorem lw_p60 : lw_okq (⟨"CellTreeModel", "collect", "(IIJIII)V"⟩, 42) := ⟨⟨by decide +kernel, by decide +kernel⟩, List.mem_of_getElem? (i := 871) (by decide +kernel), List.mem_of_getElem? (i := 1160) (by decide +kernel), List.mem_of_getElem? (i := 1161) (by decide +kernel)⟩
theorem lw_p61 : lw_okq (⟨"CellTreeModel", "done", "(I)V"⟩, 42) := ⟨⟨by decide +kernel, by decide +kernel⟩, List.mem_of_getElem? (i := 871) (by decide +kernel), List.mem_of_getElem? (i := 1167) (by decide +kernel), List.mem_of_getElem? (i := 1168) (by decide +kernel)⟩
theorem lw_p62 : lw_okq (⟨"CellTreeModel", "atLeaf", "(IIJIII)V"⟩, 42) := ⟨⟨by decide +kernel, by decide +kernel⟩, List.mem_of_getElem? (i := 871) (by decide +kernel), List.mem_of_getElem? (i := 1171) (by decide +kernel), List.mem_of_getElem? (i := 1172) (by decide +kernel)⟩
theorem lw_p63 : lw_okq (⟨"CellTreeModel", "splitLeaf", "(IIJIII)V"⟩, 42) := ⟨⟨by decide +kernel, by decide +kernel⟩, List.mem_of_getElem? (i := 871) (by decide +kernel), List.mem_of_getElem? (i := 1175) (by decide +kernel), List.mem_of_getElem? (i := 1176) (by decide +kernel)⟩
def lw_privs_4 : List (MethodName × Nat) := [(⟨"CellTreeModel", "startWalk", "(I)V"⟩, 42), (⟨"CellTreeModel", "go", "(II)V"⟩, 42), (⟨"CellTreeModel", "walk", "(I)V"⟩, 42), (⟨"CellTreeModel", "last", "(I)I"⟩, 42), (⟨"CellTreeModel", "splitInner", "(IJI)V"⟩, 42), (⟨"CellTreeModel", "freshAddress", "(I)I"⟩, 42), (⟨"CellTreeModel", "addItem", "(IIIJIII)V"⟩, 42), (⟨"CellTreeModel", "above", "(IZIIII)V"⟩, 42), (⟨"CellTreeModel", "begin", "(III)V"⟩, 42), (⟨"CellTreeModel", "ask", "(I)I"⟩, 42), (⟨"CellTreeModel", "agreed", "(IIIJIII)V"⟩, 42), (⟨"CellTreeModel", "looked", "(IIJIII)V"⟩, 42), (⟨"CellTreeModel", "collect", "(IIJIII)V"⟩, 42), (⟨"CellTreeModel", "done", "(I)V"⟩, 42), (⟨"CellTreeModel", "atLeaf", "(IIJIII)V"⟩, 42), (⟨"CellTreeModel", "splitLeaf", "(IIJIII)V"⟩, 42)]
theorem lw_r4 : ∀ q ∈ lw_privs_4, lw_okq q := List.forall_mem_cons.mpr ⟨lw_p48, List.forall_mem_cons.mpr ⟨lw_p49, List.forall_mem_cons.mpr ⟨lw_p50, List.forall_mem_cons.mpr ⟨lw_p51, List.forall_mem_cons.mpr ⟨lw_p52, List.forall_mem_cons.mpr ⟨lw_p53, List.forall_mem_cons.mpr ⟨lw_p54, List.forall_mem_cons.mpr ⟨lw_p55, List.forall_mem_cons.mpr ⟨lw_p56, List.forall_mem_cons.mpr ⟨lw_p57, List.forall_mem_cons.mpr ⟨lw_p58, List.forall_mem_cons.mpr ⟨lw_p59, List.forall_mem_cons.mpr ⟨lw_p60, List.forall_mem_cons.mpr ⟨lw_p61, List.forall_mem_cons.mpr ⟨lw_p62, List.forall_mem_cons.mpr ⟨lw_p63, fun _ h => absurd h List.not_mem_nil⟩⟩⟩⟩⟩⟩⟩⟩⟩⟩⟩⟩⟩⟩⟩⟩
theorem lw_p64 : lw_okq (⟨"CellTreeModel", "without", "(IIJIIII)V"⟩, 42) := ⟨⟨by decide +kernel, by decide +kernel⟩, List.mem_of_getElem? (i := 871) (by decide +kernel), List.mem_of_getElem? (i := 1179) (by decide +kernel), List.mem_of_getElem? (i := 1180) (by decide +kernel)⟩
theorem lw_p65 : lw_okq (⟨"CellTreeModel", "with", "(IIJIZIII)V"⟩, 42) := ⟨⟨by decide +kernel, by decide +kernel⟩, List.mem_of_getElem? (i := 871) (by decide +kernel), List.mem_of_getElem? (i := 1183) (by decide +kernel), List.mem_of_getElem? (i := 1184) (by decide +kernel)⟩
theorem lw_p66 : lw_okq (⟨"CellTreeModel", "idle", "(I)Z"⟩, 42) := ⟨⟨by decide +kernel, by decide +kernel⟩, List.mem_of_getElem? (i := 871) (by decide +kernel), List.mem_of_getElem? (i := 1195) (by decide +kernel), List.mem_of_getElem? (i := 1196) (by decide +kernel)⟩
theorem lw_p67 : lw_okq (⟨"CellTreeModel", "start", "(IIIII)V"⟩, 42) := ⟨⟨by decide +kernel, by decide +kernel⟩, List.mem_of_getElem? (i := 871) (by decide +kernel), List.mem_of_getElem? (i := 1199) (by decide +kernel), List.mem_of_getElem? (i := 1200) (by decide +kernel)⟩
def lw_privs_5 : List (MethodName × Nat) := [(⟨"CellTreeModel", "without", "(IIJIIII)V"⟩, 42), (⟨"CellTreeModel", "with", "(IIJIZIII)V"⟩, 42), (⟨"CellTreeModel", "idle", "(I)Z"⟩, 42), (⟨"CellTreeModel", "start", "(IIIII)V"⟩, 42)]
theorem lw_r5 : ∀ q ∈ lw_privs_5, lw_okq q := List.forall_mem_cons.mpr ⟨lw_p64, List.forall_mem_cons.mpr ⟨lw_p65, List.forall_mem_cons.mpr ⟨lw_p66, List.forall_mem_cons.mpr ⟨lw_p67, fun _ h => absurd h List.not_mem_nil⟩⟩⟩⟩
def lw_privs : List (MethodName × Nat) := lw_privs_1 ++ (lw_privs_2 ++ (lw_privs_3 ++ (lw_privs_4 ++ (lw_privs_5))))
def lw_tbl : List Cond := k2_sels lw_privs ++ tables_1
theorem lw_privs_ok : ∀ q ∈ lw_privs, lw_okq q := by
  show ∀ q ∈ lw_privs_1 ++ (lw_privs_2 ++ (lw_privs_3 ++ (lw_privs_4 ++ (lw_privs_5)))), lw_okq q
  exact List.forall_mem_append.mpr ⟨lw_r1, List.forall_mem_append.mpr ⟨lw_r2, List.forall_mem_append.mpr ⟨lw_r3, List.forall_mem_append.mpr ⟨lw_r4, lw_r5⟩⟩⟩⟩
end
section
/-! The program, by a program of mine out of the claim: classes and fields, arrays, constants, methods. -/
def xt_T0 : u_T := fun k => match k with
  | 0 => ("CellTree", "memories", "[LCellTree$MemoryNode;", true)
  | 1 => ("CellTree", "clients", "[LCellTree$Client;", true)
  | 2 => ("CellTree", "underWay", "Ljava/util/ArrayList;", true)
  | 3 => ("CellTree", "begun", "[LCellTree$Transaction;", true)
  | _ => ("CellTree", "begunCount", "I", false)
def xt_F0 : Nat → FieldType := fun k => match k with
  | 0 => .array (.object "CellTree$MemoryNode")
  | 1 => .array (.object "CellTree$Client")
  | 2 => .object "java/util/ArrayList"
  | 3 => .array (.object "CellTree$Transaction")
  | _ => .int
def xt_T1 : u_T := fun k => match k with
  | 0 => ("CellTree$Client", "number", "I", true)
  | 1 => ("CellTree$Client", "copies", "[LCellTree$Cell;", true)
  | 2 => ("CellTree$Client", "job", "LCellTree$Job;", true)
  | 3 => ("CellTree$Client", "path", "[I", true)
  | 4 => ("CellTree$Client", "pathLength", "I", false)
  | 5 => ("CellTree$Client", "walkKey", "I", false)
  | 6 => ("CellTree$Client", "end", "LCellTree$Cell;", false)
  | 7 => ("CellTree$Client", "up", "Z", false)
  | 8 => ("CellTree$Client", "hint", "I", false)
  | 9 => ("CellTree$Client", "step", "LCellTree$Step;", false)
  | 10 => ("CellTree$Client", "afterwards", "LCellTree$Step;", false)
  | 11 => ("CellTree$Client", "open", "LCellTree$Transaction;", false)
  | _ => ("CellTree$Client", "draft", "LCellTree$Transaction;", false)
def xt_F1 : Nat → FieldType := fun k => match k with
  | 0 => .int
  | 1 => .array (.object "CellTree$Cell")
  | 2 => .object "CellTree$Job"
  | 3 => .array (.int)
  | 4 => .int
  | 5 => .int
  | 6 => .object "CellTree$Cell"
  | 7 => .boolean
  | 8 => .int
  | 9 => .object "CellTree$Step"
  | 10 => .object "CellTree$Step"
  | 11 => .object "CellTree$Transaction"
  | _ => .object "CellTree$Transaction"
def xt_T2 : u_T := fun k => match k with
  | 0 => ("CellTree$Job", "leafAddresses", "[I", true)
  | 1 => ("CellTree$Job", "leafVersions", "[I", true)
  | 2 => ("CellTree$Job", "leafCount", "I", false)
  | 3 => ("CellTree$Job", "task", "LCellTree$Task;", false)
  | 4 => ("CellTree$Job", "first", "I", false)
  | 5 => ("CellTree$Job", "last", "I", false)
  | 6 => ("CellTree$Job", "given", "I", false)
  | 7 => ("CellTree$Job", "state", "I", false)
  | 8 => ("CellTree$Job", "fuel", "I", false)
  | 9 => ("CellTree$Job", "found", "Z", false)
  | _ => ("CellTree$Job", "value", "I", false)
def xt_F2 : Nat → FieldType := fun k => match k with
  | 0 => .array (.int)
  | 1 => .array (.int)
  | 2 => .int
  | 3 => .object "CellTree$Task"
  | 4 => .int
  | 5 => .int
  | 6 => .int
  | 7 => .int
  | 8 => .int
  | 9 => .boolean
  | _ => .int
def xt_T3 : u_T := fun k => match k with
  | 0 => ("CellTree$MemoryNode", "number", "I", true)
  | 1 => ("CellTree$MemoryNode", "cells", "[LCellTree$Cell;", true)
  | 2 => ("CellTree$MemoryNode", "lockers", "[I", true)
  | 3 => ("CellTree$MemoryNode", "remembered", "[B", true)
  | _ => ("CellTree$MemoryNode", "up", "Z", false)
def xt_F3 : Nat → FieldType := fun k => match k with
  | 0 => .int
  | 1 => .array (.object "CellTree$Cell")
  | 2 => .array (.int)
  | 3 => .array (.byte)
  | _ => .boolean
def xt_T4 : u_T := fun k => match k with
  | 0 => ("CellTree$Transaction", "client", "I", true)
  | 1 => ("CellTree$Transaction", "items", "[LCellTree$Item;", true)
  | 2 => ("CellTree$Transaction", "takesPart", "[Z", true)
  | 3 => ("CellTree$Transaction", "answered", "[Z", true)
  | 4 => ("CellTree$Transaction", "itemCount", "I", false)
  | _ => ("CellTree$Transaction", "number", "I", false)
def xt_F4 : Nat → FieldType := fun k => match k with
  | 0 => .int
  | 1 => .array (.object "CellTree$Item")
  | 2 => .array (.boolean)
  | 3 => .array (.boolean)
  | 4 => .int
  | _ => .int
def xt_T5 : u_T := fun k => match k with
  | 0 => ("CellTree$Item", "kind", "LCellTree$ItemKind;", true)
  | 1 => ("CellTree$Item", "address", "I", true)
  | 2 => ("CellTree$Item", "version", "I", true)
  | _ => ("CellTree$Item", "content", "LCellTree$Content;", true)
def xt_F5 : Nat → FieldType := fun k => match k with
  | 0 => .object "CellTree$ItemKind"
  | 1 => .int
  | 2 => .int
  | _ => .object "CellTree$Content"
def xt_T6 : u_T := fun k => match k with
  | 0 => ("CellTree$Content", "kind", "I", true)
  | 1 => ("CellTree$Content", "low", "I", true)
  | 2 => ("CellTree$Content", "high", "I", true)
  | 3 => ("CellTree$Content", "keys", "[I", true)
  | _ => ("CellTree$Content", "items", "[I", true)
def xt_F6 : Nat → FieldType := fun k => match k with
  | 0 => .int
  | 1 => .int
  | 2 => .int
  | 3 => .array (.int)
  | _ => .array (.int)
def xt_T7 : u_T := fun k => match k with
  | 0 => ("CellTree$Cell", "version", "I", true)
  | _ => ("CellTree$Cell", "content", "LCellTree$Content;", true)
def xt_F7 : Nat → FieldType := fun k => match k with
  | 0 => .int
  | _ => .object "CellTree$Content"
def xt_T8 : u_T := fun k => match k with
  | 0 => ("CellTree$Message", "kind", "I", true)
  | 1 => ("CellTree$Message", "about", "LCellTree$Transaction;", true)
  | 2 => ("CellTree$Message", "memory", "I", true)
  | _ => ("CellTree$Message", "seen", "LCellTree$Cell;", true)
def xt_F8 : Nat → FieldType := fun k => match k with
  | 0 => .int
  | 1 => .object "CellTree$Transaction"
  | 2 => .int
  | _ => .object "CellTree$Cell"
def xt_T9 : u_T := fun k => match k with
  | 0 => ("CellTreeModel", "down", "[Z", true)
  | 1 => ("CellTreeModel", "nodes", "[J", true)
  | 2 => ("CellTreeModel", "versions", "[I", true)
  | 3 => ("CellTreeModel", "values", "[I", true)
  | 4 => ("CellTreeModel", "begun", "I", false)
  | 5 => ("CellTreeModel", "client", "[I", true)
  | 6 => ("CellTreeModel", "firstItem", "[I", true)
  | 7 => ("CellTreeModel", "itemCount", "[I", true)
  | 8 => ("CellTreeModel", "remembered", "[B", true)
  | 9 => ("CellTreeModel", "items", "I", false)
  | 10 => ("CellTreeModel", "itemKind", "[B", true)
  | 11 => ("CellTreeModel", "itemAddress", "[B", true)
  | 12 => ("CellTreeModel", "itemVersion", "[I", true)
  | 13 => ("CellTreeModel", "itemNode", "[J", true)
  | 14 => ("CellTreeModel", "itemValues", "[I", true)
  | 15 => ("CellTreeModel", "under", "I", false)
  | 16 => ("CellTreeModel", "kind", "[I", true)
  | 17 => ("CellTreeModel", "about", "[I", true)
  | 18 => ("CellTreeModel", "place", "[I", true)
  | 19 => ("CellTreeModel", "bearVersion", "[I", true)
  | 20 => ("CellTreeModel", "bearNode", "[J", true)
  | 21 => ("CellTreeModel", "bearValues", "[I", true)
  | 22 => ("CellTreeModel", "copyVersion", "[I", true)
  | 23 => ("CellTreeModel", "copyNode", "[J", true)
  | 24 => ("CellTreeModel", "hints", "[I", true)
  | 25 => ("CellTreeModel", "job", "[I", true)
  | 26 => ("CellTreeModel", "state", "[I", true)
  | 27 => ("CellTreeModel", "fuel", "[I", true)
  | 28 => ("CellTreeModel", "goal", "[I", true)
  | 29 => ("CellTreeModel", "from", "[I", true)
  | 30 => ("CellTreeModel", "upTo", "[I", true)
  | 31 => ("CellTreeModel", "wanted", "[I", true)
  | 32 => ("CellTreeModel", "result", "[I", true)
  | 33 => ("CellTreeModel", "found", "[Z", true)
  | 34 => ("CellTreeModel", "open", "[I", true)
  | 35 => ("CellTreeModel", "answered", "[I", true)
  | 36 => ("CellTreeModel", "stage", "[I", true)
  | 37 => ("CellTreeModel", "path", "[I", true)
  | 38 => ("CellTreeModel", "steps", "[I", true)
  | 39 => ("CellTreeModel", "leaves", "[I", true)
  | 40 => ("CellTreeModel", "leafAddress", "[I", true)
  | _ => ("CellTreeModel", "leafVersion", "[I", true)
def xt_F9 : Nat → FieldType := fun k => match k with
  | 0 => .array (.boolean)
  | 1 => .array (.long)
  | 2 => .array (.int)
  | 3 => .array (.int)
  | 4 => .int
  | 5 => .array (.int)
  | 6 => .array (.int)
  | 7 => .array (.int)
  | 8 => .array (.byte)
  | 9 => .int
  | 10 => .array (.byte)
  | 11 => .array (.byte)
  | 12 => .array (.int)
  | 13 => .array (.long)
  | 14 => .array (.int)
  | 15 => .int
  | 16 => .array (.int)
  | 17 => .array (.int)
  | 18 => .array (.int)
  | 19 => .array (.int)
  | 20 => .array (.long)
  | 21 => .array (.int)
  | 22 => .array (.int)
  | 23 => .array (.long)
  | 24 => .array (.int)
  | 25 => .array (.int)
  | 26 => .array (.int)
  | 27 => .array (.int)
  | 28 => .array (.int)
  | 29 => .array (.int)
  | 30 => .array (.int)
  | 31 => .array (.int)
  | 32 => .array (.int)
  | 33 => .array (.boolean)
  | 34 => .array (.int)
  | 35 => .array (.int)
  | 36 => .array (.int)
  | 37 => .array (.int)
  | 38 => .array (.int)
  | 39 => .array (.int)
  | 40 => .array (.int)
  | _ => .array (.int)
def xt_T10 : u_T := fun k => match k with
  | 0 => ("java/util/ArrayList", "elementData", "[Ljava/lang/Object;", false)
  | 1 => ("java/util/ArrayList", "size", "I", false)
  | _ => ("java/util/AbstractList", "modCount", "I", false)
def xt_F10 : Nat → FieldType := fun k => match k with
  | 0 => .array (.object "java/lang/Object")
  | 1 => .int
  | _ => .int
def xt_cl : List vw_C := [("CellTree", xt_T0, 5), ("CellTree$Client", xt_T1, 13), ("CellTree$Job", xt_T2, 11), ("CellTree$MemoryNode", xt_T3, 5), ("CellTree$Transaction", xt_T4, 6), ("CellTree$Item", xt_T5, 4), ("CellTree$Content", xt_T6, 5), ("CellTree$Cell", xt_T7, 2), ("CellTree$Message", xt_T8, 4), ("CellTreeModel", xt_T9, 42), ("java/util/ArrayList", xt_T10, 3)]
def xt_tyf : Nat → Nat → FieldType := fun c => match c with
  | 0 => xt_F0
  | 1 => xt_F1
  | 2 => xt_F2
  | 3 => xt_F3
  | 4 => xt_F4
  | 5 => xt_F5
  | 6 => xt_F6
  | 7 => xt_F7
  | 8 => xt_F8
  | 9 => xt_F9
  | _ => xt_F10
def xt_isR (t : FieldType) : Bool := match t with
  | .object _ | .array _ => true
  | _ => false
def xt_rk (f : Nat) : Bool := xt_isR (xt_tyf (f / 100) (f % 100))
def xt_aty : List FieldType := [.int, .byte, .boolean, .long, .object "CellTree$MemoryNode", .object "CellTree$Client", .object "CellTree$Transaction", .object "CellTree$Item", .object "CellTree$Cell", .object "java/lang/Object"]
def xt_cp (t : Nat) : Nat := match t with
  | 104 => 3
  | 105 => 1
  | 106 => 4
  | 107 => 5
  | 108 => 7
  | 109 => 8
  | _ => 0
def xt_stt : List (String × String × String) := [("java/util/ArrayList", "DEFAULTCAPACITY_EMPTY_ELEMENTDATA", "[Ljava/lang/Object;"), ("CellTree$Task", "GET", "LCellTree$Task;"), ("CellTree$Task", "PUT", "LCellTree$Task;"), ("CellTree$Task", "REMOVE", "LCellTree$Task;"), ("CellTree$Task", "SCAN", "LCellTree$Task;"), ("CellTree$ItemKind", "READ", "LCellTree$ItemKind;"), ("CellTree$ItemKind", "CHECK", "LCellTree$ItemKind;"), ("CellTree$ItemKind", "WRITE", "LCellTree$ItemKind;"), ("CellTree$ItemKind", "TAKE", "LCellTree$ItemKind;"), ("CellTree$Step", "REST", "LCellTree$Step;"), ("CellTree$Step", "LOOK", "LCellTree$Step;"), ("CellTree$Step", "FINISH", "LCellTree$Step;"), ("CellTree$Step", "RENEW", "LCellTree$Step;"), ("CellTree$Step", "START", "LCellTree$Step;"), ("CellTree$Step", "USE_LEAF", "LCellTree$Step;"), ("CellTree$Step", "WALK", "LCellTree$Step;"), ("CellTree$Step", "SPLIT", "LCellTree$Step;")]
def xt_sx : xv_X := ([("[I", "java/lang/Cloneable"), ("CellTree$Message", "CellTree$Message"), ("CellTree", "java/lang/Object"), ("CellTree$Content", "java/lang/Object"), ("CellTree$Cell", "java/lang/Object"), ("CellTree$MemoryNode", "java/lang/Object"), ("CellTree$Client", "java/lang/Object"), ("CellTree$Job", "java/lang/Object"), ("CellTreeModel", "java/lang/Object"), ("CellTree$Transaction", "java/lang/Object"), ("CellTree$Item", "java/lang/Object"), ("CellTree$Message", "java/lang/Object"), ("CellTree$ItemKind", "java/lang/Object"), ("CellTree$Step", "java/lang/Object"), ("CellTree$Task", "java/lang/Object")], ["CellTree$MemoryNode", "CellTree$Cell", "CellTree$Client", "CellTree$Transaction", "CellTree$Item", "java/lang/Object"], [("CellTree$Client", 19, ⟨"CellTree$Job", "<init>", "()V"⟩, "CellTree")])
def xt_M0 : xv_M := (⟨"CellTree", "<init>", "()V"⟩, prog_1_method_1_code, 4, none, 4, 86)
def xt_M1 : xv_M := (⟨"CellTree$Content", "<init>", "(III[I[I)V"⟩, prog_4_method_1_code, 6, none, 1, 26)
def xt_M2 : xv_M := (⟨"CellTree$Cell", "<init>", "(ILCellTree$Content;)V"⟩, prog_2_method_1_code, 3, none, 1, 26)
def xt_M3 : xv_M := (⟨"CellTree$MemoryNode", "<init>", "(ILCellTree$Cell;)V"⟩, prog_8_method_1_code, 4, none, 1, 26)
def xt_M4 : xv_M := (⟨"CellTree$Client", "<init>", "(II)V"⟩, prog_3_method_1_code, 3, none, 2, 46)
def xt_M5 : xv_M := (⟨"CellTree$Job", "<init>", "()V"⟩, prog_7_method_1_code, 1, none, 1, 26)
def xt_M6 : xv_M := (⟨"java/util/ArrayList", "<init>", "()V"⟩, prog_23_method_2_code, 1, none, 3, 66)
def xt_M7 : xv_M := (⟨"java/util/AbstractList", "<init>", "()V"⟩, prog_22_method_1_code, 1, none, 2, 46)
def xt_M8 : xv_M := (⟨"java/util/AbstractCollection", "<init>", "()V"⟩, prog_21_method_1_code, 1, none, 1, 26)
def xt_M9 : xv_M := (⟨"CellTree", "get", "(II)Z"⟩, prog_1_method_2_code, 3, some .boolean, 11, 252)
def xt_M10 : xv_M := (⟨"CellTree", "beginWork", "(ILCellTree$Task;III)Z"⟩, prog_1_method_29_code, 7, some .boolean, 10, 226)
def xt_M11 : xv_M := (⟨"CellTree", "isClient", "(I)Z"⟩, prog_1_method_22_code, 1, some .boolean, 0, 0)
def xt_M12 : xv_M := (⟨"CellTree", "isKey", "(I)Z"⟩, prog_1_method_25_code, 1, some .boolean, 0, 0)
def xt_M13 : xv_M := (⟨"CellTree$Job", "assign", "(LCellTree$Task;III)V"⟩, prog_7_method_2_code, 5, none, 0, 0)
def xt_M14 : xv_M := (⟨"CellTree$Client", "advance", "()V"⟩, prog_3_method_5_code, 1, none, 6, 141)
def xt_M15 : xv_M := (⟨"CellTree$Job", "forgetResult", "()V"⟩, prog_7_method_3_code, 1, none, 0, 0)
def xt_M16 : xv_M := (⟨"CellTree$Client", "walkFor", "(I)V"⟩, prog_3_method_10_code, 2, none, 0, 0)
def xt_M17 : xv_M := (⟨"CellTree$Client", "collectLeaf", "()V"⟩, prog_3_method_13_code, 1, none, 4, 96)
def xt_M18 : xv_M := (⟨"CellTree$Client", "giveUp", "()V"⟩, prog_3_method_6_code, 1, none, 0, 0)
def xt_M19 : xv_M := (⟨"CellTree$Client", "endAddress", "()I"⟩, prog_3_method_7_code, 1, some .int, 0, 0)
def xt_M20 : xv_M := (⟨"CellTree$Job", "collect", "(ILCellTree$Cell;)V"⟩, prog_7_method_8_code, 5, none, 0, 0)
def xt_M21 : xv_M := (⟨"CellTree$Job", "finish", "()V"⟩, prog_7_method_4_code, 1, none, 0, 0)
def xt_M22 : xv_M := (⟨"CellTree$Client", "draftCheck", "()V"⟩, prog_3_method_16_code, 3, none, 3, 74)
def xt_M23 : xv_M := (⟨"CellTree$Client", "draftFor", "(LCellTree$Step;)LCellTree$Transaction;"⟩, prog_3_method_14_code, 2, some (.object "CellTree$Transaction"), 2, 47)
def xt_M24 : xv_M := (⟨"CellTree$Transaction", "<init>", "(I)V"⟩, prog_12_method_1_code, 2, none, 1, 26)
def xt_M25 : xv_M := (⟨"CellTree$Transaction", "include", "(LCellTree$ItemKind;IILCellTree$Content;)V"⟩, prog_12_method_2_code, 5, none, 2, 50)
def xt_M26 : xv_M := (⟨"CellTree$Item", "<init>", "(LCellTree$ItemKind;IILCellTree$Content;)V"⟩, prog_5_method_1_code, 5, none, 1, 26)
def xt_M27 : xv_M := (⟨"CellTree$Client", "useLeaf", "()V"⟩, prog_3_method_12_code, 3, none, 4, 95)
def xt_M28 : xv_M := (⟨"CellTree$Content", "indexOf", "(I)I"⟩, prog_4_method_4_code, 3, some .int, 0, 0)
def xt_M29 : xv_M := (⟨"CellTree$Content", "isFull", "()Z"⟩, prog_4_method_2_code, 1, some .boolean, 0, 0)
def xt_M30 : xv_M := (⟨"CellTree$Content", "withEntry", "(II)LCellTree$Content;"⟩, prog_4_method_7_code, 5, some (.object "CellTree$Content"), 2, 51)
def xt_M31 : xv_M := (⟨"CellTree$Content", "countNotGreater", "(I)I"⟩, prog_4_method_5_code, 4, some .int, 0, 0)
def xt_M32 : xv_M := (⟨"CellTree$Content", "inserted", "([III)[I"⟩, prog_4_method_14_code, 4, some (.array (.int)), 1, 26)
def xt_M33 : xv_M := (⟨"CellTree$Client", "draftChange", "(LCellTree$Content;)V"⟩, prog_3_method_15_code, 2, none, 3, 74)
def xt_M34 : xv_M := (⟨"CellTree$Content", "withoutEntry", "(I)LCellTree$Content;"⟩, prog_4_method_8_code, 2, some (.object "CellTree$Content"), 2, 51)
def xt_M35 : xv_M := (⟨"CellTree$Content", "removed", "([II)[I"⟩, prog_4_method_15_code, 3, some (.array (.int)), 1, 26)
def xt_M36 : xv_M := (⟨"CellTree$Client", "walk", "()V"⟩, prog_3_method_11_code, 2, none, 3, 74)
def xt_M37 : xv_M := (⟨"CellTree$Content", "childFor", "(I)I"⟩, prog_4_method_6_code, 2, some .int, 1, 23)
def xt_M38 : xv_M := (⟨"CellTree$Client", "split", "()V"⟩, prog_3_method_17_code, 3, none, 5, 119)
def xt_M39 : xv_M := (⟨"CellTree$Client", "splitRoot", "()V"⟩, prog_3_method_18_code, 6, none, 4, 93)
def xt_M40 : xv_M := (⟨"CellTree$Client", "newAddress", "()I"⟩, prog_3_method_20_code, 2, some .int, 0, 0)
def xt_M41 : xv_M := (⟨"CellTree$Content", "middle", "()I"⟩, prog_4_method_10_code, 1, some .int, 0, 0)
def xt_M42 : xv_M := (⟨"CellTree$Content", "leftHalf", "()LCellTree$Content;"⟩, prog_4_method_11_code, 2, some (.object "CellTree$Content"), 3, 72)
def xt_M43 : xv_M := (⟨"java/util/Arrays", "copyOfRange", "([III)[I"⟩, prog_24_method_136_code, 3, some (.array (.int)), 2, 50)
def xt_M44 : xv_M := (⟨"java/util/Arrays", "copyOfRangeInt", "([III)[I"⟩, prog_24_method_137_code, 5, some (.array (.int)), 1, 26)
def xt_M45 : xv_M := (⟨"java/util/Arrays", "checkLength", "(II)V"⟩, prog_24_method_131_code, 2, none, 0, 0)
def xt_M46 : xv_M := (⟨"CellTree$Content", "cut", "()I"⟩, prog_4_method_13_code, 1, some .int, 0, 0)
def xt_M47 : xv_M := (⟨"CellTree$Content", "rightHalf", "()LCellTree$Content;"⟩, prog_4_method_12_code, 2, some (.object "CellTree$Content"), 3, 72)
def xt_M48 : xv_M := (⟨"CellTree$Client", "splitBelow", "(ILCellTree$Cell;)V"⟩, prog_3_method_19_code, 7, none, 4, 93)
def xt_M49 : xv_M := (⟨"CellTree$Content", "withChildBehind", "(III)LCellTree$Content;"⟩, prog_4_method_9_code, 6, some (.object "CellTree$Content"), 2, 51)
def xt_M50 : xv_M := (⟨"CellTree", "beginDraft", "(LCellTree$Client;)V"⟩, prog_1_method_30_code, 3, none, 9, 204)
def xt_M51 : xv_M := (⟨"CellTree", "sendPrepare", "(LCellTree$Transaction;)I"⟩, prog_1_method_31_code, 4, some .int, 8, 181)
def xt_M52 : xv_M := (⟨"CellTree", "send", "(ILCellTree$Transaction;ILCellTree$Cell;)V"⟩, prog_1_method_32_code, 5, none, 7, 157)
def xt_M53 : xv_M := (⟨"java/util/ArrayList", "size", "()I"⟩, prog_23_method_8_code, 1, some .int, 0, 0)
def xt_M54 : xv_M := (⟨"CellTree$Message", "<init>", "(ILCellTree$Transaction;ILCellTree$Cell;)V"⟩, prog_9_method_1_code, 5, none, 1, 26)
def xt_M55 : xv_M := (⟨"java/util/ArrayList", "add", "(Ljava/lang/Object;)Z"⟩, prog_23_method_25_code, 2, some .boolean, 6, 136)
def xt_M56 : xv_M := (⟨"java/util/ArrayList", "add", "(Ljava/lang/Object;[Ljava/lang/Object;I)V"⟩, prog_23_method_24_code, 4, none, 5, 113)
def xt_M57 : xv_M := (⟨"java/util/ArrayList", "grow", "()[Ljava/lang/Object;"⟩, prog_23_method_7_code, 1, some (.array (.object "java/lang/Object")), 4, 93)
def xt_M58 : xv_M := (⟨"java/util/ArrayList", "grow", "(I)[Ljava/lang/Object;"⟩, prog_23_method_6_code, 4, some (.array (.object "java/lang/Object")), 3, 70)
def xt_M59 : xv_M := (⟨"jdk/internal/util/ArraysSupport", "newLength", "(III)I"⟩, prog_30_method_27_code, 4, some .int, 1, 26)
def xt_M60 : xv_M := (⟨"jdk/internal/util/ArraysSupport", "hugeLength", "(II)I"⟩, prog_30_method_28_code, 3, some .int, 0, 0)
def xt_M61 : xv_M := (⟨"java/util/Arrays", "copyOf", "([Ljava/lang/Object;I)[Ljava/lang/Object;"⟩, prog_24_method_119_code, 2, some (.array (.object "java/lang/Object")), 2, 49)
def xt_M62 : xv_M := (⟨"java/util/Arrays", "copyOf", "([Ljava/lang/Object;ILjava/lang/Class;)[Ljava/lang/Object;"⟩, prog_24_method_120_code, 4, some (.array (.object "java/lang/Object")), 1, 26)
def xt_M63 : xv_M := (⟨"CellTree", "put", "(III)Z"⟩, prog_1_method_3_code, 4, some .boolean, 11, 252)
def xt_M64 : xv_M := (⟨"CellTree", "remove", "(II)Z"⟩, prog_1_method_4_code, 3, some .boolean, 11, 252)
def xt_M65 : xv_M := (⟨"CellTree", "scan", "(III)Z"⟩, prog_1_method_5_code, 4, some .boolean, 11, 252)
def xt_M66 : xv_M := (⟨"CellTree", "messages", "()I"⟩, prog_1_method_6_code, 1, some .int, 1, 20)
def xt_M67 : xv_M := (⟨"CellTree", "message", "(I)I"⟩, prog_1_method_7_code, 2, some .int, 3, 64)
def xt_M68 : xv_M := (⟨"CellTree", "isUnderWay", "(I)Z"⟩, prog_1_method_26_code, 2, some .boolean, 1, 20)
def xt_M69 : xv_M := (⟨"java/util/ArrayList", "get", "(I)Ljava/lang/Object;"⟩, prog_23_method_20_code, 2, some (.object "java/lang/Object"), 2, 43)
def xt_M70 : xv_M := (⟨"java/util/Objects", "checkIndex", "(II)I"⟩, prog_27_method_17_code, 2, some .int, 1, 22)
def xt_M71 : xv_M := (⟨"jdk/internal/util/Preconditions", "checkIndex", "(IILjava/util/function/BiFunction;)I"⟩, prog_31_method_11_code, 3, some .int, 0, 0)
def xt_M72 : xv_M := (⟨"java/util/ArrayList", "elementData", "(I)Ljava/lang/Object;"⟩, prog_23_method_18_code, 2, some (.object "java/lang/Object"), 0, 0)
def xt_M73 : xv_M := (⟨"CellTree$Message", "code", "()I"⟩, prog_9_method_2_code, 1, some .int, 0, 0)
def xt_M74 : xv_M := (⟨"CellTree", "deliver", "(I)Z"⟩, prog_1_method_8_code, 3, some .boolean, 11, 248)
def xt_M75 : xv_M := (⟨"java/util/ArrayList", "remove", "(I)Ljava/lang/Object;"⟩, prog_23_method_29_code, 4, some (.object "java/lang/Object"), 2, 49)
def xt_M76 : xv_M := (⟨"java/util/ArrayList", "fastRemove", "([Ljava/lang/Object;I)V"⟩, prog_23_method_39_code, 4, none, 1, 26)
def xt_M77 : xv_M := (⟨"CellTree", "hearAnswer", "(LCellTree$Message;)V"⟩, prog_1_method_34_code, 3, none, 10, 226)
def xt_M78 : xv_M := (⟨"CellTree", "sendVerdict", "(ILCellTree$Transaction;I)V"⟩, prog_1_method_35_code, 5, none, 8, 181)
def xt_M79 : xv_M := (⟨"CellTree$Transaction", "hasSeveralParticipants", "()Z"⟩, prog_12_method_4_code, 3, some .boolean, 0, 0)
def xt_M80 : xv_M := (⟨"CellTree$Client", "goWrong", "()V"⟩, prog_3_method_3_code, 1, none, 1, 21)
def xt_M81 : xv_M := (⟨"CellTree$Client", "forgetPath", "()V"⟩, prog_3_method_8_code, 2, none, 0, 0)
def xt_M82 : xv_M := (⟨"CellTree$Transaction", "isAnsweredByAll", "()Z"⟩, prog_12_method_5_code, 2, some .boolean, 0, 0)
def xt_M83 : xv_M := (⟨"CellTree$Client", "goOn", "(LCellTree$Cell;)V"⟩, prog_3_method_4_code, 2, none, 3, 63)
def xt_M84 : xv_M := (⟨"CellTree$Client", "look", "(LCellTree$Cell;)V"⟩, prog_3_method_9_code, 3, none, 2, 41)
def xt_M85 : xv_M := (⟨"CellTree$Content", "covers", "(I)Z"⟩, prog_4_method_3_code, 2, some .boolean, 0, 0)
def xt_M86 : xv_M := (⟨"CellTree", "reachMemory", "(LCellTree$Message;)V"⟩, prog_1_method_33_code, 4, none, 8, 181)
def xt_M87 : xv_M := (⟨"CellTree$MemoryNode", "commit", "(LCellTree$Transaction;)V"⟩, prog_8_method_4_code, 2, none, 3, 72)
def xt_M88 : xv_M := (⟨"CellTree$MemoryNode", "carryOut", "(LCellTree$Transaction;)V"⟩, prog_8_method_8_code, 5, none, 2, 48)
def xt_M89 : xv_M := (⟨"CellTree$MemoryNode", "isHere", "(LCellTree$Item;)Z"⟩, prog_8_method_10_code, 2, some .boolean, 0, 0)
def xt_M90 : xv_M := (⟨"CellTree$Item", "changes", "()Z"⟩, prog_5_method_3_code, 1, some .boolean, 0, 0)
def xt_M91 : xv_M := (⟨"CellTree$MemoryNode", "setLocks", "(LCellTree$Transaction;I)V"⟩, prog_8_method_9_code, 4, none, 1, 21)
def xt_M92 : xv_M := (⟨"CellTree$MemoryNode", "abort", "(LCellTree$Transaction;)V"⟩, prog_8_method_5_code, 3, none, 2, 44)
def xt_M93 : xv_M := (⟨"CellTree$MemoryNode", "accepts", "(LCellTree$Transaction;)Z"⟩, prog_8_method_2_code, 3, some .boolean, 3, 72)
def xt_M94 : xv_M := (⟨"CellTree$Transaction", "isRead", "()Z"⟩, prog_12_method_3_code, 1, some .boolean, 0, 0)
def xt_M95 : xv_M := (⟨"CellTree$MemoryNode", "canTake", "(LCellTree$Transaction;)Z"⟩, prog_8_method_7_code, 5, some .boolean, 1, 21)
def xt_M96 : xv_M := (⟨"CellTree$Item", "fits", "(LCellTree$Cell;)Z"⟩, prog_5_method_2_code, 2, some .boolean, 0, 0)
def xt_M97 : xv_M := (⟨"CellTree$MemoryNode", "sightFor", "(LCellTree$Transaction;)LCellTree$Cell;"⟩, prog_8_method_3_code, 2, some (.object "CellTree$Cell"), 1, 20)
def xt_M98 : xv_M := (⟨"CellTree", "drop", "(I)Z"⟩, prog_1_method_9_code, 2, some .boolean, 3, 72)
def xt_M99 : xv_M := (⟨"CellTree", "resend", "(I)I"⟩, prog_1_method_10_code, 2, some .int, 9, 204)
def xt_M100 : xv_M := (⟨"CellTree", "crash", "(I)Z"⟩, prog_1_method_11_code, 2, some .boolean, 1, 21)
def xt_M101 : xv_M := (⟨"CellTree", "isPlace", "(I)Z"⟩, prog_1_method_23_code, 1, some .boolean, 0, 0)
def xt_M102 : xv_M := (⟨"CellTree", "isUp", "(I)Z"⟩, prog_1_method_27_code, 2, some .boolean, 0, 0)
def xt_M103 : xv_M := (⟨"CellTree$Client", "goDown", "()V"⟩, prog_3_method_2_code, 2, none, 0, 0)
def xt_M104 : xv_M := (⟨"CellTree", "restart", "(I)Z"⟩, prog_1_method_12_code, 2, some .boolean, 1, 21)
def xt_M105 : xv_M := (⟨"CellTree", "recover", "(I)I"⟩, prog_1_method_13_code, 3, some .int, 5, 116)
def xt_M106 : xv_M := (⟨"CellTree", "isMemory", "(I)Z"⟩, prog_1_method_21_code, 1, some .boolean, 0, 0)
def xt_M107 : xv_M := (⟨"CellTree$MemoryNode", "lowestInDoubt", "(I)I"⟩, prog_8_method_6_code, 3, some .int, 0, 0)
def xt_M108 : xv_M := (⟨"CellTree", "areParticipantsUp", "(LCellTree$Transaction;)Z"⟩, prog_1_method_36_code, 3, some .boolean, 0, 0)
def xt_M109 : xv_M := (⟨"CellTree", "settle", "(LCellTree$Transaction;)V"⟩, prog_1_method_37_code, 4, none, 4, 93)
def xt_M110 : xv_M := (⟨"CellTree", "isToCommit", "(LCellTree$Transaction;)Z"⟩, prog_1_method_38_code, 5, some .boolean, 0, 0)
def xt_M111 : xv_M := (⟨"CellTree", "work", "(I)I"⟩, prog_1_method_14_code, 2, some .int, 1, 20)
def xt_M112 : xv_M := (⟨"CellTree", "about", "(II)I"⟩, prog_1_method_15_code, 4, some .int, 1, 20)
def xt_M113 : xv_M := (⟨"CellTree$Job", "answer", "()I"⟩, prog_7_method_5_code, 1, some .int, 0, 0)
def xt_M114 : xv_M := (⟨"CellTree$Job", "fuelLeft", "()I"⟩, prog_7_method_6_code, 1, some .int, 0, 0)
def xt_M115 : xv_M := (⟨"CellTree$Job", "leavesCollected", "()I"⟩, prog_7_method_7_code, 1, some .int, 0, 0)
def xt_M116 : xv_M := (⟨"CellTree", "copy", "(II)I"⟩, prog_1_method_16_code, 4, some .int, 1, 20)
def xt_M117 : xv_M := (⟨"CellTree", "isAddress", "(I)Z"⟩, prog_1_method_24_code, 1, some .boolean, 0, 0)
def xt_M118 : xv_M := (⟨"CellTree", "cell", "(II)I"⟩, prog_1_method_17_code, 4, some .int, 1, 21)
def xt_M119 : xv_M := (⟨"CellTree", "cellAt", "(I)LCellTree$Cell;"⟩, prog_1_method_28_code, 2, some (.object "CellTree$Cell"), 0, 0)
def xt_M120 : xv_M := (⟨"CellTree", "key", "(II)I"⟩, prog_1_method_18_code, 4, some .int, 1, 21)
def xt_M121 : xv_M := (⟨"CellTree", "item", "(II)I"⟩, prog_1_method_19_code, 4, some .int, 1, 21)
def xt_M122 : xv_M := (⟨"CellTree", "remembers", "(II)I"⟩, prog_1_method_20_code, 3, some .int, 1, 20)
def xt_M123 : xv_M := (⟨"CellTreeModel", "<init>", "()V"⟩, prog_14_method_1_code, 1, none, 1, 26)
def xt_M124 : xv_M := (⟨"CellTreeModel", "plain", "(III)J"⟩, prog_14_method_3_code, 3, some .long, 0, 0)
def xt_M125 : xv_M := (⟨"CellTreeModel", "messages", "()I"⟩, prog_14_method_15_code, 1, some .int, 0, 0)
def xt_M126 : xv_M := (⟨"CellTreeModel", "message", "(I)I"⟩, prog_14_method_16_code, 2, some .int, 1, 22)
def xt_M127 : xv_M := (⟨"CellTreeModel", "in", "(III)Z"⟩, prog_14_method_2_code, 3, some .boolean, 0, 0)
def xt_M128 : xv_M := (⟨"CellTreeModel", "drop", "(I)Z"⟩, prog_14_method_17_code, 4, some .boolean, 1, 22)
def xt_M129 : xv_M := (⟨"CellTreeModel", "deliver", "(I)Z"⟩, prog_14_method_18_code, 12, some .boolean, 11, 282)
def xt_M130 : xv_M := (⟨"CellTreeModel", "prepare", "(II)V"⟩, prog_14_method_23_code, 8, none, 2, 45)
def xt_M131 : xv_M := (⟨"CellTreeModel", "lockOf", "(I)I"⟩, prog_14_method_21_code, 6, some .int, 0, 0)
def xt_M132 : xv_M := (⟨"CellTreeModel", "send", "(III)I"⟩, prog_14_method_14_code, 4, some .int, 0, 0)
def xt_M133 : xv_M := (⟨"CellTreeModel", "fits", "(I)Z"⟩, prog_14_method_22_code, 4, some .boolean, 1, 21)
def xt_M134 : xv_M := (⟨"CellTreeModel", "kindOf", "(J)I"⟩, prog_14_method_4_code, 2, some .int, 0, 0)
def xt_M135 : xv_M := (⟨"CellTreeModel", "parts", "(I)I"⟩, prog_14_method_20_code, 2, some .int, 1, 24)
def xt_M136 : xv_M := (⟨"CellTreeModel", "takesPart", "(II)Z"⟩, prog_14_method_19_code, 5, some .boolean, 0, 0)
def xt_M137 : xv_M := (⟨"CellTreeModel", "carryOut", "(II)V"⟩, prog_14_method_24_code, 6, none, 0, 0)
def xt_M138 : xv_M := (⟨"CellTreeModel", "refused", "(II)V"⟩, prog_14_method_29_code, 5, none, 9, 223)
def xt_M139 : xv_M := (⟨"CellTreeModel", "wrong", "(I)V"⟩, prog_14_method_40_code, 2, none, 8, 202)
def xt_M140 : xv_M := (⟨"CellTreeModel", "forget", "(I)V"⟩, prog_14_method_39_code, 3, none, 0, 0)
def xt_M141 : xv_M := (⟨"CellTreeModel", "anew", "(I)V"⟩, prog_14_method_33_code, 2, none, 7, 181)
def xt_M142 : xv_M := (⟨"CellTreeModel", "startWalk", "(I)V"⟩, prog_14_method_43_code, 2, none, 6, 160)
def xt_M143 : xv_M := (⟨"CellTreeModel", "go", "(II)V"⟩, prog_14_method_41_code, 3, none, 0, 0)
def xt_M144 : xv_M := (⟨"CellTreeModel", "walk", "(I)V"⟩, prog_14_method_44_code, 5, none, 5, 136)
def xt_M145 : xv_M := (⟨"CellTreeModel", "last", "(I)I"⟩, prog_14_method_42_code, 2, some .int, 0, 0)
def xt_M146 : xv_M := (⟨"CellTreeModel", "sizeOf", "(J)I"⟩, prog_14_method_5_code, 2, some .int, 0, 0)
def xt_M147 : xv_M := (⟨"CellTreeModel", "splitInner", "(IJI)V"⟩, prog_14_method_52_code, 13, none, 4, 104)
def xt_M148 : xv_M := (⟨"CellTreeModel", "keyOf", "(JI)I"⟩, prog_14_method_8_code, 3, some .int, 0, 0)
def xt_M149 : xv_M := (⟨"CellTreeModel", "lowOf", "(J)I"⟩, prog_14_method_6_code, 2, some .int, 0, 0)
def xt_M150 : xv_M := (⟨"CellTreeModel", "withKey", "(JII)J"⟩, prog_14_method_11_code, 4, some .long, 0, 0)
def xt_M151 : xv_M := (⟨"CellTreeModel", "sized", "(JI)J"⟩, prog_14_method_10_code, 3, some .long, 0, 0)
def xt_M152 : xv_M := (⟨"CellTreeModel", "childOf", "(JI)I"⟩, prog_14_method_9_code, 3, some .int, 0, 0)
def xt_M153 : xv_M := (⟨"CellTreeModel", "withChild", "(JII)J"⟩, prog_14_method_12_code, 4, some .long, 0, 0)
def xt_M154 : xv_M := (⟨"CellTreeModel", "highOf", "(J)I"⟩, prog_14_method_7_code, 2, some .int, 0, 0)
def xt_M155 : xv_M := (⟨"CellTreeModel", "freshAddress", "(I)I"⟩, prog_14_method_50_code, 3, some .int, 0, 0)
def xt_M156 : xv_M := (⟨"CellTreeModel", "addItem", "(IIIJIII)V"⟩, prog_14_method_26_code, 9, none, 0, 0)
def xt_M157 : xv_M := (⟨"CellTreeModel", "above", "(IZIIII)V"⟩, prog_14_method_53_code, 9, none, 3, 76)
def xt_M158 : xv_M := (⟨"CellTreeModel", "grown", "(JIII)J"⟩, prog_14_method_54_code, 10, some .long, 2, 47)
def xt_M159 : xv_M := (⟨"CellTreeModel", "before", "(JIZ)I"⟩, prog_14_method_13_code, 6, some .int, 1, 22)
def xt_M160 : xv_M := (⟨"CellTreeModel", "begin", "(III)V"⟩, prog_14_method_27_code, 4, none, 2, 47)
def xt_M161 : xv_M := (⟨"CellTreeModel", "ask", "(I)I"⟩, prog_14_method_28_code, 4, some .int, 1, 24)
def xt_M162 : xv_M := (⟨"CellTreeModel", "agreed", "(IIIJIII)V"⟩, prog_14_method_30_code, 11, none, 10, 252)
def xt_M163 : xv_M := (⟨"CellTreeModel", "looked", "(IIJIII)V"⟩, prog_14_method_45_code, 10, none, 9, 223)
def xt_M164 : xv_M := (⟨"CellTreeModel", "collect", "(IIJIII)V"⟩, prog_14_method_55_code, 9, none, 7, 181)
def xt_M165 : xv_M := (⟨"CellTreeModel", "pick", "(IIII)I"⟩, prog_14_method_46_code, 4, some .int, 0, 0)
def xt_M166 : xv_M := (⟨"CellTreeModel", "done", "(I)V"⟩, prog_14_method_38_code, 2, none, 0, 0)
def xt_M167 : xv_M := (⟨"CellTreeModel", "atLeaf", "(IIJIII)V"⟩, prog_14_method_47_code, 11, none, 5, 139)
def xt_M168 : xv_M := (⟨"CellTreeModel", "splitLeaf", "(IIJIII)V"⟩, prog_14_method_51_code, 16, none, 4, 104)
def xt_M169 : xv_M := (⟨"CellTreeModel", "without", "(IIJIIII)V"⟩, prog_14_method_48_code, 12, none, 1, 28)
def xt_M170 : xv_M := (⟨"CellTreeModel", "with", "(IIJIZIII)V"⟩, prog_14_method_49_code, 16, none, 1, 28)
def xt_M171 : xv_M := (⟨"CellTreeModel", "recover", "(I)I"⟩, prog_14_method_25_code, 7, some .int, 1, 25)
def xt_M172 : xv_M := (⟨"CellTreeModel", "get", "(II)Z"⟩, prog_14_method_34_code, 3, some .boolean, 9, 227)
def xt_M173 : xv_M := (⟨"CellTreeModel", "idle", "(I)Z"⟩, prog_14_method_31_code, 2, some .boolean, 1, 22)
def xt_M174 : xv_M := (⟨"CellTreeModel", "start", "(IIIII)V"⟩, prog_14_method_32_code, 6, none, 8, 202)
def xt_M175 : xv_M := (⟨"CellTreeModel", "put", "(III)Z"⟩, prog_14_method_35_code, 4, some .boolean, 9, 227)
def xt_M176 : xv_M := (⟨"CellTreeModel", "remove", "(II)Z"⟩, prog_14_method_36_code, 3, some .boolean, 9, 227)
def xt_M177 : xv_M := (⟨"CellTreeModel", "scan", "(III)Z"⟩, prog_14_method_37_code, 4, some .boolean, 9, 227)
def xt_M178 : xv_M := (⟨"CellTreeModel", "resend", "(I)I"⟩, prog_14_method_56_code, 2, some .int, 2, 47)
def xt_M179 : xv_M := (⟨"CellTreeModel", "crash", "(I)Z"⟩, prog_14_method_57_code, 4, some .boolean, 1, 22)
def xt_M180 : xv_M := (⟨"CellTreeModel", "restart", "(I)Z"⟩, prog_14_method_58_code, 2, some .boolean, 1, 22)
def xt_M181 : xv_M := (⟨"CellTreeModel", "work", "(I)I"⟩, prog_14_method_59_code, 2, some .int, 1, 22)
def xt_M182 : xv_M := (⟨"CellTreeModel", "about", "(II)I"⟩, prog_14_method_60_code, 3, some .int, 1, 22)
def xt_M183 : xv_M := (⟨"CellTreeModel", "copy", "(II)I"⟩, prog_14_method_61_code, 3, some .int, 1, 22)
def xt_M184 : xv_M := (⟨"CellTreeModel", "cell", "(II)I"⟩, prog_14_method_62_code, 5, some .int, 1, 25)
def xt_M185 : xv_M := (⟨"CellTreeModel", "key", "(II)I"⟩, prog_14_method_63_code, 3, some .int, 1, 22)
def xt_M186 : xv_M := (⟨"CellTreeModel", "item", "(II)I"⟩, prog_14_method_64_code, 5, some .int, 1, 22)
def xt_M187 : xv_M := (⟨"CellTreeModel", "remembers", "(II)I"⟩, prog_14_method_65_code, 3, some .int, 1, 22)
def xt_M188 : xv_M := (⟨"CellTreeLaw", "law", "([I)Z"⟩, code, 4, some .boolean, 12, 313)
def xt_mt : List xv_M := [xt_M0, xt_M1, xt_M2, xt_M3, xt_M4, xt_M5, xt_M6, xt_M7, xt_M8, xt_M9, xt_M10, xt_M11, xt_M12, xt_M13, xt_M14, xt_M15, xt_M16, xt_M17, xt_M18, xt_M19, xt_M20, xt_M21, xt_M22, xt_M23, xt_M24, xt_M25, xt_M26, xt_M27, xt_M28, xt_M29, xt_M30, xt_M31, xt_M32, xt_M33, xt_M34, xt_M35, xt_M36, xt_M37, xt_M38, xt_M39, xt_M40, xt_M41, xt_M42, xt_M43, xt_M44, xt_M45, xt_M46, xt_M47, xt_M48, xt_M49, xt_M50, xt_M51, xt_M52, xt_M53, xt_M54, xt_M55, xt_M56, xt_M57, xt_M58, xt_M59, xt_M60, xt_M61, xt_M62, xt_M63, xt_M64, xt_M65, xt_M66, xt_M67, xt_M68, xt_M69, xt_M70, xt_M71, xt_M72, xt_M73, xt_M74, xt_M75, xt_M76, xt_M77, xt_M78, xt_M79, xt_M80, xt_M81, xt_M82, xt_M83, xt_M84, xt_M85, xt_M86, xt_M87, xt_M88, xt_M89, xt_M90, xt_M91, xt_M92, xt_M93, xt_M94, xt_M95, xt_M96, xt_M97, xt_M98, xt_M99, xt_M100, xt_M101, xt_M102, xt_M103, xt_M104, xt_M105, xt_M106, xt_M107, xt_M108, xt_M109, xt_M110, xt_M111, xt_M112, xt_M113, xt_M114, xt_M115, xt_M116, xt_M117, xt_M118, xt_M119, xt_M120, xt_M121, xt_M122, xt_M123, xt_M124, xt_M125, xt_M126, xt_M127, xt_M128, xt_M129, xt_M130, xt_M131, xt_M132, xt_M133, xt_M134, xt_M135, xt_M136, xt_M137, xt_M138, xt_M139, xt_M140, xt_M141, xt_M142, xt_M143, xt_M144, xt_M145, xt_M146, xt_M147, xt_M148, xt_M149, xt_M150, xt_M151, xt_M152, xt_M153, xt_M154, xt_M155, xt_M156, xt_M157, xt_M158, xt_M159, xt_M160, xt_M161, xt_M162, xt_M163, xt_M164, xt_M165, xt_M166, xt_M167, xt_M168, xt_M169, xt_M170, xt_M171, xt_M172, xt_M173, xt_M174, xt_M175, xt_M176, xt_M177, xt_M178, xt_M179, xt_M180, xt_M181, xt_M182, xt_M183, xt_M184, xt_M185, xt_M186, xt_M187, xt_M188]
def xt_yL : Nat := 188
def xt_mxL : List (List Nat) := [[4, 6, 3, 4, 3, 1, 1, 1, 1, 3, 7, 1, 1, 5, 1, 1], [2, 1, 1, 1, 5, 1, 3, 2, 2, 5, 5, 3, 3, 1, 5, 4], [4, 2, 2, 3, 2, 2, 3, 6, 2, 1, 2, 3, 5, 2, 1, 2], [7, 6, 3, 4, 5, 1, 5, 2, 4, 1, 4, 4, 3, 2, 4, 4], [3, 4, 1, 2, 2, 2, 2, 3, 2, 1, 3, 4, 4, 3, 5, 3], [1, 2, 2, 2, 3, 2, 4, 2, 5, 2, 1, 4, 3, 3, 1, 5], [2, 2, 2, 2, 2, 1, 2, 2, 2, 3, 1, 3, 3, 4, 5, 2], [4, 1, 1, 1, 4, 1, 4, 2, 4, 4, 3, 1, 3, 1, 2, 3], [4, 12, 8, 6, 4, 4, 2, 2, 5, 6, 5, 2, 3, 2, 2, 3], [5, 2, 2, 13, 3, 2, 4, 3, 3, 4, 2, 3, 9, 9, 10, 6], [4, 4, 11, 10, 9, 4, 2, 11, 16, 12, 16, 7, 3, 2, 6, 4], [3, 4, 2, 4, 2, 2, 3, 3, 5, 3, 5, 3, 4]]
def xt_csL : List (List Nat) := [[0, 6, 7, 3, 1, 2, 10, 99, 99, 0, 0, 0, 0, 2, 1, 2], [1, 1, 1, 1, 2, 2, 1, 1, 4, 4, 5, 1, 6, 6, 6, 6], [6, 1, 6, 6, 1, 6, 1, 1, 1, 6, 6, 99, 99, 99, 6, 6], [1, 6, 0, 0, 0, 10, 8, 10, 10, 10, 10, 99, 99, 99, 99, 0], [0, 0, 0, 0, 0, 10, 99, 99, 10, 8, 0, 10, 10, 0, 0, 4], [1, 1, 4, 1, 1, 6, 0, 3, 3, 3, 5, 3, 3, 3, 4, 3], [5, 3, 0, 0, 0, 0, 0, 1, 0, 0, 0, 3, 0, 0, 0, 0], [0, 2, 2, 2, 0, 0, 0, 0, 0, 0, 0, 9, 9, 9, 9, 9], [9, 9, 9, 9, 9, 9, 9, 9, 9, 9, 9, 9, 9, 9, 9, 9], [9, 9, 9, 9, 9, 9, 9, 9, 9, 9, 9, 9, 9, 9, 9, 9], [9, 9, 9, 9, 9, 9, 9, 9, 9, 9, 9, 9, 9, 9, 9, 9], [9, 9, 9, 9, 9, 9, 9, 9, 9, 9, 9, 9, 99]]
def xt_lgL : List (List (List Nat)) := [[[], [], [], [], [], [], [], [], [], [], [], [], [], [], [], []], [[], [], [], [], [], [], [], [], [], [], [], [], [], [], [], []], [[], [], [], [], [], [], [], [], [], [], [], [], [], [], [], []], [[], [], [], [], [], [], [], [], [], [], [], [], [], [], [], []], [[], [], [], [], [], [], [], [], [], [], [], [], [], [], [], []], [[], [], [], [], [], [], [], [], [], [], [], [], [], [], [], []], [[], [], [], [], [], [], [], [], [], [], [], [], [], [], [], []], [[], [], [], [], [], [], [], [], [], [], [], [], [], [], [], []], [[], [6], [], [], [], [], [0], [], [], [], [], [], [], [], [], []], [[3], [], [0], [2, 6, 8], [0], [0], [0], [0], [0], [0], [0], [], [4], [7], [0, 6], [0]], [[], [], [4], [3], [3], [], [], [3], [3, 9, 11], [3, 9], [3, 11], [], [], [], [], []], [[], [], [], [], [], [], [], [], [3], [], [3], [], []]]
def xt_2 {β : Type} (d : β) (l : List (List β)) (y : Nat) : β := match l[y / 16]? with
  | some t => match t[y % 16]? with
    | some x => x
    | none => d
  | none => d
def xt_mx (y : Nat) : Nat := xt_2 0 xt_mxL y
def xt_cs (y : Nat) : Nat := xt_2 99 xt_csL y
def xt_lg (y : Nat) : List Nat := xt_2 [] xt_lgL y
def xt_tb : List (List Jvm.Cond) := [tables_1_1, tables_1_2, tables_1_3, tables_1_4, tables_1_5, tables_1_6]
/-- a word by its place: 0.. the tables, from 10000 on those of the private methods -/
def xt_w (p : Nat) : Option Jvm.Cond := if p < 10000 then (match xt_tb[p / 240]? with
    | some l => l[p % 240]?
    | none => none) else (k2_sels lw_privs)[p - 10000]?
def xt_lk : List (Nat × xv_I) → Nat → Option xv_I
  | [], _ => none
  | (k, i) :: t, n => match Nat.beq k n with
    | true => some i
    | false => xt_lk t n
end
section
/-! The code of each method, resolved; and the places of the words that each instruction needs. -/
-- CellTree.<init>()V
def xt_c0 : List (List (Nat × xv_I)) := [[(0, .aload_n 0, 0, 0), (1, .invokespecial 1, 1001, 0), (4, .new 7, 6, 5), (7, .dup, 0, 0), (8, .iconst 0, 0, 0), (9, .iconst 0, 0, 0), (10, .iconst 0, 0, 0), (11, .iconst 0, 0, 0), (12, .newarray .int, 100, 0), (14, .iconst 0, 0, 0), (15, .newarray .int, 100, 0)], [(17, .invokespecial 11, 1, 5), (20, .astore_n 1, 0, 0), (21, .new 14, 7, 2), (24, .dup, 0, 0), (25, .iconst 0, 0, 0), (26, .aload_n 1, 0, 0), (27, .invokespecial 16, 2, 2), (30, .astore_n 2, 0, 0), (31, .aload_n 0, 0, 0)], [(32, .iconst 3, 0, 0), (33, .anewarray 19, 104, 0), (36, .putfield 21, 0, 1), (39, .iconst 0, 0, 0), (40, .istore_n 3, 0, 0), (41, .iload_n 3, 0, 0), (42, .iconst 3, 0, 0), (43, .if_icmp .ge 24, 0, 0), (46, .aload_n 0, 0, 0), (47, .getfield 21, 0, 1)], [(50, .iload_n 3, 0, 0), (51, .new 19, 3, 5), (54, .dup, 0, 0), (55, .iload_n 3, 0, 0), (56, .aload_n 2, 0, 0), (57, .invokespecial 25, 3, 2), (60, .aastore, 104, 0), (61, .iinc 3 1, 0, 0)], [(64, .goto (-23), 0, 0), (67, .aload_n 0, 0, 0), (68, .getfield 21, 0, 1), (71, .iconst 0, 0, 0), (72, .aaload, 104, 0), (73, .getfield 28, 301, 1), (76, .iconst 0, 0, 0), (77, .new 14, 7, 2)], [(80, .dup, 0, 0), (81, .iconst 0, 0, 0), (82, .new 7, 6, 5), (85, .dup, 0, 0), (86, .iconst 1, 0, 0), (87, .iconst 0, 0, 0), (88, .bipush 100, 0, 0), (90, .iconst 0, 0, 0), (91, .newarray .int, 100, 0), (93, .iconst 0, 0, 0), (94, .newarray .int, 100, 0)], [(96, .invokespecial 11, 1, 5), (99, .invokespecial 16, 2, 2), (102, .aastore, 108, 0), (103, .aload_n 0, 0, 0), (104, .iconst 2, 0, 0), (105, .anewarray 32, 105, 0), (108, .putfield 34, 1, 1), (111, .aload_n 0, 0, 0)], [(112, .getfield 34, 1, 1), (115, .iconst 0, 0, 0), (116, .new 32, 1, 13), (119, .dup, 0, 0), (120, .iconst 0, 0, 0), (121, .iconst 1, 0, 0), (122, .invokespecial 38, 4, 2), (125, .aastore, 105, 0), (126, .aload_n 0, 0, 0), (127, .getfield 34, 1, 1)], [(130, .iconst 1, 0, 0), (131, .new 32, 1, 13), (134, .dup, 0, 0), (135, .iconst 1, 0, 0), (136, .bipush 9, 0, 0), (138, .invokespecial 38, 4, 2), (141, .aastore, 105, 0), (142, .aload_n 0, 0, 0), (143, .new 41, 10, 3)], [(146, .dup, 0, 0), (147, .invokespecial 43, 6, 0), (150, .putfield 44, 2, 1), (153, .aload_n 0, 0, 0), (154, .sipush 513, 0, 0), (157, .anewarray 48, 106, 0)], [(160, .putfield 50, 3, 1), (163, .return_, 0, 0)]]
def xt_v0 : List (List (List Nat)) := [[[], [29, 30, 31], [32, 33, 2], [], [], [], [], [], [65], [], [65]], [[34, 35], [], [66, 67, 3], [], [], [], [68, 69], [], []], [[], [88], [255], [], [], [], [], [], [], [255]], [[], [88, 90, 4], [], [], [], [91, 92], [], []], [[], [], [255], [], [], [99], [], [66, 67, 3]], [[], [], [32, 33, 2], [], [], [], [], [], [65], [], [65]], [[34, 35], [68, 69], [], [], [], [118], [256], []], [[256], [], [118, 120, 5], [], [], [], [121, 122], [], [], [256]], [[], [118, 120, 5], [], [], [], [121, 122], [], [], [227, 228, 11]], [[], [229, 230], [257], [], [], [253]], [[258], []]]
-- CellTree$Content.<init>(III[I[I)V
def xt_c1 : List (List (Nat × xv_I)) := [[(0, .aload_n 0, 0, 0), (1, .invokespecial 3, 1001, 0), (4, .aload_n 0, 0, 0), (5, .iload_n 1, 0, 0), (6, .putfield 9, 600, 0), (9, .aload_n 0, 0, 0), (10, .iload_n 2, 0, 0), (11, .putfield 15, 601, 0), (14, .aload_n 0, 0, 0), (15, .iload_n 3, 0, 0)], [(16, .putfield 18, 602, 0), (19, .aload_n 0, 0, 0), (20, .aload 4, 0, 0), (22, .putfield 21, 603, 1), (25, .aload_n 0, 0, 0), (26, .aload 5, 0, 0), (28, .putfield 25, 604, 1), (31, .return_, 0, 0)]]
def xt_v1 : List (List (List Nat)) := [[[], [37, 30, 31], [], [], [38], [], [], [42], [], []], [[44], [], [], [47], [], [], [50], []]]
-- CellTree$Cell.<init>(ILCellTree$Content;)V
def xt_c2 : List (List (Nat × xv_I)) := [[(0, .aload_n 0, 0, 0), (1, .invokespecial 1, 1001, 0), (4, .aload_n 0, 0, 0), (5, .iload_n 1, 0, 0), (6, .putfield 7, 700, 0), (9, .aload_n 0, 0, 0), (10, .aload_n 2, 0, 0), (11, .putfield 13, 701, 1), (14, .return_, 0, 0)]]
def xt_v2 : List (List (List Nat)) := [[[], [71, 30, 31], [], [], [72], [], [], [78], []]]
-- CellTree$MemoryNode.<init>(ILCellTree$Cell;)V
def xt_c3 : List (List (Nat × xv_I)) := [[(0, .aload_n 0, 0, 0), (1, .invokespecial 3, 1001, 0), (4, .aload_n 0, 0, 0), (5, .bipush 8, 0, 0), (7, .anewarray 9, 108, 0), (10, .putfield 11, 301, 1), (13, .aload_n 0, 0, 0), (14, .bipush 8, 0, 0)], [(16, .newarray .int, 100, 0), (18, .putfield 17, 302, 1), (21, .aload_n 0, 0, 0), (22, .sipush 513, 0, 0), (25, .newarray .byte, 101, 0), (27, .putfield 21, 303, 1), (30, .aload_n 0, 0, 0), (31, .iconst 1, 0, 0)], [(32, .putfield 25, 304, 2), (35, .aload_n 0, 0, 0), (36, .iload_n 1, 0, 0), (37, .putfield 29, 300, 0), (40, .iconst 0, 0, 0), (41, .istore_n 3, 0, 0), (42, .iload_n 3, 0, 0), (43, .bipush 8, 0, 0), (45, .if_icmp .ge 16, 0, 0)], [(48, .aload_n 0, 0, 0), (49, .getfield 11, 301, 1), (52, .iload_n 3, 0, 0), (53, .aload_n 2, 0, 0), (54, .aastore, 108, 0), (55, .iinc 3 1, 0, 0), (58, .goto (-16), 0, 0), (61, .return_, 0, 0)]]
def xt_v3 : List (List (List Nat)) := [[[], [94, 30, 31], [], [], [95], [98], [], []], [[65], [100], [], [], [117], [102], [], []], [[104], [], [], [97], [], [], [], [], []], [[], [98], [], [], [], [], [], []]]
-- CellTree$Client.<init>(II)V
def xt_c4 : List (List (Nat × xv_I)) := [[(0, .aload_n 0, 0, 0), (1, .invokespecial 3, 1001, 0), (4, .aload_n 0, 0, 0), (5, .bipush 24, 0, 0), (7, .anewarray 9, 108, 0), (10, .putfield 11, 101, 1), (13, .aload_n 0, 0, 0), (14, .new 17, 2, 11)], [(17, .dup, 0, 0), (18, .invokespecial 19, 5, 0), (21, .putfield 20, 102, 1), (24, .aload_n 0, 0, 0), (25, .bipush 24, 0, 0), (27, .newarray .int, 100, 0), (29, .putfield 24, 103, 1)], [(32, .aload_n 0, 0, 0), (33, .iconst 1, 0, 0), (34, .putfield 28, 104, 0), (37, .aload_n 0, 0, 0), (38, .iconst 1, 0, 0), (39, .putfield 32, 107, 2), (42, .aload_n 0, 0, 0), (43, .getstatic 36, 11, 0), (46, .putfield 42, 109, 1)], [(49, .aload_n 0, 0, 0), (50, .getstatic 36, 11, 0), (53, .putfield 45, 110, 1), (56, .aload_n 0, 0, 0), (57, .iload_n 1, 0, 0), (58, .putfield 48, 100, 0), (61, .aload_n 0, 0, 0), (62, .iload_n 2, 0, 0), (63, .putfield 51, 108, 0)], [(66, .return_, 0, 0)]]
def xt_v4 : List (List (List Nat)) := [[[], [124, 30, 31], [], [], [125], [181], [], [126, 127, 6]], [[], [99999, 129], [183], [], [], [65], [185]], [[], [], [186], [], [], [189], [], [178], [193]], [[], [178], [195], [], [], [180], [], [], [191]], [[]]]
-- CellTree$Job.<init>()V
def xt_c5 : List (List (Nat × xv_I)) := [[(0, .aload_n 0, 0, 0), (1, .invokespecial 3, 1001, 0), (4, .aload_n 0, 0, 0), (5, .bipush 6, 0, 0), (7, .newarray .int, 100, 0), (9, .putfield 9, 200, 1), (12, .aload_n 0, 0, 0), (13, .bipush 6, 0, 0), (15, .newarray .int, 100, 0)], [(17, .putfield 15, 201, 1), (20, .return_, 0, 0)]]
def xt_v5 : List (List (List Nat)) := [[[], [131, 30, 31], [], [], [65], [132], [], [], [65]], [[134], []]]
-- java/util/ArrayList.<init>()V
def xt_c6 : List (List (Nat × xv_I)) := [[(0, .aload_n 0, 0, 0), (1, .invokespecial 1, 7, 0), (4, .aload_n 0, 0, 0), (5, .getstatic 39, 2, 0), (8, .putfield 9, 1000, 1), (11, .return_, 0, 0)]]
def xt_v6 : List (List (List Nat)) := [[[], [232, 233], [], [239], [241], []]]
-- java/util/AbstractList.<init>()V
def xt_c7 : List (List (Nat × xv_I)) := [[(0, .aload_n 0, 0, 0), (1, .invokespecial 1, 8, 0), (4, .aload_n 0, 0, 0), (5, .iconst 0, 0, 0), (6, .putfield 7, 1002, 0), (9, .return_, 0, 0)]]
def xt_v7 : List (List (List Nat)) := [[[], [235, 236], [], [], [243], []]]
-- java/util/AbstractCollection.<init>()V
def xt_c8 : List (List (Nat × xv_I)) := [[(0, .aload_n 0, 0, 0), (1, .invokespecial 1, 1001, 0), (4, .return_, 0, 0)]]
def xt_v8 : List (List (List Nat)) := [[[], [238, 30, 31], []]]
-- CellTree.get(II)Z
def xt_c9 : List (List (Nat × xv_I)) := [[(0, .aload_n 0, 0, 0), (1, .iload_n 1, 0, 0), (2, .getstatic 54, 3, 0), (5, .iload_n 2, 0, 0), (6, .iload_n 2, 0, 0), (7, .iconst 0, 0, 0), (8, .invokevirtual 60, 10, 5), (11, .ireturn, 0, 2)]]
def xt_v9 : List (List (List Nat)) := [[[], [], [275], [], [], [], [277, 279, 10000], []]]
-- CellTree.beginWork(ILCellTree$Task;III)Z
def xt_c10 : List (List (Nat × xv_I)) := [[(0, .iload_n 1, 0, 0), (1, .invokestatic 111, 11, 1), (4, .ifCond .eq 24, 0, 0), (7, .iload_n 3, 0, 0), (8, .invokestatic 212, 12, 1), (11, .ifCond .eq 17, 0, 0), (14, .iload 4, 0, 0)], [(16, .invokestatic 212, 12, 1), (19, .ifCond .eq 9, 0, 0), (22, .iload 4, 0, 0), (24, .iload_n 3, 0, 0), (25, .if_icmp .ge 5, 0, 0), (28, .iconst 0, 0, 0), (29, .ireturn, 0, 2), (30, .aload_n 0, 0, 0), (31, .getfield 34, 1, 1)], [(34, .iload_n 1, 0, 0), (35, .aaload, 105, 0), (36, .astore 6, 0, 0), (38, .aload 6, 0, 0), (40, .getfield 131, 107, 2), (43, .ifCond .eq 15, 0, 0), (46, .aload 6, 0, 0)], [(48, .getfield 150, 102, 1), (51, .getfield 154, 207, 0), (54, .iconst 1, 0, 0), (55, .if_icmp .ne 5, 0, 0), (58, .iconst 0, 0, 0), (59, .ireturn, 0, 2), (60, .aload 6, 0, 0), (62, .getfield 150, 102, 1)], [(65, .aload_n 2, 0, 0), (66, .iload_n 3, 0, 0), (67, .iload 4, 0, 0), (69, .iload 5, 0, 0), (71, .invokevirtual 215, 13, 4), (74, .aload 6, 0, 0), (76, .getstatic 219, 15, 0), (79, .putfield 225, 109, 1)], [(82, .aload 6, 0, 0), (84, .invokevirtual 228, 14, 0), (87, .aload_n 0, 0, 0), (88, .aload 6, 0, 0), (90, .invokevirtual 231, 50, 1), (93, .iconst 1, 0, 0), (94, .ireturn, 0, 2)]]
def xt_v10 : List (List (List Nat)) := [[[], [281, 282], [], [], [284, 285], [], []], [[284, 285], [], [], [], [], [], [], [], [256]], [[], [], [], [], [190], [], []], [[184], [148], [], [], [], [], [], [184]], [[], [], [], [], [287, 288, 289], [], [291], [194]], [[], [293, 294, 295], [], [], [529, 531, 10015], [], []]]
-- CellTree.isClient(I)Z
def xt_c11 : List (List (Nat × xv_I)) := [[(0, .iload_n 0, 0, 0), (1, .ifCond .lt 12, 0, 0), (4, .iload_n 0, 0, 0), (5, .iconst 2, 0, 0), (6, .if_icmp .ge 7, 0, 0), (9, .iconst 1, 0, 0), (10, .goto 4, 0, 0), (13, .iconst 0, 0, 0), (14, .ireturn, 0, 2)]]
def xt_v11 : List (List (List Nat)) := [[[], [], [], [], [], [], [], [], []]]
-- CellTree.isKey(I)Z
def xt_c12 : List (List (Nat × xv_I)) := [[(0, .iload_n 0, 0, 0), (1, .ifCond .lt 13, 0, 0), (4, .iload_n 0, 0, 0), (5, .bipush 100, 0, 0), (7, .if_icmp .ge 7, 0, 0), (10, .iconst 1, 0, 0), (11, .goto 4, 0, 0), (14, .iconst 0, 0, 0), (15, .ireturn, 0, 2)]]
def xt_v12 : List (List (List Nat)) := [[[], [], [], [], [], [], [], [], []]]
-- CellTree$Job.assign(LCellTree$Task;III)V
def xt_c13 : List (List (Nat × xv_I)) := [[(0, .aload_n 0, 0, 0), (1, .aload_n 1, 0, 0), (2, .putfield 18, 203, 1), (5, .aload_n 0, 0, 0), (6, .iload_n 2, 0, 0), (7, .putfield 22, 204, 0), (10, .aload_n 0, 0, 0), (11, .iload_n 3, 0, 0), (12, .putfield 26, 205, 0), (15, .aload_n 0, 0, 0)], [(16, .iload 4, 0, 0), (18, .putfield 29, 206, 0), (21, .aload_n 0, 0, 0), (22, .iconst 1, 0, 0), (23, .putfield 32, 207, 0), (26, .aload_n 0, 0, 0), (27, .bipush 10, 0, 0), (29, .putfield 35, 208, 0)], [(32, .return_, 0, 0)]]
def xt_v13 : List (List (List Nat)) := [[[], [], [138], [], [], [140], [], [], [142], []], [[], [144], [], [], [147], [], [], [149]], [[]]]
-- CellTree$Client.advance()V
def xt_c14 : List (List (Nat × xv_I)) := [[(0, .aload_n 0, 0, 0), (1, .getfield 42, 109, 1), (4, .getstatic 67, 15, 0), (7, .if_acmp .ne 21, 0, 0), (10, .aload_n 0, 0, 0), (11, .getfield 20, 102, 1), (14, .invokevirtual 86, 15, 0)], [(17, .aload_n 0, 0, 0), (18, .aload_n 0, 0, 0), (19, .getfield 20, 102, 1), (22, .getfield 89, 204, 0), (25, .invokevirtual 92, 16, 1), (28, .aload_n 0, 0, 0), (29, .getfield 42, 109, 1)], [(32, .getstatic 96, 16, 0), (35, .if_acmp .ne 23, 0, 0), (38, .aload_n 0, 0, 0), (39, .getfield 20, 102, 1), (42, .getfield 99, 203, 1), (45, .getstatic 103, 6, 0)], [(48, .if_acmp .ne 10, 0, 0), (51, .aload_n 0, 0, 0), (52, .invokevirtual 108, 17, 0), (55, .goto 17, 0, 0), (58, .aload_n 0, 0, 0), (59, .getfield 42, 109, 1), (62, .getstatic 96, 16, 0)], [(65, .if_acmp .ne 7, 0, 0), (68, .aload_n 0, 0, 0), (69, .invokevirtual 111, 27, 0), (72, .aload_n 0, 0, 0), (73, .getfield 42, 109, 1), (76, .getstatic 114, 17, 0), (79, .if_acmp .ne 7, 0, 0)], [(82, .aload_n 0, 0, 0), (83, .invokevirtual 117, 36, 0), (86, .aload_n 0, 0, 0), (87, .getfield 42, 109, 1), (90, .getstatic 120, 18, 0), (93, .if_acmp .ne 7, 0, 0)], [(96, .aload_n 0, 0, 0), (97, .invokevirtual 123, 38, 0), (100, .aload_n 0, 0, 0), (101, .getstatic 36, 11, 0), (104, .putfield 42, 109, 1), (107, .return_, 0, 0)]]
def xt_v14 : List (List (List Nat)) := [[[], [193], [297], [], [], [183], [298, 299, 300]], [[], [], [183], [141], [302, 304, 10001], [], [193]], [[308], [], [], [183], [139], [310]], [[], [], [312, 314, 10002], [], [], [193], [308]], [[], [], [404, 406, 10007], [], [193], [306], []], [[], [459, 461, 10009], [], [193], [418], []], [[], [471, 473, 10010], [], [178], [193], []]]
-- CellTree$Job.forgetResult()V
def xt_c15 : List (List (Nat × xv_I)) := [[(0, .aload_n 0, 0, 0), (1, .iconst 0, 0, 0), (2, .putfield 38, 202, 0), (5, .aload_n 0, 0, 0), (6, .iconst 0, 0, 0), (7, .putfield 41, 209, 2), (10, .aload_n 0, 0, 0), (11, .iconst 0, 0, 0), (12, .putfield 45, 210, 0), (15, .return_, 0, 0)]]
def xt_v15 : List (List (List Nat)) := [[[], [], [136], [], [], [151], [], [], [153], []]]
-- CellTree$Client.walkFor(I)V
def xt_c16 : List (List (Nat × xv_I)) := [[(0, .aload_n 0, 0, 0), (1, .iload_n 1, 0, 0), (2, .putfield 143, 105, 0), (5, .aload_n 0, 0, 0), (6, .iconst 1, 0, 0), (7, .putfield 28, 104, 0), (10, .aload_n 0, 0, 0), (11, .getstatic 114, 17, 0), (14, .putfield 42, 109, 1)], [(17, .return_, 0, 0)]]
def xt_v16 : List (List (List Nat)) := [[[], [], [187], [], [], [186], [], [306], [193]], [[]]]
-- CellTree$Client.collectLeaf()V
def xt_c17 : List (List (Nat × xv_I)) := [[(0, .aload_n 0, 0, 0), (1, .getfield 20, 102, 1), (4, .getfield 210, 202, 0), (7, .bipush 6, 0, 0), (9, .if_icmp .lt 8, 0, 0), (12, .aload_n 0, 0, 0), (13, .invokevirtual 70, 18, 0)], [(16, .return_, 0, 0), (17, .aload_n 0, 0, 0), (18, .getfield 20, 102, 1), (21, .aload_n 0, 0, 0), (22, .invokevirtual 135, 19, 0), (25, .aload_n 0, 0, 0), (26, .getfield 139, 106, 1), (29, .invokevirtual 213, 20, 2)], [(32, .aload_n 0, 0, 0), (33, .getfield 139, 106, 1), (36, .getfield 126, 701, 1), (39, .getfield 217, 602, 0), (42, .aload_n 0, 0, 0), (43, .getfield 20, 102, 1), (46, .getfield 220, 205, 0)], [(49, .if_icmp .gt 20, 0, 0), (52, .aload_n 0, 0, 0), (53, .aload_n 0, 0, 0), (54, .getfield 139, 106, 1), (57, .getfield 126, 701, 1), (60, .getfield 217, 602, 0), (63, .invokevirtual 92, 16, 1)], [(66, .goto 28, 0, 0), (69, .aload_n 0, 0, 0), (70, .getfield 20, 102, 1), (73, .getfield 210, 202, 0), (76, .iconst 1, 0, 0), (77, .if_icmp .ne 13, 0, 0)], [(80, .aload_n 0, 0, 0), (81, .getfield 20, 102, 1), (84, .invokevirtual 83, 21, 0), (87, .goto 7, 0, 0), (90, .aload_n 0, 0, 0), (91, .invokevirtual 223, 22, 0), (94, .return_, 0, 0)]]
def xt_v17 : List (List (List Nat)) := [[[], [183], [137], [], [], [], [316, 318, 10003]], [[], [], [183], [], [320, 322, 10004], [], [188], [324, 325, 326]], [[], [188], [81], [45], [], [183], [143]], [[], [], [], [188], [81], [45], [302, 304, 10001]], [[], [], [183], [137], [], []], [[], [183], [328, 329, 330], [], [], [332, 334, 10005], []]]
-- CellTree$Client.giveUp()V
def xt_c18 : List (List (Nat × xv_I)) := [[(0, .aload_n 0, 0, 0), (1, .getfield 20, 102, 1), (4, .iconst 4, 0, 0), (5, .putfield 58, 207, 0), (8, .aload_n 0, 0, 0), (9, .getstatic 36, 11, 0), (12, .putfield 42, 109, 1), (15, .return_, 0, 0)]]
def xt_v18 : List (List (List Nat)) := [[[], [183], [], [146], [], [178], [193], []]]
-- CellTree$Client.endAddress()I
def xt_c19 : List (List (Nat × xv_I)) := [[(0, .aload_n 0, 0, 0), (1, .getfield 24, 103, 1), (4, .aload_n 0, 0, 0), (5, .getfield 28, 104, 0), (8, .iconst 1, 0, 0), (9, .isub, 0, 0), (10, .iaload, 0, 0), (11, .ireturn, 0, 0)]]
def xt_v19 : List (List (List Nat)) := [[[], [185], [], [186], [], [], [], []]]
-- CellTree$Job.collect(ILCellTree$Cell;)V
def xt_c20 : List (List (Nat × xv_I)) := [[(0, .aload_n 0, 0, 0), (1, .getfield 9, 200, 1), (4, .aload_n 0, 0, 0), (5, .getfield 38, 202, 0), (8, .iload_n 1, 0, 0), (9, .iastore, 0, 0), (10, .aload_n 0, 0, 0), (11, .getfield 15, 201, 1), (14, .aload_n 0, 0, 0), (15, .getfield 38, 202, 0)], [(18, .aload_n 2, 0, 0), (19, .getfield 53, 700, 0), (22, .iastore, 0, 0), (23, .aload_n 0, 0, 0), (24, .dup, 0, 0), (25, .getfield 38, 202, 0), (28, .iconst 1, 0, 0), (29, .iadd, 0, 0), (30, .putfield 38, 202, 0)], [(33, .iconst 0, 0, 0), (34, .istore_n 3, 0, 0), (35, .iload_n 3, 0, 0), (36, .aload_n 2, 0, 0), (37, .getfield 58, 701, 1), (40, .getfield 62, 603, 1), (43, .arraylength, 100, 0), (44, .if_icmp .ge 61, 0, 0), (47, .aload_n 2, 0, 0)], [(48, .getfield 58, 701, 1), (51, .getfield 62, 603, 1), (54, .iload_n 3, 0, 0), (55, .iaload, 0, 0), (56, .istore 4, 0, 0), (58, .aload_n 0, 0, 0), (59, .getfield 22, 204, 0), (62, .iload 4, 0, 0)], [(64, .if_icmp .gt 35, 0, 0), (67, .iload 4, 0, 0), (69, .aload_n 0, 0, 0), (70, .getfield 26, 205, 0), (73, .if_icmp .gt 26, 0, 0), (76, .aload_n 0, 0, 0), (77, .iconst 1, 0, 0), (78, .putfield 41, 209, 2)], [(81, .aload_n 0, 0, 0), (82, .dup, 0, 0), (83, .getfield 45, 210, 0), (86, .aload_n 2, 0, 0), (87, .getfield 58, 701, 1), (90, .getfield 67, 604, 1), (93, .iload_n 3, 0, 0), (94, .iaload, 0, 0), (95, .iadd, 0, 0)], [(96, .putfield 45, 210, 0), (99, .iinc 3 1, 0, 0), (102, .goto (-67), 0, 0), (105, .return_, 0, 0)]]
def xt_v20 : List (List (List Nat)) := [[[], [132], [], [136], [], [], [], [134], [], [136]], [[], [74], [], [], [], [136], [], [], [136]], [[], [], [], [], [80], [48], [], [], []], [[80], [48], [], [], [], [], [140], []], [[], [], [], [142], [], [], [], [151]], [[], [], [153], [], [80], [51], [], [], []], [[153], [], [], []]]
-- CellTree$Job.finish()V
def xt_c21 : List (List (Nat × xv_I)) := [[(0, .aload_n 0, 0, 0), (1, .aload_n 0, 0, 0), (2, .getfield 41, 209, 2), (5, .ifCond .eq 7, 0, 0), (8, .iconst 3, 0, 0), (9, .goto 4, 0, 0), (12, .iconst 2, 0, 0), (13, .putfield 32, 207, 0)], [(16, .return_, 0, 0)]]
def xt_v21 : List (List (List Nat)) := [[[], [], [151], [], [], [], [], [147]], [[]]]
-- CellTree$Client.draftCheck()V
def xt_c22 : List (List (Nat × xv_I)) := [[(0, .aload_n 0, 0, 0), (1, .getstatic 231, 13, 0), (4, .invokevirtual 153, 23, 1), (7, .astore_n 1, 0, 0), (8, .iconst 0, 0, 0), (9, .istore_n 2, 0, 0), (10, .iload_n 2, 0, 0), (11, .aload_n 0, 0, 0), (12, .getfield 20, 102, 1), (15, .getfield 210, 202, 0)], [(18, .if_icmp .ge 35, 0, 0), (21, .aload_n 1, 0, 0), (22, .getstatic 240, 8, 0), (25, .aload_n 0, 0, 0), (26, .getfield 20, 102, 1), (29, .getfield 243, 200, 1)], [(32, .iload_n 2, 0, 0), (33, .iaload, 0, 0), (34, .aload_n 0, 0, 0), (35, .getfield 20, 102, 1), (38, .getfield 246, 201, 1), (41, .iload_n 2, 0, 0), (42, .iaload, 0, 0), (43, .aconst_null, 0, 0), (44, .invokevirtual 163, 25, 4), (47, .iinc 2 1, 0, 0)], [(50, .goto (-40), 0, 0), (53, .return_, 0, 0)]]
def xt_v22 : List (List (List Nat)) := [[[], [336], [338, 340, 10006], [], [], [], [], [], [183], [137]], [[], [], [377], [], [183], [133]], [[], [], [], [183], [135], [], [], [], [379, 380, 381], []], [[], []]]
-- CellTree$Client.draftFor(LCellTree$Step;)LCellTree$Transaction;
def xt_c23 : List (List (Nat × xv_I)) := [[(0, .aload_n 0, 0, 0), (1, .aload_n 1, 0, 0), (2, .putfield 45, 110, 1), (5, .aload_n 0, 0, 0), (6, .new 164, 4, 6), (9, .dup, 0, 0), (10, .aload_n 0, 0, 0), (11, .getfield 48, 100, 0), (14, .invokespecial 226, 24, 1)], [(17, .putfield 228, 112, 1), (20, .aload_n 0, 0, 0), (21, .getfield 228, 112, 1), (24, .areturn, 0, 0)]]
def xt_v23 : List (List (List Nat)) := [[[], [], [195], [], [342, 343, 14], [], [], [180], [344, 345]], [[198], [], [198], []]]
-- CellTree$Transaction.<init>(I)V
def xt_c24 : List (List (Nat × xv_I)) := [[(0, .aload_n 0, 0, 0), (1, .invokespecial 3, 1001, 0), (4, .aload_n 0, 0, 0), (5, .bipush 6, 0, 0), (7, .anewarray 9, 107, 0), (10, .putfield 11, 401, 1), (13, .aload_n 0, 0, 0), (14, .iconst 3, 0, 0), (15, .newarray .boolean, 102, 0)], [(17, .putfield 17, 402, 1), (20, .aload_n 0, 0, 0), (21, .iconst 3, 0, 0), (22, .newarray .boolean, 102, 0), (24, .putfield 21, 403, 1), (27, .aload_n 0, 0, 0), (28, .iload_n 1, 0, 0), (29, .putfield 24, 400, 0)], [(32, .return_, 0, 0)]]
def xt_v24 : List (List (List Nat)) := [[[], [347, 30, 31], [], [], [348], [352], [], [], [376]], [[354], [], [], [376], [356], [], [], [350]], [[]]]
-- CellTree$Transaction.include(LCellTree$ItemKind;IILCellTree$Content;)V
def xt_c25 : List (List (Nat × xv_I)) := [[(0, .aload_n 0, 0, 0), (1, .getfield 28, 404, 0), (4, .aload_n 0, 0, 0), (5, .getfield 11, 401, 1), (8, .arraylength, 107, 0), (9, .if_icmp .ge 44, 0, 0), (12, .aload_n 0, 0, 0), (13, .getfield 11, 401, 1)], [(16, .aload_n 0, 0, 0), (17, .getfield 28, 404, 0), (20, .new 9, 5, 4), (23, .dup, 0, 0), (24, .aload_n 1, 0, 0), (25, .iload_n 2, 0, 0), (26, .iload_n 3, 0, 0), (27, .aload 4, 0, 0), (29, .invokespecial 31, 26, 4)], [(32, .aastore, 107, 0), (33, .aload_n 0, 0, 0), (34, .dup, 0, 0), (35, .getfield 28, 404, 0), (38, .iconst 1, 0, 0), (39, .iadd, 0, 0), (40, .putfield 28, 404, 0), (43, .aload_n 0, 0, 0), (44, .getfield 17, 402, 1), (47, .iload_n 2, 0, 0)], [(48, .bipush 8, 0, 0), (50, .idiv, 0, 0), (51, .iconst 1, 0, 0), (52, .bastore, 0, 0), (53, .return_, 0, 0)]]
def xt_v25 : List (List (List Nat)) := [[[], [358], [], [352], [], [], [], [352]], [[], [358], [348, 383, 16], [], [], [], [], [], [384, 385]], [[], [], [], [358], [], [], [358], [], [354], []], [[], [], [], [], []]]
-- CellTree$Item.<init>(LCellTree$ItemKind;IILCellTree$Content;)V
def xt_c26 : List (List (Nat × xv_I)) := [[(0, .aload_n 0, 0, 0), (1, .invokespecial 3, 1001, 0), (4, .aload_n 0, 0, 0), (5, .aload_n 1, 0, 0), (6, .putfield 9, 500, 1), (9, .aload_n 0, 0, 0), (10, .iload_n 2, 0, 0), (11, .putfield 15, 501, 0), (14, .aload_n 0, 0, 0), (15, .iload_n 3, 0, 0)], [(16, .putfield 19, 502, 0), (19, .aload_n 0, 0, 0), (20, .aload 4, 0, 0), (22, .putfield 22, 503, 1), (25, .return_, 0, 0)]]
def xt_v26 : List (List (List Nat)) := [[[], [387, 30, 31], [], [], [388], [], [], [390], [], []], [[392], [], [], [393], []]]
-- CellTree$Client.useLeaf()V
def xt_c27 : List (List (Nat × xv_I)) := [[(0, .aload_n 0, 0, 0), (1, .getfield 139, 106, 1), (4, .getfield 126, 701, 1), (7, .astore_n 1, 0, 0), (8, .aload_n 1, 0, 0), (9, .aload_n 0, 0, 0), (10, .getfield 20, 102, 1), (13, .getfield 89, 204, 0)], [(16, .invokevirtual 180, 28, 1), (19, .istore_n 2, 0, 0), (20, .aload_n 0, 0, 0), (21, .getfield 20, 102, 1), (24, .iload_n 2, 0, 0), (25, .iconst (-1), 0, 0), (26, .if_icmp .eq 7, 0, 0), (29, .iconst 1, 0, 0), (30, .goto 4, 0, 0)], [(33, .iconst 0, 0, 0), (34, .putfield 183, 209, 2), (37, .aload_n 0, 0, 0), (38, .getfield 20, 102, 1), (41, .aload_n 0, 0, 0), (42, .getfield 20, 102, 1), (45, .getfield 183, 209, 2)], [(48, .ifCond .eq 12, 0, 0), (51, .aload_n 1, 0, 0), (52, .getfield 186, 604, 1), (55, .iload_n 2, 0, 0), (56, .iaload, 0, 0), (57, .goto 4, 0, 0), (60, .iconst 0, 0, 0), (61, .putfield 189, 210, 0)], [(64, .aload_n 0, 0, 0), (65, .getfield 20, 102, 1), (68, .getfield 99, 203, 1), (71, .getstatic 169, 4, 0), (74, .if_acmp .ne 30, 0, 0), (77, .aload_n 0, 0, 0), (78, .getfield 20, 102, 1)], [(81, .getfield 183, 209, 2), (84, .ifCond .ne 20, 0, 0), (87, .aload_n 1, 0, 0), (88, .invokevirtual 172, 29, 0), (91, .ifCond .eq 13, 0, 0), (94, .aload_n 0, 0, 0), (95, .getstatic 120, 18, 0)], [(98, .putfield 42, 109, 1), (101, .goto 83, 0, 0), (104, .aload_n 0, 0, 0), (105, .getfield 20, 102, 1), (108, .getfield 99, 203, 1), (111, .getstatic 169, 4, 0)], [(114, .if_acmp .ne 28, 0, 0), (117, .aload_n 0, 0, 0), (118, .aload_n 1, 0, 0), (119, .aload_n 0, 0, 0), (120, .getfield 20, 102, 1), (123, .getfield 89, 204, 0), (126, .aload_n 0, 0, 0), (127, .getfield 20, 102, 1)], [(130, .getfield 192, 206, 0), (133, .invokevirtual 195, 30, 2), (136, .invokevirtual 199, 33, 1), (139, .goto 45, 0, 0), (142, .aload_n 0, 0, 0), (143, .getfield 20, 102, 1)], [(146, .getfield 99, 203, 1), (149, .getstatic 203, 5, 0), (152, .if_acmp .ne 25, 0, 0), (155, .aload_n 0, 0, 0), (156, .getfield 20, 102, 1), (159, .getfield 183, 209, 2)], [(162, .ifCond .eq 15, 0, 0), (165, .aload_n 0, 0, 0), (166, .aload_n 1, 0, 0), (167, .iload_n 2, 0, 0), (168, .invokevirtual 206, 34, 1), (171, .invokevirtual 199, 33, 1), (174, .goto 10, 0, 0)], [(177, .aload_n 0, 0, 0), (178, .getfield 20, 102, 1), (181, .invokevirtual 83, 21, 0), (184, .return_, 0, 0)]]
def xt_v27 : List (List (List Nat)) := [[[], [188], [81], [], [], [], [183], [141]], [[408, 409, 410], [], [], [183], [], [], [], [], []], [[], [152], [], [183], [], [183], [152]], [[], [], [52], [], [], [], [], [154]], [[], [183], [139], [412], [], [], [183]], [[152], [], [], [414, 415, 416], [], [], [418]], [[193], [], [], [183], [139], [412]], [[], [], [], [], [183], [141], [], [183]], [[145], [420, 421, 422], [444, 446, 10008], [], [], [183]], [[139], [450], [], [], [183], [152]], [[], [], [], [], [452, 453, 454], [444, 446, 10008], []], [[], [183], [328, 329, 330], []]]
-- CellTree$Content.indexOf(I)I
def xt_c28 : List (List (Nat × xv_I)) := [[(0, .iconst 0, 0, 0), (1, .istore_n 2, 0, 0), (2, .iload_n 2, 0, 0), (3, .aload_n 0, 0, 0), (4, .getfield 21, 603, 1), (7, .arraylength, 100, 0), (8, .if_icmp .ge 21, 0, 0), (11, .aload_n 0, 0, 0), (12, .getfield 21, 603, 1), (15, .iload_n 2, 0, 0)], [(16, .iaload, 0, 0), (17, .iload_n 1, 0, 0), (18, .if_icmp .ne 5, 0, 0), (21, .iload_n 2, 0, 0), (22, .ireturn, 0, 0), (23, .iinc 2 1, 0, 0), (26, .goto (-24), 0, 0), (29, .iconst (-1), 0, 0), (30, .ireturn, 0, 0)]]
def xt_v28 : List (List (List Nat)) := [[[], [], [], [], [47], [], [], [], [47], []], [[], [], [], [], [], [], [], [], []]]
-- CellTree$Content.isFull()Z
def xt_c29 : List (List (Nat × xv_I)) := [[(0, .aload_n 0, 0, 0), (1, .getfield 21, 603, 1), (4, .arraylength, 100, 0), (5, .iconst 3, 0, 0), (6, .if_icmp .lt 7, 0, 0), (9, .iconst 1, 0, 0), (10, .goto 4, 0, 0), (13, .iconst 0, 0, 0), (14, .ireturn, 0, 2)]]
def xt_v29 : List (List (List Nat)) := [[[], [47], [], [], [], [], [], [], []]]
-- CellTree$Content.withEntry(II)LCellTree$Content;
def xt_c30 : List (List (Nat × xv_I)) := [[(0, .aload_n 0, 0, 0), (1, .iload_n 1, 0, 0), (2, .invokevirtual 32, 28, 1), (5, .istore_n 3, 0, 0), (6, .iload_n 3, 0, 0), (7, .iconst (-1), 0, 0), (8, .if_icmp .eq 46, 0, 0), (11, .aload_n 0, 0, 0), (12, .getfield 25, 604, 1), (15, .invokevirtual 35, 1002, 0)], [(18, .checkcast 36, 100, 0), (21, .astore 4, 0, 0), (23, .aload 4, 0, 0), (25, .iload_n 3, 0, 0), (26, .iload_n 2, 0, 0), (27, .iastore, 0, 0), (28, .new 10, 6, 5), (31, .dup, 0, 0)], [(32, .aload_n 0, 0, 0), (33, .getfield 9, 600, 0), (36, .aload_n 0, 0, 0), (37, .getfield 15, 601, 0), (40, .aload_n 0, 0, 0), (41, .getfield 18, 602, 0), (44, .aload_n 0, 0, 0), (45, .getfield 21, 603, 1)], [(48, .aload 4, 0, 0), (50, .invokespecial 40, 1, 5), (53, .areturn, 0, 0), (54, .aload_n 0, 0, 0), (55, .iload_n 1, 0, 0), (56, .invokevirtual 28, 31, 1), (59, .istore 4, 0, 0), (61, .new 10, 6, 5)], [(64, .dup, 0, 0), (65, .aload_n 0, 0, 0), (66, .getfield 9, 600, 0), (69, .aload_n 0, 0, 0), (70, .getfield 15, 601, 0), (73, .aload_n 0, 0, 0), (74, .getfield 18, 602, 0), (77, .aload_n 0, 0, 0), (78, .getfield 21, 603, 1)], [(81, .iload 4, 0, 0), (83, .iload_n 1, 0, 0), (84, .invokestatic 43, 32, 3), (87, .aload_n 0, 0, 0), (88, .getfield 25, 604, 1), (91, .iload 4, 0, 0), (93, .iload_n 2, 0, 0), (94, .invokestatic 43, 32, 3)], [(97, .invokespecial 40, 1, 5), (100, .areturn, 0, 0)]]
def xt_v30 : List (List (List Nat)) := [[[], [], [424, 409, 410], [], [], [], [], [], [50], [425, 426, 427, 428, 429]], [[431], [], [], [], [], [], [432, 33, 2], []], [[], [38], [], [42], [], [44], [], [47]], [[], [433, 35], [], [], [], [434, 435, 436], [], [432, 33, 2]], [[], [], [38], [], [42], [], [44], [], [47]], [[], [], [438, 439], [], [50], [], [], [438, 439]], [[433, 35], []]]
-- CellTree$Content.countNotGreater(I)I
def xt_c31 : List (List (Nat × xv_I)) := [[(0, .iconst 0, 0, 0), (1, .istore_n 2, 0, 0), (2, .iconst 0, 0, 0), (3, .istore_n 3, 0, 0), (4, .iload_n 3, 0, 0), (5, .aload_n 0, 0, 0), (6, .getfield 21, 603, 1), (9, .arraylength, 100, 0), (10, .if_icmp .ge 22, 0, 0), (13, .aload_n 0, 0, 0), (14, .getfield 21, 603, 1)], [(17, .iload_n 3, 0, 0), (18, .iaload, 0, 0), (19, .iload_n 1, 0, 0), (20, .if_icmp .gt 6, 0, 0), (23, .iinc 2 1, 0, 0), (26, .iinc 3 1, 0, 0), (29, .goto (-25), 0, 0)], [(32, .iload_n 2, 0, 0), (33, .ireturn, 0, 0)]]
def xt_v31 : List (List (List Nat)) := [[[], [], [], [], [], [], [47], [], [], [], [47]], [[], [], [], [], [], [], []], [[], []]]
-- CellTree$Content.inserted([III)[I
def xt_c32 : List (List (Nat × xv_I)) := [[(0, .aload_n 0, 0, 0), (1, .arraylength, 100, 0), (2, .iconst 1, 0, 0), (3, .iadd, 0, 0), (4, .newarray .int, 100, 0), (6, .astore_n 3, 0, 0), (7, .aload_n 0, 0, 0), (8, .iconst 0, 0, 0), (9, .aload_n 3, 0, 0), (10, .iconst 0, 0, 0), (11, .iload_n 1, 0, 0), (12, .invokestatic 63, 1000, 100), (15, .aload_n 3, 0, 0)], [(16, .iload_n 1, 0, 0), (17, .iload_n 2, 0, 0), (18, .iastore, 0, 0), (19, .aload_n 0, 0, 0), (20, .iload_n 1, 0, 0), (21, .aload_n 3, 0, 0), (22, .iload_n 1, 0, 0), (23, .iconst 1, 0, 0), (24, .iadd, 0, 0), (25, .aload_n 0, 0, 0), (26, .arraylength, 100, 0), (27, .iload_n 1, 0, 0), (28, .isub, 0, 0), (29, .invokestatic 63, 1000, 100)], [(32, .aload_n 3, 0, 0), (33, .areturn, 0, 0)]]
def xt_v32 : List (List (List Nat)) := [[[], [], [], [], [65], [], [], [], [], [], [], [441, 443, 442, 17], []], [[], [], [], [], [], [], [], [], [], [], [], [], [], [441, 443, 442, 17]], [[], []]]
-- CellTree$Client.draftChange(LCellTree$Content;)V
def xt_c33 : List (List (Nat × xv_I)) := [[(0, .aload_n 0, 0, 0), (1, .getstatic 231, 13, 0), (4, .invokevirtual 153, 23, 1), (7, .getstatic 234, 9, 0), (10, .aload_n 0, 0, 0), (11, .invokevirtual 135, 19, 0), (14, .aload_n 0, 0, 0), (15, .getfield 139, 106, 1)], [(18, .getfield 237, 700, 0), (21, .aload_n 1, 0, 0), (22, .invokevirtual 163, 25, 4), (25, .return_, 0, 0)]]
def xt_v33 : List (List (List Nat)) := [[[], [336], [338, 340, 10006], [448], [], [320, 322, 10004], [], [188]], [[76], [], [379, 380, 381], []]]
-- CellTree$Content.withoutEntry(I)LCellTree$Content;
def xt_c34 : List (List (Nat × xv_I)) := [[(0, .new 10, 6, 5), (3, .dup, 0, 0), (4, .aload_n 0, 0, 0), (5, .getfield 9, 600, 0), (8, .aload_n 0, 0, 0), (9, .getfield 15, 601, 0), (12, .aload_n 0, 0, 0), (13, .getfield 18, 602, 0)], [(16, .aload_n 0, 0, 0), (17, .getfield 21, 603, 1), (20, .iload_n 1, 0, 0), (21, .invokestatic 47, 35, 2), (24, .aload_n 0, 0, 0), (25, .getfield 25, 604, 1), (28, .iload_n 1, 0, 0), (29, .invokestatic 47, 35, 2)], [(32, .invokespecial 40, 1, 5), (35, .areturn, 0, 0)]]
def xt_v34 : List (List (List Nat)) := [[[432, 33, 2], [], [], [38], [], [42], [], [44]], [[], [47], [], [456, 457], [], [50], [], [456, 457]], [[433, 35], []]]
-- CellTree$Content.removed([II)[I
def xt_c35 : List (List (Nat × xv_I)) := [[(0, .aload_n 0, 0, 0), (1, .arraylength, 100, 0), (2, .iconst 1, 0, 0), (3, .isub, 0, 0), (4, .newarray .int, 100, 0), (6, .astore_n 2, 0, 0), (7, .aload_n 0, 0, 0), (8, .iconst 0, 0, 0), (9, .aload_n 2, 0, 0), (10, .iconst 0, 0, 0), (11, .iload_n 1, 0, 0), (12, .invokestatic 63, 1000, 100), (15, .aload_n 0, 0, 0)], [(16, .iload_n 1, 0, 0), (17, .iconst 1, 0, 0), (18, .iadd, 0, 0), (19, .aload_n 2, 0, 0), (20, .iload_n 1, 0, 0), (21, .aload_n 2, 0, 0), (22, .arraylength, 100, 0), (23, .iload_n 1, 0, 0), (24, .isub, 0, 0), (25, .invokestatic 63, 1000, 100), (28, .aload_n 2, 0, 0), (29, .areturn, 0, 0)]]
def xt_v35 : List (List (List Nat)) := [[[], [], [], [], [65], [], [], [], [], [], [], [441, 443, 442, 17], []], [[], [], [], [], [], [], [], [], [], [441, 443, 442, 17], [], []]]
-- CellTree$Client.walk()V
def xt_c36 : List (List (Nat × xv_I)) := [[(0, .aload_n 0, 0, 0), (1, .getfield 28, 104, 0), (4, .aload_n 0, 0, 0), (5, .getfield 24, 103, 1), (8, .arraylength, 100, 0), (9, .if_icmp .ge 106, 0, 0), (12, .aload_n 0, 0, 0), (13, .getfield 11, 101, 1)], [(16, .aload_n 0, 0, 0), (17, .invokevirtual 135, 19, 0), (20, .aaload, 108, 0), (21, .astore_n 1, 0, 0), (22, .aload_n 1, 0, 0), (23, .ifnonnull 23, 0, 0), (26, .aload_n 0, 0, 0), (27, .getstatic 73, 12, 0), (30, .invokevirtual 153, 23, 1)], [(33, .getstatic 157, 7, 0), (36, .aload_n 0, 0, 0), (37, .invokevirtual 135, 19, 0), (40, .iconst 0, 0, 0), (41, .aconst_null, 0, 0), (42, .invokevirtual 163, 25, 4), (45, .return_, 0, 0), (46, .aload_n 0, 0, 0), (47, .getfield 20, 102, 1)], [(50, .getfield 99, 203, 1), (53, .getstatic 169, 4, 0), (56, .if_acmp .ne 26, 0, 0), (59, .aload_n 1, 0, 0), (60, .getfield 126, 701, 1), (63, .invokevirtual 172, 29, 0)], [(66, .ifCond .eq 16, 0, 0), (69, .aload_n 0, 0, 0), (70, .aload_n 1, 0, 0), (71, .putfield 139, 106, 1), (74, .aload_n 0, 0, 0), (75, .getstatic 120, 18, 0), (78, .putfield 42, 109, 1)], [(81, .return_, 0, 0), (82, .aload_n 0, 0, 0), (83, .getfield 24, 103, 1), (86, .aload_n 0, 0, 0), (87, .getfield 28, 104, 0), (90, .aload_n 1, 0, 0), (91, .getfield 126, 701, 1), (94, .aload_n 0, 0, 0), (95, .getfield 143, 105, 0)], [(98, .invokevirtual 176, 37, 1), (101, .iastore, 0, 0), (102, .aload_n 0, 0, 0), (103, .dup, 0, 0), (104, .getfield 28, 104, 0), (107, .iconst 1, 0, 0), (108, .iadd, 0, 0), (109, .putfield 28, 104, 0)], [(112, .goto (-112), 0, 0), (115, .aload_n 0, 0, 0), (116, .invokevirtual 70, 18, 0), (119, .return_, 0, 0)]]
def xt_v36 : List (List (List Nat)) := [[[], [186], [], [185], [], [], [], [181]], [[], [320, 322, 10004], [], [], [], [], [], [463], [338, 340, 10006]], [[465], [], [320, 322, 10004], [], [], [379, 380, 381], [], [], [183]], [[139], [412], [], [], [81], [414, 415, 416]], [[], [], [], [188], [], [418], [193]], [[], [], [185], [], [186], [], [81], [], [187]], [[467, 468, 469], [], [], [], [186], [], [], [186]], [[], [], [316, 318, 10003], []]]
-- CellTree$Content.childFor(I)I
def xt_c37 : List (List (Nat × xv_I)) := [[(0, .aload_n 0, 0, 0), (1, .getfield 25, 604, 1), (4, .aload_n 0, 0, 0), (5, .iload_n 1, 0, 0), (6, .invokevirtual 28, 31, 1), (9, .iaload, 0, 0), (10, .ireturn, 0, 0)]]
def xt_v37 : List (List (List Nat)) := [[[], [50], [], [], [434, 435, 436], [], []]]
-- CellTree$Client.split()V
def xt_c38 : List (List (Nat × xv_I)) := [[(0, .aload_n 0, 0, 0), (1, .getfield 28, 104, 0), (4, .iconst 1, 0, 0), (5, .if_icmp .ne 8, 0, 0), (8, .aload_n 0, 0, 0), (9, .invokevirtual 249, 39, 0), (12, .return_, 0, 0), (13, .aload_n 0, 0, 0), (14, .getfield 24, 103, 1)], [(17, .aload_n 0, 0, 0), (18, .getfield 28, 104, 0), (21, .iconst 2, 0, 0), (22, .isub, 0, 0), (23, .iaload, 0, 0), (24, .istore_n 1, 0, 0), (25, .aload_n 0, 0, 0), (26, .getfield 11, 101, 1), (29, .iload_n 1, 0, 0), (30, .aaload, 108, 0), (31, .astore_n 2, 0, 0)], [(32, .aload_n 2, 0, 0), (33, .ifnonnull 10, 0, 0), (36, .aload_n 0, 0, 0), (37, .invokevirtual 70, 18, 0), (40, .goto 9, 0, 0), (43, .aload_n 0, 0, 0), (44, .iload_n 1, 0, 0), (45, .aload_n 2, 0, 0), (46, .invokevirtual 252, 48, 2)], [(49, .return_, 0, 0)]]
def xt_v38 : List (List (List Nat)) := [[[], [186], [], [], [], [475, 477, 10011], [], [], [185]], [[], [186], [], [], [], [], [], [181], [], [], []], [[], [], [], [316, 318, 10003], [], [], [], [], [521, 523, 10014]], [[]]]
-- CellTree$Client.splitRoot()V
def xt_c39 : List (List (Nat × xv_I)) := [[(0, .aload_n 0, 0, 0), (1, .invokevirtual 255, 40, 0), (4, .istore_n 1, 0, 0), (5, .aload_n 0, 0, 0), (6, .invokevirtual 255, 40, 0), (9, .istore_n 2, 0, 0), (10, .iconst 1, 0, 0), (11, .newarray .int, 100, 0), (13, .dup, 0, 0), (14, .iconst 0, 0, 0), (15, .aload_n 0, 0, 0)], [(16, .getfield 139, 106, 1), (19, .getfield 126, 701, 1), (22, .invokevirtual 258, 41, 0), (25, .iastore, 0, 0), (26, .astore_n 3, 0, 0), (27, .iconst 2, 0, 0), (28, .newarray .int, 100, 0), (30, .dup, 0, 0), (31, .iconst 0, 0, 0)], [(32, .iload_n 1, 0, 0), (33, .iastore, 0, 0), (34, .dup, 0, 0), (35, .iconst 1, 0, 0), (36, .iload_n 2, 0, 0), (37, .iastore, 0, 0), (38, .astore 4, 0, 0), (40, .aload_n 0, 0, 0), (41, .getstatic 80, 14, 0), (44, .invokevirtual 153, 23, 1), (47, .astore 5, 0, 0)], [(49, .aload 5, 0, 0), (51, .getstatic 261, 10, 0), (54, .iload_n 1, 0, 0), (55, .iconst 0, 0, 0), (56, .aload_n 0, 0, 0), (57, .getfield 139, 106, 1), (60, .getfield 126, 701, 1), (63, .invokevirtual 264, 42, 0)], [(66, .invokevirtual 163, 25, 4), (69, .aload 5, 0, 0), (71, .getstatic 261, 10, 0), (74, .iload_n 2, 0, 0), (75, .iconst 0, 0, 0), (76, .aload_n 0, 0, 0), (77, .getfield 139, 106, 1)], [(80, .getfield 126, 701, 1), (83, .invokevirtual 268, 47, 0), (86, .invokevirtual 163, 25, 4), (89, .aload 5, 0, 0), (91, .getstatic 234, 9, 0), (94, .iconst 0, 0, 0), (95, .aload_n 0, 0, 0)], [(96, .getfield 139, 106, 1), (99, .getfield 237, 700, 0), (102, .new 131, 6, 5), (105, .dup, 0, 0), (106, .iconst 2, 0, 0), (107, .iconst 0, 0, 0), (108, .bipush 100, 0, 0), (110, .aload_n 3, 0, 0), (111, .aload 4, 0, 0)], [(113, .invokespecial 271, 1, 5), (116, .invokevirtual 163, 25, 4), (119, .return_, 0, 0)]]
def xt_v39 : List (List (List Nat)) := [[[], [479, 481, 10012], [], [], [479, 481, 10012], [], [], [65], [], [], []], [[188], [81], [483, 484, 485], [], [], [], [65], [], []], [[], [], [], [], [], [], [], [], [487], [338, 340, 10006], []], [[], [489], [], [], [], [188], [81], [491, 492, 493]], [[379, 380, 381], [], [489], [], [], [], [188]], [[81], [515, 516, 517], [379, 380, 381], [], [448], [], []], [[188], [76], [519, 33, 2], [], [], [], [], [], []], [[520, 35], [379, 380, 381], []]]
-- CellTree$Client.newAddress()I
def xt_c40 : List (List (Nat × xv_I)) := [[(0, .aload_n 0, 0, 0), (1, .getfield 51, 108, 0), (4, .istore_n 1, 0, 0), (5, .aload_n 0, 0, 0), (6, .aload_n 0, 0, 0), (7, .getfield 51, 108, 0), (10, .bipush 23, 0, 0), (12, .if_icmp .lt 7, 0, 0), (15, .iconst 1, 0, 0)], [(16, .goto 9, 0, 0), (19, .aload_n 0, 0, 0), (20, .getfield 51, 108, 0), (23, .iconst 1, 0, 0), (24, .iadd, 0, 0), (25, .putfield 51, 108, 0), (28, .iload_n 1, 0, 0), (29, .ireturn, 0, 0)]]
def xt_v40 : List (List (List Nat)) := [[[], [191], [], [], [], [191], [], [], []], [[], [], [191], [], [], [191], [], []]]
-- CellTree$Content.middle()I
def xt_c41 : List (List (Nat × xv_I)) := [[(0, .aload_n 0, 0, 0), (1, .getfield 21, 603, 1), (4, .iconst 1, 0, 0), (5, .iaload, 0, 0), (6, .ireturn, 0, 0)]]
def xt_v41 : List (List (List Nat)) := [[[], [47], [], [], []]]
-- CellTree$Content.leftHalf()LCellTree$Content;
def xt_c42 : List (List (Nat × xv_I)) := [[(0, .aload_n 0, 0, 0), (1, .getfield 21, 603, 1), (4, .iconst 0, 0, 0), (5, .iconst 1, 0, 0), (6, .invokestatic 51, 43, 3), (9, .astore_n 1, 0, 0), (10, .new 10, 6, 5), (13, .dup, 0, 0), (14, .aload_n 0, 0, 0), (15, .getfield 9, 600, 0)], [(18, .aload_n 0, 0, 0), (19, .getfield 15, 601, 0), (22, .aload_n 0, 0, 0), (23, .invokevirtual 56, 41, 0), (26, .aload_n 1, 0, 0), (27, .aload_n 0, 0, 0), (28, .getfield 25, 604, 1), (31, .iconst 0, 0, 0)], [(32, .aload_n 0, 0, 0), (33, .invokevirtual 60, 46, 0), (36, .invokestatic 51, 43, 3), (39, .invokespecial 40, 1, 5), (42, .areturn, 0, 0)]]
def xt_v42 : List (List (List Nat)) := [[[], [47], [], [], [495, 496], [], [432, 33, 2], [], [], [38]], [[], [42], [], [510, 484, 485], [], [], [50], []], [[], [511, 513, 10013], [495, 496], [433, 35], []]]
-- java/util/Arrays.copyOfRange([III)[I
def xt_c43 : List (List (Nat × xv_I)) := [[(0, .iload_n 1, 0, 0), (1, .ifCond .ne 9, 0, 0), (4, .iload_n 2, 0, 0), (5, .aload_n 0, 0, 0), (6, .arraylength, 100, 0), (7, .if_icmp .eq 10, 0, 0), (10, .aload_n 0, 0, 0), (11, .iload_n 1, 0, 0), (12, .iload_n 2, 0, 0), (13, .invokestatic 351, 44, 3)], [(16, .areturn, 0, 0), (17, .aload_n 0, 0, 0), (18, .invokevirtual 316, 1002, 0), (21, .checkcast 317, 100, 0), (24, .areturn, 0, 0)]]
def xt_v43 : List (List (List Nat)) := [[[], [], [], [], [], [], [], [], [], [498, 499]], [[], [], [508, 426, 427, 428, 429], [509], []]]
-- java/util/Arrays.copyOfRangeInt([III)[I
def xt_c44 : List (List (Nat × xv_I)) := [[(0, .iload_n 1, 0, 0), (1, .iload_n 2, 0, 0), (2, .invokestatic 343, 45, 2), (5, .iload_n 2, 0, 0), (6, .iload_n 1, 0, 0), (7, .isub, 0, 0), (8, .istore_n 3, 0, 0), (9, .iload_n 3, 0, 0), (10, .newarray .int, 100, 0), (12, .astore 4, 0, 0), (14, .aload_n 0, 0, 0), (15, .iload_n 1, 0, 0)], [(16, .aload 4, 0, 0), (18, .iconst 0, 0, 0), (19, .aload_n 0, 0, 0), (20, .arraylength, 100, 0), (21, .iload_n 1, 0, 0), (22, .isub, 0, 0), (23, .iload_n 3, 0, 0), (24, .invokestatic 304, 1004, 0), (27, .invokestatic 150, 1000, 100), (30, .aload 4, 0, 0)], [(32, .areturn, 0, 0)]]
def xt_v44 : List (List (List Nat)) := [[[], [], [501, 502], [], [], [], [], [], [65], [], [], []], [[], [], [], [], [], [], [], [504, 505, 19, 506], [507, 443, 442, 17], []], [[]]]
-- java/util/Arrays.checkLength(II)V
def xt_c45 : List (List (Nat × xv_I)) := [[(0, .iload_n 1, 0, 0), (1, .iload_n 0, 0, 0), (2, .if_icmp .ge 35, 0, 0)], [], [(37, .return_, 0, 0)]]
def xt_v45 : List (List (List Nat)) := [[[], [], []], [], [[]]]
-- CellTree$Content.cut()I
def xt_c46 : List (List (Nat × xv_I)) := [[(0, .aload_n 0, 0, 0), (1, .getfield 9, 600, 0), (4, .iconst 1, 0, 0), (5, .if_icmp .ne 7, 0, 0), (8, .iconst 1, 0, 0), (9, .goto 4, 0, 0), (12, .iconst 2, 0, 0), (13, .ireturn, 0, 0)]]
def xt_v46 : List (List (List Nat)) := [[[], [38], [], [], [], [], [], []]]
-- CellTree$Content.rightHalf()LCellTree$Content;
def xt_c47 : List (List (Nat × xv_I)) := [[(0, .aload_n 0, 0, 0), (1, .getfield 21, 603, 1), (4, .aload_n 0, 0, 0), (5, .invokevirtual 60, 46, 0), (8, .aload_n 0, 0, 0), (9, .getfield 21, 603, 1), (12, .arraylength, 100, 0), (13, .invokestatic 51, 43, 3)], [(16, .astore_n 1, 0, 0), (17, .new 10, 6, 5), (20, .dup, 0, 0), (21, .aload_n 0, 0, 0), (22, .getfield 9, 600, 0), (25, .aload_n 0, 0, 0), (26, .invokevirtual 56, 41, 0), (29, .aload_n 0, 0, 0), (30, .getfield 18, 602, 0)], [(33, .aload_n 1, 0, 0), (34, .aload_n 0, 0, 0), (35, .getfield 25, 604, 1), (38, .aload_n 0, 0, 0), (39, .invokevirtual 60, 46, 0), (42, .aload_n 0, 0, 0), (43, .getfield 25, 604, 1), (46, .arraylength, 100, 0), (47, .invokestatic 51, 43, 3)], [(50, .invokespecial 40, 1, 5), (53, .areturn, 0, 0)]]
def xt_v47 : List (List (List Nat)) := [[[], [47], [], [511, 513, 10013], [], [47], [], [495, 496]], [[], [432, 33, 2], [], [], [38], [], [510, 484, 485], [], [44]], [[], [], [50], [], [511, 513, 10013], [], [50], [], [495, 496]], [[433, 35], []]]
-- CellTree$Client.splitBelow(ILCellTree$Cell;)V
def xt_c48 : List (List (Nat × xv_I)) := [[(0, .aload_n 0, 0, 0), (1, .invokevirtual 135, 19, 0), (4, .istore_n 3, 0, 0), (5, .aload_n 0, 0, 0), (6, .invokevirtual 255, 40, 0), (9, .istore 4, 0, 0), (11, .aload_n 2, 0, 0), (12, .getfield 126, 701, 1), (15, .iload_n 3, 0, 0)], [(16, .aload_n 0, 0, 0), (17, .getfield 139, 106, 1), (20, .getfield 126, 701, 1), (23, .invokevirtual 258, 41, 0), (26, .iload 4, 0, 0), (28, .invokevirtual 274, 49, 3), (31, .astore 5, 0, 0)], [(33, .aload_n 0, 0, 0), (34, .getstatic 80, 14, 0), (37, .invokevirtual 153, 23, 1), (40, .astore 6, 0, 0), (42, .aload 6, 0, 0), (44, .getstatic 234, 9, 0), (47, .iload_n 3, 0, 0)], [(48, .aload_n 0, 0, 0), (49, .getfield 139, 106, 1), (52, .getfield 237, 700, 0), (55, .aload_n 0, 0, 0), (56, .getfield 139, 106, 1), (59, .getfield 126, 701, 1), (62, .invokevirtual 264, 42, 0)], [(65, .invokevirtual 163, 25, 4), (68, .aload 6, 0, 0), (70, .getstatic 261, 10, 0), (73, .iload 4, 0, 0), (75, .iconst 0, 0, 0), (76, .aload_n 0, 0, 0), (77, .getfield 139, 106, 1)], [(80, .getfield 126, 701, 1), (83, .invokevirtual 268, 47, 0), (86, .invokevirtual 163, 25, 4), (89, .aload 6, 0, 0), (91, .getstatic 234, 9, 0), (94, .iload_n 1, 0, 0), (95, .aload_n 2, 0, 0)], [(96, .getfield 237, 700, 0), (99, .aload 5, 0, 0), (101, .invokevirtual 163, 25, 4), (104, .return_, 0, 0)]]
def xt_v48 : List (List (List Nat)) := [[[], [320, 322, 10004], [], [], [479, 481, 10012], [], [], [81], []], [[], [188], [81], [483, 484, 485], [], [525, 526, 527], []], [[], [487], [338, 340, 10006], [], [], [448], []], [[], [188], [76], [], [188], [81], [491, 492, 493]], [[379, 380, 381], [], [489], [], [], [], [188]], [[81], [515, 516, 517], [379, 380, 381], [], [448], [], []], [[76], [], [379, 380, 381], []]]
-- CellTree$Content.withChildBehind(III)LCellTree$Content;
def xt_c49 : List (List (Nat × xv_I)) := [[(0, .iconst 0, 0, 0), (1, .istore 4, 0, 0), (3, .iconst 0, 0, 0), (4, .istore 5, 0, 0), (6, .iload 5, 0, 0), (8, .aload_n 0, 0, 0), (9, .getfield 25, 604, 1), (12, .arraylength, 100, 0), (13, .if_icmp .ge 26, 0, 0)], [(16, .aload_n 0, 0, 0), (17, .getfield 25, 604, 1), (20, .iload 5, 0, 0), (22, .iaload, 0, 0), (23, .iload_n 1, 0, 0), (24, .if_icmp .ne 9, 0, 0), (27, .iload 5, 0, 0), (29, .iconst 1, 0, 0), (30, .iadd, 0, 0), (31, .istore 4, 0, 0)], [(33, .iinc 5 1, 0, 0), (36, .goto (-30), 0, 0), (39, .aload_n 0, 0, 0), (40, .iload_n 2, 0, 0), (41, .invokevirtual 28, 31, 1), (44, .istore 5, 0, 0), (46, .new 10, 6, 5)], [(49, .dup, 0, 0), (50, .aload_n 0, 0, 0), (51, .getfield 9, 600, 0), (54, .aload_n 0, 0, 0), (55, .getfield 15, 601, 0), (58, .aload_n 0, 0, 0), (59, .getfield 18, 602, 0), (62, .aload_n 0, 0, 0), (63, .getfield 21, 603, 1)], [(66, .iload 5, 0, 0), (68, .iload_n 2, 0, 0), (69, .invokestatic 43, 32, 3), (72, .aload_n 0, 0, 0), (73, .getfield 25, 604, 1), (76, .iload 4, 0, 0), (78, .iload_n 3, 0, 0), (79, .invokestatic 43, 32, 3)], [(82, .invokespecial 40, 1, 5), (85, .areturn, 0, 0)]]
def xt_v49 : List (List (List Nat)) := [[[], [], [], [], [], [], [50], [], []], [[], [50], [], [], [], [], [], [], [], []], [[], [], [], [], [434, 435, 436], [], [432, 33, 2]], [[], [], [38], [], [42], [], [44], [], [47]], [[], [], [438, 439], [], [50], [], [], [438, 439]], [[433, 35], []]]
-- CellTree.beginDraft(LCellTree$Client;)V
def xt_c50 : List (List (Nat × xv_I)) := [[(0, .aload_n 1, 0, 0), (1, .getfield 235, 112, 1), (4, .astore_n 2, 0, 0), (5, .aload_n 1, 0, 0), (6, .aconst_null, 0, 0), (7, .putfield 235, 112, 1), (10, .aload_n 2, 0, 0), (11, .ifnonnull 4, 0, 0), (14, .return_, 0, 0), (15, .aload_n 0, 0, 0)], [(16, .getfield 135, 4, 0), (19, .sipush 512, 0, 0), (22, .if_icmp .lt 12, 0, 0), (25, .aload_n 1, 0, 0), (26, .getfield 150, 102, 1), (29, .iconst 4, 0, 0), (30, .putfield 154, 207, 0)], [(33, .return_, 0, 0), (34, .aload_n 0, 0, 0), (35, .dup, 0, 0), (36, .getfield 135, 4, 0), (39, .iconst 1, 0, 0), (40, .iadd, 0, 0), (41, .putfield 135, 4, 0), (44, .aload_n 0, 0, 0), (45, .getfield 50, 3, 1)], [(48, .aload_n 0, 0, 0), (49, .getfield 135, 4, 0), (52, .aload_n 2, 0, 0), (53, .aastore, 106, 0), (54, .aload_n 2, 0, 0), (55, .aload_n 0, 0, 0), (56, .getfield 135, 4, 0), (59, .putfield 168, 405, 0), (62, .aload_n 1, 0, 0), (63, .aload_n 2, 0, 0)], [(64, .putfield 114, 111, 1), (67, .aload_n 0, 0, 0), (68, .aload_n 2, 0, 0), (69, .invokevirtual 118, 51, 1), (72, .pop, 0, 0), (73, .return_, 0, 0)]]
def xt_v50 : List (List (List Nat)) := [[[], [199], [], [], [], [199], [], [], [], []], [[259], [], [], [], [184], [], [148]], [[], [], [], [259], [], [], [259], [], [258]], [[], [259], [], [], [], [], [259], [362], [], []], [[197], [], [], [533, 535, 10016], [], []]]
-- CellTree.sendPrepare(LCellTree$Transaction;)I
def xt_c51 : List (List (Nat × xv_I)) := [[(0, .iconst 0, 0, 0), (1, .istore_n 2, 0, 0), (2, .iconst 0, 0, 0), (3, .istore_n 3, 0, 0), (4, .iload_n 3, 0, 0), (5, .iconst 3, 0, 0), (6, .if_icmp .ge 38, 0, 0), (9, .aload_n 1, 0, 0), (10, .getfield 238, 402, 1), (13, .iload_n 3, 0, 0), (14, .baload, 0, 0), (15, .ifCond .eq 23, 0, 0)], [(18, .aload_n 1, 0, 0), (19, .getfield 242, 403, 1), (22, .iload_n 3, 0, 0), (23, .baload, 0, 0), (24, .ifCond .ne 14, 0, 0), (27, .aload_n 0, 0, 0), (28, .iconst 1, 0, 0), (29, .aload_n 1, 0, 0), (30, .iload_n 3, 0, 0), (31, .aconst_null, 0, 0)], [(32, .invokevirtual 245, 52, 4), (35, .iinc 2 1, 0, 0), (38, .iinc 3 1, 0, 0), (41, .goto (-37), 0, 0), (44, .iload_n 2, 0, 0), (45, .ireturn, 0, 0)]]
def xt_v51 : List (List (List Nat)) := [[[], [], [], [], [], [], [], [], [355], [], [], []], [[], [357], [], [], [], [], [], [], [], []], [[537, 539, 10017], [], [], [], [], []]]
-- CellTree.send(ILCellTree$Transaction;ILCellTree$Cell;)V
def xt_c52 : List (List (Nat × xv_I)) := [[(0, .aload_n 0, 0, 0), (1, .getfield 44, 2, 1), (4, .invokevirtual 73, 53, 0), (7, .bipush 40, 0, 0), (9, .if_icmp .ge 23, 0, 0), (12, .aload_n 0, 0, 0), (13, .getfield 44, 2, 1)], [(16, .new 85, 8, 4), (19, .dup, 0, 0), (20, .iload_n 1, 0, 0), (21, .aload_n 2, 0, 0), (22, .iload_n 3, 0, 0), (23, .aload 4, 0, 0), (25, .invokespecial 249, 54, 4), (28, .invokevirtual 251, 55, 1), (31, .pop, 0, 0)], [(32, .return_, 0, 0)]]
def xt_v52 : List (List (List Nat)) := [[[], [257], [541, 542, 543], [], [], [], [257]], [[545, 546, 20], [], [], [], [], [], [547, 548], [568, 569, 570], []], [[]]]
-- java/util/ArrayList.size()I
def xt_c53 : List (List (Nat × xv_I)) := [[(0, .aload_n 0, 0, 0), (1, .getfield 48, 1001, 0), (4, .ireturn, 0, 0)]]
def xt_v53 : List (List (List Nat)) := [[[], [242], []]]
-- CellTree$Message.<init>(ILCellTree$Transaction;ILCellTree$Cell;)V
def xt_c54 : List (List (Nat × xv_I)) := [[(0, .aload_n 0, 0, 0), (1, .invokespecial 1, 1001, 0), (4, .aload_n 0, 0, 0), (5, .iload_n 1, 0, 0), (6, .putfield 7, 800, 0), (9, .aload_n 0, 0, 0), (10, .aload_n 2, 0, 0), (11, .putfield 13, 801, 1), (14, .aload_n 0, 0, 0), (15, .iload_n 3, 0, 0)], [(16, .putfield 17, 802, 0), (19, .aload_n 0, 0, 0), (20, .aload 4, 0, 0), (22, .putfield 20, 803, 1), (25, .return_, 0, 0)]]
def xt_v54 : List (List (List Nat)) := [[[], [550, 30, 31], [], [], [551], [], [], [553], [], []], [[555], [], [], [557], []]]
-- java/util/ArrayList.add(Ljava/lang/Object;)Z
def xt_c55 : List (List (Nat × xv_I)) := [[(0, .aload_n 0, 0, 0), (1, .dup, 0, 0), (2, .getfield 63, 1002, 0), (5, .iconst 1, 0, 0), (6, .iadd, 0, 0), (7, .putfield 63, 1002, 0), (10, .aload_n 0, 0, 0), (11, .aload_n 1, 0, 0), (12, .aload_n 0, 0, 0), (13, .getfield 9, 1000, 1)], [(16, .aload_n 0, 0, 0), (17, .getfield 48, 1001, 0), (20, .invokevirtual 131, 56, 3), (23, .iconst 1, 0, 0), (24, .ireturn, 0, 2)]]
def xt_v55 : List (List (List Nat)) := [[[], [], [244, 245], [], [], [244, 245], [], [], [], [241]], [[], [242], [572, 574, 10018], [], []]]
-- java/util/ArrayList.add(Ljava/lang/Object;[Ljava/lang/Object;I)V
def xt_c56 : List (List (Nat × xv_I)) := [[(0, .iload_n 3, 0, 0), (1, .aload_n 2, 0, 0), (2, .arraylength, 109, 1), (3, .if_icmp .ne 8, 0, 0), (6, .aload_n 0, 0, 0), (7, .invokevirtual 129, 57, 0), (10, .astore_n 2, 0, 0), (11, .aload_n 2, 0, 0), (12, .iload_n 3, 0, 0), (13, .aload_n 1, 0, 0), (14, .aastore, 109, 0), (15, .aload_n 0, 0, 0)], [(16, .iload_n 3, 0, 0), (17, .iconst 1, 0, 0), (18, .iadd, 0, 0), (19, .putfield 48, 1001, 0), (22, .return_, 0, 0)]]
def xt_v56 : List (List (List Nat)) := [[[], [], [], [], [], [576, 578, 10019], [], [], [], [], [], []], [[], [], [], [242], []]]
-- java/util/ArrayList.grow()[Ljava/lang/Object;
def xt_c57 : List (List (Nat × xv_I)) := [[(0, .aload_n 0, 0, 0), (1, .aload_n 0, 0, 0), (2, .getfield 48, 1001, 0), (5, .iconst 1, 0, 0), (6, .iadd, 0, 0), (7, .invokevirtual 69, 58, 1), (10, .areturn, 0, 0)]]
def xt_v57 : List (List (List Nat)) := [[[], [], [242], [], [], [580, 582, 10020], []]]
-- java/util/ArrayList.grow(I)[Ljava/lang/Object;
def xt_c58 : List (List (Nat × xv_I)) := [[(0, .aload_n 0, 0, 0), (1, .getfield 9, 1000, 1), (4, .arraylength, 109, 1), (5, .istore_n 2, 0, 0), (6, .iload_n 2, 0, 0), (7, .ifCond .gt 13, 0, 0), (10, .aload_n 0, 0, 0), (11, .getfield 9, 1000, 1), (14, .getstatic 39, 2, 0)], [(17, .if_acmp .eq 28, 0, 0), (20, .iload_n 2, 0, 0), (21, .iload_n 1, 0, 0), (22, .iload_n 2, 0, 0), (23, .isub, 0, 0), (24, .iload_n 2, 0, 0), (25, .iconst 1, 0, 0), (26, .ishr, 0, 0), (27, .invokestatic 73, 59, 3), (30, .istore_n 3, 0, 0), (31, .aload_n 0, 0, 0)], [(32, .aload_n 0, 0, 0), (33, .getfield 9, 1000, 1), (36, .iload_n 3, 0, 0), (37, .invokestatic 66, 61, 2), (40, .dup_x1, 0, 0), (41, .putfield 9, 1000, 1), (44, .areturn, 0, 0), (45, .aload_n 0, 0, 0), (46, .bipush 10, 0, 0)], [(48, .iload_n 1, 0, 0), (49, .invokestatic 79, 1005, 0), (52, .anewarray 7, 109, 0), (55, .dup_x1, 0, 0), (56, .putfield 9, 1000, 1), (59, .areturn, 0, 0)]]
def xt_v58 : List (List (List Nat)) := [[[], [241], [], [], [], [], [], [241], [239]], [[], [], [], [], [], [], [], [], [584, 585], [], []], [[], [241], [], [594, 595], [], [241], [], [], []], [[], [621, 588, 19, 589], [622], [], [241], []]]
-- jdk/internal/util/ArraysSupport.newLength(III)I
def xt_c59 : List (List (Nat × xv_I)) := [[(0, .iload_n 0, 0, 0), (1, .iload_n 1, 0, 0), (2, .iload_n 2, 0, 0), (3, .invokestatic 194, 1005, 0), (6, .iadd, 0, 0), (7, .istore_n 3, 0, 0), (8, .iconst 0, 0, 0), (9, .iload_n 3, 0, 0), (10, .if_icmp .ge 11, 0, 0), (13, .iload_n 3, 0, 0), (14, .ldc 200, 2147483639, 0)], [(16, .if_icmp .gt 5, 0, 0), (19, .iload_n 3, 0, 0), (20, .ireturn, 0, 0), (21, .iload_n 0, 0, 0), (22, .iload_n 1, 0, 0), (23, .invokestatic 201, 60, 2), (26, .ireturn, 0, 0)]]
def xt_v59 : List (List (List Nat)) := [[[], [], [], [587, 588, 19, 589], [], [], [], [], [], [], [590]], [[], [], [], [], [], [591, 592], []]]
-- jdk/internal/util/ArraysSupport.hugeLength(II)I
def xt_c60 : List (List (Nat × xv_I)) := [[(0, .iload_n 0, 0, 0), (1, .iload_n 1, 0, 0), (2, .iadd, 0, 0), (3, .istore_n 2, 0, 0), (4, .iload_n 2, 0, 0), (5, .ifCond .ge 44, 0, 0)], [], [], [(49, .iload_n 2, 0, 0), (50, .ldc 200, 2147483639, 0), (52, .if_icmp .gt 6, 0, 0), (55, .ldc 200, 2147483639, 0), (57, .ireturn, 0, 0), (58, .iload_n 2, 0, 0), (59, .ireturn, 0, 0)]]
def xt_v60 : List (List (List Nat)) := [[[], [], [], [], [], []], [], [], [[], [590], [], [590], [], [], []]]
-- java/util/Arrays.copyOf([Ljava/lang/Object;I)[Ljava/lang/Object;
def xt_c61 : List (List (Nat × xv_I)) := [[(0, .aload_n 0, 0, 0), (1, .iload_n 1, 0, 0), (2, .aload_n 0, 0, 0), (3, .invokevirtual 86, 1003, 109), (6, .invokestatic 300, 62, 3), (9, .areturn, 0, 0)]]
def xt_v61 : List (List (List Nat)) := [[[], [], [], [597, 1256, 598, 614], [615, 616], []]]
-- java/util/Arrays.copyOf([Ljava/lang/Object;ILjava/lang/Class;)[Ljava/lang/Object;
def xt_c62 : List (List (Nat × xv_I)) := [[(0, .aload_n 2, 0, 0), (1, .ldc 110, 0, 1), (3, .if_acmp .ne 10, 0, 0), (6, .iload_n 1, 0, 0), (7, .anewarray 2, 109, 0), (10, .goto 14, 0, 0), (13, .aload_n 2, 0, 0)], [(24, .astore_n 3, 0, 0), (25, .aload_n 0, 0, 0), (26, .iconst 0, 0, 0), (27, .aload_n 3, 0, 0), (28, .iconst 0, 0, 0), (29, .aload_n 0, 0, 0), (30, .arraylength, 109, 1), (31, .iload_n 1, 0, 0)], [(32, .invokestatic 304, 1004, 0), (35, .invokestatic 150, 1000, 109), (38, .aload_n 3, 0, 0), (39, .areturn, 0, 0)]]
def xt_v62 : List (List (List Nat)) := [[[], [618], [], [], [620], [], []], [[], [], [], [], [], [], [], []], [[504, 505, 19, 506], [507, 443, 442, 17], [], []]]
-- CellTree.put(III)Z
def xt_c63 : List (List (Nat × xv_I)) := [[(0, .aload_n 0, 0, 0), (1, .iload_n 1, 0, 0), (2, .getstatic 64, 4, 0), (5, .iload_n 2, 0, 0), (6, .iload_n 2, 0, 0), (7, .iload_n 3, 0, 0), (8, .invokevirtual 60, 10, 5), (11, .ireturn, 0, 2)]]
def xt_v63 : List (List (List Nat)) := [[[], [], [627], [], [], [], [277, 279, 10000], []]]
-- CellTree.remove(II)Z
def xt_c64 : List (List (Nat × xv_I)) := [[(0, .aload_n 0, 0, 0), (1, .iload_n 1, 0, 0), (2, .getstatic 67, 5, 0), (5, .iload_n 2, 0, 0), (6, .iload_n 2, 0, 0), (7, .iconst 0, 0, 0), (8, .invokevirtual 60, 10, 5), (11, .ireturn, 0, 2)]]
def xt_v64 : List (List (List Nat)) := [[[], [], [632], [], [], [], [277, 279, 10000], []]]
-- CellTree.scan(III)Z
def xt_c65 : List (List (Nat × xv_I)) := [[(0, .aload_n 0, 0, 0), (1, .iload_n 1, 0, 0), (2, .getstatic 70, 6, 0), (5, .iload_n 2, 0, 0), (6, .iload_n 3, 0, 0), (7, .iconst 0, 0, 0), (8, .invokevirtual 60, 10, 5), (11, .ireturn, 0, 2)]]
def xt_v65 : List (List (List Nat)) := [[[], [], [637], [], [], [], [277, 279, 10000], []]]
-- CellTree.messages()I
def xt_c66 : List (List (Nat × xv_I)) := [[(0, .aload_n 0, 0, 0), (1, .getfield 44, 2, 1), (4, .invokevirtual 73, 53, 0), (7, .ireturn, 0, 0)]]
def xt_v66 : List (List (List Nat)) := [[[], [257], [541, 542, 543], []]]
-- CellTree.message(I)I
def xt_c67 : List (List (Nat × xv_I)) := [[(0, .aload_n 0, 0, 0), (1, .iload_n 1, 0, 0), (2, .invokevirtual 77, 68, 1), (5, .ifCond .eq 20, 0, 0), (8, .aload_n 0, 0, 0), (9, .getfield 44, 2, 1), (12, .iload_n 1, 0, 0), (13, .invokevirtual 81, 69, 1)], [(16, .checkcast 85, 8, 0), (19, .invokevirtual 87, 73, 0), (22, .goto 4, 0, 0), (25, .iconst (-1), 0, 0), (26, .ireturn, 0, 0)]]
def xt_v67 : List (List (List Nat)) := [[[], [], [646, 648, 10021], [], [], [257], [], [650, 651, 652]], [[545], [664, 665, 666], [], [], []]]
-- CellTree.isUnderWay(I)Z
def xt_c68 : List (List (Nat × xv_I)) := [[(0, .iload_n 1, 0, 0), (1, .ifCond .lt 18, 0, 0), (4, .iload_n 1, 0, 0), (5, .aload_n 0, 0, 0), (6, .getfield 44, 2, 1), (9, .invokevirtual 73, 53, 0), (12, .if_icmp .ge 7, 0, 0), (15, .iconst 1, 0, 0)], [(16, .goto 4, 0, 0), (19, .iconst 0, 0, 0), (20, .ireturn, 0, 2)]]
def xt_v68 : List (List (List Nat)) := [[[], [], [], [], [257], [541, 542, 543], [], []], [[], [], []]]
-- java/util/ArrayList.get(I)Ljava/lang/Object;
def xt_c69 : List (List (Nat × xv_I)) := [[(0, .iload_n 1, 0, 0), (1, .aload_n 0, 0, 0), (2, .getfield 48, 1001, 0), (5, .invokestatic 118, 70, 2), (8, .pop, 0, 0), (9, .aload_n 0, 0, 0), (10, .iload_n 1, 0, 0), (11, .invokevirtual 123, 72, 1), (14, .areturn, 0, 0)]]
def xt_v69 : List (List (List Nat)) := [[[], [], [242], [654, 655], [], [], [], [660, 661, 662], []]]
-- java/util/Objects.checkIndex(II)I
def xt_c70 : List (List (Nat × xv_I)) := [[(0, .iload_n 0, 0, 0), (1, .iload_n 1, 0, 0), (2, .aconst_null, 0, 0), (3, .invokestatic 105, 71, 3), (6, .ireturn, 0, 0)]]
def xt_v70 : List (List (List Nat)) := [[[], [], [], [657, 658], []]]
-- jdk/internal/util/Preconditions.checkIndex(IILjava/util/function/BiFunction;)I
def xt_c71 : List (List (Nat × xv_I)) := [[(0, .iload_n 0, 0, 0), (1, .ifCond .lt 8, 0, 0), (4, .iload_n 0, 0, 0), (5, .iload_n 1, 0, 0), (6, .if_icmp .lt 10, 0, 0), (9, .aload_n 2, 0, 0), (10, .iload_n 0, 0, 0), (11, .iload_n 1, 0, 0)], [(16, .iload_n 0, 0, 0), (17, .ireturn, 0, 0)]]
def xt_v71 : List (List (List Nat)) := [[[], [], [], [], [], [], [], []], [[], []]]
-- java/util/ArrayList.elementData(I)Ljava/lang/Object;
def xt_c72 : List (List (Nat × xv_I)) := [[(0, .aload_n 0, 0, 0), (1, .getfield 9, 1000, 1), (4, .iload_n 1, 0, 0), (5, .aaload, 109, 0), (6, .areturn, 0, 0)]]
def xt_v72 : List (List (List Nat)) := [[[], [241], [], [], []]]
-- CellTree$Message.code()I
def xt_c73 : List (List (Nat × xv_I)) := [[(0, .sipush 10000, 0, 0), (3, .aload_n 0, 0, 0), (4, .getfield 7, 800, 0), (7, .imul, 0, 0), (8, .bipush 10, 0, 0), (10, .aload_n 0, 0, 0), (11, .getfield 13, 801, 1), (14, .getfield 24, 405, 0)], [(17, .imul, 0, 0), (18, .iadd, 0, 0), (19, .aload_n 0, 0, 0), (20, .getfield 17, 802, 0), (23, .iadd, 0, 0), (24, .ireturn, 0, 0)]]
def xt_v73 : List (List (List Nat)) := [[[], [], [551], [], [], [], [553], [360]], [[], [], [], [555], [], []]]
-- CellTree.deliver(I)Z
def xt_c74 : List (List (Nat × xv_I)) := [[(0, .aload_n 0, 0, 0), (1, .iload_n 1, 0, 0), (2, .invokevirtual 77, 68, 1), (5, .ifCond .ne 5, 0, 0), (8, .iconst 0, 0, 0), (9, .ireturn, 0, 2), (10, .aload_n 0, 0, 0), (11, .getfield 44, 2, 1), (14, .iload_n 1, 0, 0), (15, .invokevirtual 90, 75, 1)], [(18, .checkcast 85, 8, 0), (21, .astore_n 2, 0, 0), (22, .aload_n 2, 0, 0), (23, .getfield 93, 800, 0), (26, .iconst 2, 0, 0), (27, .if_icmp .eq 11, 0, 0), (30, .aload_n 2, 0, 0), (31, .getfield 93, 800, 0)], [(34, .iconst 3, 0, 0), (35, .if_icmp .ne 11, 0, 0), (38, .aload_n 0, 0, 0), (39, .aload_n 2, 0, 0), (40, .invokevirtual 97, 77, 1), (43, .goto 23, 0, 0), (46, .aload_n 0, 0, 0), (47, .getfield 21, 0, 1)], [(50, .aload_n 2, 0, 0), (51, .getfield 101, 802, 0), (54, .aaload, 104, 0), (55, .getfield 104, 304, 2), (58, .ifCond .eq 8, 0, 0), (61, .aload_n 0, 0, 0), (62, .aload_n 2, 0, 0), (63, .invokevirtual 108, 86, 1)], [(66, .iconst 1, 0, 0), (67, .ireturn, 0, 2)]]
def xt_v74 : List (List (List Nat)) := [[[], [], [646, 648, 10021], [], [], [], [], [257], [], [672, 673, 674]], [[545], [], [], [552], [], [], [], [552]], [[], [], [], [], [681, 683, 10023], [], [], [255]], [[], [556], [], [105], [], [], [], [718, 720, 10027]], [[], []]]
-- java/util/ArrayList.remove(I)Ljava/lang/Object;
def xt_c75 : List (List (Nat × xv_I)) := [[(0, .iload_n 1, 0, 0), (1, .aload_n 0, 0, 0), (2, .getfield 48, 1001, 0), (5, .invokestatic 118, 70, 2), (8, .pop, 0, 0), (9, .aload_n 0, 0, 0), (10, .getfield 9, 1000, 1), (13, .astore_n 2, 0, 0), (14, .aload_n 2, 0, 0), (15, .iload_n 1, 0, 0)], [(16, .aaload, 109, 0), (17, .astore_n 3, 0, 0), (18, .aload_n 0, 0, 0), (19, .aload_n 2, 0, 0), (20, .iload_n 1, 0, 0), (21, .invokevirtual 144, 76, 2), (24, .aload_n 3, 0, 0), (25, .areturn, 0, 0)]]
def xt_v75 : List (List (List Nat)) := [[[], [], [242], [654, 655], [], [], [241], [], [], []], [[], [], [], [], [], [676, 678, 10022], [], []]]
-- java/util/ArrayList.fastRemove([Ljava/lang/Object;I)V
def xt_c76 : List (List (Nat × xv_I)) := [[(0, .aload_n 0, 0, 0), (1, .dup, 0, 0), (2, .getfield 63, 1002, 0), (5, .iconst 1, 0, 0), (6, .iadd, 0, 0), (7, .putfield 63, 1002, 0), (10, .aload_n 0, 0, 0), (11, .getfield 48, 1001, 0), (14, .iconst 1, 0, 0), (15, .isub, 0, 0)], [(16, .dup, 0, 0), (17, .istore_n 3, 0, 0), (18, .iload_n 2, 0, 0), (19, .if_icmp .le 15, 0, 0), (22, .aload_n 1, 0, 0), (23, .iload_n 2, 0, 0), (24, .iconst 1, 0, 0), (25, .iadd, 0, 0), (26, .aload_n 1, 0, 0), (27, .iload_n 2, 0, 0), (28, .iload_n 3, 0, 0), (29, .iload_n 2, 0, 0), (30, .isub, 0, 0), (31, .invokestatic 112, 1000, 109)], [(34, .aload_n 1, 0, 0), (35, .aload_n 0, 0, 0), (36, .iload_n 3, 0, 0), (37, .dup_x1, 0, 0), (38, .putfield 48, 1001, 0), (41, .aconst_null, 0, 0), (42, .aastore, 109, 0), (43, .return_, 0, 0)]]
def xt_v76 : List (List (List Nat)) := [[[], [], [244, 245], [], [], [244, 245], [], [242], [], []], [[], [], [], [], [], [], [], [], [], [], [], [], [], [680, 443, 442, 17]], [[], [], [], [], [242], [], [], []]]
-- CellTree.hearAnswer(LCellTree$Message;)V
def xt_c77 : List (List (Nat × xv_I)) := [[(0, .aload_n 0, 0, 0), (1, .getfield 34, 1, 1), (4, .aload_n 1, 0, 0), (5, .getfield 255, 801, 1), (8, .getfield 271, 400, 0), (11, .aaload, 105, 0), (12, .astore_n 2, 0, 0), (13, .aload_n 2, 0, 0), (14, .getfield 114, 111, 1)], [(17, .aload_n 1, 0, 0), (18, .getfield 255, 801, 1), (21, .if_acmp .eq 4, 0, 0), (24, .return_, 0, 0), (25, .aload_n 1, 0, 0), (26, .getfield 93, 800, 0), (29, .iconst 3, 0, 0), (30, .if_icmp .ne 28, 0, 0)], [(33, .aload_n 2, 0, 0), (34, .aconst_null, 0, 0), (35, .putfield 114, 111, 1), (38, .aload_n 0, 0, 0), (39, .iconst 5, 0, 0), (40, .aload_n 1, 0, 0), (41, .getfield 255, 801, 1), (44, .aload_n 1, 0, 0), (45, .getfield 101, 802, 0)], [(48, .invokevirtual 274, 78, 3), (51, .aload_n 2, 0, 0), (52, .invokevirtual 278, 80, 0), (55, .goto 50, 0, 0), (58, .aload_n 1, 0, 0), (59, .getfield 255, 801, 1), (62, .getfield 242, 403, 1)], [(65, .aload_n 1, 0, 0), (66, .getfield 101, 802, 0), (69, .iconst 1, 0, 0), (70, .bastore, 0, 0), (71, .aload_n 1, 0, 0), (72, .getfield 255, 801, 1), (75, .invokevirtual 281, 82, 0), (78, .ifCond .ne 4, 0, 0)], [(81, .return_, 0, 0), (82, .aload_n 2, 0, 0), (83, .aconst_null, 0, 0), (84, .putfield 114, 111, 1), (87, .aload_n 0, 0, 0), (88, .iconst 4, 0, 0), (89, .aload_n 1, 0, 0), (90, .getfield 255, 801, 1), (93, .iconst (-1), 0, 0), (94, .invokevirtual 274, 78, 3)], [(97, .aload_n 2, 0, 0), (98, .aload_n 1, 0, 0), (99, .getfield 285, 803, 1), (102, .invokevirtual 289, 83, 1), (105, .aload_n 2, 0, 0), (106, .invokevirtual 228, 14, 0), (109, .aload_n 0, 0, 0), (110, .aload_n 2, 0, 0), (111, .invokevirtual 231, 50, 1)], [(114, .return_, 0, 0)]]
def xt_v77 : List (List (List Nat)) := [[[], [256], [], [554], [351], [], [], [], [197]], [[], [554], [], [], [], [552], [], []], [[], [], [197], [], [], [], [554], [], [556]], [[685, 687, 10024], [], [693, 694, 695], [], [], [554], [357]], [[], [556], [], [], [], [554], [701, 702, 703], []], [[], [], [], [197], [], [], [], [554], [], [685, 687, 10024]], [[], [], [558], [705, 706, 707], [], [293, 294, 295], [], [], [529, 531, 10015]], [[]]]
-- CellTree.sendVerdict(ILCellTree$Transaction;I)V
def xt_c78 : List (List (Nat × xv_I)) := [[(0, .aload_n 2, 0, 0), (1, .invokevirtual 293, 79, 0), (4, .ifCond .ne 4, 0, 0), (7, .return_, 0, 0), (8, .iconst 0, 0, 0), (9, .istore 4, 0, 0), (11, .iload 4, 0, 0), (13, .iconst 3, 0, 0), (14, .if_icmp .ge 34, 0, 0)], [(17, .aload_n 2, 0, 0), (18, .getfield 238, 402, 1), (21, .iload 4, 0, 0), (23, .baload, 0, 0), (24, .ifCond .eq 18, 0, 0), (27, .iload 4, 0, 0), (29, .iload_n 3, 0, 0), (30, .if_icmp .eq 12, 0, 0)], [(33, .aload_n 0, 0, 0), (34, .iload_n 1, 0, 0), (35, .aload_n 2, 0, 0), (36, .iload 4, 0, 0), (38, .aconst_null, 0, 0), (39, .invokevirtual 245, 52, 4), (42, .iinc 4 1, 0, 0), (45, .goto (-34), 0, 0)], [(48, .return_, 0, 0)]]
def xt_v78 : List (List (List Nat)) := [[[], [689, 690, 691], [], [], [], [], [], [], []], [[], [355], [], [], [], [], [], []], [[], [], [], [], [], [537, 539, 10017], [], []], [[]]]
-- CellTree$Transaction.hasSeveralParticipants()Z
def xt_c79 : List (List (Nat × xv_I)) := [[(0, .iconst 0, 0, 0), (1, .istore_n 1, 0, 0), (2, .iconst 0, 0, 0), (3, .istore_n 2, 0, 0), (4, .iload_n 2, 0, 0), (5, .iconst 3, 0, 0), (6, .if_icmp .ge 21, 0, 0), (9, .aload_n 0, 0, 0), (10, .getfield 17, 402, 1), (13, .iload_n 2, 0, 0), (14, .baload, 0, 0), (15, .ifCond .eq 6, 0, 0)], [(18, .iinc 1 1, 0, 0), (21, .iinc 2 1, 0, 0), (24, .goto (-20), 0, 0), (27, .iload_n 1, 0, 0), (28, .iconst 1, 0, 0), (29, .if_icmp .le 7, 0, 0)], [(32, .iconst 1, 0, 0), (33, .goto 4, 0, 0), (36, .iconst 0, 0, 0), (37, .ireturn, 0, 2)]]
def xt_v79 : List (List (List Nat)) := [[[], [], [], [], [], [], [], [], [354], [], [], []], [[], [], [], [], [], []], [[], [], [], []]]
-- CellTree$Client.goWrong()V
def xt_c80 : List (List (Nat × xv_I)) := [[(0, .aload_n 0, 0, 0), (1, .invokevirtual 61, 81, 0), (4, .aload_n 0, 0, 0), (5, .getfield 20, 102, 1), (8, .dup, 0, 0), (9, .getfield 64, 208, 0), (12, .iconst 1, 0, 0), (13, .isub, 0, 0), (14, .putfield 64, 208, 0)], [(17, .aload_n 0, 0, 0), (18, .getfield 20, 102, 1), (21, .getfield 64, 208, 0), (24, .ifCond .le 13, 0, 0), (27, .aload_n 0, 0, 0), (28, .getstatic 67, 15, 0), (31, .putfield 42, 109, 1)], [(34, .goto 7, 0, 0), (37, .aload_n 0, 0, 0), (38, .invokevirtual 70, 18, 0), (41, .return_, 0, 0)]]
def xt_v80 : List (List (List Nat)) := [[[], [697, 699, 10025], [], [183], [], [150], [], [], [150]], [[], [183], [150], [], [], [297], [193]], [[], [], [316, 318, 10003], []]]
-- CellTree$Client.forgetPath()V
def xt_c81 : List (List (Nat × xv_I)) := [[(0, .iconst 0, 0, 0), (1, .istore_n 1, 0, 0), (2, .iload_n 1, 0, 0), (3, .aload_n 0, 0, 0), (4, .getfield 28, 104, 0), (7, .if_icmp .ge 21, 0, 0), (10, .aload_n 0, 0, 0), (11, .getfield 11, 101, 1), (14, .aload_n 0, 0, 0), (15, .getfield 24, 103, 1)], [(18, .iload_n 1, 0, 0), (19, .iaload, 0, 0), (20, .aconst_null, 0, 0), (21, .aastore, 108, 0), (22, .iinc 1 1, 0, 0), (25, .goto (-23), 0, 0), (28, .return_, 0, 0)]]
def xt_v81 : List (List (List Nat)) := [[[], [], [], [], [186], [], [], [181], [], [185]], [[], [], [], [], [], [], []]]
-- CellTree$Transaction.isAnsweredByAll()Z
def xt_c82 : List (List (Nat × xv_I)) := [[(0, .iconst 0, 0, 0), (1, .istore_n 1, 0, 0), (2, .iload_n 1, 0, 0), (3, .iconst 3, 0, 0), (4, .if_icmp .ge 29, 0, 0), (7, .aload_n 0, 0, 0), (8, .getfield 17, 402, 1), (11, .iload_n 1, 0, 0), (12, .baload, 0, 0), (13, .ifCond .eq 14, 0, 0)], [(16, .aload_n 0, 0, 0), (17, .getfield 21, 403, 1), (20, .iload_n 1, 0, 0), (21, .baload, 0, 0), (22, .ifCond .ne 5, 0, 0), (25, .iconst 0, 0, 0), (26, .ireturn, 0, 2), (27, .iinc 1 1, 0, 0), (30, .goto (-28), 0, 0)], [(33, .iconst 1, 0, 0), (34, .ireturn, 0, 2)]]
def xt_v82 : List (List (List Nat)) := [[[], [], [], [], [], [], [354], [], [], []], [[], [356], [], [], [], [], [], [], []], [[], []]]
-- CellTree$Client.goOn(LCellTree$Cell;)V
def xt_c83 : List (List (Nat × xv_I)) := [[(0, .aload_n 0, 0, 0), (1, .getfield 45, 110, 1), (4, .getstatic 73, 12, 0), (7, .if_acmp .ne 15, 0, 0), (10, .aload_n 1, 0, 0), (11, .ifnull 11, 0, 0), (14, .aload_n 0, 0, 0), (15, .aload_n 1, 0, 0)], [(16, .invokevirtual 76, 84, 1), (19, .goto 34, 0, 0), (22, .aload_n 0, 0, 0), (23, .getfield 45, 110, 1), (26, .getstatic 80, 14, 0), (29, .if_acmp .ne 17, 0, 0)], [(32, .aload_n 0, 0, 0), (33, .invokevirtual 61, 81, 0), (36, .aload_n 0, 0, 0), (37, .getstatic 67, 15, 0), (40, .putfield 42, 109, 1), (43, .goto 10, 0, 0), (46, .aload_n 0, 0, 0), (47, .getfield 20, 102, 1)], [(50, .invokevirtual 83, 21, 0), (53, .return_, 0, 0)]]
def xt_v83 : List (List (List Nat)) := [[[], [195], [463], [], [], [], [], []], [[709, 711, 10026], [], [], [195], [487], []], [[], [697, 699, 10025], [], [297], [193], [], [], [183]], [[328, 329, 330], []]]
-- CellTree$Client.look(LCellTree$Cell;)V
def xt_c84 : List (List (Nat × xv_I)) := [[(0, .aload_n 1, 0, 0), (1, .getfield 126, 701, 1), (4, .getfield 130, 600, 0), (7, .iconst 2, 0, 0), (8, .if_icmp .ne 7, 0, 0), (11, .iconst 1, 0, 0), (12, .goto 4, 0, 0), (15, .iconst 0, 0, 0)], [(16, .istore_n 2, 0, 0), (17, .iload_n 2, 0, 0), (18, .ifCond .eq 13, 0, 0), (21, .aload_n 0, 0, 0), (22, .getfield 11, 101, 1), (25, .aload_n 0, 0, 0), (26, .invokevirtual 135, 19, 0), (29, .aload_n 1, 0, 0), (30, .aastore, 108, 0), (31, .aload_n 0, 0, 0)], [(32, .aload_n 1, 0, 0), (33, .putfield 139, 106, 1), (36, .aload_n 1, 0, 0), (37, .getfield 126, 701, 1), (40, .aload_n 0, 0, 0), (41, .getfield 143, 105, 0), (44, .invokevirtual 146, 85, 1), (47, .ifCond .ne 10, 0, 0)], [(50, .aload_n 0, 0, 0), (51, .invokevirtual 150, 80, 0), (54, .goto 20, 0, 0), (57, .aload_n 0, 0, 0), (58, .iload_n 2, 0, 0), (59, .ifCond .eq 9, 0, 0), (62, .getstatic 114, 17, 0)], [(65, .goto 6, 0, 0), (68, .getstatic 96, 16, 0), (71, .putfield 42, 109, 1), (74, .return_, 0, 0)]]
def xt_v84 : List (List (List Nat)) := [[[], [81], [40], [], [], [], [], []], [[], [], [], [], [181], [], [320, 322, 10004], [], [], []], [[], [188], [], [81], [], [187], [713, 714, 715], []], [[], [717, 694, 695], [], [], [], [], [306]], [[], [308], [193], []]]
-- CellTree$Content.covers(I)Z
def xt_c85 : List (List (Nat × xv_I)) := [[(0, .aload_n 0, 0, 0), (1, .getfield 15, 601, 0), (4, .iload_n 1, 0, 0), (5, .if_icmp .gt 15, 0, 0), (8, .iload_n 1, 0, 0), (9, .aload_n 0, 0, 0), (10, .getfield 18, 602, 0), (13, .if_icmp .ge 7, 0, 0)], [(16, .iconst 1, 0, 0), (17, .goto 4, 0, 0), (20, .iconst 0, 0, 0), (21, .ireturn, 0, 2)]]
def xt_v85 : List (List (List Nat)) := [[[], [42], [], [], [], [], [44], []], [[], [], [], []]]
-- CellTree.reachMemory(LCellTree$Message;)V
def xt_c86 : List (List (Nat × xv_I)) := [[(0, .aload_n 0, 0, 0), (1, .getfield 21, 0, 1), (4, .aload_n 1, 0, 0), (5, .getfield 101, 802, 0), (8, .aaload, 104, 0), (9, .astore_n 2, 0, 0), (10, .aload_n 1, 0, 0), (11, .getfield 255, 801, 1), (14, .astore_n 3, 0, 0), (15, .aload_n 1, 0, 0)], [(16, .getfield 93, 800, 0), (19, .iconst 4, 0, 0), (20, .if_icmp .ne 11, 0, 0), (23, .aload_n 2, 0, 0), (24, .aload_n 3, 0, 0), (25, .invokevirtual 258, 87, 1), (28, .goto 56, 0, 0), (31, .aload_n 1, 0, 0)], [(32, .getfield 93, 800, 0), (35, .iconst 5, 0, 0), (36, .if_icmp .ne 11, 0, 0), (39, .aload_n 2, 0, 0), (40, .aload_n 3, 0, 0), (41, .invokevirtual 261, 92, 1), (44, .goto 40, 0, 0), (47, .aload_n 2, 0, 0)], [(48, .aload_n 3, 0, 0), (49, .invokevirtual 264, 93, 1), (52, .ifCond .eq 21, 0, 0), (55, .aload_n 0, 0, 0), (56, .iconst 2, 0, 0), (57, .aload_n 3, 0, 0), (58, .aload_n 1, 0, 0), (59, .getfield 101, 802, 0), (62, .aload_n 2, 0, 0), (63, .aload_n 3, 0, 0)], [(64, .invokevirtual 267, 97, 1), (67, .invokevirtual 245, 52, 4), (70, .goto 14, 0, 0), (73, .aload_n 0, 0, 0), (74, .iconst 3, 0, 0), (75, .aload_n 3, 0, 0), (76, .aload_n 1, 0, 0), (77, .getfield 101, 802, 0)], [(80, .aconst_null, 0, 0), (81, .invokevirtual 245, 52, 4), (84, .return_, 0, 0)]]
def xt_v86 : List (List (List Nat)) := [[[], [255], [], [556], [], [], [], [554], [], []], [[552], [], [], [], [], [722, 723, 724], [], []], [[552], [], [], [], [], [745, 746, 747], [], []], [[], [749, 750, 751], [], [], [], [], [], [556], [], []], [[768, 769, 770], [537, 539, 10017], [], [], [], [], [], [556]], [[], [537, 539, 10017], []]]
-- CellTree$MemoryNode.commit(LCellTree$Transaction;)V
def xt_c87 : List (List (Nat × xv_I)) := [[(0, .aload_n 0, 0, 0), (1, .getfield 21, 303, 1), (4, .aload_n 1, 0, 0), (5, .getfield 48, 405, 0), (8, .baload, 0, 0), (9, .iconst 1, 0, 0), (10, .if_icmp .ne 14, 0, 0), (13, .aload_n 0, 0, 0), (14, .aload_n 1, 0, 0), (15, .invokevirtual 60, 88, 1)], [(18, .aload_n 0, 0, 0), (19, .aload_n 1, 0, 0), (20, .iconst 0, 0, 0), (21, .invokevirtual 56, 91, 2), (24, .return_, 0, 0)]]
def xt_v87 : List (List (List Nat)) := [[[], [102], [], [361], [], [], [], [], [], [726, 728, 10028]], [[], [], [], [741, 743, 10030], []]]
-- CellTree$MemoryNode.carryOut(LCellTree$Transaction;)V
def xt_c88 : List (List (Nat × xv_I)) := [[(0, .iconst 0, 0, 0), (1, .istore_n 2, 0, 0), (2, .iload_n 2, 0, 0), (3, .aload_n 1, 0, 0), (4, .getfield 64, 404, 0), (7, .if_icmp .ge 70, 0, 0), (10, .aload_n 1, 0, 0), (11, .getfield 39, 401, 1), (14, .iload_n 2, 0, 0), (15, .aaload, 107, 0)], [(16, .astore_n 3, 0, 0), (17, .aload_n 3, 0, 0), (18, .getfield 43, 501, 0), (21, .bipush 8, 0, 0), (23, .irem, 0, 0), (24, .istore 4, 0, 0), (26, .aload_n 0, 0, 0), (27, .aload_n 3, 0, 0), (28, .invokevirtual 67, 89, 1), (31, .ifCond .eq 40, 0, 0)], [(34, .aload_n 3, 0, 0), (35, .invokevirtual 75, 90, 0), (38, .ifCond .eq 33, 0, 0), (41, .aload_n 0, 0, 0), (42, .getfield 11, 301, 1), (45, .iload 4, 0, 0), (47, .new 9, 7, 2)], [(50, .dup, 0, 0), (51, .aload_n 0, 0, 0), (52, .getfield 11, 301, 1), (55, .iload 4, 0, 0), (57, .aaload, 108, 0), (58, .getfield 78, 700, 0), (61, .iconst 1, 0, 0), (62, .iadd, 0, 0), (63, .aload_n 3, 0, 0)], [(64, .getfield 81, 503, 1), (67, .invokespecial 85, 2, 2), (70, .aastore, 108, 0), (71, .iinc 2 1, 0, 0), (74, .goto (-72), 0, 0), (77, .aload_n 0, 0, 0), (78, .getfield 21, 303, 1)], [(81, .aload_n 1, 0, 0), (82, .getfield 48, 405, 0), (85, .iconst 2, 0, 0), (86, .bastore, 0, 0), (87, .return_, 0, 0)]]
def xt_v88 : List (List (List Nat)) := [[[], [], [], [], [359], [], [], [353], [], []], [[], [], [391], [], [], [], [], [], [730, 732, 10029], []], [[], [734, 735, 736], [], [], [98], [], [95, 67, 3]], [[], [], [98], [], [], [75], [], [], []], [[394], [740, 69], [], [], [], [], [102]], [[], [361], [], [], []]]
-- CellTree$MemoryNode.isHere(LCellTree$Item;)Z
def xt_c89 : List (List (Nat × xv_I)) := [[(0, .aload_n 1, 0, 0), (1, .getfield 43, 501, 0), (4, .bipush 8, 0, 0), (6, .idiv, 0, 0), (7, .aload_n 0, 0, 0), (8, .getfield 29, 300, 0), (11, .if_icmp .ne 7, 0, 0), (14, .iconst 1, 0, 0), (15, .goto 4, 0, 0)], [(18, .iconst 0, 0, 0), (19, .ireturn, 0, 2)]]
def xt_v89 : List (List (List Nat)) := [[[], [391], [], [], [], [97], [], [], []], [[], []]]
-- CellTree$Item.changes()Z
def xt_c90 : List (List (Nat × xv_I)) := [[(0, .aload_n 0, 0, 0), (1, .getfield 9, 500, 1), (4, .getstatic 42, 9, 0), (7, .if_acmp .eq 13, 0, 0), (10, .aload_n 0, 0, 0), (11, .getfield 9, 500, 1), (14, .getstatic 26, 10, 0)], [(17, .if_acmp .ne 7, 0, 0), (20, .iconst 1, 0, 0), (21, .goto 4, 0, 0), (24, .iconst 0, 0, 0), (25, .ireturn, 0, 2)]]
def xt_v90 : List (List (List Nat)) := [[[], [388], [738], [], [], [388], [739]], [[], [], [], [], []]]
-- CellTree$MemoryNode.setLocks(LCellTree$Transaction;I)V
def xt_c91 : List (List (Nat × xv_I)) := [[(0, .iconst 0, 0, 0), (1, .istore_n 3, 0, 0), (2, .iload_n 3, 0, 0), (3, .aload_n 1, 0, 0), (4, .getfield 64, 404, 0), (7, .if_icmp .ge 40, 0, 0), (10, .aload_n 0, 0, 0), (11, .aload_n 1, 0, 0), (12, .getfield 39, 401, 1), (15, .iload_n 3, 0, 0)], [(16, .aaload, 107, 0), (17, .invokevirtual 67, 89, 1), (20, .ifCond .eq 21, 0, 0), (23, .aload_n 0, 0, 0), (24, .getfield 17, 302, 1), (27, .aload_n 1, 0, 0), (28, .getfield 39, 401, 1), (31, .iload_n 3, 0, 0)], [(32, .aaload, 107, 0), (33, .getfield 43, 501, 0), (36, .bipush 8, 0, 0), (38, .irem, 0, 0), (39, .iload_n 2, 0, 0), (40, .iastore, 0, 0), (41, .iinc 3 1, 0, 0), (44, .goto (-42), 0, 0), (47, .return_, 0, 0)]]
def xt_v91 : List (List (List Nat)) := [[[], [], [], [], [359], [], [], [], [353], []], [[], [730, 732, 10029], [], [], [100], [], [353], []], [[], [391], [], [], [], [], [], [], []]]
-- CellTree$MemoryNode.abort(LCellTree$Transaction;)V
def xt_c92 : List (List (Nat × xv_I)) := [[(0, .aload_n 0, 0, 0), (1, .getfield 21, 303, 1), (4, .aload_n 1, 0, 0), (5, .getfield 48, 405, 0), (8, .baload, 0, 0), (9, .istore_n 2, 0, 0), (10, .iload_n 2, 0, 0), (11, .iconst 1, 0, 0), (12, .if_icmp .ne 9, 0, 0), (15, .aload_n 0, 0, 0)], [(16, .aload_n 1, 0, 0), (17, .iconst 0, 0, 0), (18, .invokevirtual 56, 91, 2), (21, .iload_n 2, 0, 0), (22, .iconst 1, 0, 0), (23, .if_icmp .eq 7, 0, 0), (26, .iload_n 2, 0, 0), (27, .ifCond .ne 13, 0, 0), (30, .aload_n 0, 0, 0), (31, .getfield 21, 303, 1)], [(34, .aload_n 1, 0, 0), (35, .getfield 48, 405, 0), (38, .iconst 3, 0, 0), (39, .bastore, 0, 0), (40, .return_, 0, 0)]]
def xt_v92 : List (List (List Nat)) := [[[], [102], [], [361], [], [], [], [], [], []], [[], [], [741, 743, 10030], [], [], [], [], [], [], [102]], [[], [361], [], [], []]]
-- CellTree$MemoryNode.accepts(LCellTree$Transaction;)Z
def xt_c93 : List (List (Nat × xv_I)) := [[(0, .aload_n 1, 0, 0), (1, .invokevirtual 33, 94, 0), (4, .ifCond .eq 29, 0, 0), (7, .aload_n 0, 0, 0), (8, .getfield 17, 302, 1), (11, .aload_n 1, 0, 0), (12, .getfield 39, 401, 1), (15, .iconst 0, 0, 0)], [(16, .aaload, 107, 0), (17, .getfield 43, 501, 0), (20, .bipush 8, 0, 0), (22, .irem, 0, 0), (23, .iaload, 0, 0), (24, .ifCond .ne 7, 0, 0), (27, .iconst 1, 0, 0), (28, .goto 4, 0, 0), (31, .iconst 0, 0, 0)], [(32, .ireturn, 0, 2), (33, .aload_n 0, 0, 0), (34, .getfield 21, 303, 1), (37, .aload_n 1, 0, 0), (38, .getfield 48, 405, 0), (41, .baload, 0, 0), (42, .istore_n 2, 0, 0), (43, .iload_n 2, 0, 0), (44, .ifCond .eq 14, 0, 0), (47, .iload_n 2, 0, 0)], [(48, .iconst 3, 0, 0), (49, .if_icmp .eq 7, 0, 0), (52, .iconst 1, 0, 0), (53, .goto 4, 0, 0), (56, .iconst 0, 0, 0), (57, .ireturn, 0, 2), (58, .aload_n 0, 0, 0), (59, .aload_n 1, 0, 0), (60, .invokevirtual 49, 95, 1), (63, .ifCond .ne 15, 0, 0)], [(66, .aload_n 0, 0, 0), (67, .getfield 21, 303, 1), (70, .aload_n 1, 0, 0), (71, .getfield 48, 405, 0), (74, .iconst 3, 0, 0), (75, .bastore, 0, 0), (76, .iconst 0, 0, 0), (77, .ireturn, 0, 2), (78, .aload_n 1, 0, 0), (79, .invokevirtual 53, 79, 0)], [(82, .ifCond .eq 25, 0, 0), (85, .aload_n 0, 0, 0), (86, .getfield 21, 303, 1), (89, .aload_n 1, 0, 0), (90, .getfield 48, 405, 0), (93, .iconst 1, 0, 0), (94, .bastore, 0, 0), (95, .aload_n 0, 0, 0)], [(96, .aload_n 1, 0, 0), (97, .aload_n 1, 0, 0), (98, .getfield 48, 405, 0), (101, .invokevirtual 56, 91, 2), (104, .goto 8, 0, 0), (107, .aload_n 0, 0, 0), (108, .aload_n 1, 0, 0), (109, .invokevirtual 60, 88, 1)], [(112, .iconst 1, 0, 0), (113, .ireturn, 0, 2)]]
def xt_v93 : List (List (List Nat)) := [[[], [753, 754, 755], [], [], [100], [], [353], []], [[], [391], [], [], [], [], [], [], []], [[], [], [102], [], [361], [], [], [], [], []], [[], [], [], [], [], [], [], [], [758, 760, 10031], []], [[], [102], [], [361], [], [], [], [], [], [767, 690, 691]], [[], [], [102], [], [361], [], [], []], [[], [], [361], [741, 743, 10030], [], [], [], [726, 728, 10028]], [[], []]]
-- CellTree$Transaction.isRead()Z
def xt_c94 : List (List (Nat × xv_I)) := [[(0, .aload_n 0, 0, 0), (1, .getfield 28, 404, 0), (4, .iconst 1, 0, 0), (5, .if_icmp .ne 22, 0, 0), (8, .aload_n 0, 0, 0), (9, .getfield 11, 401, 1), (12, .iconst 0, 0, 0), (13, .aaload, 107, 0), (14, .getfield 34, 500, 1)], [(17, .getstatic 38, 7, 0), (20, .if_acmp .ne 7, 0, 0), (23, .iconst 1, 0, 0), (24, .goto 4, 0, 0), (27, .iconst 0, 0, 0), (28, .ireturn, 0, 2)]]
def xt_v94 : List (List (List Nat)) := [[[], [358], [], [], [], [352], [], [], [389]], [[757], [], [], [], [], []]]
-- CellTree$MemoryNode.canTake(LCellTree$Transaction;)Z
def xt_c95 : List (List (Nat × xv_I)) := [[(0, .iconst 0, 0, 0), (1, .istore_n 2, 0, 0), (2, .iload_n 2, 0, 0), (3, .aload_n 1, 0, 0), (4, .getfield 64, 404, 0), (7, .if_icmp .ge 59, 0, 0), (10, .aload_n 1, 0, 0), (11, .getfield 39, 401, 1), (14, .iload_n 2, 0, 0), (15, .aaload, 107, 0)], [(16, .astore_n 3, 0, 0), (17, .aload_n 3, 0, 0), (18, .getfield 43, 501, 0), (21, .bipush 8, 0, 0), (23, .irem, 0, 0), (24, .istore 4, 0, 0), (26, .aload_n 0, 0, 0), (27, .aload_n 3, 0, 0), (28, .invokevirtual 67, 89, 1), (31, .ifCond .eq 29, 0, 0)], [(34, .aload_n 0, 0, 0), (35, .getfield 17, 302, 1), (38, .iload 4, 0, 0), (40, .iaload, 0, 0), (41, .ifCond .ne 17, 0, 0), (44, .aload_n 3, 0, 0), (45, .aload_n 0, 0, 0), (46, .getfield 11, 301, 1)], [(49, .iload 4, 0, 0), (51, .aaload, 108, 0), (52, .invokevirtual 71, 96, 1), (55, .ifCond .ne 5, 0, 0), (58, .iconst 0, 0, 0), (59, .ireturn, 0, 2), (60, .iinc 2 1, 0, 0), (63, .goto (-61), 0, 0)], [(66, .iconst 1, 0, 0), (67, .ireturn, 0, 2)]]
def xt_v95 : List (List (List Nat)) := [[[], [], [], [], [359], [], [], [353], [], []], [[], [], [391], [], [], [], [], [], [730, 732, 10029], []], [[], [100], [], [], [], [], [], [98]], [[], [], [762, 763, 764], [], [], [], [], []], [[], []]]
-- CellTree$Item.fits(LCellTree$Cell;)Z
def xt_c96 : List (List (Nat × xv_I)) := [[(0, .aload_n 0, 0, 0), (1, .getfield 9, 500, 1), (4, .getstatic 26, 10, 0), (7, .if_acmp .ne 19, 0, 0), (10, .aload_n 1, 0, 0), (11, .getfield 31, 701, 1), (14, .getfield 34, 600, 0)], [(17, .ifCond .ne 7, 0, 0), (20, .iconst 1, 0, 0), (21, .goto 4, 0, 0), (24, .iconst 0, 0, 0), (25, .ireturn, 0, 2), (26, .aload_n 0, 0, 0), (27, .getfield 9, 500, 1), (30, .getstatic 38, 7, 0)], [(33, .if_acmp .eq 14, 0, 0), (36, .aload_n 1, 0, 0), (37, .getfield 41, 700, 0), (40, .aload_n 0, 0, 0), (41, .getfield 19, 502, 0), (44, .if_icmp .ne 7, 0, 0), (47, .iconst 1, 0, 0)], [(48, .goto 4, 0, 0), (51, .iconst 0, 0, 0), (52, .ireturn, 0, 2)]]
def xt_v96 : List (List (List Nat)) := [[[], [388], [739], [], [], [79], [39]], [[], [], [], [], [], [], [388], [766]], [[], [], [73], [], [392], [], []], [[], [], []]]
-- CellTree$MemoryNode.sightFor(LCellTree$Transaction;)LCellTree$Cell;
def xt_c97 : List (List (Nat × xv_I)) := [[(0, .aload_n 1, 0, 0), (1, .invokevirtual 33, 94, 0), (4, .ifCond .eq 23, 0, 0), (7, .aload_n 0, 0, 0), (8, .getfield 11, 301, 1), (11, .aload_n 1, 0, 0), (12, .getfield 39, 401, 1), (15, .iconst 0, 0, 0)], [(16, .aaload, 107, 0), (17, .getfield 43, 501, 0), (20, .bipush 8, 0, 0), (22, .irem, 0, 0), (23, .aaload, 108, 0), (24, .goto 4, 0, 0), (27, .aconst_null, 0, 0), (28, .areturn, 0, 0)]]
def xt_v97 : List (List (List Nat)) := [[[], [753, 754, 755], [], [], [98], [], [353], []], [[], [391], [], [], [], [], [], []]]
-- CellTree.drop(I)Z
def xt_c98 : List (List (Nat × xv_I)) := [[(0, .aload_n 0, 0, 0), (1, .iload_n 1, 0, 0), (2, .invokevirtual 77, 68, 1), (5, .ifCond .ne 5, 0, 0), (8, .iconst 0, 0, 0), (9, .ireturn, 0, 2), (10, .aload_n 0, 0, 0), (11, .getfield 44, 2, 1), (14, .iload_n 1, 0, 0), (15, .invokevirtual 90, 75, 1)], [(18, .pop, 0, 0), (19, .iconst 1, 0, 0), (20, .ireturn, 0, 2)]]
def xt_v98 : List (List (List Nat)) := [[[], [], [646, 648, 10021], [], [], [], [], [257], [], [672, 673, 674]], [[], [], []]]
-- CellTree.resend(I)I
def xt_c99 : List (List (Nat × xv_I)) := [[(0, .iload_n 1, 0, 0), (1, .invokestatic 111, 11, 1), (4, .ifCond .eq 15, 0, 0), (7, .aload_n 0, 0, 0), (8, .getfield 34, 1, 1), (11, .iload_n 1, 0, 0), (12, .aaload, 105, 0), (13, .getfield 114, 111, 1)], [(16, .ifnonnull 5, 0, 0), (19, .iconst (-1), 0, 0), (20, .ireturn, 0, 0), (21, .aload_n 0, 0, 0), (22, .aload_n 0, 0, 0), (23, .getfield 34, 1, 1), (26, .iload_n 1, 0, 0), (27, .aaload, 105, 0), (28, .getfield 114, 111, 1), (31, .invokevirtual 118, 51, 1)], [(34, .ireturn, 0, 0)]]
def xt_v99 : List (List (List Nat)) := [[[], [281, 282], [], [], [256], [], [], [197]], [[], [], [], [], [], [256], [], [], [197], [533, 535, 10016]], [[]]]
-- CellTree.crash(I)Z
def xt_c100 : List (List (Nat × xv_I)) := [[(0, .iload_n 1, 0, 0), (1, .invokestatic 122, 101, 1), (4, .ifCond .eq 11, 0, 0), (7, .aload_n 0, 0, 0), (8, .iload_n 1, 0, 0), (9, .invokevirtual 125, 102, 1), (12, .ifCond .ne 5, 0, 0), (15, .iconst 0, 0, 0)], [(16, .ireturn, 0, 2), (17, .iload_n 1, 0, 0), (18, .iconst 3, 0, 0), (19, .if_icmp .ge 16, 0, 0), (22, .aload_n 0, 0, 0), (23, .getfield 21, 0, 1), (26, .iload_n 1, 0, 0), (27, .aaload, 104, 0), (28, .iconst 0, 0, 0), (29, .putfield 104, 304, 2)], [(32, .goto 14, 0, 0), (35, .aload_n 0, 0, 0), (36, .getfield 34, 1, 1), (39, .iload_n 1, 0, 0), (40, .iconst 3, 0, 0), (41, .isub, 0, 0), (42, .aaload, 105, 0), (43, .invokevirtual 128, 103, 0), (46, .iconst 1, 0, 0), (47, .ireturn, 0, 2)]]
def xt_v100 : List (List (List Nat)) := [[[], [784, 785], [], [], [], [787, 789, 10032], [], []], [[], [], [], [], [], [255], [], [], [], [105]], [[], [], [256], [], [], [], [], [791, 792, 793], [], []]]
-- CellTree.isPlace(I)Z
def xt_c101 : List (List (Nat × xv_I)) := [[(0, .iload_n 0, 0, 0), (1, .ifCond .lt 12, 0, 0), (4, .iload_n 0, 0, 0), (5, .iconst 5, 0, 0), (6, .if_icmp .ge 7, 0, 0), (9, .iconst 1, 0, 0), (10, .goto 4, 0, 0), (13, .iconst 0, 0, 0), (14, .ireturn, 0, 2)]]
def xt_v101 : List (List (List Nat)) := [[[], [], [], [], [], [], [], [], []]]
-- CellTree.isUp(I)Z
def xt_c102 : List (List (Nat × xv_I)) := [[(0, .iload_n 1, 0, 0), (1, .iconst 3, 0, 0), (2, .if_icmp .ge 15, 0, 0), (5, .aload_n 0, 0, 0), (6, .getfield 21, 0, 1), (9, .iload_n 1, 0, 0), (10, .aaload, 104, 0), (11, .getfield 104, 304, 2), (14, .goto 14, 0, 0)], [(17, .aload_n 0, 0, 0), (18, .getfield 34, 1, 1), (21, .iload_n 1, 0, 0), (22, .iconst 3, 0, 0), (23, .isub, 0, 0), (24, .aaload, 105, 0), (25, .getfield 131, 107, 2), (28, .ireturn, 0, 2)]]
def xt_v102 : List (List (List Nat)) := [[[], [], [], [], [255], [], [], [105], []], [[], [256], [], [], [], [], [190], []]]
-- CellTree$Client.goDown()V
def xt_c103 : List (List (Nat × xv_I)) := [[(0, .aload_n 0, 0, 0), (1, .iconst 0, 0, 0), (2, .putfield 32, 107, 2), (5, .aload_n 0, 0, 0), (6, .aconst_null, 0, 0), (7, .putfield 54, 111, 1), (10, .aload_n 0, 0, 0), (11, .getfield 20, 102, 1), (14, .iconst 0, 0, 0), (15, .putfield 58, 207, 0)], [(18, .iconst 0, 0, 0), (19, .istore_n 1, 0, 0), (20, .iload_n 1, 0, 0), (21, .bipush 24, 0, 0), (23, .if_icmp .ge 16, 0, 0), (26, .aload_n 0, 0, 0), (27, .getfield 11, 101, 1), (30, .iload_n 1, 0, 0), (31, .aconst_null, 0, 0)], [(32, .aastore, 108, 0), (33, .iinc 1 1, 0, 0), (36, .goto (-16), 0, 0), (39, .return_, 0, 0)]]
def xt_v103 : List (List (List Nat)) := [[[], [], [189], [], [], [196], [], [183], [], [146]], [[], [], [], [], [], [], [181], [], []], [[], [], [], []]]
-- CellTree.restart(I)Z
def xt_c104 : List (List (Nat × xv_I)) := [[(0, .iload_n 1, 0, 0), (1, .invokestatic 122, 101, 1), (4, .ifCond .eq 11, 0, 0), (7, .aload_n 0, 0, 0), (8, .iload_n 1, 0, 0), (9, .invokevirtual 125, 102, 1), (12, .ifCond .eq 5, 0, 0), (15, .iconst 0, 0, 0)], [(16, .ireturn, 0, 2), (17, .iload_n 1, 0, 0), (18, .iconst 3, 0, 0), (19, .if_icmp .ge 16, 0, 0), (22, .aload_n 0, 0, 0), (23, .getfield 21, 0, 1), (26, .iload_n 1, 0, 0), (27, .aaload, 104, 0), (28, .iconst 1, 0, 0), (29, .putfield 104, 304, 2)], [(32, .goto 15, 0, 0), (35, .aload_n 0, 0, 0), (36, .getfield 34, 1, 1), (39, .iload_n 1, 0, 0), (40, .iconst 3, 0, 0), (41, .isub, 0, 0), (42, .aaload, 105, 0), (43, .iconst 1, 0, 0), (44, .putfield 131, 107, 2), (47, .iconst 1, 0, 0)], [(48, .ireturn, 0, 2)]]
def xt_v104 : List (List (List Nat)) := [[[], [784, 785], [], [], [], [787, 789, 10032], [], []], [[], [], [], [], [], [255], [], [], [], [105]], [[], [], [256], [], [], [], [], [], [190], []], [[]]]
-- CellTree.recover(I)I
def xt_c105 : List (List (Nat × xv_I)) := [[(0, .iload_n 1, 0, 0), (1, .invokestatic 132, 106, 1), (4, .ifCond .eq 15, 0, 0), (7, .aload_n 0, 0, 0), (8, .getfield 21, 0, 1), (11, .iload_n 1, 0, 0), (12, .aaload, 104, 0), (13, .getfield 104, 304, 2)], [(16, .ifCond .ne 5, 0, 0), (19, .iconst (-1), 0, 0), (20, .ireturn, 0, 0), (21, .aload_n 0, 0, 0), (22, .getfield 21, 0, 1), (25, .iload_n 1, 0, 0), (26, .aaload, 104, 0), (27, .aload_n 0, 0, 0), (28, .getfield 135, 4, 0), (31, .invokevirtual 138, 107, 1)], [(34, .istore_n 2, 0, 0), (35, .iload_n 2, 0, 0), (36, .ifCond .eq 25, 0, 0), (39, .aload_n 0, 0, 0), (40, .getfield 50, 3, 1), (43, .iload_n 2, 0, 0), (44, .aaload, 106, 0), (45, .ifnull 16, 0, 0)], [(48, .aload_n 0, 0, 0), (49, .aload_n 0, 0, 0), (50, .getfield 50, 3, 1), (53, .iload_n 2, 0, 0), (54, .aaload, 106, 0), (55, .invokevirtual 142, 108, 1), (58, .ifCond .ne 5, 0, 0), (61, .iconst (-1), 0, 0), (62, .ireturn, 0, 0), (63, .aload_n 0, 0, 0)], [(64, .aload_n 0, 0, 0), (65, .getfield 50, 3, 1), (68, .iload_n 2, 0, 0), (69, .aaload, 106, 0), (70, .invokevirtual 146, 109, 1), (73, .iload_n 2, 0, 0), (74, .ireturn, 0, 0)]]
def xt_v105 : List (List (List Nat)) := [[[], [803, 804], [], [], [255], [], [], [105]], [[], [], [], [], [255], [], [], [], [259], [806, 807, 808]], [[], [], [], [], [258], [], [], []], [[], [], [258], [], [], [810, 812, 10033], [], [], [], []], [[], [258], [], [], [814, 816, 10034], [], []]]
-- CellTree.isMemory(I)Z
def xt_c106 : List (List (Nat × xv_I)) := [[(0, .iload_n 0, 0, 0), (1, .ifCond .lt 12, 0, 0), (4, .iload_n 0, 0, 0), (5, .iconst 3, 0, 0), (6, .if_icmp .ge 7, 0, 0), (9, .iconst 1, 0, 0), (10, .goto 4, 0, 0), (13, .iconst 0, 0, 0), (14, .ireturn, 0, 2)]]
def xt_v106 : List (List (List Nat)) := [[[], [], [], [], [], [], [], [], []]]
-- CellTree$MemoryNode.lowestInDoubt(I)I
def xt_c107 : List (List (Nat × xv_I)) := [[(0, .iconst 1, 0, 0), (1, .istore_n 2, 0, 0), (2, .iload_n 2, 0, 0), (3, .iload_n 1, 0, 0), (4, .if_icmp .gt 21, 0, 0), (7, .aload_n 0, 0, 0), (8, .getfield 21, 303, 1), (11, .iload_n 2, 0, 0), (12, .baload, 0, 0), (13, .iconst 1, 0, 0), (14, .if_icmp .ne 5, 0, 0)], [(17, .iload_n 2, 0, 0), (18, .ireturn, 0, 0), (19, .iinc 2 1, 0, 0), (22, .goto (-20), 0, 0), (25, .iconst 0, 0, 0), (26, .ireturn, 0, 0)]]
def xt_v107 : List (List (List Nat)) := [[[], [], [], [], [], [], [102], [], [], [], []], [[], [], [], [], [], []]]
-- CellTree.areParticipantsUp(LCellTree$Transaction;)Z
def xt_c108 : List (List (Nat × xv_I)) := [[(0, .iconst 0, 0, 0), (1, .istore_n 2, 0, 0), (2, .iload_n 2, 0, 0), (3, .iconst 3, 0, 0), (4, .if_icmp .ge 32, 0, 0), (7, .aload_n 1, 0, 0), (8, .getfield 238, 402, 1), (11, .iload_n 2, 0, 0), (12, .baload, 0, 0), (13, .ifCond .eq 17, 0, 0)], [(16, .aload_n 0, 0, 0), (17, .getfield 21, 0, 1), (20, .iload_n 2, 0, 0), (21, .aaload, 104, 0), (22, .getfield 104, 304, 2), (25, .ifCond .ne 5, 0, 0), (28, .iconst 0, 0, 0), (29, .ireturn, 0, 2), (30, .iinc 2 1, 0, 0)], [(33, .goto (-31), 0, 0), (36, .iconst 1, 0, 0), (37, .ireturn, 0, 2)]]
def xt_v108 : List (List (List Nat)) := [[[], [], [], [], [], [], [355], [], [], []], [[], [255], [], [], [105], [], [], [], []], [[], [], []]]
-- CellTree.settle(LCellTree$Transaction;)V
def xt_c109 : List (List (Nat × xv_I)) := [[(0, .aload_n 0, 0, 0), (1, .aload_n 1, 0, 0), (2, .invokevirtual 296, 110, 1), (5, .istore_n 2, 0, 0), (6, .iconst 0, 0, 0), (7, .istore_n 3, 0, 0), (8, .iload_n 3, 0, 0), (9, .iconst 3, 0, 0), (10, .if_icmp .ge 48, 0, 0), (13, .aload_n 1, 0, 0), (14, .getfield 238, 402, 1)], [(17, .iload_n 3, 0, 0), (18, .baload, 0, 0), (19, .ifCond .ne 6, 0, 0), (22, .goto 30, 0, 0), (25, .iload_n 2, 0, 0), (26, .ifCond .eq 16, 0, 0), (29, .aload_n 0, 0, 0), (30, .getfield 21, 0, 1)], [(33, .iload_n 3, 0, 0), (34, .aaload, 104, 0), (35, .aload_n 1, 0, 0), (36, .invokevirtual 258, 87, 1), (39, .goto 13, 0, 0), (42, .aload_n 0, 0, 0), (43, .getfield 21, 0, 1), (46, .iload_n 3, 0, 0), (47, .aaload, 104, 0)], [(48, .aload_n 1, 0, 0), (49, .invokevirtual 261, 92, 1), (52, .iinc 3 1, 0, 0), (55, .goto (-47), 0, 0), (58, .return_, 0, 0)]]
def xt_v109 : List (List (List Nat)) := [[[], [], [818, 820, 10035], [], [], [], [], [], [], [], [355]], [[], [], [], [], [], [], [], [255]], [[], [], [], [722, 723, 724], [], [], [255], [], []], [[], [745, 746, 747], [], [], []]]
-- CellTree.isToCommit(LCellTree$Transaction;)Z
def xt_c110 : List (List (Nat × xv_I)) := [[(0, .iconst 1, 0, 0), (1, .istore_n 2, 0, 0), (2, .iconst 0, 0, 0), (3, .istore_n 3, 0, 0), (4, .iload_n 3, 0, 0), (5, .iconst 3, 0, 0), (6, .if_icmp .ge 53, 0, 0), (9, .aload_n 1, 0, 0), (10, .getfield 238, 402, 1), (13, .iload_n 3, 0, 0), (14, .baload, 0, 0), (15, .ifCond .ne 6, 0, 0)], [(18, .goto 35, 0, 0), (21, .aload_n 0, 0, 0), (22, .getfield 21, 0, 1), (25, .iload_n 3, 0, 0), (26, .aaload, 104, 0), (27, .getfield 208, 303, 1), (30, .aload_n 1, 0, 0), (31, .getfield 168, 405, 0)], [(34, .baload, 0, 0), (35, .istore 4, 0, 0), (37, .iload 4, 0, 0), (39, .iconst 2, 0, 0), (40, .if_icmp .ne 5, 0, 0), (43, .iconst 1, 0, 0), (44, .ireturn, 0, 2), (45, .iload 4, 0, 0), (47, .iconst 1, 0, 0)], [(48, .if_icmp .eq 5, 0, 0), (51, .iconst 0, 0, 0), (52, .istore_n 2, 0, 0), (53, .iinc 3 1, 0, 0), (56, .goto (-52), 0, 0), (59, .iload_n 2, 0, 0), (60, .ireturn, 0, 2)]]
def xt_v110 : List (List (List Nat)) := [[[], [], [], [], [], [], [], [], [355], [], [], []], [[], [], [255], [], [], [103], [], [362]], [[], [], [], [], [], [], [], [], []], [[], [], [], [], [], [], []]]
-- CellTree.work(I)I
def xt_c111 : List (List (Nat × xv_I)) := [[(0, .iload_n 1, 0, 0), (1, .invokestatic 111, 11, 1), (4, .ifCond .eq 18, 0, 0), (7, .aload_n 0, 0, 0), (8, .getfield 34, 1, 1), (11, .iload_n 1, 0, 0), (12, .aaload, 105, 0), (13, .getfield 150, 102, 1)], [(16, .getfield 154, 207, 0), (19, .goto 4, 0, 0), (22, .iconst (-1), 0, 0), (23, .ireturn, 0, 0)]]
def xt_v111 : List (List (List Nat)) := [[[], [281, 282], [], [], [256], [], [], [184]], [[148], [], [], []]]
-- CellTree.about(II)I
def xt_c112 : List (List (Nat × xv_I)) := [[(0, .iload_n 1, 0, 0), (1, .invokestatic 111, 11, 1), (4, .ifCond .ne 5, 0, 0), (7, .iconst (-1), 0, 0), (8, .ireturn, 0, 0), (9, .aload_n 0, 0, 0), (10, .getfield 34, 1, 1), (13, .iload_n 1, 0, 0), (14, .aaload, 105, 0), (15, .astore_n 3, 0, 0)], [(16, .iload_n 2, 0, 0), (17, .tableswitch 83 0 4 #[35, 43, 51, 59, 78], 0, 0)], [], [(52, .aload_n 3, 0, 0), (53, .getfield 150, 102, 1), (56, .invokevirtual 159, 113, 0), (59, .ireturn, 0, 0), (60, .aload_n 3, 0, 0), (61, .getfield 150, 102, 1)], [(64, .invokevirtual 162, 114, 0), (67, .ireturn, 0, 0), (68, .aload_n 3, 0, 0), (69, .getfield 150, 102, 1), (72, .invokevirtual 165, 115, 0), (75, .ireturn, 0, 0), (76, .aload_n 3, 0, 0), (77, .getfield 114, 111, 1)], [(80, .ifnonnull 7, 0, 0), (83, .iconst 0, 0, 0), (84, .goto 10, 0, 0), (87, .aload_n 3, 0, 0), (88, .getfield 114, 111, 1), (91, .getfield 168, 405, 0), (94, .ireturn, 0, 0), (95, .aload_n 3, 0, 0)], [(96, .getfield 171, 108, 0), (99, .ireturn, 0, 0), (100, .iconst (-1), 0, 0), (101, .ireturn, 0, 0)]]
def xt_v112 : List (List (List Nat)) := [[[], [281, 282], [], [], [], [], [256], [], [], []], [[], []], [], [[], [184], [830, 831, 832], [], [], [184]], [[834, 835, 836], [], [], [184], [838, 839, 840], [], [], [197]], [[], [], [], [], [197], [362], [], []], [[192], [], [], []]]
-- CellTree$Job.answer()I
def xt_c113 : List (List (Nat × xv_I)) := [[(0, .aload_n 0, 0, 0), (1, .getfield 32, 207, 0), (4, .iconst 3, 0, 0), (5, .if_icmp .ne 10, 0, 0), (8, .aload_n 0, 0, 0), (9, .getfield 45, 210, 0), (12, .goto 4, 0, 0), (15, .iconst 0, 0, 0)], [(16, .ireturn, 0, 0)]]
def xt_v113 : List (List (List Nat)) := [[[], [147], [], [], [], [153], [], []], [[]]]
-- CellTree$Job.fuelLeft()I
def xt_c114 : List (List (Nat × xv_I)) := [[(0, .aload_n 0, 0, 0), (1, .getfield 32, 207, 0), (4, .ifCond .ne 7, 0, 0), (7, .iconst 0, 0, 0), (8, .goto 7, 0, 0), (11, .aload_n 0, 0, 0), (12, .getfield 35, 208, 0), (15, .ireturn, 0, 0)]]
def xt_v114 : List (List (List Nat)) := [[[], [147], [], [], [], [], [149], []]]
-- CellTree$Job.leavesCollected()I
def xt_c115 : List (List (Nat × xv_I)) := [[(0, .aload_n 0, 0, 0), (1, .getfield 32, 207, 0), (4, .ifCond .eq 13, 0, 0), (7, .aload_n 0, 0, 0), (8, .getfield 18, 203, 1), (11, .getstatic 48, 6, 0), (14, .if_acmp .eq 7, 0, 0)], [(17, .iconst 0, 0, 0), (18, .goto 7, 0, 0), (21, .aload_n 0, 0, 0), (22, .getfield 38, 202, 0), (25, .ireturn, 0, 0)]]
def xt_v115 : List (List (List Nat)) := [[[], [147], [], [], [138], [842], []], [[], [], [], [136], []]]
-- CellTree.copy(II)I
def xt_c116 : List (List (Nat × xv_I)) := [[(0, .iload_n 1, 0, 0), (1, .invokestatic 111, 11, 1), (4, .ifCond .eq 10, 0, 0), (7, .iload_n 2, 0, 0), (8, .invokestatic 174, 117, 1), (11, .ifCond .ne 5, 0, 0), (14, .iconst (-1), 0, 0), (15, .ireturn, 0, 0)], [(16, .aload_n 0, 0, 0), (17, .getfield 34, 1, 1), (20, .iload_n 1, 0, 0), (21, .aaload, 105, 0), (22, .getfield 177, 101, 1), (25, .iload_n 2, 0, 0), (26, .aaload, 108, 0), (27, .astore_n 3, 0, 0), (28, .aload_n 3, 0, 0), (29, .ifnonnull 7, 0, 0)], [(32, .iconst 0, 0, 0), (33, .goto 7, 0, 0), (36, .aload_n 3, 0, 0), (37, .getfield 180, 700, 0), (40, .ireturn, 0, 0)]]
def xt_v116 : List (List (List Nat)) := [[[], [281, 282], [], [], [847, 848], [], [], []], [[], [256], [], [], [182], [], [], [], [], []], [[], [], [], [77], []]]
-- CellTree.isAddress(I)Z
def xt_c117 : List (List (Nat × xv_I)) := [[(0, .iload_n 0, 0, 0), (1, .ifCond .lt 13, 0, 0), (4, .iload_n 0, 0, 0), (5, .bipush 24, 0, 0), (7, .if_icmp .ge 7, 0, 0), (10, .iconst 1, 0, 0), (11, .goto 4, 0, 0), (14, .iconst 0, 0, 0), (15, .ireturn, 0, 2)]]
def xt_v117 : List (List (List Nat)) := [[[], [], [], [], [], [], [], [], []]]
-- CellTree.cell(II)I
def xt_c118 : List (List (Nat × xv_I)) := [[(0, .iload_n 1, 0, 0), (1, .invokestatic 174, 117, 1), (4, .ifCond .ne 5, 0, 0), (7, .iconst (-1), 0, 0), (8, .ireturn, 0, 0), (9, .aload_n 0, 0, 0), (10, .iload_n 1, 0, 0), (11, .invokevirtual 183, 119, 1), (14, .astore_n 3, 0, 0), (15, .iload_n 2, 0, 0)], [(16, .tableswitch 96 0 5 #[40, 48, 53, 71, 80, 88], 0, 0)], [], [(56, .aload_n 3, 0, 0), (57, .getfield 187, 701, 1), (60, .getfield 191, 600, 0), (63, .ireturn, 0, 0)], [(64, .aload_n 3, 0, 0), (65, .getfield 180, 700, 0), (68, .ireturn, 0, 0), (69, .aload_n 0, 0, 0), (70, .getfield 21, 0, 1), (73, .iload_n 1, 0, 0), (74, .bipush 8, 0, 0), (76, .idiv, 0, 0), (77, .aaload, 104, 0), (78, .getfield 192, 302, 1)], [(81, .iload_n 1, 0, 0), (82, .bipush 8, 0, 0), (84, .irem, 0, 0), (85, .iaload, 0, 0), (86, .ireturn, 0, 0), (87, .aload_n 3, 0, 0), (88, .getfield 187, 701, 1), (91, .getfield 196, 603, 1), (94, .arraylength, 100, 0), (95, .ireturn, 0, 0)], [(96, .aload_n 3, 0, 0), (97, .getfield 187, 701, 1), (100, .getfield 199, 601, 0), (103, .ireturn, 0, 0), (104, .aload_n 3, 0, 0), (105, .getfield 187, 701, 1), (108, .getfield 202, 602, 0), (111, .ireturn, 0, 0)], [(112, .iconst (-1), 0, 0), (113, .ireturn, 0, 0)]]
def xt_v118 : List (List (List Nat)) := [[[], [847, 848], [], [], [], [], [], [854, 856, 10036], [], []], [[]], [], [[], [82], [41], []], [[], [77], [], [], [255], [], [], [], [], [101]], [[], [], [], [], [], [], [82], [49], [], []], [[], [82], [43], [], [], [82], [46], []], [[], []]]
-- CellTree.cellAt(I)LCellTree$Cell;
def xt_c119 : List (List (Nat × xv_I)) := [[(0, .aload_n 0, 0, 0), (1, .getfield 21, 0, 1), (4, .iload_n 1, 0, 0), (5, .bipush 8, 0, 0), (7, .idiv, 0, 0), (8, .aaload, 104, 0), (9, .getfield 28, 301, 1), (12, .iload_n 1, 0, 0), (13, .bipush 8, 0, 0), (15, .irem, 0, 0)], [(16, .aaload, 108, 0), (17, .areturn, 0, 0)]]
def xt_v119 : List (List (List Nat)) := [[[], [255], [], [], [], [], [99], [], [], []], [[], []]]
-- CellTree.key(II)I
def xt_c120 : List (List (Nat × xv_I)) := [[(0, .iload_n 1, 0, 0), (1, .invokestatic 174, 117, 1), (4, .ifCond .ne 5, 0, 0), (7, .iconst (-1), 0, 0), (8, .ireturn, 0, 0), (9, .aload_n 0, 0, 0), (10, .iload_n 1, 0, 0), (11, .invokevirtual 183, 119, 1), (14, .getfield 187, 701, 1)], [(17, .getfield 196, 603, 1), (20, .astore_n 3, 0, 0), (21, .iload_n 2, 0, 0), (22, .ifCond .lt 15, 0, 0), (25, .iload_n 2, 0, 0), (26, .aload_n 3, 0, 0), (27, .arraylength, 100, 0), (28, .if_icmp .ge 9, 0, 0), (31, .aload_n 3, 0, 0)], [(32, .iload_n 2, 0, 0), (33, .iaload, 0, 0), (34, .goto 4, 0, 0), (37, .iconst (-1), 0, 0), (38, .ireturn, 0, 0)]]
def xt_v120 : List (List (List Nat)) := [[[], [847, 848], [], [], [], [], [], [854, 856, 10036], [82]], [[49], [], [], [], [], [], [], [], []], [[], [], [], [], []]]
-- CellTree.item(II)I
def xt_c121 : List (List (Nat × xv_I)) := [[(0, .iload_n 1, 0, 0), (1, .invokestatic 174, 117, 1), (4, .ifCond .ne 5, 0, 0), (7, .iconst 0, 0, 0), (8, .ireturn, 0, 0), (9, .aload_n 0, 0, 0), (10, .iload_n 1, 0, 0), (11, .invokevirtual 183, 119, 1), (14, .getfield 187, 701, 1)], [(17, .getfield 205, 604, 1), (20, .astore_n 3, 0, 0), (21, .iload_n 2, 0, 0), (22, .ifCond .lt 15, 0, 0), (25, .iload_n 2, 0, 0), (26, .aload_n 3, 0, 0), (27, .arraylength, 100, 0), (28, .if_icmp .ge 9, 0, 0), (31, .aload_n 3, 0, 0)], [(32, .iload_n 2, 0, 0), (33, .iaload, 0, 0), (34, .goto 4, 0, 0), (37, .iconst 0, 0, 0), (38, .ireturn, 0, 0)]]
def xt_v121 : List (List (List Nat)) := [[[], [847, 848], [], [], [], [], [], [854, 856, 10036], [82]], [[53], [], [], [], [], [], [], [], []], [[], [], [], [], []]]
-- CellTree.remembers(II)I
def xt_c122 : List (List (Nat × xv_I)) := [[(0, .iload_n 1, 0, 0), (1, .invokestatic 132, 106, 1), (4, .ifCond .eq 16, 0, 0), (7, .iload_n 2, 0, 0), (8, .iconst 1, 0, 0), (9, .if_icmp .lt 11, 0, 0), (12, .iload_n 2, 0, 0), (13, .aload_n 0, 0, 0), (14, .getfield 135, 4, 0)], [(17, .if_icmp .le 5, 0, 0), (20, .iconst (-1), 0, 0), (21, .ireturn, 0, 0), (22, .aload_n 0, 0, 0), (23, .getfield 21, 0, 1), (26, .iload_n 1, 0, 0), (27, .aaload, 104, 0), (28, .getfield 208, 303, 1), (31, .iload_n 2, 0, 0)], [(32, .baload, 0, 0), (33, .ireturn, 0, 0)]]
def xt_v122 : List (List (List Nat)) := [[[], [803, 804], [], [], [], [], [], [], [259]], [[], [], [], [], [255], [], [], [103], []], [[], []]]
-- CellTreeModel.<init>()V
def xt_c123 : List (List (Nat × xv_I)) := [[(0, .aload_n 0, 0, 0), (1, .invokespecial 1, 1001, 0), (4, .aload_n 0, 0, 0), (5, .iconst 5, 0, 0), (6, .newarray .boolean, 102, 0), (8, .putfield 7, 900, 1), (11, .aload_n 0, 0, 0), (12, .bipush 24, 0, 0), (14, .newarray .long, 103, 0)], [(16, .putfield 13, 901, 1), (19, .aload_n 0, 0, 0), (20, .bipush 24, 0, 0), (22, .newarray .int, 100, 0), (24, .putfield 17, 902, 1), (27, .aload_n 0, 0, 0), (28, .bipush 72, 0, 0), (30, .newarray .int, 100, 0)], [(32, .putfield 21, 903, 1), (35, .aload_n 0, 0, 0), (36, .sipush 520, 0, 0), (39, .newarray .int, 100, 0), (41, .putfield 24, 905, 1), (44, .aload_n 0, 0, 0), (45, .sipush 520, 0, 0)], [(48, .newarray .int, 100, 0), (50, .putfield 27, 906, 1), (53, .aload_n 0, 0, 0), (54, .sipush 520, 0, 0), (57, .newarray .int, 100, 0), (59, .putfield 30, 907, 1), (62, .aload_n 0, 0, 0), (63, .sipush 1560, 0, 0)], [(66, .newarray .byte, 101, 0), (68, .putfield 33, 908, 1), (71, .aload_n 0, 0, 0), (72, .sipush 1600, 0, 0), (75, .newarray .byte, 101, 0), (77, .putfield 37, 910, 1)], [(80, .aload_n 0, 0, 0), (81, .sipush 1600, 0, 0), (84, .newarray .byte, 101, 0), (86, .putfield 40, 911, 1), (89, .aload_n 0, 0, 0), (90, .sipush 1600, 0, 0), (93, .newarray .int, 100, 0), (95, .putfield 43, 912, 1)], [(98, .aload_n 0, 0, 0), (99, .sipush 1600, 0, 0), (102, .newarray .long, 103, 0), (104, .putfield 46, 913, 1), (107, .aload_n 0, 0, 0), (108, .sipush 4800, 0, 0), (111, .newarray .int, 100, 0)], [(113, .putfield 49, 914, 1), (116, .aload_n 0, 0, 0), (117, .bipush 40, 0, 0), (119, .newarray .int, 100, 0), (121, .putfield 52, 916, 1), (124, .aload_n 0, 0, 0), (125, .bipush 40, 0, 0), (127, .newarray .int, 100, 0)], [(129, .putfield 55, 917, 1), (132, .aload_n 0, 0, 0), (133, .bipush 40, 0, 0), (135, .newarray .int, 100, 0), (137, .putfield 58, 918, 1), (140, .aload_n 0, 0, 0), (141, .bipush 40, 0, 0), (143, .newarray .int, 100, 0)], [(145, .putfield 61, 919, 1), (148, .aload_n 0, 0, 0), (149, .bipush 40, 0, 0), (151, .newarray .long, 103, 0), (153, .putfield 64, 920, 1), (156, .aload_n 0, 0, 0), (157, .bipush 120, 0, 0), (159, .newarray .int, 100, 0)], [(161, .putfield 67, 921, 1), (164, .aload_n 0, 0, 0), (165, .bipush 48, 0, 0), (167, .newarray .int, 100, 0), (169, .putfield 70, 922, 1), (172, .aload_n 0, 0, 0), (173, .bipush 48, 0, 0), (175, .newarray .long, 103, 0)], [(177, .putfield 73, 923, 1), (180, .aload_n 0, 0, 0), (181, .iconst 2, 0, 0), (182, .newarray .int, 100, 0), (184, .putfield 76, 924, 1), (187, .aload_n 0, 0, 0), (188, .iconst 2, 0, 0), (189, .newarray .int, 100, 0), (191, .putfield 79, 925, 1)], [(194, .aload_n 0, 0, 0), (195, .iconst 2, 0, 0), (196, .newarray .int, 100, 0), (198, .putfield 82, 926, 1), (201, .aload_n 0, 0, 0), (202, .iconst 2, 0, 0), (203, .newarray .int, 100, 0), (205, .putfield 85, 927, 1)], [(208, .aload_n 0, 0, 0), (209, .iconst 2, 0, 0), (210, .newarray .int, 100, 0), (212, .putfield 88, 928, 1), (215, .aload_n 0, 0, 0), (216, .iconst 2, 0, 0), (217, .newarray .int, 100, 0), (219, .putfield 91, 929, 1), (222, .aload_n 0, 0, 0), (223, .iconst 2, 0, 0)], [(224, .newarray .int, 100, 0), (226, .putfield 94, 930, 1), (229, .aload_n 0, 0, 0), (230, .iconst 2, 0, 0), (231, .newarray .int, 100, 0), (233, .putfield 97, 931, 1), (236, .aload_n 0, 0, 0), (237, .iconst 2, 0, 0), (238, .newarray .int, 100, 0)], [(240, .putfield 100, 932, 1), (243, .aload_n 0, 0, 0), (244, .iconst 2, 0, 0), (245, .newarray .boolean, 102, 0), (247, .putfield 103, 933, 1), (250, .aload_n 0, 0, 0), (251, .iconst 2, 0, 0), (252, .newarray .int, 100, 0), (254, .putfield 106, 934, 1)], [(257, .aload_n 0, 0, 0), (258, .iconst 2, 0, 0), (259, .newarray .int, 100, 0), (261, .putfield 109, 935, 1), (264, .aload_n 0, 0, 0), (265, .iconst 2, 0, 0), (266, .newarray .int, 100, 0), (268, .putfield 112, 936, 1), (271, .aload_n 0, 0, 0)], [(272, .bipush 48, 0, 0), (274, .newarray .int, 100, 0), (276, .putfield 115, 937, 1), (279, .aload_n 0, 0, 0), (280, .iconst 2, 0, 0), (281, .newarray .int, 100, 0), (283, .putfield 118, 938, 1), (286, .aload_n 0, 0, 0), (287, .iconst 2, 0, 0)], [(288, .newarray .int, 100, 0), (290, .putfield 121, 939, 1), (293, .aload_n 0, 0, 0), (294, .bipush 12, 0, 0), (296, .newarray .int, 100, 0), (298, .putfield 124, 940, 1), (301, .aload_n 0, 0, 0), (302, .bipush 12, 0, 0)], [(304, .newarray .int, 100, 0), (306, .putfield 127, 941, 1), (309, .aload_n 0, 0, 0), (310, .getfield 13, 901, 1), (313, .iconst 0, 0, 0), (314, .iconst 1, 0, 0), (315, .iconst 0, 0, 0), (316, .bipush 100, 0, 0), (318, .invokestatic 130, 124, 3)], [(321, .lastore, 0, 0), (322, .aload_n 0, 0, 0), (323, .getfield 76, 924, 1), (326, .iconst 0, 0, 0), (327, .iconst 1, 0, 0), (328, .iastore, 0, 0), (329, .aload_n 0, 0, 0), (330, .getfield 76, 924, 1), (333, .iconst 1, 0, 0), (334, .bipush 9, 0, 0)], [(336, .iastore, 0, 0), (337, .return_, 0, 0)]]
def xt_v123 : List (List (List Nat)) := [[[], [875, 30, 31], [], [], [376], [881], [], [], [1008]], [[882], [], [], [65], [883], [], [], [65]], [[884], [], [], [65], [886], [], []], [[65], [887], [], [], [65], [888], [], []], [[117], [889], [], [], [117], [891]], [[], [], [117], [892], [], [], [65], [893]], [[], [], [1008], [894], [], [], [65]], [[895], [], [], [65], [897], [], [], [65]], [[898], [], [], [65], [899], [], [], [65]], [[900], [], [], [1008], [901], [], [], [65]], [[902], [], [], [65], [903], [], [], [1008]], [[904], [], [], [65], [905], [], [], [65], [906]], [[], [], [65], [907], [], [], [65], [908]], [[], [], [65], [909], [], [], [65], [910], [], []], [[65], [911], [], [], [65], [912], [], [], [65]], [[913], [], [], [376], [914], [], [], [65], [915]], [[], [], [65], [916], [], [], [65], [917], []], [[], [65], [918], [], [], [65], [919], [], []], [[65], [920], [], [], [65], [921], [], []], [[65], [922], [], [882], [], [], [], [], [876, 877]], [[], [], [905], [], [], [], [], [905], [], []], [[], []]]
-- CellTreeModel.plain(III)J
def xt_c124 : List (List (Nat × xv_I)) := [[(0, .iload_n 0, 0, 0), (1, .i2l, 0, 0), (2, .ldc2_w 134, 16, 0), (5, .iload_n 1, 0, 0), (6, .i2l, 0, 0), (7, .lmul, 0, 0), (8, .ladd, 0, 0), (9, .ldc2_w 136, 2048, 0), (12, .iload_n 2, 0, 0), (13, .i2l, 0, 0), (14, .lmul, 0, 0), (15, .ladd, 0, 0)], [(16, .lreturn, 0, 0)]]
def xt_v124 : List (List (List Nat)) := [[[], [], [879], [], [], [], [], [880], [], [], [], []], [[]]]
-- CellTreeModel.messages()I
def xt_c125 : List (List (Nat × xv_I)) := [[(0, .aload_n 0, 0, 0), (1, .getfield 156, 915, 0), (4, .ireturn, 0, 0)]]
def xt_v125 : List (List (List Nat)) := [[[], [896], []]]
-- CellTreeModel.message(I)I
def xt_c126 : List (List (Nat × xv_I)) := [[(0, .iload_n 1, 0, 0), (1, .iconst 0, 0, 0), (2, .aload_n 0, 0, 0), (3, .getfield 156, 915, 0), (6, .iconst 1, 0, 0), (7, .isub, 0, 0), (8, .invokestatic 160, 127, 3), (11, .ifCond .eq 33, 0, 0), (14, .sipush 10000, 0, 0)], [(17, .aload_n 0, 0, 0), (18, .getfield 52, 916, 1), (21, .iload_n 1, 0, 0), (22, .iaload, 0, 0), (23, .imul, 0, 0), (24, .bipush 10, 0, 0), (26, .aload_n 0, 0, 0), (27, .getfield 55, 917, 1), (30, .iload_n 1, 0, 0), (31, .iaload, 0, 0)], [(32, .imul, 0, 0), (33, .iadd, 0, 0), (34, .aload_n 0, 0, 0), (35, .getfield 58, 918, 1), (38, .iload_n 1, 0, 0), (39, .iaload, 0, 0), (40, .iadd, 0, 0), (41, .goto 4, 0, 0), (44, .iconst (-1), 0, 0), (45, .ireturn, 0, 0)]]
def xt_v126 : List (List (List Nat)) := [[[], [], [], [896], [], [], [1017, 1018], [], []], [[], [897], [], [], [], [], [], [898], [], []], [[], [], [], [899], [], [], [], [], [], []]]
-- CellTreeModel.in(III)Z
def xt_c127 : List (List (Nat × xv_I)) := [[(0, .iload_n 0, 0, 0), (1, .iload_n 1, 0, 0), (2, .if_icmp .lt 12, 0, 0), (5, .iload_n 0, 0, 0), (6, .iload_n 2, 0, 0), (7, .if_icmp .gt 7, 0, 0), (10, .iconst 1, 0, 0), (11, .goto 4, 0, 0), (14, .iconst 0, 0, 0), (15, .ireturn, 0, 2)]]
def xt_v127 : List (List (List Nat)) := [[[], [], [], [], [], [], [], [], [], []]]
-- CellTreeModel.drop(I)Z
def xt_c128 : List (List (Nat × xv_I)) := [[(0, .iload_n 1, 0, 0), (1, .iconst 0, 0, 0), (2, .aload_n 0, 0, 0), (3, .getfield 156, 915, 0), (6, .iconst 1, 0, 0), (7, .isub, 0, 0), (8, .invokestatic 160, 127, 3), (11, .ifCond .ne 5, 0, 0), (14, .iconst 0, 0, 0), (15, .ireturn, 0, 2)], [(16, .aload_n 0, 0, 0), (17, .dup, 0, 0), (18, .getfield 156, 915, 0), (21, .iconst 1, 0, 0), (22, .isub, 0, 0), (23, .putfield 156, 915, 0), (26, .iload_n 1, 0, 0), (27, .istore_n 2, 0, 0), (28, .iload_n 2, 0, 0), (29, .aload_n 0, 0, 0), (30, .getfield 156, 915, 0)], [(33, .if_icmp .ge 114, 0, 0), (36, .aload_n 0, 0, 0), (37, .getfield 52, 916, 1), (40, .iload_n 2, 0, 0), (41, .aload_n 0, 0, 0), (42, .getfield 52, 916, 1), (45, .iload_n 2, 0, 0), (46, .iconst 1, 0, 0), (47, .iadd, 0, 0)], [(48, .iaload, 0, 0), (49, .iastore, 0, 0), (50, .aload_n 0, 0, 0), (51, .getfield 55, 917, 1), (54, .iload_n 2, 0, 0), (55, .aload_n 0, 0, 0), (56, .getfield 55, 917, 1), (59, .iload_n 2, 0, 0), (60, .iconst 1, 0, 0), (61, .iadd, 0, 0), (62, .iaload, 0, 0), (63, .iastore, 0, 0)], [(64, .aload_n 0, 0, 0), (65, .getfield 58, 918, 1), (68, .iload_n 2, 0, 0), (69, .aload_n 0, 0, 0), (70, .getfield 58, 918, 1), (73, .iload_n 2, 0, 0), (74, .iconst 1, 0, 0), (75, .iadd, 0, 0), (76, .iaload, 0, 0), (77, .iastore, 0, 0), (78, .aload_n 0, 0, 0), (79, .getfield 61, 919, 1)], [(82, .iload_n 2, 0, 0), (83, .aload_n 0, 0, 0), (84, .getfield 61, 919, 1), (87, .iload_n 2, 0, 0), (88, .iconst 1, 0, 0), (89, .iadd, 0, 0), (90, .iaload, 0, 0), (91, .iastore, 0, 0), (92, .aload_n 0, 0, 0), (93, .getfield 64, 920, 1)], [(96, .iload_n 2, 0, 0), (97, .aload_n 0, 0, 0), (98, .getfield 64, 920, 1), (101, .iload_n 2, 0, 0), (102, .iconst 1, 0, 0), (103, .iadd, 0, 0), (104, .laload, 0, 0), (105, .lastore, 0, 0), (106, .iconst 0, 0, 0), (107, .istore_n 3, 0, 0), (108, .iload_n 3, 0, 0), (109, .iconst 3, 0, 0), (110, .if_icmp .ge 31, 0, 0)], [(113, .aload_n 0, 0, 0), (114, .getfield 67, 921, 1), (117, .iconst 3, 0, 0), (118, .iload_n 2, 0, 0), (119, .imul, 0, 0), (120, .iload_n 3, 0, 0), (121, .iadd, 0, 0), (122, .aload_n 0, 0, 0), (123, .getfield 67, 921, 1), (126, .iconst 3, 0, 0), (127, .iload_n 2, 0, 0)], [(128, .imul, 0, 0), (129, .iconst 3, 0, 0), (130, .iadd, 0, 0), (131, .iload_n 3, 0, 0), (132, .iadd, 0, 0), (133, .iaload, 0, 0), (134, .iastore, 0, 0), (135, .iinc 3 1, 0, 0), (138, .goto (-30), 0, 0), (141, .iinc 2 1, 0, 0)], [(144, .goto (-116), 0, 0), (147, .iconst 1, 0, 0), (148, .ireturn, 0, 2)]]
def xt_v128 : List (List (List Nat)) := [[[], [], [], [896], [], [], [1017, 1018], [], [], []], [[], [], [896], [], [], [896], [], [], [], [], [896]], [[], [], [897], [], [], [897], [], [], []], [[], [], [], [898], [], [], [898], [], [], [], [], []], [[], [899], [], [], [899], [], [], [], [], [], [], [900]], [[], [], [900], [], [], [], [], [], [], [901]], [[], [], [901], [], [], [], [], [], [], [], [], [], []], [[], [902], [], [], [], [], [], [], [902], [], []], [[], [], [], [], [], [], [], [], [], []], [[], [], []]]
-- CellTreeModel.deliver(I)Z
def xt_c129 : List (List (Nat × xv_I)) := [[(0, .iload_n 1, 0, 0), (1, .iconst 0, 0, 0), (2, .aload_n 0, 0, 0), (3, .getfield 156, 915, 0), (6, .iconst 1, 0, 0), (7, .isub, 0, 0), (8, .invokestatic 160, 127, 3), (11, .ifCond .ne 5, 0, 0), (14, .iconst 0, 0, 0), (15, .ireturn, 0, 2)], [(16, .aload_n 0, 0, 0), (17, .getfield 52, 916, 1), (20, .iload_n 1, 0, 0), (21, .iaload, 0, 0), (22, .istore_n 2, 0, 0), (23, .aload_n 0, 0, 0), (24, .getfield 55, 917, 1), (27, .iload_n 1, 0, 0), (28, .iaload, 0, 0), (29, .istore_n 3, 0, 0), (30, .aload_n 0, 0, 0), (31, .getfield 58, 918, 1)], [(34, .iload_n 1, 0, 0), (35, .iaload, 0, 0), (36, .istore 4, 0, 0), (38, .aload_n 0, 0, 0), (39, .getfield 61, 919, 1), (42, .iload_n 1, 0, 0), (43, .iaload, 0, 0), (44, .istore 5, 0, 0), (46, .aload_n 0, 0, 0), (47, .getfield 64, 920, 1)], [(50, .iload_n 1, 0, 0), (51, .laload, 0, 0), (52, .lstore 6, 0, 0), (54, .aload_n 0, 0, 0), (55, .getfield 67, 921, 1), (58, .iconst 3, 0, 0), (59, .iload_n 1, 0, 0), (60, .imul, 0, 0), (61, .iaload, 0, 0), (62, .istore 8, 0, 0)], [(64, .aload_n 0, 0, 0), (65, .getfield 67, 921, 1), (68, .iconst 3, 0, 0), (69, .iload_n 1, 0, 0), (70, .imul, 0, 0), (71, .iconst 1, 0, 0), (72, .iadd, 0, 0), (73, .iaload, 0, 0), (74, .istore 9, 0, 0), (76, .aload_n 0, 0, 0), (77, .getfield 67, 921, 1)], [(80, .iconst 3, 0, 0), (81, .iload_n 1, 0, 0), (82, .imul, 0, 0), (83, .iconst 2, 0, 0), (84, .iadd, 0, 0), (85, .iaload, 0, 0), (86, .istore 10, 0, 0), (88, .aload_n 0, 0, 0), (89, .iload_n 1, 0, 0), (90, .invokevirtual 164, 128, 1), (93, .pop, 0, 0), (94, .aload_n 0, 0, 0), (95, .getfield 24, 905, 1)], [(98, .iload_n 3, 0, 0), (99, .iaload, 0, 0), (100, .istore 11, 0, 0), (102, .iload_n 2, 0, 0), (103, .iconst 1, 0, 0), (104, .if_icmp .ne 20, 0, 0), (107, .aload_n 0, 0, 0), (108, .getfield 7, 900, 1), (111, .iload 4, 0, 0)], [(113, .baload, 0, 0), (114, .ifCond .ne 10, 0, 0), (117, .aload_n 0, 0, 0), (118, .iload_n 3, 0, 0), (119, .iload 4, 0, 0), (121, .invokevirtual 168, 130, 2), (124, .iload_n 2, 0, 0), (125, .iconst 4, 0, 0), (126, .if_icmp .ne 35, 0, 0)], [(129, .aload_n 0, 0, 0), (130, .getfield 7, 900, 1), (133, .iload 4, 0, 0), (135, .baload, 0, 0), (136, .ifCond .ne 25, 0, 0), (139, .aload_n 0, 0, 0), (140, .getfield 33, 908, 1), (143, .iconst 3, 0, 0)], [(144, .iload_n 3, 0, 0), (145, .imul, 0, 0), (146, .iload 4, 0, 0), (148, .iadd, 0, 0), (149, .baload, 0, 0), (150, .iconst 1, 0, 0), (151, .if_icmp .ne 10, 0, 0), (154, .aload_n 0, 0, 0), (155, .iload_n 3, 0, 0), (156, .iload 4, 0, 0), (158, .invokevirtual 172, 137, 2)], [(161, .iload_n 2, 0, 0), (162, .iconst 5, 0, 0), (163, .if_icmp .ne 40, 0, 0), (166, .aload_n 0, 0, 0), (167, .getfield 7, 900, 1), (170, .iload 4, 0, 0), (172, .baload, 0, 0), (173, .ifCond .ne 30, 0, 0)], [(176, .aload_n 0, 0, 0), (177, .getfield 33, 908, 1), (180, .iconst 3, 0, 0), (181, .iload_n 3, 0, 0), (182, .imul, 0, 0), (183, .iload 4, 0, 0), (185, .iadd, 0, 0), (186, .baload, 0, 0), (187, .iconst 2, 0, 0), (188, .if_icmp .ge 15, 0, 0), (191, .aload_n 0, 0, 0)], [(192, .getfield 33, 908, 1), (195, .iconst 3, 0, 0), (196, .iload_n 3, 0, 0), (197, .imul, 0, 0), (198, .iload 4, 0, 0), (200, .iadd, 0, 0), (201, .iconst 3, 0, 0), (202, .bastore, 0, 0), (203, .iload_n 2, 0, 0), (204, .iconst 2, 0, 0), (205, .if_icmp .eq 8, 0, 0)], [(208, .iload_n 2, 0, 0), (209, .iconst 3, 0, 0), (210, .if_icmp .ne 60, 0, 0), (213, .aload_n 0, 0, 0), (214, .getfield 7, 900, 1), (217, .iconst 3, 0, 0), (218, .iload 11, 0, 0), (220, .iadd, 0, 0), (221, .baload, 0, 0), (222, .ifCond .ne 48, 0, 0)], [(225, .aload_n 0, 0, 0), (226, .getfield 106, 934, 1), (229, .iload 11, 0, 0), (231, .iaload, 0, 0), (232, .iload_n 3, 0, 0), (233, .if_icmp .ne 37, 0, 0), (236, .iload_n 2, 0, 0), (237, .iconst 3, 0, 0), (238, .if_icmp .ne 14, 0, 0)], [(241, .aload_n 0, 0, 0), (242, .iload 11, 0, 0), (244, .iload 4, 0, 0), (246, .invokevirtual 175, 138, 2), (249, .goto 21, 0, 0), (252, .aload_n 0, 0, 0), (253, .iload 11, 0, 0), (255, .iload 4, 0, 0)], [(257, .iload 5, 0, 0), (259, .lload 6, 0, 0), (261, .iload 8, 0, 0), (263, .iload 9, 0, 0), (265, .iload 10, 0, 0), (267, .invokevirtual 178, 162, 7), (270, .iconst 1, 0, 0), (271, .ireturn, 0, 2)]]
def xt_v129 : List (List (List Nat)) := [[[], [], [], [896], [], [], [1017, 1018], [], [], []], [[], [897], [], [], [], [], [898], [], [], [], [], [899]], [[], [], [], [], [900], [], [], [], [], [901]], [[], [], [], [], [902], [], [], [], [], []], [[], [902], [], [], [], [], [], [], [], [], [902]], [[], [], [], [], [], [], [], [], [], [1028, 1021, 1022], [], [], [886]], [[], [], [], [], [], [], [], [881], []], [[], [], [], [], [], [1029, 1031, 10037], [], [], []], [[], [881], [], [], [], [], [889], []], [[], [], [], [], [], [], [], [], [], [], [1057, 1059, 10043]], [[], [], [], [], [881], [], [], []], [[], [889], [], [], [], [], [], [], [], [], []], [[889], [], [], [], [], [], [], [], [], [], []], [[], [], [], [], [881], [], [], [], [], []], [[], [915], [], [], [], [], [], [], []], [[], [], [], [1061, 1063, 10044], [], [], [], []], [[], [], [], [], [], [1151, 1153, 10058], [], []]]
-- CellTreeModel.prepare(II)V
def xt_c130 : List (List (Nat × xv_I)) := [[(0, .aload_n 0, 0, 0), (1, .getfield 27, 906, 1), (4, .iload_n 1, 0, 0), (5, .iaload, 0, 0), (6, .istore_n 3, 0, 0), (7, .aload_n 0, 0, 0), (8, .getfield 30, 907, 1), (11, .iload_n 1, 0, 0), (12, .iaload, 0, 0), (13, .iconst 1, 0, 0), (14, .if_icmp .ne 134, 0, 0)], [(17, .aload_n 0, 0, 0), (18, .getfield 37, 910, 1), (21, .iload_n 3, 0, 0), (22, .baload, 0, 0), (23, .iconst 1, 0, 0), (24, .if_icmp .ne 124, 0, 0), (27, .aload_n 0, 0, 0), (28, .getfield 40, 911, 1), (31, .iload_n 3, 0, 0)], [(32, .baload, 0, 0), (33, .istore 4, 0, 0), (35, .aload_n 0, 0, 0), (36, .iload 4, 0, 0), (38, .invokevirtual 192, 131, 1), (41, .ifCond .le 7, 0, 0), (44, .iconst 1, 0, 0), (45, .goto 4, 0, 0)], [(48, .iconst 0, 0, 0), (49, .istore 5, 0, 0), (51, .aload_n 0, 0, 0), (52, .iload 5, 0, 0), (54, .ifCond .eq 7, 0, 0), (57, .iconst 3, 0, 0), (58, .goto 4, 0, 0), (61, .iconst 2, 0, 0), (62, .iload_n 1, 0, 0), (63, .iload_n 2, 0, 0)], [(64, .invokevirtual 196, 132, 3), (67, .istore 6, 0, 0), (69, .iload 6, 0, 0), (71, .ifCond .lt 8, 0, 0), (74, .iload 5, 0, 0), (76, .ifCond .eq 4, 0, 0), (79, .return_, 0, 0)], [(80, .aload_n 0, 0, 0), (81, .getfield 61, 919, 1), (84, .iload 6, 0, 0), (86, .aload_n 0, 0, 0), (87, .getfield 17, 902, 1), (90, .iload 4, 0, 0), (92, .iaload, 0, 0), (93, .iastore, 0, 0), (94, .aload_n 0, 0, 0), (95, .getfield 64, 920, 1)], [(98, .iload 6, 0, 0), (100, .aload_n 0, 0, 0), (101, .getfield 13, 901, 1), (104, .iload 4, 0, 0), (106, .laload, 0, 0), (107, .lastore, 0, 0), (108, .iconst 0, 0, 0), (109, .istore 7, 0, 0), (111, .iload 7, 0, 0)], [(113, .iconst 3, 0, 0), (114, .if_icmp .ge 33, 0, 0), (117, .aload_n 0, 0, 0), (118, .getfield 67, 921, 1), (121, .iconst 3, 0, 0), (122, .iload 6, 0, 0), (124, .imul, 0, 0), (125, .iload 7, 0, 0), (127, .iadd, 0, 0)], [(128, .aload_n 0, 0, 0), (129, .getfield 21, 903, 1), (132, .iconst 3, 0, 0), (133, .iload 4, 0, 0), (135, .imul, 0, 0), (136, .iload 7, 0, 0), (138, .iadd, 0, 0), (139, .iaload, 0, 0), (140, .iastore, 0, 0), (141, .iinc 7 1, 0, 0)], [(144, .goto (-33), 0, 0), (147, .return_, 0, 0), (148, .aload_n 0, 0, 0), (149, .getfield 33, 908, 1), (152, .iconst 3, 0, 0), (153, .iload_n 1, 0, 0), (154, .imul, 0, 0), (155, .iload_n 2, 0, 0), (156, .iadd, 0, 0), (157, .baload, 0, 0), (158, .istore 4, 0, 0)], [(160, .iload 4, 0, 0), (162, .ifCond .le 22, 0, 0), (165, .aload_n 0, 0, 0), (166, .iload 4, 0, 0), (168, .iconst 3, 0, 0), (169, .if_icmp .ne 7, 0, 0), (172, .iconst 3, 0, 0), (173, .goto 4, 0, 0)], [(176, .iconst 2, 0, 0), (177, .iload_n 1, 0, 0), (178, .iload_n 2, 0, 0), (179, .invokevirtual 196, 132, 3), (182, .pop, 0, 0), (183, .return_, 0, 0), (184, .iconst 1, 0, 0), (185, .istore 5, 0, 0), (187, .iload_n 3, 0, 0), (188, .istore 6, 0, 0), (190, .iload 6, 0, 0)], [(192, .iload_n 3, 0, 0), (193, .aload_n 0, 0, 0), (194, .getfield 30, 907, 1), (197, .iload_n 1, 0, 0), (198, .iaload, 0, 0), (199, .iadd, 0, 0), (200, .if_icmp .ge 58, 0, 0), (203, .aload_n 0, 0, 0), (204, .getfield 40, 911, 1), (207, .iload 6, 0, 0)], [(209, .baload, 0, 0), (210, .bipush 8, 0, 0), (212, .idiv, 0, 0), (213, .iload_n 2, 0, 0), (214, .if_icmp .ne 38, 0, 0), (217, .iload 5, 0, 0), (219, .ifCond .eq 30, 0, 0), (222, .aload_n 0, 0, 0), (223, .aload_n 0, 0, 0)], [(224, .getfield 40, 911, 1), (227, .iload 6, 0, 0), (229, .baload, 0, 0), (230, .invokevirtual 192, 131, 1), (233, .ifCond .ne 16, 0, 0), (236, .aload_n 0, 0, 0), (237, .iload 6, 0, 0), (239, .invokevirtual 200, 133, 1)], [(242, .ifCond .eq 7, 0, 0), (245, .iconst 1, 0, 0), (246, .goto 4, 0, 0), (249, .iconst 0, 0, 0), (250, .istore 5, 0, 0), (252, .iinc 6 1, 0, 0), (255, .goto (-65), 0, 0)], [(258, .iload 5, 0, 0), (260, .ifCond .ne 17, 0, 0), (263, .aload_n 0, 0, 0), (264, .getfield 33, 908, 1), (267, .iconst 3, 0, 0), (268, .iload_n 1, 0, 0), (269, .imul, 0, 0), (270, .iload_n 2, 0, 0), (271, .iadd, 0, 0)], [(272, .iconst 3, 0, 0), (273, .bastore, 0, 0), (274, .goto 32, 0, 0), (277, .aload_n 0, 0, 0), (278, .iload_n 1, 0, 0), (279, .invokevirtual 203, 135, 1), (282, .iconst 1, 0, 0), (283, .if_icmp .le 17, 0, 0), (286, .aload_n 0, 0, 0), (287, .getfield 33, 908, 1)], [(290, .iconst 3, 0, 0), (291, .iload_n 1, 0, 0), (292, .imul, 0, 0), (293, .iload_n 2, 0, 0), (294, .iadd, 0, 0), (295, .iconst 1, 0, 0), (296, .bastore, 0, 0), (297, .goto 9, 0, 0), (300, .aload_n 0, 0, 0), (301, .iload_n 1, 0, 0), (302, .iload_n 2, 0, 0), (303, .invokevirtual 172, 137, 2)], [(306, .aload_n 0, 0, 0), (307, .iload 5, 0, 0), (309, .ifCond .eq 7, 0, 0), (312, .iconst 2, 0, 0), (313, .goto 4, 0, 0), (316, .iconst 3, 0, 0), (317, .iload_n 1, 0, 0), (318, .iload_n 2, 0, 0), (319, .invokevirtual 196, 132, 3)], [(322, .pop, 0, 0), (323, .return_, 0, 0)]]
def xt_v130 : List (List (List Nat)) := [[[], [887], [], [], [], [], [888], [], [], [], []], [[], [891], [], [], [], [], [], [892], []], [[], [], [], [], [1033, 1035, 10038], [], [], []], [[], [], [], [], [], [], [], [], [], []], [[1037, 1039, 10039], [], [], [], [], [], []], [[], [900], [], [], [883], [], [], [], [], [901]], [[], [], [882], [], [], [], [], [], []], [[], [], [], [902], [], [], [], [], []], [[], [884], [], [], [], [], [], [], [], []], [[], [], [], [889], [], [], [], [], [], [], []], [[], [], [], [], [], [], [], []], [[], [], [], [1037, 1039, 10039], [], [], [], [], [], [], []], [[], [], [888], [], [], [], [], [], [892], []], [[], [], [], [], [], [], [], [], []], [[892], [], [], [1033, 1035, 10038], [], [], [], [1041, 1043, 10040]], [[], [], [], [], [], [], []], [[], [], [], [889], [], [], [], [], []], [[], [], [], [], [], [1049, 1051, 10041], [], [], [], [889]], [[], [], [], [], [], [], [], [], [], [], [], [1057, 1059, 10043]], [[], [], [], [], [], [], [], [], [1037, 1039, 10039]], [[], []]]
-- CellTreeModel.lockOf(I)I
def xt_c131 : List (List (Nat × xv_I)) := [[(0, .iload_n 1, 0, 0), (1, .bipush 8, 0, 0), (3, .idiv, 0, 0), (4, .istore_n 2, 0, 0), (5, .iconst 0, 0, 0), (6, .istore_n 3, 0, 0), (7, .iconst 1, 0, 0), (8, .istore 4, 0, 0), (10, .iload 4, 0, 0), (12, .aload_n 0, 0, 0), (13, .getfield 186, 904, 0)], [(16, .if_icmp .gt 81, 0, 0), (19, .iload_n 3, 0, 0), (20, .ifCond .ne 77, 0, 0), (23, .aload_n 0, 0, 0), (24, .getfield 33, 908, 1), (27, .iconst 3, 0, 0), (28, .iload 4, 0, 0), (30, .imul, 0, 0), (31, .iload_n 2, 0, 0)], [(32, .iadd, 0, 0), (33, .baload, 0, 0), (34, .iconst 1, 0, 0), (35, .if_icmp .ne 56, 0, 0), (38, .aload_n 0, 0, 0), (39, .getfield 27, 906, 1), (42, .iload 4, 0, 0), (44, .iaload, 0, 0), (45, .istore 5, 0, 0), (47, .iload 5, 0, 0)], [(49, .aload_n 0, 0, 0), (50, .getfield 27, 906, 1), (53, .iload 4, 0, 0), (55, .iaload, 0, 0), (56, .aload_n 0, 0, 0), (57, .getfield 30, 907, 1), (60, .iload 4, 0, 0), (62, .iaload, 0, 0), (63, .iadd, 0, 0)], [(64, .if_icmp .ge 27, 0, 0), (67, .aload_n 0, 0, 0), (68, .getfield 40, 911, 1), (71, .iload 5, 0, 0), (73, .baload, 0, 0), (74, .iload_n 1, 0, 0), (75, .if_icmp .ne 8, 0, 0), (78, .iload 4, 0, 0)], [(80, .goto 4, 0, 0), (83, .iload_n 3, 0, 0), (84, .istore_n 3, 0, 0), (85, .iinc 5 1, 0, 0), (88, .goto (-41), 0, 0), (91, .iinc 4 1, 0, 0), (94, .goto (-84), 0, 0)], [(97, .iload_n 3, 0, 0), (98, .ireturn, 0, 0)]]
def xt_v131 : List (List (List Nat)) := [[[], [], [], [], [], [], [], [], [], [], [885]], [[], [], [], [], [889], [], [], [], []], [[], [], [], [], [], [887], [], [], [], []], [[], [887], [], [], [], [888], [], [], []], [[], [], [892], [], [], [], [], []], [[], [], [], [], [], [], []], [[], []]]
-- CellTreeModel.send(III)I
def xt_c132 : List (List (Nat × xv_I)) := [[(0, .aload_n 0, 0, 0), (1, .getfield 156, 915, 0), (4, .bipush 40, 0, 0), (6, .if_icmp .ne 5, 0, 0), (9, .iconst (-1), 0, 0), (10, .ireturn, 0, 0), (11, .aload_n 0, 0, 0), (12, .getfield 52, 916, 1), (15, .aload_n 0, 0, 0)], [(16, .getfield 156, 915, 0), (19, .iload_n 1, 0, 0), (20, .iastore, 0, 0), (21, .aload_n 0, 0, 0), (22, .getfield 55, 917, 1), (25, .aload_n 0, 0, 0), (26, .getfield 156, 915, 0), (29, .iload_n 2, 0, 0), (30, .iastore, 0, 0), (31, .aload_n 0, 0, 0)], [(32, .getfield 58, 918, 1), (35, .aload_n 0, 0, 0), (36, .getfield 156, 915, 0), (39, .iload_n 3, 0, 0), (40, .iastore, 0, 0), (41, .aload_n 0, 0, 0), (42, .getfield 61, 919, 1), (45, .aload_n 0, 0, 0), (46, .getfield 156, 915, 0)], [(49, .iconst 0, 0, 0), (50, .iastore, 0, 0), (51, .aload_n 0, 0, 0), (52, .getfield 64, 920, 1), (55, .aload_n 0, 0, 0), (56, .getfield 156, 915, 0), (59, .lconst 0, 0, 0), (60, .lastore, 0, 0), (61, .aload_n 0, 0, 0), (62, .dup, 0, 0), (63, .getfield 156, 915, 0)], [(66, .iconst 1, 0, 0), (67, .iadd, 0, 0), (68, .putfield 156, 915, 0), (71, .aload_n 0, 0, 0), (72, .getfield 156, 915, 0), (75, .iconst 1, 0, 0), (76, .isub, 0, 0), (77, .ireturn, 0, 0)]]
def xt_v132 : List (List (List Nat)) := [[[], [896], [], [], [], [], [], [897], []], [[896], [], [], [], [898], [], [896], [], [], []], [[899], [], [896], [], [], [], [900], [], [896]], [[], [], [], [901], [], [896], [], [], [], [], [896]], [[], [], [896], [], [896], [], [], []]]
-- CellTreeModel.fits(I)Z
def xt_c133 : List (List (Nat × xv_I)) := [[(0, .aload_n 0, 0, 0), (1, .getfield 40, 911, 1), (4, .iload_n 1, 0, 0), (5, .baload, 0, 0), (6, .istore_n 2, 0, 0), (7, .aload_n 0, 0, 0), (8, .getfield 37, 910, 1), (11, .iload_n 1, 0, 0), (12, .baload, 0, 0), (13, .istore_n 3, 0, 0), (14, .iload_n 3, 0, 0), (15, .iconst 1, 0, 0)], [(16, .if_icmp .eq 38, 0, 0), (19, .iload_n 3, 0, 0), (20, .iconst 4, 0, 0), (21, .if_icmp .ne 18, 0, 0), (24, .aload_n 0, 0, 0), (25, .getfield 13, 901, 1), (28, .iload_n 2, 0, 0), (29, .laload, 0, 0), (30, .invokestatic 189, 134, 1)], [(33, .ifCond .ne 25, 0, 0), (36, .goto 18, 0, 0), (39, .aload_n 0, 0, 0), (40, .getfield 17, 902, 1), (43, .iload_n 2, 0, 0), (44, .iaload, 0, 0), (45, .aload_n 0, 0, 0), (46, .getfield 43, 912, 1)], [(49, .iload_n 1, 0, 0), (50, .iaload, 0, 0), (51, .if_icmp .ne 7, 0, 0), (54, .iconst 1, 0, 0), (55, .goto 4, 0, 0), (58, .iconst 0, 0, 0), (59, .ireturn, 0, 2)]]
def xt_v133 : List (List (List Nat)) := [[[], [892], [], [], [], [], [891], [], [], [], [], []], [[], [], [], [], [], [882], [], [], [1045, 1046]], [[], [], [], [883], [], [], [], [893]], [[], [], [], [], [], [], []]]
-- CellTreeModel.kindOf(J)I
def xt_c134 : List (List (Nat × xv_I)) := [[(0, .lload_n 0, 0, 0), (1, .ldc2_w 138, 3, 0), (4, .land, 0, 0), (5, .l2i, 0, 0), (6, .ireturn, 0, 0)]]
def xt_v134 : List (List (List Nat)) := [[[], [1048], [], [], []]]
-- CellTreeModel.parts(I)I
def xt_c135 : List (List (Nat × xv_I)) := [[(0, .aload_n 0, 0, 0), (1, .iload_n 1, 0, 0), (2, .iconst 0, 0, 0), (3, .invokevirtual 182, 136, 2), (6, .ifCond .eq 7, 0, 0), (9, .iconst 1, 0, 0), (10, .goto 4, 0, 0), (13, .iconst 0, 0, 0), (14, .aload_n 0, 0, 0), (15, .iload_n 1, 0, 0)], [(16, .iconst 1, 0, 0), (17, .invokevirtual 182, 136, 2), (20, .ifCond .eq 7, 0, 0), (23, .iconst 1, 0, 0), (24, .goto 4, 0, 0), (27, .iconst 0, 0, 0), (28, .iadd, 0, 0), (29, .aload_n 0, 0, 0), (30, .iload_n 1, 0, 0), (31, .iconst 2, 0, 0)], [(32, .invokevirtual 182, 136, 2), (35, .ifCond .eq 7, 0, 0), (38, .iconst 1, 0, 0), (39, .goto 4, 0, 0), (42, .iconst 0, 0, 0), (43, .iadd, 0, 0), (44, .ireturn, 0, 0)]]
def xt_v135 : List (List (List Nat)) := [[[], [], [], [1053, 1055, 10042], [], [], [], [], [], []], [[], [1053, 1055, 10042], [], [], [], [], [], [], [], []], [[1053, 1055, 10042], [], [], [], [], [], []]]
-- CellTreeModel.takesPart(II)Z
def xt_c136 : List (List (Nat × xv_I)) := [[(0, .iconst 0, 0, 0), (1, .istore_n 3, 0, 0), (2, .aload_n 0, 0, 0), (3, .getfield 27, 906, 1), (6, .iload_n 1, 0, 0), (7, .iaload, 0, 0), (8, .istore 4, 0, 0), (10, .iload 4, 0, 0), (12, .aload_n 0, 0, 0), (13, .getfield 27, 906, 1)], [(16, .iload_n 1, 0, 0), (17, .iaload, 0, 0), (18, .aload_n 0, 0, 0), (19, .getfield 30, 907, 1), (22, .iload_n 1, 0, 0), (23, .iaload, 0, 0), (24, .iadd, 0, 0), (25, .if_icmp .ge 33, 0, 0), (28, .iload_n 3, 0, 0), (29, .ifCond .ne 17, 0, 0)], [(32, .aload_n 0, 0, 0), (33, .getfield 40, 911, 1), (36, .iload 4, 0, 0), (38, .baload, 0, 0), (39, .bipush 8, 0, 0), (41, .idiv, 0, 0), (42, .iload_n 2, 0, 0), (43, .if_icmp .ne 7, 0, 0), (46, .iconst 1, 0, 0), (47, .goto 4, 0, 0)], [(50, .iconst 0, 0, 0), (51, .istore_n 3, 0, 0), (52, .iinc 4 1, 0, 0), (55, .goto (-45), 0, 0), (58, .iload_n 3, 0, 0), (59, .ireturn, 0, 2)]]
def xt_v136 : List (List (List Nat)) := [[[], [], [], [887], [], [], [], [], [], [887]], [[], [], [], [888], [], [], [], [], [], []], [[], [892], [], [], [], [], [], [], [], []], [[], [], [], [], [], []]]
-- CellTreeModel.carryOut(II)V
def xt_c137 : List (List (Nat × xv_I)) := [[(0, .aload_n 0, 0, 0), (1, .getfield 33, 908, 1), (4, .iconst 3, 0, 0), (5, .iload_n 1, 0, 0), (6, .imul, 0, 0), (7, .iload_n 2, 0, 0), (8, .iadd, 0, 0), (9, .iconst 2, 0, 0), (10, .bastore, 0, 0), (11, .aload_n 0, 0, 0), (12, .getfield 27, 906, 1), (15, .iload_n 1, 0, 0)], [(16, .iaload, 0, 0), (17, .istore_n 3, 0, 0), (18, .iload_n 3, 0, 0), (19, .aload_n 0, 0, 0), (20, .getfield 27, 906, 1), (23, .iload_n 1, 0, 0), (24, .iaload, 0, 0), (25, .aload_n 0, 0, 0), (26, .getfield 30, 907, 1), (29, .iload_n 1, 0, 0), (30, .iaload, 0, 0), (31, .iadd, 0, 0)], [(32, .if_icmp .ge 98, 0, 0), (35, .aload_n 0, 0, 0), (36, .getfield 40, 911, 1), (39, .iload_n 3, 0, 0), (40, .baload, 0, 0), (41, .istore 4, 0, 0), (43, .iload 4, 0, 0), (45, .bipush 8, 0, 0), (47, .idiv, 0, 0)], [(48, .iload_n 2, 0, 0), (49, .if_icmp .ne 75, 0, 0), (52, .aload_n 0, 0, 0), (53, .getfield 37, 910, 1), (56, .iload_n 3, 0, 0), (57, .baload, 0, 0), (58, .iconst 3, 0, 0), (59, .if_icmp .lt 65, 0, 0), (62, .aload_n 0, 0, 0), (63, .getfield 13, 901, 1)], [(66, .iload 4, 0, 0), (68, .aload_n 0, 0, 0), (69, .getfield 46, 913, 1), (72, .iload_n 3, 0, 0), (73, .laload, 0, 0), (74, .lastore, 0, 0), (75, .iconst 0, 0, 0), (76, .istore 5, 0, 0), (78, .iload 5, 0, 0)], [(80, .iconst 3, 0, 0), (81, .if_icmp .ge 32, 0, 0), (84, .aload_n 0, 0, 0), (85, .getfield 21, 903, 1), (88, .iconst 3, 0, 0), (89, .iload 4, 0, 0), (91, .imul, 0, 0), (92, .iload 5, 0, 0), (94, .iadd, 0, 0), (95, .aload_n 0, 0, 0)], [(96, .getfield 49, 914, 1), (99, .iconst 3, 0, 0), (100, .iload_n 3, 0, 0), (101, .imul, 0, 0), (102, .iload 5, 0, 0), (104, .iadd, 0, 0), (105, .iaload, 0, 0), (106, .iastore, 0, 0), (107, .iinc 5 1, 0, 0), (110, .goto (-32), 0, 0)], [(113, .aload_n 0, 0, 0), (114, .getfield 17, 902, 1), (117, .iload 4, 0, 0), (119, .dup2, 0, 0), (120, .iaload, 0, 0), (121, .iconst 1, 0, 0), (122, .iadd, 0, 0), (123, .iastore, 0, 0), (124, .iinc 3 1, 0, 0), (127, .goto (-109), 0, 0)], [(130, .return_, 0, 0)]]
def xt_v137 : List (List (List Nat)) := [[[], [889], [], [], [], [], [], [], [], [], [887], []], [[], [], [], [], [887], [], [], [], [888], [], [], []], [[], [], [892], [], [], [], [], [], []], [[], [], [], [891], [], [], [], [], [], [882]], [[], [], [894], [], [], [], [], [], []], [[], [], [], [884], [], [], [], [], [], []], [[895], [], [], [], [], [], [], [], [], []], [[], [883], [], [], [], [], [], [], [], []], [[]]]
-- CellTreeModel.refused(II)V
def xt_c138 : List (List (Nat × xv_I)) := [[(0, .aload_n 0, 0, 0), (1, .getfield 106, 934, 1), (4, .iload_n 1, 0, 0), (5, .iaload, 0, 0), (6, .istore_n 3, 0, 0), (7, .aload_n 0, 0, 0), (8, .getfield 106, 934, 1), (11, .iload_n 1, 0, 0), (12, .iconst 0, 0, 0), (13, .iastore, 0, 0), (14, .iconst 0, 0, 0), (15, .istore 4, 0, 0)], [(17, .iload 4, 0, 0), (19, .iconst 3, 0, 0), (20, .if_icmp .ge 34, 0, 0), (23, .iload 4, 0, 0), (25, .iload_n 2, 0, 0), (26, .if_icmp .eq 22, 0, 0), (29, .aload_n 0, 0, 0), (30, .iload_n 3, 0, 0), (31, .iload 4, 0, 0)], [(33, .invokevirtual 182, 136, 2), (36, .ifCond .eq 12, 0, 0), (39, .aload_n 0, 0, 0), (40, .iconst 5, 0, 0), (41, .iload_n 3, 0, 0), (42, .iload 4, 0, 0), (44, .invokevirtual 196, 132, 3), (47, .pop, 0, 0)], [(48, .iinc 4 1, 0, 0), (51, .goto (-34), 0, 0), (54, .aload_n 0, 0, 0), (55, .iload_n 1, 0, 0), (56, .invokevirtual 212, 139, 1), (59, .return_, 0, 0)]]
def xt_v138 : List (List (List Nat)) := [[[], [915], [], [], [], [], [915], [], [], [], [], []], [[], [], [], [], [], [], [], [], []], [[1053, 1055, 10042], [], [], [], [], [], [1037, 1039, 10039], []], [[], [], [], [], [1065, 1067, 10045], []]]
-- CellTreeModel.wrong(I)V
def xt_c139 : List (List (Nat × xv_I)) := [[(0, .aload_n 0, 0, 0), (1, .iload_n 1, 0, 0), (2, .invokevirtual 220, 140, 1), (5, .aload_n 0, 0, 0), (6, .getfield 85, 927, 1), (9, .iload_n 1, 0, 0), (10, .dup2, 0, 0), (11, .iaload, 0, 0), (12, .iconst 1, 0, 0), (13, .isub, 0, 0), (14, .iastore, 0, 0), (15, .aload_n 0, 0, 0)], [(16, .getfield 85, 927, 1), (19, .iload_n 1, 0, 0), (20, .iaload, 0, 0), (21, .ifCond .ne 13, 0, 0), (24, .aload_n 0, 0, 0), (25, .getfield 82, 926, 1), (28, .iload_n 1, 0, 0), (29, .iconst 4, 0, 0), (30, .iastore, 0, 0), (31, .goto 8, 0, 0)], [(34, .aload_n 0, 0, 0), (35, .iload_n 1, 0, 0), (36, .invokevirtual 229, 141, 1), (39, .return_, 0, 0)]]
def xt_v139 : List (List (List Nat)) := [[[], [], [1069, 1071, 10046], [], [908], [], [], [], [], [], [], []], [[908], [], [], [], [], [907], [], [], [], []], [[], [], [1073, 1075, 10047], []]]
-- CellTreeModel.forget(I)V
def xt_c140 : List (List (Nat × xv_I)) := [[(0, .iconst 0, 0, 0), (1, .istore_n 2, 0, 0), (2, .iload_n 2, 0, 0), (3, .aload_n 0, 0, 0), (4, .getfield 118, 938, 1), (7, .iload_n 1, 0, 0), (8, .iaload, 0, 0), (9, .if_icmp .ge 31, 0, 0), (12, .aload_n 0, 0, 0), (13, .getfield 70, 922, 1)], [(16, .bipush 24, 0, 0), (18, .iload_n 1, 0, 0), (19, .imul, 0, 0), (20, .aload_n 0, 0, 0), (21, .getfield 115, 937, 1), (24, .bipush 24, 0, 0), (26, .iload_n 1, 0, 0), (27, .imul, 0, 0), (28, .iload_n 2, 0, 0), (29, .iadd, 0, 0), (30, .iaload, 0, 0), (31, .iadd, 0, 0)], [(32, .iconst 0, 0, 0), (33, .iastore, 0, 0), (34, .iinc 2 1, 0, 0), (37, .goto (-35), 0, 0), (40, .return_, 0, 0)]]
def xt_v140 : List (List (List Nat)) := [[[], [], [], [], [919], [], [], [], [], [903]], [[], [], [], [], [918], [], [], [], [], [], [], []], [[], [], [], [], []]]
-- CellTreeModel.anew(I)V
def xt_c141 : List (List (Nat × xv_I)) := [[(0, .aload_n 0, 0, 0), (1, .getfield 88, 928, 1), (4, .iload_n 1, 0, 0), (5, .aload_n 0, 0, 0), (6, .getfield 91, 929, 1), (9, .iload_n 1, 0, 0), (10, .iaload, 0, 0), (11, .iastore, 0, 0), (12, .aload_n 0, 0, 0), (13, .getfield 100, 932, 1)], [(16, .iload_n 1, 0, 0), (17, .iconst 0, 0, 0), (18, .iastore, 0, 0), (19, .aload_n 0, 0, 0), (20, .getfield 103, 933, 1), (23, .iload_n 1, 0, 0), (24, .iconst 0, 0, 0), (25, .bastore, 0, 0), (26, .aload_n 0, 0, 0), (27, .getfield 121, 939, 1), (30, .iload_n 1, 0, 0), (31, .iconst 0, 0, 0)], [(32, .iastore, 0, 0), (33, .aload_n 0, 0, 0), (34, .iload_n 1, 0, 0), (35, .invokevirtual 223, 142, 1), (38, .return_, 0, 0)]]
def xt_v141 : List (List (List Nat)) := [[[], [909], [], [], [910], [], [], [], [], [913]], [[], [], [], [], [914], [], [], [], [], [920], [], []], [[], [], [], [1077, 1079, 10048], []]]
-- CellTreeModel.startWalk(I)V
def xt_c142 : List (List (Nat × xv_I)) := [[(0, .aload_n 0, 0, 0), (1, .getfield 118, 938, 1), (4, .iload_n 1, 0, 0), (5, .iconst 0, 0, 0), (6, .iastore, 0, 0), (7, .aload_n 0, 0, 0), (8, .iload_n 1, 0, 0), (9, .iconst 0, 0, 0), (10, .invokevirtual 239, 143, 2), (13, .aload_n 0, 0, 0), (14, .iload_n 1, 0, 0), (15, .invokevirtual 242, 144, 1)], [(18, .return_, 0, 0)]]
def xt_v142 : List (List (List Nat)) := [[[], [919], [], [], [], [], [], [], [1081, 1083, 10049], [], [], [1085, 1087, 10050]], [[]]]
-- CellTreeModel.go(II)V
def xt_c143 : List (List (Nat × xv_I)) := [[(0, .aload_n 0, 0, 0), (1, .getfield 115, 937, 1), (4, .bipush 24, 0, 0), (6, .iload_n 1, 0, 0), (7, .imul, 0, 0), (8, .aload_n 0, 0, 0), (9, .getfield 118, 938, 1), (12, .iload_n 1, 0, 0), (13, .iaload, 0, 0), (14, .iadd, 0, 0), (15, .iload_n 2, 0, 0)], [(16, .iastore, 0, 0), (17, .aload_n 0, 0, 0), (18, .getfield 118, 938, 1), (21, .iload_n 1, 0, 0), (22, .dup2, 0, 0), (23, .iaload, 0, 0), (24, .iconst 1, 0, 0), (25, .iadd, 0, 0), (26, .iastore, 0, 0), (27, .return_, 0, 0)]]
def xt_v143 : List (List (List Nat)) := [[[], [918], [], [], [], [], [919], [], [], [], []], [[], [], [919], [], [], [], [], [], [], []]]
-- CellTreeModel.walk(I)V
def xt_c144 : List (List (Nat × xv_I)) := [[(0, .bipush 24, 0, 0), (2, .iload_n 1, 0, 0), (3, .imul, 0, 0), (4, .aload_n 0, 0, 0), (5, .iload_n 1, 0, 0), (6, .invokevirtual 245, 145, 1), (9, .iadd, 0, 0), (10, .istore_n 2, 0, 0), (11, .aload_n 0, 0, 0), (12, .getfield 70, 922, 1), (15, .iload_n 2, 0, 0)], [(16, .iaload, 0, 0), (17, .ifCond .le 75, 0, 0), (20, .aload_n 0, 0, 0), (21, .getfield 73, 923, 1), (24, .iload_n 2, 0, 0), (25, .laload, 0, 0), (26, .lstore_n 3, 0, 0), (27, .lload_n 3, 0, 0), (28, .invokestatic 148, 146, 1), (31, .iconst 3, 0, 0)], [(32, .if_icmp .ne 26, 0, 0), (35, .aload_n 0, 0, 0), (36, .getfield 79, 925, 1), (39, .iload_n 1, 0, 0), (40, .iaload, 0, 0), (41, .iconst 2, 0, 0), (42, .if_icmp .ne 16, 0, 0), (45, .aload_n 0, 0, 0), (46, .iload_n 1, 0, 0), (47, .lload_n 3, 0, 0)], [(48, .aload_n 0, 0, 0), (49, .getfield 70, 922, 1), (52, .iload_n 2, 0, 0), (53, .iaload, 0, 0), (54, .invokevirtual 248, 147, 3), (57, .return_, 0, 0), (58, .aload_n 0, 0, 0), (59, .iload_n 1, 0, 0), (60, .lload_n 3, 0, 0), (61, .lload_n 3, 0, 0), (62, .aload_n 0, 0, 0), (63, .getfield 88, 928, 1)], [(66, .iload_n 1, 0, 0), (67, .iaload, 0, 0), (68, .iconst 1, 0, 0), (69, .invokestatic 252, 159, 3), (72, .invokestatic 256, 152, 2), (75, .invokevirtual 239, 143, 2), (78, .bipush 24, 0, 0)], [(80, .iload_n 1, 0, 0), (81, .imul, 0, 0), (82, .aload_n 0, 0, 0), (83, .iload_n 1, 0, 0), (84, .invokevirtual 245, 145, 1), (87, .iadd, 0, 0), (88, .istore_n 2, 0, 0), (89, .goto (-78), 0, 0), (92, .aload_n 0, 0, 0), (93, .iconst 1, 0, 0), (94, .aload_n 0, 0, 0), (95, .iload_n 1, 0, 0)], [(96, .invokevirtual 245, 145, 1), (99, .iconst 0, 0, 0), (100, .lconst 0, 0, 0), (101, .iconst 0, 0, 0), (102, .iconst 0, 0, 0), (103, .iconst 0, 0, 0), (104, .invokevirtual 259, 156, 7), (107, .aload_n 0, 0, 0), (108, .iload_n 1, 0, 0), (109, .iconst 1, 0, 0), (110, .iconst 1, 0, 0), (111, .invokevirtual 262, 160, 3)], [(114, .return_, 0, 0)]]
def xt_v144 : List (List (List Nat)) := [[[], [], [], [], [], [1089, 1091, 10051], [], [], [], [903], []], [[], [], [], [904], [], [], [], [], [1093, 1094], []], [[], [], [906], [], [], [], [], [], [], []], [[], [903], [], [], [1096, 1098, 10052], [], [], [], [], [], [], [909]], [[], [], [], [1140, 1141], [1115, 1116], [1081, 1083, 10049], []], [[], [], [], [], [1089, 1091, 10051], [], [], [], [], [], [], []], [[1089, 1091, 10051], [], [], [], [], [], [1129, 1131, 10054], [], [], [], [], [1143, 1145, 10056]], [[]]]
-- CellTreeModel.last(I)I
def xt_c145 : List (List (Nat × xv_I)) := [[(0, .aload_n 0, 0, 0), (1, .getfield 115, 937, 1), (4, .bipush 24, 0, 0), (6, .iload_n 1, 0, 0), (7, .imul, 0, 0), (8, .aload_n 0, 0, 0), (9, .getfield 118, 938, 1), (12, .iload_n 1, 0, 0), (13, .iaload, 0, 0), (14, .iadd, 0, 0), (15, .iconst 1, 0, 0)], [(16, .isub, 0, 0), (17, .iaload, 0, 0), (18, .ireturn, 0, 0)]]
def xt_v145 : List (List (List Nat)) := [[[], [918], [], [], [], [], [919], [], [], [], []], [[], [], []]]
-- CellTreeModel.sizeOf(J)I
def xt_c146 : List (List (Nat × xv_I)) := [[(0, .lload_n 0, 0, 0), (1, .iconst 2, 0, 0), (2, .lshr, 0, 0), (3, .ldc2_w 138, 3, 0), (6, .land, 0, 0), (7, .l2i, 0, 0), (8, .ireturn, 0, 0)]]
def xt_v146 : List (List (List Nat)) := [[[], [], [], [1048], [], [], []]]
-- CellTreeModel.splitInner(IJI)V
def xt_c147 : List (List (Nat × xv_I)) := [[(0, .lload_n 2, 0, 0), (1, .iconst 1, 0, 0), (2, .invokestatic 152, 148, 2), (5, .istore 5, 0, 0), (7, .iconst 2, 0, 0), (8, .lload_n 2, 0, 0), (9, .invokestatic 266, 149, 1), (12, .iload 5, 0, 0), (14, .invokestatic 130, 124, 3)], [(17, .iconst 0, 0, 0), (18, .lload_n 2, 0, 0), (19, .iconst 0, 0, 0), (20, .invokestatic 152, 148, 2), (23, .invokestatic 297, 150, 3), (26, .iconst 1, 0, 0), (27, .invokestatic 293, 151, 2), (30, .lstore 6, 0, 0)], [(32, .lload 6, 0, 0), (34, .iconst 0, 0, 0), (35, .lload_n 2, 0, 0), (36, .iconst 0, 0, 0), (37, .invokestatic 256, 152, 2), (40, .invokestatic 308, 153, 3), (43, .iconst 1, 0, 0), (44, .lload_n 2, 0, 0), (45, .iconst 1, 0, 0), (46, .invokestatic 256, 152, 2)], [(49, .invokestatic 308, 153, 3), (52, .lstore 6, 0, 0), (54, .iconst 2, 0, 0), (55, .iload 5, 0, 0), (57, .lload_n 2, 0, 0), (58, .invokestatic 269, 154, 1), (61, .invokestatic 130, 124, 3)], [(64, .iconst 0, 0, 0), (65, .lload_n 2, 0, 0), (66, .iconst 2, 0, 0), (67, .invokestatic 152, 148, 2), (70, .invokestatic 297, 150, 3), (73, .iconst 1, 0, 0), (74, .invokestatic 293, 151, 2), (77, .lstore 8, 0, 0), (79, .lload 8, 0, 0)], [(81, .iconst 0, 0, 0), (82, .lload_n 2, 0, 0), (83, .iconst 2, 0, 0), (84, .invokestatic 256, 152, 2), (87, .invokestatic 308, 153, 3), (90, .iconst 1, 0, 0), (91, .lload_n 2, 0, 0), (92, .iconst 3, 0, 0), (93, .invokestatic 256, 152, 2)], [(96, .invokestatic 308, 153, 3), (99, .lstore 8, 0, 0), (101, .aload_n 0, 0, 0), (102, .iload_n 1, 0, 0), (103, .invokevirtual 245, 145, 1), (106, .ifCond .ne 7, 0, 0), (109, .iconst 1, 0, 0), (110, .goto 4, 0, 0)], [(113, .iconst 0, 0, 0), (114, .istore 10, 0, 0), (116, .iload 10, 0, 0), (118, .ifCond .eq 11, 0, 0), (121, .aload_n 0, 0, 0), (122, .iload_n 1, 0, 0), (123, .invokevirtual 301, 155, 1), (126, .goto 8, 0, 0)], [(129, .aload_n 0, 0, 0), (130, .iload_n 1, 0, 0), (131, .invokevirtual 245, 145, 1), (134, .istore 11, 0, 0), (136, .aload_n 0, 0, 0), (137, .iload_n 1, 0, 0), (138, .invokevirtual 301, 155, 1), (141, .istore 12, 0, 0), (143, .aload_n 0, 0, 0)], [(144, .iload 10, 0, 0), (146, .ifCond .eq 7, 0, 0), (149, .iconst 4, 0, 0), (150, .goto 4, 0, 0), (153, .iconst 3, 0, 0), (154, .iload 11, 0, 0), (156, .iload 4, 0, 0), (158, .lload 6, 0, 0)], [(160, .iconst 0, 0, 0), (161, .iconst 0, 0, 0), (162, .iconst 0, 0, 0), (163, .invokevirtual 259, 156, 7), (166, .aload_n 0, 0, 0), (167, .iconst 4, 0, 0), (168, .iload 12, 0, 0), (170, .iconst 0, 0, 0), (171, .lload 8, 0, 0), (173, .iconst 0, 0, 0), (174, .iconst 0, 0, 0), (175, .iconst 0, 0, 0)], [(176, .invokevirtual 259, 156, 7), (179, .aload_n 0, 0, 0), (180, .iload_n 1, 0, 0), (181, .iload 10, 0, 0), (183, .iload 5, 0, 0), (185, .iload 11, 0, 0), (187, .iload 12, 0, 0), (189, .iload 4, 0, 0), (191, .invokevirtual 304, 157, 6)], [(194, .return_, 0, 0)]]
def xt_v147 : List (List (List Nat)) := [[[], [], [1100, 1101], [], [], [], [1104, 1105], [], [876, 877]], [[], [], [], [1100, 1101], [1107, 1108], [], [1111, 1112], []], [[], [], [], [], [1115, 1116], [1119, 1120], [], [], [], [1115, 1116]], [[1119, 1120], [], [], [], [], [1122, 1123], [876, 877]], [[], [], [], [1100, 1101], [1107, 1108], [], [1111, 1112], [], []], [[], [], [], [1115, 1116], [1119, 1120], [], [], [], [1115, 1116]], [[1119, 1120], [], [], [], [1089, 1091, 10051], [], [], []], [[], [], [], [], [], [], [1125, 1127, 10053], []], [[], [], [1089, 1091, 10051], [], [], [], [1125, 1127, 10053], [], []], [[], [], [], [], [], [], [], []], [[], [], [], [1129, 1131, 10054], [], [], [], [], [], [], [], []], [[1129, 1131, 10054], [], [], [], [], [], [], [], [1133, 1135, 10055]], [[]]]
-- CellTreeModel.keyOf(JI)I
def xt_c148 : List (List (Nat × xv_I)) := [[(0, .lload_n 0, 0, 0), (1, .bipush 18, 0, 0), (3, .bipush 7, 0, 0), (5, .iload_n 2, 0, 0), (6, .imul, 0, 0), (7, .iadd, 0, 0), (8, .lshr, 0, 0), (9, .ldc2_w 140, 127, 0), (12, .land, 0, 0), (13, .l2i, 0, 0), (14, .ireturn, 0, 0)]]
def xt_v148 : List (List (List Nat)) := [[[], [], [], [], [], [], [], [1103], [], [], []]]
-- CellTreeModel.lowOf(J)I
def xt_c149 : List (List (Nat × xv_I)) := [[(0, .lload_n 0, 0, 0), (1, .iconst 4, 0, 0), (2, .lshr, 0, 0), (3, .ldc2_w 140, 127, 0), (6, .land, 0, 0), (7, .l2i, 0, 0), (8, .ireturn, 0, 0)]]
def xt_v149 : List (List (List Nat)) := [[[], [], [], [1103], [], [], []]]
-- CellTreeModel.withKey(JII)J
def xt_c150 : List (List (Nat × xv_I)) := [[(0, .lload_n 0, 0, 0), (1, .ldc2_w 140, 127, 0), (4, .bipush 18, 0, 0), (6, .bipush 7, 0, 0), (8, .iload_n 2, 0, 0), (9, .imul, 0, 0), (10, .iadd, 0, 0), (11, .lshl, 0, 0), (12, .ldc2_w 146, 18446744073709551615, 0), (15, .lxor, 0, 0)], [(16, .land, 0, 0), (17, .iload_n 3, 0, 0), (18, .i2l, 0, 0), (19, .bipush 18, 0, 0), (21, .bipush 7, 0, 0), (23, .iload_n 2, 0, 0), (24, .imul, 0, 0), (25, .iadd, 0, 0), (26, .lshl, 0, 0), (27, .lor, 0, 0), (28, .lreturn, 0, 0)]]
def xt_v150 : List (List (List Nat)) := [[[], [1103], [], [], [], [], [], [], [1110], []], [[], [], [], [], [], [], [], [], [], [], []]]
-- CellTreeModel.sized(JI)J
def xt_c151 : List (List (Nat × xv_I)) := [[(0, .lload_n 0, 0, 0), (1, .ldc2_w 144, 18446744073709551603, 0), (4, .land, 0, 0), (5, .iload_n 2, 0, 0), (6, .i2l, 0, 0), (7, .iconst 2, 0, 0), (8, .lshl, 0, 0), (9, .lor, 0, 0), (10, .lreturn, 0, 0)]]
def xt_v151 : List (List (List Nat)) := [[[], [1114], [], [], [], [], [], [], []]]
-- CellTreeModel.childOf(JI)I
def xt_c152 : List (List (Nat × xv_I)) := [[(0, .lload_n 0, 0, 0), (1, .bipush 39, 0, 0), (3, .iconst 5, 0, 0), (4, .iload_n 2, 0, 0), (5, .imul, 0, 0), (6, .iadd, 0, 0), (7, .lshr, 0, 0), (8, .ldc2_w 142, 31, 0), (11, .land, 0, 0), (12, .l2i, 0, 0), (13, .ireturn, 0, 0)]]
def xt_v152 : List (List (List Nat)) := [[[], [], [], [], [], [], [], [1118], [], [], []]]
-- CellTreeModel.withChild(JII)J
def xt_c153 : List (List (Nat × xv_I)) := [[(0, .lload_n 0, 0, 0), (1, .ldc2_w 142, 31, 0), (4, .bipush 39, 0, 0), (6, .iconst 5, 0, 0), (7, .iload_n 2, 0, 0), (8, .imul, 0, 0), (9, .iadd, 0, 0), (10, .lshl, 0, 0), (11, .ldc2_w 146, 18446744073709551615, 0), (14, .lxor, 0, 0), (15, .land, 0, 0)], [(16, .iload_n 3, 0, 0), (17, .i2l, 0, 0), (18, .bipush 39, 0, 0), (20, .iconst 5, 0, 0), (21, .iload_n 2, 0, 0), (22, .imul, 0, 0), (23, .iadd, 0, 0), (24, .lshl, 0, 0), (25, .lor, 0, 0), (26, .lreturn, 0, 0)]]
def xt_v153 : List (List (List Nat)) := [[[], [1118], [], [], [], [], [], [], [1110], [], []], [[], [], [], [], [], [], [], [], [], []]]
-- CellTreeModel.highOf(J)I
def xt_c154 : List (List (Nat × xv_I)) := [[(0, .lload_n 0, 0, 0), (1, .bipush 11, 0, 0), (3, .lshr, 0, 0), (4, .ldc2_w 140, 127, 0), (7, .land, 0, 0), (8, .l2i, 0, 0), (9, .ireturn, 0, 0)]]
def xt_v154 : List (List (List Nat)) := [[[], [], [], [1103], [], [], []]]
-- CellTreeModel.freshAddress(I)I
def xt_c155 : List (List (Nat × xv_I)) := [[(0, .aload_n 0, 0, 0), (1, .getfield 76, 924, 1), (4, .iload_n 1, 0, 0), (5, .iaload, 0, 0), (6, .istore_n 2, 0, 0), (7, .aload_n 0, 0, 0), (8, .getfield 76, 924, 1), (11, .iload_n 1, 0, 0), (12, .iload_n 2, 0, 0), (13, .bipush 23, 0, 0), (15, .if_icmp .ne 7, 0, 0)], [(18, .iconst 1, 0, 0), (19, .goto 6, 0, 0), (22, .iload_n 2, 0, 0), (23, .iconst 1, 0, 0), (24, .iadd, 0, 0), (25, .iastore, 0, 0), (26, .iload_n 2, 0, 0), (27, .ireturn, 0, 0)]]
def xt_v155 : List (List (List Nat)) := [[[], [905], [], [], [], [], [905], [], [], [], []], [[], [], [], [], [], [], [], []]]
-- CellTreeModel.addItem(IIIJIII)V
def xt_c156 : List (List (Nat × xv_I)) := [[(0, .aload_n 0, 0, 0), (1, .getfield 37, 910, 1), (4, .aload_n 0, 0, 0), (5, .getfield 206, 909, 0), (8, .iload_n 1, 0, 0), (9, .i2b, 0, 0), (10, .bastore, 0, 0), (11, .aload_n 0, 0, 0), (12, .getfield 40, 911, 1), (15, .aload_n 0, 0, 0)], [(16, .getfield 206, 909, 0), (19, .iload_n 2, 0, 0), (20, .i2b, 0, 0), (21, .bastore, 0, 0), (22, .aload_n 0, 0, 0), (23, .getfield 43, 912, 1), (26, .aload_n 0, 0, 0), (27, .getfield 206, 909, 0), (30, .iload_n 3, 0, 0), (31, .iastore, 0, 0)], [(32, .aload_n 0, 0, 0), (33, .getfield 46, 913, 1), (36, .aload_n 0, 0, 0), (37, .getfield 206, 909, 0), (40, .lload 4, 0, 0), (42, .lastore, 0, 0), (43, .aload_n 0, 0, 0), (44, .getfield 49, 914, 1), (47, .iconst 3, 0, 0)], [(48, .aload_n 0, 0, 0), (49, .getfield 206, 909, 0), (52, .imul, 0, 0), (53, .iload 6, 0, 0), (55, .iastore, 0, 0), (56, .aload_n 0, 0, 0), (57, .getfield 49, 914, 1), (60, .iconst 3, 0, 0), (61, .aload_n 0, 0, 0), (62, .getfield 206, 909, 0)], [(65, .imul, 0, 0), (66, .iconst 1, 0, 0), (67, .iadd, 0, 0), (68, .iload 7, 0, 0), (70, .iastore, 0, 0), (71, .aload_n 0, 0, 0), (72, .getfield 49, 914, 1), (75, .iconst 3, 0, 0), (76, .aload_n 0, 0, 0), (77, .getfield 206, 909, 0)], [(80, .imul, 0, 0), (81, .iconst 2, 0, 0), (82, .iadd, 0, 0), (83, .iload 8, 0, 0), (85, .iastore, 0, 0), (86, .aload_n 0, 0, 0), (87, .dup, 0, 0), (88, .getfield 206, 909, 0), (91, .iconst 1, 0, 0), (92, .iadd, 0, 0), (93, .putfield 206, 909, 0)], [(96, .return_, 0, 0)]]
def xt_v156 : List (List (List Nat)) := [[[], [891], [], [890], [], [], [], [], [892], []], [[890], [], [], [], [], [893], [], [890], [], []], [[], [894], [], [890], [], [], [], [895], []], [[], [890], [], [], [], [], [895], [], [], [890]], [[], [], [], [], [], [], [895], [], [], [890]], [[], [], [], [], [], [], [], [890], [], [], [890]], [[]]]
-- CellTreeModel.above(IZIIII)V
def xt_c157 : List (List (Nat × xv_I)) := [[(0, .iload_n 2, 0, 0), (1, .ifCond .eq 49, 0, 0), (4, .iconst 2, 0, 0), (5, .iconst 0, 0, 0), (6, .bipush 100, 0, 0), (8, .invokestatic 130, 124, 3), (11, .iconst 0, 0, 0), (12, .iload_n 3, 0, 0), (13, .invokestatic 297, 150, 3)], [(16, .iconst 1, 0, 0), (17, .invokestatic 293, 151, 2), (20, .lstore 7, 0, 0), (22, .aload_n 0, 0, 0), (23, .iconst 3, 0, 0), (24, .iconst 0, 0, 0), (25, .iload 6, 0, 0), (27, .lload 7, 0, 0), (29, .iconst 0, 0, 0), (30, .iload 4, 0, 0)], [(32, .invokestatic 308, 153, 3), (35, .iconst 1, 0, 0), (36, .iload 5, 0, 0), (38, .invokestatic 308, 153, 3), (41, .iconst 0, 0, 0), (42, .iconst 0, 0, 0), (43, .iconst 0, 0, 0), (44, .invokevirtual 259, 156, 7), (47, .goto 65, 0, 0)], [(50, .aload_n 0, 0, 0), (51, .getfield 115, 937, 1), (54, .bipush 24, 0, 0), (56, .iload_n 1, 0, 0), (57, .imul, 0, 0), (58, .aload_n 0, 0, 0), (59, .getfield 118, 938, 1), (62, .iload_n 1, 0, 0), (63, .iaload, 0, 0)], [(64, .iadd, 0, 0), (65, .iconst 2, 0, 0), (66, .isub, 0, 0), (67, .iaload, 0, 0), (68, .istore 7, 0, 0), (70, .aload_n 0, 0, 0), (71, .iconst 3, 0, 0), (72, .iload 7, 0, 0), (74, .aload_n 0, 0, 0), (75, .getfield 70, 922, 1), (78, .bipush 24, 0, 0)], [(80, .iload_n 1, 0, 0), (81, .imul, 0, 0), (82, .iload 7, 0, 0), (84, .iadd, 0, 0), (85, .iaload, 0, 0), (86, .aload_n 0, 0, 0), (87, .getfield 73, 923, 1), (90, .bipush 24, 0, 0), (92, .iload_n 1, 0, 0), (93, .imul, 0, 0), (94, .iload 7, 0, 0)], [(96, .iadd, 0, 0), (97, .laload, 0, 0), (98, .iload_n 3, 0, 0), (99, .iload 4, 0, 0), (101, .iload 5, 0, 0), (103, .invokestatic 311, 158, 4), (106, .iconst 0, 0, 0), (107, .iconst 0, 0, 0), (108, .iconst 0, 0, 0), (109, .invokevirtual 259, 156, 7)], [(112, .aload_n 0, 0, 0), (113, .iload_n 1, 0, 0), (114, .iconst 3, 0, 0), (115, .iconst 3, 0, 0), (116, .invokevirtual 262, 160, 3), (119, .return_, 0, 0)]]
def xt_v157 : List (List (List Nat)) := [[[], [], [], [], [], [876, 877], [], [], [1107, 1108]], [[], [1111, 1112], [], [], [], [], [], [], [], []], [[1119, 1120], [], [], [1119, 1120], [], [], [], [1129, 1131, 10054], []], [[], [918], [], [], [], [], [919], [], []], [[], [], [], [], [], [], [], [], [], [903], []], [[], [], [], [], [], [], [904], [], [], [], []], [[], [], [], [], [], [1137, 1138], [], [], [], [1129, 1131, 10054]], [[], [], [], [], [1143, 1145, 10056], []]]
-- CellTreeModel.grown(JIII)J
def xt_c158 : List (List (Nat × xv_I)) := [[(0, .lload_n 0, 0, 0), (1, .iload_n 2, 0, 0), (2, .iconst 0, 0, 0), (3, .invokestatic 252, 159, 3), (6, .istore 5, 0, 0), (8, .lload_n 0, 0, 0), (9, .lstore 6, 0, 0), (11, .lload_n 0, 0, 0), (12, .invokestatic 148, 146, 1), (15, .istore 8, 0, 0)], [(17, .iload 8, 0, 0), (19, .iload 5, 0, 0), (21, .if_icmp .le 26, 0, 0), (24, .lload 6, 0, 0), (26, .iload 8, 0, 0), (28, .lload_n 0, 0, 0), (29, .iload 8, 0, 0), (31, .iconst 1, 0, 0)], [(32, .isub, 0, 0), (33, .invokestatic 152, 148, 2), (36, .invokestatic 297, 150, 3), (39, .lstore 6, 0, 0), (41, .iinc 8 (-1), 0, 0), (44, .goto (-27), 0, 0), (47, .lload 6, 0, 0)], [(49, .iload 5, 0, 0), (51, .iload_n 2, 0, 0), (52, .invokestatic 297, 150, 3), (55, .lload_n 0, 0, 0), (56, .invokestatic 148, 146, 1), (59, .iconst 1, 0, 0), (60, .iadd, 0, 0), (61, .invokestatic 293, 151, 2)], [(64, .lstore 6, 0, 0), (66, .iconst 0, 0, 0), (67, .istore 8, 0, 0), (69, .lload_n 0, 0, 0), (70, .invokestatic 148, 146, 1), (73, .istore 9, 0, 0), (75, .iload 9, 0, 0), (77, .ifCond .lt 28, 0, 0)], [(80, .lload_n 0, 0, 0), (81, .iload 9, 0, 0), (83, .invokestatic 256, 152, 2), (86, .iload_n 3, 0, 0), (87, .if_icmp .ne 8, 0, 0), (90, .iload 9, 0, 0), (92, .goto 5, 0, 0), (95, .iload 8, 0, 0)], [(97, .istore 8, 0, 0), (99, .iinc 9 (-1), 0, 0), (102, .goto (-27), 0, 0), (105, .lload_n 0, 0, 0), (106, .invokestatic 148, 146, 1), (109, .iconst 1, 0, 0), (110, .iadd, 0, 0), (111, .istore 9, 0, 0)], [(113, .iload 9, 0, 0), (115, .iload 8, 0, 0), (117, .iconst 1, 0, 0), (118, .iadd, 0, 0), (119, .if_icmp .le 26, 0, 0), (122, .lload 6, 0, 0), (124, .iload 9, 0, 0), (126, .lload_n 0, 0, 0), (127, .iload 9, 0, 0)], [(129, .iconst 1, 0, 0), (130, .isub, 0, 0), (131, .invokestatic 256, 152, 2), (134, .invokestatic 308, 153, 3), (137, .lstore 6, 0, 0), (139, .iinc 9 (-1), 0, 0), (142, .goto (-29), 0, 0)], [(145, .lload 6, 0, 0), (147, .iload 8, 0, 0), (149, .iconst 1, 0, 0), (150, .iadd, 0, 0), (151, .iload 4, 0, 0), (153, .invokestatic 308, 153, 3), (156, .lreturn, 0, 0)]]
def xt_v158 : List (List (List Nat)) := [[[], [], [], [1140, 1141], [], [], [], [], [1093, 1094], []], [[], [], [], [], [], [], [], []], [[], [1100, 1101], [1107, 1108], [], [], [], []], [[], [], [1107, 1108], [], [1093, 1094], [], [], [1111, 1112]], [[], [], [], [], [1093, 1094], [], [], []], [[], [], [1115, 1116], [], [], [], [], []], [[], [], [], [], [1093, 1094], [], [], []], [[], [], [], [], [], [], [], [], []], [[], [], [1115, 1116], [1119, 1120], [], [], []], [[], [], [], [], [], [1119, 1120], []]]
-- CellTreeModel.before(JIZ)I
def xt_c159 : List (List (Nat × xv_I)) := [[(0, .iconst 0, 0, 0), (1, .istore 4, 0, 0), (3, .iconst 0, 0, 0), (4, .istore 5, 0, 0), (6, .iload 5, 0, 0), (8, .lload_n 0, 0, 0), (9, .invokestatic 148, 146, 1), (12, .if_icmp .ge 44, 0, 0), (15, .lload_n 0, 0, 0)], [(16, .iload 5, 0, 0), (18, .invokestatic 152, 148, 2), (21, .iload_n 2, 0, 0), (22, .if_icmp .lt 17, 0, 0), (25, .iload_n 3, 0, 0), (26, .ifCond .eq 20, 0, 0), (29, .lload_n 0, 0, 0), (30, .iload 5, 0, 0)], [(32, .invokestatic 152, 148, 2), (35, .iload_n 2, 0, 0), (36, .if_icmp .ne 10, 0, 0), (39, .iload 4, 0, 0), (41, .iconst 1, 0, 0), (42, .iadd, 0, 0), (43, .goto 5, 0, 0), (46, .iload 4, 0, 0)], [(48, .istore 4, 0, 0), (50, .iinc 5 1, 0, 0), (53, .goto (-47), 0, 0), (56, .iload 4, 0, 0), (58, .ireturn, 0, 0)]]
def xt_v159 : List (List (List Nat)) := [[[], [], [], [], [], [], [1093, 1094], [], []], [[], [1100, 1101], [], [], [], [], [], []], [[1100, 1101], [], [], [], [], [], [], []], [[], [], [], [], []]]
-- CellTreeModel.begin(III)V
def xt_c160 : List (List (Nat × xv_I)) := [[(0, .aload_n 0, 0, 0), (1, .dup, 0, 0), (2, .getfield 186, 904, 0), (5, .iconst 1, 0, 0), (6, .iadd, 0, 0), (7, .putfield 186, 904, 0), (10, .aload_n 0, 0, 0), (11, .getfield 24, 905, 1), (14, .aload_n 0, 0, 0), (15, .getfield 186, 904, 0)], [(18, .iload_n 1, 0, 0), (19, .iastore, 0, 0), (20, .aload_n 0, 0, 0), (21, .getfield 27, 906, 1), (24, .aload_n 0, 0, 0), (25, .getfield 186, 904, 0), (28, .aload_n 0, 0, 0), (29, .getfield 206, 909, 0)], [(32, .iload_n 2, 0, 0), (33, .isub, 0, 0), (34, .iastore, 0, 0), (35, .aload_n 0, 0, 0), (36, .getfield 30, 907, 1), (39, .aload_n 0, 0, 0), (40, .getfield 186, 904, 0), (43, .iload_n 2, 0, 0), (44, .iastore, 0, 0), (45, .aload_n 0, 0, 0), (46, .getfield 106, 934, 1)], [(49, .iload_n 1, 0, 0), (50, .aload_n 0, 0, 0), (51, .getfield 186, 904, 0), (54, .iastore, 0, 0), (55, .aload_n 0, 0, 0), (56, .getfield 109, 935, 1), (59, .iload_n 1, 0, 0), (60, .iconst 0, 0, 0), (61, .iastore, 0, 0), (62, .aload_n 0, 0, 0), (63, .getfield 112, 936, 1)], [(66, .iload_n 1, 0, 0), (67, .iload_n 3, 0, 0), (68, .iastore, 0, 0), (69, .aload_n 0, 0, 0), (70, .iload_n 1, 0, 0), (71, .invokevirtual 209, 161, 1), (74, .pop, 0, 0), (75, .return_, 0, 0)]]
def xt_v160 : List (List (List Nat)) := [[[], [], [885], [], [], [885], [], [886], [], [885]], [[], [], [], [887], [], [885], [], [890]], [[], [], [], [], [888], [], [885], [], [], [], [915]], [[], [], [885], [], [], [916], [], [], [], [], [917]], [[], [], [], [], [], [1147, 1149, 10057], [], []]]
-- CellTreeModel.ask(I)I
def xt_c161 : List (List (Nat × xv_I)) := [[(0, .iconst 0, 0, 0), (1, .istore_n 2, 0, 0), (2, .iconst 0, 0, 0), (3, .istore_n 3, 0, 0), (4, .iload_n 3, 0, 0), (5, .iconst 3, 0, 0), (6, .if_icmp .ge 52, 0, 0), (9, .aload_n 0, 0, 0), (10, .aload_n 0, 0, 0), (11, .getfield 106, 934, 1), (14, .iload_n 1, 0, 0), (15, .iaload, 0, 0)], [(16, .iload_n 3, 0, 0), (17, .invokevirtual 182, 136, 2), (20, .ifCond .eq 32, 0, 0), (23, .aload_n 0, 0, 0), (24, .getfield 109, 935, 1), (27, .iload_n 1, 0, 0), (28, .iaload, 0, 0), (29, .iload_n 3, 0, 0), (30, .ishr, 0, 0), (31, .iconst 1, 0, 0)], [(32, .iand, 0, 0), (33, .ifCond .ne 19, 0, 0), (36, .aload_n 0, 0, 0), (37, .iconst 1, 0, 0), (38, .aload_n 0, 0, 0), (39, .getfield 106, 934, 1), (42, .iload_n 1, 0, 0), (43, .iaload, 0, 0), (44, .iload_n 3, 0, 0), (45, .invokevirtual 196, 132, 3)], [(48, .pop, 0, 0), (49, .iinc 2 1, 0, 0), (52, .iinc 3 1, 0, 0), (55, .goto (-51), 0, 0), (58, .iload_n 2, 0, 0), (59, .ireturn, 0, 0)]]
def xt_v161 : List (List (List Nat)) := [[[], [], [], [], [], [], [], [], [], [915], [], []], [[], [1053, 1055, 10042], [], [], [916], [], [], [], [], []], [[], [], [], [], [], [915], [], [], [], [1037, 1039, 10039]], [[], [], [], [], [], []]]
-- CellTreeModel.agreed(IIIJIII)V
def xt_c162 : List (List (Nat × xv_I)) := [[(0, .aload_n 0, 0, 0), (1, .getfield 106, 934, 1), (4, .iload_n 1, 0, 0), (5, .iaload, 0, 0), (6, .istore 9, 0, 0), (8, .aload_n 0, 0, 0), (9, .getfield 109, 935, 1), (12, .iload_n 1, 0, 0), (13, .aload_n 0, 0, 0), (14, .getfield 109, 935, 1)], [(17, .iload_n 1, 0, 0), (18, .iaload, 0, 0), (19, .iconst 1, 0, 0), (20, .iload_n 2, 0, 0), (21, .ishl, 0, 0), (22, .ior, 0, 0), (23, .iastore, 0, 0), (24, .iconst 0, 0, 0), (25, .istore 10, 0, 0), (27, .iload 10, 0, 0), (29, .iconst 3, 0, 0), (30, .if_icmp .ge 35, 0, 0)], [(33, .aload_n 0, 0, 0), (34, .iload 9, 0, 0), (36, .iload 10, 0, 0), (38, .invokevirtual 182, 136, 2), (41, .ifCond .eq 18, 0, 0), (44, .aload_n 0, 0, 0), (45, .getfield 109, 935, 1)], [(48, .iload_n 1, 0, 0), (49, .iaload, 0, 0), (50, .iload 10, 0, 0), (52, .ishr, 0, 0), (53, .iconst 1, 0, 0), (54, .iand, 0, 0), (55, .ifCond .ne 4, 0, 0), (58, .return_, 0, 0), (59, .iinc 10 1, 0, 0), (62, .goto (-35), 0, 0)], [(65, .aload_n 0, 0, 0), (66, .getfield 106, 934, 1), (69, .iload_n 1, 0, 0), (70, .iconst 0, 0, 0), (71, .iastore, 0, 0), (72, .iconst 0, 0, 0), (73, .istore 10, 0, 0), (75, .iload 10, 0, 0), (77, .iconst 3, 0, 0), (78, .if_icmp .ge 40, 0, 0)], [(81, .aload_n 0, 0, 0), (82, .iload 9, 0, 0), (84, .invokevirtual 203, 135, 1), (87, .iconst 1, 0, 0), (88, .if_icmp .le 30, 0, 0), (91, .aload_n 0, 0, 0), (92, .iload 9, 0, 0), (94, .iload 10, 0, 0)], [(96, .invokevirtual 182, 136, 2), (99, .ifCond .eq 13, 0, 0), (102, .aload_n 0, 0, 0), (103, .iconst 4, 0, 0), (104, .iload 9, 0, 0), (106, .iload 10, 0, 0), (108, .invokevirtual 196, 132, 3), (111, .pop, 0, 0)], [(112, .iinc 10 1, 0, 0), (115, .goto (-40), 0, 0), (118, .aload_n 0, 0, 0), (119, .getfield 112, 936, 1), (122, .iload_n 1, 0, 0), (123, .iaload, 0, 0), (124, .iconst 1, 0, 0), (125, .if_icmp .ne 20, 0, 0)], [(128, .aload_n 0, 0, 0), (129, .iload_n 1, 0, 0), (130, .iload_n 3, 0, 0), (131, .lload 4, 0, 0), (133, .iload 6, 0, 0), (135, .iload 7, 0, 0), (137, .iload 8, 0, 0), (139, .invokevirtual 216, 163, 6), (142, .goto 31, 0, 0)], [(145, .aload_n 0, 0, 0), (146, .getfield 112, 936, 1), (149, .iload_n 1, 0, 0), (150, .iaload, 0, 0), (151, .iconst 3, 0, 0), (152, .if_icmp .ne 16, 0, 0), (155, .aload_n 0, 0, 0), (156, .iload_n 1, 0, 0), (157, .invokevirtual 220, 140, 1)], [(160, .aload_n 0, 0, 0), (161, .iload_n 1, 0, 0), (162, .invokevirtual 223, 142, 1), (165, .goto 8, 0, 0), (168, .aload_n 0, 0, 0), (169, .iload_n 1, 0, 0), (170, .invokevirtual 226, 166, 1), (173, .return_, 0, 0)]]
def xt_v162 : List (List (List Nat)) := [[[], [915], [], [], [], [], [916], [], [], [916]], [[], [], [], [], [], [], [], [], [], [], [], []], [[], [], [], [1053, 1055, 10042], [], [], [916]], [[], [], [], [], [], [], [], [], [], []], [[], [915], [], [], [], [], [], [], [], []], [[], [], [1049, 1051, 10041], [], [], [], [], []], [[1053, 1055, 10042], [], [], [], [], [], [1037, 1039, 10039], []], [[], [], [], [917], [], [], [], []], [[], [], [], [], [], [], [], [1155, 1157, 10059], []], [[], [917], [], [], [], [], [], [], [1069, 1071, 10046]], [[], [], [1077, 1079, 10048], [], [], [], [1166, 1168, 10061], []]]
-- CellTreeModel.looked(IIJIII)V
def xt_c163 : List (List (Nat × xv_I)) := [[(0, .aload_n 0, 0, 0), (1, .iload_n 1, 0, 0), (2, .invokevirtual 245, 145, 1), (5, .istore 8, 0, 0), (7, .aload_n 0, 0, 0), (8, .getfield 88, 928, 1), (11, .iload_n 1, 0, 0), (12, .iaload, 0, 0), (13, .lload_n 3, 0, 0), (14, .invokestatic 266, 149, 1)], [(17, .if_icmp .lt 20, 0, 0), (20, .aload_n 0, 0, 0), (21, .getfield 88, 928, 1), (24, .iload_n 1, 0, 0), (25, .iaload, 0, 0), (26, .lload_n 3, 0, 0), (27, .invokestatic 269, 154, 1), (30, .if_icmp .ge 7, 0, 0)], [(33, .iconst 1, 0, 0), (34, .goto 4, 0, 0), (37, .iconst 0, 0, 0), (38, .istore 9, 0, 0), (40, .lload_n 3, 0, 0), (41, .invokestatic 189, 134, 1), (44, .iconst 2, 0, 0), (45, .if_icmp .ne 50, 0, 0)], [(48, .aload_n 0, 0, 0), (49, .getfield 70, 922, 1), (52, .bipush 24, 0, 0), (54, .iload_n 1, 0, 0), (55, .imul, 0, 0), (56, .iload 8, 0, 0), (58, .iadd, 0, 0), (59, .iload_n 2, 0, 0), (60, .iastore, 0, 0), (61, .aload_n 0, 0, 0), (62, .getfield 73, 923, 1)], [(65, .bipush 24, 0, 0), (67, .iload_n 1, 0, 0), (68, .imul, 0, 0), (69, .iload 8, 0, 0), (71, .iadd, 0, 0), (72, .lload_n 3, 0, 0), (73, .lastore, 0, 0), (74, .iload 9, 0, 0), (76, .ifCond .eq 11, 0, 0), (79, .aload_n 0, 0, 0)], [(80, .iload_n 1, 0, 0), (81, .invokevirtual 242, 144, 1), (84, .goto 71, 0, 0), (87, .aload_n 0, 0, 0), (88, .iload_n 1, 0, 0), (89, .invokevirtual 212, 139, 1), (92, .goto 63, 0, 0), (95, .lload_n 3, 0, 0)], [(96, .invokestatic 189, 134, 1), (99, .iconst 1, 0, 0), (100, .if_icmp .ne 50, 0, 0), (103, .iload 9, 0, 0), (105, .ifCond .eq 45, 0, 0), (108, .aload_n 0, 0, 0), (109, .getfield 79, 925, 1)], [(112, .iload_n 1, 0, 0), (113, .iaload, 0, 0), (114, .iconst 4, 0, 0), (115, .if_icmp .ne 19, 0, 0), (118, .aload_n 0, 0, 0), (119, .iload_n 1, 0, 0), (120, .iload_n 2, 0, 0), (121, .lload_n 3, 0, 0), (122, .iload 5, 0, 0), (124, .iload 6, 0, 0), (126, .iload 7, 0, 0)], [(128, .invokevirtual 272, 164, 6), (131, .goto 24, 0, 0), (134, .aload_n 0, 0, 0), (135, .iload_n 1, 0, 0), (136, .iload_n 2, 0, 0), (137, .lload_n 3, 0, 0), (138, .iload 5, 0, 0), (140, .iload 6, 0, 0), (142, .iload 7, 0, 0)], [(144, .invokevirtual 275, 167, 6), (147, .goto 8, 0, 0), (150, .aload_n 0, 0, 0), (151, .iload_n 1, 0, 0), (152, .invokevirtual 212, 139, 1), (155, .return_, 0, 0)]]
def xt_v163 : List (List (List Nat)) := [[[], [], [1089, 1091, 10051], [], [], [909], [], [], [], [1104, 1105]], [[], [], [909], [], [], [], [1122, 1123], []], [[], [], [], [], [], [1045, 1046], [], []], [[], [903], [], [], [], [], [], [], [], [], [904]], [[], [], [], [], [], [], [], [], [], []], [[], [1085, 1087, 10050], [], [], [], [1065, 1067, 10045], [], []], [[1045, 1046], [], [], [], [], [], [906]], [[], [], [], [], [], [], [], [], [], [], []], [[1159, 1161, 10060], [], [], [], [], [], [], [], []], [[1170, 1172, 10062], [], [], [], [1065, 1067, 10045], []]]
-- CellTreeModel.collect(IIJIII)V
def xt_c164 : List (List (Nat × xv_I)) := [[(0, .aload_n 0, 0, 0), (1, .getfield 121, 939, 1), (4, .iload_n 1, 0, 0), (5, .iaload, 0, 0), (6, .bipush 6, 0, 0), (8, .if_icmp .ne 18, 0, 0), (11, .aload_n 0, 0, 0), (12, .getfield 82, 926, 1), (15, .iload_n 1, 0, 0)], [(16, .iconst 4, 0, 0), (17, .iastore, 0, 0), (18, .aload_n 0, 0, 0), (19, .getfield 100, 932, 1), (22, .iload_n 1, 0, 0), (23, .iconst 0, 0, 0), (24, .iastore, 0, 0), (25, .return_, 0, 0), (26, .aload_n 0, 0, 0), (27, .getfield 124, 940, 1), (30, .bipush 6, 0, 0)], [(32, .iload_n 1, 0, 0), (33, .imul, 0, 0), (34, .aload_n 0, 0, 0), (35, .getfield 121, 939, 1), (38, .iload_n 1, 0, 0), (39, .iaload, 0, 0), (40, .iadd, 0, 0), (41, .aload_n 0, 0, 0), (42, .iload_n 1, 0, 0), (43, .invokevirtual 245, 145, 1), (46, .iastore, 0, 0), (47, .aload_n 0, 0, 0)], [(48, .getfield 127, 941, 1), (51, .bipush 6, 0, 0), (53, .iload_n 1, 0, 0), (54, .imul, 0, 0), (55, .aload_n 0, 0, 0), (56, .getfield 121, 939, 1), (59, .iload_n 1, 0, 0), (60, .iaload, 0, 0), (61, .iadd, 0, 0), (62, .iload_n 2, 0, 0), (63, .iastore, 0, 0)], [(64, .aload_n 0, 0, 0), (65, .getfield 121, 939, 1), (68, .iload_n 1, 0, 0), (69, .dup2, 0, 0), (70, .iaload, 0, 0), (71, .iconst 1, 0, 0), (72, .iadd, 0, 0), (73, .iastore, 0, 0), (74, .iconst 0, 0, 0), (75, .istore 8, 0, 0), (77, .iload 8, 0, 0), (79, .lload_n 3, 0, 0)], [(80, .invokestatic 148, 146, 1), (83, .if_icmp .ge 60, 0, 0), (86, .lload_n 3, 0, 0), (87, .iload 8, 0, 0), (89, .invokestatic 152, 148, 2), (92, .aload_n 0, 0, 0), (93, .getfield 91, 929, 1)], [(96, .iload_n 1, 0, 0), (97, .iaload, 0, 0), (98, .aload_n 0, 0, 0), (99, .getfield 94, 930, 1), (102, .iload_n 1, 0, 0), (103, .iaload, 0, 0), (104, .invokestatic 160, 127, 3), (107, .ifCond .eq 30, 0, 0), (110, .aload_n 0, 0, 0), (111, .getfield 103, 933, 1)], [(114, .iload_n 1, 0, 0), (115, .iconst 1, 0, 0), (116, .bastore, 0, 0), (117, .aload_n 0, 0, 0), (118, .getfield 100, 932, 1), (121, .iload_n 1, 0, 0), (122, .dup2, 0, 0), (123, .iaload, 0, 0), (124, .iload 8, 0, 0), (126, .iload 5, 0, 0)], [(128, .iload 6, 0, 0), (130, .iload 7, 0, 0), (132, .invokestatic 278, 165, 4), (135, .iadd, 0, 0), (136, .iastore, 0, 0), (137, .iinc 8 1, 0, 0), (140, .goto (-63), 0, 0), (143, .lload_n 3, 0, 0)], [(144, .invokestatic 269, 154, 1), (147, .aload_n 0, 0, 0), (148, .getfield 94, 930, 1), (151, .iload_n 1, 0, 0), (152, .iaload, 0, 0), (153, .if_icmp .gt 21, 0, 0), (156, .aload_n 0, 0, 0), (157, .getfield 88, 928, 1)], [(160, .iload_n 1, 0, 0), (161, .lload_n 3, 0, 0), (162, .invokestatic 269, 154, 1), (165, .iastore, 0, 0), (166, .aload_n 0, 0, 0), (167, .iload_n 1, 0, 0), (168, .invokevirtual 223, 142, 1), (171, .goto 86, 0, 0), (174, .aload_n 0, 0, 0), (175, .getfield 121, 939, 1)], [(178, .iload_n 1, 0, 0), (179, .iaload, 0, 0), (180, .iconst 1, 0, 0), (181, .if_icmp .ne 11, 0, 0), (184, .aload_n 0, 0, 0), (185, .iload_n 1, 0, 0), (186, .invokevirtual 226, 166, 1), (189, .goto 68, 0, 0)], [(192, .iconst 0, 0, 0), (193, .istore 8, 0, 0), (195, .iload 8, 0, 0), (197, .aload_n 0, 0, 0), (198, .getfield 121, 939, 1), (201, .iload_n 1, 0, 0), (202, .iaload, 0, 0), (203, .if_icmp .ge 42, 0, 0), (206, .aload_n 0, 0, 0), (207, .iconst 2, 0, 0)], [(208, .aload_n 0, 0, 0), (209, .getfield 124, 940, 1), (212, .bipush 6, 0, 0), (214, .iload_n 1, 0, 0), (215, .imul, 0, 0), (216, .iload 8, 0, 0), (218, .iadd, 0, 0), (219, .iaload, 0, 0), (220, .aload_n 0, 0, 0), (221, .getfield 127, 941, 1)], [(224, .bipush 6, 0, 0), (226, .iload_n 1, 0, 0), (227, .imul, 0, 0), (228, .iload 8, 0, 0), (230, .iadd, 0, 0), (231, .iaload, 0, 0), (232, .lconst 0, 0, 0), (233, .iconst 0, 0, 0), (234, .iconst 0, 0, 0), (235, .iconst 0, 0, 0), (236, .invokevirtual 259, 156, 7), (239, .iinc 8 1, 0, 0)], [(242, .goto (-47), 0, 0), (245, .aload_n 0, 0, 0), (246, .iload_n 1, 0, 0), (247, .aload_n 0, 0, 0), (248, .getfield 121, 939, 1), (251, .iload_n 1, 0, 0), (252, .iaload, 0, 0), (253, .iconst 2, 0, 0), (254, .invokevirtual 262, 160, 3)], [(257, .return_, 0, 0)]]
def xt_v164 : List (List (List Nat)) := [[[], [920], [], [], [], [], [], [907], []], [[], [], [], [913], [], [], [], [], [], [921], []], [[], [], [], [920], [], [], [], [], [], [1089, 1091, 10051], [], []], [[922], [], [], [], [], [920], [], [], [], [], []], [[], [920], [], [], [], [], [], [], [], [], [], []], [[1093, 1094], [], [], [], [1100, 1101], [], [910]], [[], [], [], [911], [], [], [1017, 1018], [], [], [914]], [[], [], [], [], [913], [], [], [], [], []], [[], [], [1163, 1164], [], [], [], [], []], [[1122, 1123], [], [911], [], [], [], [], [909]], [[], [], [1122, 1123], [], [], [], [1077, 1079, 10048], [], [], [920]], [[], [], [], [], [], [], [1166, 1168, 10061], []], [[], [], [], [], [920], [], [], [], [], []], [[], [921], [], [], [], [], [], [], [], [922]], [[], [], [], [], [], [], [], [], [], [], [1129, 1131, 10054], []], [[], [], [], [], [920], [], [], [], [1143, 1145, 10056]], [[]]]
-- CellTreeModel.pick(IIII)I
def xt_c165 : List (List (Nat × xv_I)) := [[(0, .iload_n 0, 0, 0), (1, .ifCond .ne 7, 0, 0), (4, .iload_n 1, 0, 0), (5, .goto 13, 0, 0), (8, .iload_n 0, 0, 0), (9, .iconst 1, 0, 0), (10, .if_icmp .ne 7, 0, 0), (13, .iload_n 2, 0, 0), (14, .goto 4, 0, 0)], [(17, .iload_n 3, 0, 0), (18, .ireturn, 0, 0)]]
def xt_v165 : List (List (List Nat)) := [[[], [], [], [], [], [], [], [], []], [[], []]]
-- CellTreeModel.done(I)V
def xt_c166 : List (List (Nat × xv_I)) := [[(0, .aload_n 0, 0, 0), (1, .getfield 82, 926, 1), (4, .iload_n 1, 0, 0), (5, .aload_n 0, 0, 0), (6, .getfield 103, 933, 1), (9, .iload_n 1, 0, 0), (10, .baload, 0, 0), (11, .ifCond .eq 7, 0, 0), (14, .iconst 3, 0, 0), (15, .goto 4, 0, 0)], [(18, .iconst 2, 0, 0), (19, .iastore, 0, 0), (20, .return_, 0, 0)]]
def xt_v166 : List (List (List Nat)) := [[[], [907], [], [], [914], [], [], [], [], []], [[], [], []]]
-- CellTreeModel.atLeaf(IIJIII)V
def xt_c167 : List (List (Nat × xv_I)) := [[(0, .aload_n 0, 0, 0), (1, .getfield 88, 928, 1), (4, .iload_n 1, 0, 0), (5, .iaload, 0, 0), (6, .istore 8, 0, 0), (8, .lload_n 3, 0, 0), (9, .iload 8, 0, 0), (11, .iconst 0, 0, 0), (12, .invokestatic 252, 159, 3), (15, .istore 9, 0, 0)], [(17, .iload 9, 0, 0), (19, .lload_n 3, 0, 0), (20, .invokestatic 148, 146, 1), (23, .if_icmp .ge 18, 0, 0), (26, .lload_n 3, 0, 0), (27, .iload 9, 0, 0), (29, .invokestatic 152, 148, 2)], [(32, .iload 8, 0, 0), (34, .if_icmp .ne 7, 0, 0), (37, .iconst 1, 0, 0), (38, .goto 4, 0, 0), (41, .iconst 0, 0, 0), (42, .istore 10, 0, 0), (44, .aload_n 0, 0, 0), (45, .getfield 79, 925, 1)], [(48, .iload_n 1, 0, 0), (49, .iaload, 0, 0), (50, .iconst 1, 0, 0), (51, .if_icmp .eq 18, 0, 0), (54, .aload_n 0, 0, 0), (55, .getfield 79, 925, 1), (58, .iload_n 1, 0, 0), (59, .iaload, 0, 0), (60, .iconst 3, 0, 0), (61, .if_icmp .ne 48, 0, 0)], [(64, .iload 10, 0, 0), (66, .ifCond .ne 43, 0, 0), (69, .aload_n 0, 0, 0), (70, .getfield 103, 933, 1), (73, .iload_n 1, 0, 0), (74, .iload 10, 0, 0), (76, .bastore, 0, 0), (77, .aload_n 0, 0, 0), (78, .getfield 100, 932, 1)], [(81, .iload_n 1, 0, 0), (82, .iload 10, 0, 0), (84, .ifCond .eq 17, 0, 0), (87, .iload 9, 0, 0), (89, .iload 5, 0, 0), (91, .iload 6, 0, 0), (93, .iload 7, 0, 0), (95, .invokestatic 278, 165, 4)], [(98, .goto 4, 0, 0), (101, .iconst 0, 0, 0), (102, .iastore, 0, 0), (103, .aload_n 0, 0, 0), (104, .iload_n 1, 0, 0), (105, .invokevirtual 226, 166, 1), (108, .return_, 0, 0), (109, .aload_n 0, 0, 0), (110, .getfield 79, 925, 1)], [(113, .iload_n 1, 0, 0), (114, .iaload, 0, 0), (115, .iconst 2, 0, 0), (116, .if_icmp .ne 30, 0, 0), (119, .iload 10, 0, 0), (121, .ifCond .ne 25, 0, 0), (124, .lload_n 3, 0, 0), (125, .invokestatic 148, 146, 1)], [(128, .iconst 3, 0, 0), (129, .if_icmp .ne 17, 0, 0), (132, .aload_n 0, 0, 0), (133, .iload_n 1, 0, 0), (134, .iload_n 2, 0, 0), (135, .lload_n 3, 0, 0), (136, .iload 5, 0, 0), (138, .iload 6, 0, 0), (140, .iload 7, 0, 0), (142, .invokevirtual 282, 168, 6)], [(145, .return_, 0, 0), (146, .aload_n 0, 0, 0), (147, .getfield 103, 933, 1), (150, .iload_n 1, 0, 0), (151, .iload 10, 0, 0), (153, .bastore, 0, 0), (154, .aload_n 0, 0, 0), (155, .getfield 100, 932, 1), (158, .iload_n 1, 0, 0), (159, .iload 10, 0, 0)], [(161, .ifCond .eq 17, 0, 0), (164, .iload 9, 0, 0), (166, .iload 5, 0, 0), (168, .iload 6, 0, 0), (170, .iload 7, 0, 0), (172, .invokestatic 278, 165, 4), (175, .goto 4, 0, 0)], [(178, .iconst 0, 0, 0), (179, .iastore, 0, 0), (180, .aload_n 0, 0, 0), (181, .getfield 79, 925, 1), (184, .iload_n 1, 0, 0), (185, .iaload, 0, 0), (186, .iconst 3, 0, 0), (187, .if_icmp .ne 21, 0, 0), (190, .aload_n 0, 0, 0), (191, .iload_n 1, 0, 0)], [(192, .iload_n 2, 0, 0), (193, .lload_n 3, 0, 0), (194, .iload 9, 0, 0), (196, .iload 5, 0, 0), (198, .iload 6, 0, 0), (200, .iload 7, 0, 0), (202, .invokevirtual 285, 169, 7), (205, .goto 20, 0, 0)], [(208, .aload_n 0, 0, 0), (209, .iload_n 1, 0, 0), (210, .iload_n 2, 0, 0), (211, .lload_n 3, 0, 0), (212, .iload 9, 0, 0), (214, .iload 10, 0, 0), (216, .iload 5, 0, 0), (218, .iload 6, 0, 0), (220, .iload 7, 0, 0), (222, .invokevirtual 289, 170, 8)], [(225, .aload_n 0, 0, 0), (226, .iload_n 1, 0, 0), (227, .iconst 1, 0, 0), (228, .iconst 2, 0, 0), (229, .invokevirtual 262, 160, 3), (232, .return_, 0, 0)]]
def xt_v167 : List (List (List Nat)) := [[[], [909], [], [], [], [], [], [], [1140, 1141], []], [[], [], [1093, 1094], [], [], [], [1100, 1101]], [[], [], [], [], [], [], [], [906]], [[], [], [], [], [], [906], [], [], [], []], [[], [], [], [914], [], [], [], [], [913]], [[], [], [], [], [], [], [], [1163, 1164]], [[], [], [], [], [], [1166, 1168, 10061], [], [], [906]], [[], [], [], [], [], [], [], [1093, 1094]], [[], [], [], [], [], [], [], [], [], [1174, 1176, 10063]], [[], [], [914], [], [], [], [], [913], [], []], [[], [], [], [], [], [1163, 1164], []], [[], [], [], [906], [], [], [], [], [], []], [[], [], [], [], [], [], [1178, 1180, 10064], []], [[], [], [], [], [], [], [], [], [], [1182, 1184, 10065]], [[], [], [], [], [1143, 1145, 10056], []]]
-- CellTreeModel.splitLeaf(IIJIII)V
def xt_c168 : List (List (Nat × xv_I)) := [[(0, .lload_n 3, 0, 0), (1, .iconst 1, 0, 0), (2, .invokestatic 152, 148, 2), (5, .istore 8, 0, 0), (7, .iconst 1, 0, 0), (8, .lload_n 3, 0, 0), (9, .invokestatic 266, 149, 1), (12, .iload 8, 0, 0), (14, .invokestatic 130, 124, 3)], [(17, .iconst 0, 0, 0), (18, .lload_n 3, 0, 0), (19, .iconst 0, 0, 0), (20, .invokestatic 152, 148, 2), (23, .invokestatic 297, 150, 3), (26, .iconst 1, 0, 0), (27, .invokestatic 293, 151, 2), (30, .lstore 9, 0, 0)], [(32, .iconst 1, 0, 0), (33, .iload 8, 0, 0), (35, .lload_n 3, 0, 0), (36, .invokestatic 269, 154, 1), (39, .invokestatic 130, 124, 3), (42, .iconst 0, 0, 0), (43, .iload 8, 0, 0), (45, .invokestatic 297, 150, 3)], [(48, .iconst 1, 0, 0), (49, .lload_n 3, 0, 0), (50, .iconst 2, 0, 0), (51, .invokestatic 152, 148, 2), (54, .invokestatic 297, 150, 3), (57, .iconst 2, 0, 0), (58, .invokestatic 293, 151, 2), (61, .lstore 11, 0, 0), (63, .aload_n 0, 0, 0)], [(64, .iload_n 1, 0, 0), (65, .invokevirtual 245, 145, 1), (68, .ifCond .ne 7, 0, 0), (71, .iconst 1, 0, 0), (72, .goto 4, 0, 0), (75, .iconst 0, 0, 0), (76, .istore 13, 0, 0), (78, .iload 13, 0, 0)], [(80, .ifCond .eq 11, 0, 0), (83, .aload_n 0, 0, 0), (84, .iload_n 1, 0, 0), (85, .invokevirtual 301, 155, 1), (88, .goto 8, 0, 0), (91, .aload_n 0, 0, 0), (92, .iload_n 1, 0, 0), (93, .invokevirtual 245, 145, 1)], [(96, .istore 14, 0, 0), (98, .aload_n 0, 0, 0), (99, .iload_n 1, 0, 0), (100, .invokevirtual 301, 155, 1), (103, .istore 15, 0, 0), (105, .aload_n 0, 0, 0), (106, .iload 13, 0, 0), (108, .ifCond .eq 7, 0, 0), (111, .iconst 4, 0, 0)], [(112, .goto 4, 0, 0), (115, .iconst 3, 0, 0), (116, .iload 14, 0, 0), (118, .iload_n 2, 0, 0), (119, .lload 9, 0, 0), (121, .iload 5, 0, 0), (123, .iconst 0, 0, 0), (124, .iconst 0, 0, 0), (125, .invokevirtual 259, 156, 7)], [(128, .aload_n 0, 0, 0), (129, .iconst 4, 0, 0), (130, .iload 15, 0, 0), (132, .iconst 0, 0, 0), (133, .lload 11, 0, 0), (135, .iload 6, 0, 0), (137, .iload 7, 0, 0), (139, .iconst 0, 0, 0), (140, .invokevirtual 259, 156, 7), (143, .aload_n 0, 0, 0)], [(144, .iload_n 1, 0, 0), (145, .iload 13, 0, 0), (147, .iload 8, 0, 0), (149, .iload 14, 0, 0), (151, .iload 15, 0, 0), (153, .iload_n 2, 0, 0), (154, .invokevirtual 304, 157, 6), (157, .return_, 0, 0)]]
def xt_v168 : List (List (List Nat)) := [[[], [], [1100, 1101], [], [], [], [1104, 1105], [], [876, 877]], [[], [], [], [1100, 1101], [1107, 1108], [], [1111, 1112], []], [[], [], [], [1122, 1123], [876, 877], [], [], [1107, 1108]], [[], [], [], [1100, 1101], [1107, 1108], [], [1111, 1112], [], []], [[], [1089, 1091, 10051], [], [], [], [], [], []], [[], [], [], [1125, 1127, 10053], [], [], [], [1089, 1091, 10051]], [[], [], [], [1125, 1127, 10053], [], [], [], [], []], [[], [], [], [], [], [], [], [], [1129, 1131, 10054]], [[], [], [], [], [], [], [], [], [1129, 1131, 10054], []], [[], [], [], [], [], [], [1133, 1135, 10055], []]]
-- CellTreeModel.without(IIJIIII)V
def xt_c169 : List (List (Nat × xv_I)) := [[(0, .lload_n 3, 0, 0), (1, .lload_n 3, 0, 0), (2, .invokestatic 148, 146, 1), (5, .iconst 1, 0, 0), (6, .isub, 0, 0), (7, .invokestatic 293, 151, 2), (10, .lstore 9, 0, 0), (12, .iload 5, 0, 0), (14, .istore 11, 0, 0)], [(16, .iload 11, 0, 0), (18, .iconst 2, 0, 0), (19, .if_icmp .ge 26, 0, 0), (22, .lload 9, 0, 0), (24, .iload 11, 0, 0), (26, .lload_n 3, 0, 0), (27, .iload 11, 0, 0), (29, .iconst 1, 0, 0), (30, .iadd, 0, 0), (31, .invokestatic 152, 148, 2)], [(34, .invokestatic 297, 150, 3), (37, .lstore 9, 0, 0), (39, .iinc 11 1, 0, 0), (42, .goto (-26), 0, 0), (45, .aload_n 0, 0, 0), (46, .iconst 3, 0, 0), (47, .aload_n 0, 0, 0)], [(48, .iload_n 1, 0, 0), (49, .invokevirtual 245, 145, 1), (52, .iload_n 2, 0, 0), (53, .lload 9, 0, 0), (55, .iload 5, 0, 0), (57, .ifCond .ne 8, 0, 0), (60, .iload 7, 0, 0), (62, .goto 5, 0, 0)], [(65, .iload 6, 0, 0), (67, .iload 5, 0, 0), (69, .iconst 1, 0, 0), (70, .if_icmp .gt 8, 0, 0), (73, .iload 8, 0, 0), (75, .goto 5, 0, 0), (78, .iload 7, 0, 0)], [(80, .iconst 0, 0, 0), (81, .invokevirtual 259, 156, 7), (84, .return_, 0, 0)]]
def xt_v169 : List (List (List Nat)) := [[[], [], [1093, 1094], [], [], [1111, 1112], [], [], []], [[], [], [], [], [], [], [], [], [], [1100, 1101]], [[1107, 1108], [], [], [], [], [], []], [[], [1089, 1091, 10051], [], [], [], [], [], []], [[], [], [], [], [], [], []], [[], [1129, 1131, 10054], []]]
-- CellTreeModel.with(IIJIZIII)V
def xt_c170 : List (List (Nat × xv_I)) := [[(0, .aload_n 0, 0, 0), (1, .getfield 97, 931, 1), (4, .iload_n 1, 0, 0), (5, .iaload, 0, 0), (6, .istore 10, 0, 0), (8, .lload_n 3, 0, 0), (9, .lstore 11, 0, 0), (11, .iload 6, 0, 0), (13, .ifCond .ne 60, 0, 0)], [(16, .iconst 2, 0, 0), (17, .istore 13, 0, 0), (19, .iload 13, 0, 0), (21, .iload 5, 0, 0), (23, .if_icmp .le 26, 0, 0), (26, .lload 11, 0, 0), (28, .iload 13, 0, 0), (30, .lload_n 3, 0, 0), (31, .iload 13, 0, 0)], [(33, .iconst 1, 0, 0), (34, .isub, 0, 0), (35, .invokestatic 152, 148, 2), (38, .invokestatic 297, 150, 3), (41, .lstore 11, 0, 0), (43, .iinc 13 (-1), 0, 0), (46, .goto (-27), 0, 0)], [(49, .lload 11, 0, 0), (51, .iload 5, 0, 0), (53, .aload_n 0, 0, 0), (54, .getfield 88, 928, 1), (57, .iload_n 1, 0, 0), (58, .iaload, 0, 0), (59, .invokestatic 297, 150, 3), (62, .lload_n 3, 0, 0), (63, .invokestatic 148, 146, 1)], [(66, .iconst 1, 0, 0), (67, .iadd, 0, 0), (68, .invokestatic 293, 151, 2), (71, .lstore 11, 0, 0), (73, .iload 5, 0, 0), (75, .ifCond .ne 8, 0, 0), (78, .iload 10, 0, 0)], [(80, .goto 5, 0, 0), (83, .iload 7, 0, 0), (85, .istore 13, 0, 0), (87, .iload 5, 0, 0), (89, .iconst 1, 0, 0), (90, .if_icmp .ne 8, 0, 0), (93, .iload 10, 0, 0), (95, .goto 20, 0, 0)], [(98, .iload 5, 0, 0), (100, .ifCond .ne 13, 0, 0), (103, .iload 6, 0, 0), (105, .ifCond .ne 8, 0, 0), (108, .iload 7, 0, 0), (110, .goto 5, 0, 0)], [(113, .iload 8, 0, 0), (115, .istore 14, 0, 0), (117, .iload 5, 0, 0), (119, .iconst 2, 0, 0), (120, .if_icmp .ne 8, 0, 0), (123, .iload 10, 0, 0), (125, .goto 15, 0, 0)], [(128, .iload 6, 0, 0), (130, .ifCond .eq 8, 0, 0), (133, .iload 9, 0, 0), (135, .goto 5, 0, 0), (138, .iload 8, 0, 0), (140, .istore 15, 0, 0), (142, .aload_n 0, 0, 0), (143, .iconst 3, 0, 0)], [(144, .aload_n 0, 0, 0), (145, .iload_n 1, 0, 0), (146, .invokevirtual 245, 145, 1), (149, .iload_n 2, 0, 0), (150, .lload 11, 0, 0), (152, .iload 13, 0, 0), (154, .iload 14, 0, 0), (156, .iload 15, 0, 0), (158, .invokevirtual 259, 156, 7)], [(161, .return_, 0, 0)]]
def xt_v170 : List (List (List Nat)) := [[[], [912], [], [], [], [], [], [], []], [[], [], [], [], [], [], [], [], []], [[], [], [1100, 1101], [1107, 1108], [], [], []], [[], [], [], [909], [], [], [1107, 1108], [], [1093, 1094]], [[], [], [1111, 1112], [], [], [], []], [[], [], [], [], [], [], [], []], [[], [], [], [], [], []], [[], [], [], [], [], [], []], [[], [], [], [], [], [], [], []], [[], [], [1089, 1091, 10051], [], [], [], [], [], [1129, 1131, 10054]], [[]]]
-- CellTreeModel.recover(I)I
def xt_c171 : List (List (Nat × xv_I)) := [[(0, .iload_n 1, 0, 0), (1, .iconst 0, 0, 0), (2, .iconst 2, 0, 0), (3, .invokestatic 160, 127, 3), (6, .ifCond .eq 12, 0, 0), (9, .aload_n 0, 0, 0), (10, .getfield 7, 900, 1), (13, .iload_n 1, 0, 0), (14, .baload, 0, 0), (15, .ifCond .eq 5, 0, 0)], [(18, .iconst (-1), 0, 0), (19, .ireturn, 0, 0), (20, .iconst 0, 0, 0), (21, .istore_n 2, 0, 0), (22, .aload_n 0, 0, 0), (23, .getfield 186, 904, 0), (26, .istore_n 3, 0, 0), (27, .iload_n 3, 0, 0), (28, .ifCond .le 29, 0, 0), (31, .aload_n 0, 0, 0)], [(32, .getfield 33, 908, 1), (35, .iconst 3, 0, 0), (36, .iload_n 3, 0, 0), (37, .imul, 0, 0), (38, .iload_n 1, 0, 0), (39, .iadd, 0, 0), (40, .baload, 0, 0), (41, .iconst 1, 0, 0), (42, .if_icmp .ne 7, 0, 0), (45, .iload_n 3, 0, 0), (46, .goto 4, 0, 0)], [(49, .iload_n 2, 0, 0), (50, .istore_n 2, 0, 0), (51, .iinc 3 (-1), 0, 0), (54, .goto (-27), 0, 0), (57, .iload_n 2, 0, 0), (58, .ifCond .ne 5, 0, 0), (61, .iconst (-1), 0, 0), (62, .ireturn, 0, 0), (63, .iconst 1, 0, 0)], [(64, .istore_n 3, 0, 0), (65, .iconst 0, 0, 0), (66, .istore 4, 0, 0), (68, .iconst 0, 0, 0), (69, .istore 5, 0, 0), (71, .iload 5, 0, 0), (73, .iconst 3, 0, 0), (74, .if_icmp .ge 83, 0, 0), (77, .aload_n 0, 0, 0), (78, .iload_n 2, 0, 0), (79, .iload 5, 0, 0)], [(81, .invokevirtual 182, 136, 2), (84, .ifCond .eq 67, 0, 0), (87, .aload_n 0, 0, 0), (88, .getfield 7, 900, 1), (91, .iload 5, 0, 0), (93, .baload, 0, 0), (94, .ifCond .eq 5, 0, 0)], [(97, .iconst (-1), 0, 0), (98, .ireturn, 0, 0), (99, .iload_n 3, 0, 0), (100, .ifCond .eq 22, 0, 0), (103, .aload_n 0, 0, 0), (104, .getfield 33, 908, 1), (107, .iconst 3, 0, 0), (108, .iload_n 2, 0, 0), (109, .imul, 0, 0), (110, .iload 5, 0, 0)], [(112, .iadd, 0, 0), (113, .baload, 0, 0), (114, .iconst 1, 0, 0), (115, .if_icmp .ne 7, 0, 0), (118, .iconst 1, 0, 0), (119, .goto 4, 0, 0), (122, .iconst 0, 0, 0), (123, .istore_n 3, 0, 0), (124, .iload 4, 0, 0), (126, .ifCond .ne 18, 0, 0)], [(129, .aload_n 0, 0, 0), (130, .getfield 33, 908, 1), (133, .iconst 3, 0, 0), (134, .iload_n 2, 0, 0), (135, .imul, 0, 0), (136, .iload 5, 0, 0), (138, .iadd, 0, 0), (139, .baload, 0, 0), (140, .iconst 2, 0, 0), (141, .if_icmp .ne 7, 0, 0)], [(144, .iconst 1, 0, 0), (145, .goto 4, 0, 0), (148, .iconst 0, 0, 0), (149, .istore 4, 0, 0), (151, .iinc 5 1, 0, 0), (154, .goto (-83), 0, 0), (157, .iconst 0, 0, 0), (158, .istore 5, 0, 0)], [(160, .iload 5, 0, 0), (162, .iconst 3, 0, 0), (163, .if_icmp .ge 75, 0, 0), (166, .aload_n 0, 0, 0), (167, .iload_n 2, 0, 0), (168, .iload 5, 0, 0), (170, .invokevirtual 182, 136, 2), (173, .ifCond .eq 59, 0, 0)], [(176, .aload_n 0, 0, 0), (177, .getfield 33, 908, 1), (180, .iconst 3, 0, 0), (181, .iload_n 2, 0, 0), (182, .imul, 0, 0), (183, .iload 5, 0, 0), (185, .iadd, 0, 0), (186, .baload, 0, 0), (187, .istore 6, 0, 0), (189, .iload 6, 0, 0), (191, .iconst 1, 0, 0)], [(192, .if_icmp .ne 22, 0, 0), (195, .iload 4, 0, 0), (197, .ifCond .ne 7, 0, 0), (200, .iload_n 3, 0, 0), (201, .ifCond .eq 13, 0, 0), (204, .aload_n 0, 0, 0), (205, .iload_n 2, 0, 0), (206, .iload 5, 0, 0)], [(208, .invokevirtual 172, 137, 2), (211, .goto 21, 0, 0), (214, .iload 6, 0, 0), (216, .iconst 2, 0, 0), (217, .if_icmp .ge 15, 0, 0), (220, .aload_n 0, 0, 0), (221, .getfield 33, 908, 1)], [(224, .iconst 3, 0, 0), (225, .iload_n 2, 0, 0), (226, .imul, 0, 0), (227, .iload 5, 0, 0), (229, .iadd, 0, 0), (230, .iconst 3, 0, 0), (231, .bastore, 0, 0), (232, .iinc 5 1, 0, 0), (235, .goto (-75), 0, 0), (238, .iload_n 2, 0, 0), (239, .ireturn, 0, 0)]]
def xt_v171 : List (List (List Nat)) := [[[], [], [], [1017, 1018], [], [], [881], [], [], []], [[], [], [], [], [], [885], [], [], [], []], [[889], [], [], [], [], [], [], [], [], [], []], [[], [], [], [], [], [], [], [], []], [[], [], [], [], [], [], [], [], [], [], []], [[1053, 1055, 10042], [], [], [881], [], [], []], [[], [], [], [], [], [889], [], [], [], []], [[], [], [], [], [], [], [], [], [], []], [[], [889], [], [], [], [], [], [], [], []], [[], [], [], [], [], [], [], []], [[], [], [], [], [], [], [1053, 1055, 10042], []], [[], [889], [], [], [], [], [], [], [], [], []], [[], [], [], [], [], [], [], []], [[1057, 1059, 10043], [], [], [], [], [], [889]], [[], [], [], [], [], [], [], [], [], [], []]]
-- CellTreeModel.get(II)Z
def xt_c172 : List (List (Nat × xv_I)) := [[(0, .aload_n 0, 0, 0), (1, .iload_n 1, 0, 0), (2, .invokevirtual 232, 173, 1), (5, .ifCond .eq 13, 0, 0), (8, .iload_n 2, 0, 0), (9, .iconst 0, 0, 0), (10, .bipush 99, 0, 0), (12, .invokestatic 160, 127, 3), (15, .ifCond .ne 5, 0, 0)], [(18, .iconst 0, 0, 0), (19, .ireturn, 0, 2), (20, .aload_n 0, 0, 0), (21, .iload_n 1, 0, 0), (22, .iconst 1, 0, 0), (23, .iload_n 2, 0, 0), (24, .iload_n 2, 0, 0), (25, .iconst 0, 0, 0), (26, .invokevirtual 235, 174, 5), (29, .iconst 1, 0, 0), (30, .ireturn, 0, 2)]]
def xt_v172 : List (List (List Nat)) := [[[], [], [1194, 1196, 10066], [], [], [], [], [1017, 1018], []], [[], [], [], [], [], [], [], [], [1198, 1200, 10067], [], []]]
-- CellTreeModel.idle(I)Z
def xt_c173 : List (List (Nat × xv_I)) := [[(0, .iload_n 1, 0, 0), (1, .iconst 0, 0, 0), (2, .iconst 1, 0, 0), (3, .invokestatic 160, 127, 3), (6, .ifCond .eq 54, 0, 0), (9, .aload_n 0, 0, 0), (10, .getfield 7, 900, 1), (13, .iload_n 1, 0, 0), (14, .ifCond .lt 8, 0, 0)], [(17, .iload_n 1, 0, 0), (18, .iconst 1, 0, 0), (19, .if_icmp .le 7, 0, 0), (22, .iconst 3, 0, 0), (23, .goto 6, 0, 0), (26, .iconst 3, 0, 0), (27, .iload_n 1, 0, 0), (28, .iadd, 0, 0), (29, .baload, 0, 0), (30, .ifCond .ne 30, 0, 0)], [(33, .aload_n 0, 0, 0), (34, .getfield 82, 926, 1), (37, .iload_n 1, 0, 0), (38, .ifCond .lt 8, 0, 0), (41, .iload_n 1, 0, 0), (42, .iconst 1, 0, 0), (43, .if_icmp .le 7, 0, 0), (46, .iconst 0, 0, 0), (47, .goto 4, 0, 0)], [(50, .iload_n 1, 0, 0), (51, .iaload, 0, 0), (52, .iconst 1, 0, 0), (53, .if_icmp .eq 7, 0, 0), (56, .iconst 1, 0, 0), (57, .goto 4, 0, 0), (60, .iconst 0, 0, 0), (61, .ireturn, 0, 2)]]
def xt_v173 : List (List (List Nat)) := [[[], [], [], [1017, 1018], [], [], [881], [], []], [[], [], [], [], [], [], [], [], [], []], [[], [907], [], [], [], [], [], [], []], [[], [], [], [], [], [], [], []]]
-- CellTreeModel.start(IIIII)V
def xt_c174 : List (List (Nat × xv_I)) := [[(0, .aload_n 0, 0, 0), (1, .getfield 79, 925, 1), (4, .iload_n 1, 0, 0), (5, .iload_n 2, 0, 0), (6, .iastore, 0, 0), (7, .aload_n 0, 0, 0), (8, .getfield 82, 926, 1), (11, .iload_n 1, 0, 0), (12, .iconst 1, 0, 0), (13, .iastore, 0, 0), (14, .aload_n 0, 0, 0), (15, .getfield 85, 927, 1)], [(18, .iload_n 1, 0, 0), (19, .bipush 10, 0, 0), (21, .iastore, 0, 0), (22, .aload_n 0, 0, 0), (23, .getfield 91, 929, 1), (26, .iload_n 1, 0, 0), (27, .iload_n 3, 0, 0), (28, .iastore, 0, 0), (29, .aload_n 0, 0, 0), (30, .getfield 94, 930, 1)], [(33, .iload_n 1, 0, 0), (34, .iload 4, 0, 0), (36, .iastore, 0, 0), (37, .aload_n 0, 0, 0), (38, .getfield 97, 931, 1), (41, .iload_n 1, 0, 0), (42, .iload 5, 0, 0), (44, .iastore, 0, 0), (45, .aload_n 0, 0, 0), (46, .iload_n 1, 0, 0), (47, .invokevirtual 229, 141, 1)], [(50, .return_, 0, 0)]]
def xt_v174 : List (List (List Nat)) := [[[], [906], [], [], [], [], [907], [], [], [], [], [908]], [[], [], [], [], [910], [], [], [], [], [911]], [[], [], [], [], [912], [], [], [], [], [], [1073, 1075, 10047]], [[]]]
-- CellTreeModel.put(III)Z
def xt_c175 : List (List (Nat × xv_I)) := [[(0, .aload_n 0, 0, 0), (1, .iload_n 1, 0, 0), (2, .invokevirtual 232, 173, 1), (5, .ifCond .eq 13, 0, 0), (8, .iload_n 2, 0, 0), (9, .iconst 0, 0, 0), (10, .bipush 99, 0, 0), (12, .invokestatic 160, 127, 3), (15, .ifCond .ne 5, 0, 0)], [(18, .iconst 0, 0, 0), (19, .ireturn, 0, 2), (20, .aload_n 0, 0, 0), (21, .iload_n 1, 0, 0), (22, .iconst 2, 0, 0), (23, .iload_n 2, 0, 0), (24, .iload_n 2, 0, 0), (25, .iload_n 3, 0, 0), (26, .invokevirtual 235, 174, 5), (29, .iconst 1, 0, 0), (30, .ireturn, 0, 2)]]
def xt_v175 : List (List (List Nat)) := [[[], [], [1194, 1196, 10066], [], [], [], [], [1017, 1018], []], [[], [], [], [], [], [], [], [], [1198, 1200, 10067], [], []]]
-- CellTreeModel.remove(II)Z
def xt_c176 : List (List (Nat × xv_I)) := [[(0, .aload_n 0, 0, 0), (1, .iload_n 1, 0, 0), (2, .invokevirtual 232, 173, 1), (5, .ifCond .eq 13, 0, 0), (8, .iload_n 2, 0, 0), (9, .iconst 0, 0, 0), (10, .bipush 99, 0, 0), (12, .invokestatic 160, 127, 3), (15, .ifCond .ne 5, 0, 0)], [(18, .iconst 0, 0, 0), (19, .ireturn, 0, 2), (20, .aload_n 0, 0, 0), (21, .iload_n 1, 0, 0), (22, .iconst 3, 0, 0), (23, .iload_n 2, 0, 0), (24, .iload_n 2, 0, 0), (25, .iconst 0, 0, 0), (26, .invokevirtual 235, 174, 5), (29, .iconst 1, 0, 0), (30, .ireturn, 0, 2)]]
def xt_v176 : List (List (List Nat)) := [[[], [], [1194, 1196, 10066], [], [], [], [], [1017, 1018], []], [[], [], [], [], [], [], [], [], [1198, 1200, 10067], [], []]]
-- CellTreeModel.scan(III)Z
def xt_c177 : List (List (Nat × xv_I)) := [[(0, .aload_n 0, 0, 0), (1, .iload_n 1, 0, 0), (2, .invokevirtual 232, 173, 1), (5, .ifCond .eq 23, 0, 0), (8, .iload_n 2, 0, 0), (9, .iconst 0, 0, 0), (10, .bipush 99, 0, 0), (12, .invokestatic 160, 127, 3), (15, .ifCond .eq 13, 0, 0)], [(18, .iload_n 3, 0, 0), (19, .iload_n 2, 0, 0), (20, .bipush 99, 0, 0), (22, .invokestatic 160, 127, 3), (25, .ifCond .ne 5, 0, 0), (28, .iconst 0, 0, 0), (29, .ireturn, 0, 2), (30, .aload_n 0, 0, 0), (31, .iload_n 1, 0, 0)], [(32, .iconst 4, 0, 0), (33, .iload_n 2, 0, 0), (34, .iload_n 3, 0, 0), (35, .iconst 0, 0, 0), (36, .invokevirtual 235, 174, 5), (39, .iconst 1, 0, 0), (40, .ireturn, 0, 2)]]
def xt_v177 : List (List (List Nat)) := [[[], [], [1194, 1196, 10066], [], [], [], [], [1017, 1018], []], [[], [], [], [1017, 1018], [], [], [], [], []], [[], [], [], [], [1198, 1200, 10067], [], []]]
-- CellTreeModel.resend(I)I
def xt_c178 : List (List (Nat × xv_I)) := [[(0, .iload_n 1, 0, 0), (1, .iconst 0, 0, 0), (2, .iconst 1, 0, 0), (3, .invokestatic 160, 127, 3), (6, .ifCond .eq 49, 0, 0), (9, .aload_n 0, 0, 0), (10, .getfield 7, 900, 1), (13, .iload_n 1, 0, 0), (14, .ifCond .lt 8, 0, 0)], [(17, .iload_n 1, 0, 0), (18, .iconst 1, 0, 0), (19, .if_icmp .le 7, 0, 0), (22, .iconst 3, 0, 0), (23, .goto 6, 0, 0), (26, .iconst 3, 0, 0), (27, .iload_n 1, 0, 0), (28, .iadd, 0, 0), (29, .baload, 0, 0), (30, .ifCond .ne 25, 0, 0)], [(33, .aload_n 0, 0, 0), (34, .getfield 106, 934, 1), (37, .iload_n 1, 0, 0), (38, .ifCond .lt 8, 0, 0), (41, .iload_n 1, 0, 0), (42, .iconst 1, 0, 0), (43, .if_icmp .le 7, 0, 0), (46, .iconst 0, 0, 0), (47, .goto 4, 0, 0)], [(50, .iload_n 1, 0, 0), (51, .iaload, 0, 0), (52, .ifCond .ne 5, 0, 0), (55, .iconst (-1), 0, 0), (56, .ireturn, 0, 0), (57, .aload_n 0, 0, 0), (58, .iload_n 1, 0, 0), (59, .invokevirtual 209, 161, 1), (62, .ireturn, 0, 0)]]
def xt_v178 : List (List (List Nat)) := [[[], [], [], [1017, 1018], [], [], [881], [], []], [[], [], [], [], [], [], [], [], [], []], [[], [915], [], [], [], [], [], [], []], [[], [], [], [], [], [], [], [1147, 1149, 10057], []]]
-- CellTreeModel.crash(I)Z
def xt_c179 : List (List (Nat × xv_I)) := [[(0, .iload_n 1, 0, 0), (1, .iconst 0, 0, 0), (2, .iconst 4, 0, 0), (3, .invokestatic 160, 127, 3), (6, .ifCond .eq 25, 0, 0), (9, .aload_n 0, 0, 0), (10, .getfield 7, 900, 1), (13, .iload_n 1, 0, 0), (14, .ifCond .lt 8, 0, 0)], [(17, .iload_n 1, 0, 0), (18, .iconst 4, 0, 0), (19, .if_icmp .le 7, 0, 0), (22, .iconst 0, 0, 0), (23, .goto 4, 0, 0), (26, .iload_n 1, 0, 0), (27, .baload, 0, 0), (28, .ifCond .eq 5, 0, 0), (31, .iconst 0, 0, 0)], [(32, .ireturn, 0, 2), (33, .aload_n 0, 0, 0), (34, .getfield 7, 900, 1), (37, .iload_n 1, 0, 0), (38, .iconst 1, 0, 0), (39, .bastore, 0, 0), (40, .iload_n 1, 0, 0), (41, .iconst 3, 0, 0), (42, .if_icmp .ge 5, 0, 0), (45, .iconst 1, 0, 0), (46, .ireturn, 0, 2), (47, .iload_n 1, 0, 0)], [(48, .iconst 3, 0, 0), (49, .isub, 0, 0), (50, .istore_n 2, 0, 0), (51, .aload_n 0, 0, 0), (52, .getfield 82, 926, 1), (55, .iload_n 2, 0, 0), (56, .iconst 0, 0, 0), (57, .iastore, 0, 0), (58, .aload_n 0, 0, 0), (59, .getfield 79, 925, 1), (62, .iload_n 2, 0, 0), (63, .iconst 0, 0, 0)], [(64, .iastore, 0, 0), (65, .aload_n 0, 0, 0), (66, .getfield 85, 927, 1), (69, .iload_n 2, 0, 0), (70, .iconst 0, 0, 0), (71, .iastore, 0, 0), (72, .aload_n 0, 0, 0), (73, .getfield 100, 932, 1), (76, .iload_n 2, 0, 0), (77, .iconst 0, 0, 0), (78, .iastore, 0, 0), (79, .aload_n 0, 0, 0)], [(80, .getfield 121, 939, 1), (83, .iload_n 2, 0, 0), (84, .iconst 0, 0, 0), (85, .iastore, 0, 0), (86, .aload_n 0, 0, 0), (87, .getfield 106, 934, 1), (90, .iload_n 2, 0, 0), (91, .iconst 0, 0, 0), (92, .iastore, 0, 0), (93, .iconst 0, 0, 0), (94, .istore_n 3, 0, 0), (95, .iload_n 3, 0, 0)], [(96, .bipush 24, 0, 0), (98, .if_icmp .ge 21, 0, 0), (101, .aload_n 0, 0, 0), (102, .getfield 70, 922, 1), (105, .bipush 24, 0, 0), (107, .iload_n 2, 0, 0), (108, .imul, 0, 0), (109, .iload_n 3, 0, 0), (110, .iadd, 0, 0), (111, .iconst 0, 0, 0)], [(112, .iastore, 0, 0), (113, .iinc 3 1, 0, 0), (116, .goto (-21), 0, 0), (119, .iconst 1, 0, 0), (120, .ireturn, 0, 2)]]
def xt_v179 : List (List (List Nat)) := [[[], [], [], [1017, 1018], [], [], [881], [], []], [[], [], [], [], [], [], [], [], []], [[], [], [881], [], [], [], [], [], [], [], [], []], [[], [], [], [], [907], [], [], [], [], [906], [], []], [[], [], [908], [], [], [], [], [913], [], [], [], []], [[920], [], [], [], [], [915], [], [], [], [], [], []], [[], [], [], [903], [], [], [], [], [], []], [[], [], [], [], []]]
-- CellTreeModel.restart(I)Z
def xt_c180 : List (List (Nat × xv_I)) := [[(0, .iload_n 1, 0, 0), (1, .iconst 0, 0, 0), (2, .iconst 4, 0, 0), (3, .invokestatic 160, 127, 3), (6, .ifCond .eq 25, 0, 0), (9, .aload_n 0, 0, 0), (10, .getfield 7, 900, 1), (13, .iload_n 1, 0, 0), (14, .ifCond .lt 8, 0, 0)], [(17, .iload_n 1, 0, 0), (18, .iconst 4, 0, 0), (19, .if_icmp .le 7, 0, 0), (22, .iconst 0, 0, 0), (23, .goto 4, 0, 0), (26, .iload_n 1, 0, 0), (27, .baload, 0, 0), (28, .ifCond .ne 5, 0, 0), (31, .iconst 0, 0, 0)], [(32, .ireturn, 0, 2), (33, .aload_n 0, 0, 0), (34, .getfield 7, 900, 1), (37, .iload_n 1, 0, 0), (38, .iconst 0, 0, 0), (39, .bastore, 0, 0), (40, .iconst 1, 0, 0), (41, .ireturn, 0, 2)]]
def xt_v180 : List (List (List Nat)) := [[[], [], [], [1017, 1018], [], [], [881], [], []], [[], [], [], [], [], [], [], [], []], [[], [], [881], [], [], [], [], []]]
-- CellTreeModel.work(I)I
def xt_c181 : List (List (Nat × xv_I)) := [[(0, .iload_n 1, 0, 0), (1, .iconst 0, 0, 0), (2, .iconst 1, 0, 0), (3, .invokestatic 160, 127, 3), (6, .ifCond .eq 12, 0, 0), (9, .aload_n 0, 0, 0), (10, .getfield 82, 926, 1), (13, .iload_n 1, 0, 0), (14, .iaload, 0, 0), (15, .goto 4, 0, 0)], [(18, .iconst (-1), 0, 0), (19, .ireturn, 0, 0)]]
def xt_v181 : List (List (List Nat)) := [[[], [], [], [1017, 1018], [], [], [907], [], [], []], [[], []]]
-- CellTreeModel.about(II)I
def xt_c182 : List (List (Nat × xv_I)) := [[(0, .iload_n 1, 0, 0), (1, .iconst 0, 0, 0), (2, .iconst 1, 0, 0), (3, .invokestatic 160, 127, 3), (6, .ifCond .ne 5, 0, 0), (9, .iconst (-1), 0, 0), (10, .ireturn, 0, 0), (11, .iload_n 2, 0, 0), (12, .tableswitch 99 0 4 #[36, 57, 64, 85, 92], 0, 0)], [], [], [(48, .aload_n 0, 0, 0), (49, .getfield 82, 926, 1), (52, .iload_n 1, 0, 0), (53, .iaload, 0, 0), (54, .iconst 3, 0, 0), (55, .if_icmp .ne 12, 0, 0), (58, .aload_n 0, 0, 0), (59, .getfield 100, 932, 1), (62, .iload_n 1, 0, 0), (63, .iaload, 0, 0)], [(64, .goto 4, 0, 0), (67, .iconst 0, 0, 0), (68, .ireturn, 0, 0), (69, .aload_n 0, 0, 0), (70, .getfield 85, 927, 1), (73, .iload_n 1, 0, 0), (74, .iaload, 0, 0), (75, .ireturn, 0, 0), (76, .aload_n 0, 0, 0), (77, .getfield 79, 925, 1)], [(80, .iload_n 1, 0, 0), (81, .iaload, 0, 0), (82, .iconst 4, 0, 0), (83, .if_icmp .ne 12, 0, 0), (86, .aload_n 0, 0, 0), (87, .getfield 121, 939, 1), (90, .iload_n 1, 0, 0), (91, .iaload, 0, 0), (92, .goto 4, 0, 0), (95, .iconst 0, 0, 0)], [(96, .ireturn, 0, 0), (97, .aload_n 0, 0, 0), (98, .getfield 106, 934, 1), (101, .iload_n 1, 0, 0), (102, .iaload, 0, 0), (103, .ireturn, 0, 0), (104, .aload_n 0, 0, 0), (105, .getfield 76, 924, 1), (108, .iload_n 1, 0, 0), (109, .iaload, 0, 0), (110, .ireturn, 0, 0), (111, .iconst (-1), 0, 0)], [(112, .ireturn, 0, 0)]]
def xt_v182 : List (List (List Nat)) := [[[], [], [], [1017, 1018], [], [], [], [], []], [], [], [[], [907], [], [], [], [], [], [913], [], []], [[], [], [], [], [908], [], [], [], [], [906]], [[], [], [], [], [], [920], [], [], [], []], [[], [], [915], [], [], [], [], [905], [], [], [], []], [[]]]
-- CellTreeModel.copy(II)I
def xt_c183 : List (List (Nat × xv_I)) := [[(0, .iload_n 1, 0, 0), (1, .iconst 0, 0, 0), (2, .iconst 1, 0, 0), (3, .invokestatic 160, 127, 3), (6, .ifCond .eq 27, 0, 0), (9, .iload_n 2, 0, 0), (10, .iconst 0, 0, 0), (11, .bipush 23, 0, 0), (13, .invokestatic 160, 127, 3)], [(16, .ifCond .eq 17, 0, 0), (19, .aload_n 0, 0, 0), (20, .getfield 70, 922, 1), (23, .bipush 24, 0, 0), (25, .iload_n 1, 0, 0), (26, .imul, 0, 0), (27, .iload_n 2, 0, 0), (28, .iadd, 0, 0), (29, .iaload, 0, 0), (30, .goto 4, 0, 0)], [(33, .iconst (-1), 0, 0), (34, .ireturn, 0, 0)]]
def xt_v183 : List (List (List Nat)) := [[[], [], [], [1017, 1018], [], [], [], [], [1017, 1018]], [[], [], [903], [], [], [], [], [], [], []], [[], []]]
-- CellTreeModel.cell(II)I
def xt_c184 : List (List (Nat × xv_I)) := [[(0, .iload_n 1, 0, 0), (1, .iconst 0, 0, 0), (2, .bipush 23, 0, 0), (4, .invokestatic 160, 127, 3), (7, .ifCond .ne 5, 0, 0), (10, .iconst (-1), 0, 0), (11, .ireturn, 0, 0), (12, .aload_n 0, 0, 0), (13, .getfield 13, 901, 1)], [(16, .iload_n 1, 0, 0), (17, .laload, 0, 0), (18, .lstore_n 3, 0, 0), (19, .iload_n 2, 0, 0), (20, .tableswitch 73 0 5 #[40, 45, 52, 58, 63, 68], 0, 0)], [], [(60, .lload_n 3, 0, 0), (61, .invokestatic 189, 134, 1)], [(64, .ireturn, 0, 0), (65, .aload_n 0, 0, 0), (66, .getfield 17, 902, 1), (69, .iload_n 1, 0, 0), (70, .iaload, 0, 0), (71, .ireturn, 0, 0), (72, .aload_n 0, 0, 0), (73, .iload_n 1, 0, 0), (74, .invokevirtual 192, 131, 1), (77, .ireturn, 0, 0), (78, .lload_n 3, 0, 0), (79, .invokestatic 148, 146, 1)], [(82, .ireturn, 0, 0), (83, .lload_n 3, 0, 0), (84, .invokestatic 266, 149, 1), (87, .ireturn, 0, 0), (88, .lload_n 3, 0, 0), (89, .invokestatic 269, 154, 1), (92, .ireturn, 0, 0), (93, .iconst (-1), 0, 0), (94, .ireturn, 0, 0)]]
def xt_v184 : List (List (List Nat)) := [[[], [], [], [1017, 1018], [], [], [], [], [882]], [[], [], [], [], []], [], [[], [1045, 1046]], [[], [], [883], [], [], [], [], [], [1033, 1035, 10038], [], [], [1093, 1094]], [[], [], [1104, 1105], [], [], [1122, 1123], [], [], []]]
-- CellTreeModel.key(II)I
def xt_c185 : List (List (Nat × xv_I)) := [[(0, .iload_n 1, 0, 0), (1, .iconst 0, 0, 0), (2, .bipush 23, 0, 0), (4, .invokestatic 160, 127, 3), (7, .ifCond .eq 49, 0, 0), (10, .iload_n 2, 0, 0), (11, .iconst 0, 0, 0), (12, .aload_n 0, 0, 0), (13, .getfield 13, 901, 1)], [(16, .iload_n 1, 0, 0), (17, .ifCond .lt 9, 0, 0), (20, .iload_n 1, 0, 0), (21, .bipush 23, 0, 0), (23, .if_icmp .le 7, 0, 0), (26, .iconst 0, 0, 0), (27, .goto 4, 0, 0), (30, .iload_n 1, 0, 0), (31, .laload, 0, 0)], [(32, .invokestatic 148, 146, 1), (35, .iconst 1, 0, 0), (36, .isub, 0, 0), (37, .invokestatic 160, 127, 3), (40, .ifCond .eq 16, 0, 0), (43, .aload_n 0, 0, 0), (44, .getfield 13, 901, 1), (47, .iload_n 1, 0, 0)], [(48, .laload, 0, 0), (49, .iload_n 2, 0, 0), (50, .invokestatic 152, 148, 2), (53, .goto 4, 0, 0), (56, .iconst (-1), 0, 0), (57, .ireturn, 0, 0)]]
def xt_v185 : List (List (List Nat)) := [[[], [], [], [1017, 1018], [], [], [], [], [882]], [[], [], [], [], [], [], [], [], []], [[1093, 1094], [], [], [1017, 1018], [], [], [882], []], [[], [], [1100, 1101], [], [], []]]
-- CellTreeModel.item(II)I
def xt_c186 : List (List (Nat × xv_I)) := [[(0, .iload_n 1, 0, 0), (1, .iconst 0, 0, 0), (2, .bipush 23, 0, 0), (4, .invokestatic 160, 127, 3), (7, .ifCond .ne 5, 0, 0), (10, .iconst 0, 0, 0), (11, .ireturn, 0, 0), (12, .aload_n 0, 0, 0), (13, .getfield 13, 901, 1)], [(16, .iload_n 1, 0, 0), (17, .laload, 0, 0), (18, .lstore_n 3, 0, 0), (19, .lload_n 3, 0, 0), (20, .invokestatic 189, 134, 1), (23, .iconst 2, 0, 0), (24, .if_icmp .ne 25, 0, 0), (27, .iload_n 2, 0, 0), (28, .iconst 0, 0, 0), (29, .lload_n 3, 0, 0), (30, .invokestatic 148, 146, 1)], [(33, .invokestatic 160, 127, 3), (36, .ifCond .eq 11, 0, 0), (39, .lload_n 3, 0, 0), (40, .iload_n 2, 0, 0), (41, .invokestatic 256, 152, 2), (44, .goto 4, 0, 0), (47, .iconst 0, 0, 0)], [(48, .ireturn, 0, 0), (49, .iload_n 2, 0, 0), (50, .iconst 0, 0, 0), (51, .lload_n 3, 0, 0), (52, .invokestatic 148, 146, 1), (55, .iconst 1, 0, 0), (56, .isub, 0, 0), (57, .invokestatic 160, 127, 3), (60, .ifCond .eq 16, 0, 0), (63, .aload_n 0, 0, 0)], [(64, .getfield 21, 903, 1), (67, .iconst 3, 0, 0), (68, .iload_n 1, 0, 0), (69, .imul, 0, 0), (70, .iload_n 2, 0, 0), (71, .iadd, 0, 0), (72, .iaload, 0, 0), (73, .goto 4, 0, 0), (76, .iconst 0, 0, 0), (77, .ireturn, 0, 0)]]
def xt_v186 : List (List (List Nat)) := [[[], [], [], [1017, 1018], [], [], [], [], [882]], [[], [], [], [], [1045, 1046], [], [], [], [], [], [1093, 1094]], [[1017, 1018], [], [], [], [1115, 1116], [], []], [[], [], [], [], [1093, 1094], [], [], [1017, 1018], [], []], [[884], [], [], [], [], [], [], [], [], []]]
-- CellTreeModel.remembers(II)I
def xt_c187 : List (List (Nat × xv_I)) := [[(0, .iload_n 1, 0, 0), (1, .iconst 0, 0, 0), (2, .iconst 2, 0, 0), (3, .invokestatic 160, 127, 3), (6, .ifCond .eq 28, 0, 0), (9, .iload_n 2, 0, 0), (10, .iconst 1, 0, 0), (11, .aload_n 0, 0, 0), (12, .getfield 186, 904, 0), (15, .invokestatic 160, 127, 3)], [(18, .ifCond .eq 16, 0, 0), (21, .aload_n 0, 0, 0), (22, .getfield 33, 908, 1), (25, .iconst 3, 0, 0), (26, .iload_n 2, 0, 0), (27, .imul, 0, 0), (28, .iload_n 1, 0, 0), (29, .iadd, 0, 0), (30, .baload, 0, 0), (31, .goto 4, 0, 0)], [(34, .iconst (-1), 0, 0), (35, .ireturn, 0, 0)]]
def xt_v187 : List (List (List Nat)) := [[[], [], [], [1017, 1018], [], [], [], [], [885], [1017, 1018]], [[], [], [889], [], [], [], [], [], [], []], [[], []]]
-- CellTreeLaw.law([I)Z
def xt_c188 : List (List (Nat × xv_I)) := [[(0, .new 7, 0, 5), (3, .dup, 0, 0), (4, .invokespecial 9, 0, 0), (7, .astore_n 1, 0, 0), (8, .new 10, 9, 42), (11, .dup, 0, 0), (12, .invokespecial 12, 123, 0), (15, .astore_n 2, 0, 0)], [(16, .iconst 0, 0, 0), (17, .istore_n 3, 0, 0), (18, .iload_n 3, 0, 0), (19, .aload_n 0, 0, 0), (20, .arraylength, 100, 0), (21, .iconst 4, 0, 0), (22, .isub, 0, 0), (23, .if_icmp .gt 654, 0, 0), (26, .aload_n 0, 0, 0), (27, .iload_n 3, 0, 0), (28, .iaload, 0, 0), (29, .bipush 31, 0, 0), (31, .iand, 0, 0)], [(32, .tableswitch 639 0 18 #[92, 125, 168, 201, 244, 257, 280, 303, 326, 349, 372, 395, 418, 441, 474, 507, 540, 573, 606], 0, 0)], [], [], [], [], [(124, .aload_n 1, 0, 0), (125, .aload_n 0, 0, 0), (126, .iload_n 3, 0, 0), (127, .iconst 1, 0, 0)], [(128, .iadd, 0, 0), (129, .iaload, 0, 0), (130, .aload_n 0, 0, 0), (131, .iload_n 3, 0, 0), (132, .iconst 2, 0, 0), (133, .iadd, 0, 0), (134, .iaload, 0, 0), (135, .invokevirtual 13, 9, 2), (138, .aload_n 2, 0, 0), (139, .aload_n 0, 0, 0), (140, .iload_n 3, 0, 0), (141, .iconst 1, 0, 0), (142, .iadd, 0, 0), (143, .iaload, 0, 0)], [(144, .aload_n 0, 0, 0), (145, .iload_n 3, 0, 0), (146, .iconst 2, 0, 0), (147, .iadd, 0, 0), (148, .iaload, 0, 0), (149, .invokevirtual 17, 172, 2), (152, .if_icmp .eq 519, 0, 0), (155, .iconst 0, 0, 0), (156, .ireturn, 0, 2), (157, .aload_n 1, 0, 0), (158, .aload_n 0, 0, 0), (159, .iload_n 3, 0, 0)], [(160, .iconst 1, 0, 0), (161, .iadd, 0, 0), (162, .iaload, 0, 0), (163, .aload_n 0, 0, 0), (164, .iload_n 3, 0, 0), (165, .iconst 2, 0, 0), (166, .iadd, 0, 0), (167, .iaload, 0, 0), (168, .aload_n 0, 0, 0), (169, .iload_n 3, 0, 0), (170, .iconst 3, 0, 0), (171, .iadd, 0, 0), (172, .iaload, 0, 0), (173, .invokevirtual 18, 63, 3)], [(176, .aload_n 2, 0, 0), (177, .aload_n 0, 0, 0), (178, .iload_n 3, 0, 0), (179, .iconst 1, 0, 0), (180, .iadd, 0, 0), (181, .iaload, 0, 0), (182, .aload_n 0, 0, 0), (183, .iload_n 3, 0, 0), (184, .iconst 2, 0, 0), (185, .iadd, 0, 0), (186, .iaload, 0, 0), (187, .aload_n 0, 0, 0), (188, .iload_n 3, 0, 0), (189, .iconst 3, 0, 0), (190, .iadd, 0, 0), (191, .iaload, 0, 0)], [(192, .invokevirtual 22, 175, 3), (195, .if_icmp .eq 476, 0, 0), (198, .iconst 0, 0, 0), (199, .ireturn, 0, 2), (200, .aload_n 1, 0, 0), (201, .aload_n 0, 0, 0), (202, .iload_n 3, 0, 0), (203, .iconst 1, 0, 0), (204, .iadd, 0, 0), (205, .iaload, 0, 0), (206, .aload_n 0, 0, 0), (207, .iload_n 3, 0, 0)], [(208, .iconst 2, 0, 0), (209, .iadd, 0, 0), (210, .iaload, 0, 0), (211, .invokevirtual 23, 64, 2), (214, .aload_n 2, 0, 0), (215, .aload_n 0, 0, 0), (216, .iload_n 3, 0, 0), (217, .iconst 1, 0, 0), (218, .iadd, 0, 0), (219, .iaload, 0, 0), (220, .aload_n 0, 0, 0), (221, .iload_n 3, 0, 0), (222, .iconst 2, 0, 0), (223, .iadd, 0, 0)], [(224, .iaload, 0, 0), (225, .invokevirtual 26, 176, 2), (228, .if_icmp .eq 443, 0, 0), (231, .iconst 0, 0, 0), (232, .ireturn, 0, 2), (233, .aload_n 1, 0, 0), (234, .aload_n 0, 0, 0), (235, .iload_n 3, 0, 0), (236, .iconst 1, 0, 0), (237, .iadd, 0, 0), (238, .iaload, 0, 0), (239, .aload_n 0, 0, 0)], [(240, .iload_n 3, 0, 0), (241, .iconst 2, 0, 0), (242, .iadd, 0, 0), (243, .iaload, 0, 0), (244, .aload_n 0, 0, 0), (245, .iload_n 3, 0, 0), (246, .iconst 3, 0, 0), (247, .iadd, 0, 0), (248, .iaload, 0, 0), (249, .invokevirtual 27, 65, 3), (252, .aload_n 2, 0, 0), (253, .aload_n 0, 0, 0), (254, .iload_n 3, 0, 0), (255, .iconst 1, 0, 0)], [(256, .iadd, 0, 0), (257, .iaload, 0, 0), (258, .aload_n 0, 0, 0), (259, .iload_n 3, 0, 0), (260, .iconst 2, 0, 0), (261, .iadd, 0, 0), (262, .iaload, 0, 0), (263, .aload_n 0, 0, 0), (264, .iload_n 3, 0, 0), (265, .iconst 3, 0, 0), (266, .iadd, 0, 0), (267, .iaload, 0, 0), (268, .invokevirtual 30, 177, 3), (271, .if_icmp .eq 400, 0, 0)], [(274, .iconst 0, 0, 0), (275, .ireturn, 0, 2), (276, .aload_n 1, 0, 0), (277, .invokevirtual 31, 66, 0), (280, .aload_n 2, 0, 0), (281, .invokevirtual 35, 125, 0), (284, .if_icmp .eq 387, 0, 0), (287, .iconst 0, 0, 0)], [(288, .ireturn, 0, 2), (289, .aload_n 1, 0, 0), (290, .aload_n 0, 0, 0), (291, .iload_n 3, 0, 0), (292, .iconst 1, 0, 0), (293, .iadd, 0, 0), (294, .iaload, 0, 0), (295, .invokevirtual 36, 67, 1), (298, .aload_n 2, 0, 0), (299, .aload_n 0, 0, 0), (300, .iload_n 3, 0, 0), (301, .iconst 1, 0, 0), (302, .iadd, 0, 0), (303, .iaload, 0, 0)], [(304, .invokevirtual 40, 126, 1), (307, .if_icmp .eq 364, 0, 0), (310, .iconst 0, 0, 0), (311, .ireturn, 0, 2), (312, .aload_n 1, 0, 0), (313, .aload_n 0, 0, 0), (314, .iload_n 3, 0, 0), (315, .iconst 1, 0, 0), (316, .iadd, 0, 0), (317, .iaload, 0, 0), (318, .invokevirtual 41, 74, 1)], [(321, .aload_n 2, 0, 0), (322, .aload_n 0, 0, 0), (323, .iload_n 3, 0, 0), (324, .iconst 1, 0, 0), (325, .iadd, 0, 0), (326, .iaload, 0, 0), (327, .invokevirtual 45, 129, 1), (330, .if_icmp .eq 341, 0, 0), (333, .iconst 0, 0, 0), (334, .ireturn, 0, 2), (335, .aload_n 1, 0, 0)], [(336, .aload_n 0, 0, 0), (337, .iload_n 3, 0, 0), (338, .iconst 1, 0, 0), (339, .iadd, 0, 0), (340, .iaload, 0, 0), (341, .invokevirtual 46, 98, 1), (344, .aload_n 2, 0, 0), (345, .aload_n 0, 0, 0), (346, .iload_n 3, 0, 0), (347, .iconst 1, 0, 0), (348, .iadd, 0, 0), (349, .iaload, 0, 0), (350, .invokevirtual 49, 128, 1)], [(353, .if_icmp .eq 318, 0, 0), (356, .iconst 0, 0, 0), (357, .ireturn, 0, 2), (358, .aload_n 1, 0, 0), (359, .aload_n 0, 0, 0), (360, .iload_n 3, 0, 0), (361, .iconst 1, 0, 0), (362, .iadd, 0, 0), (363, .iaload, 0, 0), (364, .invokevirtual 50, 99, 1), (367, .aload_n 2, 0, 0)], [(368, .aload_n 0, 0, 0), (369, .iload_n 3, 0, 0), (370, .iconst 1, 0, 0), (371, .iadd, 0, 0), (372, .iaload, 0, 0), (373, .invokevirtual 53, 178, 1), (376, .if_icmp .eq 295, 0, 0), (379, .iconst 0, 0, 0), (380, .ireturn, 0, 2), (381, .aload_n 1, 0, 0), (382, .aload_n 0, 0, 0), (383, .iload_n 3, 0, 0)], [(384, .iconst 1, 0, 0), (385, .iadd, 0, 0), (386, .iaload, 0, 0), (387, .invokevirtual 54, 100, 1), (390, .aload_n 2, 0, 0), (391, .aload_n 0, 0, 0), (392, .iload_n 3, 0, 0), (393, .iconst 1, 0, 0), (394, .iadd, 0, 0), (395, .iaload, 0, 0), (396, .invokevirtual 57, 179, 1), (399, .if_icmp .eq 272, 0, 0)], [(402, .iconst 0, 0, 0), (403, .ireturn, 0, 2), (404, .aload_n 1, 0, 0), (405, .aload_n 0, 0, 0), (406, .iload_n 3, 0, 0), (407, .iconst 1, 0, 0), (408, .iadd, 0, 0), (409, .iaload, 0, 0), (410, .invokevirtual 58, 104, 1), (413, .aload_n 2, 0, 0), (414, .aload_n 0, 0, 0), (415, .iload_n 3, 0, 0)], [(416, .iconst 1, 0, 0), (417, .iadd, 0, 0), (418, .iaload, 0, 0), (419, .invokevirtual 61, 180, 1), (422, .if_icmp .eq 249, 0, 0), (425, .iconst 0, 0, 0), (426, .ireturn, 0, 2), (427, .aload_n 1, 0, 0), (428, .aload_n 0, 0, 0), (429, .iload_n 3, 0, 0), (430, .iconst 1, 0, 0), (431, .iadd, 0, 0)], [(432, .iaload, 0, 0), (433, .invokevirtual 62, 105, 1), (436, .aload_n 2, 0, 0), (437, .aload_n 0, 0, 0), (438, .iload_n 3, 0, 0), (439, .iconst 1, 0, 0), (440, .iadd, 0, 0), (441, .iaload, 0, 0), (442, .invokevirtual 65, 171, 1), (445, .if_icmp .eq 226, 0, 0)], [(448, .iconst 0, 0, 0), (449, .ireturn, 0, 2), (450, .aload_n 1, 0, 0), (451, .aload_n 0, 0, 0), (452, .iload_n 3, 0, 0), (453, .iconst 1, 0, 0), (454, .iadd, 0, 0), (455, .iaload, 0, 0), (456, .invokevirtual 66, 111, 1), (459, .aload_n 2, 0, 0), (460, .aload_n 0, 0, 0), (461, .iload_n 3, 0, 0), (462, .iconst 1, 0, 0), (463, .iadd, 0, 0)], [(464, .iaload, 0, 0), (465, .invokevirtual 69, 181, 1), (468, .if_icmp .eq 203, 0, 0), (471, .iconst 0, 0, 0), (472, .ireturn, 0, 2), (473, .aload_n 1, 0, 0), (474, .aload_n 0, 0, 0), (475, .iload_n 3, 0, 0), (476, .iconst 1, 0, 0), (477, .iadd, 0, 0), (478, .iaload, 0, 0), (479, .aload_n 0, 0, 0)], [(480, .iload_n 3, 0, 0), (481, .iconst 2, 0, 0), (482, .iadd, 0, 0), (483, .iaload, 0, 0), (484, .invokevirtual 70, 112, 2), (487, .aload_n 2, 0, 0), (488, .aload_n 0, 0, 0), (489, .iload_n 3, 0, 0), (490, .iconst 1, 0, 0), (491, .iadd, 0, 0), (492, .iaload, 0, 0), (493, .aload_n 0, 0, 0), (494, .iload_n 3, 0, 0), (495, .iconst 2, 0, 0)], [(496, .iadd, 0, 0), (497, .iaload, 0, 0), (498, .invokevirtual 74, 182, 2), (501, .if_icmp .eq 170, 0, 0), (504, .iconst 0, 0, 0), (505, .ireturn, 0, 2), (506, .aload_n 1, 0, 0), (507, .aload_n 0, 0, 0), (508, .iload_n 3, 0, 0), (509, .iconst 1, 0, 0), (510, .iadd, 0, 0), (511, .iaload, 0, 0)], [(512, .aload_n 0, 0, 0), (513, .iload_n 3, 0, 0), (514, .iconst 2, 0, 0), (515, .iadd, 0, 0), (516, .iaload, 0, 0), (517, .invokevirtual 75, 116, 2), (520, .aload_n 2, 0, 0), (521, .aload_n 0, 0, 0), (522, .iload_n 3, 0, 0), (523, .iconst 1, 0, 0), (524, .iadd, 0, 0), (525, .iaload, 0, 0), (526, .aload_n 0, 0, 0), (527, .iload_n 3, 0, 0)], [(528, .iconst 2, 0, 0), (529, .iadd, 0, 0), (530, .iaload, 0, 0), (531, .invokevirtual 78, 183, 2), (534, .if_icmp .eq 137, 0, 0), (537, .iconst 0, 0, 0), (538, .ireturn, 0, 2), (539, .aload_n 1, 0, 0), (540, .aload_n 0, 0, 0), (541, .iload_n 3, 0, 0), (542, .iconst 1, 0, 0), (543, .iadd, 0, 0)], [(544, .iaload, 0, 0), (545, .aload_n 0, 0, 0), (546, .iload_n 3, 0, 0), (547, .iconst 2, 0, 0), (548, .iadd, 0, 0), (549, .iaload, 0, 0), (550, .invokevirtual 79, 118, 2), (553, .aload_n 2, 0, 0), (554, .aload_n 0, 0, 0), (555, .iload_n 3, 0, 0), (556, .iconst 1, 0, 0), (557, .iadd, 0, 0), (558, .iaload, 0, 0), (559, .aload_n 0, 0, 0)], [(560, .iload_n 3, 0, 0), (561, .iconst 2, 0, 0), (562, .iadd, 0, 0), (563, .iaload, 0, 0), (564, .invokevirtual 82, 184, 2), (567, .if_icmp .eq 104, 0, 0), (570, .iconst 0, 0, 0), (571, .ireturn, 0, 2), (572, .aload_n 1, 0, 0), (573, .aload_n 0, 0, 0), (574, .iload_n 3, 0, 0), (575, .iconst 1, 0, 0)], [(576, .iadd, 0, 0), (577, .iaload, 0, 0), (578, .aload_n 0, 0, 0), (579, .iload_n 3, 0, 0), (580, .iconst 2, 0, 0), (581, .iadd, 0, 0), (582, .iaload, 0, 0), (583, .invokevirtual 83, 120, 2), (586, .aload_n 2, 0, 0), (587, .aload_n 0, 0, 0), (588, .iload_n 3, 0, 0), (589, .iconst 1, 0, 0), (590, .iadd, 0, 0), (591, .iaload, 0, 0)], [(592, .aload_n 0, 0, 0), (593, .iload_n 3, 0, 0), (594, .iconst 2, 0, 0), (595, .iadd, 0, 0), (596, .iaload, 0, 0), (597, .invokevirtual 86, 185, 2), (600, .if_icmp .eq 71, 0, 0), (603, .iconst 0, 0, 0), (604, .ireturn, 0, 2), (605, .aload_n 1, 0, 0), (606, .aload_n 0, 0, 0), (607, .iload_n 3, 0, 0)], [(608, .iconst 1, 0, 0), (609, .iadd, 0, 0), (610, .iaload, 0, 0), (611, .aload_n 0, 0, 0), (612, .iload_n 3, 0, 0), (613, .iconst 2, 0, 0), (614, .iadd, 0, 0), (615, .iaload, 0, 0), (616, .invokevirtual 87, 121, 2), (619, .aload_n 2, 0, 0), (620, .aload_n 0, 0, 0), (621, .iload_n 3, 0, 0), (622, .iconst 1, 0, 0), (623, .iadd, 0, 0)], [(624, .iaload, 0, 0), (625, .aload_n 0, 0, 0), (626, .iload_n 3, 0, 0), (627, .iconst 2, 0, 0), (628, .iadd, 0, 0), (629, .iaload, 0, 0), (630, .invokevirtual 90, 186, 2), (633, .if_icmp .eq 38, 0, 0), (636, .iconst 0, 0, 0), (637, .ireturn, 0, 2), (638, .aload_n 1, 0, 0), (639, .aload_n 0, 0, 0)], [(640, .iload_n 3, 0, 0), (641, .iconst 1, 0, 0), (642, .iadd, 0, 0), (643, .iaload, 0, 0), (644, .aload_n 0, 0, 0), (645, .iload_n 3, 0, 0), (646, .iconst 2, 0, 0), (647, .iadd, 0, 0), (648, .iaload, 0, 0), (649, .invokevirtual 91, 122, 2), (652, .aload_n 2, 0, 0), (653, .aload_n 0, 0, 0), (654, .iload_n 3, 0, 0), (655, .iconst 1, 0, 0)], [(656, .iadd, 0, 0), (657, .iaload, 0, 0), (658, .aload_n 0, 0, 0), (659, .iload_n 3, 0, 0), (660, .iconst 2, 0, 0), (661, .iadd, 0, 0), (662, .iaload, 0, 0), (663, .invokevirtual 94, 187, 2), (666, .if_icmp .eq 5, 0, 0), (669, .iconst 0, 0, 0), (670, .ireturn, 0, 2), (671, .iinc 3 4, 0, 0)], [(674, .goto (-656), 0, 0), (677, .iconst 1, 0, 0), (678, .ireturn, 0, 2)]]
def xt_v188 : List (List (List Nat)) := [[[24, 25, 1], [], [26, 27], [], [870, 871, 12], [], [872, 873], []], [[], [], [], [], [], [], [], [], [], [], [], [], []], [[]], [], [], [], [], [[], [], [], []], [[], [], [], [], [], [], [], [271, 272, 273], [], [], [], [], [], []], [[], [], [], [], [], [1190, 1191, 1192], [], [], [], [], [], []], [[], [], [], [], [], [], [], [], [], [], [], [], [], [623, 624, 625]], [[], [], [], [], [], [], [], [], [], [], [], [], [], [], [], []], [[1202, 1203, 1204], [], [], [], [], [], [], [], [], [], [], []], [[], [], [], [628, 629, 630], [], [], [], [], [], [], [], [], [], []], [[], [1206, 1207, 1208], [], [], [], [], [], [], [], [], [], []], [[], [], [], [], [], [], [], [], [], [633, 634, 635], [], [], [], []], [[], [], [], [], [], [], [], [], [], [], [], [], [1210, 1211, 1212], []], [[], [], [], [638, 639, 640], [], [1009, 1010, 1011], [], []], [[], [], [], [], [], [], [], [642, 643, 644], [], [], [], [], [], []], [[1013, 1014, 1015], [], [], [], [], [], [], [], [], [], [668, 669, 670]], [[], [], [], [], [], [], [1024, 1025, 1026], [], [], [], []], [[], [], [], [], [], [772, 773, 774], [], [], [], [], [], [], [1020, 1021, 1022]], [[], [], [], [], [], [], [], [], [], [776, 777, 778], []], [[], [], [], [], [], [1214, 1215, 1216], [], [], [], [], [], []], [[], [], [], [780, 781, 782], [], [], [], [], [], [], [1218, 1219, 1220], []], [[], [], [], [], [], [], [], [], [795, 796, 797], [], [], []], [[], [], [], [1222, 1223, 1224], [], [], [], [], [], [], [], []], [[], [799, 800, 801], [], [], [], [], [], [], [1186, 1187, 1188], []], [[], [], [], [], [], [], [], [], [822, 823, 824], [], [], [], [], []], [[], [1226, 1227, 1228], [], [], [], [], [], [], [], [], [], []], [[], [], [], [], [826, 827, 828], [], [], [], [], [], [], [], [], []], [[], [], [1230, 1231, 1232], [], [], [], [], [], [], [], [], []], [[], [], [], [], [], [843, 844, 845], [], [], [], [], [], [], [], []], [[], [], [], [1234, 1235, 1236], [], [], [], [], [], [], [], []], [[], [], [], [], [], [], [850, 851, 852], [], [], [], [], [], [], []], [[], [], [], [], [1238, 1239, 1240], [], [], [], [], [], [], []], [[], [], [], [], [], [], [], [858, 859, 860], [], [], [], [], [], []], [[], [], [], [], [], [1242, 1243, 1244], [], [], [], [], [], []], [[], [], [], [], [], [], [], [], [862, 863, 864], [], [], [], [], []], [[], [], [], [], [], [], [1246, 1247, 1248], [], [], [], [], []], [[], [], [], [], [], [], [], [], [], [866, 867, 868], [], [], [], []], [[], [], [], [], [], [], [], [1250, 1251, 1252], [], [], [], []], [[], [], []]]
def xt_cds : List (List (List (List (Nat × xv_I)))) := [[xt_c0, xt_c1, xt_c2, xt_c3, xt_c4, xt_c5, xt_c6, xt_c7, xt_c8, xt_c9, xt_c10, xt_c11, xt_c12, xt_c13, xt_c14, xt_c15], [xt_c16, xt_c17, xt_c18, xt_c19, xt_c20, xt_c21, xt_c22, xt_c23, xt_c24, xt_c25, xt_c26, xt_c27, xt_c28, xt_c29, xt_c30, xt_c31], [xt_c32, xt_c33, xt_c34, xt_c35, xt_c36, xt_c37, xt_c38, xt_c39, xt_c40, xt_c41, xt_c42, xt_c43, xt_c44, xt_c45, xt_c46, xt_c47], [xt_c48, xt_c49, xt_c50, xt_c51, xt_c52, xt_c53, xt_c54, xt_c55, xt_c56, xt_c57, xt_c58, xt_c59, xt_c60, xt_c61, xt_c62, xt_c63], [xt_c64, xt_c65, xt_c66, xt_c67, xt_c68, xt_c69, xt_c70, xt_c71, xt_c72, xt_c73, xt_c74, xt_c75, xt_c76, xt_c77, xt_c78, xt_c79], [xt_c80, xt_c81, xt_c82, xt_c83, xt_c84, xt_c85, xt_c86, xt_c87, xt_c88, xt_c89, xt_c90, xt_c91, xt_c92, xt_c93, xt_c94, xt_c95], [xt_c96, xt_c97, xt_c98, xt_c99, xt_c100, xt_c101, xt_c102, xt_c103, xt_c104, xt_c105, xt_c106, xt_c107, xt_c108, xt_c109, xt_c110, xt_c111], [xt_c112, xt_c113, xt_c114, xt_c115, xt_c116, xt_c117, xt_c118, xt_c119, xt_c120, xt_c121, xt_c122, xt_c123, xt_c124, xt_c125, xt_c126, xt_c127], [xt_c128, xt_c129, xt_c130, xt_c131, xt_c132, xt_c133, xt_c134, xt_c135, xt_c136, xt_c137, xt_c138, xt_c139, xt_c140, xt_c141, xt_c142, xt_c143], [xt_c144, xt_c145, xt_c146, xt_c147, xt_c148, xt_c149, xt_c150, xt_c151, xt_c152, xt_c153, xt_c154, xt_c155, xt_c156, xt_c157, xt_c158, xt_c159], [xt_c160, xt_c161, xt_c162, xt_c163, xt_c164, xt_c165, xt_c166, xt_c167, xt_c168, xt_c169, xt_c170, xt_c171, xt_c172, xt_c173, xt_c174, xt_c175], [xt_c176, xt_c177, xt_c178, xt_c179, xt_c180, xt_c181, xt_c182, xt_c183, xt_c184, xt_c185, xt_c186, xt_c187, xt_c188]]
def xt_cd (y pc : Nat) : Option xv_I := match (xt_2 [] xt_cds y)[pc / 16]? with
  | some l => xt_lk l pc
  | none => none
end
section
/-! A check of the tables that the kernel can run, and what it gives. -/
def xt_WS : List Jvm.Cond := lw_tbl.filter goodWord
def xt_is (p : Nat) (c : Jvm.Cond) : Bool := decide (xt_w p = some c)
theorem xt_mem {p : Nat} {c : Jvm.Cond} (h : xt_w p = some c) (hg : goodWord c = true) : c ∈ xt_WS := by
  refine List.mem_filter.mpr ⟨?_, hg⟩
  unfold xt_w at h
  unfold lw_tbl
  split at h
  · refine List.mem_append_right _ ?_
    split at h
    · rename_i l hl
      have h1 : c ∈ l := List.mem_of_getElem? h
      have h2 : l ∈ xt_tb := List.mem_of_getElem? hl
      unfold xt_tb at h2
      unfold tables_1
      simp only [List.mem_cons, List.not_mem_nil, or_false] at h2
      simp only [List.mem_append]
      rcases h2 with rfl | rfl | rfl | rfl | rfl | rfl
      · exact Or.inl h1
      · exact Or.inr (Or.inl h1)
      · exact Or.inr (Or.inr (Or.inl h1))
      · exact Or.inr (Or.inr (Or.inr (Or.inl h1)))
      · exact Or.inr (Or.inr (Or.inr (Or.inr (Or.inl h1))))
      · exact Or.inr (Or.inr (Or.inr (Or.inr (Or.inr h1))))
    · cases h
  · exact List.mem_append_left _ (List.mem_of_getElem? h)
theorem xt_got {p : Nat} {c : Jvm.Cond} (h : xt_is p c = true) (hg : goodWord c = true) : c ∈ xt_WS := xt_mem (of_decide_eq_true h) hg
def xt_chkF (y : MethodName) (r q i : Nat) (v : List Nat) : Bool := match xt_cl[r / 100]? with
  | none => false
  | some c => decide (r % 100 < c.2.2) && decide (r / 100 < 100) && decide (xt_rk r = decide (q = 1)) && (match v with
    | [p] => xt_is p (.fieldLink y.cls i (c.2.1 (r % 100)).1 (c.2.1 (r % 100)).2.1 (c.2.1 (r % 100)).2.2.1)
    | [p, p2] => xt_is p (.fieldLink y.cls i c.1 (c.2.1 (r % 100)).2.1 (c.2.1 (r % 100)).2.2.1) && xt_is p2 (.sameField c.1 (c.2.1 (r % 100)).1 (c.2.1 (r % 100)).2.1 (c.2.1 (r % 100)).2.2.1)
    | _ => false)
def xt_chkP (y : MethodName) (r q : Nat) : Bool := match xt_cl[r / 100]? with
  | none => false
  | some c => (!(c.2.1 (r % 100)).2.2.2 || ((c.2.1 (r % 100)).2.2.2 && decide (y.name = "<init>") && decide ((c.2.1 (r % 100)).1 = y.cls))) && (match q with
    | 0 => decide (xt_tyf (r / 100) (r % 100) = .int)
    | 1 => xt_isR (xt_tyf (r / 100) (r % 100))
    | 2 => decide (xt_tyf (r / 100) (r % 100) = .boolean)
    | _ => false)
def xt_obj (r : Nat) : Option String := if 104 ≤ r then (match xt_aty[r - 100]? with
  | some (.object C) => some C
  | _ => none) else none
def xt_cast (r : Nat) (C : String) : Bool := match xt_cl[xt_cp r]? with
  | none => false
  | some c => decide (xt_cp r < 100) && (decide (C = c.1) || decide ((c.1, C) ∈ xt_sx.1))
def xt_chkI (y : MethodName) (pc : Nat) (ic : xv_I) (v : List Nat) : Bool := match ic.1 with
  | .ldc i => (match v with
    | [p] => (decide (ic.2.2 = 0) && xt_is p (.constant y.cls i (Int32.ofNat ic.2.1))) || (decide (ic.2.2 = 1) && xt_is p (.classLink y.cls i "[Ljava/lang/Object;"))
    | _ => false)
  | .ldc2_w i => (match v with
    | [p] => xt_is p (.constantLong y.cls i (Int64.ofNat ic.2.1))
    | _ => false)
  | .ifCond _ off => decide (0 ≤ (pc : Int) + off)
  | .if_icmp _ off => decide (0 ≤ (pc : Int) + off)
  | .if_acmp _ off => decide (0 ≤ (pc : Int) + off)
  | .ifnull off => decide (0 ≤ (pc : Int) + off)
  | .ifnonnull off => decide (0 ≤ (pc : Int) + off)
  | .getfield i => xt_chkF y ic.2.1 ic.2.2 i v
  | .putfield i => xt_chkF y ic.2.1 ic.2.2 i v && xt_chkP y ic.2.1 ic.2.2
  | .getstatic i => (match xt_stt[ic.2.1 - 2]? with
    | some q => decide (2 ≤ ic.2.1) && (match v with
      | [p] => xt_is p (.fieldLink y.cls i q.1 q.2.1 q.2.2)
      | _ => false)
    | none => false)
  | .aaload => (xt_obj ic.2.1).isSome
  | .aastore => (match xt_obj ic.2.1 with
    | some C => xt_cast ic.2.1 C
    | none => false)
  | .arraylength => decide (100 ≤ ic.2.1) && (xt_aty[ic.2.1 - 100]?).isSome
  | .new i => (match xt_cl[ic.2.1]? with
    | some q => decide (ic.2.1 < 100) && decide (ic.2.2 = q.2.2) && (match v with
      | [p1, p2, p3] => xt_is p1 (.classLink y.cls i q.1) && xt_is p2 (.instantiable q.1 q.2.2) && xt_is p3 (.initialized q.1)
      | _ => false)
    | none => false)
  | .newarray t => decide (100 ≤ ic.2.1) && decide (xt_aty[ic.2.1 - 100]? = some (newarray.typeOf t)) && ((decide (ic.2.1 - 100 = 3) && decide (newarray.typeOf t = .long)) || (decide (ic.2.1 - 100 < 3) && decide (defaultValue (newarray.typeOf t) = .int 0) && decide (componentBytes (newarray.typeOf t) ≤ 4))) && (match v with
      | [p] => xt_is p (.arrayClass (newarray.typeOf t))
      | _ => false)
  | .anewarray i => (match xt_obj ic.2.1 with
    | some C => decide (C ∈ xt_sx.2.1) && (match v with
      | [p] => xt_is p (.classLink y.cls i C)
      | _ => false)
    | none => false)
  | .checkcast i => (match v with
    | [p] => if ic.2.1 < 100 then (match xt_cl[ic.2.1]? with
        | some q => xt_is p (.classLink y.cls i q.1)
        | none => false) else (match xt_aty[ic.2.1 - 100]? with
        | some ty => xt_is p (.classLink y.cls i ("[" ++ ty.toString))
        | none => false)
    | _ => false)
  | _ => true
theorem xt_obj_spec {r : Nat} {C : String} (h : xt_obj r = some C) : ∃ j, r = 100 + j ∧ 4 ≤ j ∧ xt_aty[j]? = some (.object C) := by
  unfold xt_obj at h
  split at h
  · rename_i hr
    split at h
    · rename_i C' hC
      cases h
      exact ⟨r - 100, by omega, by omega, hC⟩
    · cases h
  · cases h
theorem xt_chkF_spec {y : MethodName} {r q i : Nat} {v : List Nat} (h : xt_chkF y r q i v = true) : ∃ (c : vw_C) (ref : String), r / 100 < 100 ∧ xt_cl[r / 100]? = some c ∧ r % 100 < c.2.2 ∧ Jvm.Cond.fieldLink y.cls i ref (c.2.1 (r % 100)).2.1 (c.2.1 (r % 100)).2.2.1 ∈ xt_WS ∧ xv_same xt_WS ref (c.2.1 (r % 100)).1 (c.2.1 (r % 100)).2.1 (c.2.1 (r % 100)).2.2.1 ∧ xt_rk r = decide (q = 1) := by
  unfold xt_chkF at h
  split at h
  · cases h
  · rename_i c hc
    simp only [Bool.and_eq_true, decide_eq_true_eq] at h
    obtain ⟨⟨⟨h1, h2⟩, h3⟩, h4⟩ := h
    split at h4
    · exact ⟨c, _, h2, hc, h1, xt_got h4 rfl, Or.inl rfl, h3⟩
    · simp only [Bool.and_eq_true] at h4
      exact ⟨c, _, h2, hc, h1, xt_got h4.1 rfl, Or.inr (xt_got h4.2 rfl), h3⟩
    · cases h4
theorem xt_isR_spec {t : FieldType} (h : xt_isR t = true) : (∃ C, t = .object C) ∨ ∃ u, t = .array u := by
  cases t <;> first | exact Or.inl ⟨_, rfl⟩ | exact Or.inr ⟨_, rfl⟩ | cases h
theorem xt_chkI_spec {y : MethodName} {pc : Nat} {ic : xv_I} {v : List Nat} (h : xt_chkI y pc ic v = true) : xv_okI xt_sx xt_cl xt_tyf xt_rk xt_aty xt_cp xt_WS xt_stt y pc ic := by
  obtain ⟨I, r, q⟩ := ic
  cases I
  case ldc i =>
    simp only [xt_chkI] at h
    split at h
    · simp only [Bool.or_eq_true, Bool.and_eq_true, decide_eq_true_eq] at h
      rcases h with ⟨h1, h2⟩ | ⟨h1, h2⟩
      · exact Or.inl ⟨h1, xt_got h2 rfl⟩
      · exact Or.inr ⟨h1, xt_got h2 rfl⟩
    · cases h
  case ldc2_w i =>
    simp only [xt_chkI] at h
    split at h
    · exact xt_got h rfl
    · cases h
  case ifCond => simpa [xt_chkI, xv_okI] using h
  case if_icmp => simpa [xt_chkI, xv_okI] using h
  case if_acmp => simpa [xt_chkI, xv_okI] using h
  case ifnull => simpa [xt_chkI, xv_okI] using h
  case ifnonnull => simpa [xt_chkI, xv_okI] using h
  case getfield i =>
    obtain ⟨c, ref, h1, h2, h3, h4, h5, h6⟩ := xt_chkF_spec h
    exact ⟨r / 100, r % 100, c, ref, by simp only; omega, by omega, h1, h2, h3, h4, h5, h6⟩
  case putfield i =>
    simp only [xt_chkI, Bool.and_eq_true] at h
    obtain ⟨c, ref, h1, h2, h3, h4, h5, h6⟩ := xt_chkF_spec h.1
    have hp := h.2
    unfold xt_chkP at hp
    rw [h2] at hp
    simp only [Bool.and_eq_true, Bool.or_eq_true, Bool.not_eq_true', decide_eq_true_eq] at hp
    obtain ⟨p1, p2⟩ := hp
    refine ⟨r / 100, r % 100, c, ref, by simp only; omega, by omega, h1, h2, h3, h4, h5, h6, ?_, ?_, ?_, ?_⟩
    · rcases p1 with p1 | ⟨⟨p1, p3⟩, p4⟩
      · exact Or.inl p1
      · exact Or.inr ⟨p1, p3, p4⟩
    · intro hq
      simp only at hq
      subst hq
      exact xt_isR_spec p2
    · intro hq
      simp only at hq
      subst hq
      exact of_decide_eq_true p2
    · intro hq
      simp only at hq
      subst hq
      exact of_decide_eq_true p2
  case getstatic i =>
    simp only [xt_chkI] at h
    split at h
    · rename_i q0 hq0
      simp only [Bool.and_eq_true, decide_eq_true_eq] at h
      obtain ⟨h1, h2⟩ := h
      split at h2
      · exact ⟨q0, _, r - 2, by simp only; omega, hq0, xt_got h2 rfl, Or.inl rfl⟩
      · cases h2
    · cases h
  case aaload =>
    simp only [xt_chkI] at h
    obtain ⟨C, hC⟩ := Option.isSome_iff_exists.mp h
    obtain ⟨j, h1, h2, h3⟩ := xt_obj_spec hC
    exact ⟨j, C, h1, h2, h3⟩
  case aastore =>
    simp only [xt_chkI] at h
    split at h
    · rename_i C hC
      obtain ⟨j, h1, h2, h3⟩ := xt_obj_spec hC
      unfold xt_cast at h
      split at h
      · cases h
      · rename_i c hc
        simp only [Bool.and_eq_true, Bool.or_eq_true, decide_eq_true_eq] at h
        exact ⟨j, C, c, h1, h2, h3, hc, h.1, h.2⟩
    · cases h
  case arraylength =>
    simp only [xt_chkI, Bool.and_eq_true, decide_eq_true_eq] at h
    obtain ⟨ty, hty⟩ := Option.isSome_iff_exists.mp h.2
    exact ⟨r - 100, ty, by simp only; omega, hty⟩
  case new i =>
    simp only [xt_chkI] at h
    split at h
    · rename_i c hc
      simp only [Bool.and_eq_true, decide_eq_true_eq] at h
      obtain ⟨⟨h1, h2⟩, h3⟩ := h
      split at h3
      · simp only [Bool.and_eq_true] at h3
        exact ⟨c, hc, h1, h2, xt_got h3.1.1 rfl, xt_got h3.1.2 rfl, xt_got h3.2 rfl⟩
      · cases h3
    · cases h
  case newarray t =>
    simp only [xt_chkI, Bool.and_eq_true, Bool.or_eq_true, decide_eq_true_eq] at h
    obtain ⟨⟨⟨h1, h2⟩, h3⟩, h4⟩ := h
    split at h4
    · refine ⟨r - 100, by simp only; omega, h2, xt_got h4 rfl, ?_⟩
      rcases h3 with h3 | h3
      · exact Or.inl h3
      · exact Or.inr ⟨h3.1.1, h3.1.2, h3.2⟩
    · cases h4
  case anewarray i =>
    simp only [xt_chkI] at h
    split at h
    · rename_i C hC
      obtain ⟨j, h1, h2, h3⟩ := xt_obj_spec hC
      simp only [Bool.and_eq_true, decide_eq_true_eq] at h
      obtain ⟨h4, h5⟩ := h
      split at h5
      · exact ⟨j, C, h1, h2, h3, xt_got h5 rfl, h4⟩
      · cases h5
    · cases h
  case checkcast i =>
    simp only [xt_chkI] at h
    split at h
    · split at h
      · rename_i hr
        split at h
        · rename_i c hc
          exact Or.inl ⟨c, hc, hr, xt_got h rfl⟩
        · cases h
      · rename_i hr
        split at h
        · rename_i ty hty
          exact Or.inr ⟨r - 100, ty, by simp only; omega, hty, xt_got h rfl⟩
        · cases h
    · cases h
  all_goals trivial
end
section
/-! The check of calls and returns; of a method; of all. -/
def xt_npar (d : String) (q : Nat) : Bool := decide ((parseMethodDescriptor d).map (fun d => d.parameters.length) = some q)
def xt_chkJ (M : xv_M) (ic : xv_I) (v : List Nat) : Bool := match ic.1 with
  | .ireturn => (decide (ic.2.2 = 0) && decide (M.2.2.2.1 = some .int)) || (decide (ic.2.2 = 2) && decide (M.2.2.2.1 = some .boolean))
  | .lreturn => decide (M.2.2.2.1 = some .long)
  | .areturn => (match M.2.2.2.1 with
    | some t => xt_isR t
    | none => false)
  | .return_ => decide (M.2.2.2.1 = none)
  | .invokestatic i => if ic.2.1 = 1000 then decide (1 ≤ M.2.2.2.2.1) && decide (26 ≤ M.2.2.2.2.2) && (match v with
        | [p1, p2, p3, p4] => xt_is p1 (.methodLink M.1.cls i arraycopyName) && xt_is p2 (.native arraycopyName) && xt_is p3 (.static arraycopyName) && xt_is p4 (.initialized "java/lang/System")
        | _ => false) && (decide (ic.2.2 < 104) || (match xt_obj ic.2.2 with
        | some C => xt_cast ic.2.2 C
        | none => false))
      else if ic.2.1 = 1004 then decide (1 ≤ M.2.2.2.2.1) && decide (26 ≤ M.2.2.2.2.2) && (match v with
        | [p1, p2, p3, p4] => xt_is p1 (.methodLink M.1.cls i Lib.Math.min.name) && xt_is p2 (.static Lib.Math.min.name) && xt_is p3 (.initialized "java/lang/Math") && xt_is p4 (.code Lib.Math.min.name Lib.Math.min.code 2 (some .int))
        | _ => false)
      else if ic.2.1 = 1005 then decide (1 ≤ M.2.2.2.2.1) && decide (26 ≤ M.2.2.2.2.2) && (match v with
        | [p1, p2, p3, p4] => xt_is p1 (.methodLink M.1.cls i Lib.Math.max.name) && xt_is p2 (.static Lib.Math.max.name) && xt_is p3 (.initialized "java/lang/Math") && xt_is p4 (.code Lib.Math.max.name Lib.Math.max.code 2 (some .int))
        | _ => false)
      else decide (ic.2.1 ≠ xt_yL) && (match xt_mt[ic.2.1]? with
        | some M' => decide (M'.2.2.2.2.1 < M.2.2.2.2.1) && decide (19 + M'.2.2.1 + M'.2.2.2.2.2 ≤ M.2.2.2.2.2) && xt_npar M'.1.desc ic.2.2 && (match v with
          | [p1, p2] => xt_is p1 (.methodLink M.1.cls i M'.1) && xt_is p2 (.static M'.1)
          | _ => false)
        | none => false)
  | .invokespecial i => if ic.2.1 = 1001 then decide (1 ≤ M.2.2.2.2.1) && decide (26 ≤ M.2.2.2.2.2) && (match v with
        | [p1, p2, p3] => xt_is p1 (.methodLink M.1.cls i Lib.objectInit) && xt_is p2 (.instanceMethod Lib.objectInit) && xt_is p3 (.code Lib.objectInit ⟨#[0xb1]⟩ 1 none)
        | _ => false)
      else decide (ic.2.1 ≠ xt_yL) && (match xt_mt[ic.2.1]? with
        | some M' => decide (M'.2.2.2.2.1 < M.2.2.2.2.1) && decide (19 + M'.2.2.1 + M'.2.2.2.2.2 ≤ M.2.2.2.2.2) && decide (M'.2.2.2.1 = none) && decide (M'.1.name = "<init>") && xt_npar M'.1.desc ic.2.2 && (match v with
          | [p1, p2] => (xt_is p1 (.methodLink M.1.cls i M'.1) || decide ((M.1.cls, i, M'.1, "CellTree") ∈ xt_sx.2.2)) && xt_is p2 (.instanceMethod M'.1)
          | _ => false)
        | none => false)
  | .invokevirtual i => if ic.2.1 = 1002 then decide (1 ≤ M.2.2.2.2.1) && decide (26 ≤ M.2.2.2.2.2) && decide (("[I", "java/lang/Cloneable") ∈ xt_sx.1) && (match v with
        | [p1, p2, p3, p4, p5] => xt_is p1 (.methodLink M.1.cls i ⟨"[I", "clone", "()Ljava/lang/Object;"⟩) && xt_is p2 (.sameMethod "[I" "java/lang/Object" "clone" "()Ljava/lang/Object;") && xt_is p3 (.native ⟨"java/lang/Object", "clone", "()Ljava/lang/Object;"⟩) && xt_is p4 (.instanceMethod ⟨"java/lang/Object", "clone", "()Ljava/lang/Object;"⟩) && xt_is p5 (.selects "[I" ⟨"[I", "clone", "()Ljava/lang/Object;"⟩ ⟨"java/lang/Object", "clone", "()Ljava/lang/Object;"⟩)
        | _ => false)
      else if ic.2.1 = 1003 then decide (1 ≤ M.2.2.2.2.1) && decide (26 ≤ M.2.2.2.2.2) && decide (xt_obj ic.2.2 = some "java/lang/Object") && (match v with
        | [p1, p2, p3, p4] => xt_is p1 (.methodLink M.1.cls i ⟨"java/lang/Object", "getClass", "()Ljava/lang/Class;"⟩) && xt_is p2 (.selects "[Ljava/lang/Object;" ⟨"java/lang/Object", "getClass", "()Ljava/lang/Class;"⟩ ⟨"java/lang/Object", "getClass", "()Ljava/lang/Class;"⟩) && xt_is p3 (.instanceMethod ⟨"java/lang/Object", "getClass", "()Ljava/lang/Class;"⟩) && xt_is p4 (.native ⟨"java/lang/Object", "getClass", "()Ljava/lang/Class;"⟩)
        | _ => false)
      else decide (ic.2.1 ≠ xt_yL) && (match xt_mt[ic.2.1]?, xt_cl[xt_cs ic.2.1]? with
        | some M', some c => decide (M'.2.2.2.2.1 < M.2.2.2.2.1) && decide (19 + M'.2.2.1 + M'.2.2.2.2.2 ≤ M.2.2.2.2.2) && decide (xt_cs ic.2.1 < 100) && decide (c.1 = M'.1.cls) && xt_npar M'.1.desc ic.2.2 && (match v with
          | [p1, p2, p3] => xt_is p1 (.methodLink M.1.cls i M'.1) && xt_is p2 (.instanceMethod M'.1) && xt_is p3 (.selects M'.1.cls M'.1 M'.1)
          | _ => false)
        | _, _ => false)
  | _ => true
theorem xt_chkJ_spec {M : xv_M} {ic : xv_I} {v : List Nat} (h : xt_chkJ M ic v = true) : xv_okJ xt_yL xt_sx xt_mt xt_cl xt_aty xt_cp xt_cs xt_WS M ic := by
  obtain ⟨I, r, q⟩ := ic
  cases I
  case ireturn =>
    simp only [xt_chkJ, Bool.or_eq_true, Bool.and_eq_true, decide_eq_true_eq] at h
    refine ⟨fun hq => ?_, fun hq => ?_⟩ <;> simp only at hq <;> rcases h with h | h <;> first | exact h.2 | omega
  case lreturn => exact of_decide_eq_true (p := M.2.2.2.1 = some .long) h
  case areturn =>
    simp only [xt_chkJ] at h
    split at h
    · rename_i t ht
      exact ⟨t, ht, xt_isR_spec h⟩
    · cases h
  case return_ => exact of_decide_eq_true (p := M.2.2.2.1 = none) h
  case invokestatic i =>
    simp only [xt_chkJ] at h
    simp only [xv_okJ]
    split at h
    · rename_i hr
      rw [if_pos hr]
      simp only [Bool.and_eq_true, Bool.or_eq_true, decide_eq_true_eq] at h
      obtain ⟨⟨⟨h1, h2⟩, h3⟩, h4⟩ := h
      split at h3
      · simp only [Bool.and_eq_true] at h3
        refine ⟨h1, h2, xt_got h3.1.1.1 rfl, xt_got h3.1.1.2 rfl, xt_got h3.1.2 rfl, xt_got h3.2 rfl, fun hq => ?_⟩
        rcases h4 with h4 | h4
        · omega
        · split at h4
          · rename_i C hC
            obtain ⟨j, e1, e2, e3⟩ := xt_obj_spec hC
            unfold xt_cast at h4
            split at h4
            · cases h4
            · rename_i c hc
              simp only [Bool.and_eq_true, Bool.or_eq_true, decide_eq_true_eq] at h4
              exact ⟨j, C, c, e1, e3, hc, h4.1, h4.2⟩
          · cases h4
      · cases h3
    · rename_i hr
      rw [if_neg hr]
      split at h
      · rename_i hr2
        rw [if_pos hr2]
        simp only [Bool.and_eq_true, decide_eq_true_eq] at h
        obtain ⟨⟨h1, h2⟩, h3⟩ := h
        split at h3
        · simp only [Bool.and_eq_true] at h3
          exact ⟨h1, h2, xt_got h3.1.1.1 rfl, xt_got h3.1.1.2 rfl, xt_got h3.1.2 rfl, xt_got h3.2 rfl⟩
        · cases h3
      · rename_i hr2
        rw [if_neg hr2]
        split at h
        · rename_i hr3
          rw [if_pos hr3]
          simp only [Bool.and_eq_true, decide_eq_true_eq] at h
          obtain ⟨⟨h1, h2⟩, h3⟩ := h
          split at h3
          · simp only [Bool.and_eq_true] at h3
            exact ⟨h1, h2, xt_got h3.1.1.1 rfl, xt_got h3.1.1.2 rfl, xt_got h3.1.2 rfl, xt_got h3.2 rfl⟩
          · cases h3
        · rename_i hr3
          rw [if_neg hr3]
          simp only [Bool.and_eq_true, decide_eq_true_eq] at h
          obtain ⟨h0, h⟩ := h
          split at h
          · rename_i M' hM
            simp only [Bool.and_eq_true, decide_eq_true_eq] at h
            obtain ⟨⟨⟨h1, h2⟩, h3⟩, h4⟩ := h
            split at h4
            · simp only [Bool.and_eq_true] at h4
              exact ⟨h0, M', hM, h1, h2, xt_got h4.1 rfl, xt_got h4.2 rfl, of_decide_eq_true h3⟩
            · cases h4
          · cases h
  case invokespecial i =>
    simp only [xt_chkJ] at h
    simp only [xv_okJ]
    split at h
    · rename_i hr
      rw [if_pos hr]
      simp only [Bool.and_eq_true, decide_eq_true_eq] at h
      obtain ⟨⟨h1, h2⟩, h3⟩ := h
      split at h3
      · simp only [Bool.and_eq_true] at h3
        exact ⟨h1, h2, xt_got h3.1.1 rfl, xt_got h3.1.2 rfl, xt_got h3.2 rfl⟩
      · cases h3
    · rename_i hr
      rw [if_neg hr]
      simp only [Bool.and_eq_true, decide_eq_true_eq] at h
      obtain ⟨h0, h⟩ := h
      split at h
      · rename_i M' hM
        simp only [Bool.and_eq_true, decide_eq_true_eq] at h
        obtain ⟨⟨⟨⟨⟨h1, h2⟩, h3⟩, h4⟩, h5⟩, h6⟩ := h
        split at h6
        · simp only [Bool.and_eq_true, Bool.or_eq_true, decide_eq_true_eq] at h6
          refine ⟨h0, M', hM, h1, h2, h3, h4, ?_, xt_got h6.2 rfl, of_decide_eq_true h5⟩
          rcases h6.1 with h7 | h7
          · exact Or.inl (xt_got h7 rfl)
          · exact Or.inr ⟨_, h7⟩
        · cases h6
      · cases h
  case invokevirtual i =>
    simp only [xt_chkJ] at h
    simp only [xv_okJ]
    split at h
    · rename_i hr
      rw [if_pos hr]
      simp only [Bool.and_eq_true, decide_eq_true_eq] at h
      obtain ⟨⟨⟨h1, h2⟩, h4⟩, h3⟩ := h
      split at h3
      · simp only [Bool.and_eq_true] at h3
        exact ⟨h1, h2, xt_got h3.1.1.1.1 rfl, xt_got h3.1.1.1.2 rfl, xt_got h3.1.1.2 rfl, xt_got h3.1.2 rfl, xt_got h3.2 rfl, h4⟩
      · cases h3
    · rename_i hr
      rw [if_neg hr]
      split at h
      · rename_i hr2
        rw [if_pos hr2]
        simp only [Bool.and_eq_true, decide_eq_true_eq] at h
        obtain ⟨⟨⟨h1, h2⟩, h4⟩, h3⟩ := h
        obtain ⟨j, e1, e2, e3⟩ := xt_obj_spec h4
        split at h3
        · simp only [Bool.and_eq_true] at h3
          exact ⟨h1, h2, ⟨j, e1, e3⟩, xt_got h3.1.1.1 rfl, xt_got h3.1.1.2 rfl, xt_got h3.1.2 rfl, xt_got h3.2 rfl⟩
        · cases h3
      · rename_i hr2
        rw [if_neg hr2]
        simp only [Bool.and_eq_true, decide_eq_true_eq] at h
        obtain ⟨h0, h⟩ := h
        split at h
        · rename_i M' c hM hc
          simp only [Bool.and_eq_true, decide_eq_true_eq] at h
          obtain ⟨⟨⟨⟨⟨h1, h2⟩, h3⟩, h4⟩, h5⟩, h6⟩ := h
          split at h6
          · simp only [Bool.and_eq_true] at h6
            exact ⟨h0, M', c, hM, h1, h2, hc, h3, h4, xt_got h6.1.1 rfl, xt_got h6.1.2 rfl, xt_got h6.2 rfl, of_decide_eq_true h5⟩
          · cases h6
        · cases h
  all_goals trivial
def xt_dec (cc : ByteArray) (pc : Nat) (i : ClassFile.Instr) : Bool := match decode cc pc with
  | .ok x => decide (x.1 = i) && (decide (xv_il i = 0) || decide (x.2 = xv_il i))
  | .error _ => false
theorem xt_dec_spec {cc : ByteArray} {pc : Nat} {i : ClassFile.Instr} (h : xt_dec cc pc i = true) : xv_dec cc pc i := by
  unfold xt_dec at h
  split at h
  · rename_i x hx
    obtain ⟨a, b⟩ := x
    simp only [Bool.and_eq_true, Bool.or_eq_true, decide_eq_true_eq] at h
    obtain ⟨h1, h2⟩ := h
    subst h1
    exact ⟨b, hx, h2⟩
  · cases h
def xt_chk (M : xv_M) (e : (Nat × xv_I) × List Nat) : Bool := xt_dec M.2.1 e.1.1 e.1.2.1 && xt_chkI M.1 e.1.1 e.1.2 e.2 && xt_chkJ M e.1.2 e.2
/-- the whole code of a method -/
def xt_all (M : xv_M) : List (List (Nat × xv_I)) → List (List (List Nat)) → Bool
  | [], [] => true
  | c :: cs, v :: vs => decide (c.length = v.length) && (c.zip v).all (xt_chk M) && xt_all M cs vs
  | _, _ => false
theorem xt_lk_mem : ∀ {l : List (Nat × xv_I)} {n : Nat} {i : xv_I}, xt_lk l n = some i → (n, i) ∈ l
  | [], n, i, h => by cases h
  | (k, j) :: t, n, i, h => by
    simp only [xt_lk] at h
    split at h
    · rename_i hb
      cases h
      rw [Nat.eq_of_beq_eq_true hb]
      exact List.mem_cons_self
    · exact List.mem_cons_of_mem _ (xt_lk_mem h)
theorem xt_all_spec {M : xv_M} : ∀ {cs : List (List (Nat × xv_I))} {vs : List (List (List Nat))}, xt_all M cs vs = true → ∀ c ∈ cs, ∀ e ∈ c, ∃ v, xt_chk M (e, v) = true
  | [], [], _, c, hc => by cases hc
  | c :: cs, v :: vs, h, d, hd => by
    simp only [xt_all, Bool.and_eq_true, decide_eq_true_eq, List.all_eq_true] at h
    obtain ⟨⟨h1, h2⟩, h3⟩ := h
    intro e he
    rcases List.mem_cons.mp hd with rfl | hd
    · obtain ⟨i, hi⟩ := List.getElem?_of_mem he
      have hl : i < d.length := (List.getElem?_eq_some_iff.mp hi).1
      have hv : ∃ w, v[i]? = some w := ⟨_, List.getElem?_eq_getElem (by omega)⟩
      obtain ⟨w, hw⟩ := hv
      refine ⟨w, h2 (e, w) (List.mem_of_getElem? (i := i) ?_)⟩
      rw [List.getElem?_zip_eq_some]
      exact ⟨hi, hw⟩
    · exact xt_all_spec h3 d hd e he
  | [], _ :: _, h, _, _ => by cases h
  | _ :: _, [], h, _, _ => by cases h
/-- what is asked of method y -/
def xt_P (y : Nat) (M : xv_M) : Prop := (y ≠ xt_yL → plainName M.1.cls = true ∧ (M.1.cls ≠ "java/lang/invoke/MethodHandle" ∧ M.1.cls ≠ "java/lang/invoke/VarHandle") ∧ Jvm.Cond.code M.1 M.2.1 M.2.2.1 M.2.2.2.1 ∈ xt_WS ∧ Jvm.Cond.initialized M.1.cls ∈ xt_WS) ∧ xt_mx y = M.2.2.1 ∧
    ∀ (pc : Nat) (ic : xv_I), xt_cd y pc = some ic → xv_dec M.2.1 pc ic.1 ∧ xv_okI xt_sx xt_cl xt_tyf xt_rk xt_aty xt_cp xt_WS xt_stt M.1 pc ic ∧ xv_okJ xt_yL xt_sx xt_mt xt_cl xt_aty xt_cp xt_cs xt_WS M ic
theorem xt_code {y : Nat} {M : xv_M} {cs : List (List (Nat × xv_I))} {vs : List (List (List Nat))} (hy : xt_2 [] xt_cds y = cs) (h : xt_all M cs vs = true) : ∀ (pc : Nat) (ic : xv_I), xt_cd y pc = some ic → xv_dec M.2.1 pc ic.1 ∧ xv_okI xt_sx xt_cl xt_tyf xt_rk xt_aty xt_cp xt_WS xt_stt M.1 pc ic ∧ xv_okJ xt_yL xt_sx xt_mt xt_cl xt_aty xt_cp xt_cs xt_WS M ic := by
  intro pc ic hc
  unfold xt_cd at hc
  rw [hy] at hc
  split at hc
  · rename_i l hl
    obtain ⟨v, hv⟩ := xt_all_spec h l (List.mem_of_getElem? hl) _ (xt_lk_mem hc)
    simp only [xt_chk, Bool.and_eq_true] at hv
    exact ⟨xt_dec_spec hv.1.1, xt_chkI_spec hv.1.2, xt_chkJ_spec hv.2⟩
  · cases hc
def xt_hd (M : xv_M) (p : Nat) : Bool := plainName M.1.cls && decide (M.1.cls ≠ "java/lang/invoke/MethodHandle" ∧ M.1.cls ≠ "java/lang/invoke/VarHandle") && xt_is p (.initialized M.1.cls)
theorem xt_mk {y : Nat} {M : xv_M} {cs : List (List (Nat × xv_I))} {vs : List (List (List Nat))} {p p2 : Nat} (h1 : xt_hd M p = true) (h2 : xt_w p2 = some (.code M.1 M.2.1 M.2.2.1 M.2.2.2.1)) (h3 : xt_mx y = M.2.2.1) (hy : xt_2 [] xt_cds y = cs) (h : xt_all M cs vs = true) : xt_P y M := by
  simp only [xt_hd, Bool.and_eq_true, decide_eq_true_eq] at h1
  exact ⟨fun _ => ⟨h1.1.1, h1.1.2, xt_mem h2 rfl, xt_got h1.2 rfl⟩, h3, xt_code hy h⟩
def xt_each (P : Nat → xv_M → Prop) : Nat → List xv_M → Prop
  | _, [] => True
  | i, m :: t => P i m ∧ xt_each P (i + 1) t
theorem xt_each_spec {P : Nat → xv_M → Prop} : ∀ {l : List xv_M} {i : Nat}, xt_each P i l → ∀ (y : Nat) (M : xv_M), l[y]? = some M → P (i + y) M
  | [], i, _, y, M, hy => by simp at hy
  | m :: t, i, h, 0, M, hy => by
    simp at hy
    subst hy
    exact h.1
  | m :: t, i, h, y + 1, M, hy => by
    have := xt_each_spec h.2 y M (by simpa using hy)
    rw [show i + (y + 1) = i + 1 + y by omega]
    exact this
end
section
/-! The check of the methods 0 to 31. -/
set_option maxRecDepth 100000 in
theorem xt_p0 : xt_P 0 xt_M0 := xt_mk (cs := xt_c0) (vs := xt_v0) (p := 1) (p2 := 28) (by decide +kernel) rfl rfl rfl (by decide +kernel)
set_option maxRecDepth 100000 in
theorem xt_p1 : xt_P 1 xt_M1 := xt_mk (cs := xt_c1) (vs := xt_v1) (p := 2) (p2 := 36) (by decide +kernel) rfl rfl rfl (by decide +kernel)
set_option maxRecDepth 100000 in
theorem xt_p2 : xt_P 2 xt_M2 := xt_mk (cs := xt_c2) (vs := xt_v2) (p := 3) (p2 := 70) (by decide +kernel) rfl rfl rfl (by decide +kernel)
set_option maxRecDepth 100000 in
theorem xt_p3 : xt_P 3 xt_M3 := xt_mk (cs := xt_c3) (vs := xt_v3) (p := 4) (p2 := 93) (by decide +kernel) rfl rfl rfl (by decide +kernel)
set_option maxRecDepth 100000 in
theorem xt_p4 : xt_P 4 xt_M4 := xt_mk (cs := xt_c4) (vs := xt_v4) (p := 5) (p2 := 123) (by decide +kernel) rfl rfl rfl (by decide +kernel)
set_option maxRecDepth 100000 in
theorem xt_p5 : xt_P 5 xt_M5 := xt_mk (cs := xt_c5) (vs := xt_v5) (p := 6) (p2 := 130) (by decide +kernel) rfl rfl rfl (by decide +kernel)
set_option maxRecDepth 100000 in
theorem xt_p6 : xt_P 6 xt_M6 := xt_mk (cs := xt_c6) (vs := xt_v6) (p := 11) (p2 := 231) (by decide +kernel) rfl rfl rfl (by decide +kernel)
set_option maxRecDepth 100000 in
theorem xt_p7 : xt_P 7 xt_M7 := xt_mk (cs := xt_c7) (vs := xt_v7) (p := 10) (p2 := 234) (by decide +kernel) rfl rfl rfl (by decide +kernel)
set_option maxRecDepth 100000 in
theorem xt_p8 : xt_P 8 xt_M8 := xt_mk (cs := xt_c8) (vs := xt_v8) (p := 9) (p2 := 237) (by decide +kernel) rfl rfl rfl (by decide +kernel)
set_option maxRecDepth 100000 in
theorem xt_p9 : xt_P 9 xt_M9 := xt_mk (cs := xt_c9) (vs := xt_v9) (p := 1) (p2 := 274) (by decide +kernel) rfl rfl rfl (by decide +kernel)
set_option maxRecDepth 100000 in
theorem xt_p10 : xt_P 10 xt_M10 := xt_mk (cs := xt_c10) (vs := xt_v10) (p := 1) (p2 := 280) (by decide +kernel) rfl rfl rfl (by decide +kernel)
set_option maxRecDepth 100000 in
theorem xt_p11 : xt_P 11 xt_M11 := xt_mk (cs := xt_c11) (vs := xt_v11) (p := 1) (p2 := 283) (by decide +kernel) rfl rfl rfl (by decide +kernel)
set_option maxRecDepth 100000 in
theorem xt_p12 : xt_P 12 xt_M12 := xt_mk (cs := xt_c12) (vs := xt_v12) (p := 1) (p2 := 286) (by decide +kernel) rfl rfl rfl (by decide +kernel)
set_option maxRecDepth 100000 in
theorem xt_p13 : xt_P 13 xt_M13 := xt_mk (cs := xt_c13) (vs := xt_v13) (p := 6) (p2 := 290) (by decide +kernel) rfl rfl rfl (by decide +kernel)
set_option maxRecDepth 100000 in
theorem xt_p14 : xt_P 14 xt_M14 := xt_mk (cs := xt_c14) (vs := xt_v14) (p := 5) (p2 := 296) (by decide +kernel) rfl rfl rfl (by decide +kernel)
set_option maxRecDepth 100000 in
theorem xt_p15 : xt_P 15 xt_M15 := xt_mk (cs := xt_c15) (vs := xt_v15) (p := 6) (p2 := 301) (by decide +kernel) rfl rfl rfl (by decide +kernel)
set_option maxRecDepth 100000 in
theorem xt_p16 : xt_P 16 xt_M16 := xt_mk (cs := xt_c16) (vs := xt_v16) (p := 5) (p2 := 305) (by decide +kernel) rfl rfl rfl (by decide +kernel)
set_option maxRecDepth 100000 in
theorem xt_p17 : xt_P 17 xt_M17 := xt_mk (cs := xt_c17) (vs := xt_v17) (p := 5) (p2 := 315) (by decide +kernel) rfl rfl rfl (by decide +kernel)
set_option maxRecDepth 100000 in
theorem xt_p18 : xt_P 18 xt_M18 := xt_mk (cs := xt_c18) (vs := xt_v18) (p := 5) (p2 := 319) (by decide +kernel) rfl rfl rfl (by decide +kernel)
set_option maxRecDepth 100000 in
theorem xt_p19 : xt_P 19 xt_M19 := xt_mk (cs := xt_c19) (vs := xt_v19) (p := 5) (p2 := 323) (by decide +kernel) rfl rfl rfl (by decide +kernel)
set_option maxRecDepth 100000 in
theorem xt_p20 : xt_P 20 xt_M20 := xt_mk (cs := xt_c20) (vs := xt_v20) (p := 6) (p2 := 327) (by decide +kernel) rfl rfl rfl (by decide +kernel)
set_option maxRecDepth 100000 in
theorem xt_p21 : xt_P 21 xt_M21 := xt_mk (cs := xt_c21) (vs := xt_v21) (p := 6) (p2 := 331) (by decide +kernel) rfl rfl rfl (by decide +kernel)
set_option maxRecDepth 100000 in
theorem xt_p22 : xt_P 22 xt_M22 := xt_mk (cs := xt_c22) (vs := xt_v22) (p := 5) (p2 := 335) (by decide +kernel) rfl rfl rfl (by decide +kernel)
set_option maxRecDepth 100000 in
theorem xt_p23 : xt_P 23 xt_M23 := xt_mk (cs := xt_c23) (vs := xt_v23) (p := 5) (p2 := 341) (by decide +kernel) rfl rfl rfl (by decide +kernel)
set_option maxRecDepth 100000 in
theorem xt_p24 : xt_P 24 xt_M24 := xt_mk (cs := xt_c24) (vs := xt_v24) (p := 14) (p2 := 346) (by decide +kernel) rfl rfl rfl (by decide +kernel)
set_option maxRecDepth 100000 in
theorem xt_p25 : xt_P 25 xt_M25 := xt_mk (cs := xt_c25) (vs := xt_v25) (p := 14) (p2 := 382) (by decide +kernel) rfl rfl rfl (by decide +kernel)
set_option maxRecDepth 100000 in
theorem xt_p26 : xt_P 26 xt_M26 := xt_mk (cs := xt_c26) (vs := xt_v26) (p := 16) (p2 := 386) (by decide +kernel) rfl rfl rfl (by decide +kernel)
set_option maxRecDepth 100000 in
theorem xt_p27 : xt_P 27 xt_M27 := xt_mk (cs := xt_c27) (vs := xt_v27) (p := 5) (p2 := 407) (by decide +kernel) rfl rfl rfl (by decide +kernel)
set_option maxRecDepth 100000 in
theorem xt_p28 : xt_P 28 xt_M28 := xt_mk (cs := xt_c28) (vs := xt_v28) (p := 2) (p2 := 411) (by decide +kernel) rfl rfl rfl (by decide +kernel)
set_option maxRecDepth 100000 in
theorem xt_p29 : xt_P 29 xt_M29 := xt_mk (cs := xt_c29) (vs := xt_v29) (p := 2) (p2 := 417) (by decide +kernel) rfl rfl rfl (by decide +kernel)
set_option maxRecDepth 100000 in
theorem xt_p30 : xt_P 30 xt_M30 := xt_mk (cs := xt_c30) (vs := xt_v30) (p := 2) (p2 := 423) (by decide +kernel) rfl rfl rfl (by decide +kernel)
set_option maxRecDepth 100000 in
theorem xt_p31 : xt_P 31 xt_M31 := xt_mk (cs := xt_c31) (vs := xt_v31) (p := 2) (p2 := 437) (by decide +kernel) rfl rfl rfl (by decide +kernel)
end
section
/-! The check of the methods 32 to 63. -/
set_option maxRecDepth 100000 in
theorem xt_p32 : xt_P 32 xt_M32 := xt_mk (cs := xt_c32) (vs := xt_v32) (p := 2) (p2 := 440) (by decide +kernel) rfl rfl rfl (by decide +kernel)
set_option maxRecDepth 100000 in
theorem xt_p33 : xt_P 33 xt_M33 := xt_mk (cs := xt_c33) (vs := xt_v33) (p := 5) (p2 := 447) (by decide +kernel) rfl rfl rfl (by decide +kernel)
set_option maxRecDepth 100000 in
theorem xt_p34 : xt_P 34 xt_M34 := xt_mk (cs := xt_c34) (vs := xt_v34) (p := 2) (p2 := 455) (by decide +kernel) rfl rfl rfl (by decide +kernel)
set_option maxRecDepth 100000 in
theorem xt_p35 : xt_P 35 xt_M35 := xt_mk (cs := xt_c35) (vs := xt_v35) (p := 2) (p2 := 458) (by decide +kernel) rfl rfl rfl (by decide +kernel)
set_option maxRecDepth 100000 in
theorem xt_p36 : xt_P 36 xt_M36 := xt_mk (cs := xt_c36) (vs := xt_v36) (p := 5) (p2 := 462) (by decide +kernel) rfl rfl rfl (by decide +kernel)
set_option maxRecDepth 100000 in
theorem xt_p37 : xt_P 37 xt_M37 := xt_mk (cs := xt_c37) (vs := xt_v37) (p := 2) (p2 := 470) (by decide +kernel) rfl rfl rfl (by decide +kernel)
set_option maxRecDepth 100000 in
theorem xt_p38 : xt_P 38 xt_M38 := xt_mk (cs := xt_c38) (vs := xt_v38) (p := 5) (p2 := 474) (by decide +kernel) rfl rfl rfl (by decide +kernel)
set_option maxRecDepth 100000 in
theorem xt_p39 : xt_P 39 xt_M39 := xt_mk (cs := xt_c39) (vs := xt_v39) (p := 5) (p2 := 478) (by decide +kernel) rfl rfl rfl (by decide +kernel)
set_option maxRecDepth 100000 in
theorem xt_p40 : xt_P 40 xt_M40 := xt_mk (cs := xt_c40) (vs := xt_v40) (p := 5) (p2 := 482) (by decide +kernel) rfl rfl rfl (by decide +kernel)
set_option maxRecDepth 100000 in
theorem xt_p41 : xt_P 41 xt_M41 := xt_mk (cs := xt_c41) (vs := xt_v41) (p := 2) (p2 := 486) (by decide +kernel) rfl rfl rfl (by decide +kernel)
set_option maxRecDepth 100000 in
theorem xt_p42 : xt_P 42 xt_M42 := xt_mk (cs := xt_c42) (vs := xt_v42) (p := 2) (p2 := 494) (by decide +kernel) rfl rfl rfl (by decide +kernel)
set_option maxRecDepth 100000 in
theorem xt_p43 : xt_P 43 xt_M43 := xt_mk (cs := xt_c43) (vs := xt_v43) (p := 18) (p2 := 497) (by decide +kernel) rfl rfl rfl (by decide +kernel)
set_option maxRecDepth 100000 in
theorem xt_p44 : xt_P 44 xt_M44 := xt_mk (cs := xt_c44) (vs := xt_v44) (p := 18) (p2 := 500) (by decide +kernel) rfl rfl rfl (by decide +kernel)
set_option maxRecDepth 100000 in
theorem xt_p45 : xt_P 45 xt_M45 := xt_mk (cs := xt_c45) (vs := xt_v45) (p := 18) (p2 := 503) (by decide +kernel) rfl rfl rfl (by decide +kernel)
set_option maxRecDepth 100000 in
theorem xt_p46 : xt_P 46 xt_M46 := xt_mk (cs := xt_c46) (vs := xt_v46) (p := 2) (p2 := 514) (by decide +kernel) rfl rfl rfl (by decide +kernel)
set_option maxRecDepth 100000 in
theorem xt_p47 : xt_P 47 xt_M47 := xt_mk (cs := xt_c47) (vs := xt_v47) (p := 2) (p2 := 518) (by decide +kernel) rfl rfl rfl (by decide +kernel)
set_option maxRecDepth 100000 in
theorem xt_p48 : xt_P 48 xt_M48 := xt_mk (cs := xt_c48) (vs := xt_v48) (p := 5) (p2 := 524) (by decide +kernel) rfl rfl rfl (by decide +kernel)
set_option maxRecDepth 100000 in
theorem xt_p49 : xt_P 49 xt_M49 := xt_mk (cs := xt_c49) (vs := xt_v49) (p := 2) (p2 := 528) (by decide +kernel) rfl rfl rfl (by decide +kernel)
set_option maxRecDepth 100000 in
theorem xt_p50 : xt_P 50 xt_M50 := xt_mk (cs := xt_c50) (vs := xt_v50) (p := 1) (p2 := 532) (by decide +kernel) rfl rfl rfl (by decide +kernel)
set_option maxRecDepth 100000 in
theorem xt_p51 : xt_P 51 xt_M51 := xt_mk (cs := xt_c51) (vs := xt_v51) (p := 1) (p2 := 536) (by decide +kernel) rfl rfl rfl (by decide +kernel)
set_option maxRecDepth 100000 in
theorem xt_p52 : xt_P 52 xt_M52 := xt_mk (cs := xt_c52) (vs := xt_v52) (p := 1) (p2 := 540) (by decide +kernel) rfl rfl rfl (by decide +kernel)
set_option maxRecDepth 100000 in
theorem xt_p53 : xt_P 53 xt_M53 := xt_mk (cs := xt_c53) (vs := xt_v53) (p := 11) (p2 := 544) (by decide +kernel) rfl rfl rfl (by decide +kernel)
set_option maxRecDepth 100000 in
theorem xt_p54 : xt_P 54 xt_M54 := xt_mk (cs := xt_c54) (vs := xt_v54) (p := 20) (p2 := 549) (by decide +kernel) rfl rfl rfl (by decide +kernel)
set_option maxRecDepth 100000 in
theorem xt_p55 : xt_P 55 xt_M55 := xt_mk (cs := xt_c55) (vs := xt_v55) (p := 11) (p2 := 571) (by decide +kernel) rfl rfl rfl (by decide +kernel)
set_option maxRecDepth 100000 in
theorem xt_p56 : xt_P 56 xt_M56 := xt_mk (cs := xt_c56) (vs := xt_v56) (p := 11) (p2 := 575) (by decide +kernel) rfl rfl rfl (by decide +kernel)
set_option maxRecDepth 100000 in
theorem xt_p57 : xt_P 57 xt_M57 := xt_mk (cs := xt_c57) (vs := xt_v57) (p := 11) (p2 := 579) (by decide +kernel) rfl rfl rfl (by decide +kernel)
set_option maxRecDepth 100000 in
theorem xt_p58 : xt_P 58 xt_M58 := xt_mk (cs := xt_c58) (vs := xt_v58) (p := 11) (p2 := 583) (by decide +kernel) rfl rfl rfl (by decide +kernel)
set_option maxRecDepth 100000 in
theorem xt_p59 : xt_P 59 xt_M59 := xt_mk (cs := xt_c59) (vs := xt_v59) (p := 21) (p2 := 586) (by decide +kernel) rfl rfl rfl (by decide +kernel)
set_option maxRecDepth 100000 in
theorem xt_p60 : xt_P 60 xt_M60 := xt_mk (cs := xt_c60) (vs := xt_v60) (p := 21) (p2 := 593) (by decide +kernel) rfl rfl rfl (by decide +kernel)
set_option maxRecDepth 100000 in
theorem xt_p61 : xt_P 61 xt_M61 := xt_mk (cs := xt_c61) (vs := xt_v61) (p := 18) (p2 := 596) (by decide +kernel) rfl rfl rfl (by decide +kernel)
set_option maxRecDepth 100000 in
theorem xt_p62 : xt_P 62 xt_M62 := xt_mk (cs := xt_c62) (vs := xt_v62) (p := 18) (p2 := 617) (by decide +kernel) rfl rfl rfl (by decide +kernel)
set_option maxRecDepth 100000 in
theorem xt_p63 : xt_P 63 xt_M63 := xt_mk (cs := xt_c63) (vs := xt_v63) (p := 1) (p2 := 626) (by decide +kernel) rfl rfl rfl (by decide +kernel)
end
section
/-! The check of the methods 64 to 95. -/
set_option maxRecDepth 100000 in
theorem xt_p64 : xt_P 64 xt_M64 := xt_mk (cs := xt_c64) (vs := xt_v64) (p := 1) (p2 := 631) (by decide +kernel) rfl rfl rfl (by decide +kernel)
set_option maxRecDepth 100000 in
theorem xt_p65 : xt_P 65 xt_M65 := xt_mk (cs := xt_c65) (vs := xt_v65) (p := 1) (p2 := 636) (by decide +kernel) rfl rfl rfl (by decide +kernel)
set_option maxRecDepth 100000 in
theorem xt_p66 : xt_P 66 xt_M66 := xt_mk (cs := xt_c66) (vs := xt_v66) (p := 1) (p2 := 641) (by decide +kernel) rfl rfl rfl (by decide +kernel)
set_option maxRecDepth 100000 in
theorem xt_p67 : xt_P 67 xt_M67 := xt_mk (cs := xt_c67) (vs := xt_v67) (p := 1) (p2 := 645) (by decide +kernel) rfl rfl rfl (by decide +kernel)
set_option maxRecDepth 100000 in
theorem xt_p68 : xt_P 68 xt_M68 := xt_mk (cs := xt_c68) (vs := xt_v68) (p := 1) (p2 := 649) (by decide +kernel) rfl rfl rfl (by decide +kernel)
set_option maxRecDepth 100000 in
theorem xt_p69 : xt_P 69 xt_M69 := xt_mk (cs := xt_c69) (vs := xt_v69) (p := 11) (p2 := 653) (by decide +kernel) rfl rfl rfl (by decide +kernel)
set_option maxRecDepth 100000 in
theorem xt_p70 : xt_P 70 xt_M70 := xt_mk (cs := xt_c70) (vs := xt_v70) (p := 22) (p2 := 656) (by decide +kernel) rfl rfl rfl (by decide +kernel)
set_option maxRecDepth 100000 in
theorem xt_p71 : xt_P 71 xt_M71 := xt_mk (cs := xt_c71) (vs := xt_v71) (p := 23) (p2 := 659) (by decide +kernel) rfl rfl rfl (by decide +kernel)
set_option maxRecDepth 100000 in
theorem xt_p72 : xt_P 72 xt_M72 := xt_mk (cs := xt_c72) (vs := xt_v72) (p := 11) (p2 := 663) (by decide +kernel) rfl rfl rfl (by decide +kernel)
set_option maxRecDepth 100000 in
theorem xt_p73 : xt_P 73 xt_M73 := xt_mk (cs := xt_c73) (vs := xt_v73) (p := 20) (p2 := 667) (by decide +kernel) rfl rfl rfl (by decide +kernel)
set_option maxRecDepth 100000 in
theorem xt_p74 : xt_P 74 xt_M74 := xt_mk (cs := xt_c74) (vs := xt_v74) (p := 1) (p2 := 671) (by decide +kernel) rfl rfl rfl (by decide +kernel)
set_option maxRecDepth 100000 in
theorem xt_p75 : xt_P 75 xt_M75 := xt_mk (cs := xt_c75) (vs := xt_v75) (p := 11) (p2 := 675) (by decide +kernel) rfl rfl rfl (by decide +kernel)
set_option maxRecDepth 100000 in
theorem xt_p76 : xt_P 76 xt_M76 := xt_mk (cs := xt_c76) (vs := xt_v76) (p := 11) (p2 := 679) (by decide +kernel) rfl rfl rfl (by decide +kernel)
set_option maxRecDepth 100000 in
theorem xt_p77 : xt_P 77 xt_M77 := xt_mk (cs := xt_c77) (vs := xt_v77) (p := 1) (p2 := 684) (by decide +kernel) rfl rfl rfl (by decide +kernel)
set_option maxRecDepth 100000 in
theorem xt_p78 : xt_P 78 xt_M78 := xt_mk (cs := xt_c78) (vs := xt_v78) (p := 1) (p2 := 688) (by decide +kernel) rfl rfl rfl (by decide +kernel)
set_option maxRecDepth 100000 in
theorem xt_p79 : xt_P 79 xt_M79 := xt_mk (cs := xt_c79) (vs := xt_v79) (p := 14) (p2 := 692) (by decide +kernel) rfl rfl rfl (by decide +kernel)
set_option maxRecDepth 100000 in
theorem xt_p80 : xt_P 80 xt_M80 := xt_mk (cs := xt_c80) (vs := xt_v80) (p := 5) (p2 := 696) (by decide +kernel) rfl rfl rfl (by decide +kernel)
set_option maxRecDepth 100000 in
theorem xt_p81 : xt_P 81 xt_M81 := xt_mk (cs := xt_c81) (vs := xt_v81) (p := 5) (p2 := 700) (by decide +kernel) rfl rfl rfl (by decide +kernel)
set_option maxRecDepth 100000 in
theorem xt_p82 : xt_P 82 xt_M82 := xt_mk (cs := xt_c82) (vs := xt_v82) (p := 14) (p2 := 704) (by decide +kernel) rfl rfl rfl (by decide +kernel)
set_option maxRecDepth 100000 in
theorem xt_p83 : xt_P 83 xt_M83 := xt_mk (cs := xt_c83) (vs := xt_v83) (p := 5) (p2 := 708) (by decide +kernel) rfl rfl rfl (by decide +kernel)
set_option maxRecDepth 100000 in
theorem xt_p84 : xt_P 84 xt_M84 := xt_mk (cs := xt_c84) (vs := xt_v84) (p := 5) (p2 := 712) (by decide +kernel) rfl rfl rfl (by decide +kernel)
set_option maxRecDepth 100000 in
theorem xt_p85 : xt_P 85 xt_M85 := xt_mk (cs := xt_c85) (vs := xt_v85) (p := 2) (p2 := 716) (by decide +kernel) rfl rfl rfl (by decide +kernel)
set_option maxRecDepth 100000 in
theorem xt_p86 : xt_P 86 xt_M86 := xt_mk (cs := xt_c86) (vs := xt_v86) (p := 1) (p2 := 721) (by decide +kernel) rfl rfl rfl (by decide +kernel)
set_option maxRecDepth 100000 in
theorem xt_p87 : xt_P 87 xt_M87 := xt_mk (cs := xt_c87) (vs := xt_v87) (p := 4) (p2 := 725) (by decide +kernel) rfl rfl rfl (by decide +kernel)
set_option maxRecDepth 100000 in
theorem xt_p88 : xt_P 88 xt_M88 := xt_mk (cs := xt_c88) (vs := xt_v88) (p := 4) (p2 := 729) (by decide +kernel) rfl rfl rfl (by decide +kernel)
set_option maxRecDepth 100000 in
theorem xt_p89 : xt_P 89 xt_M89 := xt_mk (cs := xt_c89) (vs := xt_v89) (p := 4) (p2 := 733) (by decide +kernel) rfl rfl rfl (by decide +kernel)
set_option maxRecDepth 100000 in
theorem xt_p90 : xt_P 90 xt_M90 := xt_mk (cs := xt_c90) (vs := xt_v90) (p := 16) (p2 := 737) (by decide +kernel) rfl rfl rfl (by decide +kernel)
set_option maxRecDepth 100000 in
theorem xt_p91 : xt_P 91 xt_M91 := xt_mk (cs := xt_c91) (vs := xt_v91) (p := 4) (p2 := 744) (by decide +kernel) rfl rfl rfl (by decide +kernel)
set_option maxRecDepth 100000 in
theorem xt_p92 : xt_P 92 xt_M92 := xt_mk (cs := xt_c92) (vs := xt_v92) (p := 4) (p2 := 748) (by decide +kernel) rfl rfl rfl (by decide +kernel)
set_option maxRecDepth 100000 in
theorem xt_p93 : xt_P 93 xt_M93 := xt_mk (cs := xt_c93) (vs := xt_v93) (p := 4) (p2 := 752) (by decide +kernel) rfl rfl rfl (by decide +kernel)
set_option maxRecDepth 100000 in
theorem xt_p94 : xt_P 94 xt_M94 := xt_mk (cs := xt_c94) (vs := xt_v94) (p := 14) (p2 := 756) (by decide +kernel) rfl rfl rfl (by decide +kernel)
set_option maxRecDepth 100000 in
theorem xt_p95 : xt_P 95 xt_M95 := xt_mk (cs := xt_c95) (vs := xt_v95) (p := 4) (p2 := 761) (by decide +kernel) rfl rfl rfl (by decide +kernel)
end
section
/-! The check of the methods 96 to 127. -/
set_option maxRecDepth 100000 in
theorem xt_p96 : xt_P 96 xt_M96 := xt_mk (cs := xt_c96) (vs := xt_v96) (p := 16) (p2 := 765) (by decide +kernel) rfl rfl rfl (by decide +kernel)
set_option maxRecDepth 100000 in
theorem xt_p97 : xt_P 97 xt_M97 := xt_mk (cs := xt_c97) (vs := xt_v97) (p := 4) (p2 := 771) (by decide +kernel) rfl rfl rfl (by decide +kernel)
set_option maxRecDepth 100000 in
theorem xt_p98 : xt_P 98 xt_M98 := xt_mk (cs := xt_c98) (vs := xt_v98) (p := 1) (p2 := 775) (by decide +kernel) rfl rfl rfl (by decide +kernel)
set_option maxRecDepth 100000 in
theorem xt_p99 : xt_P 99 xt_M99 := xt_mk (cs := xt_c99) (vs := xt_v99) (p := 1) (p2 := 779) (by decide +kernel) rfl rfl rfl (by decide +kernel)
set_option maxRecDepth 100000 in
theorem xt_p100 : xt_P 100 xt_M100 := xt_mk (cs := xt_c100) (vs := xt_v100) (p := 1) (p2 := 783) (by decide +kernel) rfl rfl rfl (by decide +kernel)
set_option maxRecDepth 100000 in
theorem xt_p101 : xt_P 101 xt_M101 := xt_mk (cs := xt_c101) (vs := xt_v101) (p := 1) (p2 := 786) (by decide +kernel) rfl rfl rfl (by decide +kernel)
set_option maxRecDepth 100000 in
theorem xt_p102 : xt_P 102 xt_M102 := xt_mk (cs := xt_c102) (vs := xt_v102) (p := 1) (p2 := 790) (by decide +kernel) rfl rfl rfl (by decide +kernel)
set_option maxRecDepth 100000 in
theorem xt_p103 : xt_P 103 xt_M103 := xt_mk (cs := xt_c103) (vs := xt_v103) (p := 5) (p2 := 794) (by decide +kernel) rfl rfl rfl (by decide +kernel)
set_option maxRecDepth 100000 in
theorem xt_p104 : xt_P 104 xt_M104 := xt_mk (cs := xt_c104) (vs := xt_v104) (p := 1) (p2 := 798) (by decide +kernel) rfl rfl rfl (by decide +kernel)
set_option maxRecDepth 100000 in
theorem xt_p105 : xt_P 105 xt_M105 := xt_mk (cs := xt_c105) (vs := xt_v105) (p := 1) (p2 := 802) (by decide +kernel) rfl rfl rfl (by decide +kernel)
set_option maxRecDepth 100000 in
theorem xt_p106 : xt_P 106 xt_M106 := xt_mk (cs := xt_c106) (vs := xt_v106) (p := 1) (p2 := 805) (by decide +kernel) rfl rfl rfl (by decide +kernel)
set_option maxRecDepth 100000 in
theorem xt_p107 : xt_P 107 xt_M107 := xt_mk (cs := xt_c107) (vs := xt_v107) (p := 4) (p2 := 809) (by decide +kernel) rfl rfl rfl (by decide +kernel)
set_option maxRecDepth 100000 in
theorem xt_p108 : xt_P 108 xt_M108 := xt_mk (cs := xt_c108) (vs := xt_v108) (p := 1) (p2 := 813) (by decide +kernel) rfl rfl rfl (by decide +kernel)
set_option maxRecDepth 100000 in
theorem xt_p109 : xt_P 109 xt_M109 := xt_mk (cs := xt_c109) (vs := xt_v109) (p := 1) (p2 := 817) (by decide +kernel) rfl rfl rfl (by decide +kernel)
set_option maxRecDepth 100000 in
theorem xt_p110 : xt_P 110 xt_M110 := xt_mk (cs := xt_c110) (vs := xt_v110) (p := 1) (p2 := 821) (by decide +kernel) rfl rfl rfl (by decide +kernel)
set_option maxRecDepth 100000 in
theorem xt_p111 : xt_P 111 xt_M111 := xt_mk (cs := xt_c111) (vs := xt_v111) (p := 1) (p2 := 825) (by decide +kernel) rfl rfl rfl (by decide +kernel)
set_option maxRecDepth 100000 in
theorem xt_p112 : xt_P 112 xt_M112 := xt_mk (cs := xt_c112) (vs := xt_v112) (p := 1) (p2 := 829) (by decide +kernel) rfl rfl rfl (by decide +kernel)
set_option maxRecDepth 100000 in
theorem xt_p113 : xt_P 113 xt_M113 := xt_mk (cs := xt_c113) (vs := xt_v113) (p := 6) (p2 := 833) (by decide +kernel) rfl rfl rfl (by decide +kernel)
set_option maxRecDepth 100000 in
theorem xt_p114 : xt_P 114 xt_M114 := xt_mk (cs := xt_c114) (vs := xt_v114) (p := 6) (p2 := 837) (by decide +kernel) rfl rfl rfl (by decide +kernel)
set_option maxRecDepth 100000 in
theorem xt_p115 : xt_P 115 xt_M115 := xt_mk (cs := xt_c115) (vs := xt_v115) (p := 6) (p2 := 841) (by decide +kernel) rfl rfl rfl (by decide +kernel)
set_option maxRecDepth 100000 in
theorem xt_p116 : xt_P 116 xt_M116 := xt_mk (cs := xt_c116) (vs := xt_v116) (p := 1) (p2 := 846) (by decide +kernel) rfl rfl rfl (by decide +kernel)
set_option maxRecDepth 100000 in
theorem xt_p117 : xt_P 117 xt_M117 := xt_mk (cs := xt_c117) (vs := xt_v117) (p := 1) (p2 := 849) (by decide +kernel) rfl rfl rfl (by decide +kernel)
set_option maxRecDepth 100000 in
theorem xt_p118 : xt_P 118 xt_M118 := xt_mk (cs := xt_c118) (vs := xt_v118) (p := 1) (p2 := 853) (by decide +kernel) rfl rfl rfl (by decide +kernel)
set_option maxRecDepth 100000 in
theorem xt_p119 : xt_P 119 xt_M119 := xt_mk (cs := xt_c119) (vs := xt_v119) (p := 1) (p2 := 857) (by decide +kernel) rfl rfl rfl (by decide +kernel)
set_option maxRecDepth 100000 in
theorem xt_p120 : xt_P 120 xt_M120 := xt_mk (cs := xt_c120) (vs := xt_v120) (p := 1) (p2 := 861) (by decide +kernel) rfl rfl rfl (by decide +kernel)
set_option maxRecDepth 100000 in
theorem xt_p121 : xt_P 121 xt_M121 := xt_mk (cs := xt_c121) (vs := xt_v121) (p := 1) (p2 := 865) (by decide +kernel) rfl rfl rfl (by decide +kernel)
set_option maxRecDepth 100000 in
theorem xt_p122 : xt_P 122 xt_M122 := xt_mk (cs := xt_c122) (vs := xt_v122) (p := 1) (p2 := 869) (by decide +kernel) rfl rfl rfl (by decide +kernel)
set_option maxRecDepth 100000 in
theorem xt_p123 : xt_P 123 xt_M123 := xt_mk (cs := xt_c123) (vs := xt_v123) (p := 12) (p2 := 874) (by decide +kernel) rfl rfl rfl (by decide +kernel)
set_option maxRecDepth 100000 in
theorem xt_p124 : xt_P 124 xt_M124 := xt_mk (cs := xt_c124) (vs := xt_v124) (p := 12) (p2 := 878) (by decide +kernel) rfl rfl rfl (by decide +kernel)
set_option maxRecDepth 100000 in
theorem xt_p125 : xt_P 125 xt_M125 := xt_mk (cs := xt_c125) (vs := xt_v125) (p := 12) (p2 := 1012) (by decide +kernel) rfl rfl rfl (by decide +kernel)
set_option maxRecDepth 100000 in
theorem xt_p126 : xt_P 126 xt_M126 := xt_mk (cs := xt_c126) (vs := xt_v126) (p := 12) (p2 := 1016) (by decide +kernel) rfl rfl rfl (by decide +kernel)
set_option maxRecDepth 100000 in
theorem xt_p127 : xt_P 127 xt_M127 := xt_mk (cs := xt_c127) (vs := xt_v127) (p := 12) (p2 := 1019) (by decide +kernel) rfl rfl rfl (by decide +kernel)
end
section
/-! The check of the methods 128 to 159. -/
set_option maxRecDepth 100000 in
theorem xt_p128 : xt_P 128 xt_M128 := xt_mk (cs := xt_c128) (vs := xt_v128) (p := 12) (p2 := 1023) (by decide +kernel) rfl rfl rfl (by decide +kernel)
set_option maxRecDepth 100000 in
theorem xt_p129 : xt_P 129 xt_M129 := xt_mk (cs := xt_c129) (vs := xt_v129) (p := 12) (p2 := 1027) (by decide +kernel) rfl rfl rfl (by decide +kernel)
set_option maxRecDepth 100000 in
theorem xt_p130 : xt_P 130 xt_M130 := xt_mk (cs := xt_c130) (vs := xt_v130) (p := 12) (p2 := 1032) (by decide +kernel) rfl rfl rfl (by decide +kernel)
set_option maxRecDepth 100000 in
theorem xt_p131 : xt_P 131 xt_M131 := xt_mk (cs := xt_c131) (vs := xt_v131) (p := 12) (p2 := 1036) (by decide +kernel) rfl rfl rfl (by decide +kernel)
set_option maxRecDepth 100000 in
theorem xt_p132 : xt_P 132 xt_M132 := xt_mk (cs := xt_c132) (vs := xt_v132) (p := 12) (p2 := 1040) (by decide +kernel) rfl rfl rfl (by decide +kernel)
set_option maxRecDepth 100000 in
theorem xt_p133 : xt_P 133 xt_M133 := xt_mk (cs := xt_c133) (vs := xt_v133) (p := 12) (p2 := 1044) (by decide +kernel) rfl rfl rfl (by decide +kernel)
set_option maxRecDepth 100000 in
theorem xt_p134 : xt_P 134 xt_M134 := xt_mk (cs := xt_c134) (vs := xt_v134) (p := 12) (p2 := 1047) (by decide +kernel) rfl rfl rfl (by decide +kernel)
set_option maxRecDepth 100000 in
theorem xt_p135 : xt_P 135 xt_M135 := xt_mk (cs := xt_c135) (vs := xt_v135) (p := 12) (p2 := 1052) (by decide +kernel) rfl rfl rfl (by decide +kernel)
set_option maxRecDepth 100000 in
theorem xt_p136 : xt_P 136 xt_M136 := xt_mk (cs := xt_c136) (vs := xt_v136) (p := 12) (p2 := 1056) (by decide +kernel) rfl rfl rfl (by decide +kernel)
set_option maxRecDepth 100000 in
theorem xt_p137 : xt_P 137 xt_M137 := xt_mk (cs := xt_c137) (vs := xt_v137) (p := 12) (p2 := 1060) (by decide +kernel) rfl rfl rfl (by decide +kernel)
set_option maxRecDepth 100000 in
theorem xt_p138 : xt_P 138 xt_M138 := xt_mk (cs := xt_c138) (vs := xt_v138) (p := 12) (p2 := 1064) (by decide +kernel) rfl rfl rfl (by decide +kernel)
set_option maxRecDepth 100000 in
theorem xt_p139 : xt_P 139 xt_M139 := xt_mk (cs := xt_c139) (vs := xt_v139) (p := 12) (p2 := 1068) (by decide +kernel) rfl rfl rfl (by decide +kernel)
set_option maxRecDepth 100000 in
theorem xt_p140 : xt_P 140 xt_M140 := xt_mk (cs := xt_c140) (vs := xt_v140) (p := 12) (p2 := 1072) (by decide +kernel) rfl rfl rfl (by decide +kernel)
set_option maxRecDepth 100000 in
theorem xt_p141 : xt_P 141 xt_M141 := xt_mk (cs := xt_c141) (vs := xt_v141) (p := 12) (p2 := 1076) (by decide +kernel) rfl rfl rfl (by decide +kernel)
set_option maxRecDepth 100000 in
theorem xt_p142 : xt_P 142 xt_M142 := xt_mk (cs := xt_c142) (vs := xt_v142) (p := 12) (p2 := 1080) (by decide +kernel) rfl rfl rfl (by decide +kernel)
set_option maxRecDepth 100000 in
theorem xt_p143 : xt_P 143 xt_M143 := xt_mk (cs := xt_c143) (vs := xt_v143) (p := 12) (p2 := 1084) (by decide +kernel) rfl rfl rfl (by decide +kernel)
set_option maxRecDepth 100000 in
theorem xt_p144 : xt_P 144 xt_M144 := xt_mk (cs := xt_c144) (vs := xt_v144) (p := 12) (p2 := 1088) (by decide +kernel) rfl rfl rfl (by decide +kernel)
set_option maxRecDepth 100000 in
theorem xt_p145 : xt_P 145 xt_M145 := xt_mk (cs := xt_c145) (vs := xt_v145) (p := 12) (p2 := 1092) (by decide +kernel) rfl rfl rfl (by decide +kernel)
set_option maxRecDepth 100000 in
theorem xt_p146 : xt_P 146 xt_M146 := xt_mk (cs := xt_c146) (vs := xt_v146) (p := 12) (p2 := 1095) (by decide +kernel) rfl rfl rfl (by decide +kernel)
set_option maxRecDepth 100000 in
theorem xt_p147 : xt_P 147 xt_M147 := xt_mk (cs := xt_c147) (vs := xt_v147) (p := 12) (p2 := 1099) (by decide +kernel) rfl rfl rfl (by decide +kernel)
set_option maxRecDepth 100000 in
theorem xt_p148 : xt_P 148 xt_M148 := xt_mk (cs := xt_c148) (vs := xt_v148) (p := 12) (p2 := 1102) (by decide +kernel) rfl rfl rfl (by decide +kernel)
set_option maxRecDepth 100000 in
theorem xt_p149 : xt_P 149 xt_M149 := xt_mk (cs := xt_c149) (vs := xt_v149) (p := 12) (p2 := 1106) (by decide +kernel) rfl rfl rfl (by decide +kernel)
set_option maxRecDepth 100000 in
theorem xt_p150 : xt_P 150 xt_M150 := xt_mk (cs := xt_c150) (vs := xt_v150) (p := 12) (p2 := 1109) (by decide +kernel) rfl rfl rfl (by decide +kernel)
set_option maxRecDepth 100000 in
theorem xt_p151 : xt_P 151 xt_M151 := xt_mk (cs := xt_c151) (vs := xt_v151) (p := 12) (p2 := 1113) (by decide +kernel) rfl rfl rfl (by decide +kernel)
set_option maxRecDepth 100000 in
theorem xt_p152 : xt_P 152 xt_M152 := xt_mk (cs := xt_c152) (vs := xt_v152) (p := 12) (p2 := 1117) (by decide +kernel) rfl rfl rfl (by decide +kernel)
set_option maxRecDepth 100000 in
theorem xt_p153 : xt_P 153 xt_M153 := xt_mk (cs := xt_c153) (vs := xt_v153) (p := 12) (p2 := 1121) (by decide +kernel) rfl rfl rfl (by decide +kernel)
set_option maxRecDepth 100000 in
theorem xt_p154 : xt_P 154 xt_M154 := xt_mk (cs := xt_c154) (vs := xt_v154) (p := 12) (p2 := 1124) (by decide +kernel) rfl rfl rfl (by decide +kernel)
set_option maxRecDepth 100000 in
theorem xt_p155 : xt_P 155 xt_M155 := xt_mk (cs := xt_c155) (vs := xt_v155) (p := 12) (p2 := 1128) (by decide +kernel) rfl rfl rfl (by decide +kernel)
set_option maxRecDepth 100000 in
theorem xt_p156 : xt_P 156 xt_M156 := xt_mk (cs := xt_c156) (vs := xt_v156) (p := 12) (p2 := 1132) (by decide +kernel) rfl rfl rfl (by decide +kernel)
set_option maxRecDepth 100000 in
theorem xt_p157 : xt_P 157 xt_M157 := xt_mk (cs := xt_c157) (vs := xt_v157) (p := 12) (p2 := 1136) (by decide +kernel) rfl rfl rfl (by decide +kernel)
set_option maxRecDepth 100000 in
theorem xt_p158 : xt_P 158 xt_M158 := xt_mk (cs := xt_c158) (vs := xt_v158) (p := 12) (p2 := 1139) (by decide +kernel) rfl rfl rfl (by decide +kernel)
set_option maxRecDepth 100000 in
theorem xt_p159 : xt_P 159 xt_M159 := xt_mk (cs := xt_c159) (vs := xt_v159) (p := 12) (p2 := 1142) (by decide +kernel) rfl rfl rfl (by decide +kernel)
end
section
/-! The check of the methods 160 to 188. -/
set_option maxRecDepth 100000 in
theorem xt_p160 : xt_P 160 xt_M160 := xt_mk (cs := xt_c160) (vs := xt_v160) (p := 12) (p2 := 1146) (by decide +kernel) rfl rfl rfl (by decide +kernel)
set_option maxRecDepth 100000 in
theorem xt_p161 : xt_P 161 xt_M161 := xt_mk (cs := xt_c161) (vs := xt_v161) (p := 12) (p2 := 1150) (by decide +kernel) rfl rfl rfl (by decide +kernel)
set_option maxRecDepth 100000 in
theorem xt_p162 : xt_P 162 xt_M162 := xt_mk (cs := xt_c162) (vs := xt_v162) (p := 12) (p2 := 1154) (by decide +kernel) rfl rfl rfl (by decide +kernel)
set_option maxRecDepth 100000 in
theorem xt_p163 : xt_P 163 xt_M163 := xt_mk (cs := xt_c163) (vs := xt_v163) (p := 12) (p2 := 1158) (by decide +kernel) rfl rfl rfl (by decide +kernel)
set_option maxRecDepth 100000 in
theorem xt_p164 : xt_P 164 xt_M164 := xt_mk (cs := xt_c164) (vs := xt_v164) (p := 12) (p2 := 1162) (by decide +kernel) rfl rfl rfl (by decide +kernel)
set_option maxRecDepth 100000 in
theorem xt_p165 : xt_P 165 xt_M165 := xt_mk (cs := xt_c165) (vs := xt_v165) (p := 12) (p2 := 1165) (by decide +kernel) rfl rfl rfl (by decide +kernel)
set_option maxRecDepth 100000 in
theorem xt_p166 : xt_P 166 xt_M166 := xt_mk (cs := xt_c166) (vs := xt_v166) (p := 12) (p2 := 1169) (by decide +kernel) rfl rfl rfl (by decide +kernel)
set_option maxRecDepth 100000 in
theorem xt_p167 : xt_P 167 xt_M167 := xt_mk (cs := xt_c167) (vs := xt_v167) (p := 12) (p2 := 1173) (by decide +kernel) rfl rfl rfl (by decide +kernel)
set_option maxRecDepth 100000 in
theorem xt_p168 : xt_P 168 xt_M168 := xt_mk (cs := xt_c168) (vs := xt_v168) (p := 12) (p2 := 1177) (by decide +kernel) rfl rfl rfl (by decide +kernel)
set_option maxRecDepth 100000 in
theorem xt_p169 : xt_P 169 xt_M169 := xt_mk (cs := xt_c169) (vs := xt_v169) (p := 12) (p2 := 1181) (by decide +kernel) rfl rfl rfl (by decide +kernel)
set_option maxRecDepth 100000 in
theorem xt_p170 : xt_P 170 xt_M170 := xt_mk (cs := xt_c170) (vs := xt_v170) (p := 12) (p2 := 1185) (by decide +kernel) rfl rfl rfl (by decide +kernel)
set_option maxRecDepth 100000 in
theorem xt_p171 : xt_P 171 xt_M171 := xt_mk (cs := xt_c171) (vs := xt_v171) (p := 12) (p2 := 1189) (by decide +kernel) rfl rfl rfl (by decide +kernel)
set_option maxRecDepth 100000 in
theorem xt_p172 : xt_P 172 xt_M172 := xt_mk (cs := xt_c172) (vs := xt_v172) (p := 12) (p2 := 1193) (by decide +kernel) rfl rfl rfl (by decide +kernel)
set_option maxRecDepth 100000 in
theorem xt_p173 : xt_P 173 xt_M173 := xt_mk (cs := xt_c173) (vs := xt_v173) (p := 12) (p2 := 1197) (by decide +kernel) rfl rfl rfl (by decide +kernel)
set_option maxRecDepth 100000 in
theorem xt_p174 : xt_P 174 xt_M174 := xt_mk (cs := xt_c174) (vs := xt_v174) (p := 12) (p2 := 1201) (by decide +kernel) rfl rfl rfl (by decide +kernel)
set_option maxRecDepth 100000 in
theorem xt_p175 : xt_P 175 xt_M175 := xt_mk (cs := xt_c175) (vs := xt_v175) (p := 12) (p2 := 1205) (by decide +kernel) rfl rfl rfl (by decide +kernel)
set_option maxRecDepth 100000 in
theorem xt_p176 : xt_P 176 xt_M176 := xt_mk (cs := xt_c176) (vs := xt_v176) (p := 12) (p2 := 1209) (by decide +kernel) rfl rfl rfl (by decide +kernel)
set_option maxRecDepth 100000 in
theorem xt_p177 : xt_P 177 xt_M177 := xt_mk (cs := xt_c177) (vs := xt_v177) (p := 12) (p2 := 1213) (by decide +kernel) rfl rfl rfl (by decide +kernel)
set_option maxRecDepth 100000 in
theorem xt_p178 : xt_P 178 xt_M178 := xt_mk (cs := xt_c178) (vs := xt_v178) (p := 12) (p2 := 1217) (by decide +kernel) rfl rfl rfl (by decide +kernel)
set_option maxRecDepth 100000 in
theorem xt_p179 : xt_P 179 xt_M179 := xt_mk (cs := xt_c179) (vs := xt_v179) (p := 12) (p2 := 1221) (by decide +kernel) rfl rfl rfl (by decide +kernel)
set_option maxRecDepth 100000 in
theorem xt_p180 : xt_P 180 xt_M180 := xt_mk (cs := xt_c180) (vs := xt_v180) (p := 12) (p2 := 1225) (by decide +kernel) rfl rfl rfl (by decide +kernel)
set_option maxRecDepth 100000 in
theorem xt_p181 : xt_P 181 xt_M181 := xt_mk (cs := xt_c181) (vs := xt_v181) (p := 12) (p2 := 1229) (by decide +kernel) rfl rfl rfl (by decide +kernel)
set_option maxRecDepth 100000 in
theorem xt_p182 : xt_P 182 xt_M182 := xt_mk (cs := xt_c182) (vs := xt_v182) (p := 12) (p2 := 1233) (by decide +kernel) rfl rfl rfl (by decide +kernel)
set_option maxRecDepth 100000 in
theorem xt_p183 : xt_P 183 xt_M183 := xt_mk (cs := xt_c183) (vs := xt_v183) (p := 12) (p2 := 1237) (by decide +kernel) rfl rfl rfl (by decide +kernel)
set_option maxRecDepth 100000 in
theorem xt_p184 : xt_P 184 xt_M184 := xt_mk (cs := xt_c184) (vs := xt_v184) (p := 12) (p2 := 1241) (by decide +kernel) rfl rfl rfl (by decide +kernel)
set_option maxRecDepth 100000 in
theorem xt_p185 : xt_P 185 xt_M185 := xt_mk (cs := xt_c185) (vs := xt_v185) (p := 12) (p2 := 1245) (by decide +kernel) rfl rfl rfl (by decide +kernel)
set_option maxRecDepth 100000 in
theorem xt_p186 : xt_P 186 xt_M186 := xt_mk (cs := xt_c186) (vs := xt_v186) (p := 12) (p2 := 1249) (by decide +kernel) rfl rfl rfl (by decide +kernel)
set_option maxRecDepth 100000 in
theorem xt_p187 : xt_P 187 xt_M187 := xt_mk (cs := xt_c187) (vs := xt_v187) (p := 12) (p2 := 1253) (by decide +kernel) rfl rfl rfl (by decide +kernel)
set_option maxRecDepth 100000 in
theorem xt_p188 : xt_P 188 xt_M188 := ⟨fun h => absurd rfl h, rfl, xt_code (cs := xt_c188) (vs := xt_v188) rfl (by decide +kernel)⟩
end
section
/-! The tables of fields; and all of it together. -/
def xt_lays (c : vw_C) (ps : List Nat) : Bool := decide (ps.length = c.2.2) && ((List.range c.2.2).zip ps).all (fun x => xt_is x.2 (u_lay c.1 c.2.1 x.1))
theorem xt_lays_spec {c : vw_C} {ps : List Nat} (h : xt_lays c ps = true) : ∀ x ∈ u_ws c.1 c.2.1 c.2.2, x ∈ xt_WS := by
  simp only [xt_lays, Bool.and_eq_true, decide_eq_true_eq, List.all_eq_true] at h
  intro x hx
  obtain ⟨k, hk, rfl⟩ := List.mem_map.mp hx
  have hk' := List.mem_range.mp hk
  have hp : ∃ p, ps[k]? = some p := ⟨_, List.getElem?_eq_getElem (by omega)⟩
  obtain ⟨p, hp⟩ := hp
  have h2 := h.2 (k, p) (List.mem_of_getElem? (i := k) (by rw [List.getElem?_zip_eq_some]; exact ⟨by simp [hk'], hp⟩))
  refine xt_got h2 ?_
  unfold u_lay
  split <;> rfl
def xt_cok (ci : Nat) (q : vw_C) : Prop := (∀ x ∈ u_ws q.1 q.2.1 q.2.2, x ∈ xt_WS) ∧ (∀ k, k < q.2.2 → parseFieldDescriptor (q.2.1 k).2.2.1 = some (xt_tyf ci k)) ∧ (∀ a, a < q.2.2 → ∀ b, b < q.2.2 → a ≠ b → (q.2.1 a).2.1 ≠ (q.2.1 b).2.1) ∧ ∀ k, k < q.2.2 → defaultValue (xt_tyf ci k) = if xt_rk (100 * ci + k) = true then .null else .int 0
set_option maxRecDepth 100000 in
theorem xt_cok0 : xt_cok 0 ("CellTree", xt_T0, 5) := ⟨xt_lays_spec (ps := [260, 262, 264, 266, 268]) (by decide +kernel), by decide +kernel, by decide +kernel, by decide +kernel⟩
set_option maxRecDepth 100000 in
theorem xt_cok1 : xt_cok 1 ("CellTree$Client", xt_T1, 13) := ⟨xt_lays_spec (ps := [200, 202, 204, 206, 208, 210, 212, 214, 216, 218, 220, 222, 224]) (by decide +kernel), by decide +kernel, by decide +kernel, by decide +kernel⟩
set_option maxRecDepth 100000 in
theorem xt_cok2 : xt_cok 2 ("CellTree$Job", xt_T2, 11) := ⟨xt_lays_spec (ps := [155, 157, 159, 161, 163, 165, 167, 169, 171, 173, 175]) (by decide +kernel), by decide +kernel, by decide +kernel, by decide +kernel⟩
set_option maxRecDepth 100000 in
theorem xt_cok3 : xt_cok 3 ("CellTree$MemoryNode", xt_T3, 5) := ⟨xt_lays_spec (ps := [106, 108, 110, 112, 114]) (by decide +kernel), by decide +kernel, by decide +kernel, by decide +kernel⟩
set_option maxRecDepth 100000 in
theorem xt_cok4 : xt_cok 4 ("CellTree$Transaction", xt_T4, 6) := ⟨xt_lays_spec (ps := [363, 365, 367, 369, 371, 373]) (by decide +kernel), by decide +kernel, by decide +kernel, by decide +kernel⟩
set_option maxRecDepth 100000 in
theorem xt_cok5 : xt_cok 5 ("CellTree$Item", xt_T5, 4) := ⟨xt_lays_spec (ps := [395, 397, 399, 401]) (by decide +kernel), by decide +kernel, by decide +kernel, by decide +kernel⟩
set_option maxRecDepth 100000 in
theorem xt_cok6 : xt_cok 6 ("CellTree$Content", xt_T6, 5) := ⟨xt_lays_spec (ps := [54, 56, 58, 60, 62]) (by decide +kernel), by decide +kernel, by decide +kernel, by decide +kernel⟩
set_option maxRecDepth 100000 in
theorem xt_cok7 : xt_cok 7 ("CellTree$Cell", xt_T7, 2) := ⟨xt_lays_spec (ps := [83, 85]) (by decide +kernel), by decide +kernel, by decide +kernel, by decide +kernel⟩
set_option maxRecDepth 100000 in
theorem xt_cok8 : xt_cok 8 ("CellTree$Message", xt_T8, 4) := ⟨xt_lays_spec (ps := [559, 561, 563, 565]) (by decide +kernel), by decide +kernel, by decide +kernel, by decide +kernel⟩
set_option maxRecDepth 100000 in
theorem xt_cok9 : xt_cok 9 ("CellTreeModel", xt_T9, 42) := ⟨xt_lays_spec (ps := [923, 925, 927, 929, 931, 933, 935, 937, 939, 941, 943, 945, 947, 949, 951, 953, 955, 957, 959, 961, 963, 965, 967, 969, 971, 973, 975, 977, 979, 981, 983, 985, 987, 989, 991, 993, 995, 997, 999, 1001, 1003, 1005]) (by decide +kernel), by decide +kernel, by decide +kernel, by decide +kernel⟩
set_option maxRecDepth 100000 in
theorem xt_cok10 : xt_cok 10 ("java/util/ArrayList", xt_T10, 3) := ⟨xt_lays_spec (ps := [246, 248, 250]) (by decide +kernel), by decide +kernel, by decide +kernel, by decide +kernel⟩
theorem xt_okC : xv_okC xt_cl xt_tyf xt_rk xt_aty xt_WS := by
  refine ⟨fun ci q hq => ?_, rfl, rfl, rfl, rfl⟩
  rcases ci with _ | _ | _ | _ | _ | _ | _ | _ | _ | _ | _ | ci
  · cases hq; exact xt_cok0
  · cases hq; exact xt_cok1
  · cases hq; exact xt_cok2
  · cases hq; exact xt_cok3
  · cases hq; exact xt_cok4
  · cases hq; exact xt_cok5
  · cases hq; exact xt_cok6
  · cases hq; exact xt_cok7
  · cases hq; exact xt_cok8
  · cases hq; exact xt_cok9
  · cases hq; exact xt_cok10
  · simp [xt_cl] at hq
theorem xt_goods : ∀ x ∈ xt_WS, (x.onTables && x.keeps) = true ∨ ∃ ty, x = .arrayClass ty := fun x hx => good_of_word (List.mem_filter.mp hx).2
theorem xt_e0 : xt_each xt_P 0 [xt_M0, xt_M1, xt_M2, xt_M3, xt_M4, xt_M5, xt_M6, xt_M7, xt_M8, xt_M9, xt_M10, xt_M11, xt_M12, xt_M13, xt_M14, xt_M15, xt_M16, xt_M17, xt_M18, xt_M19, xt_M20, xt_M21, xt_M22, xt_M23, xt_M24, xt_M25, xt_M26, xt_M27, xt_M28, xt_M29, xt_M30, xt_M31] := ⟨xt_p0, xt_p1, xt_p2, xt_p3, xt_p4, xt_p5, xt_p6, xt_p7, xt_p8, xt_p9, xt_p10, xt_p11, xt_p12, xt_p13, xt_p14, xt_p15, xt_p16, xt_p17, xt_p18, xt_p19, xt_p20, xt_p21, xt_p22, xt_p23, xt_p24, xt_p25, xt_p26, xt_p27, xt_p28, xt_p29, xt_p30, xt_p31, trivial⟩
theorem xt_e1 : xt_each xt_P 32 [xt_M32, xt_M33, xt_M34, xt_M35, xt_M36, xt_M37, xt_M38, xt_M39, xt_M40, xt_M41, xt_M42, xt_M43, xt_M44, xt_M45, xt_M46, xt_M47, xt_M48, xt_M49, xt_M50, xt_M51, xt_M52, xt_M53, xt_M54, xt_M55, xt_M56, xt_M57, xt_M58, xt_M59, xt_M60, xt_M61, xt_M62, xt_M63] := ⟨xt_p32, xt_p33, xt_p34, xt_p35, xt_p36, xt_p37, xt_p38, xt_p39, xt_p40, xt_p41, xt_p42, xt_p43, xt_p44, xt_p45, xt_p46, xt_p47, xt_p48, xt_p49, xt_p50, xt_p51, xt_p52, xt_p53, xt_p54, xt_p55, xt_p56, xt_p57, xt_p58, xt_p59, xt_p60, xt_p61, xt_p62, xt_p63, trivial⟩
theorem xt_e2 : xt_each xt_P 64 [xt_M64, xt_M65, xt_M66, xt_M67, xt_M68, xt_M69, xt_M70, xt_M71, xt_M72, xt_M73, xt_M74, xt_M75, xt_M76, xt_M77, xt_M78, xt_M79, xt_M80, xt_M81, xt_M82, xt_M83, xt_M84, xt_M85, xt_M86, xt_M87, xt_M88, xt_M89, xt_M90, xt_M91, xt_M92, xt_M93, xt_M94, xt_M95] := ⟨xt_p64, xt_p65, xt_p66, xt_p67, xt_p68, xt_p69, xt_p70, xt_p71, xt_p72, xt_p73, xt_p74, xt_p75, xt_p76, xt_p77, xt_p78, xt_p79, xt_p80, xt_p81, xt_p82, xt_p83, xt_p84, xt_p85, xt_p86, xt_p87, xt_p88, xt_p89, xt_p90, xt_p91, xt_p92, xt_p93, xt_p94, xt_p95, trivial⟩
theorem xt_e3 : xt_each xt_P 96 [xt_M96, xt_M97, xt_M98, xt_M99, xt_M100, xt_M101, xt_M102, xt_M103, xt_M104, xt_M105, xt_M106, xt_M107, xt_M108, xt_M109, xt_M110, xt_M111, xt_M112, xt_M113, xt_M114, xt_M115, xt_M116, xt_M117, xt_M118, xt_M119, xt_M120, xt_M121, xt_M122, xt_M123, xt_M124, xt_M125, xt_M126, xt_M127] := ⟨xt_p96, xt_p97, xt_p98, xt_p99, xt_p100, xt_p101, xt_p102, xt_p103, xt_p104, xt_p105, xt_p106, xt_p107, xt_p108, xt_p109, xt_p110, xt_p111, xt_p112, xt_p113, xt_p114, xt_p115, xt_p116, xt_p117, xt_p118, xt_p119, xt_p120, xt_p121, xt_p122, xt_p123, xt_p124, xt_p125, xt_p126, xt_p127, trivial⟩
theorem xt_e4 : xt_each xt_P 128 [xt_M128, xt_M129, xt_M130, xt_M131, xt_M132, xt_M133, xt_M134, xt_M135, xt_M136, xt_M137, xt_M138, xt_M139, xt_M140, xt_M141, xt_M142, xt_M143, xt_M144, xt_M145, xt_M146, xt_M147, xt_M148, xt_M149, xt_M150, xt_M151, xt_M152, xt_M153, xt_M154, xt_M155, xt_M156, xt_M157, xt_M158, xt_M159] := ⟨xt_p128, xt_p129, xt_p130, xt_p131, xt_p132, xt_p133, xt_p134, xt_p135, xt_p136, xt_p137, xt_p138, xt_p139, xt_p140, xt_p141, xt_p142, xt_p143, xt_p144, xt_p145, xt_p146, xt_p147, xt_p148, xt_p149, xt_p150, xt_p151, xt_p152, xt_p153, xt_p154, xt_p155, xt_p156, xt_p157, xt_p158, xt_p159, trivial⟩
theorem xt_e5 : xt_each xt_P 160 [xt_M160, xt_M161, xt_M162, xt_M163, xt_M164, xt_M165, xt_M166, xt_M167, xt_M168, xt_M169, xt_M170, xt_M171, xt_M172, xt_M173, xt_M174, xt_M175, xt_M176, xt_M177, xt_M178, xt_M179, xt_M180, xt_M181, xt_M182, xt_M183, xt_M184, xt_M185, xt_M186, xt_M187, xt_M188] := ⟨xt_p160, xt_p161, xt_p162, xt_p163, xt_p164, xt_p165, xt_p166, xt_p167, xt_p168, xt_p169, xt_p170, xt_p171, xt_p172, xt_p173, xt_p174, xt_p175, xt_p176, xt_p177, xt_p178, xt_p179, xt_p180, xt_p181, xt_p182, xt_p183, xt_p184, xt_p185, xt_p186, xt_p187, xt_p188, trivial⟩
theorem xt_each_app {P : Nat → xv_M → Prop} : ∀ {a b : List xv_M} {i : Nat}, xt_each P i a → xt_each P (i + a.length) b → xt_each P i (a ++ b)
  | [], b, i, _, h => by simpa using h
  | m :: t, b, i, h1, h2 => ⟨h1.1, xt_each_app h1.2 (by rw [show i + 1 + t.length = i + (m :: t).length by simp only [List.length_cons]; omega]; exact h2)⟩
theorem xt_eall : xt_each xt_P 0 xt_mt := xt_each_app xt_e0 (xt_each_app xt_e1 (xt_each_app xt_e2 (xt_each_app xt_e3 (xt_each_app xt_e4 (xt_e5)))))
theorem xt_tab : xv_Tab xt_yL xt_sx xt_mt xt_cl xt_tyf xt_rk xt_aty xt_cp xt_cs xt_WS xt_stt xt_cd xt_mx := ⟨xt_okC, xt_goods, fun y M h => by
  have := xt_each_spec xt_eall y M h
  rw [Nat.zero_add] at this
  exact this⟩
end
section
/-! The law's entry: what the Statement gives there is what the abstract machine starts from. -/
def xt_h0 : xv_H := (0, 0, fun _ => 0, fun _ => 0, fun _ _ => none, fun _ _ => none, fun _ _ => 0, fun _ _ => 0, fun _ _ => 0)
abbrev xt_exec (sc : Nat × (Nat → Int32)) : Nat → Nat → Nat → xv_L → List Value → xv_H → Option (Option Value × xv_H) := xv_exec sc xt_cd xt_cp xt_cs xt_lg xt_mx
def xt_st (k : Nat) : Term := match xt_stt[k]? with
  | some q => .static q.1 q.2.1 q.2.2
  | none => .int 0
section XF
variable {p : Program} {l : Launch} {e : Env} {s : State} {m : MethodId} {below : List Frame} {meth : Method} {c : Code} {b L : Nat} {xs : Nat → Int32}
/-- classes -/
theorem xf_classes {args : Array Value} (hts : ∀ w ∈ lw_tbl, w.before args s = true) : ∃ D : va_G, va_K D xt_cl [] s := by
  have hW : ∀ x ∈ xt_WS, x.before args s = true := fun x hx => hts x (List.mem_filter.mp hx).1
  have h : ∀ ci : Nat, ∃ x : ClassId × (Nat → Nat), ∀ q, xt_cl[ci]? = some q → u_Kn s q.1 q.2.1 q.2.2 x.1 x.2 := by
    intro ci
    cases hq : xt_cl[ci]? with
    | none => exact ⟨(0, fun _ => 0), fun q h => by cases h⟩
    | some q =>
      have hi : Jvm.Cond.instantiable q.1 q.2.2 ∈ xt_WS := by
        have hm : q ∈ xt_cl := List.mem_of_getElem? hq
        have hall : ∀ q ∈ xt_cl, Jvm.Cond.instantiable q.1 q.2.2 ∈ lw_tbl := by decide +kernel
        exact List.mem_filter.mpr ⟨hall q hm, rfl⟩
      obtain ⟨cC, iS, hk⟩ := u_known hW (xt_okC.1 ci q hq).1 (hW _ hi)
      exact ⟨(cC, iS), fun q' h' => by cases h'; exact hk⟩
  obtain ⟨f, hf⟩ := Classical.axiomOfChoice h
  exact ⟨(fun i => (f i).1, fun i => (f i).2), fun ci q hq => hf ci q hq, fun k q hk => by cases hk⟩
/-- arrays -/
theorem xf_arrays {args : Array Value} (hts : ∀ w ∈ lw_tbl, w.before args s = true) : ∃ t : Nat → ClassId, ∀ (j : Nat) (ty : FieldType), xt_aty[j]? = some ty → ArrOfT s (t j) ty ∧ va_RA s (t j) ty := by
  have h : ∀ j : Nat, ∃ cA : ClassId, ∀ ty, xt_aty[j]? = some ty → ArrOfT s cA ty ∧ va_RA s cA ty := by
    intro j
    cases hq : xt_aty[j]? with
    | none => exact ⟨0, fun ty h => by cases h⟩
    | some ty =>
      have hm : ty ∈ xt_aty := List.mem_of_getElem? hq
      have hall : ∀ ty ∈ xt_aty, (match ty with | .object C => decide (Jvm.Cond.arrayOver (.object C) ∈ lw_tbl) | t => decide (Jvm.Cond.arrayClass t ∈ lw_tbl)) = true := by decide +kernel
      have h1 := hall ty hm
      cases ty with
      | object C =>
        simp only [decide_eq_true_eq] at h1
        obtain ⟨comp, cA, kA, g1, -, g2, g3, g4⟩ := Cond.arrayOver_spec (hts _ h1)
        exact ⟨cA, fun ty' h' => by cases h'; exact ⟨fun n z => ⟨fun k h => (by cases h), kA, g2, comp, g3⟩, kA, comp, g2, g3, g1, g4⟩⟩
      | _ =>
        simp only [decide_eq_true_eq] at h1
        obtain ⟨cA, kA, comp, g1, g2, g3⟩ := Cond.arrayClass_spec (hts _ h1)
        exact ⟨cA, fun ty' h' => by cases h'; exact ⟨fun n z => ⟨fun k h => (by cases h), kA, g2, comp, g3⟩, g1⟩⟩
  exact Classical.axiomOfChoice h
/-- constants -/
def xt_ex (q : String × String × String) : String := if q.2.2 = "[Ljava/lang/Object;" then "[Ljava/lang/Object;" else q.1
def xt_flat : List Jvm.Cond := flatC (Jvm.Cond.and given_1 narrow_1)
set_option maxRecDepth 100000 in
theorem xf_ex : ∀ q ∈ xt_stt, Jvm.Cond.exactly (.static q.1 q.2.1 q.2.2) (xt_ex q) ∈ xt_flat := by decide +kernel
set_option maxRecDepth 100000 in
theorem xf_lay : ∀ q ∈ xt_stt, Jvm.Cond.laysStatic q.1 q.2.1 q.2.2 ∈ lw_tbl ∧ Jvm.Cond.initialized q.1 ∈ lw_tbl := by decide +kernel
def xt_difs : List (Nat × Nat × Nat) := [(9, 1, 12), (9, 13, 15), (1, 13, 16), (9, 15, 19), (1, 15, 20), (13, 15, 21), (9, 14, 24), (1, 14, 25), (13, 14, 26), (15, 14, 27), (9, 4, 30), (1, 4, 31), (13, 4, 32), (15, 4, 33), (14, 4, 34), (9, 11, 37), (1, 11, 38), (13, 11, 39), (15, 11, 40), (14, 11, 41), (4, 11, 42), (9, 6, 45), (1, 6, 46), (13, 6, 47), (15, 6, 48), (14, 6, 49), (4, 6, 50), (11, 6, 51), (9, 2, 54), (1, 2, 55), (13, 2, 56), (15, 2, 57), (14, 2, 58), (4, 2, 59), (11, 2, 60), (6, 2, 61), (9, 16, 64), (1, 16, 65), (13, 16, 66), (15, 16, 67), (14, 16, 68), (4, 16, 69), (11, 16, 70), (6, 16, 71), (2, 16, 72), (9, 7, 75), (1, 7, 76), (13, 7, 77), (15, 7, 78), (14, 7, 79), (4, 7, 80), (11, 7, 81), (6, 7, 82), (2, 7, 83), (16, 7, 84), (9, 3, 87), (1, 3, 88), (13, 3, 89), (15, 3, 90), (14, 3, 91), (4, 3, 92), (11, 3, 93), (6, 3, 94), (2, 3, 95), (16, 3, 96), (7, 3, 97), (9, 10, 100), (1, 10, 101), (13, 10, 102), (15, 10, 103), (14, 10, 104), (4, 10, 105), (11, 10, 106), (6, 10, 107), (2, 10, 108), (16, 10, 109), (7, 10, 110), (3, 10, 111), (9, 5, 114), (1, 5, 115), (13, 5, 116), (15, 5, 117), (14, 5, 118), (4, 5, 119), (11, 5, 120), (6, 5, 121), (2, 5, 122), (16, 5, 123), (7, 5, 124), (3, 5, 125), (10, 5, 126), (9, 12, 129), (1, 12, 130), (13, 12, 131), (15, 12, 132), (14, 12, 133), (4, 12, 134), (11, 12, 135), (6, 12, 136), (2, 12, 137), (16, 12, 138), (7, 12, 139), (3, 12, 140), (10, 12, 141), (5, 12, 142), (9, 8, 145), (1, 8, 146), (13, 8, 147), (15, 8, 148), (14, 8, 149), (4, 8, 150), (11, 8, 151), (6, 8, 152), (2, 8, 153), (16, 8, 154), (7, 8, 155), (3, 8, 156), (10, 8, 157), (5, 8, 158), (12, 8, 159)]
def xt_dif (x : Nat × Nat × Nat) : Bool := match xt_stt[x.1]?, xt_stt[x.2.1]? with
  | some q, some r => decide (xt_flat[x.2.2]? = some (Jvm.Cond.not (.eq (.static q.1 q.2.1 q.2.2) (.static r.1 r.2.1 r.2.2))))
  | _, _ => false
set_option maxRecDepth 100000 in
theorem xf_difs : xt_difs.all xt_dif = true := by decide +kernel
def xt_hasd (i j : Nat) : Bool := xt_difs.any fun x => (decide (x.1 = i) && decide (x.2.1 = j)) || (decide (x.1 = j) && decide (x.2.1 = i))
set_option maxRecDepth 100000 in
theorem xf_hasd : ∀ i, i < 17 → ∀ j, j < 17 → 1 ≤ i → 1 ≤ j → i ≠ j → xt_hasd i j = true := by decide +kernel
theorem xf_dif : ∀ i, i < 17 → ∀ j, j < 17 → 1 ≤ i → 1 ≤ j → i ≠ j → ∃ x ∈ xt_difs, (x.1 = i ∧ x.2.1 = j) ∨ (x.1 = j ∧ x.2.1 = i) := by
  intro i h1 j h2 h3 h4 h5
  obtain ⟨x, hx, h⟩ := List.any_eq_true.mp (xf_hasd i h1 j h2 h3 h4 h5)
  simp only [Bool.or_eq_true, Bool.and_eq_true, decide_eq_true_eq] at h
  exact ⟨x, hx, h⟩
theorem xf_consts {args : Array Value} (hts : ∀ w ∈ lw_tbl, w.before args s = true) (hg : (Jvm.Cond.and given_1 narrow_1).before args s = true) : ∃ t : Nat → Nat, (∀ (k : Nat) (q : String × String × String), xt_stt[k]? = some q → (Term.static q.1 q.2.1 q.2.2).eval args s none [] s = some (.ref (t k)) ∧ t k < s.heap.size ∧ va_Z q.1 q.2.1 q.2.2 (.ref (t k)) (fun a => s.heap.size ≤ a) s s.heap) ∧ ∀ i j, 1 ≤ i → 1 ≤ j → i < 17 → j < 17 → t i = t j → i = j := by
  have hs := flat_of_before _ hg
  have hA : ∀ a : Nat, a < s.heap.size → ¬ s.heap.size ≤ a := fun a h => by omega
  have h : ∀ k : Nat, ∃ t : Nat, ∀ q, xt_stt[k]? = some q → (Term.static q.1 q.2.1 q.2.2).eval args s none [] s = some (.ref t) ∧ t < s.heap.size ∧ va_Z q.1 q.2.1 q.2.2 (.ref t) (fun a => s.heap.size ≤ a) s s.heap := by
    intro k
    cases hq : xt_stt[k]? with
    | none => exact ⟨0, fun q h => by cases h⟩
    | some q =>
      have hm : q ∈ xt_stt := List.mem_of_getElem? hq
      obtain ⟨a, c, cell, k, q1, q2, q3, -⟩ := Cond.exactly_spec (hs _ (xf_ex q hm))
      obtain ⟨l1, l2⟩ := xf_lay q hm
      exact ⟨a, fun q' h' => by cases h'; exact ⟨q1, (Array.getElem?_eq_some_iff.mp q3).1, va_Zref (hts _ l1) (hts _ l2) q1 hA⟩⟩
  obtain ⟨t, ht⟩ := Classical.axiomOfChoice h
  refine ⟨t, fun k q hq => ht k q hq, fun i j h1 h2 h3 h4 he => ?_⟩
  by_cases hij : i = j
  · exact hij
  · exfalso
    obtain ⟨x, hx, hd⟩ := xf_dif i h3 j h4 h1 h2 hij
    have hx2 := List.all_eq_true.mp xf_difs x hx
    unfold xt_dif at hx2
    split at hx2
    · rename_i q r hq hr
      have hm := List.mem_of_getElem? (of_decide_eq_true hx2)
      rcases hd with ⟨e1, e2⟩ | ⟨e1, e2⟩
      · rw [e1] at hq; rw [e2] at hr
        exact va_neR (hs _ hm) (ht i q hq).1 (ht j r hr).1 he
      · rw [e1] at hq; rw [e2] at hr
        exact va_neR (hs _ hm) (ht j q hq).1 (ht i r hr).1 he.symm
    · cases hx2
set_option maxRecDepth 100000 in
theorem xf_empty : Jvm.Cond.arrayOf (.static "java/util/ArrayList" "DEFAULTCAPACITY_EMPTY_ELEMENTDATA" "[Ljava/lang/Object;") (.object "java/lang/Object") ∈ xt_flat ∧ Jvm.Cond.eq (.length (.static "java/util/ArrayList" "DEFAULTCAPACITY_EMPTY_ELEMENTDATA" "[Ljava/lang/Object;")) (.int 0) ∈ xt_flat ∧ Jvm.Cond.isRef (.mirror "[Ljava/lang/Object;") ∈ xt_flat := by decide +kernel
set_option maxRecDepth 100000 in
theorem xf_sx : (∀ q ∈ xt_sx.1, Jvm.Cond.castable q.1 q.2 ∈ lw_tbl) ∧ (∀ C ∈ xt_sx.2.1, Jvm.Cond.arrayOver (.object C) ∈ lw_tbl) ∧ (∀ q ∈ xt_sx.2.2, Jvm.Cond.methodLinkNest q.1 q.2.1 q.2.2.1 q.2.2.2 ∈ lw_tbl) ∧ Jvm.Cond.declares ⟨"java/lang/Object", "getClass", "()Ljava/lang/Class;"⟩ ∈ lw_tbl := by decide +kernel
/-- the world at the law's entry -/
theorem xf_world (hts : ∀ w ∈ lw_tbl, w.before #[Value.ref b] s = true) (hg : (Jvm.Cond.and given_1 narrow_1).before #[Value.ref b] s = true) (hX : va_X b L xs s s.heap) (hb : b < s.heap.size) :
    ∃ w : xv_W, w.1 = s.heap.size ∧ w.2.2.2.2.2 = s.heap ∧ xv_al w xv_SB = b ∧ xv_K0 w xt_cl xt_aty xt_stt xt_sx (L, xs) s ∧ ∀ a c, xv_cmp a c → xv_al w a = xv_al w c → a = c := by
  obtain ⟨D, hD⟩ := xf_classes hts
  obtain ⟨ta, hta⟩ := xf_arrays hts
  obtain ⟨t, ht, hinj⟩ := xf_consts hts hg
  have hs := flat_of_before _ hg
  have hA : ∀ a : Nat, a < s.heap.size → ¬ s.heap.size ≤ a := fun a h => by omega
  obtain ⟨mi, hmi⟩ := va_Mi.of (hs _ xf_empty.2.2)
  obtain ⟨t0, e0, hT0⟩ := va_Tof (N := 0) (f := fun _ => .null) (A := fun a => s.heap.size ≤ a) (by decide) (hs _ xf_empty.1) (va_eqt (hs _ xf_empty.2.1)) (fun j hj => by omega) hA
  have e1 := (ht 0 _ rfl).1
  have et : t0 = t 0 := by
    have := e0.symm.trans e1
    simpa using this
  subst et
  refine ⟨(s.heap.size, 19, fun k => match k with | 0 => b | 1 => mi | k + 2 => t k, D, ta, s.heap), rfl, rfl, ?_, ⟨⟨hD, hta⟩, ⟨hX, hb, by show 2 < 19; omega, _, hT0⟩, ⟨?_, ?_, ?_, hmi, va_Dc.of (hts _ xf_sx.2.2.2), by show 2 < 19; omega⟩, fun k q hk => ⟨?_, (ht k q hk).2.2⟩⟩, ?_⟩
  · exact xv_al_st (k := 0) (by show 0 < 19; omega)
  · intro q hq
    exact va_any rfl (hts _ (xf_sx.1 q hq))
  · intro C hC
    exact va_AO.of (hts _ (xf_sx.2.1 C hC))
  · intro q hq
    exact va_any rfl (hts _ (xf_sx.2.2.1 q hq))
  · have : k < 17 := (List.getElem?_eq_some_iff.mp hk).1
    show k + 2 < 19
    omega
  · intro a c hc he
    have hlt : ∀ k, k < 17 → t k < s.heap.size := fun k hk => (ht k _ (List.getElem?_eq_getElem hk)).2.1
    have hst : ∀ k, k < 17 → xv_al (s.heap.size, 19, fun k => match k with | 0 => b | 1 => mi | k + 2 => t k, D, ta, s.heap) (xv_SB + (k + 2)) = t k := fun k hk => xv_al_st (k := k + 2) (by show k + 2 < 19; omega)
    have hhp : ∀ k, k < xv_SB ∨ xv_SB + 19 ≤ k → xv_al (s.heap.size, 19, fun k => match k with | 0 => b | 1 => mi | k + 2 => t k, D, ta, s.heap) k = s.heap.size + k := by
      intro k hk
      unfold xv_al
      rw [if_neg]
      show ¬ (xv_SB ≤ k ∧ k < xv_SB + 19)
      omega
    -- a number from xv_SB + 2 on
    have cls : ∀ n, n < xv_SB ∨ xv_SB + 2 ≤ n → (n < xv_SB ∨ xv_SB + 19 ≤ n) ∨ ∃ k, k < 17 ∧ n = xv_SB + (k + 2) := by
      intro n hn
      by_cases h1 : n < xv_SB ∨ xv_SB + 19 ≤ n
      · exact Or.inl h1
      · exact Or.inr ⟨n - xv_SB - 2, by omega, by omega⟩
    rcases hc with hc | ⟨h1, h2⟩ | ⟨h1, h2⟩ | ⟨h1, h2⟩
    · exact hc
    · rw [hhp a (Or.inl h1)] at he
      rcases cls c h2 with h3 | ⟨k, h3, rfl⟩
      · rw [hhp c h3] at he; omega
      · rw [hst k h3] at he; have := hlt k h3; omega
    · rw [hhp c (Or.inl h1)] at he
      rcases cls a h2 with h3 | ⟨k, h3, rfl⟩
      · rw [hhp a h3] at he; omega
      · rw [hst k h3] at he; have := hlt k h3; omega
    · rcases cls a (Or.inr (by omega)) with h3 | ⟨k, h3, e3⟩
      · rw [hhp a h3] at he
        rcases cls c (Or.inr (by omega)) with h4 | ⟨j, h4, rfl⟩
        · rw [hhp c h4] at he; omega
        · rw [hst j h4] at he; have := hlt j h4; omega
      · subst e3
        rw [hst k h3] at he
        rcases cls c (Or.inr (by omega)) with h4 | ⟨j, h4, e4⟩
        · rw [hhp c h4] at he; have := hlt k h3; omega
        · subst e4
          rw [hst j h4] at he
          have := hinj k j (by omega) (by omega) h3 h4 he
          rw [this]
end XF
end
section
/-! THE CLAIM OUT OF ONE WALK OF THE LAW'S BODY. Your part is whole_start (and what it stands on); all else here is the same for every law, but numbers. -/
def R_law : String := "CellTreeLaw"
def lw_P (b : Addr) (xs : List Int32) (args : Array Value) (s : State) : Prop := args = #[.ref b] ∧ s.IntsAt b xs ∧ xs.length ≤ 2048 ∧ (Jvm.Cond.and given_1 narrow_1).before args s = true
def lw_Q (_ : Array Value) (s : State) (o : Outcome) (t : State) : Prop := o = .returned (some (.int 1)) ∧ Framed s o t [] 600000 7302250
def lw_Z (below : List Frame) (a : Array Value) (s : State) : State → Prop := fun t => ∃ o, t.status = .running ∧ Ended t below o ∧ lw_Q a s o t
/-- the law's own end, with 1 on the stack, nothing written that was there before, its room as the claim has it -/
theorem lw_ret {p : Program} {l : Launch} {e : Env} {s : State} {m : MethodId} {below : List Frame} {meth : Method} {c : Code} {b : Nat} (hx : p.tables.exec = Jvm.exec) (hb : c.code = code) (hr : meth.sig.returnType = ret) (hlocks : meth.locks = false) {pc : Nat} {H : Heap} {ls : Array Slot} (hdg : decode code pc = .ok (.ireturn, 1)) : W p l e room_1 s m #[Value.ref b] below meth c H [] 600000 7302250 (lw_Z below #[Value.ref b] s) (F0 m pc ls [.int 1]) := by
  intro T hT X
  obtain ⟨fs, hret, hrun, hended, hW, hframe⟩ := X.leave (v := some (.int 1)) (hlocks := hlocks) (fun h => by rw [hr] at h; cases h)
  have hmeth' : T.vm.method? m = some meth := X.method'
  refine ⟨T.setFrames fs, ?_, .returned (some (.int 1)), hrun, hended, rfl, ⟨_, rfl⟩, hW, hframe⟩
  jvm_step X.here [X.here.top, hx, hb, hdg, hmeth', hr, ret, narrow_b1]
  (try refine ⟨rfl, ?_⟩); (try refine ⟨rfl, ?_⟩)
  first | (intro acts; rw [hret _ acts rfl rfl rfl]) | rw [hret _ _ rfl rfl rfl]
  exact Steps.refl _
/-- what holds at the law's entry: the machine, the code, the tables' words (any of lw_tbl by 'hts w (by decide +kernel)'), the script of L ints xs at the cell b, what the Statement gives of the start (any of its parts by flat_of_before) -/
def lw_At (p : Program) (s : State) (m : MethodId) (meth : Method) (c : Code) (b L : Nat) (xs : Nat → Int32) : Prop :=
  p.tables.exec = Jvm.exec ∧ c.code = code ∧ meth.sig.returnType = ret ∧ c.maxLocals = 4 ∧ s.vm.findClass R_law = some m.cls ∧ (∀ w ∈ lw_tbl, w.before #[Value.ref b] s = true) ∧ va_X b L xs s s.heap ∧ b < s.heap.size ∧ meth.locks = false ∧ (Jvm.Cond.and given_1 narrow_1).before #[Value.ref b] s = true
/-- the law's walk, if the abstract machine runs it to its end with 1, in the room that there is -/
theorem xt_walk {p : Program} {e : Env} {s : State} {m : MethodId} {below : List Frame} {meth : Method} {c : Code} (l : Launch) {b L : Nat} {xs : Nat → Int32} (C0 : lw_At p s m meth c b L xs) {f : Nat} {h' : xv_H} (hx : xt_exec (L, xs) f xt_yL 0 (xv_ent 4 [.ref xv_SB]) [] xt_h0 = some (some (.int 1), h')) (hc : h'.1 ≤ 600000) (hz : h'.2.1 ≤ 7302250) : W p l e room_1 s m #[Value.ref b] below meth c s.heap [] 0 0 (lw_Z below #[Value.ref b] s) (entryFrame m ([Value.ref b] : List Value).toArray 4) := by
  obtain ⟨hex, hcd, hret, hml, hown, hts, hX, hb, hlk, hg⟩ := C0
  obtain ⟨w, w1, w2, w3, hK, hI⟩ := xf_world hts hg hX hb
  have hwo : w.1 ≤ w.2.2.2.2.2.size := by rw [w1, w2]; exact Nat.le_refl _
  obtain ⟨-, hs⟩ := xv_sound (l := l) (sc := (L, xs)) (lgs := xt_lg) xt_tab hwo hI f _ _ _ _ _ _ _ hx
  have hR : xv_R w xt_cl xt_rk xt_h0 s.heap := ⟨by rw [w1]; rfl, fun q hq => by rw [w2], fun a ha => absurd ha (Nat.not_lt_zero a)⟩
  have hC : xv_Cx p room_1 s m #[Value.ref b] meth c code w xt_cl xt_aty xt_WS xt_stt xt_sx (L, xs) "CellTreeLaw" 4 0 0 h'.1 h'.2.1 := xv_Cx_of hex hcd hml hown (fun x hx => hts x (List.mem_filter.mp hx).1) hK hR hwo (by show h'.1 ≤ 600000 + 0; omega) (by show h'.2.1 ≤ 7302250 + 0; omega) (by unfold xv_SB; omega)
  have hM : xt_mt[xt_yL]? = some xt_M188 := rfl
  have hG := hs xt_M188 hM p e room_1 s m #[Value.ref b] below meth c (lw_Z below #[Value.ref b] s) 0 0 hC (fun h => absurd h (by decide)) (by decide) (by decide) hK hR.2.1 ?_
  · rw [lg_entry_eq]
    have hl := xv_ls_entry (xv_al w) (lg := xt_lg xt_yL) (n := 4) (av := [.ref xv_SB]) (by decide +kernel)
    have e1 : [Value.ref xv_SB].map (xv_cv (xv_al w)) = [Value.ref b] := by simp [xv_cv, w3]
    rw [e1] at hl
    exact hG _ s.heap [] hl hR va_S.rf (Nat.le_refl _) (Nat.le_refl _)
  · intro pc' ic L' st' ls H locs hcd' hk hr hl hR' hS'
    obtain ⟨d1, -, d3⟩ := (xt_tab.2.2 _ _ hM).2.2 pc' ic hcd'
    obtain ⟨I, q1, q2⟩ := ic
    cases I
    case ireturn =>
      simp only [xv_ret] at hr
      split at hr
      · split at hr
        · cases hr
          refine va_forget (fun q hq => by have := hS'.2.2 q hq; rw [w1] at this; exact this) ?_
          exact W.widen (by show h'.1 - 0 ≤ 600000; omega) (by show h'.2.1 - 0 ≤ 7302250; omega) (lw_ret hex hcd hret hlk (d1.at rfl))
        · cases hr
      · cases hr
    case lreturn =>
      simp only [xv_ret] at hr
      split at hr <;> cases hr
    case areturn =>
      simp only [xv_ret] at hr
      split at hr <;> cases hr
    case return_ =>
      simp only [xv_ret] at hr
      split at hr <;> cases hr
    all_goals cases hr
end
section
/-! The abstract machine, goal first: what it comes to from a point. -/
def xx (sc : Nat × (Nat → Int32)) (y pc : Nat) (L : xv_L) (st : List Value) (h : xv_H) (P : Option Value → xv_H → Prop) : Prop := ∃ (f : Nat) (r : Option Value) (h' : xv_H), xt_exec sc f y pc L st h = some (r, h') ∧ P r h'
section XO
variable {sc : Nat × (Nat → Int32)} {y pc : Nat} {L : xv_L} {st : List Value} {h : xv_H} {P : Option Value → xv_H → Prop} {r q i t a b : Nat} {x z j : Int32} {u v : Int64} {n zz : Nat} {tg ln : Nat → Nat} {fr er : Nat → Nat → Option Nat} {fi ei : Nat → Nat → Int32} {el : Nat → Nat → Int64} {off : Int} {va vb vd : Value} {w : Option Nat}
theorem xx_act {ic : xv_I} {pc' : Nat} {L' : xv_L} {st' : List Value} {h1 : xv_H} (hc : xt_cd y pc = some ic) (hk : xv_kind ic.1 = 0) (ha : xv_act sc xt_cp (xt_lg y) ic pc L st h = some (pc', L', st', h1)) (k : xx sc y pc' L' st' h1 P) : xx sc y pc L st h P := by
  obtain ⟨f, r, h', e, hp⟩ := k
  refine ⟨f + 1, r, h', ?_, hp⟩
  show xv_exec sc xt_cd xt_cp xt_cs xt_lg xt_mx (f + 1) y pc L st h = _
  rw [xv_exec]
  simp only [hc, hk, ha]
  exact e
theorem xx_ret {ic : xv_I} {rv : Option Value} (hc : xt_cd y pc = some ic) (hk : xv_kind ic.1 = 1) (ha : xv_ret ic st = some rv) (hp : P rv h) : xx sc y pc L st h P := by
  refine ⟨1, rv, h, ?_, hp⟩
  show xv_exec sc xt_cd xt_cp xt_cs xt_lg xt_mx 1 y pc L st h = _
  rw [xv_exec]
  simp only [hc, hk, ha]
theorem xx_own {ic : xv_I} {pc' : Nat} {L' : xv_L} {st' : List Value} {h1 : xv_H} (hc : xt_cd y pc = some ic) (hk : xv_kind ic.1 = 2) (ha : xv_inv xt_cp xt_cs xt_lg xt_mx ic pc L st h = some (.inl (pc', L', st', h1))) (k : xx sc y pc' L' st' h1 P) : xx sc y pc L st h P := by
  obtain ⟨f, r, h', e, hp⟩ := k
  refine ⟨f + 1, r, h', ?_, hp⟩
  show xv_exec sc xt_cd xt_cp xt_cs xt_lg xt_mx (f + 1) y pc L st h = _
  rw [xv_exec]
  simp only [hc, hk, ha]
  exact e
/-- a method as its callers see it -/
def xr (sc : Nat × (Nat → Int32)) (y : Nat) (av : List Value) (h : xv_H) (P : Option Value → xv_H → Prop) : Prop := xx sc y 0 (xv_ent (xt_mx y) av) [] h P
theorem xx_call {ic : xv_I} {y' : Nat} {av rest : List Value} {pc' : Nat} {P' : Option Value → xv_H → Prop} (hc : xt_cd y pc = some ic) (hk : xv_kind ic.1 = 2) (ha : xv_inv xt_cp xt_cs xt_lg xt_mx ic pc L st h = some (.inr (y', av, rest, pc'))) (hm : xr sc y' av h P') (k : ∀ r h', P' r h' → xx sc y pc' L (r.toList ++ rest) h' P) : xx sc y pc L st h P := by
  obtain ⟨f, r, h', e, hp⟩ := hm
  obtain ⟨g, r2, h2, e2, hp2⟩ := k r h' hp
  refine ⟨max f g + 1, r2, h2, ?_, hp2⟩
  have e' := xv_exec_le e (Nat.le_max_left f g)
  have e2' := xv_exec_le e2 (Nat.le_max_right f g)
  show xv_exec sc xt_cd xt_cp xt_cs xt_lg xt_mx (max f g + 1) y pc L st h = _
  rw [xv_exec]
  simp only [hc, hk, ha, e']
  exact e2'
theorem xx_mono {P' : Option Value → xv_H → Prop} (hm : xx sc y pc L st h P') (k : ∀ r h', P' r h' → P r h') : xx sc y pc L st h P := by
  obtain ⟨f, r, h', e, hp⟩ := hm
  exact ⟨f, r, h', e, k r h' hp⟩
theorem xo_null (hc : xt_cd y pc = some (.aconst_null, r, q)) (k : xx sc y (pc + 1) (L) (.null :: st) h P) : xx sc y pc L (st) h P :=
  xx_act hc rfl (by simp [xv_act, xv_nx]) k
theorem xo_iconst (hc : xt_cd y pc = some (.iconst off, r, q)) (k : xx sc y (pc + 1) (L) (.int (Int32.ofInt off) :: st) h P) : xx sc y pc L (st) h P :=
  xx_act hc rfl (by simp [xv_act, xv_nx]) k
theorem xo_bipush (hc : xt_cd y pc = some (.bipush off, r, q)) (k : xx sc y (pc + 2) (L) (.int (Int8.ofInt off).toInt32 :: st) h P) : xx sc y pc L (st) h P :=
  xx_act hc rfl (by simp [xv_act, xv_nx]) k
theorem xo_sipush (hc : xt_cd y pc = some (.sipush off, r, q)) (k : xx sc y (pc + 3) (L) (.int (Int16.ofInt off).toInt32 :: st) h P) : xx sc y pc L (st) h P :=
  xx_act hc rfl (by simp [xv_act, xv_nx]) k
theorem xo_lconst {k0 : Fin 2} (hc : xt_cd y pc = some (.lconst k0, r, q)) (k : xx sc y (pc + 1) (L) (.long (Int64.ofNat (k0 : Nat)) :: st) h P) : xx sc y pc L (st) h P :=
  xx_act hc rfl (by simp [xv_act, xv_nx]) k
theorem xo_ldc {i0 : Nat} (hc : xt_cd y pc = some (.ldc i0, r, 0)) (k : xx sc y (pc + 2) L (.int (Int32.ofNat r) :: st) h P) : xx sc y pc L st h P :=
  xx_act hc rfl (by simp [xv_act, xv_nx]) k
theorem xo_ldcM {i0 : Nat} (hc : xt_cd y pc = some (.ldc i0, r, 1)) (k : xx sc y (pc + 2) L (.ref (xv_SB + 1) :: st) h P) : xx sc y pc L st h P :=
  xx_act hc rfl (by simp [xv_act, xv_nx]) k
theorem xo_ldc2 (hc : xt_cd y pc = some (.ldc2_w i, r, q)) (k : xx sc y (pc + 3) (L) (.long (Int64.ofNat r) :: st) h P) : xx sc y pc L (st) h P :=
  xx_act hc rfl (by simp [xv_act, xv_nx]) k
theorem xo_iload (hc : xt_cd y pc = some (.iload i, r, q)) (hl : L[i]? = some (some (.int x))) (k : xx sc y (pc + 2) (L) (.int x :: st) h P) : xx sc y pc L (st) h P :=
  xx_act hc rfl (by simp [xv_act, xv_nx, xv_iload, hl]) k
theorem xo_lload (hc : xt_cd y pc = some (.lload i, r, q)) (hl : L[i]? = some (some (.long u))) (k : xx sc y (pc + 2) (L) (.long u :: st) h P) : xx sc y pc L (st) h P :=
  xx_act hc rfl (by simp [xv_act, xv_nx, xv_lload, hl]) k
theorem xo_aload (hc : xt_cd y pc = some (.aload i, r, q)) (hl : L[i]? = some (some (.ref a))) (k : xx sc y (pc + 2) (L) (.ref a :: st) h P) : xx sc y pc L (st) h P :=
  xx_act hc rfl (by simp [xv_act, xv_nx, xv_aload, hl, va_rf]) k
theorem xo_aloadN (hc : xt_cd y pc = some (.aload i, r, q)) (hl : L[i]? = some (some .null)) (k : xx sc y (pc + 2) (L) (.null :: st) h P) : xx sc y pc L (st) h P :=
  xx_act hc rfl (by simp [xv_act, xv_nx, xv_aload, hl, va_rf]) k
theorem xo_istore (hc : xt_cd y pc = some (.istore i, r, q)) (hl : i < L.length) (hb : xv_b1 (xt_lg y) i = true) (k : xx sc y (pc + 2) (L.set i (some (.int x))) (st) h P) : xx sc y pc L (.int x :: st) h P :=
  xx_act hc rfl (by simp [xv_act, xv_nx, xv_i1, xv_st1, hl, hb, va_rf]) k
theorem xo_astore (hc : xt_cd y pc = some (.astore i, r, q)) (hl : i < L.length) (hb : xv_b1 (xt_lg y) i = true) (k : xx sc y (pc + 2) (L.set i (some (.ref a))) (st) h P) : xx sc y pc L (.ref a :: st) h P :=
  xx_act hc rfl (by simp [xv_act, xv_nx, xv_q1, xv_st1, hl, hb, va_rf]) k
theorem xo_astoreN (hc : xt_cd y pc = some (.astore i, r, q)) (hl : i < L.length) (hb : xv_b1 (xt_lg y) i = true) (k : xx sc y (pc + 2) (L.set i (some (.null))) (st) h P) : xx sc y pc L (.null :: st) h P :=
  xx_act hc rfl (by simp [xv_act, xv_nx, xv_q1, xv_st1, hl, hb, va_rf]) k
theorem xo_lstore (hc : xt_cd y pc = some (.lstore i, r, q)) (hl : i + 1 < L.length) (hb : xv_b1 (xt_lg y) i = true) (hm : (xt_lg y).contains i = true) (k : xx sc y (pc + 2) ((L.set i (some (.long u))).set (i + 1) none) st h P) : xx sc y pc L (.long u :: st) h P :=
  xx_act hc rfl (by simp only [xv_act, xv_nx, xv_l1, xv_st2]; rw [if_pos ⟨hl, hb, hm⟩]) k
theorem xo_iload_n {k0 : Fin 4} (hc : xt_cd y pc = some (.iload_n k0, r, q)) (hl : L[(k0 : Nat)]? = some (some (.int x))) (k : xx sc y (pc + 1) (L) (.int x :: st) h P) : xx sc y pc L (st) h P :=
  xx_act hc rfl (by simp [xv_act, xv_nx, xv_iload, hl]) k
theorem xo_lload_n {k0 : Fin 4} (hc : xt_cd y pc = some (.lload_n k0, r, q)) (hl : L[(k0 : Nat)]? = some (some (.long u))) (k : xx sc y (pc + 1) (L) (.long u :: st) h P) : xx sc y pc L (st) h P :=
  xx_act hc rfl (by simp [xv_act, xv_nx, xv_lload, hl]) k
theorem xo_aload_n {k0 : Fin 4} (hc : xt_cd y pc = some (.aload_n k0, r, q)) (hl : L[(k0 : Nat)]? = some (some (.ref a))) (k : xx sc y (pc + 1) (L) (.ref a :: st) h P) : xx sc y pc L (st) h P :=
  xx_act hc rfl (by simp [xv_act, xv_nx, xv_aload, hl, va_rf]) k
theorem xo_aload_nN {k0 : Fin 4} (hc : xt_cd y pc = some (.aload_n k0, r, q)) (hl : L[(k0 : Nat)]? = some (some .null)) (k : xx sc y (pc + 1) (L) (.null :: st) h P) : xx sc y pc L (st) h P :=
  xx_act hc rfl (by simp [xv_act, xv_nx, xv_aload, hl, va_rf]) k
theorem xo_istore_n {k0 : Fin 4} (hc : xt_cd y pc = some (.istore_n k0, r, q)) (hl : (k0 : Nat) < L.length) (hb : xv_b1 (xt_lg y) (k0 : Nat) = true) (k : xx sc y (pc + 1) (L.set (k0 : Nat) (some (.int x))) (st) h P) : xx sc y pc L (.int x :: st) h P :=
  xx_act hc rfl (by simp [xv_act, xv_nx, xv_i1, xv_st1, hl, hb, va_rf]) k
theorem xo_astore_n {k0 : Fin 4} (hc : xt_cd y pc = some (.astore_n k0, r, q)) (hl : (k0 : Nat) < L.length) (hb : xv_b1 (xt_lg y) (k0 : Nat) = true) (k : xx sc y (pc + 1) (L.set (k0 : Nat) (some (.ref a))) (st) h P) : xx sc y pc L (.ref a :: st) h P :=
  xx_act hc rfl (by simp [xv_act, xv_nx, xv_q1, xv_st1, hl, hb, va_rf]) k
theorem xo_astore_nN {k0 : Fin 4} (hc : xt_cd y pc = some (.astore_n k0, r, q)) (hl : (k0 : Nat) < L.length) (hb : xv_b1 (xt_lg y) (k0 : Nat) = true) (k : xx sc y (pc + 1) (L.set (k0 : Nat) (some (.null))) (st) h P) : xx sc y pc L (.null :: st) h P :=
  xx_act hc rfl (by simp [xv_act, xv_nx, xv_q1, xv_st1, hl, hb, va_rf]) k
theorem xo_lstore_n {k0 : Fin 4} (hc : xt_cd y pc = some (.lstore_n k0, r, q)) (hl : (k0 : Nat) + 1 < L.length) (hb : xv_b1 (xt_lg y) (k0 : Nat) = true) (hm : (xt_lg y).contains (k0 : Nat) = true) (k : xx sc y (pc + 1) ((L.set (k0 : Nat) (some (.long u))).set ((k0 : Nat) + 1) none) st h P) : xx sc y pc L (.long u :: st) h P :=
  xx_act hc rfl (by simp only [xv_act, xv_nx, xv_l1, xv_st2]; rw [if_pos ⟨hl, hb, hm⟩]) k
theorem xo_iinc (hc : xt_cd y pc = some (.iinc i off, r, q)) (hv : L[i]? = some (some (.int x))) (hl : i < L.length) (hb : xv_b1 (xt_lg y) i = true) (k : xx sc y (pc + 3) (L.set i (some (.int (x + Int32.ofInt off)))) st h P) : xx sc y pc L st h P :=
  xx_act hc rfl (by simp only [xv_act, xv_nx, xv_iload, hv, xv_st1]; rw [if_pos ⟨hl, hb⟩]) k
theorem xo_iadd (hc : xt_cd y pc = some (.iadd, r, q)) (k : xx sc y (pc + 1) (L) (.int (x + z) :: st) h P) : xx sc y pc L (.int z :: .int x :: st) h P :=
  xx_act hc rfl (by simp [xv_act, xv_nx, xv_i2]) k
theorem xo_isub (hc : xt_cd y pc = some (.isub, r, q)) (k : xx sc y (pc + 1) (L) (.int (x - z) :: st) h P) : xx sc y pc L (.int z :: .int x :: st) h P :=
  xx_act hc rfl (by simp [xv_act, xv_nx, xv_i2]) k
theorem xo_imul (hc : xt_cd y pc = some (.imul, r, q)) (k : xx sc y (pc + 1) (L) (.int (x * z) :: st) h P) : xx sc y pc L (.int z :: .int x :: st) h P :=
  xx_act hc rfl (by simp [xv_act, xv_nx, xv_i2]) k
theorem xo_iand (hc : xt_cd y pc = some (.iand, r, q)) (k : xx sc y (pc + 1) (L) (.int (x &&& z) :: st) h P) : xx sc y pc L (.int z :: .int x :: st) h P :=
  xx_act hc rfl (by simp [xv_act, xv_nx, xv_i2]) k
theorem xo_ior (hc : xt_cd y pc = some (.ior, r, q)) (k : xx sc y (pc + 1) (L) (.int (x ||| z) :: st) h P) : xx sc y pc L (.int z :: .int x :: st) h P :=
  xx_act hc rfl (by simp [xv_act, xv_nx, xv_i2]) k
theorem xo_ishl (hc : xt_cd y pc = some (.ishl, r, q)) (k : xx sc y (pc + 1) (L) (.int (x <<< (z &&& 31)) :: st) h P) : xx sc y pc L (.int z :: .int x :: st) h P :=
  xx_act hc rfl (by simp [xv_act, xv_nx, xv_i2]) k
theorem xo_ishr (hc : xt_cd y pc = some (.ishr, r, q)) (k : xx sc y (pc + 1) (L) (.int (x >>> (z &&& 31)) :: st) h P) : xx sc y pc L (.int z :: .int x :: st) h P :=
  xx_act hc rfl (by simp [xv_act, xv_nx, xv_i2]) k
theorem xo_idiv (hc : xt_cd y pc = some (.idiv, r, q)) (hz : ¬ z = 0) (k : xx sc y (pc + 1) (L) (.int (x / z) :: st) h P) : xx sc y pc L (.int z :: .int x :: st) h P :=
  xx_act hc rfl (by simp [xv_act, xv_nx, xv_i2, hz]) k
theorem xo_irem (hc : xt_cd y pc = some (.irem, r, q)) (hz : ¬ z = 0) (k : xx sc y (pc + 1) (L) (.int (x - x / z * z) :: st) h P) : xx sc y pc L (.int z :: .int x :: st) h P :=
  xx_act hc rfl (by simp [xv_act, xv_nx, xv_i2, hz]) k
theorem xo_ladd (hc : xt_cd y pc = some (.ladd, r, q)) (k : xx sc y (pc + 1) (L) (.long (u + v) :: st) h P) : xx sc y pc L (.long v :: .long u :: st) h P :=
  xx_act hc rfl (by simp [xv_act, xv_nx, xv_l2]) k
theorem xo_lmul (hc : xt_cd y pc = some (.lmul, r, q)) (k : xx sc y (pc + 1) (L) (.long (u * v) :: st) h P) : xx sc y pc L (.long v :: .long u :: st) h P :=
  xx_act hc rfl (by simp [xv_act, xv_nx, xv_l2]) k
theorem xo_land (hc : xt_cd y pc = some (.land, r, q)) (k : xx sc y (pc + 1) (L) (.long (u &&& v) :: st) h P) : xx sc y pc L (.long v :: .long u :: st) h P :=
  xx_act hc rfl (by simp [xv_act, xv_nx, xv_l2]) k
theorem xo_lor (hc : xt_cd y pc = some (.lor, r, q)) (k : xx sc y (pc + 1) (L) (.long (u ||| v) :: st) h P) : xx sc y pc L (.long v :: .long u :: st) h P :=
  xx_act hc rfl (by simp [xv_act, xv_nx, xv_l2]) k
theorem xo_lxor (hc : xt_cd y pc = some (.lxor, r, q)) (k : xx sc y (pc + 1) (L) (.long (u ^^^ v) :: st) h P) : xx sc y pc L (.long v :: .long u :: st) h P :=
  xx_act hc rfl (by simp [xv_act, xv_nx, xv_l2]) k
theorem xo_lshl (hc : xt_cd y pc = some (.lshl, r, q)) (k : xx sc y (pc + 1) (L) (.long (u <<< (z.toInt64 &&& 63)) :: st) h P) : xx sc y pc L (.int z :: .long u :: st) h P :=
  xx_act hc rfl (by simp [xv_act, xv_nx, xv_li]) k
theorem xo_lshr (hc : xt_cd y pc = some (.lshr, r, q)) (k : xx sc y (pc + 1) (L) (.long (u >>> (z.toInt64 &&& 63)) :: st) h P) : xx sc y pc L (.int z :: .long u :: st) h P :=
  xx_act hc rfl (by simp [xv_act, xv_nx, xv_li]) k
theorem xo_i2l (hc : xt_cd y pc = some (.i2l, r, q)) (k : xx sc y (pc + 1) (L) (.long x.toInt64 :: st) h P) : xx sc y pc L (.int x :: st) h P :=
  xx_act hc rfl (by simp [xv_act, xv_nx, xv_i1]) k
theorem xo_l2i (hc : xt_cd y pc = some (.l2i, r, q)) (k : xx sc y (pc + 1) (L) (.int u.toInt32 :: st) h P) : xx sc y pc L (.long u :: st) h P :=
  xx_act hc rfl (by simp [xv_act, xv_nx, xv_l1]) k
theorem xo_i2b (hc : xt_cd y pc = some (.i2b, r, q)) (k : xx sc y (pc + 1) (L) (.int x.toInt8.toInt32 :: st) h P) : xx sc y pc L (.int x :: st) h P :=
  xx_act hc rfl (by simp [xv_act, xv_nx, xv_i1]) k
theorem xo_pop (hc : xt_cd y pc = some (.pop, r, q)) (h1 : va.category = 1) (k : xx sc y (pc + 1) (L) (st) h P) : xx sc y pc L (va :: st) h P :=
  xx_act hc rfl (by simp [xv_act, xv_nx, xv_v1, h1]) k
theorem xo_dup (hc : xt_cd y pc = some (.dup, r, q)) (h1 : va.category = 1) (k : xx sc y (pc + 1) (L) (va :: va :: st) h P) : xx sc y pc L (va :: st) h P :=
  xx_act hc rfl (by simp [xv_act, xv_nx, xv_v1, h1]) k
theorem xo_dup_x1 (hc : xt_cd y pc = some (.dup_x1, r, q)) (h1 : va.category = 1) (h2 : vb.category = 1) (k : xx sc y (pc + 1) (L) (va :: vb :: va :: st) h P) : xx sc y pc L (va :: vb :: st) h P :=
  xx_act hc rfl (by simp [xv_act, xv_nx, xv_v1, h1, h2]) k
theorem xo_dup_x2 (hc : xt_cd y pc = some (.dup_x2, r, q)) (h1 : va.category = 1) (h2 : vb.category = 1) (h3 : vd.category = 1) (k : xx sc y (pc + 1) (L) (va :: vb :: vd :: va :: st) h P) : xx sc y pc L (va :: vb :: vd :: st) h P :=
  xx_act hc rfl (by simp [xv_act, xv_nx, xv_v1, h1, h2, h3]) k
theorem xo_dup2 (hc : xt_cd y pc = some (.dup2, r, q)) (h1 : va.category = 1) (h2 : vb.category = 1) (k : xx sc y (pc + 1) (L) (va :: vb :: va :: vb :: st) h P) : xx sc y pc L (va :: vb :: st) h P :=
  xx_act hc rfl (by simp [xv_act, xv_nx, xv_v1, h1, h2]) k
theorem xo_if_eq (hc : xt_cd y pc = some (.ifCond .eq off, r, q)) (ht : (pc : Int) + off = (t : Int)) (kt : (x = 0) → xx sc y t L st h P) (kf : ¬ (x = 0) → xx sc y (pc + 3) L st h P) : xx sc y pc L (.int x :: st) h P := by
  by_cases hp : x = 0
  · exact xx_act hc rfl (by simp only [xv_act, xv_i1, xv_if, xv_cnd, hp, ht, xv_jmp, xv_nx, decide_true, not_false_eq_true, not_true_eq_false, decide_false, if_true]) (kt hp)
  · exact xx_act hc rfl (by simp only [xv_act, xv_i1, xv_if, xv_cnd, hp, xv_nx, decide_false, Bool.false_eq_true, if_false]) (kf hp)
theorem xo_if_eqT (hc : xt_cd y pc = some (.ifCond .eq off, r, q)) (ht : (pc : Int) + off = (t : Int)) (hp : x = 0) (kt : xx sc y t L st h P) : xx sc y pc L (.int x :: st) h P := xo_if_eq hc ht (fun _ => kt) (fun z => absurd hp z)
theorem xo_if_eqF (hc : xt_cd y pc = some (.ifCond .eq off, r, q)) (ht : (pc : Int) + off = (t : Int)) (hp : ¬ (x = 0)) (kf : xx sc y (pc + 3) L st h P) : xx sc y pc L (.int x :: st) h P := xo_if_eq hc ht (fun z => absurd z hp) (fun _ => kf)
theorem xo_icmp_eq (hc : xt_cd y pc = some (.if_icmp .eq off, r, q)) (ht : (pc : Int) + off = (t : Int)) (kt : (x = z) → xx sc y t L st h P) (kf : ¬ (x = z) → xx sc y (pc + 3) L st h P) : xx sc y pc L (.int z :: .int x :: st) h P := by
  by_cases hp : x = z
  · exact xx_act hc rfl (by simp only [xv_act, xv_i2, xv_if, xv_cnd, hp, ht, xv_jmp, xv_nx, decide_true, not_false_eq_true, not_true_eq_false, decide_false, if_true]) (kt hp)
  · exact xx_act hc rfl (by simp only [xv_act, xv_i2, xv_if, xv_cnd, hp, xv_nx, decide_false, Bool.false_eq_true, if_false]) (kf hp)
theorem xo_icmp_eqT (hc : xt_cd y pc = some (.if_icmp .eq off, r, q)) (ht : (pc : Int) + off = (t : Int)) (hp : x = z) (kt : xx sc y t L st h P) : xx sc y pc L (.int z :: .int x :: st) h P := xo_icmp_eq hc ht (fun _ => kt) (fun z => absurd hp z)
theorem xo_icmp_eqF (hc : xt_cd y pc = some (.if_icmp .eq off, r, q)) (ht : (pc : Int) + off = (t : Int)) (hp : ¬ (x = z)) (kf : xx sc y (pc + 3) L st h P) : xx sc y pc L (.int z :: .int x :: st) h P := xo_icmp_eq hc ht (fun z => absurd z hp) (fun _ => kf)
theorem xo_if_ne (hc : xt_cd y pc = some (.ifCond .ne off, r, q)) (ht : (pc : Int) + off = (t : Int)) (kt : (¬ x = 0) → xx sc y t L st h P) (kf : ¬ (¬ x = 0) → xx sc y (pc + 3) L st h P) : xx sc y pc L (.int x :: st) h P := by
  by_cases hp : ¬ x = 0
  · exact xx_act hc rfl (by simp only [xv_act, xv_i1, xv_if, xv_cnd, hp, ht, xv_jmp, xv_nx, decide_true, not_false_eq_true, not_true_eq_false, decide_false, if_true]) (kt hp)
  · exact xx_act hc rfl (by simp only [xv_act, xv_i1, xv_if, xv_cnd, hp, xv_nx, decide_false, Bool.false_eq_true, if_false]) (kf hp)
theorem xo_if_neT (hc : xt_cd y pc = some (.ifCond .ne off, r, q)) (ht : (pc : Int) + off = (t : Int)) (hp : ¬ x = 0) (kt : xx sc y t L st h P) : xx sc y pc L (.int x :: st) h P := xo_if_ne hc ht (fun _ => kt) (fun z => absurd hp z)
theorem xo_if_neF (hc : xt_cd y pc = some (.ifCond .ne off, r, q)) (ht : (pc : Int) + off = (t : Int)) (hp : ¬ (¬ x = 0)) (kf : xx sc y (pc + 3) L st h P) : xx sc y pc L (.int x :: st) h P := xo_if_ne hc ht (fun z => absurd z hp) (fun _ => kf)
theorem xo_icmp_ne (hc : xt_cd y pc = some (.if_icmp .ne off, r, q)) (ht : (pc : Int) + off = (t : Int)) (kt : (¬ x = z) → xx sc y t L st h P) (kf : ¬ (¬ x = z) → xx sc y (pc + 3) L st h P) : xx sc y pc L (.int z :: .int x :: st) h P := by
  by_cases hp : ¬ x = z
  · exact xx_act hc rfl (by simp only [xv_act, xv_i2, xv_if, xv_cnd, hp, ht, xv_jmp, xv_nx, decide_true, not_false_eq_true, not_true_eq_false, decide_false, if_true]) (kt hp)
  · exact xx_act hc rfl (by simp only [xv_act, xv_i2, xv_if, xv_cnd, hp, xv_nx, decide_false, Bool.false_eq_true, if_false]) (kf hp)
theorem xo_icmp_neT (hc : xt_cd y pc = some (.if_icmp .ne off, r, q)) (ht : (pc : Int) + off = (t : Int)) (hp : ¬ x = z) (kt : xx sc y t L st h P) : xx sc y pc L (.int z :: .int x :: st) h P := xo_icmp_ne hc ht (fun _ => kt) (fun z => absurd hp z)
theorem xo_icmp_neF (hc : xt_cd y pc = some (.if_icmp .ne off, r, q)) (ht : (pc : Int) + off = (t : Int)) (hp : ¬ (¬ x = z)) (kf : xx sc y (pc + 3) L st h P) : xx sc y pc L (.int z :: .int x :: st) h P := xo_icmp_ne hc ht (fun z => absurd z hp) (fun _ => kf)
theorem xo_if_lt (hc : xt_cd y pc = some (.ifCond .lt off, r, q)) (ht : (pc : Int) + off = (t : Int)) (kt : (x < 0) → xx sc y t L st h P) (kf : ¬ (x < 0) → xx sc y (pc + 3) L st h P) : xx sc y pc L (.int x :: st) h P := by
  by_cases hp : x < 0
  · exact xx_act hc rfl (by simp only [xv_act, xv_i1, xv_if, xv_cnd, hp, ht, xv_jmp, xv_nx, decide_true, not_false_eq_true, not_true_eq_false, decide_false, if_true]) (kt hp)
  · exact xx_act hc rfl (by simp only [xv_act, xv_i1, xv_if, xv_cnd, hp, xv_nx, decide_false, Bool.false_eq_true, if_false]) (kf hp)
theorem xo_if_ltT (hc : xt_cd y pc = some (.ifCond .lt off, r, q)) (ht : (pc : Int) + off = (t : Int)) (hp : x < 0) (kt : xx sc y t L st h P) : xx sc y pc L (.int x :: st) h P := xo_if_lt hc ht (fun _ => kt) (fun z => absurd hp z)
theorem xo_if_ltF (hc : xt_cd y pc = some (.ifCond .lt off, r, q)) (ht : (pc : Int) + off = (t : Int)) (hp : ¬ (x < 0)) (kf : xx sc y (pc + 3) L st h P) : xx sc y pc L (.int x :: st) h P := xo_if_lt hc ht (fun z => absurd z hp) (fun _ => kf)
theorem xo_icmp_lt (hc : xt_cd y pc = some (.if_icmp .lt off, r, q)) (ht : (pc : Int) + off = (t : Int)) (kt : (x < z) → xx sc y t L st h P) (kf : ¬ (x < z) → xx sc y (pc + 3) L st h P) : xx sc y pc L (.int z :: .int x :: st) h P := by
  by_cases hp : x < z
  · exact xx_act hc rfl (by simp only [xv_act, xv_i2, xv_if, xv_cnd, hp, ht, xv_jmp, xv_nx, decide_true, not_false_eq_true, not_true_eq_false, decide_false, if_true]) (kt hp)
  · exact xx_act hc rfl (by simp only [xv_act, xv_i2, xv_if, xv_cnd, hp, xv_nx, decide_false, Bool.false_eq_true, if_false]) (kf hp)
theorem xo_icmp_ltT (hc : xt_cd y pc = some (.if_icmp .lt off, r, q)) (ht : (pc : Int) + off = (t : Int)) (hp : x < z) (kt : xx sc y t L st h P) : xx sc y pc L (.int z :: .int x :: st) h P := xo_icmp_lt hc ht (fun _ => kt) (fun z => absurd hp z)
theorem xo_icmp_ltF (hc : xt_cd y pc = some (.if_icmp .lt off, r, q)) (ht : (pc : Int) + off = (t : Int)) (hp : ¬ (x < z)) (kf : xx sc y (pc + 3) L st h P) : xx sc y pc L (.int z :: .int x :: st) h P := xo_icmp_lt hc ht (fun z => absurd z hp) (fun _ => kf)
theorem xo_if_ge (hc : xt_cd y pc = some (.ifCond .ge off, r, q)) (ht : (pc : Int) + off = (t : Int)) (kt : (0 ≤ x) → xx sc y t L st h P) (kf : ¬ (0 ≤ x) → xx sc y (pc + 3) L st h P) : xx sc y pc L (.int x :: st) h P := by
  by_cases hp : 0 ≤ x
  · exact xx_act hc rfl (by simp only [xv_act, xv_i1, xv_if, xv_cnd, hp, ht, xv_jmp, xv_nx, decide_true, not_false_eq_true, not_true_eq_false, decide_false, if_true]) (kt hp)
  · exact xx_act hc rfl (by simp only [xv_act, xv_i1, xv_if, xv_cnd, hp, xv_nx, decide_false, Bool.false_eq_true, if_false]) (kf hp)
theorem xo_if_geT (hc : xt_cd y pc = some (.ifCond .ge off, r, q)) (ht : (pc : Int) + off = (t : Int)) (hp : 0 ≤ x) (kt : xx sc y t L st h P) : xx sc y pc L (.int x :: st) h P := xo_if_ge hc ht (fun _ => kt) (fun z => absurd hp z)
theorem xo_if_geF (hc : xt_cd y pc = some (.ifCond .ge off, r, q)) (ht : (pc : Int) + off = (t : Int)) (hp : ¬ (0 ≤ x)) (kf : xx sc y (pc + 3) L st h P) : xx sc y pc L (.int x :: st) h P := xo_if_ge hc ht (fun z => absurd z hp) (fun _ => kf)
theorem xo_icmp_ge (hc : xt_cd y pc = some (.if_icmp .ge off, r, q)) (ht : (pc : Int) + off = (t : Int)) (kt : (z ≤ x) → xx sc y t L st h P) (kf : ¬ (z ≤ x) → xx sc y (pc + 3) L st h P) : xx sc y pc L (.int z :: .int x :: st) h P := by
  by_cases hp : z ≤ x
  · exact xx_act hc rfl (by simp only [xv_act, xv_i2, xv_if, xv_cnd, hp, ht, xv_jmp, xv_nx, decide_true, not_false_eq_true, not_true_eq_false, decide_false, if_true]) (kt hp)
  · exact xx_act hc rfl (by simp only [xv_act, xv_i2, xv_if, xv_cnd, hp, xv_nx, decide_false, Bool.false_eq_true, if_false]) (kf hp)
theorem xo_icmp_geT (hc : xt_cd y pc = some (.if_icmp .ge off, r, q)) (ht : (pc : Int) + off = (t : Int)) (hp : z ≤ x) (kt : xx sc y t L st h P) : xx sc y pc L (.int z :: .int x :: st) h P := xo_icmp_ge hc ht (fun _ => kt) (fun z => absurd hp z)
theorem xo_icmp_geF (hc : xt_cd y pc = some (.if_icmp .ge off, r, q)) (ht : (pc : Int) + off = (t : Int)) (hp : ¬ (z ≤ x)) (kf : xx sc y (pc + 3) L st h P) : xx sc y pc L (.int z :: .int x :: st) h P := xo_icmp_ge hc ht (fun z => absurd z hp) (fun _ => kf)
theorem xo_if_gt (hc : xt_cd y pc = some (.ifCond .gt off, r, q)) (ht : (pc : Int) + off = (t : Int)) (kt : (0 < x) → xx sc y t L st h P) (kf : ¬ (0 < x) → xx sc y (pc + 3) L st h P) : xx sc y pc L (.int x :: st) h P := by
  by_cases hp : 0 < x
  · exact xx_act hc rfl (by simp only [xv_act, xv_i1, xv_if, xv_cnd, hp, ht, xv_jmp, xv_nx, decide_true, not_false_eq_true, not_true_eq_false, decide_false, if_true]) (kt hp)
  · exact xx_act hc rfl (by simp only [xv_act, xv_i1, xv_if, xv_cnd, hp, xv_nx, decide_false, Bool.false_eq_true, if_false]) (kf hp)
theorem xo_if_gtT (hc : xt_cd y pc = some (.ifCond .gt off, r, q)) (ht : (pc : Int) + off = (t : Int)) (hp : 0 < x) (kt : xx sc y t L st h P) : xx sc y pc L (.int x :: st) h P := xo_if_gt hc ht (fun _ => kt) (fun z => absurd hp z)
theorem xo_if_gtF (hc : xt_cd y pc = some (.ifCond .gt off, r, q)) (ht : (pc : Int) + off = (t : Int)) (hp : ¬ (0 < x)) (kf : xx sc y (pc + 3) L st h P) : xx sc y pc L (.int x :: st) h P := xo_if_gt hc ht (fun z => absurd z hp) (fun _ => kf)
theorem xo_icmp_gt (hc : xt_cd y pc = some (.if_icmp .gt off, r, q)) (ht : (pc : Int) + off = (t : Int)) (kt : (z < x) → xx sc y t L st h P) (kf : ¬ (z < x) → xx sc y (pc + 3) L st h P) : xx sc y pc L (.int z :: .int x :: st) h P := by
  by_cases hp : z < x
  · exact xx_act hc rfl (by simp only [xv_act, xv_i2, xv_if, xv_cnd, hp, ht, xv_jmp, xv_nx, decide_true, not_false_eq_true, not_true_eq_false, decide_false, if_true]) (kt hp)
  · exact xx_act hc rfl (by simp only [xv_act, xv_i2, xv_if, xv_cnd, hp, xv_nx, decide_false, Bool.false_eq_true, if_false]) (kf hp)
theorem xo_icmp_gtT (hc : xt_cd y pc = some (.if_icmp .gt off, r, q)) (ht : (pc : Int) + off = (t : Int)) (hp : z < x) (kt : xx sc y t L st h P) : xx sc y pc L (.int z :: .int x :: st) h P := xo_icmp_gt hc ht (fun _ => kt) (fun z => absurd hp z)
theorem xo_icmp_gtF (hc : xt_cd y pc = some (.if_icmp .gt off, r, q)) (ht : (pc : Int) + off = (t : Int)) (hp : ¬ (z < x)) (kf : xx sc y (pc + 3) L st h P) : xx sc y pc L (.int z :: .int x :: st) h P := xo_icmp_gt hc ht (fun z => absurd z hp) (fun _ => kf)
theorem xo_if_le (hc : xt_cd y pc = some (.ifCond .le off, r, q)) (ht : (pc : Int) + off = (t : Int)) (kt : (x ≤ 0) → xx sc y t L st h P) (kf : ¬ (x ≤ 0) → xx sc y (pc + 3) L st h P) : xx sc y pc L (.int x :: st) h P := by
  by_cases hp : x ≤ 0
  · exact xx_act hc rfl (by simp only [xv_act, xv_i1, xv_if, xv_cnd, hp, ht, xv_jmp, xv_nx, decide_true, not_false_eq_true, not_true_eq_false, decide_false, if_true]) (kt hp)
  · exact xx_act hc rfl (by simp only [xv_act, xv_i1, xv_if, xv_cnd, hp, xv_nx, decide_false, Bool.false_eq_true, if_false]) (kf hp)
theorem xo_if_leT (hc : xt_cd y pc = some (.ifCond .le off, r, q)) (ht : (pc : Int) + off = (t : Int)) (hp : x ≤ 0) (kt : xx sc y t L st h P) : xx sc y pc L (.int x :: st) h P := xo_if_le hc ht (fun _ => kt) (fun z => absurd hp z)
theorem xo_if_leF (hc : xt_cd y pc = some (.ifCond .le off, r, q)) (ht : (pc : Int) + off = (t : Int)) (hp : ¬ (x ≤ 0)) (kf : xx sc y (pc + 3) L st h P) : xx sc y pc L (.int x :: st) h P := xo_if_le hc ht (fun z => absurd z hp) (fun _ => kf)
theorem xo_icmp_le (hc : xt_cd y pc = some (.if_icmp .le off, r, q)) (ht : (pc : Int) + off = (t : Int)) (kt : (x ≤ z) → xx sc y t L st h P) (kf : ¬ (x ≤ z) → xx sc y (pc + 3) L st h P) : xx sc y pc L (.int z :: .int x :: st) h P := by
  by_cases hp : x ≤ z
  · exact xx_act hc rfl (by simp only [xv_act, xv_i2, xv_if, xv_cnd, hp, ht, xv_jmp, xv_nx, decide_true, not_false_eq_true, not_true_eq_false, decide_false, if_true]) (kt hp)
  · exact xx_act hc rfl (by simp only [xv_act, xv_i2, xv_if, xv_cnd, hp, xv_nx, decide_false, Bool.false_eq_true, if_false]) (kf hp)
theorem xo_icmp_leT (hc : xt_cd y pc = some (.if_icmp .le off, r, q)) (ht : (pc : Int) + off = (t : Int)) (hp : x ≤ z) (kt : xx sc y t L st h P) : xx sc y pc L (.int z :: .int x :: st) h P := xo_icmp_le hc ht (fun _ => kt) (fun z => absurd hp z)
theorem xo_icmp_leF (hc : xt_cd y pc = some (.if_icmp .le off, r, q)) (ht : (pc : Int) + off = (t : Int)) (hp : ¬ (x ≤ z)) (kf : xx sc y (pc + 3) L st h P) : xx sc y pc L (.int z :: .int x :: st) h P := xo_icmp_le hc ht (fun z => absurd z hp) (fun _ => kf)
theorem xo_goto (hc : xt_cd y pc = some (.goto off, r, q)) (ht : (pc : Int) + off = (t : Int)) (k : xx sc y t L st h P) : xx sc y pc L st h P :=
  xx_act hc rfl (by simp only [xv_act, ht, xv_jmp, xv_nx]) k
theorem xo_ifnullN (hc : xt_cd y pc = some (.ifnull off, r, q)) (ht : (pc : Int) + off = (t : Int)) (k : xx sc y t L st h P) : xx sc y pc L (.null :: st) h P :=
  xx_act hc rfl (by simp [xv_act, xv_q1, xv_if, ht, xv_jmp, xv_nx]) k
theorem xo_ifnullR (hc : xt_cd y pc = some (.ifnull off, r, q)) (ht : (pc : Int) + off = (t : Int)) (k : xx sc y (pc + 3) L st h P) : xx sc y pc L (.ref a :: st) h P :=
  xx_act hc rfl (by simp [xv_act, xv_q1, xv_if, ht, xv_jmp, xv_nx]) k
theorem xo_ifnonnullN (hc : xt_cd y pc = some (.ifnonnull off, r, q)) (ht : (pc : Int) + off = (t : Int)) (k : xx sc y (pc + 3) L st h P) : xx sc y pc L (.null :: st) h P :=
  xx_act hc rfl (by simp [xv_act, xv_q1, xv_if, ht, xv_jmp, xv_nx]) k
theorem xo_ifnonnullR (hc : xt_cd y pc = some (.ifnonnull off, r, q)) (ht : (pc : Int) + off = (t : Int)) (k : xx sc y t L st h P) : xx sc y pc L (.ref a :: st) h P :=
  xx_act hc rfl (by simp [xv_act, xv_q1, xv_if, ht, xv_jmp, xv_nx]) k
theorem xo_acmp_eq {o1 o2 : Option Nat} (hc : xt_cd y pc = some (.if_acmp .eq off, r, q)) (ht : (pc : Int) + off = (t : Int)) (hk : xv_cok o1 o2 = true) (ke : o1 = o2 → xx sc y t L st h P) (kn : ¬ o1 = o2 → xx sc y (pc + 3) L st h P) : xx sc y pc L (va_rf o2 :: va_rf o1 :: st) h P := by
  by_cases hp : o1 = o2
  · refine xx_act hc rfl ?_ (ke hp)
    subst hp
    cases o1 <;> simp [xv_act, xv_q1, va_rf, hk, xv_if, ht, xv_jmp, xv_nx]
  · refine xx_act hc rfl ?_ (kn hp)
    cases o1 <;> cases o2 <;> simp [xv_act, xv_q1, va_rf, hk, xv_if, ht, xv_jmp, xv_nx] <;> simp_all
theorem xo_acmp_ne {o1 o2 : Option Nat} (hc : xt_cd y pc = some (.if_acmp .ne off, r, q)) (ht : (pc : Int) + off = (t : Int)) (hk : xv_cok o1 o2 = true) (ke : o1 = o2 → xx sc y (pc + 3) L st h P) (kn : ¬ o1 = o2 → xx sc y t L st h P) : xx sc y pc L (va_rf o2 :: va_rf o1 :: st) h P := by
  by_cases hp : o1 = o2
  · refine xx_act hc rfl ?_ (ke hp)
    subst hp
    cases o1 <;> simp [xv_act, xv_q1, va_rf, hk, xv_if, ht, xv_jmp, xv_nx]
  · refine xx_act hc rfl ?_ (kn hp)
    cases o1 <;> cases o2 <;> simp [xv_act, xv_q1, va_rf, hk, xv_if, ht, xv_jmp, xv_nx] <;> simp_all
theorem xo_tabOut {d lo hi : Int} {offs : Array Int} (hc : xt_cd y pc = some (.tableswitch d lo hi offs, r, q)) (hx : x.toInt < lo ∨ hi < x.toInt) (ht : (pc : Int) + d = (t : Int)) (k : xx sc y t L st h P) : xx sc y pc L (.int x :: st) h P :=
  xx_act hc rfl (by simp only [xv_act, xv_i1]; rw [if_pos hx]; simp only [ht, xv_jmp, xv_nx]) k
theorem xo_tabIn {d lo hi : Int} {offs : Array Int} (hc : xt_cd y pc = some (.tableswitch d lo hi offs, r, q)) (hx : ¬ (x.toInt < lo ∨ hi < x.toInt)) (ho : offs[(x.toInt - lo).toNat]? = some off) (ht : (pc : Int) + off = (t : Int)) (k : xx sc y t L st h P) : xx sc y pc L (.int x :: st) h P :=
  xx_act hc rfl (by simp only [xv_act, xv_i1]; rw [if_neg hx]; simp only [ho, ht, xv_jmp, xv_nx]) k
theorem xo_geti {i0 : Nat} (hc : xt_cd y pc = some (.getfield i0, r, q)) (hq : ¬ q = 1) (ha : a < n) (ht : tg a = r / 100) (k : xx sc y (pc + 3) L (.int (fi r a) :: st) (n, zz, tg, ln, fr, er, fi, ei, el) P) : xx sc y pc L (.ref a :: st) (n, zz, tg, ln, fr, er, fi, ei, el) P :=
  xx_act hc rfl (by simp [xv_act, xv_r1, ha, ht, hq, xv_nx]) k
theorem xo_getr {i0 : Nat} (hc : xt_cd y pc = some (.getfield i0, r, 1)) (ha : a < n) (ht : tg a = r / 100) (k : xx sc y (pc + 3) L (va_rf (fr r a) :: st) (n, zz, tg, ln, fr, er, fi, ei, el) P) : xx sc y pc L (.ref a :: st) (n, zz, tg, ln, fr, er, fi, ei, el) P :=
  xx_act hc rfl (by simp [xv_act, xv_r1, ha, ht, xv_nx]) k
/-- .. that is known -/
theorem xo_getv {i0 : Nat} (hc : xt_cd y pc = some (.getfield i0, r, 1)) (ha : a < n) (ht : tg a = r / 100) (hv : fr r a = some b) (k : xx sc y (pc + 3) L (.ref b :: st) (n, zz, tg, ln, fr, er, fi, ei, el) P) : xx sc y pc L (.ref a :: st) (n, zz, tg, ln, fr, er, fi, ei, el) P :=
  xo_getr hc ha ht (by rw [hv]; exact k)
theorem xo_puti {i0 : Nat} (hc : xt_cd y pc = some (.putfield i0, r, 0)) (ha : a < n) (ht : tg a = r / 100) (k : xx sc y (pc + 3) L st (n, zz, tg, ln, fr, er, xv_up fi r a x, ei, el) P) : xx sc y pc L (.int x :: .ref a :: st) (n, zz, tg, ln, fr, er, fi, ei, el) P :=
  xx_act hc rfl (by simp [xv_act, xv_i1, xv_r1, ha, ht, xv_nx]) k
theorem xo_putz {i0 : Nat} (hc : xt_cd y pc = some (.putfield i0, r, 2)) (ha : a < n) (ht : tg a = r / 100) (hx : x = 0 ∨ x = 1) (k : xx sc y (pc + 3) L st (n, zz, tg, ln, fr, er, xv_up fi r a x, ei, el) P) : xx sc y pc L (.int x :: .ref a :: st) (n, zz, tg, ln, fr, er, fi, ei, el) P :=
  xx_act hc rfl (by simp [xv_act, xv_i1, xv_r1, ha, ht, hx, xv_nx]) k
theorem xo_putr {i0 : Nat} (hc : xt_cd y pc = some (.putfield i0, r, 1)) (ha : a < n) (ht : tg a = r / 100) (k : xx sc y (pc + 3) L st (n, zz, tg, ln, xv_up fr r a (some b), er, fi, ei, el) P) : xx sc y pc L (.ref b :: .ref a :: st) (n, zz, tg, ln, fr, er, fi, ei, el) P :=
  xx_act hc rfl (by simp [xv_act, xv_q1, xv_r1, ha, ht, xv_nx]) k
theorem xo_putN {i0 : Nat} (hc : xt_cd y pc = some (.putfield i0, r, 1)) (ha : a < n) (ht : tg a = r / 100) (k : xx sc y (pc + 3) L st (n, zz, tg, ln, xv_up fr r a none, er, fi, ei, el) P) : xx sc y pc L (.null :: .ref a :: st) (n, zz, tg, ln, fr, er, fi, ei, el) P :=
  xx_act hc rfl (by simp [xv_act, xv_q1, xv_r1, ha, ht, xv_nx]) k
theorem xo_gets {i0 : Nat} (hc : xt_cd y pc = some (.getstatic i0, r, q)) (k : xx sc y (pc + 3) L (.ref (xv_SB + r) :: st) h P) : xx sc y pc L st h P :=
  xx_act hc rfl (by simp [xv_act, xv_nx]) k
theorem xo_iald (hc : xt_cd y pc = some (.iaload, r, q)) (ha : a < n) (h0 : 0 ≤ j) (hj : j.toNatClampNeg < ln a) (ht : tg a = 100) (hS : ¬ a = xv_SB) (k : xx sc y (pc + 1) L (.int (ei a j.toNatClampNeg) :: st) (n, zz, tg, ln, fr, er, fi, ei, el) P) : xx sc y pc L (.int j :: .ref a :: st) (n, zz, tg, ln, fr, er, fi, ei, el) P :=
  xx_act hc rfl (by simp [xv_act, xv_i1, xv_r1, xv_in, ha, h0, hj, ht, xv_nx, hS]) k
theorem xo_bald (hc : xt_cd y pc = some (.baload, r, q)) (ha : a < n) (h0 : 0 ≤ j) (hj : j.toNatClampNeg < ln a) (ht : tg a = 101) (k : xx sc y (pc + 1) L (.int (ei a j.toNatClampNeg) :: st) (n, zz, tg, ln, fr, er, fi, ei, el) P) : xx sc y pc L (.int j :: .ref a :: st) (n, zz, tg, ln, fr, er, fi, ei, el) P :=
  xx_act hc rfl (by simp [xv_act, xv_i1, xv_r1, xv_in, ha, h0, hj, ht, xv_nx]) k
theorem xo_zald (hc : xt_cd y pc = some (.baload, r, q)) (ha : a < n) (h0 : 0 ≤ j) (hj : j.toNatClampNeg < ln a) (ht : tg a = 102) (k : xx sc y (pc + 1) L (.int (ei a j.toNatClampNeg) :: st) (n, zz, tg, ln, fr, er, fi, ei, el) P) : xx sc y pc L (.int j :: .ref a :: st) (n, zz, tg, ln, fr, er, fi, ei, el) P :=
  xx_act hc rfl (by simp [xv_act, xv_i1, xv_r1, xv_in, ha, h0, hj, ht, xv_nx]) k
theorem xo_lald (hc : xt_cd y pc = some (.laload, r, q)) (ha : a < n) (h0 : 0 ≤ j) (hj : j.toNatClampNeg < ln a) (ht : tg a = 103) (k : xx sc y (pc + 1) L (.long (el a j.toNatClampNeg) :: st) (n, zz, tg, ln, fr, er, fi, ei, el) P) : xx sc y pc L (.int j :: .ref a :: st) (n, zz, tg, ln, fr, er, fi, ei, el) P :=
  xx_act hc rfl (by simp [xv_act, xv_i1, xv_r1, xv_in, ha, h0, hj, ht, xv_nx]) k
theorem xo_aald (hc : xt_cd y pc = some (.aaload, r, q)) (ha : a < n) (h0 : 0 ≤ j) (hj : j.toNatClampNeg < ln a) (ht : tg a = r) (k : xx sc y (pc + 1) L (va_rf (er a j.toNatClampNeg) :: st) (n, zz, tg, ln, fr, er, fi, ei, el) P) : xx sc y pc L (.int j :: .ref a :: st) (n, zz, tg, ln, fr, er, fi, ei, el) P :=
  xx_act hc rfl (by simp [xv_act, xv_i1, xv_r1, xv_in, ha, h0, hj, ht, xv_nx]) k
theorem xo_aaldv (hc : xt_cd y pc = some (.aaload, r, q)) (ha : a < n) (h0 : 0 ≤ j) (hj : j.toNatClampNeg < ln a) (ht : tg a = r) (hv : er a j.toNatClampNeg = some b) (k : xx sc y (pc + 1) L (.ref b :: st) (n, zz, tg, ln, fr, er, fi, ei, el) P) : xx sc y pc L (.int j :: .ref a :: st) (n, zz, tg, ln, fr, er, fi, ei, el) P := xo_aald hc ha h0 hj ht (by rw [hv]; exact k)
theorem xo_iast (hc : xt_cd y pc = some (.iastore, r, q)) (ha : a < n) (h0 : 0 ≤ j) (hj : j.toNatClampNeg < ln a) (ht : tg a = 100) (k : xx sc y (pc + 1) L st (n, zz, tg, ln, fr, er, fi, xv_up ei a j.toNatClampNeg x, el) P) : xx sc y pc L (.int x :: .int j :: .ref a :: st) (n, zz, tg, ln, fr, er, fi, ei, el) P :=
  xx_act hc rfl (by simp [xv_act, xv_i1, xv_l1, xv_q1, xv_r1, xv_in, ha, h0, hj, ht, xv_nx]) k
theorem xo_bast (hc : xt_cd y pc = some (.bastore, r, q)) (ha : a < n) (h0 : 0 ≤ j) (hj : j.toNatClampNeg < ln a) (ht : tg a = 101) (k : xx sc y (pc + 1) L st (n, zz, tg, ln, fr, er, fi, xv_up ei a j.toNatClampNeg x.toInt8.toInt32, el) P) : xx sc y pc L (.int x :: .int j :: .ref a :: st) (n, zz, tg, ln, fr, er, fi, ei, el) P :=
  xx_act hc rfl (by simp [xv_act, xv_i1, xv_l1, xv_q1, xv_r1, xv_in, ha, h0, hj, ht, xv_nx]) k
theorem xo_zast (hc : xt_cd y pc = some (.bastore, r, q)) (ha : a < n) (h0 : 0 ≤ j) (hj : j.toNatClampNeg < ln a) (ht : tg a = 102) (hx : x = 0 ∨ x = 1) (k : xx sc y (pc + 1) L st (n, zz, tg, ln, fr, er, fi, xv_up ei a j.toNatClampNeg x, el) P) : xx sc y pc L (.int x :: .int j :: .ref a :: st) (n, zz, tg, ln, fr, er, fi, ei, el) P :=
  xx_act hc rfl (by simp [xv_act, xv_i1, xv_l1, xv_q1, xv_r1, xv_in, ha, h0, hj, ht, xv_nx, hx]) k
theorem xo_last (hc : xt_cd y pc = some (.lastore, r, q)) (ha : a < n) (h0 : 0 ≤ j) (hj : j.toNatClampNeg < ln a) (ht : tg a = 103) (k : xx sc y (pc + 1) L st (n, zz, tg, ln, fr, er, fi, ei, xv_up el a j.toNatClampNeg u) P) : xx sc y pc L (.long u :: .int j :: .ref a :: st) (n, zz, tg, ln, fr, er, fi, ei, el) P :=
  xx_act hc rfl (by simp [xv_act, xv_i1, xv_l1, xv_q1, xv_r1, xv_in, ha, h0, hj, ht, xv_nx]) k
theorem xo_aastN (hc : xt_cd y pc = some (.aastore, r, q)) (ha : a < n) (h0 : 0 ≤ j) (hj : j.toNatClampNeg < ln a) (ht : tg a = r) (k : xx sc y (pc + 1) L st (n, zz, tg, ln, fr, xv_up er a j.toNatClampNeg none, fi, ei, el) P) : xx sc y pc L (.null :: .int j :: .ref a :: st) (n, zz, tg, ln, fr, er, fi, ei, el) P :=
  xx_act hc rfl (by simp [xv_act, xv_i1, xv_l1, xv_q1, xv_r1, xv_in, ha, h0, hj, ht, xv_nx, xv_ok]) k
theorem xo_aast (hc : xt_cd y pc = some (.aastore, r, q)) (ha : a < n) (h0 : 0 ≤ j) (hj : j.toNatClampNeg < ln a) (ht : tg a = r) (hb : b < n) (htb : tg b = xt_cp r) (k : xx sc y (pc + 1) L st (n, zz, tg, ln, fr, xv_up er a j.toNatClampNeg (some b), fi, ei, el) P) : xx sc y pc L (.ref b :: .int j :: .ref a :: st) (n, zz, tg, ln, fr, er, fi, ei, el) P :=
  xx_act hc rfl (by simp [xv_act, xv_i1, xv_l1, xv_q1, xv_r1, xv_in, ha, h0, hj, ht, xv_nx, xv_ok, hb, htb]) k
theorem xo_alen (hc : xt_cd y pc = some (.arraylength, r, q)) (ha : a < n) (h1 : ¬ a = xv_SB) (h2 : ¬ (a = xv_SB + 2 ∧ q = 1)) (ht : tg a = r) (k : xx sc y (pc + 1) L (.int (Int32.ofNat (ln a)) :: st) (n, zz, tg, ln, fr, er, fi, ei, el) P) : xx sc y pc L (.ref a :: st) (n, zz, tg, ln, fr, er, fi, ei, el) P :=
  xx_act hc rfl (by simp only [xv_act, xv_r1]; rw [if_neg h1, if_neg h2, if_pos ⟨ha, ht⟩]; rfl) k
theorem xo_elen (hc : xt_cd y pc = some (.arraylength, r, 1)) (k : xx sc y (pc + 1) L (.int 0 :: st) h P) : xx sc y pc L (.ref (xv_SB + 2) :: st) h P :=
  xx_act hc rfl (by simp [xv_act, xv_r1, xv_nx]) k
theorem xo_slen (hc : xt_cd y pc = some (.arraylength, r, q)) (k : xx sc y (pc + 1) L (.int (Int32.ofNat sc.1) :: st) h P) : xx sc y pc L (.ref xv_SB :: st) h P :=
  xx_act hc rfl (by simp [xv_act, xv_r1, xv_nx]) k
theorem xo_sald (hc : xt_cd y pc = some (.iaload, r, q)) (h0 : 0 ≤ j) (hj : j.toNatClampNeg < sc.1) (k : xx sc y (pc + 1) L (.int (sc.2 j.toNatClampNeg) :: st) h P) : xx sc y pc L (.int j :: .ref xv_SB :: st) h P :=
  xx_act hc rfl (by simp [xv_act, xv_i1, xv_r1, h0, hj, xv_nx]) k
theorem xo_new {i0 : Nat} (hc : xt_cd y pc = some (.new i0, r, q)) (k : xx sc y (pc + 3) L (.ref n :: st) (xv_new (n, zz, tg, ln, fr, er, fi, ei, el) r 0 q) P) : xx sc y pc L st (n, zz, tg, ln, fr, er, fi, ei, el) P :=
  xx_act hc rfl (by simp [xv_act, xv_new1, xv_nx]) k
theorem xo_newa {at_ : ClassFile.ArrayType} (hc : xt_cd y pc = some (.newarray at_, r, q)) (h0 : 0 ≤ x) (hx : x.toNatClampNeg ≤ 60000000) (k : xx sc y (pc + 2) L (.ref n :: st) (xv_new (n, zz, tg, ln, fr, er, fi, ei, el) r x.toNatClampNeg x.toNatClampNeg) P) : xx sc y pc L (.int x :: st) (n, zz, tg, ln, fr, er, fi, ei, el) P :=
  xx_act hc rfl (by simp [xv_act, xv_i1, xv_len, h0, hx, xv_new1, xv_nx]) k
theorem xo_anew {i0 : Nat} (hc : xt_cd y pc = some (.anewarray i0, r, q)) (h0 : 0 ≤ x) (hx : x.toNatClampNeg ≤ 60000000) (k : xx sc y (pc + 3) L (.ref n :: st) (xv_new (n, zz, tg, ln, fr, er, fi, ei, el) r x.toNatClampNeg x.toNatClampNeg) P) : xx sc y pc L (.int x :: st) (n, zz, tg, ln, fr, er, fi, ei, el) P :=
  xx_act hc rfl (by simp [xv_act, xv_i1, xv_len, h0, hx, xv_new1, xv_nx]) k
theorem xo_cast {i0 : Nat} (hc : xt_cd y pc = some (.checkcast i0, r, q)) (ha : a < n) (ht : tg a = r) (k : xx sc y (pc + 3) L (.ref a :: st) (n, zz, tg, ln, fr, er, fi, ei, el) P) : xx sc y pc L (.ref a :: st) (n, zz, tg, ln, fr, er, fi, ei, el) P :=
  xx_act hc rfl (by simp [xv_act, ha, ht, xv_nx]) k
theorem xo_castN {i0 : Nat} (hc : xt_cd y pc = some (.checkcast i0, r, q)) (k : xx sc y (pc + 3) L (.null :: st) h P) : xx sc y pc L (.null :: st) h P :=
  xx_act hc rfl (by simp [xv_act, xv_nx]) k
theorem xo_ireturn (hc : xt_cd y pc = some (.ireturn, r, 0)) (hp : P (some (.int x)) h) : xx sc y pc L [.int x] h P := xx_ret hc rfl (by simp [xv_ret]) hp
theorem xo_zreturn (hc : xt_cd y pc = some (.ireturn, r, 2)) (hx : x = 0 ∨ x = 1) (hp : P (some (.int x)) h) : xx sc y pc L [.int x] h P := xx_ret hc rfl (by simp [xv_ret, hx]) hp
theorem xo_lreturn (hc : xt_cd y pc = some (.lreturn, r, q)) (hp : P (some (.long u)) h) : xx sc y pc L [.long u] h P := xx_ret hc rfl (by simp [xv_ret]) hp
theorem xo_areturn (hc : xt_cd y pc = some (.areturn, r, q)) (hp : P (some (.ref a)) h) : xx sc y pc L [.ref a] h P := xx_ret hc rfl (by simp [xv_ret]) hp
theorem xo_areturnN (hc : xt_cd y pc = some (.areturn, r, q)) (hp : P (some .null) h) : xx sc y pc L [.null] h P := xx_ret hc rfl (by simp [xv_ret]) hp
theorem xo_return (hc : xt_cd y pc = some (.return_, r, q)) (hp : P none h) : xx sc y pc L [] h P := xx_ret hc rfl (by simp [xv_ret]) hp
theorem xo_init {i0 : Nat} (hc : xt_cd y pc = some (.invokespecial i0, 1001, q)) (hr : xv_room st = true) (k : xx sc y (pc + 3) L st h P) : xx sc y pc L (.ref a :: st) h P :=
  xx_own hc rfl (by simp [xv_inv, xv_r1, hr, xv_nx]) k
theorem xo_min {i0 : Nat} (hc : xt_cd y pc = some (.invokestatic i0, 1004, q)) (hr : xv_room st = true) (k : xx sc y (pc + 3) L (.int (if z < x then z else x) :: st) h P) : xx sc y pc L (.int z :: .int x :: st) h P :=
  xx_own hc rfl (by simp [xv_inv, xv_i2, hr, xv_nx]) k
theorem xo_max {i0 : Nat} (hc : xt_cd y pc = some (.invokestatic i0, 1005, q)) (hr : xv_room st = true) (k : xx sc y (pc + 3) L (.int (if x < z then z else x) :: st) h P) : xx sc y pc L (.int z :: .int x :: st) h P :=
  xx_own hc rfl (by simp [xv_inv, xv_i2, hr, xv_nx]) k
theorem xo_getC {i0 : Nat} (hc : xt_cd y pc = some (.invokevirtual i0, 1003, q)) (ha : a < n) (ht : tg a = q) (hr : xv_room st = true) (k : xx sc y (pc + 3) L (.ref (xv_SB + 1) :: st) (n, zz, tg, ln, fr, er, fi, ei, el) P) : xx sc y pc L (.ref a :: st) (n, zz, tg, ln, fr, er, fi, ei, el) P :=
  xx_own hc rfl (by simp [xv_inv, xv_r1, ha, ht, hr, xv_nx]) k
/-- calls -/
theorem xo_static {i0 : Nat} {P' : Option Value → xv_H → Prop} {av rest : List Value} (hc : xt_cd y pc = some (.invokestatic i0, r, q)) (hr : ¬ r = 1000 ∧ ¬ r = 1004 ∧ ¬ r = 1005) (hst : st = av.reverse ++ rest) (hq : av.length = q) (hf : xv_fit (xt_lg r) (xt_mx r) 0 av = true) (hR : xv_room rest = true) (hm : xr sc r av h P') (k : ∀ v h', P' v h' → xx sc y (pc + 3) L (v.toList ++ rest) h' P) : xx sc y pc L st h P := by
  subst hst; subst hq
  refine xx_call (av := av) (rest := rest) hc rfl ?_ hm k
  have e1 : (av.reverse ++ rest).take av.length = av.reverse := by rw [← List.length_reverse]; exact List.take_left' rfl
  have e2 : (av.reverse ++ rest).drop av.length = rest := by rw [← List.length_reverse]; exact List.drop_left' rfl
  simp only [xv_inv, if_neg hr.1, if_neg hr.2.1, if_neg hr.2.2]
  rw [if_neg (by simp), e1, e2, List.reverse_reverse]
  simp only [xv_call, hf, hR]
  rfl
theorem xo_special {i0 : Nat} {P' : Option Value → xv_H → Prop} {av rest : List Value} (hc : xt_cd y pc = some (.invokespecial i0, r, q)) (hr : ¬ r = 1001) (hst : st = av.reverse ++ .ref a :: rest) (hq : av.length = q) (hf : xv_fit (xt_lg r) (xt_mx r) 0 (.ref a :: av) = true) (hR : xv_room rest = true) (hm : xr sc r (.ref a :: av) h P') (k : ∀ v h', P' v h' → xx sc y (pc + 3) L (v.toList ++ rest) h' P) : xx sc y pc L st h P := by
  subst hst; subst hq
  refine xx_call (av := .ref a :: av) (rest := rest) hc rfl ?_ hm k
  have e1 : (av.reverse ++ .ref a :: rest).take av.length = av.reverse := by rw [← List.length_reverse]; exact List.take_left' rfl
  have e2 : (av.reverse ++ .ref a :: rest).drop av.length = .ref a :: rest := by rw [← List.length_reverse]; exact List.drop_left' rfl
  simp only [xv_inv, if_neg hr]
  rw [if_neg (by simp), e1, e2, List.reverse_reverse]
  simp only [xv_r1, xv_call, hf, hR]
  rfl
theorem xo_virtual {i0 : Nat} {P' : Option Value → xv_H → Prop} {av rest : List Value} (hc : xt_cd y pc = some (.invokevirtual i0, r, q)) (hr : ¬ r = 1002 ∧ ¬ r = 1003) (ha : a < n) (ht : tg a = xt_cs r) (hst : st = av.reverse ++ .ref a :: rest) (hq : av.length = q) (hf : xv_fit (xt_lg r) (xt_mx r) 0 (.ref a :: av) = true) (hR : xv_room rest = true) (hm : xr sc r (.ref a :: av) (n, zz, tg, ln, fr, er, fi, ei, el) P') (k : ∀ v h', P' v h' → xx sc y (pc + 3) L (v.toList ++ rest) h' P) : xx sc y pc L st (n, zz, tg, ln, fr, er, fi, ei, el) P := by
  subst hst; subst hq
  refine xx_call (av := .ref a :: av) (rest := rest) hc rfl ?_ hm k
  have e1 : (av.reverse ++ .ref a :: rest).take av.length = av.reverse := by rw [← List.length_reverse]; exact List.take_left' rfl
  have e2 : (av.reverse ++ .ref a :: rest).drop av.length = .ref a :: rest := by rw [← List.length_reverse]; exact List.drop_left' rfl
  simp only [xv_inv, if_neg hr.1, if_neg hr.2]
  rw [if_neg (by simp), e1, e2, List.reverse_reverse]
  simp only [xv_r1]
  rw [if_pos ⟨ha, ht⟩]
  simp only [xv_call, hf, hR]
  rfl
end XO
end
section
/-! Programs over the abstract heap: what a method does, free of stack and locals. -/
abbrev xm (α : Type) : Type := xv_H → Option (α × xv_H)
def mr {α : Type} (x : α) : xm α := fun h => some (x, h)
def mb {α β : Type} (p : xm α) (k : α → xm β) : xm β := fun h => match p h with
  | none => none
  | some (x, h1) => k x h1
theorem mb_inv {α β : Type} {p : xm α} {k : α → xm β} {h : xv_H} {X : β × xv_H} (e : mb p k h = some X) : ∃ x h1, p h = some (x, h1) ∧ k x h1 = some X := by
  unfold mb at e
  split at e
  · cases e
  · rename_i x h1 hp
    exact ⟨x, h1, hp, e⟩
theorem mb_some {α β : Type} {p : xm α} {k : α → xm β} {h h1 : xv_H} {x : α} (e : p h = some (x, h1)) : mb p k h = k x h1 := by
  unfold mb
  rw [e]
/-- not null -/
def nn (w : Option Nat) : xm Nat := fun h => match w with
  | some a => some (a, h)
  | none => none
def gi (f a : Nat) : xm Int32 := fun h => if a < h.1 ∧ h.2.2.1 a = f / 100 then some (h.2.2.2.2.2.2.1 f a, h) else none
def gr (f a : Nat) : xm (Option Nat) := fun h => if a < h.1 ∧ h.2.2.1 a = f / 100 then some (h.2.2.2.2.1 f a, h) else none
def pi_ (f a : Nat) (x : Int32) : xm Unit := fun h => if a < h.1 ∧ h.2.2.1 a = f / 100 then (match h with | (n, z, tg, ln, fr, er, fi, ei, el) => some ((), (n, z, tg, ln, fr, er, xv_up fi f a x, ei, el))) else none
def pz (f a : Nat) (x : Int32) : xm Unit := fun h => if (a < h.1 ∧ h.2.2.1 a = f / 100) ∧ (x = 0 ∨ x = 1) then (match h with | (n, z, tg, ln, fr, er, fi, ei, el) => some ((), (n, z, tg, ln, fr, er, xv_up fi f a x, ei, el))) else none
def pr (f a : Nat) (w : Option Nat) : xm Unit := fun h => if a < h.1 ∧ h.2.2.1 a = f / 100 then (match h with | (n, z, tg, ln, fr, er, fi, ei, el) => some ((), (n, z, tg, ln, xv_up fr f a w, er, fi, ei, el))) else none
def li (a : Nat) (j : Int32) : xm Int32 := fun h => if a < h.1 ∧ 0 ≤ j ∧ j.toNatClampNeg < h.2.2.2.1 a ∧ h.2.2.1 a = 100 ∧ ¬ a = xv_SB then some (h.2.2.2.2.2.2.2.1 a j.toNatClampNeg, h) else none
def lb (a : Nat) (j : Int32) : xm Int32 := fun h => if a < h.1 ∧ 0 ≤ j ∧ j.toNatClampNeg < h.2.2.2.1 a ∧ (h.2.2.1 a = 101 ∨ h.2.2.1 a = 102) then some (h.2.2.2.2.2.2.2.1 a j.toNatClampNeg, h) else none
def ll (a : Nat) (j : Int32) : xm Int64 := fun h => if a < h.1 ∧ 0 ≤ j ∧ j.toNatClampNeg < h.2.2.2.1 a ∧ h.2.2.1 a = 103 then some (h.2.2.2.2.2.2.2.2 a j.toNatClampNeg, h) else none
def lr (t a : Nat) (j : Int32) : xm (Option Nat) := fun h => if a < h.1 ∧ 0 ≤ j ∧ j.toNatClampNeg < h.2.2.2.1 a ∧ h.2.2.1 a = t then some (h.2.2.2.2.2.1 a j.toNatClampNeg, h) else none
def si (a : Nat) (j x : Int32) : xm Unit := fun h => if a < h.1 ∧ 0 ≤ j ∧ j.toNatClampNeg < h.2.2.2.1 a ∧ h.2.2.1 a = 100 then (match h with | (n, z, tg, ln, fr, er, fi, ei, el) => some ((), (n, z, tg, ln, fr, er, fi, xv_up ei a j.toNatClampNeg x, el))) else none
def sb (a : Nat) (j x : Int32) : xm Unit := fun h => if a < h.1 ∧ 0 ≤ j ∧ j.toNatClampNeg < h.2.2.2.1 a then (if h.2.2.1 a = 101 then (match h with | (n, z, tg, ln, fr, er, fi, ei, el) => some ((), (n, z, tg, ln, fr, er, fi, xv_up ei a j.toNatClampNeg x.toInt8.toInt32, el))) else if h.2.2.1 a = 102 ∧ (x = 0 ∨ x = 1) then (match h with | (n, z, tg, ln, fr, er, fi, ei, el) => some ((), (n, z, tg, ln, fr, er, fi, xv_up ei a j.toNatClampNeg x, el))) else none) else none
def sl (a : Nat) (j : Int32) (u : Int64) : xm Unit := fun h => if a < h.1 ∧ 0 ≤ j ∧ j.toNatClampNeg < h.2.2.2.1 a ∧ h.2.2.1 a = 103 then (match h with | (n, z, tg, ln, fr, er, fi, ei, el) => some ((), (n, z, tg, ln, fr, er, fi, ei, xv_up el a j.toNatClampNeg u))) else none
def sr (t a : Nat) (j : Int32) (w : Option Nat) : xm Unit := fun h => if a < h.1 ∧ 0 ≤ j ∧ j.toNatClampNeg < h.2.2.2.1 a ∧ h.2.2.1 a = t ∧ xv_ok xt_cp h a w = true then (match h with | (n, z, tg, ln, fr, er, fi, ei, el) => some ((), (n, z, tg, ln, fr, xv_up er a j.toNatClampNeg w, fi, ei, el))) else none
def len (t q a : Nat) : xm Int32 := fun h => if ¬ a = xv_SB ∧ a = xv_SB + 2 ∧ q = 1 then some (0, h) else if ¬ a = xv_SB ∧ ¬ (a = xv_SB + 2 ∧ q = 1) ∧ a < h.1 ∧ h.2.2.1 a = t then some (Int32.ofNat (h.2.2.2.1 a), h) else none
def nw (t q : Nat) : xm Nat := fun h => some (h.1, xv_new h t 0 q)
def na (t : Nat) (x : Int32) : xm Nat := fun h => if 0 ≤ x ∧ x.toNatClampNeg ≤ 60000000 then some (h.1, xv_new h t x.toNatClampNeg x.toNatClampNeg) else none
/-- a cast: null, or a cell of that tag -/
def ct (t : Nat) (w : Option Nat) : xm Unit := fun h => match w with
  | none => some ((), h)
  | some a => if a < h.1 ∧ h.2.2.1 a = t then some ((), h) else none
/-- may be compared -/
def cq (w1 w2 : Option Nat) : xm Unit := fun h => if xv_cok w1 w2 = true then some ((), h) else none
def dz (x : Int32) : xm Unit := fun h => if x = 0 then none else some ((), h)
def bz (x : Int32) : xm Unit := fun h => if x = 0 ∨ x = 1 then some ((), h) else none
def cy (t : Nat) (k dp : Int32) (d : Nat) (sp : Int32) (s : Nat) : xm Unit := fun h => match xv_copy xt_cp t 0 [] h k dp d sp s [] with
  | some x => some ((), x.2.2.2)
  | none => none
def cn (a : Nat) : xm Nat := fun h => match xv_clone 0 [] h a [] with
  | some x => some (h.1, x.2.2.2)
  | none => none
def gc (t a : Nat) : xm Unit := fun h => if a < h.1 ∧ h.2.2.1 a = t then some ((), h) else none
/-- the cell that a virtual call is made on -/
def vc (c a : Nat) : xm Unit := fun h => if a < h.1 ∧ h.2.2.1 a = c then some ((), h) else none
section XDD
variable {sc : Nat × (Nat → Int32)} {y pc : Nat} {L : xv_L} {st : List Value} {h : xv_H} {P : Option Value → xv_H → Prop} {r q i t a b f i0 : Nat} {x z j : Int32} {u v : Int64} {off : Int} {w w1 w2 : Option Nat} {β : Type} {X : β × xv_H}
theorem xo_iconstV (hc : xt_cd y pc = some (.iconst off, r, q)) (hv : Int32.ofInt off = x) (k : xx sc y (pc + 1) L (.int x :: st) h P) : xx sc y pc L st h P := xo_iconst hc (by rw [hv]; exact k)
theorem xo_bipushV (hc : xt_cd y pc = some (.bipush off, r, q)) (hv : (Int8.ofInt off).toInt32 = x) (k : xx sc y (pc + 2) L (.int x :: st) h P) : xx sc y pc L st h P := xo_bipush hc (by rw [hv]; exact k)
theorem xo_sipushV (hc : xt_cd y pc = some (.sipush off, r, q)) (hv : (Int16.ofInt off).toInt32 = x) (k : xx sc y (pc + 3) L (.int x :: st) h P) : xx sc y pc L st h P := xo_sipush hc (by rw [hv]; exact k)
theorem xo_ldcV (hc : xt_cd y pc = some (.ldc i0, r, 0)) (hv : Int32.ofNat r = x) (k : xx sc y (pc + 2) L (.int x :: st) h P) : xx sc y pc L st h P := xo_ldc hc (by rw [hv]; exact k)
theorem xo_lconstV {k0 : Fin 2} (hc : xt_cd y pc = some (.lconst k0, r, q)) (hv : Int64.ofNat (k0 : Nat) = u) (k : xx sc y (pc + 1) L (.long u :: st) h P) : xx sc y pc L st h P := xo_lconst hc (by rw [hv]; exact k)
theorem xo_ldc2V (hc : xt_cd y pc = some (.ldc2_w i0, r, q)) (hv : Int64.ofNat r = u) (k : xx sc y (pc + 3) L (.long u :: st) h P) : xx sc y pc L st h P := xo_ldc2 hc (by rw [hv]; exact k)
theorem xo_nullV (hc : xt_cd y pc = some (.aconst_null, r, q)) (k : xx sc y (pc + 1) L (va_rf none :: st) h P) : xx sc y pc L st h P := xo_null hc k
theorem xo_getsV (hc : xt_cd y pc = some (.getstatic i0, r, q)) (k : xx sc y (pc + 3) L (va_rf (some (xv_SB + r)) :: st) h P) : xx sc y pc L st h P := xo_gets hc k
theorem xo_ldcMV (hc : xt_cd y pc = some (.ldc i0, r, 1)) (k : xx sc y (pc + 2) L (va_rf (some (xv_SB + 1)) :: st) h P) : xx sc y pc L st h P := xo_ldcM hc k
theorem xo_aloadQ (hc : xt_cd y pc = some (.aload i, r, q)) (hl : L[i]? = some (some (va_rf w))) (k : xx sc y (pc + 2) L (va_rf w :: st) h P) : xx sc y pc L st h P := by
  cases w
  · exact xo_aloadN hc hl k
  · exact xo_aload hc hl k
theorem xo_aload_nQ {k0 : Fin 4} (hc : xt_cd y pc = some (.aload_n k0, r, q)) (hl : L[(k0 : Nat)]? = some (some (va_rf w))) (k : xx sc y (pc + 1) L (va_rf w :: st) h P) : xx sc y pc L st h P := by
  cases w
  · exact xo_aload_nN hc hl k
  · exact xo_aload_n hc hl k
theorem xo_astoreQ (hc : xt_cd y pc = some (.astore i, r, q)) (hl : i < L.length) (hb : xv_b1 (xt_lg y) i = true) (k : xx sc y (pc + 2) (L.set i (some (va_rf w))) st h P) : xx sc y pc L (va_rf w :: st) h P := by
  cases w
  · exact xo_astoreN hc hl hb k
  · exact xo_astore hc hl hb k
theorem xo_astore_nQ {k0 : Fin 4} (hc : xt_cd y pc = some (.astore_n k0, r, q)) (hl : (k0 : Nat) < L.length) (hb : xv_b1 (xt_lg y) (k0 : Nat) = true) (k : xx sc y (pc + 1) (L.set (k0 : Nat) (some (va_rf w))) st h P) : xx sc y pc L (va_rf w :: st) h P := by
  cases w
  · exact xo_astore_nN hc hl hb k
  · exact xo_astore_n hc hl hb k
theorem va_rf_cat (w : Option Nat) : (va_rf w).category = 1 := by cases w <;> rfl
theorem d_ifnull {A B : xm β} (hc : xt_cd y pc = some (.ifnull off, r, q)) (ht : (pc : Int) + off = (t : Int)) (e : (if w = none then A else B) h = some X) (kt : w = none → A h = some X → xx sc y t L st h P) (kf : ¬ w = none → B h = some X → xx sc y (pc + 3) L st h P) : xx sc y pc L (va_rf w :: st) h P := by
  cases w with
  | none => exact xo_ifnullN hc ht (kt rfl (by simpa using e))
  | some a => exact xo_ifnullR hc ht (kf (fun z => by cases z) (by simpa using e))
theorem d_ifnonnull {A B : xm β} (hc : xt_cd y pc = some (.ifnonnull off, r, q)) (ht : (pc : Int) + off = (t : Int)) (e : (if ¬ w = none then A else B) h = some X) (kt : ¬ w = none → A h = some X → xx sc y t L st h P) (kf : ¬ ¬ w = none → B h = some X → xx sc y (pc + 3) L st h P) : xx sc y pc L (va_rf w :: st) h P := by
  cases w with
  | none => exact xo_ifnonnullN hc ht (kf (fun z => z rfl) (by simpa using e))
  | some a => exact xo_ifnonnullR hc ht (kt (fun z => by cases z) (by simpa using e))
theorem d_acmp_eq {A B : xm β} (hc : xt_cd y pc = some (.if_acmp .eq off, r, q)) (ht : (pc : Int) + off = (t : Int)) (e : mb (cq w1 w2) (fun _ => if w1 = w2 then A else B) h = some X) (kt : w1 = w2 → A h = some X → xx sc y t L st h P) (kf : ¬ w1 = w2 → B h = some X → xx sc y (pc + 3) L st h P) : xx sc y pc L (va_rf w2 :: va_rf w1 :: st) h P := by
  obtain ⟨_, h1, e1, e2⟩ := mb_inv e
  unfold cq at e1
  split at e1
  · rename_i hk
    cases e1
    refine xo_acmp_eq hc ht hk (fun z => kt z ?_) (fun z => kf z ?_)
    · rw [if_pos z] at e2; exact e2
    · rw [if_neg z] at e2; exact e2
  · cases e1
theorem d_acmp_ne {A B : xm β} (hc : xt_cd y pc = some (.if_acmp .ne off, r, q)) (ht : (pc : Int) + off = (t : Int)) (e : mb (cq w1 w2) (fun _ => if ¬ w1 = w2 then A else B) h = some X) (kt : ¬ w1 = w2 → A h = some X → xx sc y t L st h P) (kf : ¬ ¬ w1 = w2 → B h = some X → xx sc y (pc + 3) L st h P) : xx sc y pc L (va_rf w2 :: va_rf w1 :: st) h P := by
  obtain ⟨_, h1, e1, e2⟩ := mb_inv e
  unfold cq at e1
  split at e1
  · rename_i hk
    cases e1
    refine xo_acmp_ne hc ht hk (fun z => kf (fun q => q z) ?_) (fun z => kt z ?_)
    · rw [if_neg (fun q => q z)] at e2; exact e2
    · rw [if_pos z] at e2; exact e2
  · cases e1
theorem d_if_eq {A B : xm β} (hc : xt_cd y pc = some (.ifCond .eq off, r, q)) (ht : (pc : Int) + off = (t : Int)) (e : (if x = 0 then A else B) h = some X) (kt : (x = 0) → A h = some X → xx sc y t L st h P) (kf : ¬ (x = 0) → B h = some X → xx sc y (pc + 3) L st h P) : xx sc y pc L (.int x :: st) h P :=
  xo_if_eq hc ht (fun g => kt g (by rw [if_pos g] at e; exact e)) (fun g => kf g (by rw [if_neg g] at e; exact e))
theorem d_icmp_eq {A B : xm β} (hc : xt_cd y pc = some (.if_icmp .eq off, r, q)) (ht : (pc : Int) + off = (t : Int)) (e : (if x = z then A else B) h = some X) (kt : (x = z) → A h = some X → xx sc y t L st h P) (kf : ¬ (x = z) → B h = some X → xx sc y (pc + 3) L st h P) : xx sc y pc L (.int z :: .int x :: st) h P :=
  xo_icmp_eq hc ht (fun g => kt g (by rw [if_pos g] at e; exact e)) (fun g => kf g (by rw [if_neg g] at e; exact e))
theorem d_if_ne {A B : xm β} (hc : xt_cd y pc = some (.ifCond .ne off, r, q)) (ht : (pc : Int) + off = (t : Int)) (e : (if ¬ x = 0 then A else B) h = some X) (kt : (¬ x = 0) → A h = some X → xx sc y t L st h P) (kf : ¬ (¬ x = 0) → B h = some X → xx sc y (pc + 3) L st h P) : xx sc y pc L (.int x :: st) h P :=
  xo_if_ne hc ht (fun g => kt g (by rw [if_pos g] at e; exact e)) (fun g => kf g (by rw [if_neg g] at e; exact e))
theorem d_icmp_ne {A B : xm β} (hc : xt_cd y pc = some (.if_icmp .ne off, r, q)) (ht : (pc : Int) + off = (t : Int)) (e : (if ¬ x = z then A else B) h = some X) (kt : (¬ x = z) → A h = some X → xx sc y t L st h P) (kf : ¬ (¬ x = z) → B h = some X → xx sc y (pc + 3) L st h P) : xx sc y pc L (.int z :: .int x :: st) h P :=
  xo_icmp_ne hc ht (fun g => kt g (by rw [if_pos g] at e; exact e)) (fun g => kf g (by rw [if_neg g] at e; exact e))
theorem d_if_lt {A B : xm β} (hc : xt_cd y pc = some (.ifCond .lt off, r, q)) (ht : (pc : Int) + off = (t : Int)) (e : (if x < 0 then A else B) h = some X) (kt : (x < 0) → A h = some X → xx sc y t L st h P) (kf : ¬ (x < 0) → B h = some X → xx sc y (pc + 3) L st h P) : xx sc y pc L (.int x :: st) h P :=
  xo_if_lt hc ht (fun g => kt g (by rw [if_pos g] at e; exact e)) (fun g => kf g (by rw [if_neg g] at e; exact e))
theorem d_icmp_lt {A B : xm β} (hc : xt_cd y pc = some (.if_icmp .lt off, r, q)) (ht : (pc : Int) + off = (t : Int)) (e : (if x < z then A else B) h = some X) (kt : (x < z) → A h = some X → xx sc y t L st h P) (kf : ¬ (x < z) → B h = some X → xx sc y (pc + 3) L st h P) : xx sc y pc L (.int z :: .int x :: st) h P :=
  xo_icmp_lt hc ht (fun g => kt g (by rw [if_pos g] at e; exact e)) (fun g => kf g (by rw [if_neg g] at e; exact e))
theorem d_if_ge {A B : xm β} (hc : xt_cd y pc = some (.ifCond .ge off, r, q)) (ht : (pc : Int) + off = (t : Int)) (e : (if 0 ≤ x then A else B) h = some X) (kt : (0 ≤ x) → A h = some X → xx sc y t L st h P) (kf : ¬ (0 ≤ x) → B h = some X → xx sc y (pc + 3) L st h P) : xx sc y pc L (.int x :: st) h P :=
  xo_if_ge hc ht (fun g => kt g (by rw [if_pos g] at e; exact e)) (fun g => kf g (by rw [if_neg g] at e; exact e))
theorem d_icmp_ge {A B : xm β} (hc : xt_cd y pc = some (.if_icmp .ge off, r, q)) (ht : (pc : Int) + off = (t : Int)) (e : (if z ≤ x then A else B) h = some X) (kt : (z ≤ x) → A h = some X → xx sc y t L st h P) (kf : ¬ (z ≤ x) → B h = some X → xx sc y (pc + 3) L st h P) : xx sc y pc L (.int z :: .int x :: st) h P :=
  xo_icmp_ge hc ht (fun g => kt g (by rw [if_pos g] at e; exact e)) (fun g => kf g (by rw [if_neg g] at e; exact e))
theorem d_if_gt {A B : xm β} (hc : xt_cd y pc = some (.ifCond .gt off, r, q)) (ht : (pc : Int) + off = (t : Int)) (e : (if 0 < x then A else B) h = some X) (kt : (0 < x) → A h = some X → xx sc y t L st h P) (kf : ¬ (0 < x) → B h = some X → xx sc y (pc + 3) L st h P) : xx sc y pc L (.int x :: st) h P :=
  xo_if_gt hc ht (fun g => kt g (by rw [if_pos g] at e; exact e)) (fun g => kf g (by rw [if_neg g] at e; exact e))
theorem d_icmp_gt {A B : xm β} (hc : xt_cd y pc = some (.if_icmp .gt off, r, q)) (ht : (pc : Int) + off = (t : Int)) (e : (if z < x then A else B) h = some X) (kt : (z < x) → A h = some X → xx sc y t L st h P) (kf : ¬ (z < x) → B h = some X → xx sc y (pc + 3) L st h P) : xx sc y pc L (.int z :: .int x :: st) h P :=
  xo_icmp_gt hc ht (fun g => kt g (by rw [if_pos g] at e; exact e)) (fun g => kf g (by rw [if_neg g] at e; exact e))
theorem d_if_le {A B : xm β} (hc : xt_cd y pc = some (.ifCond .le off, r, q)) (ht : (pc : Int) + off = (t : Int)) (e : (if x ≤ 0 then A else B) h = some X) (kt : (x ≤ 0) → A h = some X → xx sc y t L st h P) (kf : ¬ (x ≤ 0) → B h = some X → xx sc y (pc + 3) L st h P) : xx sc y pc L (.int x :: st) h P :=
  xo_if_le hc ht (fun g => kt g (by rw [if_pos g] at e; exact e)) (fun g => kf g (by rw [if_neg g] at e; exact e))
theorem d_icmp_le {A B : xm β} (hc : xt_cd y pc = some (.if_icmp .le off, r, q)) (ht : (pc : Int) + off = (t : Int)) (e : (if x ≤ z then A else B) h = some X) (kt : (x ≤ z) → A h = some X → xx sc y t L st h P) (kf : ¬ (x ≤ z) → B h = some X → xx sc y (pc + 3) L st h P) : xx sc y pc L (.int z :: .int x :: st) h P :=
  xo_icmp_le hc ht (fun g => kt g (by rw [if_pos g] at e; exact e)) (fun g => kf g (by rw [if_neg g] at e; exact e))
theorem d_geti {k : Int32 → xm β} (hc : xt_cd y pc = some (.getfield i0, f, 0)) (e : mb (gi f a) k h = some X) (K : ∀ v : Int32, k v h = some X → xx sc y (pc + 3) L (.int v :: st) h P) : xx sc y pc L (.ref a :: st) h P := by
  obtain ⟨v, h1, e1, e2⟩ := mb_inv e
  unfold gi at e1
  split at e1
  · rename_i hk
    cases e1
    obtain ⟨n, zz, tg, ln, fr, er, fi, ei, el⟩ := h
    exact xo_geti hc (by decide) hk.1 hk.2 (K _ e2)
  · cases e1
theorem d_getz {k : Int32 → xm β} (hc : xt_cd y pc = some (.getfield i0, f, 2)) (e : mb (gi f a) k h = some X) (K : ∀ v : Int32, k v h = some X → xx sc y (pc + 3) L (.int v :: st) h P) : xx sc y pc L (.ref a :: st) h P := by
  obtain ⟨v, h1, e1, e2⟩ := mb_inv e
  unfold gi at e1
  split at e1
  · rename_i hk
    cases e1
    obtain ⟨n, zz, tg, ln, fr, er, fi, ei, el⟩ := h
    exact xo_geti hc (by decide) hk.1 hk.2 (K _ e2)
  · cases e1
theorem d_getr {k : Option Nat → xm β} (hc : xt_cd y pc = some (.getfield i0, f, 1)) (e : mb (gr f a) k h = some X) (K : ∀ v : Option Nat, k v h = some X → xx sc y (pc + 3) L (va_rf v :: st) h P) : xx sc y pc L (.ref a :: st) h P := by
  obtain ⟨v, h1, e1, e2⟩ := mb_inv e
  unfold gr at e1
  split at e1
  · rename_i hk
    cases e1
    obtain ⟨n, zz, tg, ln, fr, er, fi, ei, el⟩ := h
    exact xo_getr hc hk.1 hk.2 (K _ e2)
  · cases e1
theorem d_nn {k : Nat → xm β} (e : mb (nn w) k h = some X) (K : ∀ a, w = some a → k a h = some X → xx sc y pc L st h P) : xx sc y pc L st h P := by
  obtain ⟨v, h1, e1, e2⟩ := mb_inv e
  cases w with
  | none => cases e1
  | some a0 => cases e1; exact K _ rfl e2
theorem d_puti {k : Unit → xm β} (hc : xt_cd y pc = some (.putfield i0, f, 0)) (e : mb (pi_ f a x) k h = some X) (K : ∀ h1, k () h1 = some X → xx sc y (pc + 3) L st h1 P) : xx sc y pc L (.int x :: .ref a :: st) h P := by
  obtain ⟨v, h1, e1, e2⟩ := mb_inv e
  obtain ⟨n, zz, tg, ln, fr, er, fi, ei, el⟩ := h
  unfold pi_ at e1
  split at e1
  · rename_i hk
    cases e1
    exact xo_puti hc hk.1 hk.2 (K _ e2)
  · cases e1
theorem d_putz {k : Unit → xm β} (hc : xt_cd y pc = some (.putfield i0, f, 2)) (e : mb (pz f a x) k h = some X) (K : ∀ h1, k () h1 = some X → xx sc y (pc + 3) L st h1 P) : xx sc y pc L (.int x :: .ref a :: st) h P := by
  obtain ⟨v, h1, e1, e2⟩ := mb_inv e
  obtain ⟨n, zz, tg, ln, fr, er, fi, ei, el⟩ := h
  unfold pz at e1
  split at e1
  · rename_i hk
    cases e1
    exact xo_putz hc hk.1.1 hk.1.2 hk.2 (K _ e2)
  · cases e1
theorem d_putr {k : Unit → xm β} (hc : xt_cd y pc = some (.putfield i0, f, 1)) (e : mb (pr f a w) k h = some X) (K : ∀ h1, k () h1 = some X → xx sc y (pc + 3) L st h1 P) : xx sc y pc L (va_rf w :: .ref a :: st) h P := by
  obtain ⟨v, h1, e1, e2⟩ := mb_inv e
  obtain ⟨n, zz, tg, ln, fr, er, fi, ei, el⟩ := h
  unfold pr at e1
  split at e1
  · rename_i hk
    cases e1
    cases w with
    | none => exact xo_putN hc hk.1 hk.2 (K _ e2)
    | some b => exact xo_putr hc hk.1 hk.2 (K _ e2)
  · cases e1
theorem d_iald {k : Int32 → xm β} (hc : xt_cd y pc = some (.iaload, r, q)) (e : mb (li a j) k h = some X) (K : ∀ v : Int32, k v h = some X → xx sc y (pc + 1) L (.int v :: st) h P) : xx sc y pc L (.int j :: .ref a :: st) h P := by
  obtain ⟨v, h1, e1, e2⟩ := mb_inv e
  obtain ⟨n, zz, tg, ln, fr, er, fi, ei, el⟩ := h
  unfold li at e1
  split at e1
  · rename_i hk
    cases e1
    exact xo_iald hc hk.1 hk.2.1 hk.2.2.1 hk.2.2.2.1 hk.2.2.2.2 (K _ e2)
  · cases e1
theorem d_bald {k : Int32 → xm β} (hc : xt_cd y pc = some (.baload, r, q)) (e : mb (lb a j) k h = some X) (K : ∀ v : Int32, k v h = some X → xx sc y (pc + 1) L (.int v :: st) h P) : xx sc y pc L (.int j :: .ref a :: st) h P := by
  obtain ⟨v, h1, e1, e2⟩ := mb_inv e
  obtain ⟨n, zz, tg, ln, fr, er, fi, ei, el⟩ := h
  unfold lb at e1
  split at e1
  · rename_i hk
    cases e1
    rcases hk.2.2.2 with g | g
    · exact xo_bald hc hk.1 hk.2.1 hk.2.2.1 g (K _ e2)
    · exact xo_zald hc hk.1 hk.2.1 hk.2.2.1 g (K _ e2)
  · cases e1
theorem d_lald {k : Int64 → xm β} (hc : xt_cd y pc = some (.laload, r, q)) (e : mb (ll a j) k h = some X) (K : ∀ v : Int64, k v h = some X → xx sc y (pc + 1) L (.long v :: st) h P) : xx sc y pc L (.int j :: .ref a :: st) h P := by
  obtain ⟨v, h1, e1, e2⟩ := mb_inv e
  obtain ⟨n, zz, tg, ln, fr, er, fi, ei, el⟩ := h
  unfold ll at e1
  split at e1
  · rename_i hk
    cases e1
    exact xo_lald hc hk.1 hk.2.1 hk.2.2.1 hk.2.2.2 (K _ e2)
  · cases e1
theorem d_aald {k : Option Nat → xm β} (hc : xt_cd y pc = some (.aaload, r, q)) (e : mb (lr r a j) k h = some X) (K : ∀ v : Option Nat, k v h = some X → xx sc y (pc + 1) L (va_rf v :: st) h P) : xx sc y pc L (.int j :: .ref a :: st) h P := by
  obtain ⟨v, h1, e1, e2⟩ := mb_inv e
  obtain ⟨n, zz, tg, ln, fr, er, fi, ei, el⟩ := h
  unfold lr at e1
  split at e1
  · rename_i hk
    cases e1
    exact xo_aald hc hk.1 hk.2.1 hk.2.2.1 hk.2.2.2 (K _ e2)
  · cases e1
theorem d_iast {k : Unit → xm β} (hc : xt_cd y pc = some (.iastore, r, q)) (e : mb (si a j x) k h = some X) (K : ∀ h1, k () h1 = some X → xx sc y (pc + 1) L st h1 P) : xx sc y pc L (.int x :: .int j :: .ref a :: st) h P := by
  obtain ⟨v, h1, e1, e2⟩ := mb_inv e
  obtain ⟨n, zz, tg, ln, fr, er, fi, ei, el⟩ := h
  unfold si at e1
  split at e1
  · rename_i hk
    cases e1
    exact xo_iast hc hk.1 hk.2.1 hk.2.2.1 hk.2.2.2 (K _ e2)
  · cases e1
theorem d_bast {k : Unit → xm β} (hc : xt_cd y pc = some (.bastore, r, q)) (e : mb (sb a j x) k h = some X) (K : ∀ h1, k () h1 = some X → xx sc y (pc + 1) L st h1 P) : xx sc y pc L (.int x :: .int j :: .ref a :: st) h P := by
  obtain ⟨v, h1, e1, e2⟩ := mb_inv e
  obtain ⟨n, zz, tg, ln, fr, er, fi, ei, el⟩ := h
  unfold sb at e1
  split at e1
  · rename_i hk
    split at e1
    · rename_i g
      cases e1
      exact xo_bast hc hk.1 hk.2.1 hk.2.2 g (K _ e2)
    · split at e1
      · rename_i g
        cases e1
        exact xo_zast hc hk.1 hk.2.1 hk.2.2 g.1 g.2 (K _ e2)
      · cases e1
  · cases e1
theorem d_last {k : Unit → xm β} (hc : xt_cd y pc = some (.lastore, r, q)) (e : mb (sl a j u) k h = some X) (K : ∀ h1, k () h1 = some X → xx sc y (pc + 1) L st h1 P) : xx sc y pc L (.long u :: .int j :: .ref a :: st) h P := by
  obtain ⟨v, h1, e1, e2⟩ := mb_inv e
  obtain ⟨n, zz, tg, ln, fr, er, fi, ei, el⟩ := h
  unfold sl at e1
  split at e1
  · rename_i hk
    cases e1
    exact xo_last hc hk.1 hk.2.1 hk.2.2.1 hk.2.2.2 (K _ e2)
  · cases e1
theorem d_aast {k : Unit → xm β} (hc : xt_cd y pc = some (.aastore, r, q)) (e : mb (sr r a j w) k h = some X) (K : ∀ h1, k () h1 = some X → xx sc y (pc + 1) L st h1 P) : xx sc y pc L (va_rf w :: .int j :: .ref a :: st) h P := by
  obtain ⟨v, h1, e1, e2⟩ := mb_inv e
  obtain ⟨n, zz, tg, ln, fr, er, fi, ei, el⟩ := h
  unfold sr at e1
  split at e1
  · rename_i hk
    cases e1
    cases w with
    | none => exact xo_aastN hc hk.1 hk.2.1 hk.2.2.1 hk.2.2.2.1 (K _ e2)
    | some b =>
      have g := hk.2.2.2.2
      simp only [xv_ok, decide_eq_true_eq] at g
      have g4 : tg a = r := hk.2.2.2.1
      rw [g4] at g
      exact xo_aast hc hk.1 hk.2.1 hk.2.2.1 hk.2.2.2.1 g.1 g.2 (K _ e2)
  · cases e1
theorem d_len {k : Int32 → xm β} (hc : xt_cd y pc = some (.arraylength, r, q)) (e : mb (len r q a) k h = some X) (K : ∀ v : Int32, k v h = some X → xx sc y (pc + 1) L (.int v :: st) h P) : xx sc y pc L (.ref a :: st) h P := by
  obtain ⟨v, h1, e1, e2⟩ := mb_inv e
  obtain ⟨n, zz, tg, ln, fr, er, fi, ei, el⟩ := h
  unfold len at e1
  split at e1
  · rename_i hk
    cases e1
    obtain ⟨-, rfl, rfl⟩ := hk
    exact xo_elen hc (K _ e2)
  · split at e1
    · rename_i hk
      cases e1
      exact xo_alen hc hk.2.2.1 hk.1 hk.2.1 hk.2.2.2 (K _ e2)
    · cases e1
theorem d_new {k : Nat → xm β} (hc : xt_cd y pc = some (.new i0, r, q)) (e : mb (nw r q) k h = some X) (K : ∀ (a : Nat) (h1 : xv_H), k a h1 = some X → xx sc y (pc + 3) L (va_rf (some a) :: st) h1 P) : xx sc y pc L st h P := by
  obtain ⟨v, h1, e1, e2⟩ := mb_inv e
  obtain ⟨n, zz, tg, ln, fr, er, fi, ei, el⟩ := h
  unfold nw at e1
  cases e1
  exact xo_new hc (K _ _ e2)
theorem d_newa {at_ : ClassFile.ArrayType} {k : Nat → xm β} (hc : xt_cd y pc = some (.newarray at_, r, q)) (e : mb (na r x) k h = some X) (K : ∀ (a : Nat) (h1 : xv_H), k a h1 = some X → xx sc y (pc + 2) L (va_rf (some a) :: st) h1 P) : xx sc y pc L (.int x :: st) h P := by
  obtain ⟨v, h1, e1, e2⟩ := mb_inv e
  obtain ⟨n, zz, tg, ln, fr, er, fi, ei, el⟩ := h
  unfold na at e1
  split at e1
  · rename_i hk
    cases e1
    exact xo_newa hc hk.1 hk.2 (K _ _ e2)
  · cases e1
theorem d_anew {k : Nat → xm β} (hc : xt_cd y pc = some (.anewarray i0, r, q)) (e : mb (na r x) k h = some X) (K : ∀ (a : Nat) (h1 : xv_H), k a h1 = some X → xx sc y (pc + 3) L (va_rf (some a) :: st) h1 P) : xx sc y pc L (.int x :: st) h P := by
  obtain ⟨v, h1, e1, e2⟩ := mb_inv e
  obtain ⟨n, zz, tg, ln, fr, er, fi, ei, el⟩ := h
  unfold na at e1
  split at e1
  · rename_i hk
    cases e1
    exact xo_anew hc hk.1 hk.2 (K _ _ e2)
  · cases e1
theorem d_cast {k : Unit → xm β} (hc : xt_cd y pc = some (.checkcast i0, r, q)) (e : mb (ct r w) k h = some X) (K : k () h = some X → xx sc y (pc + 3) L (va_rf w :: st) h P) : xx sc y pc L (va_rf w :: st) h P := by
  obtain ⟨v, h1, e1, e2⟩ := mb_inv e
  obtain ⟨n, zz, tg, ln, fr, er, fi, ei, el⟩ := h
  unfold ct at e1
  cases w with
  | none => cases e1; exact xo_castN hc (K e2)
  | some a =>
    simp only at e1
    split at e1
    · rename_i hk
      cases e1
      exact xo_cast hc hk.1 hk.2 (K e2)
    · cases e1
theorem d_idiv {k : Unit → xm β} (hc : xt_cd y pc = some (.idiv, r, q)) (e : mb (dz z) k h = some X) (K : k () h = some X → xx sc y (pc + 1) L (.int (x / z) :: st) h P) : xx sc y pc L (.int z :: .int x :: st) h P := by
  obtain ⟨v, h1, e1, e2⟩ := mb_inv e
  unfold dz at e1
  split at e1
  · cases e1
  · rename_i hk
    cases e1
    exact xo_idiv hc hk (K e2)
theorem d_irem {k : Unit → xm β} (hc : xt_cd y pc = some (.irem, r, q)) (e : mb (dz z) k h = some X) (K : k () h = some X → xx sc y (pc + 1) L (.int (x - x / z * z) :: st) h P) : xx sc y pc L (.int z :: .int x :: st) h P := by
  obtain ⟨v, h1, e1, e2⟩ := mb_inv e
  unfold dz at e1
  split at e1
  · cases e1
  · rename_i hk
    cases e1
    exact xo_irem hc hk (K e2)
/-- the end of a method -/
theorem d_iret {x' : Int32} {h' : xv_H} (hc : xt_cd y pc = some (.ireturn, r, 0)) (e : mr x h = some (x', h')) : xx sc y pc L [.int x] h (fun v g => v = some (.int x') ∧ g = h') := by
  cases e
  exact xo_ireturn hc ⟨rfl, rfl⟩
theorem d_zret {x' : Int32} {h' : xv_H} (hc : xt_cd y pc = some (.ireturn, r, 2)) (e : mb (bz x) (fun _ => mr x) h = some (x', h')) : xx sc y pc L [.int x] h (fun v g => v = some (.int x') ∧ g = h') := by
  obtain ⟨v, h1, e1, e2⟩ := mb_inv e
  unfold bz at e1
  split at e1
  · rename_i hk
    cases e1
    cases e2
    exact xo_zreturn hc hk ⟨rfl, rfl⟩
  · cases e1
theorem d_lret {u' : Int64} {h' : xv_H} (hc : xt_cd y pc = some (.lreturn, r, q)) (e : mr u h = some (u', h')) : xx sc y pc L [.long u] h (fun v g => v = some (.long u') ∧ g = h') := by
  cases e
  exact xo_lreturn hc ⟨rfl, rfl⟩
theorem d_aret {w' : Option Nat} {h' : xv_H} (hc : xt_cd y pc = some (.areturn, r, q)) (e : mr w h = some (w', h')) : xx sc y pc L [va_rf w] h (fun v g => v = some (va_rf w') ∧ g = h') := by
  cases e
  cases w
  · exact xo_areturnN hc ⟨rfl, rfl⟩
  · exact xo_areturn hc ⟨rfl, rfl⟩
theorem d_ret {u' : Unit} {h' : xv_H} (hc : xt_cd y pc = some (.return_, r, q)) (e : mr () h = some (u', h')) : xx sc y pc L [] h (fun v g => v = none ∧ g = h') := by
  cases e
  exact xo_return hc ⟨rfl, rfl⟩
theorem d_static_v {p : xm Unit} {k : Unit → xm β} {av rest : List Value} (hc : xt_cd y pc = some (.invokestatic i0, r, q)) (hr : ¬ r = 1000 ∧ ¬ r = 1004 ∧ ¬ r = 1005) (hst : st = av.reverse ++ rest) (hq : av.length = q) (hf : xv_fit (xt_lg r) (xt_mx r) 0 av = true) (hR : xv_room rest = true) (hm : ∀ x0 h1, p h = some (x0, h1) → xr sc r av h (fun v g => v = none ∧ g = h1)) (e : mb p k h = some X) (K : ∀ (x0 : Unit) (h1 : xv_H), k x0 h1 = some X → xx sc y (pc + 3) L (rest) h1 P) : xx sc y pc L st h P := by
  obtain ⟨x0, h1, e1, e2⟩ := mb_inv e
  refine xo_static hc hr hst hq hf hR (hm x0 h1 e1) ?_
  rintro v g ⟨rfl, rfl⟩
  exact K _ _ e2
theorem d_special_v {p : xm Unit} {k : Unit → xm β} {av rest : List Value} (hc : xt_cd y pc = some (.invokespecial i0, r, q)) (hr : ¬ r = 1001) (hst : st = av.reverse ++ .ref a :: rest) (hq : av.length = q) (hf : xv_fit (xt_lg r) (xt_mx r) 0 (.ref a :: av) = true) (hR : xv_room rest = true) (hm : ∀ x0 h1, p h = some (x0, h1) → xr sc r (.ref a :: av) h (fun v g => v = none ∧ g = h1)) (e : mb p k h = some X) (K : ∀ (x0 : Unit) (h1 : xv_H), k x0 h1 = some X → xx sc y (pc + 3) L (rest) h1 P) : xx sc y pc L st h P := by
  obtain ⟨x0, h1, e1, e2⟩ := mb_inv e
  refine xo_special hc hr hst hq hf hR (hm x0 h1 e1) ?_
  rintro v g ⟨rfl, rfl⟩
  exact K _ _ e2
theorem d_virtual_v {p : xm Unit} {k : Unit → xm β} {av rest : List Value} (hc : xt_cd y pc = some (.invokevirtual i0, r, q)) (hr : ¬ r = 1002 ∧ ¬ r = 1003) (hst : st = av.reverse ++ .ref a :: rest) (hq : av.length = q) (hf : xv_fit (xt_lg r) (xt_mx r) 0 (.ref a :: av) = true) (hR : xv_room rest = true) (hm : ∀ x0 h1, p h = some (x0, h1) → xr sc r (.ref a :: av) h (fun v g => v = none ∧ g = h1)) (e : mb (vc (xt_cs r) a) (fun _ => mb p k) h = some X) (K : ∀ (x0 : Unit) (h1 : xv_H), k x0 h1 = some X → xx sc y (pc + 3) L (rest) h1 P) : xx sc y pc L st h P := by
  obtain ⟨_, h0, e0, e⟩ := mb_inv e
  unfold vc at e0
  split at e0
  · rename_i hk
    cases e0
    obtain ⟨x0, h1, e1, e2⟩ := mb_inv e
    obtain ⟨n, zz, tg, ln, fr, er, fi, ei, el⟩ := h
    refine xo_virtual hc hr hk.1 hk.2 hst hq hf hR (hm x0 h1 e1) ?_
    rintro v g ⟨rfl, rfl⟩
    exact K _ _ e2
  · cases e0
theorem d_static_i {p : xm Int32} {k : Int32 → xm β} {av rest : List Value} (hc : xt_cd y pc = some (.invokestatic i0, r, q)) (hr : ¬ r = 1000 ∧ ¬ r = 1004 ∧ ¬ r = 1005) (hst : st = av.reverse ++ rest) (hq : av.length = q) (hf : xv_fit (xt_lg r) (xt_mx r) 0 av = true) (hR : xv_room rest = true) (hm : ∀ x0 h1, p h = some (x0, h1) → xr sc r av h (fun v g => v = some (.int x0) ∧ g = h1)) (e : mb p k h = some X) (K : ∀ (x0 : Int32) (h1 : xv_H), k x0 h1 = some X → xx sc y (pc + 3) L (.int x0 :: rest) h1 P) : xx sc y pc L st h P := by
  obtain ⟨x0, h1, e1, e2⟩ := mb_inv e
  refine xo_static hc hr hst hq hf hR (hm x0 h1 e1) ?_
  rintro v g ⟨rfl, rfl⟩
  exact K _ _ e2
theorem d_special_i {p : xm Int32} {k : Int32 → xm β} {av rest : List Value} (hc : xt_cd y pc = some (.invokespecial i0, r, q)) (hr : ¬ r = 1001) (hst : st = av.reverse ++ .ref a :: rest) (hq : av.length = q) (hf : xv_fit (xt_lg r) (xt_mx r) 0 (.ref a :: av) = true) (hR : xv_room rest = true) (hm : ∀ x0 h1, p h = some (x0, h1) → xr sc r (.ref a :: av) h (fun v g => v = some (.int x0) ∧ g = h1)) (e : mb p k h = some X) (K : ∀ (x0 : Int32) (h1 : xv_H), k x0 h1 = some X → xx sc y (pc + 3) L (.int x0 :: rest) h1 P) : xx sc y pc L st h P := by
  obtain ⟨x0, h1, e1, e2⟩ := mb_inv e
  refine xo_special hc hr hst hq hf hR (hm x0 h1 e1) ?_
  rintro v g ⟨rfl, rfl⟩
  exact K _ _ e2
theorem d_virtual_i {p : xm Int32} {k : Int32 → xm β} {av rest : List Value} (hc : xt_cd y pc = some (.invokevirtual i0, r, q)) (hr : ¬ r = 1002 ∧ ¬ r = 1003) (hst : st = av.reverse ++ .ref a :: rest) (hq : av.length = q) (hf : xv_fit (xt_lg r) (xt_mx r) 0 (.ref a :: av) = true) (hR : xv_room rest = true) (hm : ∀ x0 h1, p h = some (x0, h1) → xr sc r (.ref a :: av) h (fun v g => v = some (.int x0) ∧ g = h1)) (e : mb (vc (xt_cs r) a) (fun _ => mb p k) h = some X) (K : ∀ (x0 : Int32) (h1 : xv_H), k x0 h1 = some X → xx sc y (pc + 3) L (.int x0 :: rest) h1 P) : xx sc y pc L st h P := by
  obtain ⟨_, h0, e0, e⟩ := mb_inv e
  unfold vc at e0
  split at e0
  · rename_i hk
    cases e0
    obtain ⟨x0, h1, e1, e2⟩ := mb_inv e
    obtain ⟨n, zz, tg, ln, fr, er, fi, ei, el⟩ := h
    refine xo_virtual hc hr hk.1 hk.2 hst hq hf hR (hm x0 h1 e1) ?_
    rintro v g ⟨rfl, rfl⟩
    exact K _ _ e2
  · cases e0
theorem d_static_l {p : xm Int64} {k : Int64 → xm β} {av rest : List Value} (hc : xt_cd y pc = some (.invokestatic i0, r, q)) (hr : ¬ r = 1000 ∧ ¬ r = 1004 ∧ ¬ r = 1005) (hst : st = av.reverse ++ rest) (hq : av.length = q) (hf : xv_fit (xt_lg r) (xt_mx r) 0 av = true) (hR : xv_room rest = true) (hm : ∀ x0 h1, p h = some (x0, h1) → xr sc r av h (fun v g => v = some (.long x0) ∧ g = h1)) (e : mb p k h = some X) (K : ∀ (x0 : Int64) (h1 : xv_H), k x0 h1 = some X → xx sc y (pc + 3) L (.long x0 :: rest) h1 P) : xx sc y pc L st h P := by
  obtain ⟨x0, h1, e1, e2⟩ := mb_inv e
  refine xo_static hc hr hst hq hf hR (hm x0 h1 e1) ?_
  rintro v g ⟨rfl, rfl⟩
  exact K _ _ e2
theorem d_special_l {p : xm Int64} {k : Int64 → xm β} {av rest : List Value} (hc : xt_cd y pc = some (.invokespecial i0, r, q)) (hr : ¬ r = 1001) (hst : st = av.reverse ++ .ref a :: rest) (hq : av.length = q) (hf : xv_fit (xt_lg r) (xt_mx r) 0 (.ref a :: av) = true) (hR : xv_room rest = true) (hm : ∀ x0 h1, p h = some (x0, h1) → xr sc r (.ref a :: av) h (fun v g => v = some (.long x0) ∧ g = h1)) (e : mb p k h = some X) (K : ∀ (x0 : Int64) (h1 : xv_H), k x0 h1 = some X → xx sc y (pc + 3) L (.long x0 :: rest) h1 P) : xx sc y pc L st h P := by
  obtain ⟨x0, h1, e1, e2⟩ := mb_inv e
  refine xo_special hc hr hst hq hf hR (hm x0 h1 e1) ?_
  rintro v g ⟨rfl, rfl⟩
  exact K _ _ e2
theorem d_virtual_l {p : xm Int64} {k : Int64 → xm β} {av rest : List Value} (hc : xt_cd y pc = some (.invokevirtual i0, r, q)) (hr : ¬ r = 1002 ∧ ¬ r = 1003) (hst : st = av.reverse ++ .ref a :: rest) (hq : av.length = q) (hf : xv_fit (xt_lg r) (xt_mx r) 0 (.ref a :: av) = true) (hR : xv_room rest = true) (hm : ∀ x0 h1, p h = some (x0, h1) → xr sc r (.ref a :: av) h (fun v g => v = some (.long x0) ∧ g = h1)) (e : mb (vc (xt_cs r) a) (fun _ => mb p k) h = some X) (K : ∀ (x0 : Int64) (h1 : xv_H), k x0 h1 = some X → xx sc y (pc + 3) L (.long x0 :: rest) h1 P) : xx sc y pc L st h P := by
  obtain ⟨_, h0, e0, e⟩ := mb_inv e
  unfold vc at e0
  split at e0
  · rename_i hk
    cases e0
    obtain ⟨x0, h1, e1, e2⟩ := mb_inv e
    obtain ⟨n, zz, tg, ln, fr, er, fi, ei, el⟩ := h
    refine xo_virtual hc hr hk.1 hk.2 hst hq hf hR (hm x0 h1 e1) ?_
    rintro v g ⟨rfl, rfl⟩
    exact K _ _ e2
  · cases e0
theorem d_static_a {p : xm (Option Nat)} {k : (Option Nat) → xm β} {av rest : List Value} (hc : xt_cd y pc = some (.invokestatic i0, r, q)) (hr : ¬ r = 1000 ∧ ¬ r = 1004 ∧ ¬ r = 1005) (hst : st = av.reverse ++ rest) (hq : av.length = q) (hf : xv_fit (xt_lg r) (xt_mx r) 0 av = true) (hR : xv_room rest = true) (hm : ∀ x0 h1, p h = some (x0, h1) → xr sc r av h (fun v g => v = some (va_rf x0) ∧ g = h1)) (e : mb p k h = some X) (K : ∀ (x0 : (Option Nat)) (h1 : xv_H), k x0 h1 = some X → xx sc y (pc + 3) L (va_rf x0 :: rest) h1 P) : xx sc y pc L st h P := by
  obtain ⟨x0, h1, e1, e2⟩ := mb_inv e
  refine xo_static hc hr hst hq hf hR (hm x0 h1 e1) ?_
  rintro v g ⟨rfl, rfl⟩
  exact K _ _ e2
theorem d_special_a {p : xm (Option Nat)} {k : (Option Nat) → xm β} {av rest : List Value} (hc : xt_cd y pc = some (.invokespecial i0, r, q)) (hr : ¬ r = 1001) (hst : st = av.reverse ++ .ref a :: rest) (hq : av.length = q) (hf : xv_fit (xt_lg r) (xt_mx r) 0 (.ref a :: av) = true) (hR : xv_room rest = true) (hm : ∀ x0 h1, p h = some (x0, h1) → xr sc r (.ref a :: av) h (fun v g => v = some (va_rf x0) ∧ g = h1)) (e : mb p k h = some X) (K : ∀ (x0 : (Option Nat)) (h1 : xv_H), k x0 h1 = some X → xx sc y (pc + 3) L (va_rf x0 :: rest) h1 P) : xx sc y pc L st h P := by
  obtain ⟨x0, h1, e1, e2⟩ := mb_inv e
  refine xo_special hc hr hst hq hf hR (hm x0 h1 e1) ?_
  rintro v g ⟨rfl, rfl⟩
  exact K _ _ e2
theorem d_virtual_a {p : xm (Option Nat)} {k : (Option Nat) → xm β} {av rest : List Value} (hc : xt_cd y pc = some (.invokevirtual i0, r, q)) (hr : ¬ r = 1002 ∧ ¬ r = 1003) (hst : st = av.reverse ++ .ref a :: rest) (hq : av.length = q) (hf : xv_fit (xt_lg r) (xt_mx r) 0 (.ref a :: av) = true) (hR : xv_room rest = true) (hm : ∀ x0 h1, p h = some (x0, h1) → xr sc r (.ref a :: av) h (fun v g => v = some (va_rf x0) ∧ g = h1)) (e : mb (vc (xt_cs r) a) (fun _ => mb p k) h = some X) (K : ∀ (x0 : (Option Nat)) (h1 : xv_H), k x0 h1 = some X → xx sc y (pc + 3) L (va_rf x0 :: rest) h1 P) : xx sc y pc L st h P := by
  obtain ⟨_, h0, e0, e⟩ := mb_inv e
  unfold vc at e0
  split at e0
  · rename_i hk
    cases e0
    obtain ⟨x0, h1, e1, e2⟩ := mb_inv e
    obtain ⟨n, zz, tg, ln, fr, er, fi, ei, el⟩ := h
    refine xo_virtual hc hr hk.1 hk.2 hst hq hf hR (hm x0 h1 e1) ?_
    rintro v g ⟨rfl, rfl⟩
    exact K _ _ e2
  · cases e0
theorem xo_copy {idx : Nat} {k dp sp : Int32} {d s : Nat} {h1 : xv_H} (hc : xt_cd y pc = some (.invokestatic idx, 1000, q)) (hr : xv_room st = true) (hx : xv_copy xt_cp q 0 [] h k dp d sp s [] = some (0, [], [], h1)) (K : xx sc y (pc + 3) L st h1 P) : xx sc y pc L (.int k :: .int dp :: .ref d :: .int sp :: .ref s :: st) h P := by
  refine xx_own hc rfl ?_ K
  obtain ⟨n, zz, tg, ln, fr, er, fi, ei, el⟩ := h
  simp only [xv_inv, if_true]
  unfold xv_copy at hx ⊢
  split at hx
  · rename_i hk
    rw [if_pos ⟨hk.1, hk.2.1, hk.2.2.1, hr⟩]
    split at hx
    · rename_i g
      rw [if_pos g]
      cases hx
      rfl
    · rename_i g
      rw [if_neg g]
      split at hx
      · rename_i g2
        rw [if_pos g2]
        cases hx
        rfl
      · cases hx
  · cases hx
theorem d_copy {idx : Nat} {k dp sp : Int32} {d s : Nat} {kk : Unit → xm β} (hc : xt_cd y pc = some (.invokestatic idx, 1000, q)) (hr : xv_room st = true) (e : mb (cy q k dp d sp s) kk h = some X) (K : ∀ h1, kk () h1 = some X → xx sc y (pc + 3) L st h1 P) : xx sc y pc L (.int k :: .int dp :: .ref d :: .int sp :: .ref s :: st) h P := by
  obtain ⟨_, h1, e1, e2⟩ := mb_inv e
  unfold cy at e1
  split at e1
  · rename_i x hx
    cases e1
    obtain ⟨p1, p2, p3, p4⟩ := x
    have g : p1 = 0 ∧ p2 = [] ∧ p3 = [] := by
      obtain ⟨n, zz, tg, ln, fr, er, fi, ei, el⟩ := h
      unfold xv_copy at hx
      split at hx
      · split at hx
        · cases hx; exact ⟨rfl, rfl, rfl⟩
        · split at hx
          · cases hx; exact ⟨rfl, rfl, rfl⟩
          · cases hx
      · cases hx
    obtain ⟨rfl, rfl, rfl⟩ := g
    exact xo_copy hc hr hx (K _ e2)
  · cases e1
theorem d_clone {idx : Nat} {kk : Nat → xm β} (hc : xt_cd y pc = some (.invokevirtual idx, 1002, q)) (hr : xv_room st = true) (e : mb (cn a) kk h = some X) (K : ∀ (b : Nat) (h1 : xv_H), kk b h1 = some X → xx sc y (pc + 3) L (va_rf (some b) :: st) h1 P) : xx sc y pc L (.ref a :: st) h P := by
  obtain ⟨b, h1, e1, e2⟩ := mb_inv e
  obtain ⟨n, zz, tg, ln, fr, er, fi, ei, el⟩ := h
  unfold cn xv_clone at e1
  by_cases hk : a < n ∧ tg a = 100
  · have g : (if a < (n, zz, tg, ln, fr, er, fi, ei, el).1 ∧ (n, zz, tg, ln, fr, er, fi, ei, el).2.2.1 a = 100 ∧ xv_room [] = true then (match xv_new (n, zz, tg, ln, fr, er, fi, ei, el) 100 (ln a) (ln a) with | (n1, z, tg, ln, fr, er, fi, ei, el) => xv_nx 0 [] [.ref n] (n1, z, tg, ln, fr, er, fi, (fun b i => if b = n then ei a i else ei b i), el)) else none) = (match xv_new (n, zz, tg, ln, fr, er, fi, ei, el) 100 (ln a) (ln a) with | (n1, z, tg, ln, fr, er, fi, ei, el) => xv_nx 0 [] [.ref n] (n1, z, tg, ln, fr, er, fi, (fun b i => if b = n then ei a i else ei b i), el)) := if_pos ⟨hk.1, hk.2, rfl⟩
    rw [g] at e1
    simp only [xv_new, xv_nx] at e1
    cases e1
    refine xx_own hc rfl ?_ (K _ _ e2)
    simp only [xv_inv, if_true, xv_r1, xv_clone]
    rw [if_pos ⟨hk.1, hk.2, hr⟩]
    rfl
  · have g : ¬ (a < (n, zz, tg, ln, fr, er, fi, ei, el).1 ∧ (n, zz, tg, ln, fr, er, fi, ei, el).2.2.1 a = 100 ∧ xv_room [] = true) := fun z => hk ⟨z.1, z.2.1⟩
    rw [if_neg g] at e1
    cases e1
theorem d_getC {kk : Unit → xm β} (hc : xt_cd y pc = some (.invokevirtual i0, 1003, q)) (hr : xv_room st = true) (e : mb (gc q a) kk h = some X) (K : kk () h = some X → xx sc y (pc + 3) L (va_rf (some (xv_SB + 1)) :: st) h P) : xx sc y pc L (.ref a :: st) h P := by
  obtain ⟨_, h1, e1, e2⟩ := mb_inv e
  obtain ⟨n, zz, tg, ln, fr, er, fi, ei, el⟩ := h
  unfold gc at e1
  split at e1
  · rename_i hk
    cases e1
    exact xo_getC hc hk.1 hk.2 hr (K e2)
  · cases e1
end XDD
end
