/-! Contents of cells as values. -/
abbrev zN : Type := Int32 × Int32 × Int32 × List Int32 × List Int32
def zins (l : List Int32) (i : Nat) (x : Int32) : List Int32 := l.take i ++ x :: l.drop i
def zdel (l : List Int32) (i : Nat) : List Int32 := l.take i ++ l.drop (i + 1)
/-- the first place of k, or the length -/
def zidx (k : Int32) : List Int32 → Nat
  | [] => 0
  | x :: l => if x = k then 0 else zidx k l + 1
/-- how many are not greater than k -/
def zcng (k : Int32) : List Int32 → Nat
  | [] => 0
  | x :: l => if x ≤ k then zcng k l + 1 else zcng k l
theorem zins_len {l : List Int32} {i : Nat} {x : Int32} (h : i ≤ l.length) : (zins l i x).length = l.length + 1 := by
  simp only [zins, List.length_append, List.length_take, List.length_cons, List.length_drop]; omega
theorem zdel_len {l : List Int32} {i : Nat} (h : i < l.length) : (zdel l i).length = l.length - 1 := by
  simp only [zdel, List.length_append, List.length_take, List.length_drop]; omega
theorem zins_get {l : List Int32} {i : Nat} {x : Int32} (h : i ≤ l.length) (j : Nat) : (zins l i x).getD j 0 = if j < i then l.getD j 0 else if j = i then x else l.getD (j - 1) 0 := by
  have hl : (l.take i).length = i := by rw [List.length_take]; omega
  simp only [zins, List.getD_eq_getElem?_getD]
  by_cases h1 : j < i
  · rw [if_pos h1, List.getElem?_append_left (by omega), List.getElem?_take_of_lt h1]
  · rw [if_neg h1, List.getElem?_append_right (by omega), hl]
    by_cases h2 : j = i
    · rw [if_pos h2]; subst h2; simp
    · rw [if_neg h2]
      have e : j - i = (j - i - 1) + 1 := by omega
      rw [e, List.getElem?_cons_succ, List.getElem?_drop]
      congr 2; omega
theorem zdel_get {l : List Int32} {i : Nat} (h : i < l.length) (j : Nat) : (zdel l i).getD j 0 = if j < i then l.getD j 0 else l.getD (j + 1) 0 := by
  have hl : (l.take i).length = i := by rw [List.length_take]; omega
  simp only [zdel, List.getD_eq_getElem?_getD]
  by_cases h1 : j < i
  · rw [if_pos h1, List.getElem?_append_left (by omega), List.getElem?_take_of_lt h1]
  · rw [if_neg h1, List.getElem?_append_right (by omega), hl, List.getElem?_drop]
    congr 2; omega
theorem zset_get {l : List Int32} {i : Nat} {x : Int32} (h : i < l.length) (j : Nat) : (l.set i x).getD j 0 = if j = i then x else l.getD j 0 := by
  simp only [List.getD_eq_getElem?_getD, List.getElem?_set]
  by_cases h1 : i = j
  · subst h1; simp [h]
  · rw [if_neg h1, if_neg (fun z => h1 z.symm)]
theorem ztake_get {l : List Int32} {i j : Nat} (h : j < i) : (l.take i).getD j 0 = l.getD j 0 := by
  simp only [List.getD_eq_getElem?_getD, List.getElem?_take_of_lt h]
theorem zdrop_get {l : List Int32} {i j : Nat} : (l.drop i).getD j 0 = l.getD (i + j) 0 := by
  simp only [List.getD_eq_getElem?_getD, List.getElem?_drop]
theorem zidx_le {k : Int32} {l : List Int32} : zidx k l ≤ l.length := by
  induction l with
  | nil => exact Nat.le_refl _
  | cons x l ih =>
    simp only [zidx, List.length_cons]
    split <;> omega
theorem zcng_le {k : Int32} {l : List Int32} : zcng k l ≤ l.length := by
  induction l with
  | nil => exact Nat.le_refl _
  | cons x l ih =>
    simp only [zcng, List.length_cons]
    split <;> omega
theorem zdrop_cons {l : List Int32} {i : Nat} (h : i < l.length) : l.drop i = l.getD i 0 :: l.drop (i + 1) := by
  rw [List.drop_eq_getElem_cons h, List.getD_eq_getElem?_getD, List.getElem?_eq_getElem h]; rfl
/-- a new entry of a leaf, or another value -/
def zwith (n : zN) (k v : Int32) : zN := if zidx k n.2.2.2.1 < n.2.2.2.1.length then (n.1, n.2.1, n.2.2.1, n.2.2.2.1, n.2.2.2.2.set (zidx k n.2.2.2.1) v) else (n.1, n.2.1, n.2.2.1, zins n.2.2.2.1 (zcng k n.2.2.2.1) k, zins n.2.2.2.2 (zcng k n.2.2.2.1) v)
def zwout (n : zN) (i : Nat) : zN := (n.1, n.2.1, n.2.2.1, zdel n.2.2.2.1 i, zdel n.2.2.2.2 i)
def zchild (n : zN) (k : Int32) : Int32 := n.2.2.2.2.getD (zcng k n.2.2.2.1) 0
def zbehind (n : zN) (c s a : Int32) : zN := (n.1, n.2.1, n.2.2.1, zins n.2.2.2.1 (zcng s n.2.2.2.1) s, zins n.2.2.2.2 (zidx c n.2.2.2.2 + 1) a)
def zcut (n : zN) : Nat := if n.1 = 1 then 1 else 2
def zmid (n : zN) : Int32 := n.2.2.2.1.getD 1 0
def zleft (n : zN) : zN := (n.1, n.2.1, zmid n, n.2.2.2.1.take 1, n.2.2.2.2.take (zcut n))
def zright (n : zN) : zN := (n.1, zmid n, n.2.2.1, n.2.2.2.1.drop (zcut n), n.2.2.2.2.drop (zcut n))
