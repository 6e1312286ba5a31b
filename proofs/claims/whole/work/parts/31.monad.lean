/-! Programs over the abstract heap: what a method does, free of stack and locals. -/
abbrev xm (α : Type) : Type := xv_H → Option (α × xv_H)
def mr {α : Type} (x : α) : xm α := fun h => some (x, h)
def mb {α β : Type} (p : xm α) (k : α → xm β) : xm β := fun h => match p h with
  | none => none
  | some (x, h1) => k x h1
theorem mb_inv {α β : Type} {p : xm α} {k : α → xm β} {h : xv_H} {X : β × xv_H} (e : mb p k h = some X) : ∃ x h1, p h = some (x, h1) ∧ k x h1 = some X := by
  unfold mb at e
  split at e
  · cases e
  · rename_i x h1 hp
    exact ⟨x, h1, hp, e⟩
theorem mb_some {α β : Type} {p : xm α} {k : α → xm β} {h h1 : xv_H} {x : α} (e : p h = some (x, h1)) : mb p k h = k x h1 := by
  unfold mb
  rw [e]
/-- not null -/
def nn (w : Option Nat) : xm Nat := fun h => match w with
  | some a => some (a, h)
  | none => none
def gi (f a : Nat) : xm Int32 := fun h => if a < h.1 ∧ h.2.2.1 a = f / 100 then some (h.2.2.2.2.2.2.1 f a, h) else none
def gr (f a : Nat) : xm (Option Nat) := fun h => if a < h.1 ∧ h.2.2.1 a = f / 100 then some (h.2.2.2.2.1 f a, h) else none
def pi_ (f a : Nat) (x : Int32) : xm Unit := fun h => if a < h.1 ∧ h.2.2.1 a = f / 100 then (match h with | (n, z, tg, ln, fr, er, fi, ei, el) => some ((), (n, z, tg, ln, fr, er, xv_up fi f a x, ei, el))) else none
def pz (f a : Nat) (x : Int32) : xm Unit := fun h => if (a < h.1 ∧ h.2.2.1 a = f / 100) ∧ (x = 0 ∨ x = 1) then (match h with | (n, z, tg, ln, fr, er, fi, ei, el) => some ((), (n, z, tg, ln, fr, er, xv_up fi f a x, ei, el))) else none
def pr (f a : Nat) (w : Option Nat) : xm Unit := fun h => if a < h.1 ∧ h.2.2.1 a = f / 100 then (match h with | (n, z, tg, ln, fr, er, fi, ei, el) => some ((), (n, z, tg, ln, xv_up fr f a w, er, fi, ei, el))) else none
def li (a : Nat) (j : Int32) : xm Int32 := fun h => if a < h.1 ∧ 0 ≤ j ∧ j.toNatClampNeg < h.2.2.2.1 a ∧ h.2.2.1 a = 100 ∧ ¬ a = xv_SB then some (h.2.2.2.2.2.2.2.1 a j.toNatClampNeg, h) else none
/-- the script -/
def ls (sc : Nat × (Nat → Int32)) (j : Int32) : xm Int32 := fun h => if 0 ≤ j ∧ j.toNatClampNeg < sc.1 then some (sc.2 j.toNatClampNeg, h) else none
def lb (a : Nat) (j : Int32) : xm Int32 := fun h => if a < h.1 ∧ 0 ≤ j ∧ j.toNatClampNeg < h.2.2.2.1 a ∧ (h.2.2.1 a = 101 ∨ h.2.2.1 a = 102) then some (h.2.2.2.2.2.2.2.1 a j.toNatClampNeg, h) else none
def ll (a : Nat) (j : Int32) : xm Int64 := fun h => if a < h.1 ∧ 0 ≤ j ∧ j.toNatClampNeg < h.2.2.2.1 a ∧ h.2.2.1 a = 103 then some (h.2.2.2.2.2.2.2.2 a j.toNatClampNeg, h) else none
def lr (t a : Nat) (j : Int32) : xm (Option Nat) := fun h => if a < h.1 ∧ 0 ≤ j ∧ j.toNatClampNeg < h.2.2.2.1 a ∧ h.2.2.1 a = t then some (h.2.2.2.2.2.1 a j.toNatClampNeg, h) else none
def si (a : Nat) (j x : Int32) : xm Unit := fun h => if a < h.1 ∧ 0 ≤ j ∧ j.toNatClampNeg < h.2.2.2.1 a ∧ h.2.2.1 a = 100 then (match h with | (n, z, tg, ln, fr, er, fi, ei, el) => some ((), (n, z, tg, ln, fr, er, fi, xv_up ei a j.toNatClampNeg x, el))) else none
def sb (a : Nat) (j x : Int32) : xm Unit := fun h => if a < h.1 ∧ 0 ≤ j ∧ j.toNatClampNeg < h.2.2.2.1 a then (if h.2.2.1 a = 101 then (match h with | (n, z, tg, ln, fr, er, fi, ei, el) => some ((), (n, z, tg, ln, fr, er, fi, xv_up ei a j.toNatClampNeg x.toInt8.toInt32, el))) else if h.2.2.1 a = 102 ∧ (x = 0 ∨ x = 1) then (match h with | (n, z, tg, ln, fr, er, fi, ei, el) => some ((), (n, z, tg, ln, fr, er, fi, xv_up ei a j.toNatClampNeg x, el))) else none) else none
def sl (a : Nat) (j : Int32) (u : Int64) : xm Unit := fun h => if a < h.1 ∧ 0 ≤ j ∧ j.toNatClampNeg < h.2.2.2.1 a ∧ h.2.2.1 a = 103 then (match h with | (n, z, tg, ln, fr, er, fi, ei, el) => some ((), (n, z, tg, ln, fr, er, fi, ei, xv_up el a j.toNatClampNeg u))) else none
def sr (t a : Nat) (j : Int32) (w : Option Nat) : xm Unit := fun h => if a < h.1 ∧ 0 ≤ j ∧ j.toNatClampNeg < h.2.2.2.1 a ∧ h.2.2.1 a = t ∧ xv_ok xt_cp h a w = true then (match h with | (n, z, tg, ln, fr, er, fi, ei, el) => some ((), (n, z, tg, ln, fr, xv_up er a j.toNatClampNeg w, fi, ei, el))) else none
def len (t q a : Nat) : xm Int32 := fun h => if ¬ a = xv_SB ∧ a = xv_SB + 2 ∧ q = 1 then some (0, h) else if ¬ a = xv_SB ∧ ¬ (a = xv_SB + 2 ∧ q = 1) ∧ a < h.1 ∧ h.2.2.1 a = t then some (Int32.ofNat (h.2.2.2.1 a), h) else none
def nw (t q : Nat) : xm Nat := fun h => some (h.1, xv_new h t 0 q)
def na (t : Nat) (x : Int32) : xm Nat := fun h => if 0 ≤ x ∧ x.toNatClampNeg ≤ 60000000 then some (h.1, xv_new h t x.toNatClampNeg x.toNatClampNeg) else none
/-- a cast: null, or a cell of that tag -/
def ct (t : Nat) (w : Option Nat) : xm Unit := fun h => match w with
  | none => some ((), h)
  | some a => if a < h.1 ∧ h.2.2.1 a = t then some ((), h) else none
/-- may be compared -/
def cq (w1 w2 : Option Nat) : xm Unit := fun h => if xv_cok w1 w2 = true then some ((), h) else none
def dz (x : Int32) : xm Unit := fun h => if x = 0 then none else some ((), h)
def bz (x : Int32) : xm Unit := fun h => if x = 0 ∨ x = 1 then some ((), h) else none
def cy (t : Nat) (k dp : Int32) (d : Nat) (sp : Int32) (s : Nat) : xm Unit := fun h => match xv_copy xt_cp t 0 [] h k dp d sp s [] with
  | some x => some ((), x.2.2.2)
  | none => none
def cn (a : Nat) : xm Nat := fun h => match xv_clone 0 [] h a [] with
  | some x => some (h.1, x.2.2.2)
  | none => none
def gc (t a : Nat) : xm Unit := fun h => if a < h.1 ∧ h.2.2.1 a = t then some ((), h) else none
/-- the cell that a virtual call is made on -/
def vc (c a : Nat) : xm Unit := fun h => if a < h.1 ∧ h.2.2.1 a = c then some ((), h) else none
section XDD
variable {sc : Nat × (Nat → Int32)} {y pc : Nat} {L : xv_L} {st : List Value} {h : xv_H} {P : Option Value → xv_H → Prop} {r q i t a b f i0 : Nat} {x z j : Int32} {u v : Int64} {off : Int} {w w1 w2 : Option Nat} {β : Type} {X : β × xv_H}
theorem xo_iconstV (hc : xt_cd y pc = some (.iconst off, r, q)) (hv : Int32.ofInt off = x) (k : xx sc y (pc + 1) L (.int x :: st) h P) : xx sc y pc L st h P := xo_iconst hc (by rw [hv]; exact k)
theorem xo_bipushV (hc : xt_cd y pc = some (.bipush off, r, q)) (hv : (Int8.ofInt off).toInt32 = x) (k : xx sc y (pc + 2) L (.int x :: st) h P) : xx sc y pc L st h P := xo_bipush hc (by rw [hv]; exact k)
theorem xo_sipushV (hc : xt_cd y pc = some (.sipush off, r, q)) (hv : (Int16.ofInt off).toInt32 = x) (k : xx sc y (pc + 3) L (.int x :: st) h P) : xx sc y pc L st h P := xo_sipush hc (by rw [hv]; exact k)
theorem xo_ldcV (hc : xt_cd y pc = some (.ldc i0, r, 0)) (hv : Int32.ofNat r = x) (k : xx sc y (pc + 2) L (.int x :: st) h P) : xx sc y pc L st h P := xo_ldc hc (by rw [hv]; exact k)
theorem xo_lconstV {k0 : Fin 2} (hc : xt_cd y pc = some (.lconst k0, r, q)) (hv : Int64.ofNat (k0 : Nat) = u) (k : xx sc y (pc + 1) L (.long u :: st) h P) : xx sc y pc L st h P := xo_lconst hc (by rw [hv]; exact k)
theorem xo_ldc2V (hc : xt_cd y pc = some (.ldc2_w i0, r, q)) (hv : Int64.ofNat r = u) (k : xx sc y (pc + 3) L (.long u :: st) h P) : xx sc y pc L st h P := xo_ldc2 hc (by rw [hv]; exact k)
theorem xo_iincV (hc : xt_cd y pc = some (.iinc i off, r, q)) (hz : Int32.ofInt off = z) (hv : L[i]? = some (some (.int x))) (hl : i < L.length) (hb : xv_b1 (xt_lg y) i = true) (k : xx sc y (pc + 3) (L.set i (some (.int (x + z)))) st h P) : xx sc y pc L st h P := xo_iinc hc hv hl hb (by rw [hz]; exact k)
theorem xo_nullV (hc : xt_cd y pc = some (.aconst_null, r, q)) (k : xx sc y (pc + 1) L (va_rf none :: st) h P) : xx sc y pc L st h P := xo_null hc k
theorem xo_getsV (hc : xt_cd y pc = some (.getstatic i0, r, q)) (k : xx sc y (pc + 3) L (va_rf (some (xv_SB + r)) :: st) h P) : xx sc y pc L st h P := xo_gets hc k
theorem xo_ldcMV (hc : xt_cd y pc = some (.ldc i0, r, 1)) (k : xx sc y (pc + 2) L (va_rf (some (xv_SB + 1)) :: st) h P) : xx sc y pc L st h P := xo_ldcM hc k
theorem xo_aloadQ (hc : xt_cd y pc = some (.aload i, r, q)) (hl : L[i]? = some (some (va_rf w))) (k : xx sc y (pc + 2) L (va_rf w :: st) h P) : xx sc y pc L st h P := by
  cases w
  · exact xo_aloadN hc hl k
  · exact xo_aload hc hl k
theorem xo_aload_nQ {k0 : Fin 4} (hc : xt_cd y pc = some (.aload_n k0, r, q)) (hl : L[(k0 : Nat)]? = some (some (va_rf w))) (k : xx sc y (pc + 1) L (va_rf w :: st) h P) : xx sc y pc L st h P := by
  cases w
  · exact xo_aload_nN hc hl k
  · exact xo_aload_n hc hl k
theorem xo_astoreQ (hc : xt_cd y pc = some (.astore i, r, q)) (hl : i < L.length) (hb : xv_b1 (xt_lg y) i = true) (k : xx sc y (pc + 2) (L.set i (some (va_rf w))) st h P) : xx sc y pc L (va_rf w :: st) h P := by
  cases w
  · exact xo_astoreN hc hl hb k
  · exact xo_astore hc hl hb k
theorem xo_astore_nQ {k0 : Fin 4} (hc : xt_cd y pc = some (.astore_n k0, r, q)) (hl : (k0 : Nat) < L.length) (hb : xv_b1 (xt_lg y) (k0 : Nat) = true) (k : xx sc y (pc + 1) (L.set (k0 : Nat) (some (va_rf w))) st h P) : xx sc y pc L (va_rf w :: st) h P := by
  cases w
  · exact xo_astore_nN hc hl hb k
  · exact xo_astore_n hc hl hb k
theorem va_rf_cat (w : Option Nat) : (va_rf w).category = 1 := by cases w <;> rfl
theorem cat_int (x : Int32) : (Value.int x).category = 1 := rfl
theorem cat_long (x : Int64) : (Value.long x).category = 2 := rfl
theorem cat_ref (x : Nat) : (Value.ref x).category = 1 := rfl
theorem va_rf_some (a : Nat) : va_rf (some a) = .ref a := rfl
theorem cat_null : Value.null.category = 1 := rfl
theorem d_ifnull {A B : xm β} (hc : xt_cd y pc = some (.ifnull off, r, q)) (ht : (pc : Int) + off = (t : Int)) (e : (if w = none then A else B) h = some X) (kt : w = none → A h = some X → xx sc y t L st h P) (kf : ¬ w = none → B h = some X → xx sc y (pc + 3) L st h P) : xx sc y pc L (va_rf w :: st) h P := by
  cases w with
  | none => exact xo_ifnullN hc ht (kt rfl (by simpa using e))
  | some a => exact xo_ifnullR hc ht (kf (fun z => by cases z) (by simpa using e))
theorem d_ifnonnull {A B : xm β} (hc : xt_cd y pc = some (.ifnonnull off, r, q)) (ht : (pc : Int) + off = (t : Int)) (e : (if ¬ w = none then A else B) h = some X) (kt : ¬ w = none → A h = some X → xx sc y t L st h P) (kf : ¬ ¬ w = none → B h = some X → xx sc y (pc + 3) L st h P) : xx sc y pc L (va_rf w :: st) h P := by
  cases w with
  | none => exact xo_ifnonnullN hc ht (kf (fun z => z rfl) (by simpa using e))
  | some a => exact xo_ifnonnullR hc ht (kt (fun z => by cases z) (by simpa using e))
theorem d_acmp_eq {A B : xm β} (hc : xt_cd y pc = some (.if_acmp .eq off, r, q)) (ht : (pc : Int) + off = (t : Int)) (e : mb (cq w1 w2) (fun _ => if w1 = w2 then A else B) h = some X) (kt : w1 = w2 → A h = some X → xx sc y t L st h P) (kf : ¬ w1 = w2 → B h = some X → xx sc y (pc + 3) L st h P) : xx sc y pc L (va_rf w2 :: va_rf w1 :: st) h P := by
  obtain ⟨_, h1, e1, e2⟩ := mb_inv e
  unfold cq at e1
  split at e1
  · rename_i hk
    cases e1
    refine xo_acmp_eq hc ht hk (fun z => kt z ?_) (fun z => kf z ?_)
    · rw [if_pos z] at e2; exact e2
    · rw [if_neg z] at e2; exact e2
  · cases e1
theorem d_acmp_ne {A B : xm β} (hc : xt_cd y pc = some (.if_acmp .ne off, r, q)) (ht : (pc : Int) + off = (t : Int)) (e : mb (cq w1 w2) (fun _ => if ¬ w1 = w2 then A else B) h = some X) (kt : ¬ w1 = w2 → A h = some X → xx sc y t L st h P) (kf : ¬ ¬ w1 = w2 → B h = some X → xx sc y (pc + 3) L st h P) : xx sc y pc L (va_rf w2 :: va_rf w1 :: st) h P := by
  obtain ⟨_, h1, e1, e2⟩ := mb_inv e
  unfold cq at e1
  split at e1
  · rename_i hk
    cases e1
    refine xo_acmp_ne hc ht hk (fun z => kf (fun q => q z) ?_) (fun z => kt z ?_)
    · rw [if_neg (fun q => q z)] at e2; exact e2
    · rw [if_pos z] at e2; exact e2
  · cases e1
theorem d_if_eq {A B : xm β} (hc : xt_cd y pc = some (.ifCond .eq off, r, q)) (ht : (pc : Int) + off = (t : Int)) (e : (if x = 0 then A else B) h = some X) (kt : (x = 0) → A h = some X → xx sc y t L st h P) (kf : ¬ (x = 0) → B h = some X → xx sc y (pc + 3) L st h P) : xx sc y pc L (.int x :: st) h P :=
  xo_if_eq hc ht (fun g => kt g (by rw [if_pos g] at e; exact e)) (fun g => kf g (by rw [if_neg g] at e; exact e))
theorem d_icmp_eq {A B : xm β} (hc : xt_cd y pc = some (.if_icmp .eq off, r, q)) (ht : (pc : Int) + off = (t : Int)) (e : (if x = z then A else B) h = some X) (kt : (x = z) → A h = some X → xx sc y t L st h P) (kf : ¬ (x = z) → B h = some X → xx sc y (pc + 3) L st h P) : xx sc y pc L (.int z :: .int x :: st) h P :=
  xo_icmp_eq hc ht (fun g => kt g (by rw [if_pos g] at e; exact e)) (fun g => kf g (by rw [if_neg g] at e; exact e))
theorem d_if_ne {A B : xm β} (hc : xt_cd y pc = some (.ifCond .ne off, r, q)) (ht : (pc : Int) + off = (t : Int)) (e : (if ¬ x = 0 then A else B) h = some X) (kt : (¬ x = 0) → A h = some X → xx sc y t L st h P) (kf : ¬ (¬ x = 0) → B h = some X → xx sc y (pc + 3) L st h P) : xx sc y pc L (.int x :: st) h P :=
  xo_if_ne hc ht (fun g => kt g (by rw [if_pos g] at e; exact e)) (fun g => kf g (by rw [if_neg g] at e; exact e))
theorem d_icmp_ne {A B : xm β} (hc : xt_cd y pc = some (.if_icmp .ne off, r, q)) (ht : (pc : Int) + off = (t : Int)) (e : (if ¬ x = z then A else B) h = some X) (kt : (¬ x = z) → A h = some X → xx sc y t L st h P) (kf : ¬ (¬ x = z) → B h = some X → xx sc y (pc + 3) L st h P) : xx sc y pc L (.int z :: .int x :: st) h P :=
  xo_icmp_ne hc ht (fun g => kt g (by rw [if_pos g] at e; exact e)) (fun g => kf g (by rw [if_neg g] at e; exact e))
theorem d_if_lt {A B : xm β} (hc : xt_cd y pc = some (.ifCond .lt off, r, q)) (ht : (pc : Int) + off = (t : Int)) (e : (if x < 0 then A else B) h = some X) (kt : (x < 0) → A h = some X → xx sc y t L st h P) (kf : ¬ (x < 0) → B h = some X → xx sc y (pc + 3) L st h P) : xx sc y pc L (.int x :: st) h P :=
  xo_if_lt hc ht (fun g => kt g (by rw [if_pos g] at e; exact e)) (fun g => kf g (by rw [if_neg g] at e; exact e))
theorem d_icmp_lt {A B : xm β} (hc : xt_cd y pc = some (.if_icmp .lt off, r, q)) (ht : (pc : Int) + off = (t : Int)) (e : (if x < z then A else B) h = some X) (kt : (x < z) → A h = some X → xx sc y t L st h P) (kf : ¬ (x < z) → B h = some X → xx sc y (pc + 3) L st h P) : xx sc y pc L (.int z :: .int x :: st) h P :=
  xo_icmp_lt hc ht (fun g => kt g (by rw [if_pos g] at e; exact e)) (fun g => kf g (by rw [if_neg g] at e; exact e))
theorem d_if_ge {A B : xm β} (hc : xt_cd y pc = some (.ifCond .ge off, r, q)) (ht : (pc : Int) + off = (t : Int)) (e : (if 0 ≤ x then A else B) h = some X) (kt : (0 ≤ x) → A h = some X → xx sc y t L st h P) (kf : ¬ (0 ≤ x) → B h = some X → xx sc y (pc + 3) L st h P) : xx sc y pc L (.int x :: st) h P :=
  xo_if_ge hc ht (fun g => kt g (by rw [if_pos g] at e; exact e)) (fun g => kf g (by rw [if_neg g] at e; exact e))
theorem d_icmp_ge {A B : xm β} (hc : xt_cd y pc = some (.if_icmp .ge off, r, q)) (ht : (pc : Int) + off = (t : Int)) (e : (if z ≤ x then A else B) h = some X) (kt : (z ≤ x) → A h = some X → xx sc y t L st h P) (kf : ¬ (z ≤ x) → B h = some X → xx sc y (pc + 3) L st h P) : xx sc y pc L (.int z :: .int x :: st) h P :=
  xo_icmp_ge hc ht (fun g => kt g (by rw [if_pos g] at e; exact e)) (fun g => kf g (by rw [if_neg g] at e; exact e))
theorem d_if_gt {A B : xm β} (hc : xt_cd y pc = some (.ifCond .gt off, r, q)) (ht : (pc : Int) + off = (t : Int)) (e : (if 0 < x then A else B) h = some X) (kt : (0 < x) → A h = some X → xx sc y t L st h P) (kf : ¬ (0 < x) → B h = some X → xx sc y (pc + 3) L st h P) : xx sc y pc L (.int x :: st) h P :=
  xo_if_gt hc ht (fun g => kt g (by rw [if_pos g] at e; exact e)) (fun g => kf g (by rw [if_neg g] at e; exact e))
theorem d_icmp_gt {A B : xm β} (hc : xt_cd y pc = some (.if_icmp .gt off, r, q)) (ht : (pc : Int) + off = (t : Int)) (e : (if z < x then A else B) h = some X) (kt : (z < x) → A h = some X → xx sc y t L st h P) (kf : ¬ (z < x) → B h = some X → xx sc y (pc + 3) L st h P) : xx sc y pc L (.int z :: .int x :: st) h P :=
  xo_icmp_gt hc ht (fun g => kt g (by rw [if_pos g] at e; exact e)) (fun g => kf g (by rw [if_neg g] at e; exact e))
theorem d_if_le {A B : xm β} (hc : xt_cd y pc = some (.ifCond .le off, r, q)) (ht : (pc : Int) + off = (t : Int)) (e : (if x ≤ 0 then A else B) h = some X) (kt : (x ≤ 0) → A h = some X → xx sc y t L st h P) (kf : ¬ (x ≤ 0) → B h = some X → xx sc y (pc + 3) L st h P) : xx sc y pc L (.int x :: st) h P :=
  xo_if_le hc ht (fun g => kt g (by rw [if_pos g] at e; exact e)) (fun g => kf g (by rw [if_neg g] at e; exact e))
theorem d_icmp_le {A B : xm β} (hc : xt_cd y pc = some (.if_icmp .le off, r, q)) (ht : (pc : Int) + off = (t : Int)) (e : (if x ≤ z then A else B) h = some X) (kt : (x ≤ z) → A h = some X → xx sc y t L st h P) (kf : ¬ (x ≤ z) → B h = some X → xx sc y (pc + 3) L st h P) : xx sc y pc L (.int z :: .int x :: st) h P :=
  xo_icmp_le hc ht (fun g => kt g (by rw [if_pos g] at e; exact e)) (fun g => kf g (by rw [if_neg g] at e; exact e))
theorem d_geti {k : Int32 → xm β} (hc : xt_cd y pc = some (.getfield i0, f, 0)) (e : mb (gi f a) k h = some X) (K : ∀ v : Int32, k v h = some X → xx sc y (pc + 3) L (.int v :: st) h P) : xx sc y pc L (.ref a :: st) h P := by
  obtain ⟨v, h1, e1, e2⟩ := mb_inv e
  unfold gi at e1
  split at e1
  · rename_i hk
    cases e1
    obtain ⟨n, zz, tg, ln, fr, er, fi, ei, el⟩ := h
    exact xo_geti hc (by decide) hk.1 hk.2 (K _ e2)
  · cases e1
theorem d_getz {k : Int32 → xm β} (hc : xt_cd y pc = some (.getfield i0, f, 2)) (e : mb (gi f a) k h = some X) (K : ∀ v : Int32, k v h = some X → xx sc y (pc + 3) L (.int v :: st) h P) : xx sc y pc L (.ref a :: st) h P := by
  obtain ⟨v, h1, e1, e2⟩ := mb_inv e
  unfold gi at e1
  split at e1
  · rename_i hk
    cases e1
    obtain ⟨n, zz, tg, ln, fr, er, fi, ei, el⟩ := h
    exact xo_geti hc (by decide) hk.1 hk.2 (K _ e2)
  · cases e1
theorem d_getr {k : Option Nat → xm β} (hc : xt_cd y pc = some (.getfield i0, f, 1)) (e : mb (gr f a) k h = some X) (K : ∀ v : Option Nat, k v h = some X → xx sc y (pc + 3) L (va_rf v :: st) h P) : xx sc y pc L (.ref a :: st) h P := by
  obtain ⟨v, h1, e1, e2⟩ := mb_inv e
  unfold gr at e1
  split at e1
  · rename_i hk
    cases e1
    obtain ⟨n, zz, tg, ln, fr, er, fi, ei, el⟩ := h
    exact xo_getr hc hk.1 hk.2 (K _ e2)
  · cases e1
theorem d_nn {k : Nat → xm β} (e : mb (nn w) k h = some X) (K : ∀ a, w = some a → k a h = some X → xx sc y pc L st h P) : xx sc y pc L st h P := by
  obtain ⟨v, h1, e1, e2⟩ := mb_inv e
  cases w with
  | none => cases e1
  | some a0 => cases e1; exact K _ rfl e2
theorem d_puti {k : Unit → xm β} (hc : xt_cd y pc = some (.putfield i0, f, 0)) (e : mb (pi_ f a x) k h = some X) (K : ∀ h1, k () h1 = some X → xx sc y (pc + 3) L st h1 P) : xx sc y pc L (.int x :: .ref a :: st) h P := by
  obtain ⟨v, h1, e1, e2⟩ := mb_inv e
  obtain ⟨n, zz, tg, ln, fr, er, fi, ei, el⟩ := h
  unfold pi_ at e1
  split at e1
  · rename_i hk
    cases e1
    exact xo_puti hc hk.1 hk.2 (K _ e2)
  · cases e1
theorem d_putz {k : Unit → xm β} (hc : xt_cd y pc = some (.putfield i0, f, 2)) (e : mb (pz f a x) k h = some X) (K : ∀ h1, k () h1 = some X → xx sc y (pc + 3) L st h1 P) : xx sc y pc L (.int x :: .ref a :: st) h P := by
  obtain ⟨v, h1, e1, e2⟩ := mb_inv e
  obtain ⟨n, zz, tg, ln, fr, er, fi, ei, el⟩ := h
  unfold pz at e1
  split at e1
  · rename_i hk
    cases e1
    exact xo_putz hc hk.1.1 hk.1.2 hk.2 (K _ e2)
  · cases e1
theorem d_putr {k : Unit → xm β} (hc : xt_cd y pc = some (.putfield i0, f, 1)) (e : mb (pr f a w) k h = some X) (K : ∀ h1, k () h1 = some X → xx sc y (pc + 3) L st h1 P) : xx sc y pc L (va_rf w :: .ref a :: st) h P := by
  obtain ⟨v, h1, e1, e2⟩ := mb_inv e
  obtain ⟨n, zz, tg, ln, fr, er, fi, ei, el⟩ := h
  unfold pr at e1
  split at e1
  · rename_i hk
    cases e1
    cases w with
    | none => exact xo_putN hc hk.1 hk.2 (K _ e2)
    | some b => exact xo_putr hc hk.1 hk.2 (K _ e2)
  · cases e1
theorem d_iald {k : Int32 → xm β} (hc : xt_cd y pc = some (.iaload, r, q)) (e : mb (li a j) k h = some X) (K : ∀ v : Int32, k v h = some X → xx sc y (pc + 1) L (.int v :: st) h P) : xx sc y pc L (.int j :: .ref a :: st) h P := by
  obtain ⟨v, h1, e1, e2⟩ := mb_inv e
  obtain ⟨n, zz, tg, ln, fr, er, fi, ei, el⟩ := h
  unfold li at e1
  split at e1
  · rename_i hk
    cases e1
    exact xo_iald hc hk.1 hk.2.1 hk.2.2.1 hk.2.2.2.1 hk.2.2.2.2 (K _ e2)
  · cases e1
theorem d_sald {k : Int32 → xm β} (hc : xt_cd y pc = some (.iaload, r, q)) (e : mb (ls sc j) k h = some X) (K : ∀ v : Int32, k v h = some X → xx sc y (pc + 1) L (.int v :: st) h P) : xx sc y pc L (.int j :: .ref xv_SB :: st) h P := by
  obtain ⟨v, h1, e1, e2⟩ := mb_inv e
  unfold ls at e1
  split at e1
  · rename_i hk
    cases e1
    exact xo_sald hc hk.1 hk.2 (K _ e2)
  · cases e1
theorem d_bald {k : Int32 → xm β} (hc : xt_cd y pc = some (.baload, r, q)) (e : mb (lb a j) k h = some X) (K : ∀ v : Int32, k v h = some X → xx sc y (pc + 1) L (.int v :: st) h P) : xx sc y pc L (.int j :: .ref a :: st) h P := by
  obtain ⟨v, h1, e1, e2⟩ := mb_inv e
  obtain ⟨n, zz, tg, ln, fr, er, fi, ei, el⟩ := h
  unfold lb at e1
  split at e1
  · rename_i hk
    cases e1
    rcases hk.2.2.2 with g | g
    · exact xo_bald hc hk.1 hk.2.1 hk.2.2.1 g (K _ e2)
    · exact xo_zald hc hk.1 hk.2.1 hk.2.2.1 g (K _ e2)
  · cases e1
theorem d_lald {k : Int64 → xm β} (hc : xt_cd y pc = some (.laload, r, q)) (e : mb (ll a j) k h = some X) (K : ∀ v : Int64, k v h = some X → xx sc y (pc + 1) L (.long v :: st) h P) : xx sc y pc L (.int j :: .ref a :: st) h P := by
  obtain ⟨v, h1, e1, e2⟩ := mb_inv e
  obtain ⟨n, zz, tg, ln, fr, er, fi, ei, el⟩ := h
  unfold ll at e1
  split at e1
  · rename_i hk
    cases e1
    exact xo_lald hc hk.1 hk.2.1 hk.2.2.1 hk.2.2.2 (K _ e2)
  · cases e1
theorem d_aald {k : Option Nat → xm β} (hc : xt_cd y pc = some (.aaload, r, q)) (e : mb (lr r a j) k h = some X) (K : ∀ v : Option Nat, k v h = some X → xx sc y (pc + 1) L (va_rf v :: st) h P) : xx sc y pc L (.int j :: .ref a :: st) h P := by
  obtain ⟨v, h1, e1, e2⟩ := mb_inv e
  obtain ⟨n, zz, tg, ln, fr, er, fi, ei, el⟩ := h
  unfold lr at e1
  split at e1
  · rename_i hk
    cases e1
    exact xo_aald hc hk.1 hk.2.1 hk.2.2.1 hk.2.2.2 (K _ e2)
  · cases e1
theorem d_iast {k : Unit → xm β} (hc : xt_cd y pc = some (.iastore, r, q)) (e : mb (si a j x) k h = some X) (K : ∀ h1, k () h1 = some X → xx sc y (pc + 1) L st h1 P) : xx sc y pc L (.int x :: .int j :: .ref a :: st) h P := by
  obtain ⟨v, h1, e1, e2⟩ := mb_inv e
  obtain ⟨n, zz, tg, ln, fr, er, fi, ei, el⟩ := h
  unfold si at e1
  split at e1
  · rename_i hk
    cases e1
    exact xo_iast hc hk.1 hk.2.1 hk.2.2.1 hk.2.2.2 (K _ e2)
  · cases e1
theorem d_bast {k : Unit → xm β} (hc : xt_cd y pc = some (.bastore, r, q)) (e : mb (sb a j x) k h = some X) (K : ∀ h1, k () h1 = some X → xx sc y (pc + 1) L st h1 P) : xx sc y pc L (.int x :: .int j :: .ref a :: st) h P := by
  obtain ⟨v, h1, e1, e2⟩ := mb_inv e
  obtain ⟨n, zz, tg, ln, fr, er, fi, ei, el⟩ := h
  unfold sb at e1
  split at e1
  · rename_i hk
    split at e1
    · rename_i g
      cases e1
      exact xo_bast hc hk.1 hk.2.1 hk.2.2 g (K _ e2)
    · split at e1
      · rename_i g
        cases e1
        exact xo_zast hc hk.1 hk.2.1 hk.2.2 g.1 g.2 (K _ e2)
      · cases e1
  · cases e1
theorem d_last {k : Unit → xm β} (hc : xt_cd y pc = some (.lastore, r, q)) (e : mb (sl a j u) k h = some X) (K : ∀ h1, k () h1 = some X → xx sc y (pc + 1) L st h1 P) : xx sc y pc L (.long u :: .int j :: .ref a :: st) h P := by
  obtain ⟨v, h1, e1, e2⟩ := mb_inv e
  obtain ⟨n, zz, tg, ln, fr, er, fi, ei, el⟩ := h
  unfold sl at e1
  split at e1
  · rename_i hk
    cases e1
    exact xo_last hc hk.1 hk.2.1 hk.2.2.1 hk.2.2.2 (K _ e2)
  · cases e1
theorem d_aast {k : Unit → xm β} (hc : xt_cd y pc = some (.aastore, r, q)) (e : mb (sr r a j w) k h = some X) (K : ∀ h1, k () h1 = some X → xx sc y (pc + 1) L st h1 P) : xx sc y pc L (va_rf w :: .int j :: .ref a :: st) h P := by
  obtain ⟨v, h1, e1, e2⟩ := mb_inv e
  obtain ⟨n, zz, tg, ln, fr, er, fi, ei, el⟩ := h
  unfold sr at e1
  split at e1
  · rename_i hk
    cases e1
    cases w with
    | none => exact xo_aastN hc hk.1 hk.2.1 hk.2.2.1 hk.2.2.2.1 (K _ e2)
    | some b =>
      have g := hk.2.2.2.2
      simp only [xv_ok, decide_eq_true_eq] at g
      have g4 : tg a = r := hk.2.2.2.1
      rw [g4] at g
      exact xo_aast hc hk.1 hk.2.1 hk.2.2.1 hk.2.2.2.1 g.1 g.2 (K _ e2)
  · cases e1
theorem d_len {k : Int32 → xm β} (hc : xt_cd y pc = some (.arraylength, r, q)) (e : mb (len r q a) k h = some X) (K : ∀ v : Int32, k v h = some X → xx sc y (pc + 1) L (.int v :: st) h P) : xx sc y pc L (.ref a :: st) h P := by
  obtain ⟨v, h1, e1, e2⟩ := mb_inv e
  obtain ⟨n, zz, tg, ln, fr, er, fi, ei, el⟩ := h
  unfold len at e1
  split at e1
  · rename_i hk
    cases e1
    obtain ⟨-, rfl, rfl⟩ := hk
    exact xo_elen hc (K _ e2)
  · split at e1
    · rename_i hk
      cases e1
      exact xo_alen hc hk.2.2.1 hk.1 hk.2.1 hk.2.2.2 (K _ e2)
    · cases e1
theorem d_new {k : Nat → xm β} (hc : xt_cd y pc = some (.new i0, r, q)) (e : mb (nw r q) k h = some X) (K : ∀ (a : Nat) (h1 : xv_H), k a h1 = some X → xx sc y (pc + 3) L (va_rf (some a) :: st) h1 P) : xx sc y pc L st h P := by
  obtain ⟨v, h1, e1, e2⟩ := mb_inv e
  obtain ⟨n, zz, tg, ln, fr, er, fi, ei, el⟩ := h
  unfold nw at e1
  cases e1
  exact xo_new hc (K _ _ e2)
theorem d_newa {at_ : ClassFile.ArrayType} {k : Nat → xm β} (hc : xt_cd y pc = some (.newarray at_, r, q)) (e : mb (na r x) k h = some X) (K : ∀ (a : Nat) (h1 : xv_H), k a h1 = some X → xx sc y (pc + 2) L (va_rf (some a) :: st) h1 P) : xx sc y pc L (.int x :: st) h P := by
  obtain ⟨v, h1, e1, e2⟩ := mb_inv e
  obtain ⟨n, zz, tg, ln, fr, er, fi, ei, el⟩ := h
  unfold na at e1
  split at e1
  · rename_i hk
    cases e1
    exact xo_newa hc hk.1 hk.2 (K _ _ e2)
  · cases e1
theorem d_anew {k : Nat → xm β} (hc : xt_cd y pc = some (.anewarray i0, r, q)) (e : mb (na r x) k h = some X) (K : ∀ (a : Nat) (h1 : xv_H), k a h1 = some X → xx sc y (pc + 3) L (va_rf (some a) :: st) h1 P) : xx sc y pc L (.int x :: st) h P := by
  obtain ⟨v, h1, e1, e2⟩ := mb_inv e
  obtain ⟨n, zz, tg, ln, fr, er, fi, ei, el⟩ := h
  unfold na at e1
  split at e1
  · rename_i hk
    cases e1
    exact xo_anew hc hk.1 hk.2 (K _ _ e2)
  · cases e1
theorem d_cast {k : Unit → xm β} (hc : xt_cd y pc = some (.checkcast i0, r, q)) (e : mb (ct r w) k h = some X) (K : k () h = some X → xx sc y (pc + 3) L (va_rf w :: st) h P) : xx sc y pc L (va_rf w :: st) h P := by
  obtain ⟨v, h1, e1, e2⟩ := mb_inv e
  obtain ⟨n, zz, tg, ln, fr, er, fi, ei, el⟩ := h
  unfold ct at e1
  cases w with
  | none => cases e1; exact xo_castN hc (K e2)
  | some a =>
    simp only at e1
    split at e1
    · rename_i hk
      cases e1
      exact xo_cast hc hk.1 hk.2 (K e2)
    · cases e1
theorem d_idiv {k : Unit → xm β} (hc : xt_cd y pc = some (.idiv, r, q)) (e : mb (dz z) k h = some X) (K : k () h = some X → xx sc y (pc + 1) L (.int (x / z) :: st) h P) : xx sc y pc L (.int z :: .int x :: st) h P := by
  obtain ⟨v, h1, e1, e2⟩ := mb_inv e
  unfold dz at e1
  split at e1
  · cases e1
  · rename_i hk
    cases e1
    exact xo_idiv hc hk (K e2)
theorem d_irem {k : Unit → xm β} (hc : xt_cd y pc = some (.irem, r, q)) (e : mb (dz z) k h = some X) (K : k () h = some X → xx sc y (pc + 1) L (.int (x - x / z * z) :: st) h P) : xx sc y pc L (.int z :: .int x :: st) h P := by
  obtain ⟨v, h1, e1, e2⟩ := mb_inv e
  unfold dz at e1
  split at e1
  · cases e1
  · rename_i hk
    cases e1
    exact xo_irem hc hk (K e2)
/-- the end of a method -/
theorem d_iret {x' : Int32} {h' : xv_H} (hc : xt_cd y pc = some (.ireturn, r, 0)) (e : mr x h = some (x', h')) : xx sc y pc L [.int x] h (fun v g => v = some (.int x') ∧ g = h') := by
  cases e
  exact xo_ireturn hc ⟨rfl, rfl⟩
theorem d_zret {x' : Int32} {h' : xv_H} (hc : xt_cd y pc = some (.ireturn, r, 2)) (e : mb (bz x) (fun _ => mr x) h = some (x', h')) : xx sc y pc L [.int x] h (fun v g => v = some (.int x') ∧ g = h') := by
  obtain ⟨v, h1, e1, e2⟩ := mb_inv e
  unfold bz at e1
  split at e1
  · rename_i hk
    cases e1
    cases e2
    exact xo_zreturn hc hk ⟨rfl, rfl⟩
  · cases e1
theorem d_lret {u' : Int64} {h' : xv_H} (hc : xt_cd y pc = some (.lreturn, r, q)) (e : mr u h = some (u', h')) : xx sc y pc L [.long u] h (fun v g => v = some (.long u') ∧ g = h') := by
  cases e
  exact xo_lreturn hc ⟨rfl, rfl⟩
theorem d_aret {w' : Option Nat} {h' : xv_H} (hc : xt_cd y pc = some (.areturn, r, q)) (e : mr w h = some (w', h')) : xx sc y pc L [va_rf w] h (fun v g => v = some (va_rf w') ∧ g = h') := by
  cases e
  cases w
  · exact xo_areturnN hc ⟨rfl, rfl⟩
  · exact xo_areturn hc ⟨rfl, rfl⟩
theorem d_ret {u' : Unit} {h' : xv_H} (hc : xt_cd y pc = some (.return_, r, q)) (e : mr () h = some (u', h')) : xx sc y pc L [] h (fun v g => v = none ∧ g = h') := by
  cases e
  exact xo_return hc ⟨rfl, rfl⟩
theorem d_static_v {p : xm Unit} {k : Unit → xm β} {av rest : List Value} (hc : xt_cd y pc = some (.invokestatic i0, r, q)) (hr : ¬ r = 1000 ∧ ¬ r = 1004 ∧ ¬ r = 1005) (hst : st = av.reverse ++ rest) (hq : av.length = q) (hf : xv_fit (xt_lg r) (xt_mx r) 0 av = true) (hR : xv_room rest = true) (hm : ∀ x0 h1, p h = some (x0, h1) → xr sc r av h (fun v g => v = none ∧ g = h1)) (e : mb p k h = some X) (K : ∀ (x0 : Unit) (h1 : xv_H), k x0 h1 = some X → xx sc y (pc + 3) L (rest) h1 P) : xx sc y pc L st h P := by
  obtain ⟨x0, h1, e1, e2⟩ := mb_inv e
  refine xo_static hc hr hst hq hf hR (hm x0 h1 e1) ?_
  rintro v g ⟨rfl, rfl⟩
  exact K _ _ e2
theorem d_special_v {p : xm Unit} {k : Unit → xm β} {av rest : List Value} (hc : xt_cd y pc = some (.invokespecial i0, r, q)) (hr : ¬ r = 1001) (hst : st = av.reverse ++ .ref a :: rest) (hq : av.length = q) (hf : xv_fit (xt_lg r) (xt_mx r) 0 (.ref a :: av) = true) (hR : xv_room rest = true) (hm : ∀ x0 h1, p h = some (x0, h1) → xr sc r (.ref a :: av) h (fun v g => v = none ∧ g = h1)) (e : mb p k h = some X) (K : ∀ (x0 : Unit) (h1 : xv_H), k x0 h1 = some X → xx sc y (pc + 3) L (rest) h1 P) : xx sc y pc L st h P := by
  obtain ⟨x0, h1, e1, e2⟩ := mb_inv e
  refine xo_special hc hr hst hq hf hR (hm x0 h1 e1) ?_
  rintro v g ⟨rfl, rfl⟩
  exact K _ _ e2
theorem d_virtual_v {p : xm Unit} {k : Unit → xm β} {av rest : List Value} (hc : xt_cd y pc = some (.invokevirtual i0, r, q)) (hr : ¬ r = 1002 ∧ ¬ r = 1003) (hst : st = av.reverse ++ .ref a :: rest) (hq : av.length = q) (hf : xv_fit (xt_lg r) (xt_mx r) 0 (.ref a :: av) = true) (hR : xv_room rest = true) (hm : ∀ x0 h1, p h = some (x0, h1) → xr sc r (.ref a :: av) h (fun v g => v = none ∧ g = h1)) (e : mb (vc (xt_cs r) a) (fun _ => mb p k) h = some X) (K : ∀ (x0 : Unit) (h1 : xv_H), k x0 h1 = some X → xx sc y (pc + 3) L (rest) h1 P) : xx sc y pc L st h P := by
  obtain ⟨_, h0, e0, e⟩ := mb_inv e
  unfold vc at e0
  split at e0
  · rename_i hk
    cases e0
    obtain ⟨x0, h1, e1, e2⟩ := mb_inv e
    obtain ⟨n, zz, tg, ln, fr, er, fi, ei, el⟩ := h
    refine xo_virtual hc hr hk.1 hk.2 hst hq hf hR (hm x0 h1 e1) ?_
    rintro v g ⟨rfl, rfl⟩
    exact K _ _ e2
  · cases e0
theorem d_static_i {p : xm Int32} {k : Int32 → xm β} {av rest : List Value} (hc : xt_cd y pc = some (.invokestatic i0, r, q)) (hr : ¬ r = 1000 ∧ ¬ r = 1004 ∧ ¬ r = 1005) (hst : st = av.reverse ++ rest) (hq : av.length = q) (hf : xv_fit (xt_lg r) (xt_mx r) 0 av = true) (hR : xv_room rest = true) (hm : ∀ x0 h1, p h = some (x0, h1) → xr sc r av h (fun v g => v = some (.int x0) ∧ g = h1)) (e : mb p k h = some X) (K : ∀ (x0 : Int32) (h1 : xv_H), k x0 h1 = some X → xx sc y (pc + 3) L (.int x0 :: rest) h1 P) : xx sc y pc L st h P := by
  obtain ⟨x0, h1, e1, e2⟩ := mb_inv e
  refine xo_static hc hr hst hq hf hR (hm x0 h1 e1) ?_
  rintro v g ⟨rfl, rfl⟩
  exact K _ _ e2
theorem d_special_i {p : xm Int32} {k : Int32 → xm β} {av rest : List Value} (hc : xt_cd y pc = some (.invokespecial i0, r, q)) (hr : ¬ r = 1001) (hst : st = av.reverse ++ .ref a :: rest) (hq : av.length = q) (hf : xv_fit (xt_lg r) (xt_mx r) 0 (.ref a :: av) = true) (hR : xv_room rest = true) (hm : ∀ x0 h1, p h = some (x0, h1) → xr sc r (.ref a :: av) h (fun v g => v = some (.int x0) ∧ g = h1)) (e : mb p k h = some X) (K : ∀ (x0 : Int32) (h1 : xv_H), k x0 h1 = some X → xx sc y (pc + 3) L (.int x0 :: rest) h1 P) : xx sc y pc L st h P := by
  obtain ⟨x0, h1, e1, e2⟩ := mb_inv e
  refine xo_special hc hr hst hq hf hR (hm x0 h1 e1) ?_
  rintro v g ⟨rfl, rfl⟩
  exact K _ _ e2
theorem d_virtual_i {p : xm Int32} {k : Int32 → xm β} {av rest : List Value} (hc : xt_cd y pc = some (.invokevirtual i0, r, q)) (hr : ¬ r = 1002 ∧ ¬ r = 1003) (hst : st = av.reverse ++ .ref a :: rest) (hq : av.length = q) (hf : xv_fit (xt_lg r) (xt_mx r) 0 (.ref a :: av) = true) (hR : xv_room rest = true) (hm : ∀ x0 h1, p h = some (x0, h1) → xr sc r (.ref a :: av) h (fun v g => v = some (.int x0) ∧ g = h1)) (e : mb (vc (xt_cs r) a) (fun _ => mb p k) h = some X) (K : ∀ (x0 : Int32) (h1 : xv_H), k x0 h1 = some X → xx sc y (pc + 3) L (.int x0 :: rest) h1 P) : xx sc y pc L st h P := by
  obtain ⟨_, h0, e0, e⟩ := mb_inv e
  unfold vc at e0
  split at e0
  · rename_i hk
    cases e0
    obtain ⟨x0, h1, e1, e2⟩ := mb_inv e
    obtain ⟨n, zz, tg, ln, fr, er, fi, ei, el⟩ := h
    refine xo_virtual hc hr hk.1 hk.2 hst hq hf hR (hm x0 h1 e1) ?_
    rintro v g ⟨rfl, rfl⟩
    exact K _ _ e2
  · cases e0
theorem d_static_l {p : xm Int64} {k : Int64 → xm β} {av rest : List Value} (hc : xt_cd y pc = some (.invokestatic i0, r, q)) (hr : ¬ r = 1000 ∧ ¬ r = 1004 ∧ ¬ r = 1005) (hst : st = av.reverse ++ rest) (hq : av.length = q) (hf : xv_fit (xt_lg r) (xt_mx r) 0 av = true) (hR : xv_room rest = true) (hm : ∀ x0 h1, p h = some (x0, h1) → xr sc r av h (fun v g => v = some (.long x0) ∧ g = h1)) (e : mb p k h = some X) (K : ∀ (x0 : Int64) (h1 : xv_H), k x0 h1 = some X → xx sc y (pc + 3) L (.long x0 :: rest) h1 P) : xx sc y pc L st h P := by
  obtain ⟨x0, h1, e1, e2⟩ := mb_inv e
  refine xo_static hc hr hst hq hf hR (hm x0 h1 e1) ?_
  rintro v g ⟨rfl, rfl⟩
  exact K _ _ e2
theorem d_special_l {p : xm Int64} {k : Int64 → xm β} {av rest : List Value} (hc : xt_cd y pc = some (.invokespecial i0, r, q)) (hr : ¬ r = 1001) (hst : st = av.reverse ++ .ref a :: rest) (hq : av.length = q) (hf : xv_fit (xt_lg r) (xt_mx r) 0 (.ref a :: av) = true) (hR : xv_room rest = true) (hm : ∀ x0 h1, p h = some (x0, h1) → xr sc r (.ref a :: av) h (fun v g => v = some (.long x0) ∧ g = h1)) (e : mb p k h = some X) (K : ∀ (x0 : Int64) (h1 : xv_H), k x0 h1 = some X → xx sc y (pc + 3) L (.long x0 :: rest) h1 P) : xx sc y pc L st h P := by
  obtain ⟨x0, h1, e1, e2⟩ := mb_inv e
  refine xo_special hc hr hst hq hf hR (hm x0 h1 e1) ?_
  rintro v g ⟨rfl, rfl⟩
  exact K _ _ e2
theorem d_virtual_l {p : xm Int64} {k : Int64 → xm β} {av rest : List Value} (hc : xt_cd y pc = some (.invokevirtual i0, r, q)) (hr : ¬ r = 1002 ∧ ¬ r = 1003) (hst : st = av.reverse ++ .ref a :: rest) (hq : av.length = q) (hf : xv_fit (xt_lg r) (xt_mx r) 0 (.ref a :: av) = true) (hR : xv_room rest = true) (hm : ∀ x0 h1, p h = some (x0, h1) → xr sc r (.ref a :: av) h (fun v g => v = some (.long x0) ∧ g = h1)) (e : mb (vc (xt_cs r) a) (fun _ => mb p k) h = some X) (K : ∀ (x0 : Int64) (h1 : xv_H), k x0 h1 = some X → xx sc y (pc + 3) L (.long x0 :: rest) h1 P) : xx sc y pc L st h P := by
  obtain ⟨_, h0, e0, e⟩ := mb_inv e
  unfold vc at e0
  split at e0
  · rename_i hk
    cases e0
    obtain ⟨x0, h1, e1, e2⟩ := mb_inv e
    obtain ⟨n, zz, tg, ln, fr, er, fi, ei, el⟩ := h
    refine xo_virtual hc hr hk.1 hk.2 hst hq hf hR (hm x0 h1 e1) ?_
    rintro v g ⟨rfl, rfl⟩
    exact K _ _ e2
  · cases e0
theorem d_static_a {p : xm (Option Nat)} {k : (Option Nat) → xm β} {av rest : List Value} (hc : xt_cd y pc = some (.invokestatic i0, r, q)) (hr : ¬ r = 1000 ∧ ¬ r = 1004 ∧ ¬ r = 1005) (hst : st = av.reverse ++ rest) (hq : av.length = q) (hf : xv_fit (xt_lg r) (xt_mx r) 0 av = true) (hR : xv_room rest = true) (hm : ∀ x0 h1, p h = some (x0, h1) → xr sc r av h (fun v g => v = some (va_rf x0) ∧ g = h1)) (e : mb p k h = some X) (K : ∀ (x0 : (Option Nat)) (h1 : xv_H), k x0 h1 = some X → xx sc y (pc + 3) L (va_rf x0 :: rest) h1 P) : xx sc y pc L st h P := by
  obtain ⟨x0, h1, e1, e2⟩ := mb_inv e
  refine xo_static hc hr hst hq hf hR (hm x0 h1 e1) ?_
  rintro v g ⟨rfl, rfl⟩
  exact K _ _ e2
theorem d_special_a {p : xm (Option Nat)} {k : (Option Nat) → xm β} {av rest : List Value} (hc : xt_cd y pc = some (.invokespecial i0, r, q)) (hr : ¬ r = 1001) (hst : st = av.reverse ++ .ref a :: rest) (hq : av.length = q) (hf : xv_fit (xt_lg r) (xt_mx r) 0 (.ref a :: av) = true) (hR : xv_room rest = true) (hm : ∀ x0 h1, p h = some (x0, h1) → xr sc r (.ref a :: av) h (fun v g => v = some (va_rf x0) ∧ g = h1)) (e : mb p k h = some X) (K : ∀ (x0 : (Option Nat)) (h1 : xv_H), k x0 h1 = some X → xx sc y (pc + 3) L (va_rf x0 :: rest) h1 P) : xx sc y pc L st h P := by
  obtain ⟨x0, h1, e1, e2⟩ := mb_inv e
  refine xo_special hc hr hst hq hf hR (hm x0 h1 e1) ?_
  rintro v g ⟨rfl, rfl⟩
  exact K _ _ e2
theorem d_virtual_a {p : xm (Option Nat)} {k : (Option Nat) → xm β} {av rest : List Value} (hc : xt_cd y pc = some (.invokevirtual i0, r, q)) (hr : ¬ r = 1002 ∧ ¬ r = 1003) (hst : st = av.reverse ++ .ref a :: rest) (hq : av.length = q) (hf : xv_fit (xt_lg r) (xt_mx r) 0 (.ref a :: av) = true) (hR : xv_room rest = true) (hm : ∀ x0 h1, p h = some (x0, h1) → xr sc r (.ref a :: av) h (fun v g => v = some (va_rf x0) ∧ g = h1)) (e : mb (vc (xt_cs r) a) (fun _ => mb p k) h = some X) (K : ∀ (x0 : (Option Nat)) (h1 : xv_H), k x0 h1 = some X → xx sc y (pc + 3) L (va_rf x0 :: rest) h1 P) : xx sc y pc L st h P := by
  obtain ⟨_, h0, e0, e⟩ := mb_inv e
  unfold vc at e0
  split at e0
  · rename_i hk
    cases e0
    obtain ⟨x0, h1, e1, e2⟩ := mb_inv e
    obtain ⟨n, zz, tg, ln, fr, er, fi, ei, el⟩ := h
    refine xo_virtual hc hr hk.1 hk.2 hst hq hf hR (hm x0 h1 e1) ?_
    rintro v g ⟨rfl, rfl⟩
    exact K _ _ e2
  · cases e0
theorem xo_copy {idx : Nat} {k dp sp : Int32} {d s : Nat} {h1 : xv_H} (hc : xt_cd y pc = some (.invokestatic idx, 1000, q)) (hr : xv_room st = true) (hx : xv_copy xt_cp q 0 [] h k dp d sp s [] = some (0, [], [], h1)) (K : xx sc y (pc + 3) L st h1 P) : xx sc y pc L (.int k :: .int dp :: .ref d :: .int sp :: .ref s :: st) h P := by
  refine xx_own hc rfl ?_ K
  obtain ⟨n, zz, tg, ln, fr, er, fi, ei, el⟩ := h
  simp only [xv_inv, if_true]
  unfold xv_copy at hx ⊢
  split at hx
  · rename_i hk
    rw [if_pos ⟨hk.1, hk.2.1, hk.2.2.1, hr⟩]
    split at hx
    · rename_i g
      rw [if_pos g]
      cases hx
      rfl
    · rename_i g
      rw [if_neg g]
      split at hx
      · rename_i g2
        rw [if_pos g2]
        cases hx
        rfl
      · cases hx
  · cases hx
theorem d_copy {idx : Nat} {k dp sp : Int32} {d s : Nat} {kk : Unit → xm β} (hc : xt_cd y pc = some (.invokestatic idx, 1000, q)) (hr : xv_room st = true) (e : mb (cy q k dp d sp s) kk h = some X) (K : ∀ h1, kk () h1 = some X → xx sc y (pc + 3) L st h1 P) : xx sc y pc L (.int k :: .int dp :: .ref d :: .int sp :: .ref s :: st) h P := by
  obtain ⟨_, h1, e1, e2⟩ := mb_inv e
  unfold cy at e1
  split at e1
  · rename_i x hx
    cases e1
    obtain ⟨p1, p2, p3, p4⟩ := x
    have g : p1 = 0 ∧ p2 = [] ∧ p3 = [] := by
      obtain ⟨n, zz, tg, ln, fr, er, fi, ei, el⟩ := h
      unfold xv_copy at hx
      split at hx
      · split at hx
        · cases hx; exact ⟨rfl, rfl, rfl⟩
        · split at hx
          · cases hx; exact ⟨rfl, rfl, rfl⟩
          · cases hx
      · cases hx
    obtain ⟨rfl, rfl, rfl⟩ := g
    exact xo_copy hc hr hx (K _ e2)
  · cases e1
theorem d_clone {idx : Nat} {kk : Nat → xm β} (hc : xt_cd y pc = some (.invokevirtual idx, 1002, q)) (hr : xv_room st = true) (e : mb (cn a) kk h = some X) (K : ∀ (b : Nat) (h1 : xv_H), kk b h1 = some X → xx sc y (pc + 3) L (va_rf (some b) :: st) h1 P) : xx sc y pc L (.ref a :: st) h P := by
  obtain ⟨b, h1, e1, e2⟩ := mb_inv e
  obtain ⟨n, zz, tg, ln, fr, er, fi, ei, el⟩ := h
  unfold cn xv_clone at e1
  by_cases hk : a < n ∧ tg a = 100
  · have g : (if a < (n, zz, tg, ln, fr, er, fi, ei, el).1 ∧ (n, zz, tg, ln, fr, er, fi, ei, el).2.2.1 a = 100 ∧ xv_room [] = true then (match xv_new (n, zz, tg, ln, fr, er, fi, ei, el) 100 (ln a) (ln a) with | (n1, z, tg, ln, fr, er, fi, ei, el) => xv_nx 0 [] [.ref n] (n1, z, tg, ln, fr, er, fi, (fun b i => if b = n then ei a i else ei b i), el)) else none) = (match xv_new (n, zz, tg, ln, fr, er, fi, ei, el) 100 (ln a) (ln a) with | (n1, z, tg, ln, fr, er, fi, ei, el) => xv_nx 0 [] [.ref n] (n1, z, tg, ln, fr, er, fi, (fun b i => if b = n then ei a i else ei b i), el)) := if_pos ⟨hk.1, hk.2, rfl⟩
    rw [g] at e1
    simp only [xv_new, xv_nx] at e1
    cases e1
    refine xx_own hc rfl ?_ (K _ _ e2)
    simp only [xv_inv, if_true, xv_r1, xv_clone]
    rw [if_pos ⟨hk.1, hk.2, hr⟩]
    rfl
  · have g : ¬ (a < (n, zz, tg, ln, fr, er, fi, ei, el).1 ∧ (n, zz, tg, ln, fr, er, fi, ei, el).2.2.1 a = 100 ∧ xv_room [] = true) := fun z => hk ⟨z.1, z.2.1⟩
    rw [if_neg g] at e1
    cases e1
theorem d_getC {kk : Unit → xm β} (hc : xt_cd y pc = some (.invokevirtual i0, 1003, q)) (hr : xv_room st = true) (e : mb (gc q a) kk h = some X) (K : kk () h = some X → xx sc y (pc + 3) L (va_rf (some (xv_SB + 1)) :: st) h P) : xx sc y pc L (.ref a :: st) h P := by
  obtain ⟨_, h1, e1, e2⟩ := mb_inv e
  obtain ⟨n, zz, tg, ln, fr, er, fi, ei, el⟩ := h
  unfold gc at e1
  split at e1
  · rename_i hk
    cases e1
    exact xo_getC hc hk.1 hk.2 hr (K e2)
  · cases e1
theorem sw_out {x : Int32} (n : Nat) (hn : n < 2 ^ 30) (h : ∀ k, k ≤ n → ¬ x = Int32.ofNat k) : x.toInt < 0 ∨ (n : Int) < x.toInt := by
  by_cases h1 : x.toInt < 0
  · exact Or.inl h1
  · by_cases h2 : (n : Int) < x.toInt
    · exact Or.inr h2
    · exfalso
      refine h x.toInt.toNat (by omega) ?_
      apply Int32.toInt_inj.mp
      have e : (Int32.ofNat x.toInt.toNat).toInt = (x.toInt.toNat : Int) := nI_toInt (n := x.toInt.toNat) (by omega)
      rw [e]; omega
end XDD
