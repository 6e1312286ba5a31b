-- CellTree$Content.<init>(III[I[I)V
def b1_0 (F : Nat) (l0 : Option Nat) (l1 : Int32) (l2 : Int32) (l3 : Int32) (l4 : Option Nat) (l5 : Option Nat) : xm Unit := mb (nn l0) fun v1 => mb (pi_ 600 v1 l1) fun _ => mb (pi_ 601 v1 l2) fun _ => mb (pi_ 602 v1 l3) fun _ => mb (pr 603 v1 l4) fun _ => mb (pr 604 v1 l5) fun _ => mr ()
theorem t1_0 {sc : Nat × (Nat → Int32)} {F : Nat} {r : Unit} {h' : xv_H} {l0 : Option Nat} {l1 : Int32} {l2 : Int32} {l3 : Int32} {l4 : Option Nat} {l5 : Option Nat} {h : xv_H} (e : b1_0 F l0 l1 l2 l3 l4 l5 h = some (r, h')) : xx sc 1 0 [some (va_rf l0), some (.int l1), some (.int l2), some (.int l3), some (va_rf l4), some (va_rf l5)] [] h (fun v g => v = none ∧ g = h') := by
  unfold b1_0 at e
  refine xo_aload_nQ (w := l0) rfl rfl ?_
  refine d_nn e (fun v1 g e1 => ?_)
  subst g
  replace e := e1
  clear e1
  refine xo_init rfl (by simp [xv_room, va_rf_cat, cat_int, cat_long, cat_ref, cat_null]) ?_
  refine xo_aload_nQ (w := (some v1)) rfl rfl ?_
  refine xo_iload_n rfl rfl ?_
  refine d_puti rfl e (fun h e => ?_)
  refine xo_aload_nQ (w := (some v1)) rfl rfl ?_
  refine xo_iload_n rfl rfl ?_
  refine d_puti rfl e (fun h e => ?_)
  refine xo_aload_nQ (w := (some v1)) rfl rfl ?_
  refine xo_iload_n rfl rfl ?_
  refine d_puti rfl e (fun h e => ?_)
  refine xo_aload_nQ (w := (some v1)) rfl rfl ?_
  refine xo_aloadQ (w := l4) rfl rfl ?_
  refine d_putr (w := l4) rfl e (fun h e => ?_)
  refine xo_aload_nQ (w := (some v1)) rfl rfl ?_
  refine xo_aloadQ (w := l5) rfl rfl ?_
  refine d_putr (w := l5) rfl e (fun h e => ?_)
  exact d_ret rfl e
def m1 (F : Nat) (this : Nat) (p0 : Int32) (p1 : Int32) (p2 : Int32) (p3 : Option Nat) (p4 : Option Nat) : xm Unit := b1_0 F (some this) p0 p1 p2 p3 p4
theorem t1 {sc : Nat × (Nat → Int32)} {F : Nat} {this : Nat} {p0 : Int32} {p1 : Int32} {p2 : Int32} {p3 : Option Nat} {p4 : Option Nat} {h : xv_H} {r : Unit} {h' : xv_H} (e : m1 F this p0 p1 p2 p3 p4 h = some (r, h')) : xr sc 1 [.ref this, .int p0, .int p1, .int p2, va_rf p3, va_rf p4] h (fun v g => v = none ∧ g = h') := by
  have e0 : xv_ent (xt_mx 1) [.ref this, .int p0, .int p1, .int p2, va_rf p3, va_rf p4] = [some (va_rf (some this)), some (.int p0), some (.int p1), some (.int p2), some (va_rf p3), some (va_rf p4)] := by simp [xv_ent, xv_sl, va_rf_cat, cat_int, cat_long, cat_ref, cat_null, va_rf_some, show xt_mx 1 = 6 from rfl]
  unfold xr
  rw [e0]
  exact t1_0 e
-- CellTree$Cell.<init>(ILCellTree$Content;)V
def b2_0 (F : Nat) (l0 : Option Nat) (l1 : Int32) (l2 : Option Nat) : xm Unit := mb (nn l0) fun v1 => mb (pi_ 700 v1 l1) fun _ => mb (pr 701 v1 l2) fun _ => mr ()
theorem t2_0 {sc : Nat × (Nat → Int32)} {F : Nat} {r : Unit} {h' : xv_H} {l0 : Option Nat} {l1 : Int32} {l2 : Option Nat} {h : xv_H} (e : b2_0 F l0 l1 l2 h = some (r, h')) : xx sc 2 0 [some (va_rf l0), some (.int l1), some (va_rf l2)] [] h (fun v g => v = none ∧ g = h') := by
  unfold b2_0 at e
  refine xo_aload_nQ (w := l0) rfl rfl ?_
  refine d_nn e (fun v1 g e1 => ?_)
  subst g
  replace e := e1
  clear e1
  refine xo_init rfl (by simp [xv_room, va_rf_cat, cat_int, cat_long, cat_ref, cat_null]) ?_
  refine xo_aload_nQ (w := (some v1)) rfl rfl ?_
  refine xo_iload_n rfl rfl ?_
  refine d_puti rfl e (fun h e => ?_)
  refine xo_aload_nQ (w := (some v1)) rfl rfl ?_
  refine xo_aload_nQ (w := l2) rfl rfl ?_
  refine d_putr (w := l2) rfl e (fun h e => ?_)
  exact d_ret rfl e
def m2 (F : Nat) (this : Nat) (p0 : Int32) (p1 : Option Nat) : xm Unit := b2_0 F (some this) p0 p1
theorem t2 {sc : Nat × (Nat → Int32)} {F : Nat} {this : Nat} {p0 : Int32} {p1 : Option Nat} {h : xv_H} {r : Unit} {h' : xv_H} (e : m2 F this p0 p1 h = some (r, h')) : xr sc 2 [.ref this, .int p0, va_rf p1] h (fun v g => v = none ∧ g = h') := by
  have e0 : xv_ent (xt_mx 2) [.ref this, .int p0, va_rf p1] = [some (va_rf (some this)), some (.int p0), some (va_rf p1)] := by simp [xv_ent, xv_sl, va_rf_cat, cat_int, cat_long, cat_ref, cat_null, va_rf_some, show xt_mx 2 = 3 from rfl]
  unfold xr
  rw [e0]
  exact t2_0 e
-- CellTree$MemoryNode.<init>(ILCellTree$Cell;)V
def b3_61 (F : Nat) : xm Unit := mr ()
theorem t3_61 {sc : Nat × (Nat → Int32)} {F : Nat} {r : Unit} {h' : xv_H} {d0 d1 d2 d3 : Option Value} {h : xv_H} (e : b3_61 F h = some (r, h')) : xx sc 3 61 [d0, d1, d2, d3] [] h (fun v g => v = none ∧ g = h') := by
  unfold b3_61 at e
  exact d_ret rfl e
def b3_48 (k42 : Option Nat → Option Nat → Int32 → xm Unit) (F : Nat) (l0 : Option Nat) (l2 : Option Nat) (l3 : Int32) : xm Unit := mb (nn l0) fun v1 => mb (gr 301 v1) fun v2 => mb (nn v2) fun v3 => mb (sr 108 v3 l3 l2) fun _ => k42 (some v1) l2 (l3 + (1 : Int32))
theorem t3_48 {sc : Nat × (Nat → Int32)} {F : Nat} {r : Unit} {h' : xv_H} {k42 : Option Nat → Option Nat → Int32 → xm Unit} (hk42 : ∀ (l0 : Option Nat) (l2 : Option Nat) (l3 : Int32) (d1 : Option Value) (h : xv_H), k42 l0 l2 l3 h = some (r, h') → xx sc 3 42 [some (va_rf l0), d1, some (va_rf l2), some (.int l3)] [] h (fun v g => v = none ∧ g = h')) {l0 : Option Nat} {l2 : Option Nat} {l3 : Int32} {d1 : Option Value} {h : xv_H} (e : b3_48 k42 F l0 l2 l3 h = some (r, h')) : xx sc 3 48 [some (va_rf l0), d1, some (va_rf l2), some (.int l3)] [] h (fun v g => v = none ∧ g = h') := by
  unfold b3_48 at e
  refine xo_aload_nQ (w := l0) rfl rfl ?_
  refine d_nn e (fun v1 g e1 => ?_)
  subst g
  replace e := e1
  clear e1
  refine d_getr rfl e (fun v2 e => ?_)
  refine xo_iload_n rfl rfl ?_
  refine xo_aload_nQ (w := l2) rfl rfl ?_
  refine d_nn e (fun v3 g e1 => ?_)
  subst g
  replace e := e1
  clear e1
  refine d_aast (w := l2) rfl e (fun h e => ?_)
  refine xo_iincV (z := 1) rfl (by decide) rfl (Nat.le_of_ble_eq_true rfl) rfl ?_
  refine xo_goto rfl rfl ?_
  exact hk42 _ _ _ _ _ e
def b3_42 (F : Nat) : Nat → Option Nat → Option Nat → Int32 → xm Unit
  | 0, _, _, _ => fun _ => none
  | f + 1, l0, l2, l3 => if (8 : Int32) ≤ l3 then b3_61 F else b3_48 (b3_42 F f) F l0 l2 l3
theorem t3_42 {sc : Nat × (Nat → Int32)} {F : Nat} {r : Unit} {h' : xv_H} : ∀ (f : Nat) (l0 : Option Nat) (l2 : Option Nat) (l3 : Int32) (d1 : Option Value) (h : xv_H), b3_42 F f l0 l2 l3 h = some (r, h') → xx sc 3 42 [some (va_rf l0), d1, some (va_rf l2), some (.int l3)] [] h (fun v g => v = none ∧ g = h') := by
  intro f
  induction f with
  | zero => intro l0 l2 l3 d1 h e; cases e
  | succ f ih =>
    intro l0 l2 l3 d1 h e
    unfold b3_42 at e
    refine xo_iload_n rfl rfl ?_
    refine xo_bipushV (x := 8) rfl (by decide) ?_
    refine d_icmp_ge rfl rfl e (fun _ e => ?_) (fun _ e => ?_)
    · exact t3_61 e
    · exact t3_48 (fun a0 a1 a2 a3 h e => ih a0 a1 a2 a3 h e) e
def b3_0 (F : Nat) (l0 : Option Nat) (l1 : Int32) (l2 : Option Nat) : xm Unit := mb (nn l0) fun v1 => mb (na 108 (8 : Int32)) fun v2 => mb (pr 301 v1 (some v2)) fun _ => mb (na 100 (8 : Int32)) fun v3 => mb (pr 302 v1 (some v3)) fun _ => mb (na 101 (513 : Int32)) fun v4 => mb (pr 303 v1 (some v4)) fun _ => mb (pz 304 v1 (1 : Int32)) fun _ => mb (pi_ 300 v1 l1) fun _ => b3_42 F F (some v1) l2 (0 : Int32)
theorem t3_0 {sc : Nat × (Nat → Int32)} {F : Nat} {r : Unit} {h' : xv_H} {l0 : Option Nat} {l1 : Int32} {l2 : Option Nat} {d3 : Option Value} {h : xv_H} (e : b3_0 F l0 l1 l2 h = some (r, h')) : xx sc 3 0 [some (va_rf l0), some (.int l1), some (va_rf l2), d3] [] h (fun v g => v = none ∧ g = h') := by
  unfold b3_0 at e
  refine xo_aload_nQ (w := l0) rfl rfl ?_
  refine d_nn e (fun v1 g e1 => ?_)
  subst g
  replace e := e1
  clear e1
  refine xo_init rfl (by simp [xv_room, va_rf_cat, cat_int, cat_long, cat_ref, cat_null]) ?_
  refine xo_aload_nQ (w := (some v1)) rfl rfl ?_
  refine xo_bipushV (x := 8) rfl (by decide) ?_
  refine d_anew rfl e (fun v2 h e => ?_)
  refine d_putr (w := (some v2)) rfl e (fun h e => ?_)
  refine xo_aload_nQ (w := (some v1)) rfl rfl ?_
  refine xo_bipushV (x := 8) rfl (by decide) ?_
  refine d_newa rfl e (fun v3 h e => ?_)
  refine d_putr (w := (some v3)) rfl e (fun h e => ?_)
  refine xo_aload_nQ (w := (some v1)) rfl rfl ?_
  refine xo_sipushV (x := 513) rfl (by decide) ?_
  refine d_newa rfl e (fun v4 h e => ?_)
  refine d_putr (w := (some v4)) rfl e (fun h e => ?_)
  refine xo_aload_nQ (w := (some v1)) rfl rfl ?_
  refine xo_iconstV (x := 1) rfl (by decide) ?_
  refine d_putz rfl e (fun h e => ?_)
  refine xo_aload_nQ (w := (some v1)) rfl rfl ?_
  refine xo_iload_n rfl rfl ?_
  refine d_puti rfl e (fun h e => ?_)
  refine xo_iconstV (x := 0) rfl (by decide) ?_
  refine xo_istore_n rfl (Nat.le_of_ble_eq_true rfl) rfl ?_
  exact t3_42 F _ _ _ _ _ e
def m3 (F : Nat) (this : Nat) (p0 : Int32) (p1 : Option Nat) : xm Unit := b3_0 F (some this) p0 p1
theorem t3 {sc : Nat × (Nat → Int32)} {F : Nat} {this : Nat} {p0 : Int32} {p1 : Option Nat} {h : xv_H} {r : Unit} {h' : xv_H} (e : m3 F this p0 p1 h = some (r, h')) : xr sc 3 [.ref this, .int p0, va_rf p1] h (fun v g => v = none ∧ g = h') := by
  have e0 : xv_ent (xt_mx 3) [.ref this, .int p0, va_rf p1] = [some (va_rf (some this)), some (.int p0), some (va_rf p1), none] := by simp [xv_ent, xv_sl, va_rf_cat, cat_int, cat_long, cat_ref, cat_null, va_rf_some, show xt_mx 3 = 4 from rfl]
  unfold xr
  rw [e0]
  exact t3_0 e
-- CellTree$Job.<init>()V
def b5_0 (F : Nat) (l0 : Option Nat) : xm Unit := mb (nn l0) fun v1 => mb (na 100 (6 : Int32)) fun v2 => mb (pr 200 v1 (some v2)) fun _ => mb (na 100 (6 : Int32)) fun v3 => mb (pr 201 v1 (some v3)) fun _ => mr ()
theorem t5_0 {sc : Nat × (Nat → Int32)} {F : Nat} {r : Unit} {h' : xv_H} {l0 : Option Nat} {h : xv_H} (e : b5_0 F l0 h = some (r, h')) : xx sc 5 0 [some (va_rf l0)] [] h (fun v g => v = none ∧ g = h') := by
  unfold b5_0 at e
  refine xo_aload_nQ (w := l0) rfl rfl ?_
  refine d_nn e (fun v1 g e1 => ?_)
  subst g
  replace e := e1
  clear e1
  refine xo_init rfl (by simp [xv_room, va_rf_cat, cat_int, cat_long, cat_ref, cat_null]) ?_
  refine xo_aload_nQ (w := (some v1)) rfl rfl ?_
  refine xo_bipushV (x := 6) rfl (by decide) ?_
  refine d_newa rfl e (fun v2 h e => ?_)
  refine d_putr (w := (some v2)) rfl e (fun h e => ?_)
  refine xo_aload_nQ (w := (some v1)) rfl rfl ?_
  refine xo_bipushV (x := 6) rfl (by decide) ?_
  refine d_newa rfl e (fun v3 h e => ?_)
  refine d_putr (w := (some v3)) rfl e (fun h e => ?_)
  exact d_ret rfl e
def m5 (F : Nat) (this : Nat) : xm Unit := b5_0 F (some this)
theorem t5 {sc : Nat × (Nat → Int32)} {F : Nat} {this : Nat} {h : xv_H} {r : Unit} {h' : xv_H} (e : m5 F this h = some (r, h')) : xr sc 5 [.ref this] h (fun v g => v = none ∧ g = h') := by
  have e0 : xv_ent (xt_mx 5) [.ref this] = [some (va_rf (some this))] := by simp [xv_ent, xv_sl, va_rf_cat, cat_int, cat_long, cat_ref, cat_null, va_rf_some, show xt_mx 5 = 1 from rfl]
  unfold xr
  rw [e0]
  exact t5_0 e
-- CellTree$Client.<init>(II)V
def b4_0 (F : Nat) (l0 : Option Nat) (l1 : Int32) (l2 : Int32) : xm Unit := mb (nn l0) fun v1 => mb (na 108 (24 : Int32)) fun v2 => mb (pr 101 v1 (some v2)) fun _ => mb (nw 2 11) fun v3 => mb (m5 F v3) fun _ => mb (pr 102 v1 (some v3)) fun _ => mb (na 100 (24 : Int32)) fun v4 => mb (pr 103 v1 (some v4)) fun _ => mb (pi_ 104 v1 (1 : Int32)) fun _ => mb (pz 107 v1 (1 : Int32)) fun _ => mb (pr 109 v1 (some (xv_SB + 11))) fun _ => mb (pr 110 v1 (some (xv_SB + 11))) fun _ => mb (pi_ 100 v1 l1) fun _ => mb (pi_ 108 v1 l2) fun _ => mr ()
theorem t4_0 {sc : Nat × (Nat → Int32)} {F : Nat} {r : Unit} {h' : xv_H} {l0 : Option Nat} {l1 : Int32} {l2 : Int32} {h : xv_H} (e : b4_0 F l0 l1 l2 h = some (r, h')) : xx sc 4 0 [some (va_rf l0), some (.int l1), some (.int l2)] [] h (fun v g => v = none ∧ g = h') := by
  unfold b4_0 at e
  refine xo_aload_nQ (w := l0) rfl rfl ?_
  refine d_nn e (fun v1 g e1 => ?_)
  subst g
  replace e := e1
  clear e1
  refine xo_init rfl (by simp [xv_room, va_rf_cat, cat_int, cat_long, cat_ref, cat_null]) ?_
  refine xo_aload_nQ (w := (some v1)) rfl rfl ?_
  refine xo_bipushV (x := 24) rfl (by decide) ?_
  refine d_anew rfl e (fun v2 h e => ?_)
  refine d_putr (w := (some v2)) rfl e (fun h e => ?_)
  refine xo_aload_nQ (w := (some v1)) rfl rfl ?_
  refine d_new rfl e (fun v3 h e => ?_)
  refine xo_dup rfl (by first | rfl | exact va_rf_cat _) ?_
  refine d_special_v (av := []) (rest := [va_rf (some v3), va_rf (some v1)]) rfl (by decide) rfl rfl (by simp [xv_fit, va_rf_cat, cat_int, cat_long, cat_ref, cat_null, show xt_mx 5 = 1 from rfl, show xt_lg 5 = [] from rfl]) (by simp [xv_room, va_rf_cat, cat_int, cat_long, cat_ref, cat_null]) (fun x0 h1 e1 => t5 e1) e (fun _ h e => ?_)
  refine d_putr (w := (some v3)) rfl e (fun h e => ?_)
  refine xo_aload_nQ (w := (some v1)) rfl rfl ?_
  refine xo_bipushV (x := 24) rfl (by decide) ?_
  refine d_newa rfl e (fun v4 h e => ?_)
  refine d_putr (w := (some v4)) rfl e (fun h e => ?_)
  refine xo_aload_nQ (w := (some v1)) rfl rfl ?_
  refine xo_iconstV (x := 1) rfl (by decide) ?_
  refine d_puti rfl e (fun h e => ?_)
  refine xo_aload_nQ (w := (some v1)) rfl rfl ?_
  refine xo_iconstV (x := 1) rfl (by decide) ?_
  refine d_putz rfl e (fun h e => ?_)
  refine xo_aload_nQ (w := (some v1)) rfl rfl ?_
  refine xo_getsV rfl ?_
  refine d_putr (w := (some (xv_SB + 11))) rfl e (fun h e => ?_)
  refine xo_aload_nQ (w := (some v1)) rfl rfl ?_
  refine xo_getsV rfl ?_
  refine d_putr (w := (some (xv_SB + 11))) rfl e (fun h e => ?_)
  refine xo_aload_nQ (w := (some v1)) rfl rfl ?_
  refine xo_iload_n rfl rfl ?_
  refine d_puti rfl e (fun h e => ?_)
  refine xo_aload_nQ (w := (some v1)) rfl rfl ?_
  refine xo_iload_n rfl rfl ?_
  refine d_puti rfl e (fun h e => ?_)
  exact d_ret rfl e
def m4 (F : Nat) (this : Nat) (p0 : Int32) (p1 : Int32) : xm Unit := b4_0 F (some this) p0 p1
theorem t4 {sc : Nat × (Nat → Int32)} {F : Nat} {this : Nat} {p0 : Int32} {p1 : Int32} {h : xv_H} {r : Unit} {h' : xv_H} (e : m4 F this p0 p1 h = some (r, h')) : xr sc 4 [.ref this, .int p0, .int p1] h (fun v g => v = none ∧ g = h') := by
  have e0 : xv_ent (xt_mx 4) [.ref this, .int p0, .int p1] = [some (va_rf (some this)), some (.int p0), some (.int p1)] := by simp [xv_ent, xv_sl, va_rf_cat, cat_int, cat_long, cat_ref, cat_null, va_rf_some, show xt_mx 4 = 3 from rfl]
  unfold xr
  rw [e0]
  exact t4_0 e
-- java/util/AbstractCollection.<init>()V
def b8_0 (F : Nat) (l0 : Option Nat) : xm Unit := mb (nn l0) fun v1 => mr ()
theorem t8_0 {sc : Nat × (Nat → Int32)} {F : Nat} {r : Unit} {h' : xv_H} {l0 : Option Nat} {h : xv_H} (e : b8_0 F l0 h = some (r, h')) : xx sc 8 0 [some (va_rf l0)] [] h (fun v g => v = none ∧ g = h') := by
  unfold b8_0 at e
  refine xo_aload_nQ (w := l0) rfl rfl ?_
  refine d_nn e (fun v1 g e1 => ?_)
  subst g
  replace e := e1
  clear e1
  refine xo_init rfl (by simp [xv_room, va_rf_cat, cat_int, cat_long, cat_ref, cat_null]) ?_
  exact d_ret rfl e
def m8 (F : Nat) (this : Nat) : xm Unit := b8_0 F (some this)
theorem t8 {sc : Nat × (Nat → Int32)} {F : Nat} {this : Nat} {h : xv_H} {r : Unit} {h' : xv_H} (e : m8 F this h = some (r, h')) : xr sc 8 [.ref this] h (fun v g => v = none ∧ g = h') := by
  have e0 : xv_ent (xt_mx 8) [.ref this] = [some (va_rf (some this))] := by simp [xv_ent, xv_sl, va_rf_cat, cat_int, cat_long, cat_ref, cat_null, va_rf_some, show xt_mx 8 = 1 from rfl]
  unfold xr
  rw [e0]
  exact t8_0 e
-- java/util/AbstractList.<init>()V
def b7_0 (F : Nat) (l0 : Option Nat) : xm Unit := mb (nn l0) fun v1 => mb (m8 F v1) fun _ => mb (pi_ 1002 v1 (0 : Int32)) fun _ => mr ()
theorem t7_0 {sc : Nat × (Nat → Int32)} {F : Nat} {r : Unit} {h' : xv_H} {l0 : Option Nat} {h : xv_H} (e : b7_0 F l0 h = some (r, h')) : xx sc 7 0 [some (va_rf l0)] [] h (fun v g => v = none ∧ g = h') := by
  unfold b7_0 at e
  refine xo_aload_nQ (w := l0) rfl rfl ?_
  refine d_nn e (fun v1 g e1 => ?_)
  subst g
  replace e := e1
  clear e1
  refine d_special_v (av := []) (rest := []) rfl (by decide) rfl rfl (by simp [xv_fit, va_rf_cat, cat_int, cat_long, cat_ref, cat_null, show xt_mx 8 = 1 from rfl, show xt_lg 8 = [] from rfl]) (by simp [xv_room, va_rf_cat, cat_int, cat_long, cat_ref, cat_null]) (fun x0 h1 e1 => t8 e1) e (fun _ h e => ?_)
  refine xo_aload_nQ (w := (some v1)) rfl rfl ?_
  refine xo_iconstV (x := 0) rfl (by decide) ?_
  refine d_puti rfl e (fun h e => ?_)
  exact d_ret rfl e
def m7 (F : Nat) (this : Nat) : xm Unit := b7_0 F (some this)
theorem t7 {sc : Nat × (Nat → Int32)} {F : Nat} {this : Nat} {h : xv_H} {r : Unit} {h' : xv_H} (e : m7 F this h = some (r, h')) : xr sc 7 [.ref this] h (fun v g => v = none ∧ g = h') := by
  have e0 : xv_ent (xt_mx 7) [.ref this] = [some (va_rf (some this))] := by simp [xv_ent, xv_sl, va_rf_cat, cat_int, cat_long, cat_ref, cat_null, va_rf_some, show xt_mx 7 = 1 from rfl]
  unfold xr
  rw [e0]
  exact t7_0 e
-- java/util/ArrayList.<init>()V
def b6_0 (F : Nat) (l0 : Option Nat) : xm Unit := mb (nn l0) fun v1 => mb (m7 F v1) fun _ => mb (pr 1000 v1 (some (xv_SB + 2))) fun _ => mr ()
theorem t6_0 {sc : Nat × (Nat → Int32)} {F : Nat} {r : Unit} {h' : xv_H} {l0 : Option Nat} {h : xv_H} (e : b6_0 F l0 h = some (r, h')) : xx sc 6 0 [some (va_rf l0)] [] h (fun v g => v = none ∧ g = h') := by
  unfold b6_0 at e
  refine xo_aload_nQ (w := l0) rfl rfl ?_
  refine d_nn e (fun v1 g e1 => ?_)
  subst g
  replace e := e1
  clear e1
  refine d_special_v (av := []) (rest := []) rfl (by decide) rfl rfl (by simp [xv_fit, va_rf_cat, cat_int, cat_long, cat_ref, cat_null, show xt_mx 7 = 1 from rfl, show xt_lg 7 = [] from rfl]) (by simp [xv_room, va_rf_cat, cat_int, cat_long, cat_ref, cat_null]) (fun x0 h1 e1 => t7 e1) e (fun _ h e => ?_)
  refine xo_aload_nQ (w := (some v1)) rfl rfl ?_
  refine xo_getsV rfl ?_
  refine d_putr (w := (some (xv_SB + 2))) rfl e (fun h e => ?_)
  exact d_ret rfl e
def m6 (F : Nat) (this : Nat) : xm Unit := b6_0 F (some this)
theorem t6 {sc : Nat × (Nat → Int32)} {F : Nat} {this : Nat} {h : xv_H} {r : Unit} {h' : xv_H} (e : m6 F this h = some (r, h')) : xr sc 6 [.ref this] h (fun v g => v = none ∧ g = h') := by
  have e0 : xv_ent (xt_mx 6) [.ref this] = [some (va_rf (some this))] := by simp [xv_ent, xv_sl, va_rf_cat, cat_int, cat_long, cat_ref, cat_null, va_rf_some, show xt_mx 6 = 1 from rfl]
  unfold xr
  rw [e0]
  exact t6_0 e
-- CellTree.<init>()V
def b0_67 (F : Nat) (l0 : Option Nat) : xm Unit := mb (nn l0) fun v1 => mb (gr 0 v1) fun v2 => mb (nn v2) fun v3 => mb (lr 104 v3 (0 : Int32)) fun v4 => mb (nn v4) fun v5 => mb (gr 301 v5) fun v6 => mb (nw 7 2) fun v7 => mb (nw 6 5) fun v8 => mb (na 100 (0 : Int32)) fun v9 => mb (na 100 (0 : Int32)) fun v10 => mb (m1 F v8 (1 : Int32) (0 : Int32) (100 : Int32) (some v9) (some v10)) fun _ => mb (m2 F v7 (0 : Int32) (some v8)) fun _ => mb (nn v6) fun v11 => mb (sr 108 v11 (0 : Int32) (some v7)) fun _ => mb (na 105 (2 : Int32)) fun v12 => mb (pr 1 v1 (some v12)) fun _ => mb (gr 1 v1) fun v13 => mb (nw 1 13) fun v14 => mb (m4 F v14 (0 : Int32) (1 : Int32)) fun _ => mb (nn v13) fun v15 => mb (sr 105 v15 (0 : Int32) (some v14)) fun _ => mb (gr 1 v1) fun v16 => mb (nw 1 13) fun v17 => mb (m4 F v17 (1 : Int32) (9 : Int32)) fun _ => mb (nn v16) fun v18 => mb (sr 105 v18 (1 : Int32) (some v17)) fun _ => mb (nw 10 3) fun v19 => mb (m6 F v19) fun _ => mb (pr 2 v1 (some v19)) fun _ => mb (na 106 (513 : Int32)) fun v20 => mb (pr 3 v1 (some v20)) fun _ => mr ()
theorem t0_67 {sc : Nat × (Nat → Int32)} {F : Nat} {r : Unit} {h' : xv_H} {l0 : Option Nat} {d1 d2 d3 : Option Value} {h : xv_H} (e : b0_67 F l0 h = some (r, h')) : xx sc 0 67 [some (va_rf l0), d1, d2, d3] [] h (fun v g => v = none ∧ g = h') := by
  unfold b0_67 at e
  refine xo_aload_nQ (w := l0) rfl rfl ?_
  refine d_nn e (fun v1 g e1 => ?_)
  subst g
  replace e := e1
  clear e1
  refine d_getr rfl e (fun v2 e => ?_)
  refine xo_iconstV (x := 0) rfl (by decide) ?_
  refine d_nn e (fun v3 g e1 => ?_)
  subst g
  replace e := e1
  clear e1
  refine d_aald rfl e (fun v4 e => ?_)
  refine d_nn e (fun v5 g e1 => ?_)
  subst g
  replace e := e1
  clear e1
  refine d_getr rfl e (fun v6 e => ?_)
  refine xo_iconstV (x := 0) rfl (by decide) ?_
  refine d_new rfl e (fun v7 h e => ?_)
  refine xo_dup rfl (by first | rfl | exact va_rf_cat _) ?_
  refine xo_iconstV (x := 0) rfl (by decide) ?_
  refine d_new rfl e (fun v8 h e => ?_)
  refine xo_dup rfl (by first | rfl | exact va_rf_cat _) ?_
  refine xo_iconstV (x := 1) rfl (by decide) ?_
  refine xo_iconstV (x := 0) rfl (by decide) ?_
  refine xo_bipushV (x := 100) rfl (by decide) ?_
  refine xo_iconstV (x := 0) rfl (by decide) ?_
  refine d_newa rfl e (fun v9 h e => ?_)
  refine xo_iconstV (x := 0) rfl (by decide) ?_
  refine d_newa rfl e (fun v10 h e => ?_)
  refine d_special_v (av := [.int (1 : Int32), .int (0 : Int32), .int (100 : Int32), va_rf (some v9), va_rf (some v10)]) (rest := [va_rf (some v8), .int (0 : Int32), va_rf (some v7), va_rf (some v7), .int (0 : Int32), va_rf v6]) rfl (by decide) rfl rfl (by simp [xv_fit, va_rf_cat, cat_int, cat_long, cat_ref, cat_null, show xt_mx 1 = 6 from rfl, show xt_lg 1 = [] from rfl]) (by simp [xv_room, va_rf_cat, cat_int, cat_long, cat_ref, cat_null]) (fun x0 h1 e1 => t1 e1) e (fun _ h e => ?_)
  refine d_special_v (av := [.int (0 : Int32), va_rf (some v8)]) (rest := [va_rf (some v7), .int (0 : Int32), va_rf v6]) rfl (by decide) rfl rfl (by simp [xv_fit, va_rf_cat, cat_int, cat_long, cat_ref, cat_null, show xt_mx 2 = 3 from rfl, show xt_lg 2 = [] from rfl]) (by simp [xv_room, va_rf_cat, cat_int, cat_long, cat_ref, cat_null]) (fun x0 h1 e1 => t2 e1) e (fun _ h e => ?_)
  refine d_nn e (fun v11 g e1 => ?_)
  subst g
  replace e := e1
  clear e1
  refine d_aast (w := (some v7)) rfl e (fun h e => ?_)
  refine xo_aload_nQ (w := (some v1)) rfl rfl ?_
  refine xo_iconstV (x := 2) rfl (by decide) ?_
  refine d_anew rfl e (fun v12 h e => ?_)
  refine d_putr (w := (some v12)) rfl e (fun h e => ?_)
  refine xo_aload_nQ (w := (some v1)) rfl rfl ?_
  refine d_getr rfl e (fun v13 e => ?_)
  refine xo_iconstV (x := 0) rfl (by decide) ?_
  refine d_new rfl e (fun v14 h e => ?_)
  refine xo_dup rfl (by first | rfl | exact va_rf_cat _) ?_
  refine xo_iconstV (x := 0) rfl (by decide) ?_
  refine xo_iconstV (x := 1) rfl (by decide) ?_
  refine d_special_v (av := [.int (0 : Int32), .int (1 : Int32)]) (rest := [va_rf (some v14), .int (0 : Int32), va_rf v13]) rfl (by decide) rfl rfl (by simp [xv_fit, va_rf_cat, cat_int, cat_long, cat_ref, cat_null, show xt_mx 4 = 3 from rfl, show xt_lg 4 = [] from rfl]) (by simp [xv_room, va_rf_cat, cat_int, cat_long, cat_ref, cat_null]) (fun x0 h1 e1 => t4 e1) e (fun _ h e => ?_)
  refine d_nn e (fun v15 g e1 => ?_)
  subst g
  replace e := e1
  clear e1
  refine d_aast (w := (some v14)) rfl e (fun h e => ?_)
  refine xo_aload_nQ (w := (some v1)) rfl rfl ?_
  refine d_getr rfl e (fun v16 e => ?_)
  refine xo_iconstV (x := 1) rfl (by decide) ?_
  refine d_new rfl e (fun v17 h e => ?_)
  refine xo_dup rfl (by first | rfl | exact va_rf_cat _) ?_
  refine xo_iconstV (x := 1) rfl (by decide) ?_
  refine xo_bipushV (x := 9) rfl (by decide) ?_
  refine d_special_v (av := [.int (1 : Int32), .int (9 : Int32)]) (rest := [va_rf (some v17), .int (1 : Int32), va_rf v16]) rfl (by decide) rfl rfl (by simp [xv_fit, va_rf_cat, cat_int, cat_long, cat_ref, cat_null, show xt_mx 4 = 3 from rfl, show xt_lg 4 = [] from rfl]) (by simp [xv_room, va_rf_cat, cat_int, cat_long, cat_ref, cat_null]) (fun x0 h1 e1 => t4 e1) e (fun _ h e => ?_)
  refine d_nn e (fun v18 g e1 => ?_)
  subst g
  replace e := e1
  clear e1
  refine d_aast (w := (some v17)) rfl e (fun h e => ?_)
  refine xo_aload_nQ (w := (some v1)) rfl rfl ?_
  refine d_new rfl e (fun v19 h e => ?_)
  refine xo_dup rfl (by first | rfl | exact va_rf_cat _) ?_
  refine d_special_v (av := []) (rest := [va_rf (some v19), va_rf (some v1)]) rfl (by decide) rfl rfl (by simp [xv_fit, va_rf_cat, cat_int, cat_long, cat_ref, cat_null, show xt_mx 6 = 1 from rfl, show xt_lg 6 = [] from rfl]) (by simp [xv_room, va_rf_cat, cat_int, cat_long, cat_ref, cat_null]) (fun x0 h1 e1 => t6 e1) e (fun _ h e => ?_)
  refine d_putr (w := (some v19)) rfl e (fun h e => ?_)
  refine xo_aload_nQ (w := (some v1)) rfl rfl ?_
  refine xo_sipushV (x := 513) rfl (by decide) ?_
  refine d_anew rfl e (fun v20 h e => ?_)
  refine d_putr (w := (some v20)) rfl e (fun h e => ?_)
  exact d_ret rfl e
def b0_46 (k41 : Option Nat → Option Nat → Int32 → xm Unit) (F : Nat) (l0 : Option Nat) (l2 : Option Nat) (l3 : Int32) : xm Unit := mb (nn l0) fun v1 => mb (gr 0 v1) fun v2 => mb (nw 3 5) fun v3 => mb (m3 F v3 l3 l2) fun _ => mb (nn v2) fun v4 => mb (sr 104 v4 l3 (some v3)) fun _ => k41 (some v1) l2 (l3 + (1 : Int32))
theorem t0_46 {sc : Nat × (Nat → Int32)} {F : Nat} {r : Unit} {h' : xv_H} {k41 : Option Nat → Option Nat → Int32 → xm Unit} (hk41 : ∀ (l0 : Option Nat) (l2 : Option Nat) (l3 : Int32) (d1 : Option Value) (h : xv_H), k41 l0 l2 l3 h = some (r, h') → xx sc 0 41 [some (va_rf l0), d1, some (va_rf l2), some (.int l3)] [] h (fun v g => v = none ∧ g = h')) {l0 : Option Nat} {l2 : Option Nat} {l3 : Int32} {d1 : Option Value} {h : xv_H} (e : b0_46 k41 F l0 l2 l3 h = some (r, h')) : xx sc 0 46 [some (va_rf l0), d1, some (va_rf l2), some (.int l3)] [] h (fun v g => v = none ∧ g = h') := by
  unfold b0_46 at e
  refine xo_aload_nQ (w := l0) rfl rfl ?_
  refine d_nn e (fun v1 g e1 => ?_)
  subst g
  replace e := e1
  clear e1
  refine d_getr rfl e (fun v2 e => ?_)
  refine xo_iload_n rfl rfl ?_
  refine d_new rfl e (fun v3 h e => ?_)
  refine xo_dup rfl (by first | rfl | exact va_rf_cat _) ?_
  refine xo_iload_n rfl rfl ?_
  refine xo_aload_nQ (w := l2) rfl rfl ?_
  refine d_special_v (av := [.int l3, va_rf l2]) (rest := [va_rf (some v3), .int l3, va_rf v2]) rfl (by decide) rfl rfl (by simp [xv_fit, va_rf_cat, cat_int, cat_long, cat_ref, cat_null, show xt_mx 3 = 4 from rfl, show xt_lg 3 = [] from rfl]) (by simp [xv_room, va_rf_cat, cat_int, cat_long, cat_ref, cat_null]) (fun x0 h1 e1 => t3 e1) e (fun _ h e => ?_)
  refine d_nn e (fun v4 g e1 => ?_)
  subst g
  replace e := e1
  clear e1
  refine d_aast (w := (some v3)) rfl e (fun h e => ?_)
  refine xo_iincV (z := 1) rfl (by decide) rfl (Nat.le_of_ble_eq_true rfl) rfl ?_
  refine xo_goto rfl rfl ?_
  exact hk41 _ _ _ _ _ e
def b0_41 (F : Nat) : Nat → Option Nat → Option Nat → Int32 → xm Unit
  | 0, _, _, _ => fun _ => none
  | f + 1, l0, l2, l3 => if (3 : Int32) ≤ l3 then b0_67 F l0 else b0_46 (b0_41 F f) F l0 l2 l3
theorem t0_41 {sc : Nat × (Nat → Int32)} {F : Nat} {r : Unit} {h' : xv_H} : ∀ (f : Nat) (l0 : Option Nat) (l2 : Option Nat) (l3 : Int32) (d1 : Option Value) (h : xv_H), b0_41 F f l0 l2 l3 h = some (r, h') → xx sc 0 41 [some (va_rf l0), d1, some (va_rf l2), some (.int l3)] [] h (fun v g => v = none ∧ g = h') := by
  intro f
  induction f with
  | zero => intro l0 l2 l3 d1 h e; cases e
  | succ f ih =>
    intro l0 l2 l3 d1 h e
    unfold b0_41 at e
    refine xo_iload_n rfl rfl ?_
    refine xo_iconstV (x := 3) rfl (by decide) ?_
    refine d_icmp_ge rfl rfl e (fun _ e => ?_) (fun _ e => ?_)
    · exact t0_67 e
    · exact t0_46 (fun a0 a1 a2 a3 h e => ih a0 a1 a2 a3 h e) e
def b0_0 (F : Nat) (l0 : Option Nat) : xm Unit := mb (nn l0) fun v1 => mb (nw 6 5) fun v2 => mb (na 100 (0 : Int32)) fun v3 => mb (na 100 (0 : Int32)) fun v4 => mb (m1 F v2 (0 : Int32) (0 : Int32) (0 : Int32) (some v3) (some v4)) fun _ => mb (nw 7 2) fun v5 => mb (m2 F v5 (0 : Int32) (some v2)) fun _ => mb (na 104 (3 : Int32)) fun v6 => mb (pr 0 v1 (some v6)) fun _ => b0_41 F F (some v1) (some v5) (0 : Int32)
theorem t0_0 {sc : Nat × (Nat → Int32)} {F : Nat} {r : Unit} {h' : xv_H} {l0 : Option Nat} {d1 d2 d3 : Option Value} {h : xv_H} (e : b0_0 F l0 h = some (r, h')) : xx sc 0 0 [some (va_rf l0), d1, d2, d3] [] h (fun v g => v = none ∧ g = h') := by
  unfold b0_0 at e
  refine xo_aload_nQ (w := l0) rfl rfl ?_
  refine d_nn e (fun v1 g e1 => ?_)
  subst g
  replace e := e1
  clear e1
  refine xo_init rfl (by simp [xv_room, va_rf_cat, cat_int, cat_long, cat_ref, cat_null]) ?_
  refine d_new rfl e (fun v2 h e => ?_)
  refine xo_dup rfl (by first | rfl | exact va_rf_cat _) ?_
  refine xo_iconstV (x := 0) rfl (by decide) ?_
  refine xo_iconstV (x := 0) rfl (by decide) ?_
  refine xo_iconstV (x := 0) rfl (by decide) ?_
  refine xo_iconstV (x := 0) rfl (by decide) ?_
  refine d_newa rfl e (fun v3 h e => ?_)
  refine xo_iconstV (x := 0) rfl (by decide) ?_
  refine d_newa rfl e (fun v4 h e => ?_)
  refine d_special_v (av := [.int (0 : Int32), .int (0 : Int32), .int (0 : Int32), va_rf (some v3), va_rf (some v4)]) (rest := [va_rf (some v2)]) rfl (by decide) rfl rfl (by simp [xv_fit, va_rf_cat, cat_int, cat_long, cat_ref, cat_null, show xt_mx 1 = 6 from rfl, show xt_lg 1 = [] from rfl]) (by simp [xv_room, va_rf_cat, cat_int, cat_long, cat_ref, cat_null]) (fun x0 h1 e1 => t1 e1) e (fun _ h e => ?_)
  refine xo_astore_nQ (w := (some v2)) rfl (Nat.le_of_ble_eq_true rfl) rfl ?_
  refine d_new rfl e (fun v5 h e => ?_)
  refine xo_dup rfl (by first | rfl | exact va_rf_cat _) ?_
  refine xo_iconstV (x := 0) rfl (by decide) ?_
  refine xo_aload_nQ (w := (some v2)) rfl rfl ?_
  refine d_special_v (av := [.int (0 : Int32), va_rf (some v2)]) (rest := [va_rf (some v5)]) rfl (by decide) rfl rfl (by simp [xv_fit, va_rf_cat, cat_int, cat_long, cat_ref, cat_null, show xt_mx 2 = 3 from rfl, show xt_lg 2 = [] from rfl]) (by simp [xv_room, va_rf_cat, cat_int, cat_long, cat_ref, cat_null]) (fun x0 h1 e1 => t2 e1) e (fun _ h e => ?_)
  refine xo_astore_nQ (w := (some v5)) rfl (Nat.le_of_ble_eq_true rfl) rfl ?_
  refine xo_aload_nQ (w := (some v1)) rfl rfl ?_
  refine xo_iconstV (x := 3) rfl (by decide) ?_
  refine d_anew rfl e (fun v6 h e => ?_)
  refine d_putr (w := (some v6)) rfl e (fun h e => ?_)
  refine xo_iconstV (x := 0) rfl (by decide) ?_
  refine xo_istore_n rfl (Nat.le_of_ble_eq_true rfl) rfl ?_
  exact t0_41 F _ _ _ _ _ e
def m0 (F : Nat) (this : Nat) : xm Unit := b0_0 F (some this)
theorem t0 {sc : Nat × (Nat → Int32)} {F : Nat} {this : Nat} {h : xv_H} {r : Unit} {h' : xv_H} (e : m0 F this h = some (r, h')) : xr sc 0 [.ref this] h (fun v g => v = none ∧ g = h') := by
  have e0 : xv_ent (xt_mx 0) [.ref this] = [some (va_rf (some this)), none, none, none] := by simp [xv_ent, xv_sl, va_rf_cat, cat_int, cat_long, cat_ref, cat_null, va_rf_some, show xt_mx 0 = 4 from rfl]
  unfold xr
  rw [e0]
  exact t0_0 e
-- CellTree.isClient(I)Z
def b11_14 (F : Nat) (s0 : Int32) : xm Int32 := mb (bz s0) fun _ => mr s0
theorem t11_14 {sc : Nat × (Nat → Int32)} {F : Nat} {r : Int32} {h' : xv_H} {s0 : Int32} {d0 : Option Value} {h : xv_H} (e : b11_14 F s0 h = some (r, h')) : xx sc 11 14 [d0] [.int s0] h (fun v g => v = some (.int r) ∧ g = h') := by
  unfold b11_14 at e
  exact d_zret rfl e
def b11_13 (F : Nat) : xm Int32 := b11_14 F (0 : Int32)
theorem t11_13 {sc : Nat × (Nat → Int32)} {F : Nat} {r : Int32} {h' : xv_H} {d0 : Option Value} {h : xv_H} (e : b11_13 F h = some (r, h')) : xx sc 11 13 [d0] [] h (fun v g => v = some (.int r) ∧ g = h') := by
  unfold b11_13 at e
  refine xo_iconstV (x := 0) rfl (by decide) ?_
  exact t11_14 e
def b11_9 (F : Nat) : xm Int32 := b11_14 F (1 : Int32)
theorem t11_9 {sc : Nat × (Nat → Int32)} {F : Nat} {r : Int32} {h' : xv_H} {d0 : Option Value} {h : xv_H} (e : b11_9 F h = some (r, h')) : xx sc 11 9 [d0] [] h (fun v g => v = some (.int r) ∧ g = h') := by
  unfold b11_9 at e
  refine xo_iconstV (x := 1) rfl (by decide) ?_
  refine xo_goto rfl rfl ?_
  exact t11_14 e
def b11_4 (F : Nat) (l0 : Int32) : xm Int32 := if (2 : Int32) ≤ l0 then b11_13 F else b11_9 F
theorem t11_4 {sc : Nat × (Nat → Int32)} {F : Nat} {r : Int32} {h' : xv_H} {l0 : Int32} {h : xv_H} (e : b11_4 F l0 h = some (r, h')) : xx sc 11 4 [some (.int l0)] [] h (fun v g => v = some (.int r) ∧ g = h') := by
  unfold b11_4 at e
  refine xo_iload_n rfl rfl ?_
  refine xo_iconstV (x := 2) rfl (by decide) ?_
  refine d_icmp_ge rfl rfl e (fun _ e => ?_) (fun _ e => ?_)
  · exact t11_13 e
  · exact t11_9 e
def b11_0 (F : Nat) (l0 : Int32) : xm Int32 := if l0 < 0 then b11_13 F else b11_4 F l0
theorem t11_0 {sc : Nat × (Nat → Int32)} {F : Nat} {r : Int32} {h' : xv_H} {l0 : Int32} {h : xv_H} (e : b11_0 F l0 h = some (r, h')) : xx sc 11 0 [some (.int l0)] [] h (fun v g => v = some (.int r) ∧ g = h') := by
  unfold b11_0 at e
  refine xo_iload_n rfl rfl ?_
  refine d_if_lt rfl rfl e (fun _ e => ?_) (fun _ e => ?_)
  · exact t11_13 e
  · exact t11_4 e
def m11 (F : Nat) (p0 : Int32) : xm Int32 := b11_0 F p0
theorem t11 {sc : Nat × (Nat → Int32)} {F : Nat} {p0 : Int32} {h : xv_H} {r : Int32} {h' : xv_H} (e : m11 F p0 h = some (r, h')) : xr sc 11 [.int p0] h (fun v g => v = some (.int r) ∧ g = h') := by
  have e0 : xv_ent (xt_mx 11) [.int p0] = [some (.int p0)] := by simp [xv_ent, xv_sl, va_rf_cat, cat_int, cat_long, cat_ref, cat_null, va_rf_some, show xt_mx 11 = 1 from rfl]
  unfold xr
  rw [e0]
  exact t11_0 e
-- CellTree.isKey(I)Z
def b12_15 (F : Nat) (s0 : Int32) : xm Int32 := mb (bz s0) fun _ => mr s0
theorem t12_15 {sc : Nat × (Nat → Int32)} {F : Nat} {r : Int32} {h' : xv_H} {s0 : Int32} {d0 : Option Value} {h : xv_H} (e : b12_15 F s0 h = some (r, h')) : xx sc 12 15 [d0] [.int s0] h (fun v g => v = some (.int r) ∧ g = h') := by
  unfold b12_15 at e
  exact d_zret rfl e
def b12_14 (F : Nat) : xm Int32 := b12_15 F (0 : Int32)
theorem t12_14 {sc : Nat × (Nat → Int32)} {F : Nat} {r : Int32} {h' : xv_H} {d0 : Option Value} {h : xv_H} (e : b12_14 F h = some (r, h')) : xx sc 12 14 [d0] [] h (fun v g => v = some (.int r) ∧ g = h') := by
  unfold b12_14 at e
  refine xo_iconstV (x := 0) rfl (by decide) ?_
  exact t12_15 e
def b12_10 (F : Nat) : xm Int32 := b12_15 F (1 : Int32)
theorem t12_10 {sc : Nat × (Nat → Int32)} {F : Nat} {r : Int32} {h' : xv_H} {d0 : Option Value} {h : xv_H} (e : b12_10 F h = some (r, h')) : xx sc 12 10 [d0] [] h (fun v g => v = some (.int r) ∧ g = h') := by
  unfold b12_10 at e
  refine xo_iconstV (x := 1) rfl (by decide) ?_
  refine xo_goto rfl rfl ?_
  exact t12_15 e
def b12_4 (F : Nat) (l0 : Int32) : xm Int32 := if (100 : Int32) ≤ l0 then b12_14 F else b12_10 F
theorem t12_4 {sc : Nat × (Nat → Int32)} {F : Nat} {r : Int32} {h' : xv_H} {l0 : Int32} {h : xv_H} (e : b12_4 F l0 h = some (r, h')) : xx sc 12 4 [some (.int l0)] [] h (fun v g => v = some (.int r) ∧ g = h') := by
  unfold b12_4 at e
  refine xo_iload_n rfl rfl ?_
  refine xo_bipushV (x := 100) rfl (by decide) ?_
  refine d_icmp_ge rfl rfl e (fun _ e => ?_) (fun _ e => ?_)
  · exact t12_14 e
  · exact t12_10 e
def b12_0 (F : Nat) (l0 : Int32) : xm Int32 := if l0 < 0 then b12_14 F else b12_4 F l0
theorem t12_0 {sc : Nat × (Nat → Int32)} {F : Nat} {r : Int32} {h' : xv_H} {l0 : Int32} {h : xv_H} (e : b12_0 F l0 h = some (r, h')) : xx sc 12 0 [some (.int l0)] [] h (fun v g => v = some (.int r) ∧ g = h') := by
  unfold b12_0 at e
  refine xo_iload_n rfl rfl ?_
  refine d_if_lt rfl rfl e (fun _ e => ?_) (fun _ e => ?_)
  · exact t12_14 e
  · exact t12_4 e
def m12 (F : Nat) (p0 : Int32) : xm Int32 := b12_0 F p0
theorem t12 {sc : Nat × (Nat → Int32)} {F : Nat} {p0 : Int32} {h : xv_H} {r : Int32} {h' : xv_H} (e : m12 F p0 h = some (r, h')) : xr sc 12 [.int p0] h (fun v g => v = some (.int r) ∧ g = h') := by
  have e0 : xv_ent (xt_mx 12) [.int p0] = [some (.int p0)] := by simp [xv_ent, xv_sl, va_rf_cat, cat_int, cat_long, cat_ref, cat_null, va_rf_some, show xt_mx 12 = 1 from rfl]
  unfold xr
  rw [e0]
  exact t12_0 e
-- CellTree$Job.assign(LCellTree$Task;III)V
def b13_0 (F : Nat) (l0 : Option Nat) (l1 : Option Nat) (l2 : Int32) (l3 : Int32) (l4 : Int32) : xm Unit := mb (nn l0) fun v1 => mb (pr 203 v1 l1) fun _ => mb (pi_ 204 v1 l2) fun _ => mb (pi_ 205 v1 l3) fun _ => mb (pi_ 206 v1 l4) fun _ => mb (pi_ 207 v1 (1 : Int32)) fun _ => mb (pi_ 208 v1 (10 : Int32)) fun _ => mr ()
theorem t13_0 {sc : Nat × (Nat → Int32)} {F : Nat} {r : Unit} {h' : xv_H} {l0 : Option Nat} {l1 : Option Nat} {l2 : Int32} {l3 : Int32} {l4 : Int32} {h : xv_H} (e : b13_0 F l0 l1 l2 l3 l4 h = some (r, h')) : xx sc 13 0 [some (va_rf l0), some (va_rf l1), some (.int l2), some (.int l3), some (.int l4)] [] h (fun v g => v = none ∧ g = h') := by
  unfold b13_0 at e
  refine xo_aload_nQ (w := l0) rfl rfl ?_
  refine xo_aload_nQ (w := l1) rfl rfl ?_
  refine d_nn e (fun v1 g e1 => ?_)
  subst g
  replace e := e1
  clear e1
  refine d_putr (w := l1) rfl e (fun h e => ?_)
  refine xo_aload_nQ (w := (some v1)) rfl rfl ?_
  refine xo_iload_n rfl rfl ?_
  refine d_puti rfl e (fun h e => ?_)
  refine xo_aload_nQ (w := (some v1)) rfl rfl ?_
  refine xo_iload_n rfl rfl ?_
  refine d_puti rfl e (fun h e => ?_)
  refine xo_aload_nQ (w := (some v1)) rfl rfl ?_
  refine xo_iload rfl rfl ?_
  refine d_puti rfl e (fun h e => ?_)
  refine xo_aload_nQ (w := (some v1)) rfl rfl ?_
  refine xo_iconstV (x := 1) rfl (by decide) ?_
  refine d_puti rfl e (fun h e => ?_)
  refine xo_aload_nQ (w := (some v1)) rfl rfl ?_
  refine xo_bipushV (x := 10) rfl (by decide) ?_
  refine d_puti rfl e (fun h e => ?_)
  exact d_ret rfl e
def m13 (F : Nat) (this : Nat) (p0 : Option Nat) (p1 : Int32) (p2 : Int32) (p3 : Int32) : xm Unit := b13_0 F (some this) p0 p1 p2 p3
theorem t13 {sc : Nat × (Nat → Int32)} {F : Nat} {this : Nat} {p0 : Option Nat} {p1 : Int32} {p2 : Int32} {p3 : Int32} {h : xv_H} {r : Unit} {h' : xv_H} (e : m13 F this p0 p1 p2 p3 h = some (r, h')) : xr sc 13 [.ref this, va_rf p0, .int p1, .int p2, .int p3] h (fun v g => v = none ∧ g = h') := by
  have e0 : xv_ent (xt_mx 13) [.ref this, va_rf p0, .int p1, .int p2, .int p3] = [some (va_rf (some this)), some (va_rf p0), some (.int p1), some (.int p2), some (.int p3)] := by simp [xv_ent, xv_sl, va_rf_cat, cat_int, cat_long, cat_ref, cat_null, va_rf_some, show xt_mx 13 = 5 from rfl]
  unfold xr
  rw [e0]
  exact t13_0 e
-- CellTree$Job.forgetResult()V
def b15_0 (F : Nat) (l0 : Option Nat) : xm Unit := mb (nn l0) fun v1 => mb (pi_ 202 v1 (0 : Int32)) fun _ => mb (pz 209 v1 (0 : Int32)) fun _ => mb (pi_ 210 v1 (0 : Int32)) fun _ => mr ()
theorem t15_0 {sc : Nat × (Nat → Int32)} {F : Nat} {r : Unit} {h' : xv_H} {l0 : Option Nat} {h : xv_H} (e : b15_0 F l0 h = some (r, h')) : xx sc 15 0 [some (va_rf l0)] [] h (fun v g => v = none ∧ g = h') := by
  unfold b15_0 at e
  refine xo_aload_nQ (w := l0) rfl rfl ?_
  refine xo_iconstV (x := 0) rfl (by decide) ?_
  refine d_nn e (fun v1 g e1 => ?_)
  subst g
  replace e := e1
  clear e1
  refine d_puti rfl e (fun h e => ?_)
  refine xo_aload_nQ (w := (some v1)) rfl rfl ?_
  refine xo_iconstV (x := 0) rfl (by decide) ?_
  refine d_putz rfl e (fun h e => ?_)
  refine xo_aload_nQ (w := (some v1)) rfl rfl ?_
  refine xo_iconstV (x := 0) rfl (by decide) ?_
  refine d_puti rfl e (fun h e => ?_)
  exact d_ret rfl e
def m15 (F : Nat) (this : Nat) : xm Unit := b15_0 F (some this)
theorem t15 {sc : Nat × (Nat → Int32)} {F : Nat} {this : Nat} {h : xv_H} {r : Unit} {h' : xv_H} (e : m15 F this h = some (r, h')) : xr sc 15 [.ref this] h (fun v g => v = none ∧ g = h') := by
  have e0 : xv_ent (xt_mx 15) [.ref this] = [some (va_rf (some this))] := by simp [xv_ent, xv_sl, va_rf_cat, cat_int, cat_long, cat_ref, cat_null, va_rf_some, show xt_mx 15 = 1 from rfl]
  unfold xr
  rw [e0]
  exact t15_0 e
-- CellTree$Client.walkFor(I)V
def b16_0 (F : Nat) (l0 : Option Nat) (l1 : Int32) : xm Unit := mb (nn l0) fun v1 => mb (pi_ 105 v1 l1) fun _ => mb (pi_ 104 v1 (1 : Int32)) fun _ => mb (pr 109 v1 (some (xv_SB + 17))) fun _ => mr ()
theorem t16_0 {sc : Nat × (Nat → Int32)} {F : Nat} {r : Unit} {h' : xv_H} {l0 : Option Nat} {l1 : Int32} {h : xv_H} (e : b16_0 F l0 l1 h = some (r, h')) : xx sc 16 0 [some (va_rf l0), some (.int l1)] [] h (fun v g => v = none ∧ g = h') := by
  unfold b16_0 at e
  refine xo_aload_nQ (w := l0) rfl rfl ?_
  refine xo_iload_n rfl rfl ?_
  refine d_nn e (fun v1 g e1 => ?_)
  subst g
  replace e := e1
  clear e1
  refine d_puti rfl e (fun h e => ?_)
  refine xo_aload_nQ (w := (some v1)) rfl rfl ?_
  refine xo_iconstV (x := 1) rfl (by decide) ?_
  refine d_puti rfl e (fun h e => ?_)
  refine xo_aload_nQ (w := (some v1)) rfl rfl ?_
  refine xo_getsV rfl ?_
  refine d_putr (w := (some (xv_SB + 17))) rfl e (fun h e => ?_)
  exact d_ret rfl e
def m16 (F : Nat) (this : Nat) (p0 : Int32) : xm Unit := b16_0 F (some this) p0
theorem t16 {sc : Nat × (Nat → Int32)} {F : Nat} {this : Nat} {p0 : Int32} {h : xv_H} {r : Unit} {h' : xv_H} (e : m16 F this p0 h = some (r, h')) : xr sc 16 [.ref this, .int p0] h (fun v g => v = none ∧ g = h') := by
  have e0 : xv_ent (xt_mx 16) [.ref this, .int p0] = [some (va_rf (some this)), some (.int p0)] := by simp [xv_ent, xv_sl, va_rf_cat, cat_int, cat_long, cat_ref, cat_null, va_rf_some, show xt_mx 16 = 2 from rfl]
  unfold xr
  rw [e0]
  exact t16_0 e
-- CellTree$Client.giveUp()V
def b18_0 (F : Nat) (l0 : Option Nat) : xm Unit := mb (nn l0) fun v1 => mb (gr 102 v1) fun v2 => mb (nn v2) fun v3 => mb (pi_ 207 v3 (4 : Int32)) fun _ => mb (pr 109 v1 (some (xv_SB + 11))) fun _ => mr ()
theorem t18_0 {sc : Nat × (Nat → Int32)} {F : Nat} {r : Unit} {h' : xv_H} {l0 : Option Nat} {h : xv_H} (e : b18_0 F l0 h = some (r, h')) : xx sc 18 0 [some (va_rf l0)] [] h (fun v g => v = none ∧ g = h') := by
  unfold b18_0 at e
  refine xo_aload_nQ (w := l0) rfl rfl ?_
  refine d_nn e (fun v1 g e1 => ?_)
  subst g
  replace e := e1
  clear e1
  refine d_getr rfl e (fun v2 e => ?_)
  refine xo_iconstV (x := 4) rfl (by decide) ?_
  refine d_nn e (fun v3 g e1 => ?_)
  subst g
  replace e := e1
  clear e1
  refine d_puti rfl e (fun h e => ?_)
  refine xo_aload_nQ (w := (some v1)) rfl rfl ?_
  refine xo_getsV rfl ?_
  refine d_putr (w := (some (xv_SB + 11))) rfl e (fun h e => ?_)
  exact d_ret rfl e
def m18 (F : Nat) (this : Nat) : xm Unit := b18_0 F (some this)
theorem t18 {sc : Nat × (Nat → Int32)} {F : Nat} {this : Nat} {h : xv_H} {r : Unit} {h' : xv_H} (e : m18 F this h = some (r, h')) : xr sc 18 [.ref this] h (fun v g => v = none ∧ g = h') := by
  have e0 : xv_ent (xt_mx 18) [.ref this] = [some (va_rf (some this))] := by simp [xv_ent, xv_sl, va_rf_cat, cat_int, cat_long, cat_ref, cat_null, va_rf_some, show xt_mx 18 = 1 from rfl]
  unfold xr
  rw [e0]
  exact t18_0 e
-- CellTree$Client.endAddress()I
def b19_0 (F : Nat) (l0 : Option Nat) : xm Int32 := mb (nn l0) fun v1 => mb (gr 103 v1) fun v2 => mb (gi 104 v1) fun v3 => mb (nn v2) fun v4 => mb (li v4 (v3 - (1 : Int32))) fun v5 => mr v5
theorem t19_0 {sc : Nat × (Nat → Int32)} {F : Nat} {r : Int32} {h' : xv_H} {l0 : Option Nat} {h : xv_H} (e : b19_0 F l0 h = some (r, h')) : xx sc 19 0 [some (va_rf l0)] [] h (fun v g => v = some (.int r) ∧ g = h') := by
  unfold b19_0 at e
  refine xo_aload_nQ (w := l0) rfl rfl ?_
  refine d_nn e (fun v1 g e1 => ?_)
  subst g
  replace e := e1
  clear e1
  refine d_getr rfl e (fun v2 e => ?_)
  refine xo_aload_nQ (w := (some v1)) rfl rfl ?_
  refine d_geti rfl e (fun v3 e => ?_)
  refine xo_iconstV (x := 1) rfl (by decide) ?_
  refine xo_isub rfl ?_
  refine d_nn e (fun v4 g e1 => ?_)
  subst g
  replace e := e1
  clear e1
  refine d_iald rfl e (fun v5 e => ?_)
  exact d_iret rfl e
def m19 (F : Nat) (this : Nat) : xm Int32 := b19_0 F (some this)
theorem t19 {sc : Nat × (Nat → Int32)} {F : Nat} {this : Nat} {h : xv_H} {r : Int32} {h' : xv_H} (e : m19 F this h = some (r, h')) : xr sc 19 [.ref this] h (fun v g => v = some (.int r) ∧ g = h') := by
  have e0 : xv_ent (xt_mx 19) [.ref this] = [some (va_rf (some this))] := by simp [xv_ent, xv_sl, va_rf_cat, cat_int, cat_long, cat_ref, cat_null, va_rf_some, show xt_mx 19 = 1 from rfl]
  unfold xr
  rw [e0]
  exact t19_0 e
-- CellTree$Job.collect(ILCellTree$Cell;)V
def b20_105 (F : Nat) : xm Unit := mr ()
theorem t20_105 {sc : Nat × (Nat → Int32)} {F : Nat} {r : Unit} {h' : xv_H} {d0 d1 d2 d3 d4 : Option Value} {h : xv_H} (e : b20_105 F h = some (r, h')) : xx sc 20 105 [d0, d1, d2, d3, d4] [] h (fun v g => v = none ∧ g = h') := by
  unfold b20_105 at e
  exact d_ret rfl e
def b20_99 (k35 : Option Nat → Option Nat → Int32 → xm Unit) (F : Nat) (l0 : Option Nat) (l2 : Option Nat) (l3 : Int32) : xm Unit := k35 l0 l2 (l3 + (1 : Int32))
theorem t20_99 {sc : Nat × (Nat → Int32)} {F : Nat} {r : Unit} {h' : xv_H} {k35 : Option Nat → Option Nat → Int32 → xm Unit} (hk35 : ∀ (l0 : Option Nat) (l2 : Option Nat) (l3 : Int32) (d1 d4 : Option Value) (h : xv_H), k35 l0 l2 l3 h = some (r, h') → xx sc 20 35 [some (va_rf l0), d1, some (va_rf l2), some (.int l3), d4] [] h (fun v g => v = none ∧ g = h')) {l0 : Option Nat} {l2 : Option Nat} {l3 : Int32} {d1 d4 : Option Value} {h : xv_H} (e : b20_99 k35 F l0 l2 l3 h = some (r, h')) : xx sc 20 99 [some (va_rf l0), d1, some (va_rf l2), some (.int l3), d4] [] h (fun v g => v = none ∧ g = h') := by
  unfold b20_99 at e
  refine xo_iincV (z := 1) rfl (by decide) rfl (Nat.le_of_ble_eq_true rfl) rfl ?_
  refine xo_goto rfl rfl ?_
  exact hk35 _ _ _ _ _ _ e
def b20_76 (k35 : Option Nat → Option Nat → Int32 → xm Unit) (F : Nat) (l0 : Option Nat) (l2 : Option Nat) (l3 : Int32) : xm Unit := mb (nn l0) fun v1 => mb (pz 209 v1 (1 : Int32)) fun _ => mb (gi 210 v1) fun v2 => mb (nn l2) fun v3 => mb (gr 701 v3) fun v4 => mb (nn v4) fun v5 => mb (gr 604 v5) fun v6 => mb (nn v6) fun v7 => mb (li v7 l3) fun v8 => mb (pi_ 210 v1 (v2 + v8)) fun _ => b20_99 k35 F (some v1) (some v3) l3
theorem t20_76 {sc : Nat × (Nat → Int32)} {F : Nat} {r : Unit} {h' : xv_H} {k35 : Option Nat → Option Nat → Int32 → xm Unit} (hk35 : ∀ (l0 : Option Nat) (l2 : Option Nat) (l3 : Int32) (d1 d4 : Option Value) (h : xv_H), k35 l0 l2 l3 h = some (r, h') → xx sc 20 35 [some (va_rf l0), d1, some (va_rf l2), some (.int l3), d4] [] h (fun v g => v = none ∧ g = h')) {l0 : Option Nat} {l2 : Option Nat} {l3 : Int32} {d1 d4 : Option Value} {h : xv_H} (e : b20_76 k35 F l0 l2 l3 h = some (r, h')) : xx sc 20 76 [some (va_rf l0), d1, some (va_rf l2), some (.int l3), d4] [] h (fun v g => v = none ∧ g = h') := by
  unfold b20_76 at e
  refine xo_aload_nQ (w := l0) rfl rfl ?_
  refine xo_iconstV (x := 1) rfl (by decide) ?_
  refine d_nn e (fun v1 g e1 => ?_)
  subst g
  replace e := e1
  clear e1
  refine d_putz rfl e (fun h e => ?_)
  refine xo_aload_nQ (w := (some v1)) rfl rfl ?_
  refine xo_dup rfl (by first | rfl | exact va_rf_cat _) ?_
  refine d_geti rfl e (fun v2 e => ?_)
  refine xo_aload_nQ (w := l2) rfl rfl ?_
  refine d_nn e (fun v3 g e1 => ?_)
  subst g
  replace e := e1
  clear e1
  refine d_getr rfl e (fun v4 e => ?_)
  refine d_nn e (fun v5 g e1 => ?_)
  subst g
  replace e := e1
  clear e1
  refine d_getr rfl e (fun v6 e => ?_)
  refine xo_iload_n rfl rfl ?_
  refine d_nn e (fun v7 g e1 => ?_)
  subst g
  replace e := e1
  clear e1
  refine d_iald rfl e (fun v8 e => ?_)
  refine xo_iadd rfl ?_
  refine d_puti rfl e (fun h e => ?_)
  exact t20_99 hk35 e
def b20_67 (k35 : Option Nat → Option Nat → Int32 → xm Unit) (F : Nat) (l0 : Option Nat) (l2 : Option Nat) (l3 : Int32) (l4 : Int32) : xm Unit := mb (nn l0) fun v1 => mb (gi 205 v1) fun v2 => if v2 < l4 then b20_99 k35 F (some v1) l2 l3 else b20_76 k35 F (some v1) l2 l3
theorem t20_67 {sc : Nat × (Nat → Int32)} {F : Nat} {r : Unit} {h' : xv_H} {k35 : Option Nat → Option Nat → Int32 → xm Unit} (hk35 : ∀ (l0 : Option Nat) (l2 : Option Nat) (l3 : Int32) (d1 d4 : Option Value) (h : xv_H), k35 l0 l2 l3 h = some (r, h') → xx sc 20 35 [some (va_rf l0), d1, some (va_rf l2), some (.int l3), d4] [] h (fun v g => v = none ∧ g = h')) {l0 : Option Nat} {l2 : Option Nat} {l3 : Int32} {l4 : Int32} {d1 : Option Value} {h : xv_H} (e : b20_67 k35 F l0 l2 l3 l4 h = some (r, h')) : xx sc 20 67 [some (va_rf l0), d1, some (va_rf l2), some (.int l3), some (.int l4)] [] h (fun v g => v = none ∧ g = h') := by
  unfold b20_67 at e
  refine xo_iload rfl rfl ?_
  refine xo_aload_nQ (w := l0) rfl rfl ?_
  refine d_nn e (fun v1 g e1 => ?_)
  subst g
  replace e := e1
  clear e1
  refine d_geti rfl e (fun v2 e => ?_)
  refine d_icmp_gt rfl rfl e (fun _ e => ?_) (fun _ e => ?_)
  · exact t20_99 hk35 e
  · exact t20_76 hk35 e
def b20_47 (k35 : Option Nat → Option Nat → Int32 → xm Unit) (F : Nat) (l0 : Option Nat) (l2 : Option Nat) (l3 : Int32) : xm Unit := mb (nn l2) fun v1 => mb (gr 701 v1) fun v2 => mb (nn v2) fun v3 => mb (gr 603 v3) fun v4 => mb (nn v4) fun v5 => mb (li v5 l3) fun v6 => mb (nn l0) fun v7 => mb (gi 204 v7) fun v8 => if v6 < v8 then b20_99 k35 F (some v7) (some v1) l3 else b20_67 k35 F (some v7) (some v1) l3 v6
theorem t20_47 {sc : Nat × (Nat → Int32)} {F : Nat} {r : Unit} {h' : xv_H} {k35 : Option Nat → Option Nat → Int32 → xm Unit} (hk35 : ∀ (l0 : Option Nat) (l2 : Option Nat) (l3 : Int32) (d1 d4 : Option Value) (h : xv_H), k35 l0 l2 l3 h = some (r, h') → xx sc 20 35 [some (va_rf l0), d1, some (va_rf l2), some (.int l3), d4] [] h (fun v g => v = none ∧ g = h')) {l0 : Option Nat} {l2 : Option Nat} {l3 : Int32} {d1 d4 : Option Value} {h : xv_H} (e : b20_47 k35 F l0 l2 l3 h = some (r, h')) : xx sc 20 47 [some (va_rf l0), d1, some (va_rf l2), some (.int l3), d4] [] h (fun v g => v = none ∧ g = h') := by
  unfold b20_47 at e
  refine xo_aload_nQ (w := l2) rfl rfl ?_
  refine d_nn e (fun v1 g e1 => ?_)
  subst g
  replace e := e1
  clear e1
  refine d_getr rfl e (fun v2 e => ?_)
  refine d_nn e (fun v3 g e1 => ?_)
  subst g
  replace e := e1
  clear e1
  refine d_getr rfl e (fun v4 e => ?_)
  refine xo_iload_n rfl rfl ?_
  refine d_nn e (fun v5 g e1 => ?_)
  subst g
  replace e := e1
  clear e1
  refine d_iald rfl e (fun v6 e => ?_)
  refine xo_istore rfl (Nat.le_of_ble_eq_true rfl) rfl ?_
  refine xo_aload_nQ (w := l0) rfl rfl ?_
  refine d_nn e (fun v7 g e1 => ?_)
  subst g
  replace e := e1
  clear e1
  refine d_geti rfl e (fun v8 e => ?_)
  refine xo_iload rfl rfl ?_
  refine d_icmp_gt rfl rfl e (fun _ e => ?_) (fun _ e => ?_)
  · exact t20_99 hk35 e
  · exact t20_67 hk35 e
def b20_35 (F : Nat) : Nat → Option Nat → Option Nat → Int32 → xm Unit
  | 0, _, _, _ => fun _ => none
  | f + 1, l0, l2, l3 => mb (nn l2) fun v1 => mb (gr 701 v1) fun v2 => mb (nn v2) fun v3 => mb (gr 603 v3) fun v4 => mb (nn v4) fun v5 => mb (len 100 0 v5) fun v6 => if v6 ≤ l3 then b20_105 F else b20_47 (b20_35 F f) F l0 (some v1) l3
theorem t20_35 {sc : Nat × (Nat → Int32)} {F : Nat} {r : Unit} {h' : xv_H} : ∀ (f : Nat) (l0 : Option Nat) (l2 : Option Nat) (l3 : Int32) (d1 d4 : Option Value) (h : xv_H), b20_35 F f l0 l2 l3 h = some (r, h') → xx sc 20 35 [some (va_rf l0), d1, some (va_rf l2), some (.int l3), d4] [] h (fun v g => v = none ∧ g = h') := by
  intro f
  induction f with
  | zero => intro l0 l2 l3 d1 d4 h e; cases e
  | succ f ih =>
    intro l0 l2 l3 d1 d4 h e
    unfold b20_35 at e
    refine xo_iload_n rfl rfl ?_
    refine xo_aload_nQ (w := l2) rfl rfl ?_
    refine d_nn e (fun v1 g e1 => ?_)
    subst g
    replace e := e1
    clear e1
    refine d_getr rfl e (fun v2 e => ?_)
    refine d_nn e (fun v3 g e1 => ?_)
    subst g
    replace e := e1
    clear e1
    refine d_getr rfl e (fun v4 e => ?_)
    refine d_nn e (fun v5 g e1 => ?_)
    subst g
    replace e := e1
    clear e1
    refine d_len rfl e (fun v6 e => ?_)
    refine d_icmp_ge rfl rfl e (fun _ e => ?_) (fun _ e => ?_)
    · exact t20_105 e
    · exact t20_47 (fun a0 a1 a2 a3 a4 h e => ih a0 a1 a2 a3 a4 h e) e
def b20_0 (F : Nat) (l0 : Option Nat) (l1 : Int32) (l2 : Option Nat) : xm Unit := mb (nn l0) fun v1 => mb (gr 200 v1) fun v2 => mb (gi 202 v1) fun v3 => mb (nn v2) fun v4 => mb (si v4 v3 l1) fun _ => mb (gr 201 v1) fun v5 => mb (gi 202 v1) fun v6 => mb (nn l2) fun v7 => mb (gi 700 v7) fun v8 => mb (nn v5) fun v9 => mb (si v9 v6 v8) fun _ => mb (gi 202 v1) fun v10 => mb (pi_ 202 v1 (v10 + (1 : Int32))) fun _ => b20_35 F F (some v1) (some v7) (0 : Int32)
theorem t20_0 {sc : Nat × (Nat → Int32)} {F : Nat} {r : Unit} {h' : xv_H} {l0 : Option Nat} {l1 : Int32} {l2 : Option Nat} {d3 d4 : Option Value} {h : xv_H} (e : b20_0 F l0 l1 l2 h = some (r, h')) : xx sc 20 0 [some (va_rf l0), some (.int l1), some (va_rf l2), d3, d4] [] h (fun v g => v = none ∧ g = h') := by
  unfold b20_0 at e
  refine xo_aload_nQ (w := l0) rfl rfl ?_
  refine d_nn e (fun v1 g e1 => ?_)
  subst g
  replace e := e1
  clear e1
  refine d_getr rfl e (fun v2 e => ?_)
  refine xo_aload_nQ (w := (some v1)) rfl rfl ?_
  refine d_geti rfl e (fun v3 e => ?_)
  refine xo_iload_n rfl rfl ?_
  refine d_nn e (fun v4 g e1 => ?_)
  subst g
  replace e := e1
  clear e1
  refine d_iast rfl e (fun h e => ?_)
  refine xo_aload_nQ (w := (some v1)) rfl rfl ?_
  refine d_getr rfl e (fun v5 e => ?_)
  refine xo_aload_nQ (w := (some v1)) rfl rfl ?_
  refine d_geti rfl e (fun v6 e => ?_)
  refine xo_aload_nQ (w := l2) rfl rfl ?_
  refine d_nn e (fun v7 g e1 => ?_)
  subst g
  replace e := e1
  clear e1
  refine d_geti rfl e (fun v8 e => ?_)
  refine d_nn e (fun v9 g e1 => ?_)
  subst g
  replace e := e1
  clear e1
  refine d_iast rfl e (fun h e => ?_)
  refine xo_aload_nQ (w := (some v1)) rfl rfl ?_
  refine xo_dup rfl (by first | rfl | exact va_rf_cat _) ?_
  refine d_geti rfl e (fun v10 e => ?_)
  refine xo_iconstV (x := 1) rfl (by decide) ?_
  refine xo_iadd rfl ?_
  refine d_puti rfl e (fun h e => ?_)
  refine xo_iconstV (x := 0) rfl (by decide) ?_
  refine xo_istore_n rfl (Nat.le_of_ble_eq_true rfl) rfl ?_
  exact t20_35 F _ _ _ _ _ _ e
def m20 (F : Nat) (this : Nat) (p0 : Int32) (p1 : Option Nat) : xm Unit := b20_0 F (some this) p0 p1
theorem t20 {sc : Nat × (Nat → Int32)} {F : Nat} {this : Nat} {p0 : Int32} {p1 : Option Nat} {h : xv_H} {r : Unit} {h' : xv_H} (e : m20 F this p0 p1 h = some (r, h')) : xr sc 20 [.ref this, .int p0, va_rf p1] h (fun v g => v = none ∧ g = h') := by
  have e0 : xv_ent (xt_mx 20) [.ref this, .int p0, va_rf p1] = [some (va_rf (some this)), some (.int p0), some (va_rf p1), none, none] := by simp [xv_ent, xv_sl, va_rf_cat, cat_int, cat_long, cat_ref, cat_null, va_rf_some, show xt_mx 20 = 5 from rfl]
  unfold xr
  rw [e0]
  exact t20_0 e
-- CellTree$Job.finish()V
def b21_13 (F : Nat) (s0 : Int32) (s1 : Option Nat) : xm Unit := mb (nn s1) fun v1 => mb (pi_ 207 v1 s0) fun _ => mr ()
theorem t21_13 {sc : Nat × (Nat → Int32)} {F : Nat} {r : Unit} {h' : xv_H} {s0 : Int32} {s1 : Option Nat} {d0 : Option Value} {h : xv_H} (e : b21_13 F s0 s1 h = some (r, h')) : xx sc 21 13 [d0] [.int s0, va_rf s1] h (fun v g => v = none ∧ g = h') := by
  unfold b21_13 at e
  refine d_nn e (fun v1 g e1 => ?_)
  subst g
  replace e := e1
  clear e1
  refine d_puti rfl e (fun h e => ?_)
  exact d_ret rfl e
def b21_12 (F : Nat) (s0 : Option Nat) : xm Unit := b21_13 F (2 : Int32) s0
theorem t21_12 {sc : Nat × (Nat → Int32)} {F : Nat} {r : Unit} {h' : xv_H} {s0 : Option Nat} {d0 : Option Value} {h : xv_H} (e : b21_12 F s0 h = some (r, h')) : xx sc 21 12 [d0] [va_rf s0] h (fun v g => v = none ∧ g = h') := by
  unfold b21_12 at e
  refine xo_iconstV (x := 2) rfl (by decide) ?_
  exact t21_13 e
def b21_8 (F : Nat) (s0 : Option Nat) : xm Unit := b21_13 F (3 : Int32) s0
theorem t21_8 {sc : Nat × (Nat → Int32)} {F : Nat} {r : Unit} {h' : xv_H} {s0 : Option Nat} {d0 : Option Value} {h : xv_H} (e : b21_8 F s0 h = some (r, h')) : xx sc 21 8 [d0] [va_rf s0] h (fun v g => v = none ∧ g = h') := by
  unfold b21_8 at e
  refine xo_iconstV (x := 3) rfl (by decide) ?_
  refine xo_goto rfl rfl ?_
  exact t21_13 e
def b21_0 (F : Nat) (l0 : Option Nat) : xm Unit := mb (nn l0) fun v1 => mb (gi 209 v1) fun v2 => if v2 = 0 then b21_12 F (some v1) else b21_8 F (some v1)
theorem t21_0 {sc : Nat × (Nat → Int32)} {F : Nat} {r : Unit} {h' : xv_H} {l0 : Option Nat} {h : xv_H} (e : b21_0 F l0 h = some (r, h')) : xx sc 21 0 [some (va_rf l0)] [] h (fun v g => v = none ∧ g = h') := by
  unfold b21_0 at e
  refine xo_aload_nQ (w := l0) rfl rfl ?_
  refine xo_aload_nQ (w := l0) rfl rfl ?_
  refine d_nn e (fun v1 g e1 => ?_)
  subst g
  replace e := e1
  clear e1
  refine d_getz rfl e (fun v2 e => ?_)
  refine d_if_eq rfl rfl e (fun _ e => ?_) (fun _ e => ?_)
  · exact t21_12 e
  · exact t21_8 e
def m21 (F : Nat) (this : Nat) : xm Unit := b21_0 F (some this)
theorem t21 {sc : Nat × (Nat → Int32)} {F : Nat} {this : Nat} {h : xv_H} {r : Unit} {h' : xv_H} (e : m21 F this h = some (r, h')) : xr sc 21 [.ref this] h (fun v g => v = none ∧ g = h') := by
  have e0 : xv_ent (xt_mx 21) [.ref this] = [some (va_rf (some this))] := by simp [xv_ent, xv_sl, va_rf_cat, cat_int, cat_long, cat_ref, cat_null, va_rf_some, show xt_mx 21 = 1 from rfl]
  unfold xr
  rw [e0]
  exact t21_0 e
-- CellTree$Transaction.<init>(I)V
def b24_0 (F : Nat) (l0 : Option Nat) (l1 : Int32) : xm Unit := mb (nn l0) fun v1 => mb (na 107 (6 : Int32)) fun v2 => mb (pr 401 v1 (some v2)) fun _ => mb (na 102 (3 : Int32)) fun v3 => mb (pr 402 v1 (some v3)) fun _ => mb (na 102 (3 : Int32)) fun v4 => mb (pr 403 v1 (some v4)) fun _ => mb (pi_ 400 v1 l1) fun _ => mr ()
theorem t24_0 {sc : Nat × (Nat → Int32)} {F : Nat} {r : Unit} {h' : xv_H} {l0 : Option Nat} {l1 : Int32} {h : xv_H} (e : b24_0 F l0 l1 h = some (r, h')) : xx sc 24 0 [some (va_rf l0), some (.int l1)] [] h (fun v g => v = none ∧ g = h') := by
  unfold b24_0 at e
  refine xo_aload_nQ (w := l0) rfl rfl ?_
  refine d_nn e (fun v1 g e1 => ?_)
  subst g
  replace e := e1
  clear e1
  refine xo_init rfl (by simp [xv_room, va_rf_cat, cat_int, cat_long, cat_ref, cat_null]) ?_
  refine xo_aload_nQ (w := (some v1)) rfl rfl ?_
  refine xo_bipushV (x := 6) rfl (by decide) ?_
  refine d_anew rfl e (fun v2 h e => ?_)
  refine d_putr (w := (some v2)) rfl e (fun h e => ?_)
  refine xo_aload_nQ (w := (some v1)) rfl rfl ?_
  refine xo_iconstV (x := 3) rfl (by decide) ?_
  refine d_newa rfl e (fun v3 h e => ?_)
  refine d_putr (w := (some v3)) rfl e (fun h e => ?_)
  refine xo_aload_nQ (w := (some v1)) rfl rfl ?_
  refine xo_iconstV (x := 3) rfl (by decide) ?_
  refine d_newa rfl e (fun v4 h e => ?_)
  refine d_putr (w := (some v4)) rfl e (fun h e => ?_)
  refine xo_aload_nQ (w := (some v1)) rfl rfl ?_
  refine xo_iload_n rfl rfl ?_
  refine d_puti rfl e (fun h e => ?_)
  exact d_ret rfl e
def m24 (F : Nat) (this : Nat) (p0 : Int32) : xm Unit := b24_0 F (some this) p0
theorem t24 {sc : Nat × (Nat → Int32)} {F : Nat} {this : Nat} {p0 : Int32} {h : xv_H} {r : Unit} {h' : xv_H} (e : m24 F this p0 h = some (r, h')) : xr sc 24 [.ref this, .int p0] h (fun v g => v = none ∧ g = h') := by
  have e0 : xv_ent (xt_mx 24) [.ref this, .int p0] = [some (va_rf (some this)), some (.int p0)] := by simp [xv_ent, xv_sl, va_rf_cat, cat_int, cat_long, cat_ref, cat_null, va_rf_some, show xt_mx 24 = 2 from rfl]
  unfold xr
  rw [e0]
  exact t24_0 e
-- CellTree$Client.draftFor(LCellTree$Step;)LCellTree$Transaction;
def b23_0 (F : Nat) (l0 : Option Nat) (l1 : Option Nat) : xm (Option Nat) := mb (nn l0) fun v1 => mb (pr 110 v1 l1) fun _ => mb (nw 4 6) fun v2 => mb (gi 100 v1) fun v3 => mb (m24 F v2 v3) fun _ => mb (pr 112 v1 (some v2)) fun _ => mb (gr 112 v1) fun v4 => mr v4
theorem t23_0 {sc : Nat × (Nat → Int32)} {F : Nat} {r : Option Nat} {h' : xv_H} {l0 : Option Nat} {l1 : Option Nat} {h : xv_H} (e : b23_0 F l0 l1 h = some (r, h')) : xx sc 23 0 [some (va_rf l0), some (va_rf l1)] [] h (fun v g => v = some (va_rf r) ∧ g = h') := by
  unfold b23_0 at e
  refine xo_aload_nQ (w := l0) rfl rfl ?_
  refine xo_aload_nQ (w := l1) rfl rfl ?_
  refine d_nn e (fun v1 g e1 => ?_)
  subst g
  replace e := e1
  clear e1
  refine d_putr (w := l1) rfl e (fun h e => ?_)
  refine xo_aload_nQ (w := (some v1)) rfl rfl ?_
  refine d_new rfl e (fun v2 h e => ?_)
  refine xo_dup rfl (by first | rfl | exact va_rf_cat _) ?_
  refine xo_aload_nQ (w := (some v1)) rfl rfl ?_
  refine d_geti rfl e (fun v3 e => ?_)
  refine d_special_v (av := [.int v3]) (rest := [va_rf (some v2), va_rf (some v1)]) rfl (by decide) rfl rfl (by simp [xv_fit, va_rf_cat, cat_int, cat_long, cat_ref, cat_null, show xt_mx 24 = 2 from rfl, show xt_lg 24 = [] from rfl]) (by simp [xv_room, va_rf_cat, cat_int, cat_long, cat_ref, cat_null]) (fun x0 h1 e1 => t24 e1) e (fun _ h e => ?_)
  refine d_putr (w := (some v2)) rfl e (fun h e => ?_)
  refine xo_aload_nQ (w := (some v1)) rfl rfl ?_
  refine d_getr rfl e (fun v4 e => ?_)
  exact d_aret rfl e
def m23 (F : Nat) (this : Nat) (p0 : Option Nat) : xm (Option Nat) := b23_0 F (some this) p0
theorem t23 {sc : Nat × (Nat → Int32)} {F : Nat} {this : Nat} {p0 : Option Nat} {h : xv_H} {r : Option Nat} {h' : xv_H} (e : m23 F this p0 h = some (r, h')) : xr sc 23 [.ref this, va_rf p0] h (fun v g => v = some (va_rf r) ∧ g = h') := by
  have e0 : xv_ent (xt_mx 23) [.ref this, va_rf p0] = [some (va_rf (some this)), some (va_rf p0)] := by simp [xv_ent, xv_sl, va_rf_cat, cat_int, cat_long, cat_ref, cat_null, va_rf_some, show xt_mx 23 = 2 from rfl]
  unfold xr
  rw [e0]
  exact t23_0 e
-- CellTree$Item.<init>(LCellTree$ItemKind;IILCellTree$Content;)V
def b26_0 (F : Nat) (l0 : Option Nat) (l1 : Option Nat) (l2 : Int32) (l3 : Int32) (l4 : Option Nat) : xm Unit := mb (nn l0) fun v1 => mb (pr 500 v1 l1) fun _ => mb (pi_ 501 v1 l2) fun _ => mb (pi_ 502 v1 l3) fun _ => mb (pr 503 v1 l4) fun _ => mr ()
theorem t26_0 {sc : Nat × (Nat → Int32)} {F : Nat} {r : Unit} {h' : xv_H} {l0 : Option Nat} {l1 : Option Nat} {l2 : Int32} {l3 : Int32} {l4 : Option Nat} {h : xv_H} (e : b26_0 F l0 l1 l2 l3 l4 h = some (r, h')) : xx sc 26 0 [some (va_rf l0), some (va_rf l1), some (.int l2), some (.int l3), some (va_rf l4)] [] h (fun v g => v = none ∧ g = h') := by
  unfold b26_0 at e
  refine xo_aload_nQ (w := l0) rfl rfl ?_
  refine d_nn e (fun v1 g e1 => ?_)
  subst g
  replace e := e1
  clear e1
  refine xo_init rfl (by simp [xv_room, va_rf_cat, cat_int, cat_long, cat_ref, cat_null]) ?_
  refine xo_aload_nQ (w := (some v1)) rfl rfl ?_
  refine xo_aload_nQ (w := l1) rfl rfl ?_
  refine d_putr (w := l1) rfl e (fun h e => ?_)
  refine xo_aload_nQ (w := (some v1)) rfl rfl ?_
  refine xo_iload_n rfl rfl ?_
  refine d_puti rfl e (fun h e => ?_)
  refine xo_aload_nQ (w := (some v1)) rfl rfl ?_
  refine xo_iload_n rfl rfl ?_
  refine d_puti rfl e (fun h e => ?_)
  refine xo_aload_nQ (w := (some v1)) rfl rfl ?_
  refine xo_aloadQ (w := l4) rfl rfl ?_
  refine d_putr (w := l4) rfl e (fun h e => ?_)
  exact d_ret rfl e
def m26 (F : Nat) (this : Nat) (p0 : Option Nat) (p1 : Int32) (p2 : Int32) (p3 : Option Nat) : xm Unit := b26_0 F (some this) p0 p1 p2 p3
theorem t26 {sc : Nat × (Nat → Int32)} {F : Nat} {this : Nat} {p0 : Option Nat} {p1 : Int32} {p2 : Int32} {p3 : Option Nat} {h : xv_H} {r : Unit} {h' : xv_H} (e : m26 F this p0 p1 p2 p3 h = some (r, h')) : xr sc 26 [.ref this, va_rf p0, .int p1, .int p2, va_rf p3] h (fun v g => v = none ∧ g = h') := by
  have e0 : xv_ent (xt_mx 26) [.ref this, va_rf p0, .int p1, .int p2, va_rf p3] = [some (va_rf (some this)), some (va_rf p0), some (.int p1), some (.int p2), some (va_rf p3)] := by simp [xv_ent, xv_sl, va_rf_cat, cat_int, cat_long, cat_ref, cat_null, va_rf_some, show xt_mx 26 = 5 from rfl]
  unfold xr
  rw [e0]
  exact t26_0 e
-- CellTree$Transaction.include(LCellTree$ItemKind;IILCellTree$Content;)V
def b25_53 (F : Nat) : xm Unit := mr ()
theorem t25_53 {sc : Nat × (Nat → Int32)} {F : Nat} {r : Unit} {h' : xv_H} {d0 d1 d2 d3 d4 : Option Value} {h : xv_H} (e : b25_53 F h = some (r, h')) : xx sc 25 53 [d0, d1, d2, d3, d4] [] h (fun v g => v = none ∧ g = h') := by
  unfold b25_53 at e
  exact d_ret rfl e
def b25_12 (F : Nat) (l0 : Option Nat) (l1 : Option Nat) (l2 : Int32) (l3 : Int32) (l4 : Option Nat) : xm Unit := mb (nn l0) fun v1 => mb (gr 401 v1) fun v2 => mb (gi 404 v1) fun v3 => mb (nw 5 4) fun v4 => mb (m26 F v4 l1 l2 l3 l4) fun _ => mb (nn v2) fun v5 => mb (sr 107 v5 v3 (some v4)) fun _ => mb (gi 404 v1) fun v6 => mb (pi_ 404 v1 (v6 + (1 : Int32))) fun _ => mb (gr 402 v1) fun v7 => mb (dz (8 : Int32)) fun _ => mb (nn v7) fun v8 => mb (sb v8 (l2 / (8 : Int32)) (1 : Int32)) fun _ => b25_53 F
theorem t25_12 {sc : Nat × (Nat → Int32)} {F : Nat} {r : Unit} {h' : xv_H} {l0 : Option Nat} {l1 : Option Nat} {l2 : Int32} {l3 : Int32} {l4 : Option Nat} {h : xv_H} (e : b25_12 F l0 l1 l2 l3 l4 h = some (r, h')) : xx sc 25 12 [some (va_rf l0), some (va_rf l1), some (.int l2), some (.int l3), some (va_rf l4)] [] h (fun v g => v = none ∧ g = h') := by
  unfold b25_12 at e
  refine xo_aload_nQ (w := l0) rfl rfl ?_
  refine d_nn e (fun v1 g e1 => ?_)
  subst g
  replace e := e1
  clear e1
  refine d_getr rfl e (fun v2 e => ?_)
  refine xo_aload_nQ (w := (some v1)) rfl rfl ?_
  refine d_geti rfl e (fun v3 e => ?_)
  refine d_new rfl e (fun v4 h e => ?_)
  refine xo_dup rfl (by first | rfl | exact va_rf_cat _) ?_
  refine xo_aload_nQ (w := l1) rfl rfl ?_
  refine xo_iload_n rfl rfl ?_
  refine xo_iload_n rfl rfl ?_
  refine xo_aloadQ (w := l4) rfl rfl ?_
  refine d_special_v (av := [va_rf l1, .int l2, .int l3, va_rf l4]) (rest := [va_rf (some v4), .int v3, va_rf v2]) rfl (by decide) rfl rfl (by simp [xv_fit, va_rf_cat, cat_int, cat_long, cat_ref, cat_null, show xt_mx 26 = 5 from rfl, show xt_lg 26 = [] from rfl]) (by simp [xv_room, va_rf_cat, cat_int, cat_long, cat_ref, cat_null]) (fun x0 h1 e1 => t26 e1) e (fun _ h e => ?_)
  refine d_nn e (fun v5 g e1 => ?_)
  subst g
  replace e := e1
  clear e1
  refine d_aast (w := (some v4)) rfl e (fun h e => ?_)
  refine xo_aload_nQ (w := (some v1)) rfl rfl ?_
  refine xo_dup rfl (by first | rfl | exact va_rf_cat _) ?_
  refine d_geti rfl e (fun v6 e => ?_)
  refine xo_iconstV (x := 1) rfl (by decide) ?_
  refine xo_iadd rfl ?_
  refine d_puti rfl e (fun h e => ?_)
  refine xo_aload_nQ (w := (some v1)) rfl rfl ?_
  refine d_getr rfl e (fun v7 e => ?_)
  refine xo_iload_n rfl rfl ?_
  refine xo_bipushV (x := 8) rfl (by decide) ?_
  refine d_idiv rfl e (fun e => ?_)
  refine xo_iconstV (x := 1) rfl (by decide) ?_
  refine d_nn e (fun v8 g e1 => ?_)
  subst g
  replace e := e1
  clear e1
  refine d_bast rfl e (fun h e => ?_)
  exact t25_53 e
def b25_0 (F : Nat) (l0 : Option Nat) (l1 : Option Nat) (l2 : Int32) (l3 : Int32) (l4 : Option Nat) : xm Unit := mb (nn l0) fun v1 => mb (gi 404 v1) fun v2 => mb (gr 401 v1) fun v3 => mb (nn v3) fun v4 => mb (len 107 0 v4) fun v5 => if v5 ≤ v2 then b25_53 F else b25_12 F (some v1) l1 l2 l3 l4
theorem t25_0 {sc : Nat × (Nat → Int32)} {F : Nat} {r : Unit} {h' : xv_H} {l0 : Option Nat} {l1 : Option Nat} {l2 : Int32} {l3 : Int32} {l4 : Option Nat} {h : xv_H} (e : b25_0 F l0 l1 l2 l3 l4 h = some (r, h')) : xx sc 25 0 [some (va_rf l0), some (va_rf l1), some (.int l2), some (.int l3), some (va_rf l4)] [] h (fun v g => v = none ∧ g = h') := by
  unfold b25_0 at e
  refine xo_aload_nQ (w := l0) rfl rfl ?_
  refine d_nn e (fun v1 g e1 => ?_)
  subst g
  replace e := e1
  clear e1
  refine d_geti rfl e (fun v2 e => ?_)
  refine xo_aload_nQ (w := (some v1)) rfl rfl ?_
  refine d_getr rfl e (fun v3 e => ?_)
  refine d_nn e (fun v4 g e1 => ?_)
  subst g
  replace e := e1
  clear e1
  refine d_len rfl e (fun v5 e => ?_)
  refine d_icmp_ge rfl rfl e (fun _ e => ?_) (fun _ e => ?_)
  · exact t25_53 e
  · exact t25_12 e
def m25 (F : Nat) (this : Nat) (p0 : Option Nat) (p1 : Int32) (p2 : Int32) (p3 : Option Nat) : xm Unit := b25_0 F (some this) p0 p1 p2 p3
theorem t25 {sc : Nat × (Nat → Int32)} {F : Nat} {this : Nat} {p0 : Option Nat} {p1 : Int32} {p2 : Int32} {p3 : Option Nat} {h : xv_H} {r : Unit} {h' : xv_H} (e : m25 F this p0 p1 p2 p3 h = some (r, h')) : xr sc 25 [.ref this, va_rf p0, .int p1, .int p2, va_rf p3] h (fun v g => v = none ∧ g = h') := by
  have e0 : xv_ent (xt_mx 25) [.ref this, va_rf p0, .int p1, .int p2, va_rf p3] = [some (va_rf (some this)), some (va_rf p0), some (.int p1), some (.int p2), some (va_rf p3)] := by simp [xv_ent, xv_sl, va_rf_cat, cat_int, cat_long, cat_ref, cat_null, va_rf_some, show xt_mx 25 = 5 from rfl]
  unfold xr
  rw [e0]
  exact t25_0 e
