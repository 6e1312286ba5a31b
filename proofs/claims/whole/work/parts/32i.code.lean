-- CellTreeModel.forget(I)V
def b140_40 (F : Nat) : xm Unit := mr ()
theorem t140_40 {sc : Nat × (Nat → Int32)} {F : Nat} {r : Unit} {h' : xv_H} {d0 d1 d2 : Option Value} {h : xv_H} (e : b140_40 F h = some (r, h')) : xx sc 140 40 [d0, d1, d2] [] h (fun v g => v = none ∧ g = h') := by
  unfold b140_40 at e
  exact d_ret rfl e
def b140_12 (k2 : Option Nat → Int32 → Int32 → xm Unit) (F : Nat) (l0 : Option Nat) (l1 : Int32) (l2 : Int32) : xm Unit := mb (nn l0) fun v1 => mb (gr 922 v1) fun v2 => mb (gr 937 v1) fun v3 => mb (nn v3) fun v4 => mb (li v4 (((24 : Int32) * l1) + l2)) fun v5 => mb (nn v2) fun v6 => mb (si v6 (((24 : Int32) * l1) + v5) (0 : Int32)) fun _ => k2 (some v1) l1 (l2 + (1 : Int32))
theorem t140_12 {sc : Nat × (Nat → Int32)} {F : Nat} {r : Unit} {h' : xv_H} {k2 : Option Nat → Int32 → Int32 → xm Unit} (hk2 : ∀ (l0 : Option Nat) (l1 : Int32) (l2 : Int32) (h : xv_H), k2 l0 l1 l2 h = some (r, h') → xx sc 140 2 [some (va_rf l0), some (.int l1), some (.int l2)] [] h (fun v g => v = none ∧ g = h')) {l0 : Option Nat} {l1 : Int32} {l2 : Int32} {h : xv_H} (e : b140_12 k2 F l0 l1 l2 h = some (r, h')) : xx sc 140 12 [some (va_rf l0), some (.int l1), some (.int l2)] [] h (fun v g => v = none ∧ g = h') := by
  unfold b140_12 at e
  refine xo_aload_nQ (w := l0) rfl rfl ?_
  refine d_nn e (fun v1 g e1 => ?_)
  subst g
  replace e := e1
  clear e1
  refine d_getr rfl e (fun v2 e => ?_)
  refine xo_bipushV (x := 24) rfl (by decide) ?_
  refine xo_iload_n rfl rfl ?_
  refine xo_imul rfl ?_
  refine xo_aload_nQ (w := (some v1)) rfl rfl ?_
  refine d_getr rfl e (fun v3 e => ?_)
  refine xo_bipushV (x := 24) rfl (by decide) ?_
  refine xo_iload_n rfl rfl ?_
  refine xo_imul rfl ?_
  refine xo_iload_n rfl rfl ?_
  refine xo_iadd rfl ?_
  refine d_nn e (fun v4 g e1 => ?_)
  subst g
  replace e := e1
  clear e1
  refine d_iald rfl e (fun v5 e => ?_)
  refine xo_iadd rfl ?_
  refine xo_iconstV (x := 0) rfl (by decide) ?_
  refine d_nn e (fun v6 g e1 => ?_)
  subst g
  replace e := e1
  clear e1
  refine d_iast rfl e (fun h e => ?_)
  refine xo_iincV (z := 1) rfl (by decide) rfl (Nat.le_of_ble_eq_true rfl) rfl ?_
  refine xo_goto rfl rfl ?_
  exact hk2 _ _ _ _ e
def b140_2 (F : Nat) : Nat → Option Nat → Int32 → Int32 → xm Unit
  | 0, _, _, _ => fun _ => none
  | f + 1, l0, l1, l2 => mb (nn l0) fun v1 => mb (gr 938 v1) fun v2 => mb (nn v2) fun v3 => mb (li v3 l1) fun v4 => if v4 ≤ l2 then b140_40 F else b140_12 (b140_2 F f) F (some v1) l1 l2
theorem t140_2 {sc : Nat × (Nat → Int32)} {F : Nat} {r : Unit} {h' : xv_H} : ∀ (f : Nat) (l0 : Option Nat) (l1 : Int32) (l2 : Int32) (h : xv_H), b140_2 F f l0 l1 l2 h = some (r, h') → xx sc 140 2 [some (va_rf l0), some (.int l1), some (.int l2)] [] h (fun v g => v = none ∧ g = h') := by
  intro f
  induction f with
  | zero => intro l0 l1 l2 h e; cases e
  | succ f ih =>
    intro l0 l1 l2 h e
    unfold b140_2 at e
    refine xo_iload_n rfl rfl ?_
    refine xo_aload_nQ (w := l0) rfl rfl ?_
    refine d_nn e (fun v1 g e1 => ?_)
    subst g
    replace e := e1
    clear e1
    refine d_getr rfl e (fun v2 e => ?_)
    refine xo_iload_n rfl rfl ?_
    refine d_nn e (fun v3 g e1 => ?_)
    subst g
    replace e := e1
    clear e1
    refine d_iald rfl e (fun v4 e => ?_)
    refine d_icmp_ge rfl rfl e (fun _ e => ?_) (fun _ e => ?_)
    · exact t140_40 e
    · exact t140_12 (fun a0 a1 a2 h e => ih a0 a1 a2 h e) e
def b140_0 (F : Nat) (l0 : Option Nat) (l1 : Int32) : xm Unit := b140_2 F F l0 l1 (0 : Int32)
theorem t140_0 {sc : Nat × (Nat → Int32)} {F : Nat} {r : Unit} {h' : xv_H} {l0 : Option Nat} {l1 : Int32} {d2 : Option Value} {h : xv_H} (e : b140_0 F l0 l1 h = some (r, h')) : xx sc 140 0 [some (va_rf l0), some (.int l1), d2] [] h (fun v g => v = none ∧ g = h') := by
  unfold b140_0 at e
  refine xo_iconstV (x := 0) rfl (by decide) ?_
  refine xo_istore_n rfl (Nat.le_of_ble_eq_true rfl) rfl ?_
  exact t140_2 F _ _ _ _ e
def m140 (F : Nat) (this : Nat) (p0 : Int32) : xm Unit := b140_0 F (some this) p0
theorem t140 {sc : Nat × (Nat → Int32)} {F : Nat} {this : Nat} {p0 : Int32} {h : xv_H} {r : Unit} {h' : xv_H} (e : m140 F this p0 h = some (r, h')) : xr sc 140 [.ref this, .int p0] h (fun v g => v = none ∧ g = h') := by
  have e0 : xv_ent (xt_mx 140) [.ref this, .int p0] = [some (va_rf (some this)), some (.int p0), none] := by simp [xv_ent, xv_sl, va_rf_cat, cat_int, cat_long, cat_ref, cat_null, va_rf_some, show xt_mx 140 = 3 from rfl]
  unfold xr
  rw [e0]
  exact t140_0 e
-- CellTreeModel.go(II)V
def b143_0 (F : Nat) (l0 : Option Nat) (l1 : Int32) (l2 : Int32) : xm Unit := mb (nn l0) fun v1 => mb (gr 937 v1) fun v2 => mb (gr 938 v1) fun v3 => mb (nn v3) fun v4 => mb (li v4 l1) fun v5 => mb (nn v2) fun v6 => mb (si v6 (((24 : Int32) * l1) + v5) l2) fun _ => mb (gr 938 v1) fun v7 => mb (nn v7) fun v8 => mb (li v8 l1) fun v9 => mb (si v8 l1 (v9 + (1 : Int32))) fun _ => mr ()
theorem t143_0 {sc : Nat × (Nat → Int32)} {F : Nat} {r : Unit} {h' : xv_H} {l0 : Option Nat} {l1 : Int32} {l2 : Int32} {h : xv_H} (e : b143_0 F l0 l1 l2 h = some (r, h')) : xx sc 143 0 [some (va_rf l0), some (.int l1), some (.int l2)] [] h (fun v g => v = none ∧ g = h') := by
  unfold b143_0 at e
  refine xo_aload_nQ (w := l0) rfl rfl ?_
  refine d_nn e (fun v1 g e1 => ?_)
  subst g
  replace e := e1
  clear e1
  refine d_getr rfl e (fun v2 e => ?_)
  refine xo_bipushV (x := 24) rfl (by decide) ?_
  refine xo_iload_n rfl rfl ?_
  refine xo_imul rfl ?_
  refine xo_aload_nQ (w := (some v1)) rfl rfl ?_
  refine d_getr rfl e (fun v3 e => ?_)
  refine xo_iload_n rfl rfl ?_
  refine d_nn e (fun v4 g e1 => ?_)
  subst g
  replace e := e1
  clear e1
  refine d_iald rfl e (fun v5 e => ?_)
  refine xo_iadd rfl ?_
  refine xo_iload_n rfl rfl ?_
  refine d_nn e (fun v6 g e1 => ?_)
  subst g
  replace e := e1
  clear e1
  refine d_iast rfl e (fun h e => ?_)
  refine xo_aload_nQ (w := (some v1)) rfl rfl ?_
  refine d_getr rfl e (fun v7 e => ?_)
  refine xo_iload_n rfl rfl ?_
  refine xo_dup2 rfl (by first | rfl | exact va_rf_cat _) (by first | rfl | exact va_rf_cat _) ?_
  refine d_nn e (fun v8 g e1 => ?_)
  subst g
  replace e := e1
  clear e1
  refine d_iald rfl e (fun v9 e => ?_)
  refine xo_iconstV (x := 1) rfl (by decide) ?_
  refine xo_iadd rfl ?_
  refine d_iast rfl e (fun h e => ?_)
  exact d_ret rfl e
def m143 (F : Nat) (this : Nat) (p0 : Int32) (p1 : Int32) : xm Unit := b143_0 F (some this) p0 p1
theorem t143 {sc : Nat × (Nat → Int32)} {F : Nat} {this : Nat} {p0 : Int32} {p1 : Int32} {h : xv_H} {r : Unit} {h' : xv_H} (e : m143 F this p0 p1 h = some (r, h')) : xr sc 143 [.ref this, .int p0, .int p1] h (fun v g => v = none ∧ g = h') := by
  have e0 : xv_ent (xt_mx 143) [.ref this, .int p0, .int p1] = [some (va_rf (some this)), some (.int p0), some (.int p1)] := by simp [xv_ent, xv_sl, va_rf_cat, cat_int, cat_long, cat_ref, cat_null, va_rf_some, show xt_mx 143 = 3 from rfl]
  unfold xr
  rw [e0]
  exact t143_0 e
-- CellTreeModel.last(I)I
def b145_0 (F : Nat) (l0 : Option Nat) (l1 : Int32) : xm Int32 := mb (nn l0) fun v1 => mb (gr 937 v1) fun v2 => mb (gr 938 v1) fun v3 => mb (nn v3) fun v4 => mb (li v4 l1) fun v5 => mb (nn v2) fun v6 => mb (li v6 ((((24 : Int32) * l1) + v5) - (1 : Int32))) fun v7 => mr v7
theorem t145_0 {sc : Nat × (Nat → Int32)} {F : Nat} {r : Int32} {h' : xv_H} {l0 : Option Nat} {l1 : Int32} {h : xv_H} (e : b145_0 F l0 l1 h = some (r, h')) : xx sc 145 0 [some (va_rf l0), some (.int l1)] [] h (fun v g => v = some (.int r) ∧ g = h') := by
  unfold b145_0 at e
  refine xo_aload_nQ (w := l0) rfl rfl ?_
  refine d_nn e (fun v1 g e1 => ?_)
  subst g
  replace e := e1
  clear e1
  refine d_getr rfl e (fun v2 e => ?_)
  refine xo_bipushV (x := 24) rfl (by decide) ?_
  refine xo_iload_n rfl rfl ?_
  refine xo_imul rfl ?_
  refine xo_aload_nQ (w := (some v1)) rfl rfl ?_
  refine d_getr rfl e (fun v3 e => ?_)
  refine xo_iload_n rfl rfl ?_
  refine d_nn e (fun v4 g e1 => ?_)
  subst g
  replace e := e1
  clear e1
  refine d_iald rfl e (fun v5 e => ?_)
  refine xo_iadd rfl ?_
  refine xo_iconstV (x := 1) rfl (by decide) ?_
  refine xo_isub rfl ?_
  refine d_nn e (fun v6 g e1 => ?_)
  subst g
  replace e := e1
  clear e1
  refine d_iald rfl e (fun v7 e => ?_)
  exact d_iret rfl e
def m145 (F : Nat) (this : Nat) (p0 : Int32) : xm Int32 := b145_0 F (some this) p0
theorem t145 {sc : Nat × (Nat → Int32)} {F : Nat} {this : Nat} {p0 : Int32} {h : xv_H} {r : Int32} {h' : xv_H} (e : m145 F this p0 h = some (r, h')) : xr sc 145 [.ref this, .int p0] h (fun v g => v = some (.int r) ∧ g = h') := by
  have e0 : xv_ent (xt_mx 145) [.ref this, .int p0] = [some (va_rf (some this)), some (.int p0)] := by simp [xv_ent, xv_sl, va_rf_cat, cat_int, cat_long, cat_ref, cat_null, va_rf_some, show xt_mx 145 = 2 from rfl]
  unfold xr
  rw [e0]
  exact t145_0 e
-- CellTreeModel.sizeOf(J)I
def b146_0 (F : Nat) (l0 : Int64) : xm Int32 := mr ((((l0 >>> ((2 : Int32).toInt64 &&& 63)) &&& (3 : Int64))).toInt32)
theorem t146_0 {sc : Nat × (Nat → Int32)} {F : Nat} {r : Int32} {h' : xv_H} {l0 : Int64} {d1 : Option Value} {h : xv_H} (e : b146_0 F l0 h = some (r, h')) : xx sc 146 0 [some (.long l0), d1] [] h (fun v g => v = some (.int r) ∧ g = h') := by
  unfold b146_0 at e
  refine xo_lload_n rfl rfl ?_
  refine xo_iconstV (x := 2) rfl (by decide) ?_
  refine xo_lshr rfl ?_
  refine xo_ldc2V (u := 3) rfl (by decide) ?_
  refine xo_land rfl ?_
  refine xo_l2i rfl ?_
  exact d_iret rfl e
def m146 (F : Nat) (p0 : Int64) : xm Int32 := b146_0 F p0
theorem t146 {sc : Nat × (Nat → Int32)} {F : Nat} {p0 : Int64} {h : xv_H} {r : Int32} {h' : xv_H} (e : m146 F p0 h = some (r, h')) : xr sc 146 [.long p0] h (fun v g => v = some (.int r) ∧ g = h') := by
  have e0 : xv_ent (xt_mx 146) [.long p0] = [some (.long p0), none] := by simp [xv_ent, xv_sl, va_rf_cat, cat_int, cat_long, cat_ref, cat_null, va_rf_some, show xt_mx 146 = 2 from rfl]
  unfold xr
  rw [e0]
  exact t146_0 e
-- CellTreeModel.keyOf(JI)I
def b148_0 (F : Nat) (l0 : Int64) (l2 : Int32) : xm Int32 := mr ((((l0 >>> (((18 : Int32) + ((7 : Int32) * l2)).toInt64 &&& 63)) &&& (127 : Int64))).toInt32)
theorem t148_0 {sc : Nat × (Nat → Int32)} {F : Nat} {r : Int32} {h' : xv_H} {l0 : Int64} {l2 : Int32} {d1 : Option Value} {h : xv_H} (e : b148_0 F l0 l2 h = some (r, h')) : xx sc 148 0 [some (.long l0), d1, some (.int l2)] [] h (fun v g => v = some (.int r) ∧ g = h') := by
  unfold b148_0 at e
  refine xo_lload_n rfl rfl ?_
  refine xo_bipushV (x := 18) rfl (by decide) ?_
  refine xo_bipushV (x := 7) rfl (by decide) ?_
  refine xo_iload_n rfl rfl ?_
  refine xo_imul rfl ?_
  refine xo_iadd rfl ?_
  refine xo_lshr rfl ?_
  refine xo_ldc2V (u := 127) rfl (by decide) ?_
  refine xo_land rfl ?_
  refine xo_l2i rfl ?_
  exact d_iret rfl e
def m148 (F : Nat) (p0 : Int64) (p1 : Int32) : xm Int32 := b148_0 F p0 p1
theorem t148 {sc : Nat × (Nat → Int32)} {F : Nat} {p0 : Int64} {p1 : Int32} {h : xv_H} {r : Int32} {h' : xv_H} (e : m148 F p0 p1 h = some (r, h')) : xr sc 148 [.long p0, .int p1] h (fun v g => v = some (.int r) ∧ g = h') := by
  have e0 : xv_ent (xt_mx 148) [.long p0, .int p1] = [some (.long p0), none, some (.int p1)] := by simp [xv_ent, xv_sl, va_rf_cat, cat_int, cat_long, cat_ref, cat_null, va_rf_some, show xt_mx 148 = 3 from rfl]
  unfold xr
  rw [e0]
  exact t148_0 e
-- CellTreeModel.lowOf(J)I
def b149_0 (F : Nat) (l0 : Int64) : xm Int32 := mr ((((l0 >>> ((4 : Int32).toInt64 &&& 63)) &&& (127 : Int64))).toInt32)
theorem t149_0 {sc : Nat × (Nat → Int32)} {F : Nat} {r : Int32} {h' : xv_H} {l0 : Int64} {d1 : Option Value} {h : xv_H} (e : b149_0 F l0 h = some (r, h')) : xx sc 149 0 [some (.long l0), d1] [] h (fun v g => v = some (.int r) ∧ g = h') := by
  unfold b149_0 at e
  refine xo_lload_n rfl rfl ?_
  refine xo_iconstV (x := 4) rfl (by decide) ?_
  refine xo_lshr rfl ?_
  refine xo_ldc2V (u := 127) rfl (by decide) ?_
  refine xo_land rfl ?_
  refine xo_l2i rfl ?_
  exact d_iret rfl e
def m149 (F : Nat) (p0 : Int64) : xm Int32 := b149_0 F p0
theorem t149 {sc : Nat × (Nat → Int32)} {F : Nat} {p0 : Int64} {h : xv_H} {r : Int32} {h' : xv_H} (e : m149 F p0 h = some (r, h')) : xr sc 149 [.long p0] h (fun v g => v = some (.int r) ∧ g = h') := by
  have e0 : xv_ent (xt_mx 149) [.long p0] = [some (.long p0), none] := by simp [xv_ent, xv_sl, va_rf_cat, cat_int, cat_long, cat_ref, cat_null, va_rf_some, show xt_mx 149 = 2 from rfl]
  unfold xr
  rw [e0]
  exact t149_0 e
-- CellTreeModel.withKey(JII)J
def b150_0 (F : Nat) (l0 : Int64) (l2 : Int32) (l3 : Int32) : xm Int64 := mr ((l0 &&& (((127 : Int64) <<< (((18 : Int32) + ((7 : Int32) * l2)).toInt64 &&& 63)) ^^^ (-1 : Int64))) ||| ((l3).toInt64 <<< (((18 : Int32) + ((7 : Int32) * l2)).toInt64 &&& 63)))
theorem t150_0 {sc : Nat × (Nat → Int32)} {F : Nat} {r : Int64} {h' : xv_H} {l0 : Int64} {l2 : Int32} {l3 : Int32} {d1 : Option Value} {h : xv_H} (e : b150_0 F l0 l2 l3 h = some (r, h')) : xx sc 150 0 [some (.long l0), d1, some (.int l2), some (.int l3)] [] h (fun v g => v = some (.long r) ∧ g = h') := by
  unfold b150_0 at e
  refine xo_lload_n rfl rfl ?_
  refine xo_ldc2V (u := 127) rfl (by decide) ?_
  refine xo_bipushV (x := 18) rfl (by decide) ?_
  refine xo_bipushV (x := 7) rfl (by decide) ?_
  refine xo_iload_n rfl rfl ?_
  refine xo_imul rfl ?_
  refine xo_iadd rfl ?_
  refine xo_lshl rfl ?_
  refine xo_ldc2V (u := (-1)) rfl (by decide) ?_
  refine xo_lxor rfl ?_
  refine xo_land rfl ?_
  refine xo_iload_n rfl rfl ?_
  refine xo_i2l rfl ?_
  refine xo_bipushV (x := 18) rfl (by decide) ?_
  refine xo_bipushV (x := 7) rfl (by decide) ?_
  refine xo_iload_n rfl rfl ?_
  refine xo_imul rfl ?_
  refine xo_iadd rfl ?_
  refine xo_lshl rfl ?_
  refine xo_lor rfl ?_
  exact d_lret rfl e
def m150 (F : Nat) (p0 : Int64) (p1 : Int32) (p2 : Int32) : xm Int64 := b150_0 F p0 p1 p2
theorem t150 {sc : Nat × (Nat → Int32)} {F : Nat} {p0 : Int64} {p1 : Int32} {p2 : Int32} {h : xv_H} {r : Int64} {h' : xv_H} (e : m150 F p0 p1 p2 h = some (r, h')) : xr sc 150 [.long p0, .int p1, .int p2] h (fun v g => v = some (.long r) ∧ g = h') := by
  have e0 : xv_ent (xt_mx 150) [.long p0, .int p1, .int p2] = [some (.long p0), none, some (.int p1), some (.int p2)] := by simp [xv_ent, xv_sl, va_rf_cat, cat_int, cat_long, cat_ref, cat_null, va_rf_some, show xt_mx 150 = 4 from rfl]
  unfold xr
  rw [e0]
  exact t150_0 e
-- CellTreeModel.sized(JI)J
def b151_0 (F : Nat) (l0 : Int64) (l2 : Int32) : xm Int64 := mr ((l0 &&& (-13 : Int64)) ||| ((l2).toInt64 <<< ((2 : Int32).toInt64 &&& 63)))
theorem t151_0 {sc : Nat × (Nat → Int32)} {F : Nat} {r : Int64} {h' : xv_H} {l0 : Int64} {l2 : Int32} {d1 : Option Value} {h : xv_H} (e : b151_0 F l0 l2 h = some (r, h')) : xx sc 151 0 [some (.long l0), d1, some (.int l2)] [] h (fun v g => v = some (.long r) ∧ g = h') := by
  unfold b151_0 at e
  refine xo_lload_n rfl rfl ?_
  refine xo_ldc2V (u := (-13)) rfl (by decide) ?_
  refine xo_land rfl ?_
  refine xo_iload_n rfl rfl ?_
  refine xo_i2l rfl ?_
  refine xo_iconstV (x := 2) rfl (by decide) ?_
  refine xo_lshl rfl ?_
  refine xo_lor rfl ?_
  exact d_lret rfl e
def m151 (F : Nat) (p0 : Int64) (p1 : Int32) : xm Int64 := b151_0 F p0 p1
theorem t151 {sc : Nat × (Nat → Int32)} {F : Nat} {p0 : Int64} {p1 : Int32} {h : xv_H} {r : Int64} {h' : xv_H} (e : m151 F p0 p1 h = some (r, h')) : xr sc 151 [.long p0, .int p1] h (fun v g => v = some (.long r) ∧ g = h') := by
  have e0 : xv_ent (xt_mx 151) [.long p0, .int p1] = [some (.long p0), none, some (.int p1)] := by simp [xv_ent, xv_sl, va_rf_cat, cat_int, cat_long, cat_ref, cat_null, va_rf_some, show xt_mx 151 = 3 from rfl]
  unfold xr
  rw [e0]
  exact t151_0 e
-- CellTreeModel.childOf(JI)I
def b152_0 (F : Nat) (l0 : Int64) (l2 : Int32) : xm Int32 := mr ((((l0 >>> (((39 : Int32) + ((5 : Int32) * l2)).toInt64 &&& 63)) &&& (31 : Int64))).toInt32)
theorem t152_0 {sc : Nat × (Nat → Int32)} {F : Nat} {r : Int32} {h' : xv_H} {l0 : Int64} {l2 : Int32} {d1 : Option Value} {h : xv_H} (e : b152_0 F l0 l2 h = some (r, h')) : xx sc 152 0 [some (.long l0), d1, some (.int l2)] [] h (fun v g => v = some (.int r) ∧ g = h') := by
  unfold b152_0 at e
  refine xo_lload_n rfl rfl ?_
  refine xo_bipushV (x := 39) rfl (by decide) ?_
  refine xo_iconstV (x := 5) rfl (by decide) ?_
  refine xo_iload_n rfl rfl ?_
  refine xo_imul rfl ?_
  refine xo_iadd rfl ?_
  refine xo_lshr rfl ?_
  refine xo_ldc2V (u := 31) rfl (by decide) ?_
  refine xo_land rfl ?_
  refine xo_l2i rfl ?_
  exact d_iret rfl e
def m152 (F : Nat) (p0 : Int64) (p1 : Int32) : xm Int32 := b152_0 F p0 p1
theorem t152 {sc : Nat × (Nat → Int32)} {F : Nat} {p0 : Int64} {p1 : Int32} {h : xv_H} {r : Int32} {h' : xv_H} (e : m152 F p0 p1 h = some (r, h')) : xr sc 152 [.long p0, .int p1] h (fun v g => v = some (.int r) ∧ g = h') := by
  have e0 : xv_ent (xt_mx 152) [.long p0, .int p1] = [some (.long p0), none, some (.int p1)] := by simp [xv_ent, xv_sl, va_rf_cat, cat_int, cat_long, cat_ref, cat_null, va_rf_some, show xt_mx 152 = 3 from rfl]
  unfold xr
  rw [e0]
  exact t152_0 e
-- CellTreeModel.withChild(JII)J
def b153_0 (F : Nat) (l0 : Int64) (l2 : Int32) (l3 : Int32) : xm Int64 := mr ((l0 &&& (((31 : Int64) <<< (((39 : Int32) + ((5 : Int32) * l2)).toInt64 &&& 63)) ^^^ (-1 : Int64))) ||| ((l3).toInt64 <<< (((39 : Int32) + ((5 : Int32) * l2)).toInt64 &&& 63)))
theorem t153_0 {sc : Nat × (Nat → Int32)} {F : Nat} {r : Int64} {h' : xv_H} {l0 : Int64} {l2 : Int32} {l3 : Int32} {d1 : Option Value} {h : xv_H} (e : b153_0 F l0 l2 l3 h = some (r, h')) : xx sc 153 0 [some (.long l0), d1, some (.int l2), some (.int l3)] [] h (fun v g => v = some (.long r) ∧ g = h') := by
  unfold b153_0 at e
  refine xo_lload_n rfl rfl ?_
  refine xo_ldc2V (u := 31) rfl (by decide) ?_
  refine xo_bipushV (x := 39) rfl (by decide) ?_
  refine xo_iconstV (x := 5) rfl (by decide) ?_
  refine xo_iload_n rfl rfl ?_
  refine xo_imul rfl ?_
  refine xo_iadd rfl ?_
  refine xo_lshl rfl ?_
  refine xo_ldc2V (u := (-1)) rfl (by decide) ?_
  refine xo_lxor rfl ?_
  refine xo_land rfl ?_
  refine xo_iload_n rfl rfl ?_
  refine xo_i2l rfl ?_
  refine xo_bipushV (x := 39) rfl (by decide) ?_
  refine xo_iconstV (x := 5) rfl (by decide) ?_
  refine xo_iload_n rfl rfl ?_
  refine xo_imul rfl ?_
  refine xo_iadd rfl ?_
  refine xo_lshl rfl ?_
  refine xo_lor rfl ?_
  exact d_lret rfl e
def m153 (F : Nat) (p0 : Int64) (p1 : Int32) (p2 : Int32) : xm Int64 := b153_0 F p0 p1 p2
theorem t153 {sc : Nat × (Nat → Int32)} {F : Nat} {p0 : Int64} {p1 : Int32} {p2 : Int32} {h : xv_H} {r : Int64} {h' : xv_H} (e : m153 F p0 p1 p2 h = some (r, h')) : xr sc 153 [.long p0, .int p1, .int p2] h (fun v g => v = some (.long r) ∧ g = h') := by
  have e0 : xv_ent (xt_mx 153) [.long p0, .int p1, .int p2] = [some (.long p0), none, some (.int p1), some (.int p2)] := by simp [xv_ent, xv_sl, va_rf_cat, cat_int, cat_long, cat_ref, cat_null, va_rf_some, show xt_mx 153 = 4 from rfl]
  unfold xr
  rw [e0]
  exact t153_0 e
-- CellTreeModel.highOf(J)I
def b154_0 (F : Nat) (l0 : Int64) : xm Int32 := mr ((((l0 >>> ((11 : Int32).toInt64 &&& 63)) &&& (127 : Int64))).toInt32)
theorem t154_0 {sc : Nat × (Nat → Int32)} {F : Nat} {r : Int32} {h' : xv_H} {l0 : Int64} {d1 : Option Value} {h : xv_H} (e : b154_0 F l0 h = some (r, h')) : xx sc 154 0 [some (.long l0), d1] [] h (fun v g => v = some (.int r) ∧ g = h') := by
  unfold b154_0 at e
  refine xo_lload_n rfl rfl ?_
  refine xo_bipushV (x := 11) rfl (by decide) ?_
  refine xo_lshr rfl ?_
  refine xo_ldc2V (u := 127) rfl (by decide) ?_
  refine xo_land rfl ?_
  refine xo_l2i rfl ?_
  exact d_iret rfl e
def m154 (F : Nat) (p0 : Int64) : xm Int32 := b154_0 F p0
theorem t154 {sc : Nat × (Nat → Int32)} {F : Nat} {p0 : Int64} {h : xv_H} {r : Int32} {h' : xv_H} (e : m154 F p0 h = some (r, h')) : xr sc 154 [.long p0] h (fun v g => v = some (.int r) ∧ g = h') := by
  have e0 : xv_ent (xt_mx 154) [.long p0] = [some (.long p0), none] := by simp [xv_ent, xv_sl, va_rf_cat, cat_int, cat_long, cat_ref, cat_null, va_rf_some, show xt_mx 154 = 2 from rfl]
  unfold xr
  rw [e0]
  exact t154_0 e
-- CellTreeModel.freshAddress(I)I
def b155_25 (F : Nat) (s0 : Int32) (s1 : Int32) (s2 : Option Nat) (l2 : Int32) : xm Int32 := mb (nn s2) fun v1 => mb (si v1 s1 s0) fun _ => mr l2
theorem t155_25 {sc : Nat × (Nat → Int32)} {F : Nat} {r : Int32} {h' : xv_H} {s0 : Int32} {s1 : Int32} {s2 : Option Nat} {l2 : Int32} {d0 d1 : Option Value} {h : xv_H} (e : b155_25 F s0 s1 s2 l2 h = some (r, h')) : xx sc 155 25 [d0, d1, some (.int l2)] [.int s0, .int s1, va_rf s2] h (fun v g => v = some (.int r) ∧ g = h') := by
  unfold b155_25 at e
  refine d_nn e (fun v1 g e1 => ?_)
  subst g
  replace e := e1
  clear e1
  refine d_iast rfl e (fun h e => ?_)
  refine xo_iload_n rfl rfl ?_
  exact d_iret rfl e
def b155_22 (F : Nat) (s0 : Int32) (s1 : Option Nat) (l2 : Int32) : xm Int32 := b155_25 F (l2 + (1 : Int32)) s0 s1 l2
theorem t155_22 {sc : Nat × (Nat → Int32)} {F : Nat} {r : Int32} {h' : xv_H} {s0 : Int32} {s1 : Option Nat} {l2 : Int32} {d0 d1 : Option Value} {h : xv_H} (e : b155_22 F s0 s1 l2 h = some (r, h')) : xx sc 155 22 [d0, d1, some (.int l2)] [.int s0, va_rf s1] h (fun v g => v = some (.int r) ∧ g = h') := by
  unfold b155_22 at e
  refine xo_iload_n rfl rfl ?_
  refine xo_iconstV (x := 1) rfl (by decide) ?_
  refine xo_iadd rfl ?_
  exact t155_25 e
def b155_18 (F : Nat) (s0 : Int32) (s1 : Option Nat) (l2 : Int32) : xm Int32 := b155_25 F (1 : Int32) s0 s1 l2
theorem t155_18 {sc : Nat × (Nat → Int32)} {F : Nat} {r : Int32} {h' : xv_H} {s0 : Int32} {s1 : Option Nat} {l2 : Int32} {d0 d1 : Option Value} {h : xv_H} (e : b155_18 F s0 s1 l2 h = some (r, h')) : xx sc 155 18 [d0, d1, some (.int l2)] [.int s0, va_rf s1] h (fun v g => v = some (.int r) ∧ g = h') := by
  unfold b155_18 at e
  refine xo_iconstV (x := 1) rfl (by decide) ?_
  refine xo_goto rfl rfl ?_
  exact t155_25 e
def b155_0 (F : Nat) (l0 : Option Nat) (l1 : Int32) : xm Int32 := mb (nn l0) fun v1 => mb (gr 924 v1) fun v2 => mb (nn v2) fun v3 => mb (li v3 l1) fun v4 => mb (gr 924 v1) fun v5 => if ¬ v4 = (23 : Int32) then b155_22 F l1 v5 v4 else b155_18 F l1 v5 v4
theorem t155_0 {sc : Nat × (Nat → Int32)} {F : Nat} {r : Int32} {h' : xv_H} {l0 : Option Nat} {l1 : Int32} {d2 : Option Value} {h : xv_H} (e : b155_0 F l0 l1 h = some (r, h')) : xx sc 155 0 [some (va_rf l0), some (.int l1), d2] [] h (fun v g => v = some (.int r) ∧ g = h') := by
  unfold b155_0 at e
  refine xo_aload_nQ (w := l0) rfl rfl ?_
  refine d_nn e (fun v1 g e1 => ?_)
  subst g
  replace e := e1
  clear e1
  refine d_getr rfl e (fun v2 e => ?_)
  refine xo_iload_n rfl rfl ?_
  refine d_nn e (fun v3 g e1 => ?_)
  subst g
  replace e := e1
  clear e1
  refine d_iald rfl e (fun v4 e => ?_)
  refine xo_istore_n rfl (Nat.le_of_ble_eq_true rfl) rfl ?_
  refine xo_aload_nQ (w := (some v1)) rfl rfl ?_
  refine d_getr rfl e (fun v5 e => ?_)
  refine xo_iload_n rfl rfl ?_
  refine xo_iload_n rfl rfl ?_
  refine xo_bipushV (x := 23) rfl (by decide) ?_
  refine d_icmp_ne rfl rfl e (fun _ e => ?_) (fun _ e => ?_)
  · exact t155_22 e
  · exact t155_18 e
def m155 (F : Nat) (this : Nat) (p0 : Int32) : xm Int32 := b155_0 F (some this) p0
theorem t155 {sc : Nat × (Nat → Int32)} {F : Nat} {this : Nat} {p0 : Int32} {h : xv_H} {r : Int32} {h' : xv_H} (e : m155 F this p0 h = some (r, h')) : xr sc 155 [.ref this, .int p0] h (fun v g => v = some (.int r) ∧ g = h') := by
  have e0 : xv_ent (xt_mx 155) [.ref this, .int p0] = [some (va_rf (some this)), some (.int p0), none] := by simp [xv_ent, xv_sl, va_rf_cat, cat_int, cat_long, cat_ref, cat_null, va_rf_some, show xt_mx 155 = 3 from rfl]
  unfold xr
  rw [e0]
  exact t155_0 e
-- CellTreeModel.addItem(IIIJIII)V
def b156_0 (F : Nat) (l0 : Option Nat) (l1 : Int32) (l2 : Int32) (l3 : Int32) (l4 : Int64) (l6 : Int32) (l7 : Int32) (l8 : Int32) : xm Unit := mb (nn l0) fun v1 => mb (gr 910 v1) fun v2 => mb (gi 909 v1) fun v3 => mb (nn v2) fun v4 => mb (sb v4 v3 ((l1).toInt8.toInt32)) fun _ => mb (gr 911 v1) fun v5 => mb (gi 909 v1) fun v6 => mb (nn v5) fun v7 => mb (sb v7 v6 ((l2).toInt8.toInt32)) fun _ => mb (gr 912 v1) fun v8 => mb (gi 909 v1) fun v9 => mb (nn v8) fun v10 => mb (si v10 v9 l3) fun _ => mb (gr 913 v1) fun v11 => mb (gi 909 v1) fun v12 => mb (nn v11) fun v13 => mb (sl v13 v12 l4) fun _ => mb (gr 914 v1) fun v14 => mb (gi 909 v1) fun v15 => mb (nn v14) fun v16 => mb (si v16 ((3 : Int32) * v15) l6) fun _ => mb (gr 914 v1) fun v17 => mb (gi 909 v1) fun v18 => mb (nn v17) fun v19 => mb (si v19 (((3 : Int32) * v18) + (1 : Int32)) l7) fun _ => mb (gr 914 v1) fun v20 => mb (gi 909 v1) fun v21 => mb (nn v20) fun v22 => mb (si v22 (((3 : Int32) * v21) + (2 : Int32)) l8) fun _ => mb (gi 909 v1) fun v23 => mb (pi_ 909 v1 (v23 + (1 : Int32))) fun _ => mr ()
theorem t156_0 {sc : Nat × (Nat → Int32)} {F : Nat} {r : Unit} {h' : xv_H} {l0 : Option Nat} {l1 : Int32} {l2 : Int32} {l3 : Int32} {l4 : Int64} {l6 : Int32} {l7 : Int32} {l8 : Int32} {d5 : Option Value} {h : xv_H} (e : b156_0 F l0 l1 l2 l3 l4 l6 l7 l8 h = some (r, h')) : xx sc 156 0 [some (va_rf l0), some (.int l1), some (.int l2), some (.int l3), some (.long l4), d5, some (.int l6), some (.int l7), some (.int l8)] [] h (fun v g => v = none ∧ g = h') := by
  unfold b156_0 at e
  refine xo_aload_nQ (w := l0) rfl rfl ?_
  refine d_nn e (fun v1 g e1 => ?_)
  subst g
  replace e := e1
  clear e1
  refine d_getr rfl e (fun v2 e => ?_)
  refine xo_aload_nQ (w := (some v1)) rfl rfl ?_
  refine d_geti rfl e (fun v3 e => ?_)
  refine xo_iload_n rfl rfl ?_
  refine xo_i2b rfl ?_
  refine d_nn e (fun v4 g e1 => ?_)
  subst g
  replace e := e1
  clear e1
  refine d_bast rfl e (fun h e => ?_)
  refine xo_aload_nQ (w := (some v1)) rfl rfl ?_
  refine d_getr rfl e (fun v5 e => ?_)
  refine xo_aload_nQ (w := (some v1)) rfl rfl ?_
  refine d_geti rfl e (fun v6 e => ?_)
  refine xo_iload_n rfl rfl ?_
  refine xo_i2b rfl ?_
  refine d_nn e (fun v7 g e1 => ?_)
  subst g
  replace e := e1
  clear e1
  refine d_bast rfl e (fun h e => ?_)
  refine xo_aload_nQ (w := (some v1)) rfl rfl ?_
  refine d_getr rfl e (fun v8 e => ?_)
  refine xo_aload_nQ (w := (some v1)) rfl rfl ?_
  refine d_geti rfl e (fun v9 e => ?_)
  refine xo_iload_n rfl rfl ?_
  refine d_nn e (fun v10 g e1 => ?_)
  subst g
  replace e := e1
  clear e1
  refine d_iast rfl e (fun h e => ?_)
  refine xo_aload_nQ (w := (some v1)) rfl rfl ?_
  refine d_getr rfl e (fun v11 e => ?_)
  refine xo_aload_nQ (w := (some v1)) rfl rfl ?_
  refine d_geti rfl e (fun v12 e => ?_)
  refine xo_lload rfl rfl ?_
  refine d_nn e (fun v13 g e1 => ?_)
  subst g
  replace e := e1
  clear e1
  refine d_last rfl e (fun h e => ?_)
  refine xo_aload_nQ (w := (some v1)) rfl rfl ?_
  refine d_getr rfl e (fun v14 e => ?_)
  refine xo_iconstV (x := 3) rfl (by decide) ?_
  refine xo_aload_nQ (w := (some v1)) rfl rfl ?_
  refine d_geti rfl e (fun v15 e => ?_)
  refine xo_imul rfl ?_
  refine xo_iload rfl rfl ?_
  refine d_nn e (fun v16 g e1 => ?_)
  subst g
  replace e := e1
  clear e1
  refine d_iast rfl e (fun h e => ?_)
  refine xo_aload_nQ (w := (some v1)) rfl rfl ?_
  refine d_getr rfl e (fun v17 e => ?_)
  refine xo_iconstV (x := 3) rfl (by decide) ?_
  refine xo_aload_nQ (w := (some v1)) rfl rfl ?_
  refine d_geti rfl e (fun v18 e => ?_)
  refine xo_imul rfl ?_
  refine xo_iconstV (x := 1) rfl (by decide) ?_
  refine xo_iadd rfl ?_
  refine xo_iload rfl rfl ?_
  refine d_nn e (fun v19 g e1 => ?_)
  subst g
  replace e := e1
  clear e1
  refine d_iast rfl e (fun h e => ?_)
  refine xo_aload_nQ (w := (some v1)) rfl rfl ?_
  refine d_getr rfl e (fun v20 e => ?_)
  refine xo_iconstV (x := 3) rfl (by decide) ?_
  refine xo_aload_nQ (w := (some v1)) rfl rfl ?_
  refine d_geti rfl e (fun v21 e => ?_)
  refine xo_imul rfl ?_
  refine xo_iconstV (x := 2) rfl (by decide) ?_
  refine xo_iadd rfl ?_
  refine xo_iload rfl rfl ?_
  refine d_nn e (fun v22 g e1 => ?_)
  subst g
  replace e := e1
  clear e1
  refine d_iast rfl e (fun h e => ?_)
  refine xo_aload_nQ (w := (some v1)) rfl rfl ?_
  refine xo_dup rfl (by first | rfl | exact va_rf_cat _) ?_
  refine d_geti rfl e (fun v23 e => ?_)
  refine xo_iconstV (x := 1) rfl (by decide) ?_
  refine xo_iadd rfl ?_
  refine d_puti rfl e (fun h e => ?_)
  exact d_ret rfl e
def m156 (F : Nat) (this : Nat) (p0 : Int32) (p1 : Int32) (p2 : Int32) (p3 : Int64) (p4 : Int32) (p5 : Int32) (p6 : Int32) : xm Unit := b156_0 F (some this) p0 p1 p2 p3 p4 p5 p6
theorem t156 {sc : Nat × (Nat → Int32)} {F : Nat} {this : Nat} {p0 : Int32} {p1 : Int32} {p2 : Int32} {p3 : Int64} {p4 : Int32} {p5 : Int32} {p6 : Int32} {h : xv_H} {r : Unit} {h' : xv_H} (e : m156 F this p0 p1 p2 p3 p4 p5 p6 h = some (r, h')) : xr sc 156 [.ref this, .int p0, .int p1, .int p2, .long p3, .int p4, .int p5, .int p6] h (fun v g => v = none ∧ g = h') := by
  have e0 : xv_ent (xt_mx 156) [.ref this, .int p0, .int p1, .int p2, .long p3, .int p4, .int p5, .int p6] = [some (va_rf (some this)), some (.int p0), some (.int p1), some (.int p2), some (.long p3), none, some (.int p4), some (.int p5), some (.int p6)] := by simp [xv_ent, xv_sl, va_rf_cat, cat_int, cat_long, cat_ref, cat_null, va_rf_some, show xt_mx 156 = 9 from rfl]
  unfold xr
  rw [e0]
  exact t156_0 e
-- CellTreeModel.before(JIZ)I
def b159_56 (F : Nat) (l4 : Int32) : xm Int32 := mr l4
theorem t159_56 {sc : Nat × (Nat → Int32)} {F : Nat} {r : Int32} {h' : xv_H} {l4 : Int32} {d0 d1 d2 d3 d5 : Option Value} {h : xv_H} (e : b159_56 F l4 h = some (r, h')) : xx sc 159 56 [d0, d1, d2, d3, some (.int l4), d5] [] h (fun v g => v = some (.int r) ∧ g = h') := by
  unfold b159_56 at e
  refine xo_iload rfl rfl ?_
  exact d_iret rfl e
def b159_48 (k6 : Int64 → Int32 → Int32 → Int32 → Int32 → xm Int32) (F : Nat) (s0 : Int32) (l0 : Int64) (l2 : Int32) (l3 : Int32) (l5 : Int32) : xm Int32 := k6 l0 l2 l3 s0 (l5 + (1 : Int32))
theorem t159_48 {sc : Nat × (Nat → Int32)} {F : Nat} {r : Int32} {h' : xv_H} {k6 : Int64 → Int32 → Int32 → Int32 → Int32 → xm Int32} (hk6 : ∀ (l0 : Int64) (l2 : Int32) (l3 : Int32) (l4 : Int32) (l5 : Int32) (d1 : Option Value) (h : xv_H), k6 l0 l2 l3 l4 l5 h = some (r, h') → xx sc 159 6 [some (.long l0), d1, some (.int l2), some (.int l3), some (.int l4), some (.int l5)] [] h (fun v g => v = some (.int r) ∧ g = h')) {s0 : Int32} {l0 : Int64} {l2 : Int32} {l3 : Int32} {l5 : Int32} {d1 d4 : Option Value} {h : xv_H} (e : b159_48 k6 F s0 l0 l2 l3 l5 h = some (r, h')) : xx sc 159 48 [some (.long l0), d1, some (.int l2), some (.int l3), d4, some (.int l5)] [.int s0] h (fun v g => v = some (.int r) ∧ g = h') := by
  unfold b159_48 at e
  refine xo_istore rfl (Nat.le_of_ble_eq_true rfl) rfl ?_
  refine xo_iincV (z := 1) rfl (by decide) rfl (Nat.le_of_ble_eq_true rfl) rfl ?_
  refine xo_goto rfl rfl ?_
  exact hk6 _ _ _ _ _ _ _ e
def b159_46 (k6 : Int64 → Int32 → Int32 → Int32 → Int32 → xm Int32) (F : Nat) (l0 : Int64) (l2 : Int32) (l3 : Int32) (l4 : Int32) (l5 : Int32) : xm Int32 := b159_48 k6 F l4 l0 l2 l3 l5
theorem t159_46 {sc : Nat × (Nat → Int32)} {F : Nat} {r : Int32} {h' : xv_H} {k6 : Int64 → Int32 → Int32 → Int32 → Int32 → xm Int32} (hk6 : ∀ (l0 : Int64) (l2 : Int32) (l3 : Int32) (l4 : Int32) (l5 : Int32) (d1 : Option Value) (h : xv_H), k6 l0 l2 l3 l4 l5 h = some (r, h') → xx sc 159 6 [some (.long l0), d1, some (.int l2), some (.int l3), some (.int l4), some (.int l5)] [] h (fun v g => v = some (.int r) ∧ g = h')) {l0 : Int64} {l2 : Int32} {l3 : Int32} {l4 : Int32} {l5 : Int32} {d1 : Option Value} {h : xv_H} (e : b159_46 k6 F l0 l2 l3 l4 l5 h = some (r, h')) : xx sc 159 46 [some (.long l0), d1, some (.int l2), some (.int l3), some (.int l4), some (.int l5)] [] h (fun v g => v = some (.int r) ∧ g = h') := by
  unfold b159_46 at e
  refine xo_iload rfl rfl ?_
  exact t159_48 hk6 e
def b159_39 (k6 : Int64 → Int32 → Int32 → Int32 → Int32 → xm Int32) (F : Nat) (l0 : Int64) (l2 : Int32) (l3 : Int32) (l4 : Int32) (l5 : Int32) : xm Int32 := b159_48 k6 F (l4 + (1 : Int32)) l0 l2 l3 l5
theorem t159_39 {sc : Nat × (Nat → Int32)} {F : Nat} {r : Int32} {h' : xv_H} {k6 : Int64 → Int32 → Int32 → Int32 → Int32 → xm Int32} (hk6 : ∀ (l0 : Int64) (l2 : Int32) (l3 : Int32) (l4 : Int32) (l5 : Int32) (d1 : Option Value) (h : xv_H), k6 l0 l2 l3 l4 l5 h = some (r, h') → xx sc 159 6 [some (.long l0), d1, some (.int l2), some (.int l3), some (.int l4), some (.int l5)] [] h (fun v g => v = some (.int r) ∧ g = h')) {l0 : Int64} {l2 : Int32} {l3 : Int32} {l4 : Int32} {l5 : Int32} {d1 : Option Value} {h : xv_H} (e : b159_39 k6 F l0 l2 l3 l4 l5 h = some (r, h')) : xx sc 159 39 [some (.long l0), d1, some (.int l2), some (.int l3), some (.int l4), some (.int l5)] [] h (fun v g => v = some (.int r) ∧ g = h') := by
  unfold b159_39 at e
  refine xo_iload rfl rfl ?_
  refine xo_iconstV (x := 1) rfl (by decide) ?_
  refine xo_iadd rfl ?_
  refine xo_goto rfl rfl ?_
  exact t159_48 hk6 e
def b159_29 (k6 : Int64 → Int32 → Int32 → Int32 → Int32 → xm Int32) (F : Nat) (l0 : Int64) (l2 : Int32) (l3 : Int32) (l4 : Int32) (l5 : Int32) : xm Int32 := mb (m148 F l0 l5) fun v1 => if ¬ v1 = l2 then b159_46 k6 F l0 l2 l3 l4 l5 else b159_39 k6 F l0 l2 l3 l4 l5
theorem t159_29 {sc : Nat × (Nat → Int32)} {F : Nat} {r : Int32} {h' : xv_H} {k6 : Int64 → Int32 → Int32 → Int32 → Int32 → xm Int32} (hk6 : ∀ (l0 : Int64) (l2 : Int32) (l3 : Int32) (l4 : Int32) (l5 : Int32) (d1 : Option Value) (h : xv_H), k6 l0 l2 l3 l4 l5 h = some (r, h') → xx sc 159 6 [some (.long l0), d1, some (.int l2), some (.int l3), some (.int l4), some (.int l5)] [] h (fun v g => v = some (.int r) ∧ g = h')) {l0 : Int64} {l2 : Int32} {l3 : Int32} {l4 : Int32} {l5 : Int32} {d1 : Option Value} {h : xv_H} (e : b159_29 k6 F l0 l2 l3 l4 l5 h = some (r, h')) : xx sc 159 29 [some (.long l0), d1, some (.int l2), some (.int l3), some (.int l4), some (.int l5)] [] h (fun v g => v = some (.int r) ∧ g = h') := by
  unfold b159_29 at e
  refine xo_lload_n rfl rfl ?_
  refine xo_iload rfl rfl ?_
  refine d_static_i (av := [.long l0, .int l5]) (rest := []) rfl ⟨by decide, by decide, by decide⟩ rfl rfl (by simp [xv_fit, va_rf_cat, cat_int, cat_long, cat_ref, cat_null, show xt_mx 148 = 3 from rfl, show xt_lg 148 = [0] from rfl]) (by simp [xv_room, va_rf_cat, cat_int, cat_long, cat_ref, cat_null]) (fun x0 h1 e1 => t148 e1) e (fun v1 h e => ?_)
  refine xo_iload_n rfl rfl ?_
  refine d_icmp_ne rfl rfl e (fun _ e => ?_) (fun _ e => ?_)
  · exact t159_46 hk6 e
  · exact t159_39 hk6 e
def b159_25 (k6 : Int64 → Int32 → Int32 → Int32 → Int32 → xm Int32) (F : Nat) (l0 : Int64) (l2 : Int32) (l3 : Int32) (l4 : Int32) (l5 : Int32) : xm Int32 := if l3 = 0 then b159_46 k6 F l0 l2 l3 l4 l5 else b159_29 k6 F l0 l2 l3 l4 l5
theorem t159_25 {sc : Nat × (Nat → Int32)} {F : Nat} {r : Int32} {h' : xv_H} {k6 : Int64 → Int32 → Int32 → Int32 → Int32 → xm Int32} (hk6 : ∀ (l0 : Int64) (l2 : Int32) (l3 : Int32) (l4 : Int32) (l5 : Int32) (d1 : Option Value) (h : xv_H), k6 l0 l2 l3 l4 l5 h = some (r, h') → xx sc 159 6 [some (.long l0), d1, some (.int l2), some (.int l3), some (.int l4), some (.int l5)] [] h (fun v g => v = some (.int r) ∧ g = h')) {l0 : Int64} {l2 : Int32} {l3 : Int32} {l4 : Int32} {l5 : Int32} {d1 : Option Value} {h : xv_H} (e : b159_25 k6 F l0 l2 l3 l4 l5 h = some (r, h')) : xx sc 159 25 [some (.long l0), d1, some (.int l2), some (.int l3), some (.int l4), some (.int l5)] [] h (fun v g => v = some (.int r) ∧ g = h') := by
  unfold b159_25 at e
  refine xo_iload_n rfl rfl ?_
  refine d_if_eq rfl rfl e (fun _ e => ?_) (fun _ e => ?_)
  · exact t159_46 hk6 e
  · exact t159_29 hk6 e
def b159_15 (k6 : Int64 → Int32 → Int32 → Int32 → Int32 → xm Int32) (F : Nat) (l0 : Int64) (l2 : Int32) (l3 : Int32) (l4 : Int32) (l5 : Int32) : xm Int32 := mb (m148 F l0 l5) fun v1 => if v1 < l2 then b159_39 k6 F l0 l2 l3 l4 l5 else b159_25 k6 F l0 l2 l3 l4 l5
theorem t159_15 {sc : Nat × (Nat → Int32)} {F : Nat} {r : Int32} {h' : xv_H} {k6 : Int64 → Int32 → Int32 → Int32 → Int32 → xm Int32} (hk6 : ∀ (l0 : Int64) (l2 : Int32) (l3 : Int32) (l4 : Int32) (l5 : Int32) (d1 : Option Value) (h : xv_H), k6 l0 l2 l3 l4 l5 h = some (r, h') → xx sc 159 6 [some (.long l0), d1, some (.int l2), some (.int l3), some (.int l4), some (.int l5)] [] h (fun v g => v = some (.int r) ∧ g = h')) {l0 : Int64} {l2 : Int32} {l3 : Int32} {l4 : Int32} {l5 : Int32} {d1 : Option Value} {h : xv_H} (e : b159_15 k6 F l0 l2 l3 l4 l5 h = some (r, h')) : xx sc 159 15 [some (.long l0), d1, some (.int l2), some (.int l3), some (.int l4), some (.int l5)] [] h (fun v g => v = some (.int r) ∧ g = h') := by
  unfold b159_15 at e
  refine xo_lload_n rfl rfl ?_
  refine xo_iload rfl rfl ?_
  refine d_static_i (av := [.long l0, .int l5]) (rest := []) rfl ⟨by decide, by decide, by decide⟩ rfl rfl (by simp [xv_fit, va_rf_cat, cat_int, cat_long, cat_ref, cat_null, show xt_mx 148 = 3 from rfl, show xt_lg 148 = [0] from rfl]) (by simp [xv_room, va_rf_cat, cat_int, cat_long, cat_ref, cat_null]) (fun x0 h1 e1 => t148 e1) e (fun v1 h e => ?_)
  refine xo_iload_n rfl rfl ?_
  refine d_icmp_lt rfl rfl e (fun _ e => ?_) (fun _ e => ?_)
  · exact t159_39 hk6 e
  · exact t159_25 hk6 e
def b159_6 (F : Nat) : Nat → Int64 → Int32 → Int32 → Int32 → Int32 → xm Int32
  | 0, _, _, _, _, _ => fun _ => none
  | f + 1, l0, l2, l3, l4, l5 => mb (m146 F l0) fun v1 => if v1 ≤ l5 then b159_56 F l4 else b159_15 (b159_6 F f) F l0 l2 l3 l4 l5
theorem t159_6 {sc : Nat × (Nat → Int32)} {F : Nat} {r : Int32} {h' : xv_H} : ∀ (f : Nat) (l0 : Int64) (l2 : Int32) (l3 : Int32) (l4 : Int32) (l5 : Int32) (d1 : Option Value) (h : xv_H), b159_6 F f l0 l2 l3 l4 l5 h = some (r, h') → xx sc 159 6 [some (.long l0), d1, some (.int l2), some (.int l3), some (.int l4), some (.int l5)] [] h (fun v g => v = some (.int r) ∧ g = h') := by
  intro f
  induction f with
  | zero => intro l0 l2 l3 l4 l5 d1 h e; cases e
  | succ f ih =>
    intro l0 l2 l3 l4 l5 d1 h e
    unfold b159_6 at e
    refine xo_iload rfl rfl ?_
    refine xo_lload_n rfl rfl ?_
    refine d_static_i (av := [.long l0]) (rest := [.int l5]) rfl ⟨by decide, by decide, by decide⟩ rfl rfl (by simp [xv_fit, va_rf_cat, cat_int, cat_long, cat_ref, cat_null, show xt_mx 146 = 2 from rfl, show xt_lg 146 = [0] from rfl]) (by simp [xv_room, va_rf_cat, cat_int, cat_long, cat_ref, cat_null]) (fun x0 h1 e1 => t146 e1) e (fun v1 h e => ?_)
    refine d_icmp_ge rfl rfl e (fun _ e => ?_) (fun _ e => ?_)
    · exact t159_56 e
    · exact t159_15 (fun a0 a1 a2 a3 a4 a5 h e => ih a0 a1 a2 a3 a4 a5 h e) e
def b159_0 (F : Nat) (l0 : Int64) (l2 : Int32) (l3 : Int32) : xm Int32 := b159_6 F F l0 l2 l3 (0 : Int32) (0 : Int32)
theorem t159_0 {sc : Nat × (Nat → Int32)} {F : Nat} {r : Int32} {h' : xv_H} {l0 : Int64} {l2 : Int32} {l3 : Int32} {d1 d4 d5 : Option Value} {h : xv_H} (e : b159_0 F l0 l2 l3 h = some (r, h')) : xx sc 159 0 [some (.long l0), d1, some (.int l2), some (.int l3), d4, d5] [] h (fun v g => v = some (.int r) ∧ g = h') := by
  unfold b159_0 at e
  refine xo_iconstV (x := 0) rfl (by decide) ?_
  refine xo_istore rfl (Nat.le_of_ble_eq_true rfl) rfl ?_
  refine xo_iconstV (x := 0) rfl (by decide) ?_
  refine xo_istore rfl (Nat.le_of_ble_eq_true rfl) rfl ?_
  exact t159_6 F _ _ _ _ _ _ _ e
def m159 (F : Nat) (p0 : Int64) (p1 : Int32) (p2 : Int32) : xm Int32 := b159_0 F p0 p1 p2
theorem t159 {sc : Nat × (Nat → Int32)} {F : Nat} {p0 : Int64} {p1 : Int32} {p2 : Int32} {h : xv_H} {r : Int32} {h' : xv_H} (e : m159 F p0 p1 p2 h = some (r, h')) : xr sc 159 [.long p0, .int p1, .int p2] h (fun v g => v = some (.int r) ∧ g = h') := by
  have e0 : xv_ent (xt_mx 159) [.long p0, .int p1, .int p2] = [some (.long p0), none, some (.int p1), some (.int p2), none, none] := by simp [xv_ent, xv_sl, va_rf_cat, cat_int, cat_long, cat_ref, cat_null, va_rf_some, show xt_mx 159 = 6 from rfl]
  unfold xr
  rw [e0]
  exact t159_0 e
-- CellTreeModel.grown(JIII)J
def b158_145 (F : Nat) (l4 : Int32) (l6 : Int64) (l8 : Int32) : xm Int64 := mb (m153 F l6 (l8 + (1 : Int32)) l4) fun v1 => mr v1
theorem t158_145 {sc : Nat × (Nat → Int32)} {F : Nat} {r : Int64} {h' : xv_H} {l4 : Int32} {l6 : Int64} {l8 : Int32} {d0 d1 d2 d3 d5 d7 d9 : Option Value} {h : xv_H} (e : b158_145 F l4 l6 l8 h = some (r, h')) : xx sc 158 145 [d0, d1, d2, d3, some (.int l4), d5, some (.long l6), d7, some (.int l8), d9] [] h (fun v g => v = some (.long r) ∧ g = h') := by
  unfold b158_145 at e
  refine xo_lload rfl rfl ?_
  refine xo_iload rfl rfl ?_
  refine xo_iconstV (x := 1) rfl (by decide) ?_
  refine xo_iadd rfl ?_
  refine xo_iload rfl rfl ?_
  refine d_static_l (av := [.long l6, .int (l8 + (1 : Int32)), .int l4]) (rest := []) rfl ⟨by decide, by decide, by decide⟩ rfl rfl (by simp [xv_fit, va_rf_cat, cat_int, cat_long, cat_ref, cat_null, show xt_mx 153 = 4 from rfl, show xt_lg 153 = [0] from rfl]) (by simp [xv_room, va_rf_cat, cat_int, cat_long, cat_ref, cat_null]) (fun x0 h1 e1 => t153 e1) e (fun v1 h e => ?_)
  exact d_lret rfl e
def b158_122 (k113 : Int64 → Int32 → Int64 → Int32 → Int32 → xm Int64) (F : Nat) (l0 : Int64) (l4 : Int32) (l6 : Int64) (l8 : Int32) (l9 : Int32) : xm Int64 := mb (m152 F l0 (l9 - (1 : Int32))) fun v1 => mb (m153 F l6 l9 v1) fun v2 => k113 l0 l4 v2 l8 (l9 + (-1 : Int32))
theorem t158_122 {sc : Nat × (Nat → Int32)} {F : Nat} {r : Int64} {h' : xv_H} {k113 : Int64 → Int32 → Int64 → Int32 → Int32 → xm Int64} (hk113 : ∀ (l0 : Int64) (l4 : Int32) (l6 : Int64) (l8 : Int32) (l9 : Int32) (d1 d2 d3 d5 d7 : Option Value) (h : xv_H), k113 l0 l4 l6 l8 l9 h = some (r, h') → xx sc 158 113 [some (.long l0), d1, d2, d3, some (.int l4), d5, some (.long l6), d7, some (.int l8), some (.int l9)] [] h (fun v g => v = some (.long r) ∧ g = h')) {l0 : Int64} {l4 : Int32} {l6 : Int64} {l8 : Int32} {l9 : Int32} {d1 d2 d3 d5 d7 : Option Value} {h : xv_H} (e : b158_122 k113 F l0 l4 l6 l8 l9 h = some (r, h')) : xx sc 158 122 [some (.long l0), d1, d2, d3, some (.int l4), d5, some (.long l6), d7, some (.int l8), some (.int l9)] [] h (fun v g => v = some (.long r) ∧ g = h') := by
  unfold b158_122 at e
  refine xo_lload rfl rfl ?_
  refine xo_iload rfl rfl ?_
  refine xo_lload_n rfl rfl ?_
  refine xo_iload rfl rfl ?_
  refine xo_iconstV (x := 1) rfl (by decide) ?_
  refine xo_isub rfl ?_
  refine d_static_i (av := [.long l0, .int (l9 - (1 : Int32))]) (rest := [.int l9, .long l6]) rfl ⟨by decide, by decide, by decide⟩ rfl rfl (by simp [xv_fit, va_rf_cat, cat_int, cat_long, cat_ref, cat_null, show xt_mx 152 = 3 from rfl, show xt_lg 152 = [0] from rfl]) (by simp [xv_room, va_rf_cat, cat_int, cat_long, cat_ref, cat_null]) (fun x0 h1 e1 => t152 e1) e (fun v1 h e => ?_)
  refine d_static_l (av := [.long l6, .int l9, .int v1]) (rest := []) rfl ⟨by decide, by decide, by decide⟩ rfl rfl (by simp [xv_fit, va_rf_cat, cat_int, cat_long, cat_ref, cat_null, show xt_mx 153 = 4 from rfl, show xt_lg 153 = [0] from rfl]) (by simp [xv_room, va_rf_cat, cat_int, cat_long, cat_ref, cat_null]) (fun x0 h1 e1 => t153 e1) e (fun v2 h e => ?_)
  refine xo_lstore rfl (Nat.le_of_ble_eq_true rfl) rfl rfl ?_
  refine xo_iincV (z := (-1)) rfl (by decide) rfl (Nat.le_of_ble_eq_true rfl) rfl ?_
  refine xo_goto rfl rfl ?_
  exact hk113 _ _ _ _ _ _ _ _ _ _ _ e
def b158_113 (F : Nat) : Nat → Int64 → Int32 → Int64 → Int32 → Int32 → xm Int64
  | 0, _, _, _, _, _ => fun _ => none
  | f + 1, l0, l4, l6, l8, l9 => if l9 ≤ (l8 + (1 : Int32)) then b158_145 F l4 l6 l8 else b158_122 (b158_113 F f) F l0 l4 l6 l8 l9
theorem t158_113 {sc : Nat × (Nat → Int32)} {F : Nat} {r : Int64} {h' : xv_H} : ∀ (f : Nat) (l0 : Int64) (l4 : Int32) (l6 : Int64) (l8 : Int32) (l9 : Int32) (d1 d2 d3 d5 d7 : Option Value) (h : xv_H), b158_113 F f l0 l4 l6 l8 l9 h = some (r, h') → xx sc 158 113 [some (.long l0), d1, d2, d3, some (.int l4), d5, some (.long l6), d7, some (.int l8), some (.int l9)] [] h (fun v g => v = some (.long r) ∧ g = h') := by
  intro f
  induction f with
  | zero => intro l0 l4 l6 l8 l9 d1 d2 d3 d5 d7 h e; cases e
  | succ f ih =>
    intro l0 l4 l6 l8 l9 d1 d2 d3 d5 d7 h e
    unfold b158_113 at e
    refine xo_iload rfl rfl ?_
    refine xo_iload rfl rfl ?_
    refine xo_iconstV (x := 1) rfl (by decide) ?_
    refine xo_iadd rfl ?_
    refine d_icmp_le rfl rfl e (fun _ e => ?_) (fun _ e => ?_)
    · exact t158_145 e
    · exact t158_122 (fun a0 a1 a2 a3 a4 a5 a6 a7 a8 a9 h e => ih a0 a1 a2 a3 a4 a5 a6 a7 a8 a9 h e) e
def b158_105 (F : Nat) (l0 : Int64) (l4 : Int32) (l6 : Int64) (l8 : Int32) : xm Int64 := mb (m146 F l0) fun v1 => b158_113 F F l0 l4 l6 l8 (v1 + (1 : Int32))
theorem t158_105 {sc : Nat × (Nat → Int32)} {F : Nat} {r : Int64} {h' : xv_H} {l0 : Int64} {l4 : Int32} {l6 : Int64} {l8 : Int32} {d1 d2 d3 d5 d7 d9 : Option Value} {h : xv_H} (e : b158_105 F l0 l4 l6 l8 h = some (r, h')) : xx sc 158 105 [some (.long l0), d1, d2, d3, some (.int l4), d5, some (.long l6), d7, some (.int l8), d9] [] h (fun v g => v = some (.long r) ∧ g = h') := by
  unfold b158_105 at e
  refine xo_lload_n rfl rfl ?_
  refine d_static_i (av := [.long l0]) (rest := []) rfl ⟨by decide, by decide, by decide⟩ rfl rfl (by simp [xv_fit, va_rf_cat, cat_int, cat_long, cat_ref, cat_null, show xt_mx 146 = 2 from rfl, show xt_lg 146 = [0] from rfl]) (by simp [xv_room, va_rf_cat, cat_int, cat_long, cat_ref, cat_null]) (fun x0 h1 e1 => t146 e1) e (fun v1 h e => ?_)
  refine xo_iconstV (x := 1) rfl (by decide) ?_
  refine xo_iadd rfl ?_
  refine xo_istore rfl (Nat.le_of_ble_eq_true rfl) rfl ?_
  exact t158_113 F _ _ _ _ _ _ _ _ _ _ _ e
def b158_97 (k75 : Int64 → Int32 → Int32 → Int64 → Int32 → Int32 → xm Int64) (F : Nat) (s0 : Int32) (l0 : Int64) (l3 : Int32) (l4 : Int32) (l6 : Int64) (l9 : Int32) : xm Int64 := k75 l0 l3 l4 l6 s0 (l9 + (-1 : Int32))
theorem t158_97 {sc : Nat × (Nat → Int32)} {F : Nat} {r : Int64} {h' : xv_H} {k75 : Int64 → Int32 → Int32 → Int64 → Int32 → Int32 → xm Int64} (hk75 : ∀ (l0 : Int64) (l3 : Int32) (l4 : Int32) (l6 : Int64) (l8 : Int32) (l9 : Int32) (d1 d2 d5 d7 : Option Value) (h : xv_H), k75 l0 l3 l4 l6 l8 l9 h = some (r, h') → xx sc 158 75 [some (.long l0), d1, d2, some (.int l3), some (.int l4), d5, some (.long l6), d7, some (.int l8), some (.int l9)] [] h (fun v g => v = some (.long r) ∧ g = h')) {s0 : Int32} {l0 : Int64} {l3 : Int32} {l4 : Int32} {l6 : Int64} {l9 : Int32} {d1 d2 d5 d7 d8 : Option Value} {h : xv_H} (e : b158_97 k75 F s0 l0 l3 l4 l6 l9 h = some (r, h')) : xx sc 158 97 [some (.long l0), d1, d2, some (.int l3), some (.int l4), d5, some (.long l6), d7, d8, some (.int l9)] [.int s0] h (fun v g => v = some (.long r) ∧ g = h') := by
  unfold b158_97 at e
  refine xo_istore rfl (Nat.le_of_ble_eq_true rfl) rfl ?_
  refine xo_iincV (z := (-1)) rfl (by decide) rfl (Nat.le_of_ble_eq_true rfl) rfl ?_
  refine xo_goto rfl rfl ?_
  exact hk75 _ _ _ _ _ _ _ _ _ _ _ e
def b158_95 (k75 : Int64 → Int32 → Int32 → Int64 → Int32 → Int32 → xm Int64) (F : Nat) (l0 : Int64) (l3 : Int32) (l4 : Int32) (l6 : Int64) (l8 : Int32) (l9 : Int32) : xm Int64 := b158_97 k75 F l8 l0 l3 l4 l6 l9
theorem t158_95 {sc : Nat × (Nat → Int32)} {F : Nat} {r : Int64} {h' : xv_H} {k75 : Int64 → Int32 → Int32 → Int64 → Int32 → Int32 → xm Int64} (hk75 : ∀ (l0 : Int64) (l3 : Int32) (l4 : Int32) (l6 : Int64) (l8 : Int32) (l9 : Int32) (d1 d2 d5 d7 : Option Value) (h : xv_H), k75 l0 l3 l4 l6 l8 l9 h = some (r, h') → xx sc 158 75 [some (.long l0), d1, d2, some (.int l3), some (.int l4), d5, some (.long l6), d7, some (.int l8), some (.int l9)] [] h (fun v g => v = some (.long r) ∧ g = h')) {l0 : Int64} {l3 : Int32} {l4 : Int32} {l6 : Int64} {l8 : Int32} {l9 : Int32} {d1 d2 d5 d7 : Option Value} {h : xv_H} (e : b158_95 k75 F l0 l3 l4 l6 l8 l9 h = some (r, h')) : xx sc 158 95 [some (.long l0), d1, d2, some (.int l3), some (.int l4), d5, some (.long l6), d7, some (.int l8), some (.int l9)] [] h (fun v g => v = some (.long r) ∧ g = h') := by
  unfold b158_95 at e
  refine xo_iload rfl rfl ?_
  exact t158_97 hk75 e
def b158_90 (k75 : Int64 → Int32 → Int32 → Int64 → Int32 → Int32 → xm Int64) (F : Nat) (l0 : Int64) (l3 : Int32) (l4 : Int32) (l6 : Int64) (l9 : Int32) : xm Int64 := b158_97 k75 F l9 l0 l3 l4 l6 l9
theorem t158_90 {sc : Nat × (Nat → Int32)} {F : Nat} {r : Int64} {h' : xv_H} {k75 : Int64 → Int32 → Int32 → Int64 → Int32 → Int32 → xm Int64} (hk75 : ∀ (l0 : Int64) (l3 : Int32) (l4 : Int32) (l6 : Int64) (l8 : Int32) (l9 : Int32) (d1 d2 d5 d7 : Option Value) (h : xv_H), k75 l0 l3 l4 l6 l8 l9 h = some (r, h') → xx sc 158 75 [some (.long l0), d1, d2, some (.int l3), some (.int l4), d5, some (.long l6), d7, some (.int l8), some (.int l9)] [] h (fun v g => v = some (.long r) ∧ g = h')) {l0 : Int64} {l3 : Int32} {l4 : Int32} {l6 : Int64} {l9 : Int32} {d1 d2 d5 d7 d8 : Option Value} {h : xv_H} (e : b158_90 k75 F l0 l3 l4 l6 l9 h = some (r, h')) : xx sc 158 90 [some (.long l0), d1, d2, some (.int l3), some (.int l4), d5, some (.long l6), d7, d8, some (.int l9)] [] h (fun v g => v = some (.long r) ∧ g = h') := by
  unfold b158_90 at e
  refine xo_iload rfl rfl ?_
  refine xo_goto rfl rfl ?_
  exact t158_97 hk75 e
def b158_80 (k75 : Int64 → Int32 → Int32 → Int64 → Int32 → Int32 → xm Int64) (F : Nat) (l0 : Int64) (l3 : Int32) (l4 : Int32) (l6 : Int64) (l8 : Int32) (l9 : Int32) : xm Int64 := mb (m152 F l0 l9) fun v1 => if ¬ v1 = l3 then b158_95 k75 F l0 l3 l4 l6 l8 l9 else b158_90 k75 F l0 l3 l4 l6 l9
theorem t158_80 {sc : Nat × (Nat → Int32)} {F : Nat} {r : Int64} {h' : xv_H} {k75 : Int64 → Int32 → Int32 → Int64 → Int32 → Int32 → xm Int64} (hk75 : ∀ (l0 : Int64) (l3 : Int32) (l4 : Int32) (l6 : Int64) (l8 : Int32) (l9 : Int32) (d1 d2 d5 d7 : Option Value) (h : xv_H), k75 l0 l3 l4 l6 l8 l9 h = some (r, h') → xx sc 158 75 [some (.long l0), d1, d2, some (.int l3), some (.int l4), d5, some (.long l6), d7, some (.int l8), some (.int l9)] [] h (fun v g => v = some (.long r) ∧ g = h')) {l0 : Int64} {l3 : Int32} {l4 : Int32} {l6 : Int64} {l8 : Int32} {l9 : Int32} {d1 d2 d5 d7 : Option Value} {h : xv_H} (e : b158_80 k75 F l0 l3 l4 l6 l8 l9 h = some (r, h')) : xx sc 158 80 [some (.long l0), d1, d2, some (.int l3), some (.int l4), d5, some (.long l6), d7, some (.int l8), some (.int l9)] [] h (fun v g => v = some (.long r) ∧ g = h') := by
  unfold b158_80 at e
  refine xo_lload_n rfl rfl ?_
  refine xo_iload rfl rfl ?_
  refine d_static_i (av := [.long l0, .int l9]) (rest := []) rfl ⟨by decide, by decide, by decide⟩ rfl rfl (by simp [xv_fit, va_rf_cat, cat_int, cat_long, cat_ref, cat_null, show xt_mx 152 = 3 from rfl, show xt_lg 152 = [0] from rfl]) (by simp [xv_room, va_rf_cat, cat_int, cat_long, cat_ref, cat_null]) (fun x0 h1 e1 => t152 e1) e (fun v1 h e => ?_)
  refine xo_iload_n rfl rfl ?_
  refine d_icmp_ne rfl rfl e (fun _ e => ?_) (fun _ e => ?_)
  · exact t158_95 hk75 e
  · exact t158_90 hk75 e
def b158_75 (F : Nat) : Nat → Int64 → Int32 → Int32 → Int64 → Int32 → Int32 → xm Int64
  | 0, _, _, _, _, _, _ => fun _ => none
  | f + 1, l0, l3, l4, l6, l8, l9 => if l9 < 0 then b158_105 F l0 l4 l6 l8 else b158_80 (b158_75 F f) F l0 l3 l4 l6 l8 l9
theorem t158_75 {sc : Nat × (Nat → Int32)} {F : Nat} {r : Int64} {h' : xv_H} : ∀ (f : Nat) (l0 : Int64) (l3 : Int32) (l4 : Int32) (l6 : Int64) (l8 : Int32) (l9 : Int32) (d1 d2 d5 d7 : Option Value) (h : xv_H), b158_75 F f l0 l3 l4 l6 l8 l9 h = some (r, h') → xx sc 158 75 [some (.long l0), d1, d2, some (.int l3), some (.int l4), d5, some (.long l6), d7, some (.int l8), some (.int l9)] [] h (fun v g => v = some (.long r) ∧ g = h') := by
  intro f
  induction f with
  | zero => intro l0 l3 l4 l6 l8 l9 d1 d2 d5 d7 h e; cases e
  | succ f ih =>
    intro l0 l3 l4 l6 l8 l9 d1 d2 d5 d7 h e
    unfold b158_75 at e
    refine xo_iload rfl rfl ?_
    refine d_if_lt rfl rfl e (fun _ e => ?_) (fun _ e => ?_)
    · exact t158_105 e
    · exact t158_80 (fun a0 a1 a2 a3 a4 a5 a6 a7 a8 a9 h e => ih a0 a1 a2 a3 a4 a5 a6 a7 a8 a9 h e) e
def b158_47 (F : Nat) (l0 : Int64) (l2 : Int32) (l3 : Int32) (l4 : Int32) (l5 : Int32) (l6 : Int64) : xm Int64 := mb (m150 F l6 l5 l2) fun v1 => mb (m146 F l0) fun v2 => mb (m151 F v1 (v2 + (1 : Int32))) fun v3 => mb (m146 F l0) fun v4 => b158_75 F F l0 l3 l4 v3 (0 : Int32) v4
theorem t158_47 {sc : Nat × (Nat → Int32)} {F : Nat} {r : Int64} {h' : xv_H} {l0 : Int64} {l2 : Int32} {l3 : Int32} {l4 : Int32} {l5 : Int32} {l6 : Int64} {d1 d7 d8 d9 : Option Value} {h : xv_H} (e : b158_47 F l0 l2 l3 l4 l5 l6 h = some (r, h')) : xx sc 158 47 [some (.long l0), d1, some (.int l2), some (.int l3), some (.int l4), some (.int l5), some (.long l6), d7, d8, d9] [] h (fun v g => v = some (.long r) ∧ g = h') := by
  unfold b158_47 at e
  refine xo_lload rfl rfl ?_
  refine xo_iload rfl rfl ?_
  refine xo_iload_n rfl rfl ?_
  refine d_static_l (av := [.long l6, .int l5, .int l2]) (rest := []) rfl ⟨by decide, by decide, by decide⟩ rfl rfl (by simp [xv_fit, va_rf_cat, cat_int, cat_long, cat_ref, cat_null, show xt_mx 150 = 4 from rfl, show xt_lg 150 = [0] from rfl]) (by simp [xv_room, va_rf_cat, cat_int, cat_long, cat_ref, cat_null]) (fun x0 h1 e1 => t150 e1) e (fun v1 h e => ?_)
  refine xo_lload_n rfl rfl ?_
  refine d_static_i (av := [.long l0]) (rest := [.long v1]) rfl ⟨by decide, by decide, by decide⟩ rfl rfl (by simp [xv_fit, va_rf_cat, cat_int, cat_long, cat_ref, cat_null, show xt_mx 146 = 2 from rfl, show xt_lg 146 = [0] from rfl]) (by simp [xv_room, va_rf_cat, cat_int, cat_long, cat_ref, cat_null]) (fun x0 h1 e1 => t146 e1) e (fun v2 h e => ?_)
  refine xo_iconstV (x := 1) rfl (by decide) ?_
  refine xo_iadd rfl ?_
  refine d_static_l (av := [.long v1, .int (v2 + (1 : Int32))]) (rest := []) rfl ⟨by decide, by decide, by decide⟩ rfl rfl (by simp [xv_fit, va_rf_cat, cat_int, cat_long, cat_ref, cat_null, show xt_mx 151 = 3 from rfl, show xt_lg 151 = [0] from rfl]) (by simp [xv_room, va_rf_cat, cat_int, cat_long, cat_ref, cat_null]) (fun x0 h1 e1 => t151 e1) e (fun v3 h e => ?_)
  refine xo_lstore rfl (Nat.le_of_ble_eq_true rfl) rfl rfl ?_
  refine xo_iconstV (x := 0) rfl (by decide) ?_
  refine xo_istore rfl (Nat.le_of_ble_eq_true rfl) rfl ?_
  refine xo_lload_n rfl rfl ?_
  refine d_static_i (av := [.long l0]) (rest := []) rfl ⟨by decide, by decide, by decide⟩ rfl rfl (by simp [xv_fit, va_rf_cat, cat_int, cat_long, cat_ref, cat_null, show xt_mx 146 = 2 from rfl, show xt_lg 146 = [0] from rfl]) (by simp [xv_room, va_rf_cat, cat_int, cat_long, cat_ref, cat_null]) (fun x0 h1 e1 => t146 e1) e (fun v4 h e => ?_)
  refine xo_istore rfl (Nat.le_of_ble_eq_true rfl) rfl ?_
  exact t158_75 F _ _ _ _ _ _ _ _ _ _ _ e
def b158_24 (k17 : Int64 → Int32 → Int32 → Int32 → Int32 → Int64 → Int32 → xm Int64) (F : Nat) (l0 : Int64) (l2 : Int32) (l3 : Int32) (l4 : Int32) (l5 : Int32) (l6 : Int64) (l8 : Int32) : xm Int64 := mb (m148 F l0 (l8 - (1 : Int32))) fun v1 => mb (m150 F l6 l8 v1) fun v2 => k17 l0 l2 l3 l4 l5 v2 (l8 + (-1 : Int32))
theorem t158_24 {sc : Nat × (Nat → Int32)} {F : Nat} {r : Int64} {h' : xv_H} {k17 : Int64 → Int32 → Int32 → Int32 → Int32 → Int64 → Int32 → xm Int64} (hk17 : ∀ (l0 : Int64) (l2 : Int32) (l3 : Int32) (l4 : Int32) (l5 : Int32) (l6 : Int64) (l8 : Int32) (d1 d7 d9 : Option Value) (h : xv_H), k17 l0 l2 l3 l4 l5 l6 l8 h = some (r, h') → xx sc 158 17 [some (.long l0), d1, some (.int l2), some (.int l3), some (.int l4), some (.int l5), some (.long l6), d7, some (.int l8), d9] [] h (fun v g => v = some (.long r) ∧ g = h')) {l0 : Int64} {l2 : Int32} {l3 : Int32} {l4 : Int32} {l5 : Int32} {l6 : Int64} {l8 : Int32} {d1 d7 d9 : Option Value} {h : xv_H} (e : b158_24 k17 F l0 l2 l3 l4 l5 l6 l8 h = some (r, h')) : xx sc 158 24 [some (.long l0), d1, some (.int l2), some (.int l3), some (.int l4), some (.int l5), some (.long l6), d7, some (.int l8), d9] [] h (fun v g => v = some (.long r) ∧ g = h') := by
  unfold b158_24 at e
  refine xo_lload rfl rfl ?_
  refine xo_iload rfl rfl ?_
  refine xo_lload_n rfl rfl ?_
  refine xo_iload rfl rfl ?_
  refine xo_iconstV (x := 1) rfl (by decide) ?_
  refine xo_isub rfl ?_
  refine d_static_i (av := [.long l0, .int (l8 - (1 : Int32))]) (rest := [.int l8, .long l6]) rfl ⟨by decide, by decide, by decide⟩ rfl rfl (by simp [xv_fit, va_rf_cat, cat_int, cat_long, cat_ref, cat_null, show xt_mx 148 = 3 from rfl, show xt_lg 148 = [0] from rfl]) (by simp [xv_room, va_rf_cat, cat_int, cat_long, cat_ref, cat_null]) (fun x0 h1 e1 => t148 e1) e (fun v1 h e => ?_)
  refine d_static_l (av := [.long l6, .int l8, .int v1]) (rest := []) rfl ⟨by decide, by decide, by decide⟩ rfl rfl (by simp [xv_fit, va_rf_cat, cat_int, cat_long, cat_ref, cat_null, show xt_mx 150 = 4 from rfl, show xt_lg 150 = [0] from rfl]) (by simp [xv_room, va_rf_cat, cat_int, cat_long, cat_ref, cat_null]) (fun x0 h1 e1 => t150 e1) e (fun v2 h e => ?_)
  refine xo_lstore rfl (Nat.le_of_ble_eq_true rfl) rfl rfl ?_
  refine xo_iincV (z := (-1)) rfl (by decide) rfl (Nat.le_of_ble_eq_true rfl) rfl ?_
  refine xo_goto rfl rfl ?_
  exact hk17 _ _ _ _ _ _ _ _ _ _ _ e
def b158_17 (F : Nat) : Nat → Int64 → Int32 → Int32 → Int32 → Int32 → Int64 → Int32 → xm Int64
  | 0, _, _, _, _, _, _, _ => fun _ => none
  | f + 1, l0, l2, l3, l4, l5, l6, l8 => if l8 ≤ l5 then b158_47 F l0 l2 l3 l4 l5 l6 else b158_24 (b158_17 F f) F l0 l2 l3 l4 l5 l6 l8
theorem t158_17 {sc : Nat × (Nat → Int32)} {F : Nat} {r : Int64} {h' : xv_H} : ∀ (f : Nat) (l0 : Int64) (l2 : Int32) (l3 : Int32) (l4 : Int32) (l5 : Int32) (l6 : Int64) (l8 : Int32) (d1 d7 d9 : Option Value) (h : xv_H), b158_17 F f l0 l2 l3 l4 l5 l6 l8 h = some (r, h') → xx sc 158 17 [some (.long l0), d1, some (.int l2), some (.int l3), some (.int l4), some (.int l5), some (.long l6), d7, some (.int l8), d9] [] h (fun v g => v = some (.long r) ∧ g = h') := by
  intro f
  induction f with
  | zero => intro l0 l2 l3 l4 l5 l6 l8 d1 d7 d9 h e; cases e
  | succ f ih =>
    intro l0 l2 l3 l4 l5 l6 l8 d1 d7 d9 h e
    unfold b158_17 at e
    refine xo_iload rfl rfl ?_
    refine xo_iload rfl rfl ?_
    refine d_icmp_le rfl rfl e (fun _ e => ?_) (fun _ e => ?_)
    · exact t158_47 e
    · exact t158_24 (fun a0 a1 a2 a3 a4 a5 a6 a7 a8 a9 h e => ih a0 a1 a2 a3 a4 a5 a6 a7 a8 a9 h e) e
def b158_0 (F : Nat) (l0 : Int64) (l2 : Int32) (l3 : Int32) (l4 : Int32) : xm Int64 := mb (m159 F l0 l2 (0 : Int32)) fun v1 => mb (m146 F l0) fun v2 => b158_17 F F l0 l2 l3 l4 v1 l0 v2
theorem t158_0 {sc : Nat × (Nat → Int32)} {F : Nat} {r : Int64} {h' : xv_H} {l0 : Int64} {l2 : Int32} {l3 : Int32} {l4 : Int32} {d1 d5 d6 d7 d8 d9 : Option Value} {h : xv_H} (e : b158_0 F l0 l2 l3 l4 h = some (r, h')) : xx sc 158 0 [some (.long l0), d1, some (.int l2), some (.int l3), some (.int l4), d5, d6, d7, d8, d9] [] h (fun v g => v = some (.long r) ∧ g = h') := by
  unfold b158_0 at e
  refine xo_lload_n rfl rfl ?_
  refine xo_iload_n rfl rfl ?_
  refine xo_iconstV (x := 0) rfl (by decide) ?_
  refine d_static_i (av := [.long l0, .int l2, .int (0 : Int32)]) (rest := []) rfl ⟨by decide, by decide, by decide⟩ rfl rfl (by simp [xv_fit, va_rf_cat, cat_int, cat_long, cat_ref, cat_null, show xt_mx 159 = 6 from rfl, show xt_lg 159 = [0] from rfl]) (by simp [xv_room, va_rf_cat, cat_int, cat_long, cat_ref, cat_null]) (fun x0 h1 e1 => t159 e1) e (fun v1 h e => ?_)
  refine xo_istore rfl (Nat.le_of_ble_eq_true rfl) rfl ?_
  refine xo_lload_n rfl rfl ?_
  refine xo_lstore rfl (Nat.le_of_ble_eq_true rfl) rfl rfl ?_
  refine xo_lload_n rfl rfl ?_
  refine d_static_i (av := [.long l0]) (rest := []) rfl ⟨by decide, by decide, by decide⟩ rfl rfl (by simp [xv_fit, va_rf_cat, cat_int, cat_long, cat_ref, cat_null, show xt_mx 146 = 2 from rfl, show xt_lg 146 = [0] from rfl]) (by simp [xv_room, va_rf_cat, cat_int, cat_long, cat_ref, cat_null]) (fun x0 h1 e1 => t146 e1) e (fun v2 h e => ?_)
  refine xo_istore rfl (Nat.le_of_ble_eq_true rfl) rfl ?_
  exact t158_17 F _ _ _ _ _ _ _ _ _ _ _ e
def m158 (F : Nat) (p0 : Int64) (p1 : Int32) (p2 : Int32) (p3 : Int32) : xm Int64 := b158_0 F p0 p1 p2 p3
theorem t158 {sc : Nat × (Nat → Int32)} {F : Nat} {p0 : Int64} {p1 : Int32} {p2 : Int32} {p3 : Int32} {h : xv_H} {r : Int64} {h' : xv_H} (e : m158 F p0 p1 p2 p3 h = some (r, h')) : xr sc 158 [.long p0, .int p1, .int p2, .int p3] h (fun v g => v = some (.long r) ∧ g = h') := by
  have e0 : xv_ent (xt_mx 158) [.long p0, .int p1, .int p2, .int p3] = [some (.long p0), none, some (.int p1), some (.int p2), some (.int p3), none, none, none, none, none] := by simp [xv_ent, xv_sl, va_rf_cat, cat_int, cat_long, cat_ref, cat_null, va_rf_some, show xt_mx 158 = 10 from rfl]
  unfold xr
  rw [e0]
  exact t158_0 e
-- CellTreeModel.ask(I)I
def b161_58 (F : Nat) (l2 : Int32) : xm Int32 := mr l2
theorem t161_58 {sc : Nat × (Nat → Int32)} {F : Nat} {r : Int32} {h' : xv_H} {l2 : Int32} {d0 d1 d3 : Option Value} {h : xv_H} (e : b161_58 F l2 h = some (r, h')) : xx sc 161 58 [d0, d1, some (.int l2), d3] [] h (fun v g => v = some (.int r) ∧ g = h') := by
  unfold b161_58 at e
  refine xo_iload_n rfl rfl ?_
  exact d_iret rfl e
def b161_52 (k4 : Option Nat → Int32 → Int32 → Int32 → xm Int32) (F : Nat) (l0 : Option Nat) (l1 : Int32) (l2 : Int32) (l3 : Int32) : xm Int32 := k4 l0 l1 l2 (l3 + (1 : Int32))
theorem t161_52 {sc : Nat × (Nat → Int32)} {F : Nat} {r : Int32} {h' : xv_H} {k4 : Option Nat → Int32 → Int32 → Int32 → xm Int32} (hk4 : ∀ (l0 : Option Nat) (l1 : Int32) (l2 : Int32) (l3 : Int32) (h : xv_H), k4 l0 l1 l2 l3 h = some (r, h') → xx sc 161 4 [some (va_rf l0), some (.int l1), some (.int l2), some (.int l3)] [] h (fun v g => v = some (.int r) ∧ g = h')) {l0 : Option Nat} {l1 : Int32} {l2 : Int32} {l3 : Int32} {h : xv_H} (e : b161_52 k4 F l0 l1 l2 l3 h = some (r, h')) : xx sc 161 52 [some (va_rf l0), some (.int l1), some (.int l2), some (.int l3)] [] h (fun v g => v = some (.int r) ∧ g = h') := by
  unfold b161_52 at e
  refine xo_iincV (z := 1) rfl (by decide) rfl (Nat.le_of_ble_eq_true rfl) rfl ?_
  refine xo_goto rfl rfl ?_
  exact hk4 _ _ _ _ _ e
def b161_36 (k4 : Option Nat → Int32 → Int32 → Int32 → xm Int32) (F : Nat) (l0 : Option Nat) (l1 : Int32) (l2 : Int32) (l3 : Int32) : xm Int32 := mb (nn l0) fun v1 => mb (gr 934 v1) fun v2 => mb (nn v2) fun v3 => mb (li v3 l1) fun v4 => mb (vc 9 v1) fun _ => mb (m132 F v1 (1 : Int32) v4 l3) fun v5 => b161_52 k4 F (some v1) l1 (l2 + (1 : Int32)) l3
theorem t161_36 {sc : Nat × (Nat → Int32)} {F : Nat} {r : Int32} {h' : xv_H} {k4 : Option Nat → Int32 → Int32 → Int32 → xm Int32} (hk4 : ∀ (l0 : Option Nat) (l1 : Int32) (l2 : Int32) (l3 : Int32) (h : xv_H), k4 l0 l1 l2 l3 h = some (r, h') → xx sc 161 4 [some (va_rf l0), some (.int l1), some (.int l2), some (.int l3)] [] h (fun v g => v = some (.int r) ∧ g = h')) {l0 : Option Nat} {l1 : Int32} {l2 : Int32} {l3 : Int32} {h : xv_H} (e : b161_36 k4 F l0 l1 l2 l3 h = some (r, h')) : xx sc 161 36 [some (va_rf l0), some (.int l1), some (.int l2), some (.int l3)] [] h (fun v g => v = some (.int r) ∧ g = h') := by
  unfold b161_36 at e
  refine xo_aload_nQ (w := l0) rfl rfl ?_
  refine xo_iconstV (x := 1) rfl (by decide) ?_
  refine xo_aload_nQ (w := l0) rfl rfl ?_
  refine d_nn e (fun v1 g e1 => ?_)
  subst g
  replace e := e1
  clear e1
  refine d_getr rfl e (fun v2 e => ?_)
  refine xo_iload_n rfl rfl ?_
  refine d_nn e (fun v3 g e1 => ?_)
  subst g
  replace e := e1
  clear e1
  refine d_iald rfl e (fun v4 e => ?_)
  refine xo_iload_n rfl rfl ?_
  refine d_virtual_i (av := [.int (1 : Int32), .int v4, .int l3]) (rest := []) rfl ⟨by decide, by decide⟩ rfl rfl (by simp [xv_fit, va_rf_cat, cat_int, cat_long, cat_ref, cat_null, show xt_mx 132 = 4 from rfl, show xt_lg 132 = [] from rfl]) (by simp [xv_room, va_rf_cat, cat_int, cat_long, cat_ref, cat_null]) (fun x0 h1 e1 => t132 e1) e (fun v5 h e => ?_)
  refine xo_pop rfl (by first | rfl | exact va_rf_cat _) ?_
  refine xo_iincV (z := 1) rfl (by decide) rfl (Nat.le_of_ble_eq_true rfl) rfl ?_
  exact t161_52 hk4 e
def b161_23 (k4 : Option Nat → Int32 → Int32 → Int32 → xm Int32) (F : Nat) (l0 : Option Nat) (l1 : Int32) (l2 : Int32) (l3 : Int32) : xm Int32 := mb (nn l0) fun v1 => mb (gr 935 v1) fun v2 => mb (nn v2) fun v3 => mb (li v3 l1) fun v4 => if ¬ ((v4 >>> (l3 &&& 31)) &&& (1 : Int32)) = 0 then b161_52 k4 F (some v1) l1 l2 l3 else b161_36 k4 F (some v1) l1 l2 l3
theorem t161_23 {sc : Nat × (Nat → Int32)} {F : Nat} {r : Int32} {h' : xv_H} {k4 : Option Nat → Int32 → Int32 → Int32 → xm Int32} (hk4 : ∀ (l0 : Option Nat) (l1 : Int32) (l2 : Int32) (l3 : Int32) (h : xv_H), k4 l0 l1 l2 l3 h = some (r, h') → xx sc 161 4 [some (va_rf l0), some (.int l1), some (.int l2), some (.int l3)] [] h (fun v g => v = some (.int r) ∧ g = h')) {l0 : Option Nat} {l1 : Int32} {l2 : Int32} {l3 : Int32} {h : xv_H} (e : b161_23 k4 F l0 l1 l2 l3 h = some (r, h')) : xx sc 161 23 [some (va_rf l0), some (.int l1), some (.int l2), some (.int l3)] [] h (fun v g => v = some (.int r) ∧ g = h') := by
  unfold b161_23 at e
  refine xo_aload_nQ (w := l0) rfl rfl ?_
  refine d_nn e (fun v1 g e1 => ?_)
  subst g
  replace e := e1
  clear e1
  refine d_getr rfl e (fun v2 e => ?_)
  refine xo_iload_n rfl rfl ?_
  refine d_nn e (fun v3 g e1 => ?_)
  subst g
  replace e := e1
  clear e1
  refine d_iald rfl e (fun v4 e => ?_)
  refine xo_iload_n rfl rfl ?_
  refine xo_ishr rfl ?_
  refine xo_iconstV (x := 1) rfl (by decide) ?_
  refine xo_iand rfl ?_
  refine d_if_ne rfl rfl e (fun _ e => ?_) (fun _ e => ?_)
  · exact t161_52 hk4 e
  · exact t161_36 hk4 e
def b161_9 (k4 : Option Nat → Int32 → Int32 → Int32 → xm Int32) (F : Nat) (l0 : Option Nat) (l1 : Int32) (l2 : Int32) (l3 : Int32) : xm Int32 := mb (nn l0) fun v1 => mb (gr 934 v1) fun v2 => mb (nn v2) fun v3 => mb (li v3 l1) fun v4 => mb (vc 9 v1) fun _ => mb (m136 F v1 v4 l3) fun v5 => if v5 = 0 then b161_52 k4 F (some v1) l1 l2 l3 else b161_23 k4 F (some v1) l1 l2 l3
theorem t161_9 {sc : Nat × (Nat → Int32)} {F : Nat} {r : Int32} {h' : xv_H} {k4 : Option Nat → Int32 → Int32 → Int32 → xm Int32} (hk4 : ∀ (l0 : Option Nat) (l1 : Int32) (l2 : Int32) (l3 : Int32) (h : xv_H), k4 l0 l1 l2 l3 h = some (r, h') → xx sc 161 4 [some (va_rf l0), some (.int l1), some (.int l2), some (.int l3)] [] h (fun v g => v = some (.int r) ∧ g = h')) {l0 : Option Nat} {l1 : Int32} {l2 : Int32} {l3 : Int32} {h : xv_H} (e : b161_9 k4 F l0 l1 l2 l3 h = some (r, h')) : xx sc 161 9 [some (va_rf l0), some (.int l1), some (.int l2), some (.int l3)] [] h (fun v g => v = some (.int r) ∧ g = h') := by
  unfold b161_9 at e
  refine xo_aload_nQ (w := l0) rfl rfl ?_
  refine xo_aload_nQ (w := l0) rfl rfl ?_
  refine d_nn e (fun v1 g e1 => ?_)
  subst g
  replace e := e1
  clear e1
  refine d_getr rfl e (fun v2 e => ?_)
  refine xo_iload_n rfl rfl ?_
  refine d_nn e (fun v3 g e1 => ?_)
  subst g
  replace e := e1
  clear e1
  refine d_iald rfl e (fun v4 e => ?_)
  refine xo_iload_n rfl rfl ?_
  refine d_virtual_i (av := [.int v4, .int l3]) (rest := []) rfl ⟨by decide, by decide⟩ rfl rfl (by simp [xv_fit, va_rf_cat, cat_int, cat_long, cat_ref, cat_null, show xt_mx 136 = 5 from rfl, show xt_lg 136 = [] from rfl]) (by simp [xv_room, va_rf_cat, cat_int, cat_long, cat_ref, cat_null]) (fun x0 h1 e1 => t136 e1) e (fun v5 h e => ?_)
  refine d_if_eq rfl rfl e (fun _ e => ?_) (fun _ e => ?_)
  · exact t161_52 hk4 e
  · exact t161_23 hk4 e
def b161_4 (F : Nat) : Nat → Option Nat → Int32 → Int32 → Int32 → xm Int32
  | 0, _, _, _, _ => fun _ => none
  | f + 1, l0, l1, l2, l3 => if (3 : Int32) ≤ l3 then b161_58 F l2 else b161_9 (b161_4 F f) F l0 l1 l2 l3
theorem t161_4 {sc : Nat × (Nat → Int32)} {F : Nat} {r : Int32} {h' : xv_H} : ∀ (f : Nat) (l0 : Option Nat) (l1 : Int32) (l2 : Int32) (l3 : Int32) (h : xv_H), b161_4 F f l0 l1 l2 l3 h = some (r, h') → xx sc 161 4 [some (va_rf l0), some (.int l1), some (.int l2), some (.int l3)] [] h (fun v g => v = some (.int r) ∧ g = h') := by
  intro f
  induction f with
  | zero => intro l0 l1 l2 l3 h e; cases e
  | succ f ih =>
    intro l0 l1 l2 l3 h e
    unfold b161_4 at e
    refine xo_iload_n rfl rfl ?_
    refine xo_iconstV (x := 3) rfl (by decide) ?_
    refine d_icmp_ge rfl rfl e (fun _ e => ?_) (fun _ e => ?_)
    · exact t161_58 e
    · exact t161_9 (fun a0 a1 a2 a3 h e => ih a0 a1 a2 a3 h e) e
def b161_0 (F : Nat) (l0 : Option Nat) (l1 : Int32) : xm Int32 := b161_4 F F l0 l1 (0 : Int32) (0 : Int32)
theorem t161_0 {sc : Nat × (Nat → Int32)} {F : Nat} {r : Int32} {h' : xv_H} {l0 : Option Nat} {l1 : Int32} {d2 d3 : Option Value} {h : xv_H} (e : b161_0 F l0 l1 h = some (r, h')) : xx sc 161 0 [some (va_rf l0), some (.int l1), d2, d3] [] h (fun v g => v = some (.int r) ∧ g = h') := by
  unfold b161_0 at e
  refine xo_iconstV (x := 0) rfl (by decide) ?_
  refine xo_istore_n rfl (Nat.le_of_ble_eq_true rfl) rfl ?_
  refine xo_iconstV (x := 0) rfl (by decide) ?_
  refine xo_istore_n rfl (Nat.le_of_ble_eq_true rfl) rfl ?_
  exact t161_4 F _ _ _ _ _ e
def m161 (F : Nat) (this : Nat) (p0 : Int32) : xm Int32 := b161_0 F (some this) p0
theorem t161 {sc : Nat × (Nat → Int32)} {F : Nat} {this : Nat} {p0 : Int32} {h : xv_H} {r : Int32} {h' : xv_H} (e : m161 F this p0 h = some (r, h')) : xr sc 161 [.ref this, .int p0] h (fun v g => v = some (.int r) ∧ g = h') := by
  have e0 : xv_ent (xt_mx 161) [.ref this, .int p0] = [some (va_rf (some this)), some (.int p0), none, none] := by simp [xv_ent, xv_sl, va_rf_cat, cat_int, cat_long, cat_ref, cat_null, va_rf_some, show xt_mx 161 = 4 from rfl]
  unfold xr
  rw [e0]
  exact t161_0 e
-- CellTreeModel.begin(III)V
def b160_0 (F : Nat) (l0 : Option Nat) (l1 : Int32) (l2 : Int32) (l3 : Int32) : xm Unit := mb (nn l0) fun v1 => mb (gi 904 v1) fun v2 => mb (pi_ 904 v1 (v2 + (1 : Int32))) fun _ => mb (gr 905 v1) fun v3 => mb (gi 904 v1) fun v4 => mb (nn v3) fun v5 => mb (si v5 v4 l1) fun _ => mb (gr 906 v1) fun v6 => mb (gi 904 v1) fun v7 => mb (gi 909 v1) fun v8 => mb (nn v6) fun v9 => mb (si v9 v7 (v8 - l2)) fun _ => mb (gr 907 v1) fun v10 => mb (gi 904 v1) fun v11 => mb (nn v10) fun v12 => mb (si v12 v11 l2) fun _ => mb (gr 934 v1) fun v13 => mb (gi 904 v1) fun v14 => mb (nn v13) fun v15 => mb (si v15 l1 v14) fun _ => mb (gr 935 v1) fun v16 => mb (nn v16) fun v17 => mb (si v17 l1 (0 : Int32)) fun _ => mb (gr 936 v1) fun v18 => mb (nn v18) fun v19 => mb (si v19 l1 l3) fun _ => mb (vc 9 v1) fun _ => mb (m161 F v1 l1) fun v20 => mr ()
theorem t160_0 {sc : Nat × (Nat → Int32)} {F : Nat} {r : Unit} {h' : xv_H} {l0 : Option Nat} {l1 : Int32} {l2 : Int32} {l3 : Int32} {h : xv_H} (e : b160_0 F l0 l1 l2 l3 h = some (r, h')) : xx sc 160 0 [some (va_rf l0), some (.int l1), some (.int l2), some (.int l3)] [] h (fun v g => v = none ∧ g = h') := by
  unfold b160_0 at e
  refine xo_aload_nQ (w := l0) rfl rfl ?_
  refine xo_dup rfl (by first | rfl | exact va_rf_cat _) ?_
  refine d_nn e (fun v1 g e1 => ?_)
  subst g
  replace e := e1
  clear e1
  refine d_geti rfl e (fun v2 e => ?_)
  refine xo_iconstV (x := 1) rfl (by decide) ?_
  refine xo_iadd rfl ?_
  refine d_puti rfl e (fun h e => ?_)
  refine xo_aload_nQ (w := (some v1)) rfl rfl ?_
  refine d_getr rfl e (fun v3 e => ?_)
  refine xo_aload_nQ (w := (some v1)) rfl rfl ?_
  refine d_geti rfl e (fun v4 e => ?_)
  refine xo_iload_n rfl rfl ?_
  refine d_nn e (fun v5 g e1 => ?_)
  subst g
  replace e := e1
  clear e1
  refine d_iast rfl e (fun h e => ?_)
  refine xo_aload_nQ (w := (some v1)) rfl rfl ?_
  refine d_getr rfl e (fun v6 e => ?_)
  refine xo_aload_nQ (w := (some v1)) rfl rfl ?_
  refine d_geti rfl e (fun v7 e => ?_)
  refine xo_aload_nQ (w := (some v1)) rfl rfl ?_
  refine d_geti rfl e (fun v8 e => ?_)
  refine xo_iload_n rfl rfl ?_
  refine xo_isub rfl ?_
  refine d_nn e (fun v9 g e1 => ?_)
  subst g
  replace e := e1
  clear e1
  refine d_iast rfl e (fun h e => ?_)
  refine xo_aload_nQ (w := (some v1)) rfl rfl ?_
  refine d_getr rfl e (fun v10 e => ?_)
  refine xo_aload_nQ (w := (some v1)) rfl rfl ?_
  refine d_geti rfl e (fun v11 e => ?_)
  refine xo_iload_n rfl rfl ?_
  refine d_nn e (fun v12 g e1 => ?_)
  subst g
  replace e := e1
  clear e1
  refine d_iast rfl e (fun h e => ?_)
  refine xo_aload_nQ (w := (some v1)) rfl rfl ?_
  refine d_getr rfl e (fun v13 e => ?_)
  refine xo_iload_n rfl rfl ?_
  refine xo_aload_nQ (w := (some v1)) rfl rfl ?_
  refine d_geti rfl e (fun v14 e => ?_)
  refine d_nn e (fun v15 g e1 => ?_)
  subst g
  replace e := e1
  clear e1
  refine d_iast rfl e (fun h e => ?_)
  refine xo_aload_nQ (w := (some v1)) rfl rfl ?_
  refine d_getr rfl e (fun v16 e => ?_)
  refine xo_iload_n rfl rfl ?_
  refine xo_iconstV (x := 0) rfl (by decide) ?_
  refine d_nn e (fun v17 g e1 => ?_)
  subst g
  replace e := e1
  clear e1
  refine d_iast rfl e (fun h e => ?_)
  refine xo_aload_nQ (w := (some v1)) rfl rfl ?_
  refine d_getr rfl e (fun v18 e => ?_)
  refine xo_iload_n rfl rfl ?_
  refine xo_iload_n rfl rfl ?_
  refine d_nn e (fun v19 g e1 => ?_)
  subst g
  replace e := e1
  clear e1
  refine d_iast rfl e (fun h e => ?_)
  refine xo_aload_nQ (w := (some v1)) rfl rfl ?_
  refine xo_iload_n rfl rfl ?_
  refine d_virtual_i (av := [.int l1]) (rest := []) rfl ⟨by decide, by decide⟩ rfl rfl (by simp [xv_fit, va_rf_cat, cat_int, cat_long, cat_ref, cat_null, show xt_mx 161 = 4 from rfl, show xt_lg 161 = [] from rfl]) (by simp [xv_room, va_rf_cat, cat_int, cat_long, cat_ref, cat_null]) (fun x0 h1 e1 => t161 e1) e (fun v20 h e => ?_)
  refine xo_pop rfl (by first | rfl | exact va_rf_cat _) ?_
  exact d_ret rfl e
def m160 (F : Nat) (this : Nat) (p0 : Int32) (p1 : Int32) (p2 : Int32) : xm Unit := b160_0 F (some this) p0 p1 p2
theorem t160 {sc : Nat × (Nat → Int32)} {F : Nat} {this : Nat} {p0 : Int32} {p1 : Int32} {p2 : Int32} {h : xv_H} {r : Unit} {h' : xv_H} (e : m160 F this p0 p1 p2 h = some (r, h')) : xr sc 160 [.ref this, .int p0, .int p1, .int p2] h (fun v g => v = none ∧ g = h') := by
  have e0 : xv_ent (xt_mx 160) [.ref this, .int p0, .int p1, .int p2] = [some (va_rf (some this)), some (.int p0), some (.int p1), some (.int p2)] := by simp [xv_ent, xv_sl, va_rf_cat, cat_int, cat_long, cat_ref, cat_null, va_rf_some, show xt_mx 160 = 4 from rfl]
  unfold xr
  rw [e0]
  exact t160_0 e
