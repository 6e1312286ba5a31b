-- CellTreeModel.remembers(II)I
def b187_35 (F : Nat) (s0 : Int32) : xm Int32 := mr s0
theorem t187_35 {sc : Nat × (Nat → Int32)} {F : Nat} {r : Int32} {h' : xv_H} {s0 : Int32} {d0 d1 d2 : Option Value} {h : xv_H} (e : b187_35 F s0 h = some (r, h')) : xx sc 187 35 [d0, d1, d2] [.int s0] h (fun v g => v = some (.int r) ∧ g = h') := by
  unfold b187_35 at e
  exact d_iret rfl e
def b187_34 (F : Nat) : xm Int32 := b187_35 F (-1 : Int32)
theorem t187_34 {sc : Nat × (Nat → Int32)} {F : Nat} {r : Int32} {h' : xv_H} {d0 d1 d2 : Option Value} {h : xv_H} (e : b187_34 F h = some (r, h')) : xx sc 187 34 [d0, d1, d2] [] h (fun v g => v = some (.int r) ∧ g = h') := by
  unfold b187_34 at e
  refine xo_iconstV (x := (-1)) rfl (by decide) ?_
  exact t187_35 e
def b187_21 (F : Nat) (l0 : Option Nat) (l1 : Int32) (l2 : Int32) : xm Int32 := mb (nn l0) fun v1 => mb (gr 908 v1) fun v2 => mb (nn v2) fun v3 => mb (lb v3 (((3 : Int32) * l2) + l1)) fun v4 => b187_35 F v4
theorem t187_21 {sc : Nat × (Nat → Int32)} {F : Nat} {r : Int32} {h' : xv_H} {l0 : Option Nat} {l1 : Int32} {l2 : Int32} {h : xv_H} (e : b187_21 F l0 l1 l2 h = some (r, h')) : xx sc 187 21 [some (va_rf l0), some (.int l1), some (.int l2)] [] h (fun v g => v = some (.int r) ∧ g = h') := by
  unfold b187_21 at e
  refine xo_aload_nQ (w := l0) rfl rfl ?_
  refine d_nn e (fun v1 g e1 => ?_)
  subst g
  replace e := e1
  clear e1
  refine d_getr rfl e (fun v2 e => ?_)
  refine xo_iconstV (x := 3) rfl (by decide) ?_
  refine xo_iload_n rfl rfl ?_
  refine xo_imul rfl ?_
  refine xo_iload_n rfl rfl ?_
  refine xo_iadd rfl ?_
  refine d_nn e (fun v3 g e1 => ?_)
  subst g
  replace e := e1
  clear e1
  refine d_bald rfl e (fun v4 e => ?_)
  refine xo_goto rfl rfl ?_
  exact t187_35 e
def b187_9 (F : Nat) (l0 : Option Nat) (l1 : Int32) (l2 : Int32) : xm Int32 := mb (nn l0) fun v1 => mb (gi 904 v1) fun v2 => mb (m127 F l2 (1 : Int32) v2) fun v3 => if v3 = 0 then b187_34 F else b187_21 F (some v1) l1 l2
theorem t187_9 {sc : Nat × (Nat → Int32)} {F : Nat} {r : Int32} {h' : xv_H} {l0 : Option Nat} {l1 : Int32} {l2 : Int32} {h : xv_H} (e : b187_9 F l0 l1 l2 h = some (r, h')) : xx sc 187 9 [some (va_rf l0), some (.int l1), some (.int l2)] [] h (fun v g => v = some (.int r) ∧ g = h') := by
  unfold b187_9 at e
  refine xo_iload_n rfl rfl ?_
  refine xo_iconstV (x := 1) rfl (by decide) ?_
  refine xo_aload_nQ (w := l0) rfl rfl ?_
  refine d_nn e (fun v1 g e1 => ?_)
  subst g
  replace e := e1
  clear e1
  refine d_geti rfl e (fun v2 e => ?_)
  refine d_static_i (av := [.int l2, .int (1 : Int32), .int v2]) (rest := []) rfl ⟨by decide, by decide, by decide⟩ rfl rfl (by simp [xv_fit, va_rf_cat, cat_int, cat_long, cat_ref, cat_null, show xt_mx 127 = 3 from rfl, show xt_lg 127 = [] from rfl]) (by simp [xv_room, va_rf_cat, cat_int, cat_long, cat_ref, cat_null]) (fun x0 h1 e1 => t127 e1) e (fun v3 h e => ?_)
  refine d_if_eq rfl rfl e (fun _ e => ?_) (fun _ e => ?_)
  · exact t187_34 e
  · exact t187_21 e
def b187_0 (F : Nat) (l0 : Option Nat) (l1 : Int32) (l2 : Int32) : xm Int32 := mb (m127 F l1 (0 : Int32) (2 : Int32)) fun v1 => if v1 = 0 then b187_34 F else b187_9 F l0 l1 l2
theorem t187_0 {sc : Nat × (Nat → Int32)} {F : Nat} {r : Int32} {h' : xv_H} {l0 : Option Nat} {l1 : Int32} {l2 : Int32} {h : xv_H} (e : b187_0 F l0 l1 l2 h = some (r, h')) : xx sc 187 0 [some (va_rf l0), some (.int l1), some (.int l2)] [] h (fun v g => v = some (.int r) ∧ g = h') := by
  unfold b187_0 at e
  refine xo_iload_n rfl rfl ?_
  refine xo_iconstV (x := 0) rfl (by decide) ?_
  refine xo_iconstV (x := 2) rfl (by decide) ?_
  refine d_static_i (av := [.int l1, .int (0 : Int32), .int (2 : Int32)]) (rest := []) rfl ⟨by decide, by decide, by decide⟩ rfl rfl (by simp [xv_fit, va_rf_cat, cat_int, cat_long, cat_ref, cat_null, show xt_mx 127 = 3 from rfl, show xt_lg 127 = [] from rfl]) (by simp [xv_room, va_rf_cat, cat_int, cat_long, cat_ref, cat_null]) (fun x0 h1 e1 => t127 e1) e (fun v1 h e => ?_)
  refine d_if_eq rfl rfl e (fun _ e => ?_) (fun _ e => ?_)
  · exact t187_34 e
  · exact t187_9 e
def m187 (F : Nat) (this : Nat) (p0 : Int32) (p1 : Int32) : xm Int32 := b187_0 F (some this) p0 p1
theorem t187 {sc : Nat × (Nat → Int32)} {F : Nat} {this : Nat} {p0 : Int32} {p1 : Int32} {h : xv_H} {r : Int32} {h' : xv_H} (e : m187 F this p0 p1 h = some (r, h')) : xr sc 187 [.ref this, .int p0, .int p1] h (fun v g => v = some (.int r) ∧ g = h') := by
  have e0 : xv_ent (xt_mx 187) [.ref this, .int p0, .int p1] = [some (va_rf (some this)), some (.int p0), some (.int p1)] := by simp [xv_ent, xv_sl, va_rf_cat, cat_int, cat_long, cat_ref, cat_null, va_rf_some, show xt_mx 187 = 3 from rfl]
  unfold xr
  rw [e0]
  exact t187_0 e
