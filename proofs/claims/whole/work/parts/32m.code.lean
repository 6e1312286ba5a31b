-- CellTreeModel.start(IIIII)V
def b174_0 (F : Nat) (l0 : Option Nat) (l1 : Int32) (l2 : Int32) (l3 : Int32) (l4 : Int32) (l5 : Int32) : xm Unit := mb (nn l0) fun v1 => mb (gr 925 v1) fun v2 => mb (nn v2) fun v3 => mb (si v3 l1 l2) fun _ => mb (gr 926 v1) fun v4 => mb (nn v4) fun v5 => mb (si v5 l1 (1 : Int32)) fun _ => mb (gr 927 v1) fun v6 => mb (nn v6) fun v7 => mb (si v7 l1 (10 : Int32)) fun _ => mb (gr 929 v1) fun v8 => mb (nn v8) fun v9 => mb (si v9 l1 l3) fun _ => mb (gr 930 v1) fun v10 => mb (nn v10) fun v11 => mb (si v11 l1 l4) fun _ => mb (gr 931 v1) fun v12 => mb (nn v12) fun v13 => mb (si v13 l1 l5) fun _ => mb (vc 9 v1) fun _ => mb (m141 F v1 l1) fun _ => mr ()
theorem t174_0 {sc : Nat × (Nat → Int32)} {F : Nat} {r : Unit} {h' : xv_H} {l0 : Option Nat} {l1 : Int32} {l2 : Int32} {l3 : Int32} {l4 : Int32} {l5 : Int32} {h : xv_H} (e : b174_0 F l0 l1 l2 l3 l4 l5 h = some (r, h')) : xx sc 174 0 [some (va_rf l0), some (.int l1), some (.int l2), some (.int l3), some (.int l4), some (.int l5)] [] h (fun v g => v = none ∧ g = h') := by
  unfold b174_0 at e
  refine xo_aload_nQ (w := l0) rfl rfl ?_
  refine d_nn e (fun v1 g e1 => ?_)
  subst g
  replace e := e1
  clear e1
  refine d_getr rfl e (fun v2 e => ?_)
  refine xo_iload_n rfl rfl ?_
  refine xo_iload_n rfl rfl ?_
  refine d_nn e (fun v3 g e1 => ?_)
  subst g
  replace e := e1
  clear e1
  refine d_iast rfl e (fun h e => ?_)
  refine xo_aload_nQ (w := (some v1)) rfl rfl ?_
  refine d_getr rfl e (fun v4 e => ?_)
  refine xo_iload_n rfl rfl ?_
  refine xo_iconstV (x := 1) rfl (by decide) ?_
  refine d_nn e (fun v5 g e1 => ?_)
  subst g
  replace e := e1
  clear e1
  refine d_iast rfl e (fun h e => ?_)
  refine xo_aload_nQ (w := (some v1)) rfl rfl ?_
  refine d_getr rfl e (fun v6 e => ?_)
  refine xo_iload_n rfl rfl ?_
  refine xo_bipushV (x := 10) rfl (by decide) ?_
  refine d_nn e (fun v7 g e1 => ?_)
  subst g
  replace e := e1
  clear e1
  refine d_iast rfl e (fun h e => ?_)
  refine xo_aload_nQ (w := (some v1)) rfl rfl ?_
  refine d_getr rfl e (fun v8 e => ?_)
  refine xo_iload_n rfl rfl ?_
  refine xo_iload_n rfl rfl ?_
  refine d_nn e (fun v9 g e1 => ?_)
  subst g
  replace e := e1
  clear e1
  refine d_iast rfl e (fun h e => ?_)
  refine xo_aload_nQ (w := (some v1)) rfl rfl ?_
  refine d_getr rfl e (fun v10 e => ?_)
  refine xo_iload_n rfl rfl ?_
  refine xo_iload rfl rfl ?_
  refine d_nn e (fun v11 g e1 => ?_)
  subst g
  replace e := e1
  clear e1
  refine d_iast rfl e (fun h e => ?_)
  refine xo_aload_nQ (w := (some v1)) rfl rfl ?_
  refine d_getr rfl e (fun v12 e => ?_)
  refine xo_iload_n rfl rfl ?_
  refine xo_iload rfl rfl ?_
  refine d_nn e (fun v13 g e1 => ?_)
  subst g
  replace e := e1
  clear e1
  refine d_iast rfl e (fun h e => ?_)
  refine xo_aload_nQ (w := (some v1)) rfl rfl ?_
  refine xo_iload_n rfl rfl ?_
  refine d_virtual_v (av := [.int l1]) (rest := []) rfl ⟨by decide, by decide⟩ rfl rfl (by simp [xv_fit, va_rf_cat, cat_int, cat_long, cat_ref, cat_null, show xt_mx 141 = 2 from rfl, show xt_lg 141 = [] from rfl]) (by simp [xv_room, va_rf_cat, cat_int, cat_long, cat_ref, cat_null]) (fun x0 h1 e1 => t141 e1) e (fun _ h e => ?_)
  exact d_ret rfl e
def m174 (F : Nat) (this : Nat) (p0 : Int32) (p1 : Int32) (p2 : Int32) (p3 : Int32) (p4 : Int32) : xm Unit := b174_0 F (some this) p0 p1 p2 p3 p4
theorem t174 {sc : Nat × (Nat → Int32)} {F : Nat} {this : Nat} {p0 : Int32} {p1 : Int32} {p2 : Int32} {p3 : Int32} {p4 : Int32} {h : xv_H} {r : Unit} {h' : xv_H} (e : m174 F this p0 p1 p2 p3 p4 h = some (r, h')) : xr sc 174 [.ref this, .int p0, .int p1, .int p2, .int p3, .int p4] h (fun v g => v = none ∧ g = h') := by
  have e0 : xv_ent (xt_mx 174) [.ref this, .int p0, .int p1, .int p2, .int p3, .int p4] = [some (va_rf (some this)), some (.int p0), some (.int p1), some (.int p2), some (.int p3), some (.int p4)] := by simp [xv_ent, xv_sl, va_rf_cat, cat_int, cat_long, cat_ref, cat_null, va_rf_some, show xt_mx 174 = 6 from rfl]
  unfold xr
  rw [e0]
  exact t174_0 e
-- CellTreeModel.get(II)Z
def b172_20 (F : Nat) (l0 : Option Nat) (l1 : Int32) (l2 : Int32) : xm Int32 := mb (nn l0) fun v1 => mb (vc 9 v1) fun _ => mb (m174 F v1 l1 (1 : Int32) l2 l2 (0 : Int32)) fun _ => mb (bz (1 : Int32)) fun _ => mr (1 : Int32)
theorem t172_20 {sc : Nat × (Nat → Int32)} {F : Nat} {r : Int32} {h' : xv_H} {l0 : Option Nat} {l1 : Int32} {l2 : Int32} {h : xv_H} (e : b172_20 F l0 l1 l2 h = some (r, h')) : xx sc 172 20 [some (va_rf l0), some (.int l1), some (.int l2)] [] h (fun v g => v = some (.int r) ∧ g = h') := by
  unfold b172_20 at e
  refine xo_aload_nQ (w := l0) rfl rfl ?_
  refine xo_iload_n rfl rfl ?_
  refine xo_iconstV (x := 1) rfl (by decide) ?_
  refine xo_iload_n rfl rfl ?_
  refine xo_iload_n rfl rfl ?_
  refine xo_iconstV (x := 0) rfl (by decide) ?_
  refine d_nn e (fun v1 g e1 => ?_)
  subst g
  replace e := e1
  clear e1
  refine d_virtual_v (av := [.int l1, .int (1 : Int32), .int l2, .int l2, .int (0 : Int32)]) (rest := []) rfl ⟨by decide, by decide⟩ rfl rfl (by simp [xv_fit, va_rf_cat, cat_int, cat_long, cat_ref, cat_null, show xt_mx 174 = 6 from rfl, show xt_lg 174 = [] from rfl]) (by simp [xv_room, va_rf_cat, cat_int, cat_long, cat_ref, cat_null]) (fun x0 h1 e1 => t174 e1) e (fun _ h e => ?_)
  refine xo_iconstV (x := 1) rfl (by decide) ?_
  exact d_zret rfl e
def b172_18 (F : Nat) : xm Int32 := mb (bz (0 : Int32)) fun _ => mr (0 : Int32)
theorem t172_18 {sc : Nat × (Nat → Int32)} {F : Nat} {r : Int32} {h' : xv_H} {d0 d1 d2 : Option Value} {h : xv_H} (e : b172_18 F h = some (r, h')) : xx sc 172 18 [d0, d1, d2] [] h (fun v g => v = some (.int r) ∧ g = h') := by
  unfold b172_18 at e
  refine xo_iconstV (x := 0) rfl (by decide) ?_
  exact d_zret rfl e
def b172_8 (F : Nat) (l0 : Option Nat) (l1 : Int32) (l2 : Int32) : xm Int32 := mb (m127 F l2 (0 : Int32) (99 : Int32)) fun v1 => if ¬ v1 = 0 then b172_20 F l0 l1 l2 else b172_18 F
theorem t172_8 {sc : Nat × (Nat → Int32)} {F : Nat} {r : Int32} {h' : xv_H} {l0 : Option Nat} {l1 : Int32} {l2 : Int32} {h : xv_H} (e : b172_8 F l0 l1 l2 h = some (r, h')) : xx sc 172 8 [some (va_rf l0), some (.int l1), some (.int l2)] [] h (fun v g => v = some (.int r) ∧ g = h') := by
  unfold b172_8 at e
  refine xo_iload_n rfl rfl ?_
  refine xo_iconstV (x := 0) rfl (by decide) ?_
  refine xo_bipushV (x := 99) rfl (by decide) ?_
  refine d_static_i (av := [.int l2, .int (0 : Int32), .int (99 : Int32)]) (rest := []) rfl ⟨by decide, by decide, by decide⟩ rfl rfl (by simp [xv_fit, va_rf_cat, cat_int, cat_long, cat_ref, cat_null, show xt_mx 127 = 3 from rfl, show xt_lg 127 = [] from rfl]) (by simp [xv_room, va_rf_cat, cat_int, cat_long, cat_ref, cat_null]) (fun x0 h1 e1 => t127 e1) e (fun v1 h e => ?_)
  refine d_if_ne rfl rfl e (fun _ e => ?_) (fun _ e => ?_)
  · exact t172_20 e
  · exact t172_18 e
def b172_0 (F : Nat) (l0 : Option Nat) (l1 : Int32) (l2 : Int32) : xm Int32 := mb (nn l0) fun v1 => mb (vc 9 v1) fun _ => mb (m173 F v1 l1) fun v2 => if v2 = 0 then b172_18 F else b172_8 F (some v1) l1 l2
theorem t172_0 {sc : Nat × (Nat → Int32)} {F : Nat} {r : Int32} {h' : xv_H} {l0 : Option Nat} {l1 : Int32} {l2 : Int32} {h : xv_H} (e : b172_0 F l0 l1 l2 h = some (r, h')) : xx sc 172 0 [some (va_rf l0), some (.int l1), some (.int l2)] [] h (fun v g => v = some (.int r) ∧ g = h') := by
  unfold b172_0 at e
  refine xo_aload_nQ (w := l0) rfl rfl ?_
  refine xo_iload_n rfl rfl ?_
  refine d_nn e (fun v1 g e1 => ?_)
  subst g
  replace e := e1
  clear e1
  refine d_virtual_i (av := [.int l1]) (rest := []) rfl ⟨by decide, by decide⟩ rfl rfl (by simp [xv_fit, va_rf_cat, cat_int, cat_long, cat_ref, cat_null, show xt_mx 173 = 2 from rfl, show xt_lg 173 = [] from rfl]) (by simp [xv_room, va_rf_cat, cat_int, cat_long, cat_ref, cat_null]) (fun x0 h1 e1 => t173 e1) e (fun v2 h e => ?_)
  refine d_if_eq rfl rfl e (fun _ e => ?_) (fun _ e => ?_)
  · exact t172_18 e
  · exact t172_8 e
def m172 (F : Nat) (this : Nat) (p0 : Int32) (p1 : Int32) : xm Int32 := b172_0 F (some this) p0 p1
theorem t172 {sc : Nat × (Nat → Int32)} {F : Nat} {this : Nat} {p0 : Int32} {p1 : Int32} {h : xv_H} {r : Int32} {h' : xv_H} (e : m172 F this p0 p1 h = some (r, h')) : xr sc 172 [.ref this, .int p0, .int p1] h (fun v g => v = some (.int r) ∧ g = h') := by
  have e0 : xv_ent (xt_mx 172) [.ref this, .int p0, .int p1] = [some (va_rf (some this)), some (.int p0), some (.int p1)] := by simp [xv_ent, xv_sl, va_rf_cat, cat_int, cat_long, cat_ref, cat_null, va_rf_some, show xt_mx 172 = 3 from rfl]
  unfold xr
  rw [e0]
  exact t172_0 e
-- CellTreeModel.put(III)Z
def b175_20 (F : Nat) (l0 : Option Nat) (l1 : Int32) (l2 : Int32) (l3 : Int32) : xm Int32 := mb (nn l0) fun v1 => mb (vc 9 v1) fun _ => mb (m174 F v1 l1 (2 : Int32) l2 l2 l3) fun _ => mb (bz (1 : Int32)) fun _ => mr (1 : Int32)
theorem t175_20 {sc : Nat × (Nat → Int32)} {F : Nat} {r : Int32} {h' : xv_H} {l0 : Option Nat} {l1 : Int32} {l2 : Int32} {l3 : Int32} {h : xv_H} (e : b175_20 F l0 l1 l2 l3 h = some (r, h')) : xx sc 175 20 [some (va_rf l0), some (.int l1), some (.int l2), some (.int l3)] [] h (fun v g => v = some (.int r) ∧ g = h') := by
  unfold b175_20 at e
  refine xo_aload_nQ (w := l0) rfl rfl ?_
  refine xo_iload_n rfl rfl ?_
  refine xo_iconstV (x := 2) rfl (by decide) ?_
  refine xo_iload_n rfl rfl ?_
  refine xo_iload_n rfl rfl ?_
  refine xo_iload_n rfl rfl ?_
  refine d_nn e (fun v1 g e1 => ?_)
  subst g
  replace e := e1
  clear e1
  refine d_virtual_v (av := [.int l1, .int (2 : Int32), .int l2, .int l2, .int l3]) (rest := []) rfl ⟨by decide, by decide⟩ rfl rfl (by simp [xv_fit, va_rf_cat, cat_int, cat_long, cat_ref, cat_null, show xt_mx 174 = 6 from rfl, show xt_lg 174 = [] from rfl]) (by simp [xv_room, va_rf_cat, cat_int, cat_long, cat_ref, cat_null]) (fun x0 h1 e1 => t174 e1) e (fun _ h e => ?_)
  refine xo_iconstV (x := 1) rfl (by decide) ?_
  exact d_zret rfl e
def b175_18 (F : Nat) : xm Int32 := mb (bz (0 : Int32)) fun _ => mr (0 : Int32)
theorem t175_18 {sc : Nat × (Nat → Int32)} {F : Nat} {r : Int32} {h' : xv_H} {d0 d1 d2 d3 : Option Value} {h : xv_H} (e : b175_18 F h = some (r, h')) : xx sc 175 18 [d0, d1, d2, d3] [] h (fun v g => v = some (.int r) ∧ g = h') := by
  unfold b175_18 at e
  refine xo_iconstV (x := 0) rfl (by decide) ?_
  exact d_zret rfl e
def b175_8 (F : Nat) (l0 : Option Nat) (l1 : Int32) (l2 : Int32) (l3 : Int32) : xm Int32 := mb (m127 F l2 (0 : Int32) (99 : Int32)) fun v1 => if ¬ v1 = 0 then b175_20 F l0 l1 l2 l3 else b175_18 F
theorem t175_8 {sc : Nat × (Nat → Int32)} {F : Nat} {r : Int32} {h' : xv_H} {l0 : Option Nat} {l1 : Int32} {l2 : Int32} {l3 : Int32} {h : xv_H} (e : b175_8 F l0 l1 l2 l3 h = some (r, h')) : xx sc 175 8 [some (va_rf l0), some (.int l1), some (.int l2), some (.int l3)] [] h (fun v g => v = some (.int r) ∧ g = h') := by
  unfold b175_8 at e
  refine xo_iload_n rfl rfl ?_
  refine xo_iconstV (x := 0) rfl (by decide) ?_
  refine xo_bipushV (x := 99) rfl (by decide) ?_
  refine d_static_i (av := [.int l2, .int (0 : Int32), .int (99 : Int32)]) (rest := []) rfl ⟨by decide, by decide, by decide⟩ rfl rfl (by simp [xv_fit, va_rf_cat, cat_int, cat_long, cat_ref, cat_null, show xt_mx 127 = 3 from rfl, show xt_lg 127 = [] from rfl]) (by simp [xv_room, va_rf_cat, cat_int, cat_long, cat_ref, cat_null]) (fun x0 h1 e1 => t127 e1) e (fun v1 h e => ?_)
  refine d_if_ne rfl rfl e (fun _ e => ?_) (fun _ e => ?_)
  · exact t175_20 e
  · exact t175_18 e
def b175_0 (F : Nat) (l0 : Option Nat) (l1 : Int32) (l2 : Int32) (l3 : Int32) : xm Int32 := mb (nn l0) fun v1 => mb (vc 9 v1) fun _ => mb (m173 F v1 l1) fun v2 => if v2 = 0 then b175_18 F else b175_8 F (some v1) l1 l2 l3
theorem t175_0 {sc : Nat × (Nat → Int32)} {F : Nat} {r : Int32} {h' : xv_H} {l0 : Option Nat} {l1 : Int32} {l2 : Int32} {l3 : Int32} {h : xv_H} (e : b175_0 F l0 l1 l2 l3 h = some (r, h')) : xx sc 175 0 [some (va_rf l0), some (.int l1), some (.int l2), some (.int l3)] [] h (fun v g => v = some (.int r) ∧ g = h') := by
  unfold b175_0 at e
  refine xo_aload_nQ (w := l0) rfl rfl ?_
  refine xo_iload_n rfl rfl ?_
  refine d_nn e (fun v1 g e1 => ?_)
  subst g
  replace e := e1
  clear e1
  refine d_virtual_i (av := [.int l1]) (rest := []) rfl ⟨by decide, by decide⟩ rfl rfl (by simp [xv_fit, va_rf_cat, cat_int, cat_long, cat_ref, cat_null, show xt_mx 173 = 2 from rfl, show xt_lg 173 = [] from rfl]) (by simp [xv_room, va_rf_cat, cat_int, cat_long, cat_ref, cat_null]) (fun x0 h1 e1 => t173 e1) e (fun v2 h e => ?_)
  refine d_if_eq rfl rfl e (fun _ e => ?_) (fun _ e => ?_)
  · exact t175_18 e
  · exact t175_8 e
def m175 (F : Nat) (this : Nat) (p0 : Int32) (p1 : Int32) (p2 : Int32) : xm Int32 := b175_0 F (some this) p0 p1 p2
theorem t175 {sc : Nat × (Nat → Int32)} {F : Nat} {this : Nat} {p0 : Int32} {p1 : Int32} {p2 : Int32} {h : xv_H} {r : Int32} {h' : xv_H} (e : m175 F this p0 p1 p2 h = some (r, h')) : xr sc 175 [.ref this, .int p0, .int p1, .int p2] h (fun v g => v = some (.int r) ∧ g = h') := by
  have e0 : xv_ent (xt_mx 175) [.ref this, .int p0, .int p1, .int p2] = [some (va_rf (some this)), some (.int p0), some (.int p1), some (.int p2)] := by simp [xv_ent, xv_sl, va_rf_cat, cat_int, cat_long, cat_ref, cat_null, va_rf_some, show xt_mx 175 = 4 from rfl]
  unfold xr
  rw [e0]
  exact t175_0 e
-- CellTreeModel.remove(II)Z
def b176_20 (F : Nat) (l0 : Option Nat) (l1 : Int32) (l2 : Int32) : xm Int32 := mb (nn l0) fun v1 => mb (vc 9 v1) fun _ => mb (m174 F v1 l1 (3 : Int32) l2 l2 (0 : Int32)) fun _ => mb (bz (1 : Int32)) fun _ => mr (1 : Int32)
theorem t176_20 {sc : Nat × (Nat → Int32)} {F : Nat} {r : Int32} {h' : xv_H} {l0 : Option Nat} {l1 : Int32} {l2 : Int32} {h : xv_H} (e : b176_20 F l0 l1 l2 h = some (r, h')) : xx sc 176 20 [some (va_rf l0), some (.int l1), some (.int l2)] [] h (fun v g => v = some (.int r) ∧ g = h') := by
  unfold b176_20 at e
  refine xo_aload_nQ (w := l0) rfl rfl ?_
  refine xo_iload_n rfl rfl ?_
  refine xo_iconstV (x := 3) rfl (by decide) ?_
  refine xo_iload_n rfl rfl ?_
  refine xo_iload_n rfl rfl ?_
  refine xo_iconstV (x := 0) rfl (by decide) ?_
  refine d_nn e (fun v1 g e1 => ?_)
  subst g
  replace e := e1
  clear e1
  refine d_virtual_v (av := [.int l1, .int (3 : Int32), .int l2, .int l2, .int (0 : Int32)]) (rest := []) rfl ⟨by decide, by decide⟩ rfl rfl (by simp [xv_fit, va_rf_cat, cat_int, cat_long, cat_ref, cat_null, show xt_mx 174 = 6 from rfl, show xt_lg 174 = [] from rfl]) (by simp [xv_room, va_rf_cat, cat_int, cat_long, cat_ref, cat_null]) (fun x0 h1 e1 => t174 e1) e (fun _ h e => ?_)
  refine xo_iconstV (x := 1) rfl (by decide) ?_
  exact d_zret rfl e
def b176_18 (F : Nat) : xm Int32 := mb (bz (0 : Int32)) fun _ => mr (0 : Int32)
theorem t176_18 {sc : Nat × (Nat → Int32)} {F : Nat} {r : Int32} {h' : xv_H} {d0 d1 d2 : Option Value} {h : xv_H} (e : b176_18 F h = some (r, h')) : xx sc 176 18 [d0, d1, d2] [] h (fun v g => v = some (.int r) ∧ g = h') := by
  unfold b176_18 at e
  refine xo_iconstV (x := 0) rfl (by decide) ?_
  exact d_zret rfl e
def b176_8 (F : Nat) (l0 : Option Nat) (l1 : Int32) (l2 : Int32) : xm Int32 := mb (m127 F l2 (0 : Int32) (99 : Int32)) fun v1 => if ¬ v1 = 0 then b176_20 F l0 l1 l2 else b176_18 F
theorem t176_8 {sc : Nat × (Nat → Int32)} {F : Nat} {r : Int32} {h' : xv_H} {l0 : Option Nat} {l1 : Int32} {l2 : Int32} {h : xv_H} (e : b176_8 F l0 l1 l2 h = some (r, h')) : xx sc 176 8 [some (va_rf l0), some (.int l1), some (.int l2)] [] h (fun v g => v = some (.int r) ∧ g = h') := by
  unfold b176_8 at e
  refine xo_iload_n rfl rfl ?_
  refine xo_iconstV (x := 0) rfl (by decide) ?_
  refine xo_bipushV (x := 99) rfl (by decide) ?_
  refine d_static_i (av := [.int l2, .int (0 : Int32), .int (99 : Int32)]) (rest := []) rfl ⟨by decide, by decide, by decide⟩ rfl rfl (by simp [xv_fit, va_rf_cat, cat_int, cat_long, cat_ref, cat_null, show xt_mx 127 = 3 from rfl, show xt_lg 127 = [] from rfl]) (by simp [xv_room, va_rf_cat, cat_int, cat_long, cat_ref, cat_null]) (fun x0 h1 e1 => t127 e1) e (fun v1 h e => ?_)
  refine d_if_ne rfl rfl e (fun _ e => ?_) (fun _ e => ?_)
  · exact t176_20 e
  · exact t176_18 e
def b176_0 (F : Nat) (l0 : Option Nat) (l1 : Int32) (l2 : Int32) : xm Int32 := mb (nn l0) fun v1 => mb (vc 9 v1) fun _ => mb (m173 F v1 l1) fun v2 => if v2 = 0 then b176_18 F else b176_8 F (some v1) l1 l2
theorem t176_0 {sc : Nat × (Nat → Int32)} {F : Nat} {r : Int32} {h' : xv_H} {l0 : Option Nat} {l1 : Int32} {l2 : Int32} {h : xv_H} (e : b176_0 F l0 l1 l2 h = some (r, h')) : xx sc 176 0 [some (va_rf l0), some (.int l1), some (.int l2)] [] h (fun v g => v = some (.int r) ∧ g = h') := by
  unfold b176_0 at e
  refine xo_aload_nQ (w := l0) rfl rfl ?_
  refine xo_iload_n rfl rfl ?_
  refine d_nn e (fun v1 g e1 => ?_)
  subst g
  replace e := e1
  clear e1
  refine d_virtual_i (av := [.int l1]) (rest := []) rfl ⟨by decide, by decide⟩ rfl rfl (by simp [xv_fit, va_rf_cat, cat_int, cat_long, cat_ref, cat_null, show xt_mx 173 = 2 from rfl, show xt_lg 173 = [] from rfl]) (by simp [xv_room, va_rf_cat, cat_int, cat_long, cat_ref, cat_null]) (fun x0 h1 e1 => t173 e1) e (fun v2 h e => ?_)
  refine d_if_eq rfl rfl e (fun _ e => ?_) (fun _ e => ?_)
  · exact t176_18 e
  · exact t176_8 e
def m176 (F : Nat) (this : Nat) (p0 : Int32) (p1 : Int32) : xm Int32 := b176_0 F (some this) p0 p1
theorem t176 {sc : Nat × (Nat → Int32)} {F : Nat} {this : Nat} {p0 : Int32} {p1 : Int32} {h : xv_H} {r : Int32} {h' : xv_H} (e : m176 F this p0 p1 h = some (r, h')) : xr sc 176 [.ref this, .int p0, .int p1] h (fun v g => v = some (.int r) ∧ g = h') := by
  have e0 : xv_ent (xt_mx 176) [.ref this, .int p0, .int p1] = [some (va_rf (some this)), some (.int p0), some (.int p1)] := by simp [xv_ent, xv_sl, va_rf_cat, cat_int, cat_long, cat_ref, cat_null, va_rf_some, show xt_mx 176 = 3 from rfl]
  unfold xr
  rw [e0]
  exact t176_0 e
-- CellTreeModel.scan(III)Z
def b177_30 (F : Nat) (l0 : Option Nat) (l1 : Int32) (l2 : Int32) (l3 : Int32) : xm Int32 := mb (nn l0) fun v1 => mb (vc 9 v1) fun _ => mb (m174 F v1 l1 (4 : Int32) l2 l3 (0 : Int32)) fun _ => mb (bz (1 : Int32)) fun _ => mr (1 : Int32)
theorem t177_30 {sc : Nat × (Nat → Int32)} {F : Nat} {r : Int32} {h' : xv_H} {l0 : Option Nat} {l1 : Int32} {l2 : Int32} {l3 : Int32} {h : xv_H} (e : b177_30 F l0 l1 l2 l3 h = some (r, h')) : xx sc 177 30 [some (va_rf l0), some (.int l1), some (.int l2), some (.int l3)] [] h (fun v g => v = some (.int r) ∧ g = h') := by
  unfold b177_30 at e
  refine xo_aload_nQ (w := l0) rfl rfl ?_
  refine xo_iload_n rfl rfl ?_
  refine xo_iconstV (x := 4) rfl (by decide) ?_
  refine xo_iload_n rfl rfl ?_
  refine xo_iload_n rfl rfl ?_
  refine xo_iconstV (x := 0) rfl (by decide) ?_
  refine d_nn e (fun v1 g e1 => ?_)
  subst g
  replace e := e1
  clear e1
  refine d_virtual_v (av := [.int l1, .int (4 : Int32), .int l2, .int l3, .int (0 : Int32)]) (rest := []) rfl ⟨by decide, by decide⟩ rfl rfl (by simp [xv_fit, va_rf_cat, cat_int, cat_long, cat_ref, cat_null, show xt_mx 174 = 6 from rfl, show xt_lg 174 = [] from rfl]) (by simp [xv_room, va_rf_cat, cat_int, cat_long, cat_ref, cat_null]) (fun x0 h1 e1 => t174 e1) e (fun _ h e => ?_)
  refine xo_iconstV (x := 1) rfl (by decide) ?_
  exact d_zret rfl e
def b177_28 (F : Nat) : xm Int32 := mb (bz (0 : Int32)) fun _ => mr (0 : Int32)
theorem t177_28 {sc : Nat × (Nat → Int32)} {F : Nat} {r : Int32} {h' : xv_H} {d0 d1 d2 d3 : Option Value} {h : xv_H} (e : b177_28 F h = some (r, h')) : xx sc 177 28 [d0, d1, d2, d3] [] h (fun v g => v = some (.int r) ∧ g = h') := by
  unfold b177_28 at e
  refine xo_iconstV (x := 0) rfl (by decide) ?_
  exact d_zret rfl e
def b177_18 (F : Nat) (l0 : Option Nat) (l1 : Int32) (l2 : Int32) (l3 : Int32) : xm Int32 := mb (m127 F l3 l2 (99 : Int32)) fun v1 => if ¬ v1 = 0 then b177_30 F l0 l1 l2 l3 else b177_28 F
theorem t177_18 {sc : Nat × (Nat → Int32)} {F : Nat} {r : Int32} {h' : xv_H} {l0 : Option Nat} {l1 : Int32} {l2 : Int32} {l3 : Int32} {h : xv_H} (e : b177_18 F l0 l1 l2 l3 h = some (r, h')) : xx sc 177 18 [some (va_rf l0), some (.int l1), some (.int l2), some (.int l3)] [] h (fun v g => v = some (.int r) ∧ g = h') := by
  unfold b177_18 at e
  refine xo_iload_n rfl rfl ?_
  refine xo_iload_n rfl rfl ?_
  refine xo_bipushV (x := 99) rfl (by decide) ?_
  refine d_static_i (av := [.int l3, .int l2, .int (99 : Int32)]) (rest := []) rfl ⟨by decide, by decide, by decide⟩ rfl rfl (by simp [xv_fit, va_rf_cat, cat_int, cat_long, cat_ref, cat_null, show xt_mx 127 = 3 from rfl, show xt_lg 127 = [] from rfl]) (by simp [xv_room, va_rf_cat, cat_int, cat_long, cat_ref, cat_null]) (fun x0 h1 e1 => t127 e1) e (fun v1 h e => ?_)
  refine d_if_ne rfl rfl e (fun _ e => ?_) (fun _ e => ?_)
  · exact t177_30 e
  · exact t177_28 e
def b177_8 (F : Nat) (l0 : Option Nat) (l1 : Int32) (l2 : Int32) (l3 : Int32) : xm Int32 := mb (m127 F l2 (0 : Int32) (99 : Int32)) fun v1 => if v1 = 0 then b177_28 F else b177_18 F l0 l1 l2 l3
theorem t177_8 {sc : Nat × (Nat → Int32)} {F : Nat} {r : Int32} {h' : xv_H} {l0 : Option Nat} {l1 : Int32} {l2 : Int32} {l3 : Int32} {h : xv_H} (e : b177_8 F l0 l1 l2 l3 h = some (r, h')) : xx sc 177 8 [some (va_rf l0), some (.int l1), some (.int l2), some (.int l3)] [] h (fun v g => v = some (.int r) ∧ g = h') := by
  unfold b177_8 at e
  refine xo_iload_n rfl rfl ?_
  refine xo_iconstV (x := 0) rfl (by decide) ?_
  refine xo_bipushV (x := 99) rfl (by decide) ?_
  refine d_static_i (av := [.int l2, .int (0 : Int32), .int (99 : Int32)]) (rest := []) rfl ⟨by decide, by decide, by decide⟩ rfl rfl (by simp [xv_fit, va_rf_cat, cat_int, cat_long, cat_ref, cat_null, show xt_mx 127 = 3 from rfl, show xt_lg 127 = [] from rfl]) (by simp [xv_room, va_rf_cat, cat_int, cat_long, cat_ref, cat_null]) (fun x0 h1 e1 => t127 e1) e (fun v1 h e => ?_)
  refine d_if_eq rfl rfl e (fun _ e => ?_) (fun _ e => ?_)
  · exact t177_28 e
  · exact t177_18 e
def b177_0 (F : Nat) (l0 : Option Nat) (l1 : Int32) (l2 : Int32) (l3 : Int32) : xm Int32 := mb (nn l0) fun v1 => mb (vc 9 v1) fun _ => mb (m173 F v1 l1) fun v2 => if v2 = 0 then b177_28 F else b177_8 F (some v1) l1 l2 l3
theorem t177_0 {sc : Nat × (Nat → Int32)} {F : Nat} {r : Int32} {h' : xv_H} {l0 : Option Nat} {l1 : Int32} {l2 : Int32} {l3 : Int32} {h : xv_H} (e : b177_0 F l0 l1 l2 l3 h = some (r, h')) : xx sc 177 0 [some (va_rf l0), some (.int l1), some (.int l2), some (.int l3)] [] h (fun v g => v = some (.int r) ∧ g = h') := by
  unfold b177_0 at e
  refine xo_aload_nQ (w := l0) rfl rfl ?_
  refine xo_iload_n rfl rfl ?_
  refine d_nn e (fun v1 g e1 => ?_)
  subst g
  replace e := e1
  clear e1
  refine d_virtual_i (av := [.int l1]) (rest := []) rfl ⟨by decide, by decide⟩ rfl rfl (by simp [xv_fit, va_rf_cat, cat_int, cat_long, cat_ref, cat_null, show xt_mx 173 = 2 from rfl, show xt_lg 173 = [] from rfl]) (by simp [xv_room, va_rf_cat, cat_int, cat_long, cat_ref, cat_null]) (fun x0 h1 e1 => t173 e1) e (fun v2 h e => ?_)
  refine d_if_eq rfl rfl e (fun _ e => ?_) (fun _ e => ?_)
  · exact t177_28 e
  · exact t177_8 e
def m177 (F : Nat) (this : Nat) (p0 : Int32) (p1 : Int32) (p2 : Int32) : xm Int32 := b177_0 F (some this) p0 p1 p2
theorem t177 {sc : Nat × (Nat → Int32)} {F : Nat} {this : Nat} {p0 : Int32} {p1 : Int32} {p2 : Int32} {h : xv_H} {r : Int32} {h' : xv_H} (e : m177 F this p0 p1 p2 h = some (r, h')) : xr sc 177 [.ref this, .int p0, .int p1, .int p2] h (fun v g => v = some (.int r) ∧ g = h') := by
  have e0 : xv_ent (xt_mx 177) [.ref this, .int p0, .int p1, .int p2] = [some (va_rf (some this)), some (.int p0), some (.int p1), some (.int p2)] := by simp [xv_ent, xv_sl, va_rf_cat, cat_int, cat_long, cat_ref, cat_null, va_rf_some, show xt_mx 177 = 4 from rfl]
  unfold xr
  rw [e0]
  exact t177_0 e
-- CellTreeModel.resend(I)I
def b178_57 (F : Nat) (l0 : Option Nat) (l1 : Int32) : xm Int32 := mb (nn l0) fun v1 => mb (vc 9 v1) fun _ => mb (m161 F v1 l1) fun v2 => mr v2
theorem t178_57 {sc : Nat × (Nat → Int32)} {F : Nat} {r : Int32} {h' : xv_H} {l0 : Option Nat} {l1 : Int32} {h : xv_H} (e : b178_57 F l0 l1 h = some (r, h')) : xx sc 178 57 [some (va_rf l0), some (.int l1)] [] h (fun v g => v = some (.int r) ∧ g = h') := by
  unfold b178_57 at e
  refine xo_aload_nQ (w := l0) rfl rfl ?_
  refine xo_iload_n rfl rfl ?_
  refine d_nn e (fun v1 g e1 => ?_)
  subst g
  replace e := e1
  clear e1
  refine d_virtual_i (av := [.int l1]) (rest := []) rfl ⟨by decide, by decide⟩ rfl rfl (by simp [xv_fit, va_rf_cat, cat_int, cat_long, cat_ref, cat_null, show xt_mx 161 = 4 from rfl, show xt_lg 161 = [] from rfl]) (by simp [xv_room, va_rf_cat, cat_int, cat_long, cat_ref, cat_null]) (fun x0 h1 e1 => t161 e1) e (fun v2 h e => ?_)
  exact d_iret rfl e
def b178_55 (F : Nat) : xm Int32 := mr (-1 : Int32)
theorem t178_55 {sc : Nat × (Nat → Int32)} {F : Nat} {r : Int32} {h' : xv_H} {d0 d1 : Option Value} {h : xv_H} (e : b178_55 F h = some (r, h')) : xx sc 178 55 [d0, d1] [] h (fun v g => v = some (.int r) ∧ g = h') := by
  unfold b178_55 at e
  refine xo_iconstV (x := (-1)) rfl (by decide) ?_
  exact d_iret rfl e
def b178_51 (F : Nat) (s0 : Int32) (s1 : Option Nat) (l0 : Option Nat) (l1 : Int32) : xm Int32 := mb (nn s1) fun v1 => mb (li v1 s0) fun v2 => if ¬ v2 = 0 then b178_57 F l0 l1 else b178_55 F
theorem t178_51 {sc : Nat × (Nat → Int32)} {F : Nat} {r : Int32} {h' : xv_H} {s0 : Int32} {s1 : Option Nat} {l0 : Option Nat} {l1 : Int32} {h : xv_H} (e : b178_51 F s0 s1 l0 l1 h = some (r, h')) : xx sc 178 51 [some (va_rf l0), some (.int l1)] [.int s0, va_rf s1] h (fun v g => v = some (.int r) ∧ g = h') := by
  unfold b178_51 at e
  refine d_nn e (fun v1 g e1 => ?_)
  subst g
  replace e := e1
  clear e1
  refine d_iald rfl e (fun v2 e => ?_)
  refine d_if_ne rfl rfl e (fun _ e => ?_) (fun _ e => ?_)
  · exact t178_57 e
  · exact t178_55 e
def b178_50 (F : Nat) (s0 : Option Nat) (l0 : Option Nat) (l1 : Int32) : xm Int32 := b178_51 F l1 s0 l0 l1
theorem t178_50 {sc : Nat × (Nat → Int32)} {F : Nat} {r : Int32} {h' : xv_H} {s0 : Option Nat} {l0 : Option Nat} {l1 : Int32} {h : xv_H} (e : b178_50 F s0 l0 l1 h = some (r, h')) : xx sc 178 50 [some (va_rf l0), some (.int l1)] [va_rf s0] h (fun v g => v = some (.int r) ∧ g = h') := by
  unfold b178_50 at e
  refine xo_iload_n rfl rfl ?_
  exact t178_51 e
def b178_46 (F : Nat) (s0 : Option Nat) (l0 : Option Nat) (l1 : Int32) : xm Int32 := b178_51 F (0 : Int32) s0 l0 l1
theorem t178_46 {sc : Nat × (Nat → Int32)} {F : Nat} {r : Int32} {h' : xv_H} {s0 : Option Nat} {l0 : Option Nat} {l1 : Int32} {h : xv_H} (e : b178_46 F s0 l0 l1 h = some (r, h')) : xx sc 178 46 [some (va_rf l0), some (.int l1)] [va_rf s0] h (fun v g => v = some (.int r) ∧ g = h') := by
  unfold b178_46 at e
  refine xo_iconstV (x := 0) rfl (by decide) ?_
  refine xo_goto rfl rfl ?_
  exact t178_51 e
def b178_41 (F : Nat) (s0 : Option Nat) (l0 : Option Nat) (l1 : Int32) : xm Int32 := if l1 ≤ (1 : Int32) then b178_50 F s0 l0 l1 else b178_46 F s0 l0 l1
theorem t178_41 {sc : Nat × (Nat → Int32)} {F : Nat} {r : Int32} {h' : xv_H} {s0 : Option Nat} {l0 : Option Nat} {l1 : Int32} {h : xv_H} (e : b178_41 F s0 l0 l1 h = some (r, h')) : xx sc 178 41 [some (va_rf l0), some (.int l1)] [va_rf s0] h (fun v g => v = some (.int r) ∧ g = h') := by
  unfold b178_41 at e
  refine xo_iload_n rfl rfl ?_
  refine xo_iconstV (x := 1) rfl (by decide) ?_
  refine d_icmp_le rfl rfl e (fun _ e => ?_) (fun _ e => ?_)
  · exact t178_50 e
  · exact t178_46 e
def b178_33 (F : Nat) (l0 : Option Nat) (l1 : Int32) : xm Int32 := mb (nn l0) fun v1 => mb (gr 934 v1) fun v2 => if l1 < 0 then b178_46 F v2 (some v1) l1 else b178_41 F v2 (some v1) l1
theorem t178_33 {sc : Nat × (Nat → Int32)} {F : Nat} {r : Int32} {h' : xv_H} {l0 : Option Nat} {l1 : Int32} {h : xv_H} (e : b178_33 F l0 l1 h = some (r, h')) : xx sc 178 33 [some (va_rf l0), some (.int l1)] [] h (fun v g => v = some (.int r) ∧ g = h') := by
  unfold b178_33 at e
  refine xo_aload_nQ (w := l0) rfl rfl ?_
  refine d_nn e (fun v1 g e1 => ?_)
  subst g
  replace e := e1
  clear e1
  refine d_getr rfl e (fun v2 e => ?_)
  refine xo_iload_n rfl rfl ?_
  refine d_if_lt rfl rfl e (fun _ e => ?_) (fun _ e => ?_)
  · exact t178_46 e
  · exact t178_41 e
def b178_29 (F : Nat) (s0 : Int32) (s1 : Option Nat) (l0 : Option Nat) (l1 : Int32) : xm Int32 := mb (nn s1) fun v1 => mb (lb v1 s0) fun v2 => if ¬ v2 = 0 then b178_55 F else b178_33 F l0 l1
theorem t178_29 {sc : Nat × (Nat → Int32)} {F : Nat} {r : Int32} {h' : xv_H} {s0 : Int32} {s1 : Option Nat} {l0 : Option Nat} {l1 : Int32} {h : xv_H} (e : b178_29 F s0 s1 l0 l1 h = some (r, h')) : xx sc 178 29 [some (va_rf l0), some (.int l1)] [.int s0, va_rf s1] h (fun v g => v = some (.int r) ∧ g = h') := by
  unfold b178_29 at e
  refine d_nn e (fun v1 g e1 => ?_)
  subst g
  replace e := e1
  clear e1
  refine d_bald rfl e (fun v2 e => ?_)
  refine d_if_ne rfl rfl e (fun _ e => ?_) (fun _ e => ?_)
  · exact t178_55 e
  · exact t178_33 e
def b178_26 (F : Nat) (s0 : Option Nat) (l0 : Option Nat) (l1 : Int32) : xm Int32 := b178_29 F ((3 : Int32) + l1) s0 l0 l1
theorem t178_26 {sc : Nat × (Nat → Int32)} {F : Nat} {r : Int32} {h' : xv_H} {s0 : Option Nat} {l0 : Option Nat} {l1 : Int32} {h : xv_H} (e : b178_26 F s0 l0 l1 h = some (r, h')) : xx sc 178 26 [some (va_rf l0), some (.int l1)] [va_rf s0] h (fun v g => v = some (.int r) ∧ g = h') := by
  unfold b178_26 at e
  refine xo_iconstV (x := 3) rfl (by decide) ?_
  refine xo_iload_n rfl rfl ?_
  refine xo_iadd rfl ?_
  exact t178_29 e
def b178_22 (F : Nat) (s0 : Option Nat) (l0 : Option Nat) (l1 : Int32) : xm Int32 := b178_29 F (3 : Int32) s0 l0 l1
theorem t178_22 {sc : Nat × (Nat → Int32)} {F : Nat} {r : Int32} {h' : xv_H} {s0 : Option Nat} {l0 : Option Nat} {l1 : Int32} {h : xv_H} (e : b178_22 F s0 l0 l1 h = some (r, h')) : xx sc 178 22 [some (va_rf l0), some (.int l1)] [va_rf s0] h (fun v g => v = some (.int r) ∧ g = h') := by
  unfold b178_22 at e
  refine xo_iconstV (x := 3) rfl (by decide) ?_
  refine xo_goto rfl rfl ?_
  exact t178_29 e
def b178_17 (F : Nat) (s0 : Option Nat) (l0 : Option Nat) (l1 : Int32) : xm Int32 := if l1 ≤ (1 : Int32) then b178_26 F s0 l0 l1 else b178_22 F s0 l0 l1
theorem t178_17 {sc : Nat × (Nat → Int32)} {F : Nat} {r : Int32} {h' : xv_H} {s0 : Option Nat} {l0 : Option Nat} {l1 : Int32} {h : xv_H} (e : b178_17 F s0 l0 l1 h = some (r, h')) : xx sc 178 17 [some (va_rf l0), some (.int l1)] [va_rf s0] h (fun v g => v = some (.int r) ∧ g = h') := by
  unfold b178_17 at e
  refine xo_iload_n rfl rfl ?_
  refine xo_iconstV (x := 1) rfl (by decide) ?_
  refine d_icmp_le rfl rfl e (fun _ e => ?_) (fun _ e => ?_)
  · exact t178_26 e
  · exact t178_22 e
def b178_9 (F : Nat) (l0 : Option Nat) (l1 : Int32) : xm Int32 := mb (nn l0) fun v1 => mb (gr 900 v1) fun v2 => if l1 < 0 then b178_22 F v2 (some v1) l1 else b178_17 F v2 (some v1) l1
theorem t178_9 {sc : Nat × (Nat → Int32)} {F : Nat} {r : Int32} {h' : xv_H} {l0 : Option Nat} {l1 : Int32} {h : xv_H} (e : b178_9 F l0 l1 h = some (r, h')) : xx sc 178 9 [some (va_rf l0), some (.int l1)] [] h (fun v g => v = some (.int r) ∧ g = h') := by
  unfold b178_9 at e
  refine xo_aload_nQ (w := l0) rfl rfl ?_
  refine d_nn e (fun v1 g e1 => ?_)
  subst g
  replace e := e1
  clear e1
  refine d_getr rfl e (fun v2 e => ?_)
  refine xo_iload_n rfl rfl ?_
  refine d_if_lt rfl rfl e (fun _ e => ?_) (fun _ e => ?_)
  · exact t178_22 e
  · exact t178_17 e
def b178_0 (F : Nat) (l0 : Option Nat) (l1 : Int32) : xm Int32 := mb (m127 F l1 (0 : Int32) (1 : Int32)) fun v1 => if v1 = 0 then b178_55 F else b178_9 F l0 l1
theorem t178_0 {sc : Nat × (Nat → Int32)} {F : Nat} {r : Int32} {h' : xv_H} {l0 : Option Nat} {l1 : Int32} {h : xv_H} (e : b178_0 F l0 l1 h = some (r, h')) : xx sc 178 0 [some (va_rf l0), some (.int l1)] [] h (fun v g => v = some (.int r) ∧ g = h') := by
  unfold b178_0 at e
  refine xo_iload_n rfl rfl ?_
  refine xo_iconstV (x := 0) rfl (by decide) ?_
  refine xo_iconstV (x := 1) rfl (by decide) ?_
  refine d_static_i (av := [.int l1, .int (0 : Int32), .int (1 : Int32)]) (rest := []) rfl ⟨by decide, by decide, by decide⟩ rfl rfl (by simp [xv_fit, va_rf_cat, cat_int, cat_long, cat_ref, cat_null, show xt_mx 127 = 3 from rfl, show xt_lg 127 = [] from rfl]) (by simp [xv_room, va_rf_cat, cat_int, cat_long, cat_ref, cat_null]) (fun x0 h1 e1 => t127 e1) e (fun v1 h e => ?_)
  refine d_if_eq rfl rfl e (fun _ e => ?_) (fun _ e => ?_)
  · exact t178_55 e
  · exact t178_9 e
def m178 (F : Nat) (this : Nat) (p0 : Int32) : xm Int32 := b178_0 F (some this) p0
theorem t178 {sc : Nat × (Nat → Int32)} {F : Nat} {this : Nat} {p0 : Int32} {h : xv_H} {r : Int32} {h' : xv_H} (e : m178 F this p0 h = some (r, h')) : xr sc 178 [.ref this, .int p0] h (fun v g => v = some (.int r) ∧ g = h') := by
  have e0 : xv_ent (xt_mx 178) [.ref this, .int p0] = [some (va_rf (some this)), some (.int p0)] := by simp [xv_ent, xv_sl, va_rf_cat, cat_int, cat_long, cat_ref, cat_null, va_rf_some, show xt_mx 178 = 2 from rfl]
  unfold xr
  rw [e0]
  exact t178_0 e
-- CellTreeModel.crash(I)Z
def b179_119 (F : Nat) : xm Int32 := mb (bz (1 : Int32)) fun _ => mr (1 : Int32)
theorem t179_119 {sc : Nat × (Nat → Int32)} {F : Nat} {r : Int32} {h' : xv_H} {d0 d1 d2 d3 : Option Value} {h : xv_H} (e : b179_119 F h = some (r, h')) : xx sc 179 119 [d0, d1, d2, d3] [] h (fun v g => v = some (.int r) ∧ g = h') := by
  unfold b179_119 at e
  refine xo_iconstV (x := 1) rfl (by decide) ?_
  exact d_zret rfl e
def b179_101 (k95 : Option Nat → Int32 → Int32 → xm Int32) (F : Nat) (l0 : Option Nat) (l2 : Int32) (l3 : Int32) : xm Int32 := mb (nn l0) fun v1 => mb (gr 922 v1) fun v2 => mb (nn v2) fun v3 => mb (si v3 (((24 : Int32) * l2) + l3) (0 : Int32)) fun _ => k95 (some v1) l2 (l3 + (1 : Int32))
theorem t179_101 {sc : Nat × (Nat → Int32)} {F : Nat} {r : Int32} {h' : xv_H} {k95 : Option Nat → Int32 → Int32 → xm Int32} (hk95 : ∀ (l0 : Option Nat) (l2 : Int32) (l3 : Int32) (d1 : Option Value) (h : xv_H), k95 l0 l2 l3 h = some (r, h') → xx sc 179 95 [some (va_rf l0), d1, some (.int l2), some (.int l3)] [] h (fun v g => v = some (.int r) ∧ g = h')) {l0 : Option Nat} {l2 : Int32} {l3 : Int32} {d1 : Option Value} {h : xv_H} (e : b179_101 k95 F l0 l2 l3 h = some (r, h')) : xx sc 179 101 [some (va_rf l0), d1, some (.int l2), some (.int l3)] [] h (fun v g => v = some (.int r) ∧ g = h') := by
  unfold b179_101 at e
  refine xo_aload_nQ (w := l0) rfl rfl ?_
  refine d_nn e (fun v1 g e1 => ?_)
  subst g
  replace e := e1
  clear e1
  refine d_getr rfl e (fun v2 e => ?_)
  refine xo_bipushV (x := 24) rfl (by decide) ?_
  refine xo_iload_n rfl rfl ?_
  refine xo_imul rfl ?_
  refine xo_iload_n rfl rfl ?_
  refine xo_iadd rfl ?_
  refine xo_iconstV (x := 0) rfl (by decide) ?_
  refine d_nn e (fun v3 g e1 => ?_)
  subst g
  replace e := e1
  clear e1
  refine d_iast rfl e (fun h e => ?_)
  refine xo_iincV (z := 1) rfl (by decide) rfl (Nat.le_of_ble_eq_true rfl) rfl ?_
  refine xo_goto rfl rfl ?_
  exact hk95 _ _ _ _ _ e
def b179_95 (F : Nat) : Nat → Option Nat → Int32 → Int32 → xm Int32
  | 0, _, _, _ => fun _ => none
  | f + 1, l0, l2, l3 => if (24 : Int32) ≤ l3 then b179_119 F else b179_101 (b179_95 F f) F l0 l2 l3
theorem t179_95 {sc : Nat × (Nat → Int32)} {F : Nat} {r : Int32} {h' : xv_H} : ∀ (f : Nat) (l0 : Option Nat) (l2 : Int32) (l3 : Int32) (d1 : Option Value) (h : xv_H), b179_95 F f l0 l2 l3 h = some (r, h') → xx sc 179 95 [some (va_rf l0), d1, some (.int l2), some (.int l3)] [] h (fun v g => v = some (.int r) ∧ g = h') := by
  intro f
  induction f with
  | zero => intro l0 l2 l3 d1 h e; cases e
  | succ f ih =>
    intro l0 l2 l3 d1 h e
    unfold b179_95 at e
    refine xo_iload_n rfl rfl ?_
    refine xo_bipushV (x := 24) rfl (by decide) ?_
    refine d_icmp_ge rfl rfl e (fun _ e => ?_) (fun _ e => ?_)
    · exact t179_119 e
    · exact t179_101 (fun a0 a1 a2 a3 h e => ih a0 a1 a2 a3 h e) e
def b179_47 (F : Nat) (l0 : Option Nat) (l1 : Int32) : xm Int32 := mb (nn l0) fun v1 => mb (gr 926 v1) fun v2 => mb (nn v2) fun v3 => mb (si v3 (l1 - (3 : Int32)) (0 : Int32)) fun _ => mb (gr 925 v1) fun v4 => mb (nn v4) fun v5 => mb (si v5 (l1 - (3 : Int32)) (0 : Int32)) fun _ => mb (gr 927 v1) fun v6 => mb (nn v6) fun v7 => mb (si v7 (l1 - (3 : Int32)) (0 : Int32)) fun _ => mb (gr 932 v1) fun v8 => mb (nn v8) fun v9 => mb (si v9 (l1 - (3 : Int32)) (0 : Int32)) fun _ => mb (gr 939 v1) fun v10 => mb (nn v10) fun v11 => mb (si v11 (l1 - (3 : Int32)) (0 : Int32)) fun _ => mb (gr 934 v1) fun v12 => mb (nn v12) fun v13 => mb (si v13 (l1 - (3 : Int32)) (0 : Int32)) fun _ => b179_95 F F (some v1) (l1 - (3 : Int32)) (0 : Int32)
theorem t179_47 {sc : Nat × (Nat → Int32)} {F : Nat} {r : Int32} {h' : xv_H} {l0 : Option Nat} {l1 : Int32} {d2 d3 : Option Value} {h : xv_H} (e : b179_47 F l0 l1 h = some (r, h')) : xx sc 179 47 [some (va_rf l0), some (.int l1), d2, d3] [] h (fun v g => v = some (.int r) ∧ g = h') := by
  unfold b179_47 at e
  refine xo_iload_n rfl rfl ?_
  refine xo_iconstV (x := 3) rfl (by decide) ?_
  refine xo_isub rfl ?_
  refine xo_istore_n rfl (Nat.le_of_ble_eq_true rfl) rfl ?_
  refine xo_aload_nQ (w := l0) rfl rfl ?_
  refine d_nn e (fun v1 g e1 => ?_)
  subst g
  replace e := e1
  clear e1
  refine d_getr rfl e (fun v2 e => ?_)
  refine xo_iload_n rfl rfl ?_
  refine xo_iconstV (x := 0) rfl (by decide) ?_
  refine d_nn e (fun v3 g e1 => ?_)
  subst g
  replace e := e1
  clear e1
  refine d_iast rfl e (fun h e => ?_)
  refine xo_aload_nQ (w := (some v1)) rfl rfl ?_
  refine d_getr rfl e (fun v4 e => ?_)
  refine xo_iload_n rfl rfl ?_
  refine xo_iconstV (x := 0) rfl (by decide) ?_
  refine d_nn e (fun v5 g e1 => ?_)
  subst g
  replace e := e1
  clear e1
  refine d_iast rfl e (fun h e => ?_)
  refine xo_aload_nQ (w := (some v1)) rfl rfl ?_
  refine d_getr rfl e (fun v6 e => ?_)
  refine xo_iload_n rfl rfl ?_
  refine xo_iconstV (x := 0) rfl (by decide) ?_
  refine d_nn e (fun v7 g e1 => ?_)
  subst g
  replace e := e1
  clear e1
  refine d_iast rfl e (fun h e => ?_)
  refine xo_aload_nQ (w := (some v1)) rfl rfl ?_
  refine d_getr rfl e (fun v8 e => ?_)
  refine xo_iload_n rfl rfl ?_
  refine xo_iconstV (x := 0) rfl (by decide) ?_
  refine d_nn e (fun v9 g e1 => ?_)
  subst g
  replace e := e1
  clear e1
  refine d_iast rfl e (fun h e => ?_)
  refine xo_aload_nQ (w := (some v1)) rfl rfl ?_
  refine d_getr rfl e (fun v10 e => ?_)
  refine xo_iload_n rfl rfl ?_
  refine xo_iconstV (x := 0) rfl (by decide) ?_
  refine d_nn e (fun v11 g e1 => ?_)
  subst g
  replace e := e1
  clear e1
  refine d_iast rfl e (fun h e => ?_)
  refine xo_aload_nQ (w := (some v1)) rfl rfl ?_
  refine d_getr rfl e (fun v12 e => ?_)
  refine xo_iload_n rfl rfl ?_
  refine xo_iconstV (x := 0) rfl (by decide) ?_
  refine d_nn e (fun v13 g e1 => ?_)
  subst g
  replace e := e1
  clear e1
  refine d_iast rfl e (fun h e => ?_)
  refine xo_iconstV (x := 0) rfl (by decide) ?_
  refine xo_istore_n rfl (Nat.le_of_ble_eq_true rfl) rfl ?_
  exact t179_95 F _ _ _ _ _ e
def b179_45 (F : Nat) : xm Int32 := mb (bz (1 : Int32)) fun _ => mr (1 : Int32)
theorem t179_45 {sc : Nat × (Nat → Int32)} {F : Nat} {r : Int32} {h' : xv_H} {d0 d1 d2 d3 : Option Value} {h : xv_H} (e : b179_45 F h = some (r, h')) : xx sc 179 45 [d0, d1, d2, d3] [] h (fun v g => v = some (.int r) ∧ g = h') := by
  unfold b179_45 at e
  refine xo_iconstV (x := 1) rfl (by decide) ?_
  exact d_zret rfl e
def b179_33 (F : Nat) (l0 : Option Nat) (l1 : Int32) : xm Int32 := mb (nn l0) fun v1 => mb (gr 900 v1) fun v2 => mb (nn v2) fun v3 => mb (sb v3 l1 (1 : Int32)) fun _ => if (3 : Int32) ≤ l1 then b179_47 F (some v1) l1 else b179_45 F
theorem t179_33 {sc : Nat × (Nat → Int32)} {F : Nat} {r : Int32} {h' : xv_H} {l0 : Option Nat} {l1 : Int32} {d2 d3 : Option Value} {h : xv_H} (e : b179_33 F l0 l1 h = some (r, h')) : xx sc 179 33 [some (va_rf l0), some (.int l1), d2, d3] [] h (fun v g => v = some (.int r) ∧ g = h') := by
  unfold b179_33 at e
  refine xo_aload_nQ (w := l0) rfl rfl ?_
  refine d_nn e (fun v1 g e1 => ?_)
  subst g
  replace e := e1
  clear e1
  refine d_getr rfl e (fun v2 e => ?_)
  refine xo_iload_n rfl rfl ?_
  refine xo_iconstV (x := 1) rfl (by decide) ?_
  refine d_nn e (fun v3 g e1 => ?_)
  subst g
  replace e := e1
  clear e1
  refine d_bast rfl e (fun h e => ?_)
  refine xo_iload_n rfl rfl ?_
  refine xo_iconstV (x := 3) rfl (by decide) ?_
  refine d_icmp_ge rfl rfl e (fun _ e => ?_) (fun _ e => ?_)
  · exact t179_47 e
  · exact t179_45 e
def b179_31 (F : Nat) : xm Int32 := mb (bz (0 : Int32)) fun _ => mr (0 : Int32)
theorem t179_31 {sc : Nat × (Nat → Int32)} {F : Nat} {r : Int32} {h' : xv_H} {d0 d1 d2 d3 : Option Value} {h : xv_H} (e : b179_31 F h = some (r, h')) : xx sc 179 31 [d0, d1, d2, d3] [] h (fun v g => v = some (.int r) ∧ g = h') := by
  unfold b179_31 at e
  refine xo_iconstV (x := 0) rfl (by decide) ?_
  exact d_zret rfl e
def b179_27 (F : Nat) (s0 : Int32) (s1 : Option Nat) (l0 : Option Nat) (l1 : Int32) : xm Int32 := mb (nn s1) fun v1 => mb (lb v1 s0) fun v2 => if v2 = 0 then b179_33 F l0 l1 else b179_31 F
theorem t179_27 {sc : Nat × (Nat → Int32)} {F : Nat} {r : Int32} {h' : xv_H} {s0 : Int32} {s1 : Option Nat} {l0 : Option Nat} {l1 : Int32} {d2 d3 : Option Value} {h : xv_H} (e : b179_27 F s0 s1 l0 l1 h = some (r, h')) : xx sc 179 27 [some (va_rf l0), some (.int l1), d2, d3] [.int s0, va_rf s1] h (fun v g => v = some (.int r) ∧ g = h') := by
  unfold b179_27 at e
  refine d_nn e (fun v1 g e1 => ?_)
  subst g
  replace e := e1
  clear e1
  refine d_bald rfl e (fun v2 e => ?_)
  refine d_if_eq rfl rfl e (fun _ e => ?_) (fun _ e => ?_)
  · exact t179_33 e
  · exact t179_31 e
def b179_26 (F : Nat) (s0 : Option Nat) (l0 : Option Nat) (l1 : Int32) : xm Int32 := b179_27 F l1 s0 l0 l1
theorem t179_26 {sc : Nat × (Nat → Int32)} {F : Nat} {r : Int32} {h' : xv_H} {s0 : Option Nat} {l0 : Option Nat} {l1 : Int32} {d2 d3 : Option Value} {h : xv_H} (e : b179_26 F s0 l0 l1 h = some (r, h')) : xx sc 179 26 [some (va_rf l0), some (.int l1), d2, d3] [va_rf s0] h (fun v g => v = some (.int r) ∧ g = h') := by
  unfold b179_26 at e
  refine xo_iload_n rfl rfl ?_
  exact t179_27 e
def b179_22 (F : Nat) (s0 : Option Nat) (l0 : Option Nat) (l1 : Int32) : xm Int32 := b179_27 F (0 : Int32) s0 l0 l1
theorem t179_22 {sc : Nat × (Nat → Int32)} {F : Nat} {r : Int32} {h' : xv_H} {s0 : Option Nat} {l0 : Option Nat} {l1 : Int32} {d2 d3 : Option Value} {h : xv_H} (e : b179_22 F s0 l0 l1 h = some (r, h')) : xx sc 179 22 [some (va_rf l0), some (.int l1), d2, d3] [va_rf s0] h (fun v g => v = some (.int r) ∧ g = h') := by
  unfold b179_22 at e
  refine xo_iconstV (x := 0) rfl (by decide) ?_
  refine xo_goto rfl rfl ?_
  exact t179_27 e
def b179_17 (F : Nat) (s0 : Option Nat) (l0 : Option Nat) (l1 : Int32) : xm Int32 := if l1 ≤ (4 : Int32) then b179_26 F s0 l0 l1 else b179_22 F s0 l0 l1
theorem t179_17 {sc : Nat × (Nat → Int32)} {F : Nat} {r : Int32} {h' : xv_H} {s0 : Option Nat} {l0 : Option Nat} {l1 : Int32} {d2 d3 : Option Value} {h : xv_H} (e : b179_17 F s0 l0 l1 h = some (r, h')) : xx sc 179 17 [some (va_rf l0), some (.int l1), d2, d3] [va_rf s0] h (fun v g => v = some (.int r) ∧ g = h') := by
  unfold b179_17 at e
  refine xo_iload_n rfl rfl ?_
  refine xo_iconstV (x := 4) rfl (by decide) ?_
  refine d_icmp_le rfl rfl e (fun _ e => ?_) (fun _ e => ?_)
  · exact t179_26 e
  · exact t179_22 e
def b179_9 (F : Nat) (l0 : Option Nat) (l1 : Int32) : xm Int32 := mb (nn l0) fun v1 => mb (gr 900 v1) fun v2 => if l1 < 0 then b179_22 F v2 (some v1) l1 else b179_17 F v2 (some v1) l1
theorem t179_9 {sc : Nat × (Nat → Int32)} {F : Nat} {r : Int32} {h' : xv_H} {l0 : Option Nat} {l1 : Int32} {d2 d3 : Option Value} {h : xv_H} (e : b179_9 F l0 l1 h = some (r, h')) : xx sc 179 9 [some (va_rf l0), some (.int l1), d2, d3] [] h (fun v g => v = some (.int r) ∧ g = h') := by
  unfold b179_9 at e
  refine xo_aload_nQ (w := l0) rfl rfl ?_
  refine d_nn e (fun v1 g e1 => ?_)
  subst g
  replace e := e1
  clear e1
  refine d_getr rfl e (fun v2 e => ?_)
  refine xo_iload_n rfl rfl ?_
  refine d_if_lt rfl rfl e (fun _ e => ?_) (fun _ e => ?_)
  · exact t179_22 e
  · exact t179_17 e
def b179_0 (F : Nat) (l0 : Option Nat) (l1 : Int32) : xm Int32 := mb (m127 F l1 (0 : Int32) (4 : Int32)) fun v1 => if v1 = 0 then b179_31 F else b179_9 F l0 l1
theorem t179_0 {sc : Nat × (Nat → Int32)} {F : Nat} {r : Int32} {h' : xv_H} {l0 : Option Nat} {l1 : Int32} {d2 d3 : Option Value} {h : xv_H} (e : b179_0 F l0 l1 h = some (r, h')) : xx sc 179 0 [some (va_rf l0), some (.int l1), d2, d3] [] h (fun v g => v = some (.int r) ∧ g = h') := by
  unfold b179_0 at e
  refine xo_iload_n rfl rfl ?_
  refine xo_iconstV (x := 0) rfl (by decide) ?_
  refine xo_iconstV (x := 4) rfl (by decide) ?_
  refine d_static_i (av := [.int l1, .int (0 : Int32), .int (4 : Int32)]) (rest := []) rfl ⟨by decide, by decide, by decide⟩ rfl rfl (by simp [xv_fit, va_rf_cat, cat_int, cat_long, cat_ref, cat_null, show xt_mx 127 = 3 from rfl, show xt_lg 127 = [] from rfl]) (by simp [xv_room, va_rf_cat, cat_int, cat_long, cat_ref, cat_null]) (fun x0 h1 e1 => t127 e1) e (fun v1 h e => ?_)
  refine d_if_eq rfl rfl e (fun _ e => ?_) (fun _ e => ?_)
  · exact t179_31 e
  · exact t179_9 e
def m179 (F : Nat) (this : Nat) (p0 : Int32) : xm Int32 := b179_0 F (some this) p0
theorem t179 {sc : Nat × (Nat → Int32)} {F : Nat} {this : Nat} {p0 : Int32} {h : xv_H} {r : Int32} {h' : xv_H} (e : m179 F this p0 h = some (r, h')) : xr sc 179 [.ref this, .int p0] h (fun v g => v = some (.int r) ∧ g = h') := by
  have e0 : xv_ent (xt_mx 179) [.ref this, .int p0] = [some (va_rf (some this)), some (.int p0), none, none] := by simp [xv_ent, xv_sl, va_rf_cat, cat_int, cat_long, cat_ref, cat_null, va_rf_some, show xt_mx 179 = 4 from rfl]
  unfold xr
  rw [e0]
  exact t179_0 e
-- CellTreeModel.restart(I)Z
def b180_33 (F : Nat) (l0 : Option Nat) (l1 : Int32) : xm Int32 := mb (nn l0) fun v1 => mb (gr 900 v1) fun v2 => mb (nn v2) fun v3 => mb (sb v3 l1 (0 : Int32)) fun _ => mb (bz (1 : Int32)) fun _ => mr (1 : Int32)
theorem t180_33 {sc : Nat × (Nat → Int32)} {F : Nat} {r : Int32} {h' : xv_H} {l0 : Option Nat} {l1 : Int32} {h : xv_H} (e : b180_33 F l0 l1 h = some (r, h')) : xx sc 180 33 [some (va_rf l0), some (.int l1)] [] h (fun v g => v = some (.int r) ∧ g = h') := by
  unfold b180_33 at e
  refine xo_aload_nQ (w := l0) rfl rfl ?_
  refine d_nn e (fun v1 g e1 => ?_)
  subst g
  replace e := e1
  clear e1
  refine d_getr rfl e (fun v2 e => ?_)
  refine xo_iload_n rfl rfl ?_
  refine xo_iconstV (x := 0) rfl (by decide) ?_
  refine d_nn e (fun v3 g e1 => ?_)
  subst g
  replace e := e1
  clear e1
  refine d_bast rfl e (fun h e => ?_)
  refine xo_iconstV (x := 1) rfl (by decide) ?_
  exact d_zret rfl e
def b180_31 (F : Nat) : xm Int32 := mb (bz (0 : Int32)) fun _ => mr (0 : Int32)
theorem t180_31 {sc : Nat × (Nat → Int32)} {F : Nat} {r : Int32} {h' : xv_H} {d0 d1 : Option Value} {h : xv_H} (e : b180_31 F h = some (r, h')) : xx sc 180 31 [d0, d1] [] h (fun v g => v = some (.int r) ∧ g = h') := by
  unfold b180_31 at e
  refine xo_iconstV (x := 0) rfl (by decide) ?_
  exact d_zret rfl e
def b180_27 (F : Nat) (s0 : Int32) (s1 : Option Nat) (l0 : Option Nat) (l1 : Int32) : xm Int32 := mb (nn s1) fun v1 => mb (lb v1 s0) fun v2 => if ¬ v2 = 0 then b180_33 F l0 l1 else b180_31 F
theorem t180_27 {sc : Nat × (Nat → Int32)} {F : Nat} {r : Int32} {h' : xv_H} {s0 : Int32} {s1 : Option Nat} {l0 : Option Nat} {l1 : Int32} {h : xv_H} (e : b180_27 F s0 s1 l0 l1 h = some (r, h')) : xx sc 180 27 [some (va_rf l0), some (.int l1)] [.int s0, va_rf s1] h (fun v g => v = some (.int r) ∧ g = h') := by
  unfold b180_27 at e
  refine d_nn e (fun v1 g e1 => ?_)
  subst g
  replace e := e1
  clear e1
  refine d_bald rfl e (fun v2 e => ?_)
  refine d_if_ne rfl rfl e (fun _ e => ?_) (fun _ e => ?_)
  · exact t180_33 e
  · exact t180_31 e
def b180_26 (F : Nat) (s0 : Option Nat) (l0 : Option Nat) (l1 : Int32) : xm Int32 := b180_27 F l1 s0 l0 l1
theorem t180_26 {sc : Nat × (Nat → Int32)} {F : Nat} {r : Int32} {h' : xv_H} {s0 : Option Nat} {l0 : Option Nat} {l1 : Int32} {h : xv_H} (e : b180_26 F s0 l0 l1 h = some (r, h')) : xx sc 180 26 [some (va_rf l0), some (.int l1)] [va_rf s0] h (fun v g => v = some (.int r) ∧ g = h') := by
  unfold b180_26 at e
  refine xo_iload_n rfl rfl ?_
  exact t180_27 e
def b180_22 (F : Nat) (s0 : Option Nat) (l0 : Option Nat) (l1 : Int32) : xm Int32 := b180_27 F (0 : Int32) s0 l0 l1
theorem t180_22 {sc : Nat × (Nat → Int32)} {F : Nat} {r : Int32} {h' : xv_H} {s0 : Option Nat} {l0 : Option Nat} {l1 : Int32} {h : xv_H} (e : b180_22 F s0 l0 l1 h = some (r, h')) : xx sc 180 22 [some (va_rf l0), some (.int l1)] [va_rf s0] h (fun v g => v = some (.int r) ∧ g = h') := by
  unfold b180_22 at e
  refine xo_iconstV (x := 0) rfl (by decide) ?_
  refine xo_goto rfl rfl ?_
  exact t180_27 e
def b180_17 (F : Nat) (s0 : Option Nat) (l0 : Option Nat) (l1 : Int32) : xm Int32 := if l1 ≤ (4 : Int32) then b180_26 F s0 l0 l1 else b180_22 F s0 l0 l1
theorem t180_17 {sc : Nat × (Nat → Int32)} {F : Nat} {r : Int32} {h' : xv_H} {s0 : Option Nat} {l0 : Option Nat} {l1 : Int32} {h : xv_H} (e : b180_17 F s0 l0 l1 h = some (r, h')) : xx sc 180 17 [some (va_rf l0), some (.int l1)] [va_rf s0] h (fun v g => v = some (.int r) ∧ g = h') := by
  unfold b180_17 at e
  refine xo_iload_n rfl rfl ?_
  refine xo_iconstV (x := 4) rfl (by decide) ?_
  refine d_icmp_le rfl rfl e (fun _ e => ?_) (fun _ e => ?_)
  · exact t180_26 e
  · exact t180_22 e
def b180_9 (F : Nat) (l0 : Option Nat) (l1 : Int32) : xm Int32 := mb (nn l0) fun v1 => mb (gr 900 v1) fun v2 => if l1 < 0 then b180_22 F v2 (some v1) l1 else b180_17 F v2 (some v1) l1
theorem t180_9 {sc : Nat × (Nat → Int32)} {F : Nat} {r : Int32} {h' : xv_H} {l0 : Option Nat} {l1 : Int32} {h : xv_H} (e : b180_9 F l0 l1 h = some (r, h')) : xx sc 180 9 [some (va_rf l0), some (.int l1)] [] h (fun v g => v = some (.int r) ∧ g = h') := by
  unfold b180_9 at e
  refine xo_aload_nQ (w := l0) rfl rfl ?_
  refine d_nn e (fun v1 g e1 => ?_)
  subst g
  replace e := e1
  clear e1
  refine d_getr rfl e (fun v2 e => ?_)
  refine xo_iload_n rfl rfl ?_
  refine d_if_lt rfl rfl e (fun _ e => ?_) (fun _ e => ?_)
  · exact t180_22 e
  · exact t180_17 e
def b180_0 (F : Nat) (l0 : Option Nat) (l1 : Int32) : xm Int32 := mb (m127 F l1 (0 : Int32) (4 : Int32)) fun v1 => if v1 = 0 then b180_31 F else b180_9 F l0 l1
theorem t180_0 {sc : Nat × (Nat → Int32)} {F : Nat} {r : Int32} {h' : xv_H} {l0 : Option Nat} {l1 : Int32} {h : xv_H} (e : b180_0 F l0 l1 h = some (r, h')) : xx sc 180 0 [some (va_rf l0), some (.int l1)] [] h (fun v g => v = some (.int r) ∧ g = h') := by
  unfold b180_0 at e
  refine xo_iload_n rfl rfl ?_
  refine xo_iconstV (x := 0) rfl (by decide) ?_
  refine xo_iconstV (x := 4) rfl (by decide) ?_
  refine d_static_i (av := [.int l1, .int (0 : Int32), .int (4 : Int32)]) (rest := []) rfl ⟨by decide, by decide, by decide⟩ rfl rfl (by simp [xv_fit, va_rf_cat, cat_int, cat_long, cat_ref, cat_null, show xt_mx 127 = 3 from rfl, show xt_lg 127 = [] from rfl]) (by simp [xv_room, va_rf_cat, cat_int, cat_long, cat_ref, cat_null]) (fun x0 h1 e1 => t127 e1) e (fun v1 h e => ?_)
  refine d_if_eq rfl rfl e (fun _ e => ?_) (fun _ e => ?_)
  · exact t180_31 e
  · exact t180_9 e
def m180 (F : Nat) (this : Nat) (p0 : Int32) : xm Int32 := b180_0 F (some this) p0
theorem t180 {sc : Nat × (Nat → Int32)} {F : Nat} {this : Nat} {p0 : Int32} {h : xv_H} {r : Int32} {h' : xv_H} (e : m180 F this p0 h = some (r, h')) : xr sc 180 [.ref this, .int p0] h (fun v g => v = some (.int r) ∧ g = h') := by
  have e0 : xv_ent (xt_mx 180) [.ref this, .int p0] = [some (va_rf (some this)), some (.int p0)] := by simp [xv_ent, xv_sl, va_rf_cat, cat_int, cat_long, cat_ref, cat_null, va_rf_some, show xt_mx 180 = 2 from rfl]
  unfold xr
  rw [e0]
  exact t180_0 e
-- CellTreeModel.work(I)I
def b181_19 (F : Nat) (s0 : Int32) : xm Int32 := mr s0
theorem t181_19 {sc : Nat × (Nat → Int32)} {F : Nat} {r : Int32} {h' : xv_H} {s0 : Int32} {d0 d1 : Option Value} {h : xv_H} (e : b181_19 F s0 h = some (r, h')) : xx sc 181 19 [d0, d1] [.int s0] h (fun v g => v = some (.int r) ∧ g = h') := by
  unfold b181_19 at e
  exact d_iret rfl e
def b181_18 (F : Nat) : xm Int32 := b181_19 F (-1 : Int32)
theorem t181_18 {sc : Nat × (Nat → Int32)} {F : Nat} {r : Int32} {h' : xv_H} {d0 d1 : Option Value} {h : xv_H} (e : b181_18 F h = some (r, h')) : xx sc 181 18 [d0, d1] [] h (fun v g => v = some (.int r) ∧ g = h') := by
  unfold b181_18 at e
  refine xo_iconstV (x := (-1)) rfl (by decide) ?_
  exact t181_19 e
def b181_9 (F : Nat) (l0 : Option Nat) (l1 : Int32) : xm Int32 := mb (nn l0) fun v1 => mb (gr 926 v1) fun v2 => mb (nn v2) fun v3 => mb (li v3 l1) fun v4 => b181_19 F v4
theorem t181_9 {sc : Nat × (Nat → Int32)} {F : Nat} {r : Int32} {h' : xv_H} {l0 : Option Nat} {l1 : Int32} {h : xv_H} (e : b181_9 F l0 l1 h = some (r, h')) : xx sc 181 9 [some (va_rf l0), some (.int l1)] [] h (fun v g => v = some (.int r) ∧ g = h') := by
  unfold b181_9 at e
  refine xo_aload_nQ (w := l0) rfl rfl ?_
  refine d_nn e (fun v1 g e1 => ?_)
  subst g
  replace e := e1
  clear e1
  refine d_getr rfl e (fun v2 e => ?_)
  refine xo_iload_n rfl rfl ?_
  refine d_nn e (fun v3 g e1 => ?_)
  subst g
  replace e := e1
  clear e1
  refine d_iald rfl e (fun v4 e => ?_)
  refine xo_goto rfl rfl ?_
  exact t181_19 e
def b181_0 (F : Nat) (l0 : Option Nat) (l1 : Int32) : xm Int32 := mb (m127 F l1 (0 : Int32) (1 : Int32)) fun v1 => if v1 = 0 then b181_18 F else b181_9 F l0 l1
theorem t181_0 {sc : Nat × (Nat → Int32)} {F : Nat} {r : Int32} {h' : xv_H} {l0 : Option Nat} {l1 : Int32} {h : xv_H} (e : b181_0 F l0 l1 h = some (r, h')) : xx sc 181 0 [some (va_rf l0), some (.int l1)] [] h (fun v g => v = some (.int r) ∧ g = h') := by
  unfold b181_0 at e
  refine xo_iload_n rfl rfl ?_
  refine xo_iconstV (x := 0) rfl (by decide) ?_
  refine xo_iconstV (x := 1) rfl (by decide) ?_
  refine d_static_i (av := [.int l1, .int (0 : Int32), .int (1 : Int32)]) (rest := []) rfl ⟨by decide, by decide, by decide⟩ rfl rfl (by simp [xv_fit, va_rf_cat, cat_int, cat_long, cat_ref, cat_null, show xt_mx 127 = 3 from rfl, show xt_lg 127 = [] from rfl]) (by simp [xv_room, va_rf_cat, cat_int, cat_long, cat_ref, cat_null]) (fun x0 h1 e1 => t127 e1) e (fun v1 h e => ?_)
  refine d_if_eq rfl rfl e (fun _ e => ?_) (fun _ e => ?_)
  · exact t181_18 e
  · exact t181_9 e
def m181 (F : Nat) (this : Nat) (p0 : Int32) : xm Int32 := b181_0 F (some this) p0
theorem t181 {sc : Nat × (Nat → Int32)} {F : Nat} {this : Nat} {p0 : Int32} {h : xv_H} {r : Int32} {h' : xv_H} (e : m181 F this p0 h = some (r, h')) : xr sc 181 [.ref this, .int p0] h (fun v g => v = some (.int r) ∧ g = h') := by
  have e0 : xv_ent (xt_mx 181) [.ref this, .int p0] = [some (va_rf (some this)), some (.int p0)] := by simp [xv_ent, xv_sl, va_rf_cat, cat_int, cat_long, cat_ref, cat_null, va_rf_some, show xt_mx 181 = 2 from rfl]
  unfold xr
  rw [e0]
  exact t181_0 e
-- CellTreeModel.about(II)I
def b182_111 (F : Nat) : xm Int32 := mr (-1 : Int32)
theorem t182_111 {sc : Nat × (Nat → Int32)} {F : Nat} {r : Int32} {h' : xv_H} {d0 d1 d2 : Option Value} {h : xv_H} (e : b182_111 F h = some (r, h')) : xx sc 182 111 [d0, d1, d2] [] h (fun v g => v = some (.int r) ∧ g = h') := by
  unfold b182_111 at e
  refine xo_iconstV (x := (-1)) rfl (by decide) ?_
  exact d_iret rfl e
def b182_104 (F : Nat) (l0 : Option Nat) (l1 : Int32) : xm Int32 := mb (nn l0) fun v1 => mb (gr 924 v1) fun v2 => mb (nn v2) fun v3 => mb (li v3 l1) fun v4 => mr v4
theorem t182_104 {sc : Nat × (Nat → Int32)} {F : Nat} {r : Int32} {h' : xv_H} {l0 : Option Nat} {l1 : Int32} {d2 : Option Value} {h : xv_H} (e : b182_104 F l0 l1 h = some (r, h')) : xx sc 182 104 [some (va_rf l0), some (.int l1), d2] [] h (fun v g => v = some (.int r) ∧ g = h') := by
  unfold b182_104 at e
  refine xo_aload_nQ (w := l0) rfl rfl ?_
  refine d_nn e (fun v1 g e1 => ?_)
  subst g
  replace e := e1
  clear e1
  refine d_getr rfl e (fun v2 e => ?_)
  refine xo_iload_n rfl rfl ?_
  refine d_nn e (fun v3 g e1 => ?_)
  subst g
  replace e := e1
  clear e1
  refine d_iald rfl e (fun v4 e => ?_)
  exact d_iret rfl e
def b182_97 (F : Nat) (l0 : Option Nat) (l1 : Int32) : xm Int32 := mb (nn l0) fun v1 => mb (gr 934 v1) fun v2 => mb (nn v2) fun v3 => mb (li v3 l1) fun v4 => mr v4
theorem t182_97 {sc : Nat × (Nat → Int32)} {F : Nat} {r : Int32} {h' : xv_H} {l0 : Option Nat} {l1 : Int32} {d2 : Option Value} {h : xv_H} (e : b182_97 F l0 l1 h = some (r, h')) : xx sc 182 97 [some (va_rf l0), some (.int l1), d2] [] h (fun v g => v = some (.int r) ∧ g = h') := by
  unfold b182_97 at e
  refine xo_aload_nQ (w := l0) rfl rfl ?_
  refine d_nn e (fun v1 g e1 => ?_)
  subst g
  replace e := e1
  clear e1
  refine d_getr rfl e (fun v2 e => ?_)
  refine xo_iload_n rfl rfl ?_
  refine d_nn e (fun v3 g e1 => ?_)
  subst g
  replace e := e1
  clear e1
  refine d_iald rfl e (fun v4 e => ?_)
  exact d_iret rfl e
def b182_96 (F : Nat) (s0 : Int32) : xm Int32 := mr s0
theorem t182_96 {sc : Nat × (Nat → Int32)} {F : Nat} {r : Int32} {h' : xv_H} {s0 : Int32} {d0 d1 d2 : Option Value} {h : xv_H} (e : b182_96 F s0 h = some (r, h')) : xx sc 182 96 [d0, d1, d2] [.int s0] h (fun v g => v = some (.int r) ∧ g = h') := by
  unfold b182_96 at e
  exact d_iret rfl e
def b182_95 (F : Nat) : xm Int32 := b182_96 F (0 : Int32)
theorem t182_95 {sc : Nat × (Nat → Int32)} {F : Nat} {r : Int32} {h' : xv_H} {d0 d1 d2 : Option Value} {h : xv_H} (e : b182_95 F h = some (r, h')) : xx sc 182 95 [d0, d1, d2] [] h (fun v g => v = some (.int r) ∧ g = h') := by
  unfold b182_95 at e
  refine xo_iconstV (x := 0) rfl (by decide) ?_
  exact t182_96 e
def b182_86 (F : Nat) (l0 : Option Nat) (l1 : Int32) : xm Int32 := mb (nn l0) fun v1 => mb (gr 939 v1) fun v2 => mb (nn v2) fun v3 => mb (li v3 l1) fun v4 => b182_96 F v4
theorem t182_86 {sc : Nat × (Nat → Int32)} {F : Nat} {r : Int32} {h' : xv_H} {l0 : Option Nat} {l1 : Int32} {d2 : Option Value} {h : xv_H} (e : b182_86 F l0 l1 h = some (r, h')) : xx sc 182 86 [some (va_rf l0), some (.int l1), d2] [] h (fun v g => v = some (.int r) ∧ g = h') := by
  unfold b182_86 at e
  refine xo_aload_nQ (w := l0) rfl rfl ?_
  refine d_nn e (fun v1 g e1 => ?_)
  subst g
  replace e := e1
  clear e1
  refine d_getr rfl e (fun v2 e => ?_)
  refine xo_iload_n rfl rfl ?_
  refine d_nn e (fun v3 g e1 => ?_)
  subst g
  replace e := e1
  clear e1
  refine d_iald rfl e (fun v4 e => ?_)
  refine xo_goto rfl rfl ?_
  exact t182_96 e
def b182_76 (F : Nat) (l0 : Option Nat) (l1 : Int32) : xm Int32 := mb (nn l0) fun v1 => mb (gr 925 v1) fun v2 => mb (nn v2) fun v3 => mb (li v3 l1) fun v4 => if ¬ v4 = (4 : Int32) then b182_95 F else b182_86 F (some v1) l1
theorem t182_76 {sc : Nat × (Nat → Int32)} {F : Nat} {r : Int32} {h' : xv_H} {l0 : Option Nat} {l1 : Int32} {d2 : Option Value} {h : xv_H} (e : b182_76 F l0 l1 h = some (r, h')) : xx sc 182 76 [some (va_rf l0), some (.int l1), d2] [] h (fun v g => v = some (.int r) ∧ g = h') := by
  unfold b182_76 at e
  refine xo_aload_nQ (w := l0) rfl rfl ?_
  refine d_nn e (fun v1 g e1 => ?_)
  subst g
  replace e := e1
  clear e1
  refine d_getr rfl e (fun v2 e => ?_)
  refine xo_iload_n rfl rfl ?_
  refine d_nn e (fun v3 g e1 => ?_)
  subst g
  replace e := e1
  clear e1
  refine d_iald rfl e (fun v4 e => ?_)
  refine xo_iconstV (x := 4) rfl (by decide) ?_
  refine d_icmp_ne rfl rfl e (fun _ e => ?_) (fun _ e => ?_)
  · exact t182_95 e
  · exact t182_86 e
def b182_69 (F : Nat) (l0 : Option Nat) (l1 : Int32) : xm Int32 := mb (nn l0) fun v1 => mb (gr 927 v1) fun v2 => mb (nn v2) fun v3 => mb (li v3 l1) fun v4 => mr v4
theorem t182_69 {sc : Nat × (Nat → Int32)} {F : Nat} {r : Int32} {h' : xv_H} {l0 : Option Nat} {l1 : Int32} {d2 : Option Value} {h : xv_H} (e : b182_69 F l0 l1 h = some (r, h')) : xx sc 182 69 [some (va_rf l0), some (.int l1), d2] [] h (fun v g => v = some (.int r) ∧ g = h') := by
  unfold b182_69 at e
  refine xo_aload_nQ (w := l0) rfl rfl ?_
  refine d_nn e (fun v1 g e1 => ?_)
  subst g
  replace e := e1
  clear e1
  refine d_getr rfl e (fun v2 e => ?_)
  refine xo_iload_n rfl rfl ?_
  refine d_nn e (fun v3 g e1 => ?_)
  subst g
  replace e := e1
  clear e1
  refine d_iald rfl e (fun v4 e => ?_)
  exact d_iret rfl e
def b182_68 (F : Nat) (s0 : Int32) : xm Int32 := mr s0
theorem t182_68 {sc : Nat × (Nat → Int32)} {F : Nat} {r : Int32} {h' : xv_H} {s0 : Int32} {d0 d1 d2 : Option Value} {h : xv_H} (e : b182_68 F s0 h = some (r, h')) : xx sc 182 68 [d0, d1, d2] [.int s0] h (fun v g => v = some (.int r) ∧ g = h') := by
  unfold b182_68 at e
  exact d_iret rfl e
def b182_67 (F : Nat) : xm Int32 := b182_68 F (0 : Int32)
theorem t182_67 {sc : Nat × (Nat → Int32)} {F : Nat} {r : Int32} {h' : xv_H} {d0 d1 d2 : Option Value} {h : xv_H} (e : b182_67 F h = some (r, h')) : xx sc 182 67 [d0, d1, d2] [] h (fun v g => v = some (.int r) ∧ g = h') := by
  unfold b182_67 at e
  refine xo_iconstV (x := 0) rfl (by decide) ?_
  exact t182_68 e
def b182_58 (F : Nat) (l0 : Option Nat) (l1 : Int32) : xm Int32 := mb (nn l0) fun v1 => mb (gr 932 v1) fun v2 => mb (nn v2) fun v3 => mb (li v3 l1) fun v4 => b182_68 F v4
theorem t182_58 {sc : Nat × (Nat → Int32)} {F : Nat} {r : Int32} {h' : xv_H} {l0 : Option Nat} {l1 : Int32} {d2 : Option Value} {h : xv_H} (e : b182_58 F l0 l1 h = some (r, h')) : xx sc 182 58 [some (va_rf l0), some (.int l1), d2] [] h (fun v g => v = some (.int r) ∧ g = h') := by
  unfold b182_58 at e
  refine xo_aload_nQ (w := l0) rfl rfl ?_
  refine d_nn e (fun v1 g e1 => ?_)
  subst g
  replace e := e1
  clear e1
  refine d_getr rfl e (fun v2 e => ?_)
  refine xo_iload_n rfl rfl ?_
  refine d_nn e (fun v3 g e1 => ?_)
  subst g
  replace e := e1
  clear e1
  refine d_iald rfl e (fun v4 e => ?_)
  refine xo_goto rfl rfl ?_
  exact t182_68 e
def b182_48 (F : Nat) (l0 : Option Nat) (l1 : Int32) : xm Int32 := mb (nn l0) fun v1 => mb (gr 926 v1) fun v2 => mb (nn v2) fun v3 => mb (li v3 l1) fun v4 => if ¬ v4 = (3 : Int32) then b182_67 F else b182_58 F (some v1) l1
theorem t182_48 {sc : Nat × (Nat → Int32)} {F : Nat} {r : Int32} {h' : xv_H} {l0 : Option Nat} {l1 : Int32} {d2 : Option Value} {h : xv_H} (e : b182_48 F l0 l1 h = some (r, h')) : xx sc 182 48 [some (va_rf l0), some (.int l1), d2] [] h (fun v g => v = some (.int r) ∧ g = h') := by
  unfold b182_48 at e
  refine xo_aload_nQ (w := l0) rfl rfl ?_
  refine d_nn e (fun v1 g e1 => ?_)
  subst g
  replace e := e1
  clear e1
  refine d_getr rfl e (fun v2 e => ?_)
  refine xo_iload_n rfl rfl ?_
  refine d_nn e (fun v3 g e1 => ?_)
  subst g
  replace e := e1
  clear e1
  refine d_iald rfl e (fun v4 e => ?_)
  refine xo_iconstV (x := 3) rfl (by decide) ?_
  refine d_icmp_ne rfl rfl e (fun _ e => ?_) (fun _ e => ?_)
  · exact t182_67 e
  · exact t182_58 e
def b182_11 (F : Nat) (l0 : Option Nat) (l1 : Int32) (l2 : Int32) : xm Int32 := if l2 = (0 : Int32) then b182_48 F l0 l1 else if l2 = (1 : Int32) then b182_69 F l0 l1 else if l2 = (2 : Int32) then b182_76 F l0 l1 else if l2 = (3 : Int32) then b182_97 F l0 l1 else if l2 = (4 : Int32) then b182_104 F l0 l1 else b182_111 F
theorem t182_11 {sc : Nat × (Nat → Int32)} {F : Nat} {r : Int32} {h' : xv_H} {l0 : Option Nat} {l1 : Int32} {l2 : Int32} {h : xv_H} (e : b182_11 F l0 l1 l2 h = some (r, h')) : xx sc 182 11 [some (va_rf l0), some (.int l1), some (.int l2)] [] h (fun v g => v = some (.int r) ∧ g = h') := by
  unfold b182_11 at e
  refine xo_iload_n rfl rfl ?_
  by_cases g0 : l2 = (0 : Int32)
  · rw [if_pos g0] at e
    refine xo_tabIn rfl (by rw [g0]; decide) (by rw [g0]; rfl) rfl ?_
    exact t182_48 e
  rw [if_neg g0] at e
  by_cases g1 : l2 = (1 : Int32)
  · rw [if_pos g1] at e
    refine xo_tabIn rfl (by rw [g1]; decide) (by rw [g1]; rfl) rfl ?_
    exact t182_69 e
  rw [if_neg g1] at e
  by_cases g2 : l2 = (2 : Int32)
  · rw [if_pos g2] at e
    refine xo_tabIn rfl (by rw [g2]; decide) (by rw [g2]; rfl) rfl ?_
    exact t182_76 e
  rw [if_neg g2] at e
  by_cases g3 : l2 = (3 : Int32)
  · rw [if_pos g3] at e
    refine xo_tabIn rfl (by rw [g3]; decide) (by rw [g3]; rfl) rfl ?_
    exact t182_97 e
  rw [if_neg g3] at e
  by_cases g4 : l2 = (4 : Int32)
  · rw [if_pos g4] at e
    refine xo_tabIn rfl (by rw [g4]; decide) (by rw [g4]; rfl) rfl ?_
    exact t182_104 e
  rw [if_neg g4] at e
  refine xo_tabOut rfl (sw_out 4 (by decide) (fun k hk => by rcases k with _ | _ | _ | _ | _ | k <;> first | assumption | omega)) rfl ?_
  exact t182_111 e
def b182_9 (F : Nat) : xm Int32 := mr (-1 : Int32)
theorem t182_9 {sc : Nat × (Nat → Int32)} {F : Nat} {r : Int32} {h' : xv_H} {d0 d1 d2 : Option Value} {h : xv_H} (e : b182_9 F h = some (r, h')) : xx sc 182 9 [d0, d1, d2] [] h (fun v g => v = some (.int r) ∧ g = h') := by
  unfold b182_9 at e
  refine xo_iconstV (x := (-1)) rfl (by decide) ?_
  exact d_iret rfl e
def b182_0 (F : Nat) (l0 : Option Nat) (l1 : Int32) (l2 : Int32) : xm Int32 := mb (m127 F l1 (0 : Int32) (1 : Int32)) fun v1 => if ¬ v1 = 0 then b182_11 F l0 l1 l2 else b182_9 F
theorem t182_0 {sc : Nat × (Nat → Int32)} {F : Nat} {r : Int32} {h' : xv_H} {l0 : Option Nat} {l1 : Int32} {l2 : Int32} {h : xv_H} (e : b182_0 F l0 l1 l2 h = some (r, h')) : xx sc 182 0 [some (va_rf l0), some (.int l1), some (.int l2)] [] h (fun v g => v = some (.int r) ∧ g = h') := by
  unfold b182_0 at e
  refine xo_iload_n rfl rfl ?_
  refine xo_iconstV (x := 0) rfl (by decide) ?_
  refine xo_iconstV (x := 1) rfl (by decide) ?_
  refine d_static_i (av := [.int l1, .int (0 : Int32), .int (1 : Int32)]) (rest := []) rfl ⟨by decide, by decide, by decide⟩ rfl rfl (by simp [xv_fit, va_rf_cat, cat_int, cat_long, cat_ref, cat_null, show xt_mx 127 = 3 from rfl, show xt_lg 127 = [] from rfl]) (by simp [xv_room, va_rf_cat, cat_int, cat_long, cat_ref, cat_null]) (fun x0 h1 e1 => t127 e1) e (fun v1 h e => ?_)
  refine d_if_ne rfl rfl e (fun _ e => ?_) (fun _ e => ?_)
  · exact t182_11 e
  · exact t182_9 e
def m182 (F : Nat) (this : Nat) (p0 : Int32) (p1 : Int32) : xm Int32 := b182_0 F (some this) p0 p1
theorem t182 {sc : Nat × (Nat → Int32)} {F : Nat} {this : Nat} {p0 : Int32} {p1 : Int32} {h : xv_H} {r : Int32} {h' : xv_H} (e : m182 F this p0 p1 h = some (r, h')) : xr sc 182 [.ref this, .int p0, .int p1] h (fun v g => v = some (.int r) ∧ g = h') := by
  have e0 : xv_ent (xt_mx 182) [.ref this, .int p0, .int p1] = [some (va_rf (some this)), some (.int p0), some (.int p1)] := by simp [xv_ent, xv_sl, va_rf_cat, cat_int, cat_long, cat_ref, cat_null, va_rf_some, show xt_mx 182 = 3 from rfl]
  unfold xr
  rw [e0]
  exact t182_0 e
-- CellTreeModel.copy(II)I
def b183_34 (F : Nat) (s0 : Int32) : xm Int32 := mr s0
theorem t183_34 {sc : Nat × (Nat → Int32)} {F : Nat} {r : Int32} {h' : xv_H} {s0 : Int32} {d0 d1 d2 : Option Value} {h : xv_H} (e : b183_34 F s0 h = some (r, h')) : xx sc 183 34 [d0, d1, d2] [.int s0] h (fun v g => v = some (.int r) ∧ g = h') := by
  unfold b183_34 at e
  exact d_iret rfl e
def b183_33 (F : Nat) : xm Int32 := b183_34 F (-1 : Int32)
theorem t183_33 {sc : Nat × (Nat → Int32)} {F : Nat} {r : Int32} {h' : xv_H} {d0 d1 d2 : Option Value} {h : xv_H} (e : b183_33 F h = some (r, h')) : xx sc 183 33 [d0, d1, d2] [] h (fun v g => v = some (.int r) ∧ g = h') := by
  unfold b183_33 at e
  refine xo_iconstV (x := (-1)) rfl (by decide) ?_
  exact t183_34 e
def b183_19 (F : Nat) (l0 : Option Nat) (l1 : Int32) (l2 : Int32) : xm Int32 := mb (nn l0) fun v1 => mb (gr 922 v1) fun v2 => mb (nn v2) fun v3 => mb (li v3 (((24 : Int32) * l1) + l2)) fun v4 => b183_34 F v4
theorem t183_19 {sc : Nat × (Nat → Int32)} {F : Nat} {r : Int32} {h' : xv_H} {l0 : Option Nat} {l1 : Int32} {l2 : Int32} {h : xv_H} (e : b183_19 F l0 l1 l2 h = some (r, h')) : xx sc 183 19 [some (va_rf l0), some (.int l1), some (.int l2)] [] h (fun v g => v = some (.int r) ∧ g = h') := by
  unfold b183_19 at e
  refine xo_aload_nQ (w := l0) rfl rfl ?_
  refine d_nn e (fun v1 g e1 => ?_)
  subst g
  replace e := e1
  clear e1
  refine d_getr rfl e (fun v2 e => ?_)
  refine xo_bipushV (x := 24) rfl (by decide) ?_
  refine xo_iload_n rfl rfl ?_
  refine xo_imul rfl ?_
  refine xo_iload_n rfl rfl ?_
  refine xo_iadd rfl ?_
  refine d_nn e (fun v3 g e1 => ?_)
  subst g
  replace e := e1
  clear e1
  refine d_iald rfl e (fun v4 e => ?_)
  refine xo_goto rfl rfl ?_
  exact t183_34 e
def b183_9 (F : Nat) (l0 : Option Nat) (l1 : Int32) (l2 : Int32) : xm Int32 := mb (m127 F l2 (0 : Int32) (23 : Int32)) fun v1 => if v1 = 0 then b183_33 F else b183_19 F l0 l1 l2
theorem t183_9 {sc : Nat × (Nat → Int32)} {F : Nat} {r : Int32} {h' : xv_H} {l0 : Option Nat} {l1 : Int32} {l2 : Int32} {h : xv_H} (e : b183_9 F l0 l1 l2 h = some (r, h')) : xx sc 183 9 [some (va_rf l0), some (.int l1), some (.int l2)] [] h (fun v g => v = some (.int r) ∧ g = h') := by
  unfold b183_9 at e
  refine xo_iload_n rfl rfl ?_
  refine xo_iconstV (x := 0) rfl (by decide) ?_
  refine xo_bipushV (x := 23) rfl (by decide) ?_
  refine d_static_i (av := [.int l2, .int (0 : Int32), .int (23 : Int32)]) (rest := []) rfl ⟨by decide, by decide, by decide⟩ rfl rfl (by simp [xv_fit, va_rf_cat, cat_int, cat_long, cat_ref, cat_null, show xt_mx 127 = 3 from rfl, show xt_lg 127 = [] from rfl]) (by simp [xv_room, va_rf_cat, cat_int, cat_long, cat_ref, cat_null]) (fun x0 h1 e1 => t127 e1) e (fun v1 h e => ?_)
  refine d_if_eq rfl rfl e (fun _ e => ?_) (fun _ e => ?_)
  · exact t183_33 e
  · exact t183_19 e
def b183_0 (F : Nat) (l0 : Option Nat) (l1 : Int32) (l2 : Int32) : xm Int32 := mb (m127 F l1 (0 : Int32) (1 : Int32)) fun v1 => if v1 = 0 then b183_33 F else b183_9 F l0 l1 l2
theorem t183_0 {sc : Nat × (Nat → Int32)} {F : Nat} {r : Int32} {h' : xv_H} {l0 : Option Nat} {l1 : Int32} {l2 : Int32} {h : xv_H} (e : b183_0 F l0 l1 l2 h = some (r, h')) : xx sc 183 0 [some (va_rf l0), some (.int l1), some (.int l2)] [] h (fun v g => v = some (.int r) ∧ g = h') := by
  unfold b183_0 at e
  refine xo_iload_n rfl rfl ?_
  refine xo_iconstV (x := 0) rfl (by decide) ?_
  refine xo_iconstV (x := 1) rfl (by decide) ?_
  refine d_static_i (av := [.int l1, .int (0 : Int32), .int (1 : Int32)]) (rest := []) rfl ⟨by decide, by decide, by decide⟩ rfl rfl (by simp [xv_fit, va_rf_cat, cat_int, cat_long, cat_ref, cat_null, show xt_mx 127 = 3 from rfl, show xt_lg 127 = [] from rfl]) (by simp [xv_room, va_rf_cat, cat_int, cat_long, cat_ref, cat_null]) (fun x0 h1 e1 => t127 e1) e (fun v1 h e => ?_)
  refine d_if_eq rfl rfl e (fun _ e => ?_) (fun _ e => ?_)
  · exact t183_33 e
  · exact t183_9 e
def m183 (F : Nat) (this : Nat) (p0 : Int32) (p1 : Int32) : xm Int32 := b183_0 F (some this) p0 p1
theorem t183 {sc : Nat × (Nat → Int32)} {F : Nat} {this : Nat} {p0 : Int32} {p1 : Int32} {h : xv_H} {r : Int32} {h' : xv_H} (e : m183 F this p0 p1 h = some (r, h')) : xr sc 183 [.ref this, .int p0, .int p1] h (fun v g => v = some (.int r) ∧ g = h') := by
  have e0 : xv_ent (xt_mx 183) [.ref this, .int p0, .int p1] = [some (va_rf (some this)), some (.int p0), some (.int p1)] := by simp [xv_ent, xv_sl, va_rf_cat, cat_int, cat_long, cat_ref, cat_null, va_rf_some, show xt_mx 183 = 3 from rfl]
  unfold xr
  rw [e0]
  exact t183_0 e
-- CellTreeModel.cell(II)I
def b184_93 (F : Nat) : xm Int32 := mr (-1 : Int32)
theorem t184_93 {sc : Nat × (Nat → Int32)} {F : Nat} {r : Int32} {h' : xv_H} {d0 d1 d2 d3 d4 : Option Value} {h : xv_H} (e : b184_93 F h = some (r, h')) : xx sc 184 93 [d0, d1, d2, d3, d4] [] h (fun v g => v = some (.int r) ∧ g = h') := by
  unfold b184_93 at e
  refine xo_iconstV (x := (-1)) rfl (by decide) ?_
  exact d_iret rfl e
def b184_88 (F : Nat) (l3 : Int64) : xm Int32 := mb (m154 F l3) fun v1 => mr v1
theorem t184_88 {sc : Nat × (Nat → Int32)} {F : Nat} {r : Int32} {h' : xv_H} {l3 : Int64} {d0 d1 d2 d4 : Option Value} {h : xv_H} (e : b184_88 F l3 h = some (r, h')) : xx sc 184 88 [d0, d1, d2, some (.long l3), d4] [] h (fun v g => v = some (.int r) ∧ g = h') := by
  unfold b184_88 at e
  refine xo_lload_n rfl rfl ?_
  refine d_static_i (av := [.long l3]) (rest := []) rfl ⟨by decide, by decide, by decide⟩ rfl rfl (by simp [xv_fit, va_rf_cat, cat_int, cat_long, cat_ref, cat_null, show xt_mx 154 = 2 from rfl, show xt_lg 154 = [0] from rfl]) (by simp [xv_room, va_rf_cat, cat_int, cat_long, cat_ref, cat_null]) (fun x0 h1 e1 => t154 e1) e (fun v1 h e => ?_)
  exact d_iret rfl e
def b184_83 (F : Nat) (l3 : Int64) : xm Int32 := mb (m149 F l3) fun v1 => mr v1
theorem t184_83 {sc : Nat × (Nat → Int32)} {F : Nat} {r : Int32} {h' : xv_H} {l3 : Int64} {d0 d1 d2 d4 : Option Value} {h : xv_H} (e : b184_83 F l3 h = some (r, h')) : xx sc 184 83 [d0, d1, d2, some (.long l3), d4] [] h (fun v g => v = some (.int r) ∧ g = h') := by
  unfold b184_83 at e
  refine xo_lload_n rfl rfl ?_
  refine d_static_i (av := [.long l3]) (rest := []) rfl ⟨by decide, by decide, by decide⟩ rfl rfl (by simp [xv_fit, va_rf_cat, cat_int, cat_long, cat_ref, cat_null, show xt_mx 149 = 2 from rfl, show xt_lg 149 = [0] from rfl]) (by simp [xv_room, va_rf_cat, cat_int, cat_long, cat_ref, cat_null]) (fun x0 h1 e1 => t149 e1) e (fun v1 h e => ?_)
  exact d_iret rfl e
def b184_78 (F : Nat) (l3 : Int64) : xm Int32 := mb (m146 F l3) fun v1 => mr v1
theorem t184_78 {sc : Nat × (Nat → Int32)} {F : Nat} {r : Int32} {h' : xv_H} {l3 : Int64} {d0 d1 d2 d4 : Option Value} {h : xv_H} (e : b184_78 F l3 h = some (r, h')) : xx sc 184 78 [d0, d1, d2, some (.long l3), d4] [] h (fun v g => v = some (.int r) ∧ g = h') := by
  unfold b184_78 at e
  refine xo_lload_n rfl rfl ?_
  refine d_static_i (av := [.long l3]) (rest := []) rfl ⟨by decide, by decide, by decide⟩ rfl rfl (by simp [xv_fit, va_rf_cat, cat_int, cat_long, cat_ref, cat_null, show xt_mx 146 = 2 from rfl, show xt_lg 146 = [0] from rfl]) (by simp [xv_room, va_rf_cat, cat_int, cat_long, cat_ref, cat_null]) (fun x0 h1 e1 => t146 e1) e (fun v1 h e => ?_)
  exact d_iret rfl e
def b184_72 (F : Nat) (l0 : Option Nat) (l1 : Int32) : xm Int32 := mb (nn l0) fun v1 => mb (vc 9 v1) fun _ => mb (m131 F v1 l1) fun v2 => mr v2
theorem t184_72 {sc : Nat × (Nat → Int32)} {F : Nat} {r : Int32} {h' : xv_H} {l0 : Option Nat} {l1 : Int32} {d2 d3 d4 : Option Value} {h : xv_H} (e : b184_72 F l0 l1 h = some (r, h')) : xx sc 184 72 [some (va_rf l0), some (.int l1), d2, d3, d4] [] h (fun v g => v = some (.int r) ∧ g = h') := by
  unfold b184_72 at e
  refine xo_aload_nQ (w := l0) rfl rfl ?_
  refine xo_iload_n rfl rfl ?_
  refine d_nn e (fun v1 g e1 => ?_)
  subst g
  replace e := e1
  clear e1
  refine d_virtual_i (av := [.int l1]) (rest := []) rfl ⟨by decide, by decide⟩ rfl rfl (by simp [xv_fit, va_rf_cat, cat_int, cat_long, cat_ref, cat_null, show xt_mx 131 = 6 from rfl, show xt_lg 131 = [] from rfl]) (by simp [xv_room, va_rf_cat, cat_int, cat_long, cat_ref, cat_null]) (fun x0 h1 e1 => t131 e1) e (fun v2 h e => ?_)
  exact d_iret rfl e
def b184_65 (F : Nat) (l0 : Option Nat) (l1 : Int32) : xm Int32 := mb (nn l0) fun v1 => mb (gr 902 v1) fun v2 => mb (nn v2) fun v3 => mb (li v3 l1) fun v4 => mr v4
theorem t184_65 {sc : Nat × (Nat → Int32)} {F : Nat} {r : Int32} {h' : xv_H} {l0 : Option Nat} {l1 : Int32} {d2 d3 d4 : Option Value} {h : xv_H} (e : b184_65 F l0 l1 h = some (r, h')) : xx sc 184 65 [some (va_rf l0), some (.int l1), d2, d3, d4] [] h (fun v g => v = some (.int r) ∧ g = h') := by
  unfold b184_65 at e
  refine xo_aload_nQ (w := l0) rfl rfl ?_
  refine d_nn e (fun v1 g e1 => ?_)
  subst g
  replace e := e1
  clear e1
  refine d_getr rfl e (fun v2 e => ?_)
  refine xo_iload_n rfl rfl ?_
  refine d_nn e (fun v3 g e1 => ?_)
  subst g
  replace e := e1
  clear e1
  refine d_iald rfl e (fun v4 e => ?_)
  exact d_iret rfl e
def b184_60 (F : Nat) (l3 : Int64) : xm Int32 := mb (m134 F l3) fun v1 => mr v1
theorem t184_60 {sc : Nat × (Nat → Int32)} {F : Nat} {r : Int32} {h' : xv_H} {l3 : Int64} {d0 d1 d2 d4 : Option Value} {h : xv_H} (e : b184_60 F l3 h = some (r, h')) : xx sc 184 60 [d0, d1, d2, some (.long l3), d4] [] h (fun v g => v = some (.int r) ∧ g = h') := by
  unfold b184_60 at e
  refine xo_lload_n rfl rfl ?_
  refine d_static_i (av := [.long l3]) (rest := []) rfl ⟨by decide, by decide, by decide⟩ rfl rfl (by simp [xv_fit, va_rf_cat, cat_int, cat_long, cat_ref, cat_null, show xt_mx 134 = 2 from rfl, show xt_lg 134 = [0] from rfl]) (by simp [xv_room, va_rf_cat, cat_int, cat_long, cat_ref, cat_null]) (fun x0 h1 e1 => t134 e1) e (fun v1 h e => ?_)
  exact d_iret rfl e
def b184_12 (F : Nat) (l0 : Option Nat) (l1 : Int32) (l2 : Int32) : xm Int32 := mb (nn l0) fun v1 => mb (gr 901 v1) fun v2 => mb (nn v2) fun v3 => mb (ll v3 l1) fun v4 => if l2 = (0 : Int32) then b184_60 F v4 else if l2 = (1 : Int32) then b184_65 F (some v1) l1 else if l2 = (2 : Int32) then b184_72 F (some v1) l1 else if l2 = (3 : Int32) then b184_78 F v4 else if l2 = (4 : Int32) then b184_83 F v4 else if l2 = (5 : Int32) then b184_88 F v4 else b184_93 F
theorem t184_12 {sc : Nat × (Nat → Int32)} {F : Nat} {r : Int32} {h' : xv_H} {l0 : Option Nat} {l1 : Int32} {l2 : Int32} {d3 d4 : Option Value} {h : xv_H} (e : b184_12 F l0 l1 l2 h = some (r, h')) : xx sc 184 12 [some (va_rf l0), some (.int l1), some (.int l2), d3, d4] [] h (fun v g => v = some (.int r) ∧ g = h') := by
  unfold b184_12 at e
  refine xo_aload_nQ (w := l0) rfl rfl ?_
  refine d_nn e (fun v1 g e1 => ?_)
  subst g
  replace e := e1
  clear e1
  refine d_getr rfl e (fun v2 e => ?_)
  refine xo_iload_n rfl rfl ?_
  refine d_nn e (fun v3 g e1 => ?_)
  subst g
  replace e := e1
  clear e1
  refine d_lald rfl e (fun v4 e => ?_)
  refine xo_lstore_n rfl (Nat.le_of_ble_eq_true rfl) rfl rfl ?_
  refine xo_iload_n rfl rfl ?_
  by_cases g0 : l2 = (0 : Int32)
  · rw [if_pos g0] at e
    refine xo_tabIn rfl (by rw [g0]; decide) (by rw [g0]; rfl) rfl ?_
    exact t184_60 e
  rw [if_neg g0] at e
  by_cases g1 : l2 = (1 : Int32)
  · rw [if_pos g1] at e
    refine xo_tabIn rfl (by rw [g1]; decide) (by rw [g1]; rfl) rfl ?_
    exact t184_65 e
  rw [if_neg g1] at e
  by_cases g2 : l2 = (2 : Int32)
  · rw [if_pos g2] at e
    refine xo_tabIn rfl (by rw [g2]; decide) (by rw [g2]; rfl) rfl ?_
    exact t184_72 e
  rw [if_neg g2] at e
  by_cases g3 : l2 = (3 : Int32)
  · rw [if_pos g3] at e
    refine xo_tabIn rfl (by rw [g3]; decide) (by rw [g3]; rfl) rfl ?_
    exact t184_78 e
  rw [if_neg g3] at e
  by_cases g4 : l2 = (4 : Int32)
  · rw [if_pos g4] at e
    refine xo_tabIn rfl (by rw [g4]; decide) (by rw [g4]; rfl) rfl ?_
    exact t184_83 e
  rw [if_neg g4] at e
  by_cases g5 : l2 = (5 : Int32)
  · rw [if_pos g5] at e
    refine xo_tabIn rfl (by rw [g5]; decide) (by rw [g5]; rfl) rfl ?_
    exact t184_88 e
  rw [if_neg g5] at e
  refine xo_tabOut rfl (sw_out 5 (by decide) (fun k hk => by rcases k with _ | _ | _ | _ | _ | _ | k <;> first | assumption | omega)) rfl ?_
  exact t184_93 e
def b184_10 (F : Nat) : xm Int32 := mr (-1 : Int32)
theorem t184_10 {sc : Nat × (Nat → Int32)} {F : Nat} {r : Int32} {h' : xv_H} {d0 d1 d2 d3 d4 : Option Value} {h : xv_H} (e : b184_10 F h = some (r, h')) : xx sc 184 10 [d0, d1, d2, d3, d4] [] h (fun v g => v = some (.int r) ∧ g = h') := by
  unfold b184_10 at e
  refine xo_iconstV (x := (-1)) rfl (by decide) ?_
  exact d_iret rfl e
def b184_0 (F : Nat) (l0 : Option Nat) (l1 : Int32) (l2 : Int32) : xm Int32 := mb (m127 F l1 (0 : Int32) (23 : Int32)) fun v1 => if ¬ v1 = 0 then b184_12 F l0 l1 l2 else b184_10 F
theorem t184_0 {sc : Nat × (Nat → Int32)} {F : Nat} {r : Int32} {h' : xv_H} {l0 : Option Nat} {l1 : Int32} {l2 : Int32} {d3 d4 : Option Value} {h : xv_H} (e : b184_0 F l0 l1 l2 h = some (r, h')) : xx sc 184 0 [some (va_rf l0), some (.int l1), some (.int l2), d3, d4] [] h (fun v g => v = some (.int r) ∧ g = h') := by
  unfold b184_0 at e
  refine xo_iload_n rfl rfl ?_
  refine xo_iconstV (x := 0) rfl (by decide) ?_
  refine xo_bipushV (x := 23) rfl (by decide) ?_
  refine d_static_i (av := [.int l1, .int (0 : Int32), .int (23 : Int32)]) (rest := []) rfl ⟨by decide, by decide, by decide⟩ rfl rfl (by simp [xv_fit, va_rf_cat, cat_int, cat_long, cat_ref, cat_null, show xt_mx 127 = 3 from rfl, show xt_lg 127 = [] from rfl]) (by simp [xv_room, va_rf_cat, cat_int, cat_long, cat_ref, cat_null]) (fun x0 h1 e1 => t127 e1) e (fun v1 h e => ?_)
  refine d_if_ne rfl rfl e (fun _ e => ?_) (fun _ e => ?_)
  · exact t184_12 e
  · exact t184_10 e
def m184 (F : Nat) (this : Nat) (p0 : Int32) (p1 : Int32) : xm Int32 := b184_0 F (some this) p0 p1
theorem t184 {sc : Nat × (Nat → Int32)} {F : Nat} {this : Nat} {p0 : Int32} {p1 : Int32} {h : xv_H} {r : Int32} {h' : xv_H} (e : m184 F this p0 p1 h = some (r, h')) : xr sc 184 [.ref this, .int p0, .int p1] h (fun v g => v = some (.int r) ∧ g = h') := by
  have e0 : xv_ent (xt_mx 184) [.ref this, .int p0, .int p1] = [some (va_rf (some this)), some (.int p0), some (.int p1), none, none] := by simp [xv_ent, xv_sl, va_rf_cat, cat_int, cat_long, cat_ref, cat_null, va_rf_some, show xt_mx 184 = 5 from rfl]
  unfold xr
  rw [e0]
  exact t184_0 e
-- CellTreeModel.key(II)I
def b185_57 (F : Nat) (s0 : Int32) : xm Int32 := mr s0
theorem t185_57 {sc : Nat × (Nat → Int32)} {F : Nat} {r : Int32} {h' : xv_H} {s0 : Int32} {d0 d1 d2 : Option Value} {h : xv_H} (e : b185_57 F s0 h = some (r, h')) : xx sc 185 57 [d0, d1, d2] [.int s0] h (fun v g => v = some (.int r) ∧ g = h') := by
  unfold b185_57 at e
  exact d_iret rfl e
def b185_56 (F : Nat) : xm Int32 := b185_57 F (-1 : Int32)
theorem t185_56 {sc : Nat × (Nat → Int32)} {F : Nat} {r : Int32} {h' : xv_H} {d0 d1 d2 : Option Value} {h : xv_H} (e : b185_56 F h = some (r, h')) : xx sc 185 56 [d0, d1, d2] [] h (fun v g => v = some (.int r) ∧ g = h') := by
  unfold b185_56 at e
  refine xo_iconstV (x := (-1)) rfl (by decide) ?_
  exact t185_57 e
def b185_43 (F : Nat) (l0 : Option Nat) (l1 : Int32) (l2 : Int32) : xm Int32 := mb (nn l0) fun v1 => mb (gr 901 v1) fun v2 => mb (nn v2) fun v3 => mb (ll v3 l1) fun v4 => mb (m148 F v4 l2) fun v5 => b185_57 F v5
theorem t185_43 {sc : Nat × (Nat → Int32)} {F : Nat} {r : Int32} {h' : xv_H} {l0 : Option Nat} {l1 : Int32} {l2 : Int32} {h : xv_H} (e : b185_43 F l0 l1 l2 h = some (r, h')) : xx sc 185 43 [some (va_rf l0), some (.int l1), some (.int l2)] [] h (fun v g => v = some (.int r) ∧ g = h') := by
  unfold b185_43 at e
  refine xo_aload_nQ (w := l0) rfl rfl ?_
  refine d_nn e (fun v1 g e1 => ?_)
  subst g
  replace e := e1
  clear e1
  refine d_getr rfl e (fun v2 e => ?_)
  refine xo_iload_n rfl rfl ?_
  refine d_nn e (fun v3 g e1 => ?_)
  subst g
  replace e := e1
  clear e1
  refine d_lald rfl e (fun v4 e => ?_)
  refine xo_iload_n rfl rfl ?_
  refine d_static_i (av := [.long v4, .int l2]) (rest := []) rfl ⟨by decide, by decide, by decide⟩ rfl rfl (by simp [xv_fit, va_rf_cat, cat_int, cat_long, cat_ref, cat_null, show xt_mx 148 = 3 from rfl, show xt_lg 148 = [0] from rfl]) (by simp [xv_room, va_rf_cat, cat_int, cat_long, cat_ref, cat_null]) (fun x0 h1 e1 => t148 e1) e (fun v5 h e => ?_)
  refine xo_goto rfl rfl ?_
  exact t185_57 e
def b185_31 (F : Nat) (s0 : Int32) (s1 : Option Nat) (s2 : Int32) (s3 : Int32) (l0 : Option Nat) (l1 : Int32) (l2 : Int32) : xm Int32 := mb (nn s1) fun v1 => mb (ll v1 s0) fun v2 => mb (m146 F v2) fun v3 => mb (m127 F s3 s2 (v3 - (1 : Int32))) fun v4 => if v4 = 0 then b185_56 F else b185_43 F l0 l1 l2
theorem t185_31 {sc : Nat × (Nat → Int32)} {F : Nat} {r : Int32} {h' : xv_H} {s0 : Int32} {s1 : Option Nat} {s2 : Int32} {s3 : Int32} {l0 : Option Nat} {l1 : Int32} {l2 : Int32} {h : xv_H} (e : b185_31 F s0 s1 s2 s3 l0 l1 l2 h = some (r, h')) : xx sc 185 31 [some (va_rf l0), some (.int l1), some (.int l2)] [.int s0, va_rf s1, .int s2, .int s3] h (fun v g => v = some (.int r) ∧ g = h') := by
  unfold b185_31 at e
  refine d_nn e (fun v1 g e1 => ?_)
  subst g
  replace e := e1
  clear e1
  refine d_lald rfl e (fun v2 e => ?_)
  refine d_static_i (av := [.long v2]) (rest := [.int s2, .int s3]) rfl ⟨by decide, by decide, by decide⟩ rfl rfl (by simp [xv_fit, va_rf_cat, cat_int, cat_long, cat_ref, cat_null, show xt_mx 146 = 2 from rfl, show xt_lg 146 = [0] from rfl]) (by simp [xv_room, va_rf_cat, cat_int, cat_long, cat_ref, cat_null]) (fun x0 h1 e1 => t146 e1) e (fun v3 h e => ?_)
  refine xo_iconstV (x := 1) rfl (by decide) ?_
  refine xo_isub rfl ?_
  refine d_static_i (av := [.int s3, .int s2, .int (v3 - (1 : Int32))]) (rest := []) rfl ⟨by decide, by decide, by decide⟩ rfl rfl (by simp [xv_fit, va_rf_cat, cat_int, cat_long, cat_ref, cat_null, show xt_mx 127 = 3 from rfl, show xt_lg 127 = [] from rfl]) (by simp [xv_room, va_rf_cat, cat_int, cat_long, cat_ref, cat_null]) (fun x0 h1 e1 => t127 e1) e (fun v4 h e => ?_)
  refine d_if_eq rfl rfl e (fun _ e => ?_) (fun _ e => ?_)
  · exact t185_56 e
  · exact t185_43 e
def b185_30 (F : Nat) (s0 : Option Nat) (s1 : Int32) (s2 : Int32) (l0 : Option Nat) (l1 : Int32) (l2 : Int32) : xm Int32 := b185_31 F l1 s0 s1 s2 l0 l1 l2
theorem t185_30 {sc : Nat × (Nat → Int32)} {F : Nat} {r : Int32} {h' : xv_H} {s0 : Option Nat} {s1 : Int32} {s2 : Int32} {l0 : Option Nat} {l1 : Int32} {l2 : Int32} {h : xv_H} (e : b185_30 F s0 s1 s2 l0 l1 l2 h = some (r, h')) : xx sc 185 30 [some (va_rf l0), some (.int l1), some (.int l2)] [va_rf s0, .int s1, .int s2] h (fun v g => v = some (.int r) ∧ g = h') := by
  unfold b185_30 at e
  refine xo_iload_n rfl rfl ?_
  exact t185_31 e
def b185_26 (F : Nat) (s0 : Option Nat) (s1 : Int32) (s2 : Int32) (l0 : Option Nat) (l1 : Int32) (l2 : Int32) : xm Int32 := b185_31 F (0 : Int32) s0 s1 s2 l0 l1 l2
theorem t185_26 {sc : Nat × (Nat → Int32)} {F : Nat} {r : Int32} {h' : xv_H} {s0 : Option Nat} {s1 : Int32} {s2 : Int32} {l0 : Option Nat} {l1 : Int32} {l2 : Int32} {h : xv_H} (e : b185_26 F s0 s1 s2 l0 l1 l2 h = some (r, h')) : xx sc 185 26 [some (va_rf l0), some (.int l1), some (.int l2)] [va_rf s0, .int s1, .int s2] h (fun v g => v = some (.int r) ∧ g = h') := by
  unfold b185_26 at e
  refine xo_iconstV (x := 0) rfl (by decide) ?_
  refine xo_goto rfl rfl ?_
  exact t185_31 e
def b185_20 (F : Nat) (s0 : Option Nat) (s1 : Int32) (s2 : Int32) (l0 : Option Nat) (l1 : Int32) (l2 : Int32) : xm Int32 := if l1 ≤ (23 : Int32) then b185_30 F s0 s1 s2 l0 l1 l2 else b185_26 F s0 s1 s2 l0 l1 l2
theorem t185_20 {sc : Nat × (Nat → Int32)} {F : Nat} {r : Int32} {h' : xv_H} {s0 : Option Nat} {s1 : Int32} {s2 : Int32} {l0 : Option Nat} {l1 : Int32} {l2 : Int32} {h : xv_H} (e : b185_20 F s0 s1 s2 l0 l1 l2 h = some (r, h')) : xx sc 185 20 [some (va_rf l0), some (.int l1), some (.int l2)] [va_rf s0, .int s1, .int s2] h (fun v g => v = some (.int r) ∧ g = h') := by
  unfold b185_20 at e
  refine xo_iload_n rfl rfl ?_
  refine xo_bipushV (x := 23) rfl (by decide) ?_
  refine d_icmp_le rfl rfl e (fun _ e => ?_) (fun _ e => ?_)
  · exact t185_30 e
  · exact t185_26 e
def b185_10 (F : Nat) (l0 : Option Nat) (l1 : Int32) (l2 : Int32) : xm Int32 := mb (nn l0) fun v1 => mb (gr 901 v1) fun v2 => if l1 < 0 then b185_26 F v2 (0 : Int32) l2 (some v1) l1 l2 else b185_20 F v2 (0 : Int32) l2 (some v1) l1 l2
theorem t185_10 {sc : Nat × (Nat → Int32)} {F : Nat} {r : Int32} {h' : xv_H} {l0 : Option Nat} {l1 : Int32} {l2 : Int32} {h : xv_H} (e : b185_10 F l0 l1 l2 h = some (r, h')) : xx sc 185 10 [some (va_rf l0), some (.int l1), some (.int l2)] [] h (fun v g => v = some (.int r) ∧ g = h') := by
  unfold b185_10 at e
  refine xo_iload_n rfl rfl ?_
  refine xo_iconstV (x := 0) rfl (by decide) ?_
  refine xo_aload_nQ (w := l0) rfl rfl ?_
  refine d_nn e (fun v1 g e1 => ?_)
  subst g
  replace e := e1
  clear e1
  refine d_getr rfl e (fun v2 e => ?_)
  refine xo_iload_n rfl rfl ?_
  refine d_if_lt rfl rfl e (fun _ e => ?_) (fun _ e => ?_)
  · exact t185_26 e
  · exact t185_20 e
def b185_0 (F : Nat) (l0 : Option Nat) (l1 : Int32) (l2 : Int32) : xm Int32 := mb (m127 F l1 (0 : Int32) (23 : Int32)) fun v1 => if v1 = 0 then b185_56 F else b185_10 F l0 l1 l2
theorem t185_0 {sc : Nat × (Nat → Int32)} {F : Nat} {r : Int32} {h' : xv_H} {l0 : Option Nat} {l1 : Int32} {l2 : Int32} {h : xv_H} (e : b185_0 F l0 l1 l2 h = some (r, h')) : xx sc 185 0 [some (va_rf l0), some (.int l1), some (.int l2)] [] h (fun v g => v = some (.int r) ∧ g = h') := by
  unfold b185_0 at e
  refine xo_iload_n rfl rfl ?_
  refine xo_iconstV (x := 0) rfl (by decide) ?_
  refine xo_bipushV (x := 23) rfl (by decide) ?_
  refine d_static_i (av := [.int l1, .int (0 : Int32), .int (23 : Int32)]) (rest := []) rfl ⟨by decide, by decide, by decide⟩ rfl rfl (by simp [xv_fit, va_rf_cat, cat_int, cat_long, cat_ref, cat_null, show xt_mx 127 = 3 from rfl, show xt_lg 127 = [] from rfl]) (by simp [xv_room, va_rf_cat, cat_int, cat_long, cat_ref, cat_null]) (fun x0 h1 e1 => t127 e1) e (fun v1 h e => ?_)
  refine d_if_eq rfl rfl e (fun _ e => ?_) (fun _ e => ?_)
  · exact t185_56 e
  · exact t185_10 e
def m185 (F : Nat) (this : Nat) (p0 : Int32) (p1 : Int32) : xm Int32 := b185_0 F (some this) p0 p1
theorem t185 {sc : Nat × (Nat → Int32)} {F : Nat} {this : Nat} {p0 : Int32} {p1 : Int32} {h : xv_H} {r : Int32} {h' : xv_H} (e : m185 F this p0 p1 h = some (r, h')) : xr sc 185 [.ref this, .int p0, .int p1] h (fun v g => v = some (.int r) ∧ g = h') := by
  have e0 : xv_ent (xt_mx 185) [.ref this, .int p0, .int p1] = [some (va_rf (some this)), some (.int p0), some (.int p1)] := by simp [xv_ent, xv_sl, va_rf_cat, cat_int, cat_long, cat_ref, cat_null, va_rf_some, show xt_mx 185 = 3 from rfl]
  unfold xr
  rw [e0]
  exact t185_0 e
-- CellTreeModel.item(II)I
def b186_77 (F : Nat) (s0 : Int32) : xm Int32 := mr s0
theorem t186_77 {sc : Nat × (Nat → Int32)} {F : Nat} {r : Int32} {h' : xv_H} {s0 : Int32} {d0 d1 d2 d3 d4 : Option Value} {h : xv_H} (e : b186_77 F s0 h = some (r, h')) : xx sc 186 77 [d0, d1, d2, d3, d4] [.int s0] h (fun v g => v = some (.int r) ∧ g = h') := by
  unfold b186_77 at e
  exact d_iret rfl e
def b186_76 (F : Nat) : xm Int32 := b186_77 F (0 : Int32)
theorem t186_76 {sc : Nat × (Nat → Int32)} {F : Nat} {r : Int32} {h' : xv_H} {d0 d1 d2 d3 d4 : Option Value} {h : xv_H} (e : b186_76 F h = some (r, h')) : xx sc 186 76 [d0, d1, d2, d3, d4] [] h (fun v g => v = some (.int r) ∧ g = h') := by
  unfold b186_76 at e
  refine xo_iconstV (x := 0) rfl (by decide) ?_
  exact t186_77 e
def b186_63 (F : Nat) (l0 : Option Nat) (l1 : Int32) (l2 : Int32) : xm Int32 := mb (nn l0) fun v1 => mb (gr 903 v1) fun v2 => mb (nn v2) fun v3 => mb (li v3 (((3 : Int32) * l1) + l2)) fun v4 => b186_77 F v4
theorem t186_63 {sc : Nat × (Nat → Int32)} {F : Nat} {r : Int32} {h' : xv_H} {l0 : Option Nat} {l1 : Int32} {l2 : Int32} {d3 d4 : Option Value} {h : xv_H} (e : b186_63 F l0 l1 l2 h = some (r, h')) : xx sc 186 63 [some (va_rf l0), some (.int l1), some (.int l2), d3, d4] [] h (fun v g => v = some (.int r) ∧ g = h') := by
  unfold b186_63 at e
  refine xo_aload_nQ (w := l0) rfl rfl ?_
  refine d_nn e (fun v1 g e1 => ?_)
  subst g
  replace e := e1
  clear e1
  refine d_getr rfl e (fun v2 e => ?_)
  refine xo_iconstV (x := 3) rfl (by decide) ?_
  refine xo_iload_n rfl rfl ?_
  refine xo_imul rfl ?_
  refine xo_iload_n rfl rfl ?_
  refine xo_iadd rfl ?_
  refine d_nn e (fun v3 g e1 => ?_)
  subst g
  replace e := e1
  clear e1
  refine d_iald rfl e (fun v4 e => ?_)
  refine xo_goto rfl rfl ?_
  exact t186_77 e
def b186_49 (F : Nat) (l0 : Option Nat) (l1 : Int32) (l2 : Int32) (l3 : Int64) : xm Int32 := mb (m146 F l3) fun v1 => mb (m127 F l2 (0 : Int32) (v1 - (1 : Int32))) fun v2 => if v2 = 0 then b186_76 F else b186_63 F l0 l1 l2
theorem t186_49 {sc : Nat × (Nat → Int32)} {F : Nat} {r : Int32} {h' : xv_H} {l0 : Option Nat} {l1 : Int32} {l2 : Int32} {l3 : Int64} {d4 : Option Value} {h : xv_H} (e : b186_49 F l0 l1 l2 l3 h = some (r, h')) : xx sc 186 49 [some (va_rf l0), some (.int l1), some (.int l2), some (.long l3), d4] [] h (fun v g => v = some (.int r) ∧ g = h') := by
  unfold b186_49 at e
  refine xo_iload_n rfl rfl ?_
  refine xo_iconstV (x := 0) rfl (by decide) ?_
  refine xo_lload_n rfl rfl ?_
  refine d_static_i (av := [.long l3]) (rest := [.int (0 : Int32), .int l2]) rfl ⟨by decide, by decide, by decide⟩ rfl rfl (by simp [xv_fit, va_rf_cat, cat_int, cat_long, cat_ref, cat_null, show xt_mx 146 = 2 from rfl, show xt_lg 146 = [0] from rfl]) (by simp [xv_room, va_rf_cat, cat_int, cat_long, cat_ref, cat_null]) (fun x0 h1 e1 => t146 e1) e (fun v1 h e => ?_)
  refine xo_iconstV (x := 1) rfl (by decide) ?_
  refine xo_isub rfl ?_
  refine d_static_i (av := [.int l2, .int (0 : Int32), .int (v1 - (1 : Int32))]) (rest := []) rfl ⟨by decide, by decide, by decide⟩ rfl rfl (by simp [xv_fit, va_rf_cat, cat_int, cat_long, cat_ref, cat_null, show xt_mx 127 = 3 from rfl, show xt_lg 127 = [] from rfl]) (by simp [xv_room, va_rf_cat, cat_int, cat_long, cat_ref, cat_null]) (fun x0 h1 e1 => t127 e1) e (fun v2 h e => ?_)
  refine d_if_eq rfl rfl e (fun _ e => ?_) (fun _ e => ?_)
  · exact t186_76 e
  · exact t186_63 e
def b186_48 (F : Nat) (s0 : Int32) : xm Int32 := mr s0
theorem t186_48 {sc : Nat × (Nat → Int32)} {F : Nat} {r : Int32} {h' : xv_H} {s0 : Int32} {d0 d1 d2 d3 d4 : Option Value} {h : xv_H} (e : b186_48 F s0 h = some (r, h')) : xx sc 186 48 [d0, d1, d2, d3, d4] [.int s0] h (fun v g => v = some (.int r) ∧ g = h') := by
  unfold b186_48 at e
  exact d_iret rfl e
def b186_47 (F : Nat) : xm Int32 := b186_48 F (0 : Int32)
theorem t186_47 {sc : Nat × (Nat → Int32)} {F : Nat} {r : Int32} {h' : xv_H} {d0 d1 d2 d3 d4 : Option Value} {h : xv_H} (e : b186_47 F h = some (r, h')) : xx sc 186 47 [d0, d1, d2, d3, d4] [] h (fun v g => v = some (.int r) ∧ g = h') := by
  unfold b186_47 at e
  refine xo_iconstV (x := 0) rfl (by decide) ?_
  exact t186_48 e
def b186_39 (F : Nat) (l2 : Int32) (l3 : Int64) : xm Int32 := mb (m152 F l3 l2) fun v1 => b186_48 F v1
theorem t186_39 {sc : Nat × (Nat → Int32)} {F : Nat} {r : Int32} {h' : xv_H} {l2 : Int32} {l3 : Int64} {d0 d1 d4 : Option Value} {h : xv_H} (e : b186_39 F l2 l3 h = some (r, h')) : xx sc 186 39 [d0, d1, some (.int l2), some (.long l3), d4] [] h (fun v g => v = some (.int r) ∧ g = h') := by
  unfold b186_39 at e
  refine xo_lload_n rfl rfl ?_
  refine xo_iload_n rfl rfl ?_
  refine d_static_i (av := [.long l3, .int l2]) (rest := []) rfl ⟨by decide, by decide, by decide⟩ rfl rfl (by simp [xv_fit, va_rf_cat, cat_int, cat_long, cat_ref, cat_null, show xt_mx 152 = 3 from rfl, show xt_lg 152 = [0] from rfl]) (by simp [xv_room, va_rf_cat, cat_int, cat_long, cat_ref, cat_null]) (fun x0 h1 e1 => t152 e1) e (fun v1 h e => ?_)
  refine xo_goto rfl rfl ?_
  exact t186_48 e
def b186_27 (F : Nat) (l2 : Int32) (l3 : Int64) : xm Int32 := mb (m146 F l3) fun v1 => mb (m127 F l2 (0 : Int32) v1) fun v2 => if v2 = 0 then b186_47 F else b186_39 F l2 l3
theorem t186_27 {sc : Nat × (Nat → Int32)} {F : Nat} {r : Int32} {h' : xv_H} {l2 : Int32} {l3 : Int64} {d0 d1 d4 : Option Value} {h : xv_H} (e : b186_27 F l2 l3 h = some (r, h')) : xx sc 186 27 [d0, d1, some (.int l2), some (.long l3), d4] [] h (fun v g => v = some (.int r) ∧ g = h') := by
  unfold b186_27 at e
  refine xo_iload_n rfl rfl ?_
  refine xo_iconstV (x := 0) rfl (by decide) ?_
  refine xo_lload_n rfl rfl ?_
  refine d_static_i (av := [.long l3]) (rest := [.int (0 : Int32), .int l2]) rfl ⟨by decide, by decide, by decide⟩ rfl rfl (by simp [xv_fit, va_rf_cat, cat_int, cat_long, cat_ref, cat_null, show xt_mx 146 = 2 from rfl, show xt_lg 146 = [0] from rfl]) (by simp [xv_room, va_rf_cat, cat_int, cat_long, cat_ref, cat_null]) (fun x0 h1 e1 => t146 e1) e (fun v1 h e => ?_)
  refine d_static_i (av := [.int l2, .int (0 : Int32), .int v1]) (rest := []) rfl ⟨by decide, by decide, by decide⟩ rfl rfl (by simp [xv_fit, va_rf_cat, cat_int, cat_long, cat_ref, cat_null, show xt_mx 127 = 3 from rfl, show xt_lg 127 = [] from rfl]) (by simp [xv_room, va_rf_cat, cat_int, cat_long, cat_ref, cat_null]) (fun x0 h1 e1 => t127 e1) e (fun v2 h e => ?_)
  refine d_if_eq rfl rfl e (fun _ e => ?_) (fun _ e => ?_)
  · exact t186_47 e
  · exact t186_39 e
def b186_12 (F : Nat) (l0 : Option Nat) (l1 : Int32) (l2 : Int32) : xm Int32 := mb (nn l0) fun v1 => mb (gr 901 v1) fun v2 => mb (nn v2) fun v3 => mb (ll v3 l1) fun v4 => mb (m134 F v4) fun v5 => if ¬ v5 = (2 : Int32) then b186_49 F (some v1) l1 l2 v4 else b186_27 F l2 v4
theorem t186_12 {sc : Nat × (Nat → Int32)} {F : Nat} {r : Int32} {h' : xv_H} {l0 : Option Nat} {l1 : Int32} {l2 : Int32} {d3 d4 : Option Value} {h : xv_H} (e : b186_12 F l0 l1 l2 h = some (r, h')) : xx sc 186 12 [some (va_rf l0), some (.int l1), some (.int l2), d3, d4] [] h (fun v g => v = some (.int r) ∧ g = h') := by
  unfold b186_12 at e
  refine xo_aload_nQ (w := l0) rfl rfl ?_
  refine d_nn e (fun v1 g e1 => ?_)
  subst g
  replace e := e1
  clear e1
  refine d_getr rfl e (fun v2 e => ?_)
  refine xo_iload_n rfl rfl ?_
  refine d_nn e (fun v3 g e1 => ?_)
  subst g
  replace e := e1
  clear e1
  refine d_lald rfl e (fun v4 e => ?_)
  refine xo_lstore_n rfl (Nat.le_of_ble_eq_true rfl) rfl rfl ?_
  refine xo_lload_n rfl rfl ?_
  refine d_static_i (av := [.long v4]) (rest := []) rfl ⟨by decide, by decide, by decide⟩ rfl rfl (by simp [xv_fit, va_rf_cat, cat_int, cat_long, cat_ref, cat_null, show xt_mx 134 = 2 from rfl, show xt_lg 134 = [0] from rfl]) (by simp [xv_room, va_rf_cat, cat_int, cat_long, cat_ref, cat_null]) (fun x0 h1 e1 => t134 e1) e (fun v5 h e => ?_)
  refine xo_iconstV (x := 2) rfl (by decide) ?_
  refine d_icmp_ne rfl rfl e (fun _ e => ?_) (fun _ e => ?_)
  · exact t186_49 e
  · exact t186_27 e
def b186_10 (F : Nat) : xm Int32 := mr (0 : Int32)
theorem t186_10 {sc : Nat × (Nat → Int32)} {F : Nat} {r : Int32} {h' : xv_H} {d0 d1 d2 d3 d4 : Option Value} {h : xv_H} (e : b186_10 F h = some (r, h')) : xx sc 186 10 [d0, d1, d2, d3, d4] [] h (fun v g => v = some (.int r) ∧ g = h') := by
  unfold b186_10 at e
  refine xo_iconstV (x := 0) rfl (by decide) ?_
  exact d_iret rfl e
def b186_0 (F : Nat) (l0 : Option Nat) (l1 : Int32) (l2 : Int32) : xm Int32 := mb (m127 F l1 (0 : Int32) (23 : Int32)) fun v1 => if ¬ v1 = 0 then b186_12 F l0 l1 l2 else b186_10 F
theorem t186_0 {sc : Nat × (Nat → Int32)} {F : Nat} {r : Int32} {h' : xv_H} {l0 : Option Nat} {l1 : Int32} {l2 : Int32} {d3 d4 : Option Value} {h : xv_H} (e : b186_0 F l0 l1 l2 h = some (r, h')) : xx sc 186 0 [some (va_rf l0), some (.int l1), some (.int l2), d3, d4] [] h (fun v g => v = some (.int r) ∧ g = h') := by
  unfold b186_0 at e
  refine xo_iload_n rfl rfl ?_
  refine xo_iconstV (x := 0) rfl (by decide) ?_
  refine xo_bipushV (x := 23) rfl (by decide) ?_
  refine d_static_i (av := [.int l1, .int (0 : Int32), .int (23 : Int32)]) (rest := []) rfl ⟨by decide, by decide, by decide⟩ rfl rfl (by simp [xv_fit, va_rf_cat, cat_int, cat_long, cat_ref, cat_null, show xt_mx 127 = 3 from rfl, show xt_lg 127 = [] from rfl]) (by simp [xv_room, va_rf_cat, cat_int, cat_long, cat_ref, cat_null]) (fun x0 h1 e1 => t127 e1) e (fun v1 h e => ?_)
  refine d_if_ne rfl rfl e (fun _ e => ?_) (fun _ e => ?_)
  · exact t186_12 e
  · exact t186_10 e
def m186 (F : Nat) (this : Nat) (p0 : Int32) (p1 : Int32) : xm Int32 := b186_0 F (some this) p0 p1
theorem t186 {sc : Nat × (Nat → Int32)} {F : Nat} {this : Nat} {p0 : Int32} {p1 : Int32} {h : xv_H} {r : Int32} {h' : xv_H} (e : m186 F this p0 p1 h = some (r, h')) : xr sc 186 [.ref this, .int p0, .int p1] h (fun v g => v = some (.int r) ∧ g = h') := by
  have e0 : xv_ent (xt_mx 186) [.ref this, .int p0, .int p1] = [some (va_rf (some this)), some (.int p0), some (.int p1), none, none] := by simp [xv_ent, xv_sl, va_rf_cat, cat_int, cat_long, cat_ref, cat_null, va_rf_some, show xt_mx 186 = 5 from rfl]
  unfold xr
  rw [e0]
  exact t186_0 e
